/-! ===== copy() of the model, and the calls that only look ===== -/
section MMT
variable {L : Nat} {xs : Nat → Int32} {d : Nat} {Q : mm_QQ} {mi : mm_P} {ml : mm_G} {lim : Nat × Nat}
theorem sp_copy {NB ND NF : Nat} {x1 x2 : Int32} (hI : IM mi NB ND NF) (hQ : ∀ w v, PR mi w → Q (some (mm_I v)) w ml) : mm_cq (mm_call mm_ms (mm_tb L xs) (d + 11)) 210 [mm_R 176, mm_I x1, mm_I x2] mi ml Q := by
  refine en_X12_copy (bk_X12_copy_0 (mm_call_m _) (sp_in (fun _ _ => bk_X12_copy_6 (s0 := 1) (mm_call_m _) (fun _ => ?_) (fun z => absurd z (by decide))) (fun _ => bk_X12_copy_6 (s0 := 0) (mm_call_m _) (fun z => absurd rfl z) (fun _ => hQ mi _ PR_r))))
  refine sp_findCopies hI (fun w v hp hv => ?_)
  have h33 : mm_WQ (mm_call mm_ms (mm_tb L xs) (d + 10)) (mm_tb L xs) mm_m210 (mm_li mm_m210) Q 33 [some (mm_R 176), some (mm_I x1), some (mm_I x2), none] [] w ml := bk_X12_copy_33 (mm_call_m _) (hQ w _ hp)
  refine bk_X12_copy_16 (mm_call_m _) (fun _ => h33) (fun z => ?_)
  obtain ⟨TY, C, hF, hvC⟩ : ∃ TY C, FI NB ND NF TY C w ∧ v = nI C := hv.resolve_left (fun q => z (by rw [Int32.lt_iff_toInt_lt, mm_tt0]; exact q))
  obtain ⟨hIw, hJ, hT, hC, hl, hN⟩ := id hF
  have hC60 := hC.2.1
  have hNB := hI.1.1
  have hNF := hI.1.2.2
  have e31 : (w 176 31).toInt = C := by rw [hC.1]; exact mm_tI (by omega)
  refine sp_in (fun a b => ?_) (fun _ => bk_X12_copy_30 (s0 := 0) (mm_call_m _) (fun z => absurd rfl z) (fun z => absurd rfl z) (fun z => absurd rfl z) (fun z => absurd rfl z) (fun z => absurd rfl z) (fun z => absurd rfl z) (fun z => absurd rfl z) (fun z => absurd rfl z) (fun z => absurd rfl z) (fun z => absurd rfl z) (fun z => absurd rfl z) (fun z => absurd rfl z) (fun z => absurd rfl z) (fun z => absurd rfl z) (fun z => absurd rfl z) (fun z => absurd rfl z) (fun z => absurd rfl z) (fun z => absurd rfl z) (fun z => absurd rfl z) (fun z => absurd rfl z) (fun z => absurd rfl z) (fun z => absurd rfl z) (fun _ => h33))
  rw [mm_sub1 (by omega), e31] at b
  rw [mm_tt0] at a
  obtain ⟨c, rfl, c2, -, c4⟩ := mm_of (n := C) a (by omega)
  have vc : vp_in (nI c) 60 := vp_in_nI (by omega) (by decide)
  obtain ⟨f, f1, f2, f3, f4, f5, f6, f7⟩ := hC.2.2 c (by omega)
  have hfN : f < NF := (hJ.2.2.1 f f1 f2).1
  have vf : vp_in (nI f) 12 := vp_in_nI f1 (by decide)
  have ef : (nI f).toNatClampNeg = f := nI_clamp (by omega)
  obtain ⟨o1, ⟨t, o2, o3, o4⟩, ⟨u, o5, o6, o7⟩, o8⟩ := hIw.2.2.2.2.2.1 f hfN
  have hput : ∀ (Q' : mm_QQ) (x : Nat), x < NB → wthn w x (w 194 f) → (∀ n r, PR mi n → r < 8000 → Q' (some (mm_I (nI r))) n ml) → mm_cq (mm_call mm_ms (mm_tb L xs) (d + 10)) 181 [mm_R 176, mm_I (nI x), mm_I (w 205 c), mm_I (w 206 c)] w ml Q' := fun Q' x hx hw hq => by
    refine sp_put hT hIw.2.2.2.1 hx (fun z => ?_) (fun z => ?_) (by omega) (fun n r TZ a1 a2 a3 a4 a5 a6 a7 => hq n r (PR_t hp (PR_mkp a6 hT.2.1.1)) (vd_lt a4 hNB.2 a1.2.1.2))
    · obtain ⟨q, q1, q2⟩ := f6 (hw.1.resolve_left z)
      exact ⟨q, q1, q2⟩
    · obtain ⟨q, q1, q2⟩ := f7 (hw.2.resolve_left z)
      exact ⟨q, q1, q2⟩
  have hn : ∀ v, Q (some (mm_I v)) w ml := fun v => hQ w v hp
  refine bk_X12_copy_30 (s0 := 1) (mm_call_m _) (fun _ => vc) (fun _ _ => hn _) (fun _ _ => vc) (fun _ _ => vc) (fun _ _ _ => sp_named (fun v => bk_X12_copy_103 (mm_call_m _) (hn v))) (fun _ _ _ => sp_named (fun v => bk_X12_copy_103 (mm_call_m _) (hn v))) (fun _ _ => vc) (fun _ _ => vc) (fun _ _ _ => sp_named (fun v => bk_X12_copy_129 (mm_call_m _) (hn v))) (fun _ _ _ => sp_named (fun v => bk_X12_copy_129 (mm_call_m _) (hn v))) (fun _ _ => ?_) (fun _ _ => vc) (fun _ _ => vc) (fun _ _ => ?_) (fun _ _ => ?_) (fun _ _ => vc) (fun _ _ => vc) (fun _ _ => ?_) (fun _ _ _ _ _ _ => ?_) (fun _ _ _ _ _ _ => vc) (fun _ _ _ _ _ _ => vc) (fun _ _ _ _ _ _ => ?_) (fun z => absurd z (by decide)) <;> rw [c4, f3]
  · exact vf
  · rw [ef, o3]
    exact hput _ t o2 o4 (fun n r a1 a2 => bk_X12_copy_156 (mm_call_m _) (vp_in_nI a2 (by decide)) (hQ n _ a1))
  · exact vf
  · rw [ef, o6]
    exact hput _ u o5 o7 (fun n r a1 a2 => bk_X12_copy_184 (mm_call_m _) (vp_in_nI a2 (by decide)) (hQ n _ a1))
  · exact vf
  · rw [ef, o3]
    exact hput _ t o2 o4 (fun n r a1 a2 => bk_X12_copy_209 (mm_call_m _) (sp_named (fun v => bk_X12_copy_213 (mm_call_m _) (hQ n v a1))))
theorem sp_typ {NB ND NF : Nat} {x : Int32} (hI : IM mi NB ND NF) (h1 : ∀ t, t < NB → x = nI t → Q (some (mm_I 1)) mi ml) (h0 : (∀ t, t < NB → ¬ x = nI t) → Q (some (mm_I 0)) mi ml) : mm_cq (mm_call mm_ms (mm_tb L xs) (d + 2)) 174 [mm_R 176, mm_I x] mi ml Q := by
  have hNB := hI.1.1
  have e : (mi 176 0).toInt = NB := by
    rw [hI.2.1.1]
    exact mm_tI (by omega)
  refine sp_X12_isType (by omega) (fun a b => ?_) (fun a => h0 (fun f hf z => a ?_))
  · obtain ⟨f, f1, f2, f3, f4⟩ := mm_of a b
    exact h1 f (by omega) f1
  · rw [z, e, mm_tI (by omega)]
    omega
theorem sp_typeOf {t : Nat} {x2 : Int32} (ht : t < 8000) (hQ : ∀ v, Q (some (mm_I v)) mi ml) : mm_cq (mm_call mm_ms (mm_tb L xs) (d + 1)) 178 [mm_R 176, mm_I (nI t), mm_I x2] mi ml Q := by
  have v : vp_in (nI t) 8000 := vp_in_nI ht (by decide)
  exact en_X12_typeOf (bk_X12_typeOf_0 (mm_call_m _) (fun _ => v) (fun _ => hQ _) (fun _ => v) (fun _ => hQ _) (fun _ => v) (fun _ => hQ _) (fun _ => v) (fun _ => hQ _) (fun _ => v) (fun _ => hQ _) (fun _ _ _ _ _ => v) (fun _ _ _ _ _ _ => v) (fun _ _ _ _ _ _ _ => hQ _) (fun _ _ _ _ _ _ _ => hQ _) (fun _ _ _ _ _ _ => v) (fun _ _ _ _ _ _ _ => hQ _) (fun _ _ _ _ _ _ _ => hQ _))
theorem sp_type {NB ND NF : Nat} {x1 x2 : Int32} (hI : IM mi NB ND NF) (hQ : ∀ v, Q (some (mm_I v)) mi ml) : mm_cq (mm_call mm_ms (mm_tb L xs) (d + 3)) 179 [mm_R 176, mm_I x1, mm_I x2] mi ml Q := by
  have hNB := hI.1.1
  have h26 : mm_WQ (mm_call mm_ms (mm_tb L xs) (d + 2)) (mm_tb L xs) mm_m179 (mm_li mm_m179) Q 26 [some (mm_R 176), some (mm_I x1), some (mm_I x2)] [] mi ml := bk_X12_type_26 (mm_call_m _) (hQ _)
  refine en_X12_type (bk_X12_type_0 (mm_call_m _) (sp_typ hI (fun t t1 t2 => bk_X12_type_5 (s0 := 1) (mm_call_m _) (fun z => absurd z (by decide)) (fun _ => sp_in (fun _ _ => bk_X12_type_14 (s0 := 1) (mm_call_m _) (fun z => absurd z (by decide)) (fun _ => ?_)) (fun _ => bk_X12_type_14 (s0 := 0) (mm_call_m _) (fun _ => h26) (fun z => absurd rfl z)))) (fun _ => bk_X12_type_5 (s0 := 0) (mm_call_m _) (fun _ => h26) (fun z => absurd rfl z))))
  rw [t2]
  exact sp_typeOf (by omega) (fun v => bk_X12_type_23 (mm_call_m _) (hQ v))
theorem sp_result {x1 : Int32} (h : 0 ≤ (mi 176 51).toInt ∧ (mi 176 51).toInt ≤ 100) (hQ : ∀ v, Q (some (mm_I v)) mi ml) : mm_cq (mm_call mm_ms (mm_tb L xs) (d + 2)) 231 [mm_R 176, mm_I x1] mi ml Q := by
  have h30 : mm_WQ (mm_call mm_ms (mm_tb L xs) (d + 1)) (mm_tb L xs) mm_m231 (mm_li mm_m231) Q 30 [some (mm_R 176), some (mm_I x1)] [] mi ml := bk_X12_result_30 (mm_call_m _) (hQ _)
  refine en_X12_result (bk_X12_result_0 (mm_call_m _) (fun _ => h30) (fun _ => sp_in (fun a b => bk_X12_result_18 (s0 := 1) (mm_call_m _) (fun z => absurd z (by decide)) (fun _ => ?_) (fun _ => hQ _)) (fun _ => bk_X12_result_18 (s0 := 0) (mm_call_m _) (fun _ => h30) (fun z => absurd rfl z) (fun z => absurd rfl z))))
  rw [mm_tt0] at a
  rw [mm_sub1 h.1] at b
  exact mm_vpr (by omega)
theorem sp_told {x1 : Int32} (hQ : ∀ v, Q (some (mm_I v)) mi ml) : mm_cq (mm_call mm_ms (mm_tb L xs) (d + 1)) 232 [mm_R 176, mm_I x1] mi ml Q :=
  en_X12_told (bk_X12_told_0 (mm_call_m _) (fun _ _ => hQ _) (fun _ _ => hQ _) (fun _ => hQ _) (fun _ => hQ _) (fun _ => hQ _) (fun _ => hQ _) (fun _ _ _ _ _ => hQ _))
theorem sp_count {x1 : Int32} (h3 : x1 = 3 → Q (some (mm_I (mi 176 41))) mi ml) (hQ : ¬ x1 = 3 → ∀ v, Q (some (mm_I v)) mi ml) : mm_cq (mm_call mm_ms (mm_tb L xs) (d + 1)) 233 [mm_R 176, mm_I x1] mi ml Q :=
  en_X12_count (bk_X12_count_0 (mm_call_m _) (fun _ _ _ z => hQ z _) (fun _ _ _ z => h3 z) (fun _ _ z => hQ (by rw [z]; decide) _) (fun _ z => hQ (by rw [z]; decide) _) (fun z => hQ (by rw [z]; decide) _))
theorem sp_input (h : 0 ≤ (mi 176 41).toInt ∧ (mi 176 41).toInt ≤ 16) {x1 : Int32} (h16 : mi 176 41 = 16 → Q (some (mm_I (-4))) mi ml) (hQ : ¬ mi 176 41 = 16 → (mi 176 41).toInt < 16 → Q (some (mm_I (mi 176 41 + 1))) (mm_u (mm_u mi 211 (mi 176 41).toNatClampNeg x1) 176 41 (mi 176 41 + 1)) ml) : mm_cq (mm_call mm_ms (mm_tb L xs) (d + 1)) 211 [mm_R 176, mm_I x1] mi ml Q := by
  have hlt : ¬ mi 176 41 = 16 → (mi 176 41).toInt < 16 := fun z => by
    by_cases q : (mi 176 41).toInt = 16
    · exact absurd (Int32.toInt_inj.mp (q.trans mm_tt16.symm)) z
    · omega
  exact en_X12_input (bk_X12_input_0 (mm_call_m _) (fun z => mm_vpr ⟨h.1, hlt z⟩) (fun z => hQ z (hlt z)) h16)
theorem sp_empty (h : Q (some (mm_I (mi 176 41))) (mm_u mi 176 41 0) ml) : mm_cq (mm_call mm_ms (mm_tb L xs) (d + 1)) 212 [mm_R 176] mi ml Q := en_X12_empty (bk_X12_empty_0 (mm_call_m _) h)
theorem sp_mixedNode {n : Nat} {h : Int64} (hn : n < 200) (hQ : ∀ v, Q (some (mm_L v)) mi ml) : mm_cq (mm_call mm_ms (mm_tb L xs) (d + 2)) 234 [mm_R 176, mm_L h, mm_I (nI n)] mi ml Q := by
  have v : vp_in (nI n) 200 := vp_in_nI hn (by decide)
  have h112 : ∀ {x4 : Int64} {x6 : Int32}, mm_WQ (mm_call mm_ms (mm_tb L xs) (d + 1)) (mm_tb L xs) mm_m234 (mm_li mm_m234) Q 112 [some (mm_R 176), some (mm_L h), none, some (mm_I (nI n)), some (mm_L x4), none, some (mm_I x6)] [] mi ml := bk_X12_mixedNode_112 (mm_call_m _) (fun _ => hQ _) (fun _ => v) (fun _ => hQ _)
  have h96 : ∀ {x4 : Int64} {x6 : Int32}, mm_WQ (mm_call mm_ms (mm_tb L xs) (d + 1)) (mm_tb L xs) mm_m234 (mm_li mm_m234) Q 96 [some (mm_R 176), some (mm_L h), none, some (mm_I (nI n)), some (mm_L x4), none, some (mm_I x6)] [] mi ml := bk_X12_mixedNode_96 (mm_call_m _) v h112
  have h80 : ∀ {x4 : Int64} {x6 : Int32}, mm_WQ (mm_call mm_ms (mm_tb L xs) (d + 1)) (mm_tb L xs) mm_m234 (mm_li mm_m234) Q 80 [some (mm_R 176), some (mm_L h), none, some (mm_I (nI n)), some (mm_L x4), none, some (mm_I x6)] [] mi ml := bk_X12_mixedNode_80 (mm_call_m _) (fun _ => h96) (fun _ => sp_X12_partsOf (bk_X12_mixedNode_92 (mm_call_m _) (fun _ => h112) (fun _ => h96)))
  have h64 : ∀ {x4 : Int64} {x6 : Int32}, mm_WQ (mm_call mm_ms (mm_tb L xs) (d + 1)) (mm_tb L xs) mm_m234 (mm_li mm_m234) Q 64 [some (mm_R 176), some (mm_L h), none, some (mm_I (nI n)), some (mm_L x4), none, some (mm_I x6)] [] mi ml := bk_X12_mixedNode_64 (mm_call_m _) v h80
  exact en_X12_mixedNode (bk_X12_mixedNode_0 (mm_call_m _) v v (fun _ => v) (fun _ _ => h64) (fun _ _ => sp_X12_partsOf (bk_X12_mixedNode_60 (mm_call_m _) (fun _ => h80) (fun _ => h64))) (fun _ => hQ _))
theorem digest_75 {NB ND NF : Nat} (hI : IM mi NB ND NF) (hQ : ∀ v, Q (some (mm_L v)) mi ml) : ∀ (j n : Nat) {x1 : Int64} {x4 : Option mm_V}, n + j = NF → mm_WQ (mm_call mm_ms (mm_tb L xs) d) (mm_tb L xs) mm_m235 lim Q 75 [some (mm_R 176), some (mm_L x1), none, some (mm_I (nI n)), x4] [] mi ml := by
  have hNF := hI.1.2.2
  intro j
  induction j with
  | zero =>
    intro n x1 x4 h
    have hn : n = NF := by omega
    subst hn
    have hle : mi 176 20 ≤ nI n := by rw [hI.2.1.2.2]; exact Int32.le_refl _
    exact bk_X12_digest_75 (mm_call_m _) (fun _ => hQ _) (fun z => absurd hle z) (fun z => absurd hle z) (fun z => absurd hle z) (fun z => absurd hle z) (fun z => absurd hle z)
  | succ j ih =>
    intro n x1 x4 h
    have vn : vp_in (nI n) 12 := vp_in_nI (by omega) (by decide)
    refine bk_X12_digest_75 (mm_call_m _) (fun _ => hQ _) (fun _ => vn) (fun _ => vn) (fun _ => vn) (fun _ => vn) (fun _ => ?_)
    rw [show nI n + 1 = nI (n + 1) from (nI_succ n).symm]
    exact ih (n + 1) (by omega)
theorem digest_52 {NB ND NF : Nat} (hI : IM mi NB ND NF) (hQ : ∀ v, Q (some (mm_L v)) mi ml) : ∀ (j n : Nat) {x1 : Int64} {x4 : Option mm_V}, n + j = ND → mm_WQ (mm_call mm_ms (mm_tb L xs) (d + 2)) (mm_tb L xs) mm_m235 lim Q 52 [some (mm_R 176), some (mm_L x1), none, some (mm_I (nI n)), x4] [] mi ml := by
  have hND := hI.1.2.1
  have hk : ∀ {x1 : Int64} {x4 : Option mm_V}, mm_WQ (mm_call mm_ms (mm_tb L xs) (d + 2)) (mm_tb L xs) mm_m235 lim Q 75 [some (mm_R 176), some (mm_L x1), none, some (mm_I (nI 0)), x4] [] mi ml := digest_75 hI hQ NF 0 (by omega)
  intro j
  induction j with
  | zero =>
    intro n x1 x4 h
    have hn : n = ND := by omega
    subst hn
    have hle : mi 176 13 ≤ nI n := by rw [hI.2.1.2.1]; exact Int32.le_refl _
    exact bk_X12_digest_52 (mm_call_m _) (fun _ => hk) (fun z => absurd hle z)
  | succ j ih =>
    intro n x1 x4 h
    refine bk_X12_digest_52 (mm_call_m _) (fun _ => hk) (fun _ => sp_mixedNode (by omega) (fun v => bk_X12_digest_66 (mm_call_m _) ?_))
    rw [show nI n + 1 = nI (n + 1) from (nI_succ n).symm]
    exact ih (n + 1) (by omega)
theorem digest_17 {t : Nat} (ht : t < 200) {K : Prop} (hk : K) (h6 : K → ∀ {x1 : Int64} {x4 : Option mm_V}, mm_WQ (mm_call mm_ms (mm_tb L xs) (d + 2)) (mm_tb L xs) mm_m235 lim Q 6 [some (mm_R 176), some (mm_L x1), none, some (mm_I (nI t + 1)), x4] [] mi ml) : ∀ (j n : Nat) {x1 : Int64}, n + j = 4 → mm_WQ (mm_call mm_ms (mm_tb L xs) (d + 2)) (mm_tb L xs) mm_m235 lim Q 17 [some (mm_R 176), some (mm_L x1), none, some (mm_I (nI t)), some (mm_I (nI n))] [] mi ml := by
  intro j
  induction j with
  | zero =>
    intro n x1 h
    have hn : n = 4 := by omega
    subst hn
    exact bk_X12_digest_17 (mm_call_m _) (fun _ => h6 hk) (fun z => absurd (Int32.le_refl _) z)
  | succ j ih =>
    intro n x1 h
    refine bk_X12_digest_17 (mm_call_m _) (fun _ => h6 hk) (fun _ => sp_typeOf (by omega) (fun v => bk_X12_digest_35 (mm_call_m _) ?_))
    rw [show nI n + 1 = nI (n + 1) from (nI_succ n).symm]
    exact ih (n + 1) (by omega)
theorem digest_6 {NB ND NF : Nat} (hI : IM mi NB ND NF) (hQ : ∀ v, Q (some (mm_L v)) mi ml) : ∀ (j n : Nat) {x1 : Int64} {x4 : Option mm_V}, n + j = NB → mm_WQ (mm_call mm_ms (mm_tb L xs) (d + 2)) (mm_tb L xs) mm_m235 lim Q 6 [some (mm_R 176), some (mm_L x1), none, some (mm_I (nI n)), x4] [] mi ml := by
  have hNB := hI.1.1
  have hk : ∀ {x1 : Int64} {x4 : Option mm_V}, mm_WQ (mm_call mm_ms (mm_tb L xs) (d + 2)) (mm_tb L xs) mm_m235 lim Q 52 [some (mm_R 176), some (mm_L x1), none, some (mm_I (nI 0)), x4] [] mi ml := digest_52 hI hQ ND 0 (by omega)
  intro j
  induction j with
  | zero =>
    intro n x1 x4 h
    have hn : n = NB := by omega
    subst hn
    have hle : mi 176 0 ≤ nI n := by rw [hI.2.1.1]; exact Int32.le_refl _
    exact bk_X12_digest_6 (mm_call_m _) (fun _ => hk) (fun z => absurd hle z)
  | succ j ih =>
    intro n x1 x4 h
    refine bk_X12_digest_6 (mm_call_m _) (fun _ => hk) (fun _ => digest_17 (t := n) (by omega) trivial (fun _ => ?_) 4 0 (by omega))
    intro y1 y4
    rw [show nI n + 1 = nI (n + 1) from (nI_succ n).symm]
    exact ih (n + 1) (by omega)
theorem sp_digest {NB ND NF : Nat} (hI : IM mi NB ND NF) (hQ : ∀ v, Q (some (mm_L v)) mi ml) : mm_cq (mm_call mm_ms (mm_tb L xs) (d + 3)) 235 [mm_R 176] mi ml Q :=
  en_X12_digest (bk_X12_digest_0 (mm_call_m _) (digest_6 hI hQ NB 0 (by omega)))
end MMT
