/-! ===== pair(), list(), type(): exact, and alike ===== -/
section MMT
variable {L : Nat} {xs : Nat → Int32} {d : Nat} {Q : mm_QQ} {mi : mm_P} {ml : mm_G} {lim : Nat × Nat} {NB : Nat}
theorem sx_has8 {x : Int32} (h11 : mi 1 1 = nI NB) (hNB : NB ≤ 200) (h1 : ∀ t, t < NB → x = nI t → Q (some (mm_I 1)) mi ml) (h0 : (∀ t, t < NB → ¬ x = nI t) → Q (some (mm_I 0)) mi ml) : mm_cq (mm_call mm_ms (mm_tb L xs) (d + 1)) 111 [mm_R 1, mm_I x] mi ml Q := by
  have e : (mi 1 1).toInt = NB := by rw [h11]; exact mm_tI (by omega)
  refine sp_X8_has (fun a b _ => ?_) (fun a => h0 (fun t ht z => a ?_))
  · obtain ⟨t, t1, t2, t3, t4⟩ := mm_of a b
    exact h1 t (by omega) t1
  · rw [z, e, mm_tI (by omega)]
    omega
theorem sx_shapeOf {t : Nat} (h11 : mi 1 1 = nI NB) (hNB : NB ≤ 200) (ht : t < NB) (hQ : Q (some (mm_L (ml 2 t))) mi ml) : mm_cq (mm_call mm_ms (mm_tb L xs) (d + 2)) 112 [mm_R 1, mm_I (nI t)] mi ml Q := by
  refine en_X8_shapeOf (bk_X8_shapeOf_0 (mm_call_m _) (sx_has8 h11 hNB (fun u _ _ => bk_X8_shapeOf_5 (s0 := 1) (mm_call_m _) (fun z => absurd z (by decide)) (fun _ => vp_in_nI (by omega) (by decide)) (fun _ => ?_)) (fun a => absurd rfl (a t ht))))
  rw [nI_clamp (by omega)]
  exact hQ
theorem tell_10 {x : Int64} (h11 : mi 1 1 = nI NB) (hNB : NB ≤ 200) (hf : ∀ t, t < NB → ml 2 t = x → Q (some (mm_I (nI t))) mi ml) (hn : (∀ t, t < NB → ¬ ml 2 t = x) → Q (some (mm_I (-5))) mi ml) : ∀ (j i : Nat), i + j = NB → (∀ t, t < i → ¬ ml 2 t = x) → mm_WQ (mm_call mm_ms (mm_tb L xs) d) (mm_tb L xs) mm_m113 lim Q 10 [some (mm_R 1), some (mm_L x), none, some (mm_I (nI i))] [] mi ml := by
  intro j
  induction j with
  | zero =>
    intro i h hall
    have hi : i = NB := by omega
    subst hi
    have hle : mi 1 1 ≤ nI i := by rw [h11]; exact Int32.le_refl _
    exact bk_X8_tell_10 (mm_call_m _) (fun _ => bk_X8_tell_44 (mm_call_m _) (hn hall)) (fun z => absurd hle z) (fun z => absurd hle z) (fun z => absurd hle z) (fun z => absurd hle z)
  | succ j ih =>
    intro i h hall
    have hlt : ¬ mi 1 1 ≤ nI i := by
      rw [h11, Int32.le_iff_toInt_le, mm_tI (by omega), mm_tI (by omega)]
      omega
    have hl2 : ¬ 200 ≤ nI i := by
      rw [Int32.le_iff_toInt_le, mm_tI (by omega), mm_tt200]
      omega
    refine bk_X8_tell_10 (mm_call_m _) (fun z => absurd z hlt) (fun _ z => absurd z hl2) (fun _ _ => vp_in_nI (by omega) (by decide)) (fun _ _ z => ?_) (fun _ _ z => ?_) <;> rw [lg_eq, nI_clamp (by omega)] at z
    · rw [show nI i + 1 = nI (i + 1) from (nI_succ i).symm]
      refine ih (i + 1) (by omega) (fun t ht => ?_)
      by_cases q : t = i
      · rw [q]; exact z
      · exact hall t (by omega)
    · exact hf i (by omega) z
theorem sx_tell {x : Int64} (h11 : mi 1 1 = nI NB) (hNB : NB ≤ 200) (hneg : x.toInt < 0 → Q (some (mm_I (-1))) mi ml) (hf : 0 ≤ x.toInt → ∀ t, t < NB → ml 2 t = x → Q (some (mm_I (nI t))) mi ml) (hn : 0 ≤ x.toInt → (∀ t, t < NB → ¬ ml 2 t = x) → Q (some (mm_I (-5))) mi ml) : mm_cq (mm_call mm_ms (mm_tb L xs) (d + 1)) 113 [mm_R 1, mm_L x] mi ml Q := by
  refine en_X8_tell (bk_X8_tell_0 (mm_call_m _) (fun z => ?_) (fun z => hneg ?_)) <;> rw [lg_ge, mm_ll0] at z
  · exact tell_10 h11 hNB (hf z) (hn z) NB 0 (by omega) (fun t ht => absurd ht (Nat.not_lt_zero _))
  · omega
theorem sx_take {x : Int64} (h11 : mi 1 1 = nI NB) (hNB : NB ≤ 200) (hneg : x.toInt < 0 → Q (some (mm_I (-3))) mi ml) (hf : 0 ≤ x.toInt → ∀ t, t < NB → ml 2 t = x → Q (some (mm_I (nI t))) mi ml) (hfull : 0 ≤ x.toInt → (∀ t, t < NB → ¬ ml 2 t = x) → NB = 200 → Q (some (mm_I (-4))) mi ml) (hn : 0 ≤ x.toInt → (∀ t, t < NB → ¬ ml 2 t = x) → NB < 200 → Q (some (mm_I (nI NB))) (mm_u mi 1 1 (nI (NB + 1))) (mm_u ml 2 NB x)) : mm_cq (mm_call mm_ms (mm_tb L xs) (d + 2)) 114 [mm_R 1, mm_L x] mi ml Q := by
  have hlt : mi 1 1 < 200 → NB < 200 := fun z => by
    have := mm_ltI z
    rw [h11, mm_tI (by omega), mm_tt200] at this
    omega
  have hge : ¬ mi 1 1 < 200 → NB = 200 := fun z => by
    have := mm_nltI z
    rw [h11, mm_tI (by omega), mm_tt200] at this
    omega
  refine en_X8_take (bk_X8_take_0 (mm_call_m _) (fun z => ?_) (fun z => hneg ?_)) <;> rw [lg_ge, mm_ll0] at z
  · refine sx_tell h11 hNB (fun q => by omega) (fun _ t ht e => bk_X8_take_14 (mm_call_m _) (fun q => ?_) (fun q => ?_) (fun q => ?_) (fun _ => hf z t ht e)) (fun _ hno => bk_X8_take_14 (s0 := -5) (mm_call_m _) (fun _ q => ?_) (fun _ q => ?_) (fun _ q => hfull z hno (hge q)) (fun q => absurd rfl q))
    iterate 3
      · exfalso
        have := congrArg Int32.toInt q
        have e5 : (-5 : Int32).toInt = -5 := rfl
        rw [mm_tI (by omega), e5] at this
        omega
    · rw [h11]
      exact vp_in_nI (hlt q) (by decide)
    · rw [h11, nI_clamp (by omega), show nI NB + 1 = nI (NB + 1) from (nI_succ NB).symm]
      exact hn z hno (hlt q)
  · omega
/-- what type() tells -/
def f_fact (m : mm_P) (t : Nat) (x : Int32) : Int32 := if x = 0 then m 177 t else if x = 1 then m 178 t else if x = 2 then m 179 t else if x = 3 then m 180 t else if x = 4 then m 183 t else if x = 5 then f_LT (m 181 t) (m 182 t) else -2
theorem tell_t {t : Nat} {m : mm_P} (hD : DN NB m) (h : TC NB m ml) (hT : TC NB mi ml) (hNB : NB ≤ 200) (ht : t < NB) (hQ : Q (some (mm_I (nI t))) mi ml) : mm_cq (mm_call mm_ms (mm_tb L xs) (d + 1)) 113 [mm_R 1, mm_L (ml 2 t)] mi ml Q := by
  have hr := (SH_r hD h ht).1
  refine sx_tell hT.1 hNB (fun z => by omega) (fun _ u hu e => ?_) (fun _ hno => absurd rfl (hno t ht))
  have := hT.2.2 u t hu ht e
  subst this
  exact hQ
theorem tell_n (h11 : mi 1 1 = nI NB) (hNB : NB ≤ 200) (hQ : Q (some (mm_I (-1))) mi ml) : mm_cq (mm_call mm_ms (mm_tb L xs) (d + 1)) 113 [mm_R 1, mm_L (-1)] mi ml Q :=
  sx_tell h11 hNB (fun _ => hQ) (fun z => absurd z (by decide)) (fun z => absurd z (by decide))
theorem sx_factOf {t : Nat} {x2 : Int32} (hD : DN NB mi) (h : TC NB mi ml) (hNB : NB ≤ 200) (ht : t < NB) (hQ : Q (some (mm_I (f_fact mi t x2))) mi ml) : mm_cq (mm_call mm_ms (mm_tb L xs) (d + 11)) 115 [mm_R 1, mm_I (nI t), mm_I x2] mi ml Q := by
  obtain ⟨k1, k2⟩ := SH_k hD h ht
  unfold f_fact at hQ
  have n0 : ∀ {k : Int32}, ¬ x2 = k → ¬ x2 = k := fun q => q
  refine en_X8_factOf (bk_X8_factOf_0 (mm_call_m _) (sx_shapeOf h.1 hNB ht (bk_X8_factOf_5 (mm_call_m _) (fun z => ?_) (fun z => ?_) (fun z => ?_) (fun z => ?_) (fun z => ?_) (fun z => ?_) (fun z0 z1 z2 z3 z4 z5 => ?_))))
  · have z' : x2 = 0 := z
    rw [if_pos z'] at hQ
    refine sp_X10_kindOf (bk_X8_factOf_48 (mm_call_m _) ?_)
    rw [k1]
    exact hQ
  · have z' : x2 = 1 := z
    rw [if_neg (by rw [z']; decide), if_pos z'] at hQ
    refine sp_X10_firstOf (bk_X8_factOf_54 (mm_call_m _) ?_)
    rcases k2 with ⟨n4, n5, q1, q2, q3, q4, q⟩ | ⟨a, q1, q2, q3, q4, q5, q6⟩ | ⟨a, b, q1, q2, q3, q4, q5, q6, q7, q8, q9⟩
    · rw [q1]
      rw [q3] at hQ
      exact tell_n h.1 hNB (bk_X8_factOf_57 (mm_call_m _) hQ)
    · rw [q4]
      rw [q3.2.1] at hQ
      exact tell_t hD h h hNB q2 (bk_X8_factOf_57 (mm_call_m _) hQ)
    · rw [q6]
      rw [q5.2.1] at hQ
      exact tell_t hD h h hNB q2 (bk_X8_factOf_57 (mm_call_m _) hQ)
  · have z' : x2 = 2 := z
    rw [if_neg (by rw [z']; decide), if_neg (by rw [z']; decide), if_pos z'] at hQ
    refine sp_X10_secondOf (bk_X8_factOf_63 (mm_call_m _) ?_)
    rcases k2 with ⟨n4, n5, q1, q2, q3, q4, q⟩ | ⟨a, q1, q2, q3, q4, q5, q6⟩ | ⟨a, b, q1, q2, q3, q4, q5, q6, q7, q8, q9⟩
    · rw [q2]
      rw [q4] at hQ
      exact tell_n h.1 hNB (bk_X8_factOf_66 (mm_call_m _) hQ)
    · rw [q5]
      rw [q3.2.2.1] at hQ
      exact tell_n h.1 hNB (bk_X8_factOf_66 (mm_call_m _) hQ)
    · rw [q7]
      rw [q5.2.2.1] at hQ
      exact tell_t hD h h hNB q4 (bk_X8_factOf_66 (mm_call_m _) hQ)
  · have z' : x2 = 3 := z
    rw [if_neg (by rw [z']; decide), if_neg (by rw [z']; decide), if_neg (by rw [z']; decide), if_pos z'] at hQ
    refine sp_X10_depthOf (bk_X8_factOf_71 (mm_call_m _) ?_)
    rw [(SH_r hD h ht).2]
    exact hQ
  · have z' : x2 = 4 := z
    rw [if_neg (by rw [z']; decide), if_neg (by rw [z']; decide), if_neg (by rw [z']; decide), if_neg (by rw [z']; decide), if_pos z'] at hQ
    refine sp_X10_widthOf (bk_X8_factOf_76 (mm_call_m _) ?_)
    rw [SH_w hD h ht]
    exact hQ
  · have z' : x2 = 5 := z
    rw [if_neg (by rw [z']; decide), if_neg (by rw [z']; decide), if_neg (by rw [z']; decide), if_neg (by rw [z']; decide), if_neg (by rw [z']; decide), if_pos z'] at hQ
    refine sp_X10_lettersOf (bk_X8_factOf_81 (mm_call_m _) ?_)
    rw [SH_lt hD h ht]
    exact hQ
  · rw [if_neg (show ¬ x2 = 0 from z0), if_neg (show ¬ x2 = 1 from z1), if_neg (show ¬ x2 = 2 from z2), if_neg (show ¬ x2 = 3 from z3), if_neg (show ¬ x2 = 4 from z4), if_neg (show ¬ x2 = 5 from z5)] at hQ
    exact hQ
theorem sx_X11_type {x1 x2 : Int32} (hD : DN NB mi) (h : TC NB mi ml) (hNB : NB ≤ 200) (h1 : ∀ t, t < NB → x1 = nI t → Q (some (mm_I (f_fact mi t x2))) mi ml) (h0 : (∀ t, t < NB → ¬ x1 = nI t) → Q (some (mm_I (-2))) mi ml) : mm_cq (mm_call mm_ms (mm_tb L xs) (d + 12)) 143 [mm_R 0, mm_I x1, mm_I x2] mi ml Q := by
  refine en_X11_type (bk_X11_type_0 (mm_call_m _) (sx_has8 h.1 hNB (fun t t1 t2 => bk_X11_type_8 (s0 := 1) (mm_call_m _) (fun _ => ?_) (fun z => absurd z (by decide))) (fun a => bk_X11_type_8 (s0 := 0) (mm_call_m _) (fun z => absurd rfl z) (fun _ => h0 a))))
  have hq := h1 t t1 t2
  rw [t2]
  exact sx_factOf hD h hNB t1 (bk_X11_type_23 (mm_call_m _) hq)
theorem sx_X11_pair {x1 x2 : Int32} (h : TC NB mi ml) (hNB : NB ≤ 200) (hbad : (¬ ∃ a b, a < NB ∧ b < NB ∧ x1 = nI a ∧ x2 = nI b) → Q (some (mm_I (-2))) mi ml) (hno : ∀ a b, a < NB → b < NB → x1 = nI a → x2 = nI b → (f_pr (ml 2 a) (ml 2 b)).toInt < 0 → Q (some (mm_I (-3))) mi ml) (hf : ∀ a b t, a < NB → b < NB → x1 = nI a → x2 = nI b → t < NB → 0 ≤ (f_pr (ml 2 a) (ml 2 b)).toInt → ml 2 t = f_pr (ml 2 a) (ml 2 b) → Q (some (mm_I (nI t))) mi ml) (hfull : ∀ a b, a < NB → b < NB → x1 = nI a → x2 = nI b → 0 ≤ (f_pr (ml 2 a) (ml 2 b)).toInt → (∀ t, t < NB → ¬ ml 2 t = f_pr (ml 2 a) (ml 2 b)) → NB = 200 → Q (some (mm_I (-4))) mi ml) (hnew : ∀ a b, a < NB → b < NB → x1 = nI a → x2 = nI b → 0 ≤ (f_pr (ml 2 a) (ml 2 b)).toInt → (∀ t, t < NB → ¬ ml 2 t = f_pr (ml 2 a) (ml 2 b)) → NB < 200 → Q (some (mm_I (nI NB))) (mm_u mi 1 1 (nI (NB + 1))) (mm_u ml 2 NB (f_pr (ml 2 a) (ml 2 b)))) : mm_cq (mm_call mm_ms (mm_tb L xs) (d + 3)) 141 [mm_R 0, mm_I x1, mm_I x2] mi ml Q := by
  have h22 : (¬ ∃ a b, a < NB ∧ b < NB ∧ x1 = nI a ∧ x2 = nI b) → mm_WQ (mm_call mm_ms (mm_tb L xs) (d + 2)) (mm_tb L xs) mm_m141 (mm_li mm_m141) Q 22 [some (mm_R 0), some (mm_I x1), some (mm_I x2)] [] mi ml := fun z => bk_X11_pair_22 (mm_call_m _) (hbad z)
  refine en_X11_pair (bk_X11_pair_0 (mm_call_m _) (sx_has8 h.1 hNB (fun a a1 a2 => bk_X11_pair_8 (s0 := 1) (mm_call_m _) (fun z => absurd z (by decide)) (fun _ => sx_has8 h.1 hNB (fun b b1 b2 => bk_X11_pair_19 (s0 := 1) (mm_call_m _) (fun _ => ?_) (fun z => absurd z (by decide))) (fun q => bk_X11_pair_19 (s0 := 0) (mm_call_m _) (fun z => absurd rfl z) (fun _ => h22 (fun ⟨_, b, _, b1, _, b2⟩ => q b b1 b2))))) (fun q => bk_X11_pair_8 (s0 := 0) (mm_call_m _) (fun _ => h22 (fun ⟨a, _, a1, _, a2, _⟩ => q a a1 a2)) (fun z => absurd rfl z))))
  subst a2 b2
  refine sx_shapeOf h.1 hNB a1 (bk_X11_pair_37 (mm_call_m _) (sx_shapeOf h.1 hNB b1 (bk_X11_pair_45 (mm_call_m _) (sp_X10_pairOf (bk_X11_pair_48 (mm_call_m _) ?_)))))
  exact sx_take h.1 hNB (fun z => bk_X11_pair_51 (mm_call_m _) (hno a b a1 b1 rfl rfl z)) (fun z t t1 t2 => bk_X11_pair_51 (mm_call_m _) (hf a b t a1 b1 rfl rfl t1 z t2)) (fun z q e => bk_X11_pair_51 (mm_call_m _) (hfull a b a1 b1 rfl rfl z q e)) (fun z q e => bk_X11_pair_51 (mm_call_m _) (hnew a b a1 b1 rfl rfl z q e))
theorem sx_X11_list {x1 : Int32} (h : TC NB mi ml) (hNB : NB ≤ 200) (hbad : (¬ ∃ a, a < NB ∧ x1 = nI a) → Q (some (mm_I (-2))) mi ml) (hno : ∀ a, a < NB → x1 = nI a → (f_ls (ml 2 a)).toInt < 0 → Q (some (mm_I (-3))) mi ml) (hf : ∀ a t, a < NB → x1 = nI a → t < NB → 0 ≤ (f_ls (ml 2 a)).toInt → ml 2 t = f_ls (ml 2 a) → Q (some (mm_I (nI t))) mi ml) (hfull : ∀ a, a < NB → x1 = nI a → 0 ≤ (f_ls (ml 2 a)).toInt → (∀ t, t < NB → ¬ ml 2 t = f_ls (ml 2 a)) → NB = 200 → Q (some (mm_I (-4))) mi ml) (hnew : ∀ a, a < NB → x1 = nI a → 0 ≤ (f_ls (ml 2 a)).toInt → (∀ t, t < NB → ¬ ml 2 t = f_ls (ml 2 a)) → NB < 200 → Q (some (mm_I (nI NB))) (mm_u mi 1 1 (nI (NB + 1))) (mm_u ml 2 NB (f_ls (ml 2 a)))) : mm_cq (mm_call mm_ms (mm_tb L xs) (d + 3)) 142 [mm_R 0, mm_I x1] mi ml Q := by
  refine en_X11_list (bk_X11_list_0 (mm_call_m _) (sx_has8 h.1 hNB (fun a a1 a2 => bk_X11_list_8 (s0 := 1) (mm_call_m _) (fun _ => ?_) (fun z => absurd z (by decide))) (fun q => bk_X11_list_8 (s0 := 0) (mm_call_m _) (fun z => absurd rfl z) (fun _ => hbad (fun ⟨a, a1, a2⟩ => q a a1 a2)))))
  subst a2
  refine sx_shapeOf h.1 hNB a1 (bk_X11_list_26 (mm_call_m _) (sp_X10_listOf (bk_X11_list_29 (mm_call_m _) ?_)))
  exact sx_take h.1 hNB (fun z => bk_X11_list_32 (mm_call_m _) (hno a a1 rfl z)) (fun z t t1 t2 => bk_X11_list_32 (mm_call_m _) (hf a t a1 rfl t1 z t2)) (fun z q e => bk_X11_list_32 (mm_call_m _) (hfull a a1 rfl z q e)) (fun z q e => bk_X11_list_32 (mm_call_m _) (hnew a a1 rfl z q e))
/-- the world behind a new type of the model -/
def NW4 (NB ND NF : Nat) (m n : mm_P) : Prop := IM n (NB + 1) ND NF ∧ KO m n ∧ (∀ c i, ¬ c = 176 → ¬ (177 ≤ c ∧ c ≤ 183 ∧ i = NB) → ¬ c = 184 → n c i = m c i)
theorem sx_numbers4 {ND NF a b : Nat} (hI : IM mi NB ND NF) (ha : a < NB) (hb : b < NB) (hf : ∀ n t, PR mi n → t < NB → mi 177 t = 4 → mi 178 t = nI a → mi 179 t = nI b → Q (some (mm_I (nI t))) n ml) (hno : ∀ n, PR mi n → (∀ t, t < NB → ¬ (mi 177 t = 4 ∧ mi 178 t = nI a ∧ mi 179 t = nI b)) → ¬ 1 + f_most (mi 180 a) (mi 180 b) ≤ 5 → Q (some (mm_I (-3))) n ml) (hfull : ∀ n, PR mi n → (∀ t, t < NB → ¬ (mi 177 t = 4 ∧ mi 178 t = nI a ∧ mi 179 t = nI b)) → 1 + f_most (mi 180 a) (mi 180 b) ≤ 5 → NB = 200 → Q (some (mm_I (-4))) n ml) (hnew : ∀ n, NW4 NB ND NF mi n → en4 n n NB a b → (∀ t, t < NB → ¬ (mi 177 t = 4 ∧ mi 178 t = nI a ∧ mi 179 t = nI b)) → 1 + f_most (mi 180 a) (mi 180 b) ≤ 5 → NB < 200 → Q (some (mm_I (nI NB))) n ml) : mm_cq (mm_call mm_ms (mm_tb L xs) (d + 4)) 175 [mm_R 176, mm_I 4, mm_I (nI a), mm_I (nI b)] mi ml Q := by
  have hNB := hI.1.1
  refine en_X12_numbers (bk_X12_numbers_0 (mm_call_m _) (sx_forgets (N := NB) (by rw [hI.2.1.1]; exact mm_tI (by omega)) hNB.2 (fun n hfg hin => bk_X12_numbers_4 (mm_call_m _) ?_)))
  obtain ⟨hT, hp⟩ := TS_fg hI hfg
  have hIn := IM_c hI hp
  have va : vp_in (nI a) 8000 := vp_in_nI (by omega) (by decide)
  have vb : vp_in (nI b) 8000 := vp_in_nI (by omega) (by decide)
  have ea : (nI a).toNatClampNeg = a := nI_clamp (by omega)
  have eb : (nI b).toNatClampNeg = b := nI_clamp (by omega)
  have hrw : ∀ t, t < NB → ∀ c, 177 ≤ c → c ≤ 183 → n c t = mi c t := fun t ht c x y => hp c t (pg_row x y (by omega))
  have h4 : ∀ {P : Prop}, ¬ (4 : Int32) = 4 → P := fun z => absurd rfl z
  refine sx_known hT hin (fun hnone => bk_X12_numbers_11 (s0 := -1) (mm_call_m _) (fun _ z => h4 z) (fun _ z => h4 z) (fun _ z => h4 z) (fun _ z => h4 z) (fun _ _ => va) (fun _ _ => vb) (fun _ _ => sp_most ?_) (fun z => absurd rfl z)) (fun t ht c1 c2 c3 => ?_)
  · rw [ea, eb, hrw a ha 180 (by decide) (by decide), hrw b hb 180 (by decide) (by decide)]
    have hnone' : ∀ t, t < NB → ¬ (mi 177 t = 4 ∧ mi 178 t = nI a ∧ mi 179 t = nI b) := fun t ht q => hnone t ht (by rw [hrw t ht 177 (by decide) (by decide), hrw t ht 178 (by decide) (by decide), hrw t ht 179 (by decide) (by decide)]; exact q)
    refine bk_X12_numbers_43 (mm_call_m _) (fun z z2 => ?_) (fun z z2 => hfull n hp hnone' z (nI_ij (by omega) (by decide) (hIn.2.1.1.symm.trans z2))) (fun z => hno n hp hnone' z)
    rw [hIn.2.1.1] at z2 ⊢
    have hlt := mm_ne200 z2 hNB.2
    refine sp_lays4 (by omega) ha hb (by have := hT.2.2.2.2.2.1; omega) (fun n' k hk hk0 hl he => bk_X12_numbers_84 (mm_call_m _) ?_)
    have hrow : ∀ c i, 177 ≤ c → c ≤ 183 → i < NB → n' c i = n c i := fun c i _ _ q => hl c i (by omega)
    have hu : ∀ c i, 177 ≤ c → ¬ c = 184 → mm_u (mm_u n' 184 k (nI NB + 1)) 176 0 (mm_u n' 184 k (nI NB + 1) 176 0 + 1) c i = n' c i := fun c i q q2 => by rw [mm_u_e (by omega), mm_u_e q2]
    have e0 : mm_u n' 184 k (nI NB + 1) 176 0 + 1 = nI (NB + 1) := by
      rw [mm_u_e (by decide), hl 176 0 (by omega), hIn.2.1.1]
      exact (nI_succ NB).symm
    have hret : mm_u n' 184 k (nI NB + 1) 176 0 + 1 - 1 = nI NB := by rw [e0, mm_dec' NB (by omega)]
    rw [hret]
    have he' : en4 (mm_u (mm_u n' 184 k (nI NB + 1)) 176 0 (mm_u n' 184 k (nI NB + 1) 176 0 + 1)) (mm_u (mm_u n' 184 k (nI NB + 1)) 176 0 (mm_u n' 184 k (nI NB + 1) 176 0 + 1)) NB a b := en4_c (en4_s he (fun c x y => hrow c a x y ha) (fun c x y => hrow c b x y hb)) (fun c x y => hu c _ x (by omega)) (fun c x y => hu c _ x (by omega)) (fun c x y => hu c _ x (by omega))
    refine hnew _ ⟨IM_type hIn hlt ?_ ?_ ?_ (fun c i x y q => (hu c i x (by omega)).trans (hrow c i x y q)) (fun c i x y => (hu c i (by omega) (by omega)).trans (hl c i (by omega))) (.inr (.inr ⟨a, b, .inl (by omega), ha, .inl (by omega), hb, he'⟩)) ?_, KO_u (KO_u (KO_l (KO_p hp) hl) (.inl (by decide))) (.inr ⟨rfl, by decide, by decide⟩), fun c i q1 q2 q3 => ?_⟩ he' hnone' z hlt
    · rw [mm_u_s, e0]
    · rw [mm_u_f (by decide), mm_u_e (by decide)]
      exact hl 176 13 (by omega)
    · rw [mm_u_f (by decide), mm_u_e (by decide)]
      exact hl 176 20 (by omega)
    · rw [hu 180 NB (by decide) (by decide), he.2.2.2.1, hrw a ha 180 (by decide) (by decide), hrw b hb 180 (by decide) (by decide)]
      exact mm_leI z
    · rw [mm_u_e q1, mm_u_e q3, hl c i (by omega)]
      exact hfg.1 c i q3 (by omega)
  · have hne : ¬ nI t = -1 := nI_ne (by omega)
    refine bk_X12_numbers_11 (mm_call_m _) (fun z => absurd z hne) (fun z => absurd z hne) (fun z => absurd z hne) (fun z => absurd z hne) (fun z => absurd z hne) (fun z => absurd z hne) (fun z => absurd z hne) (fun _ => hf n t hp ht ?_ ?_ ?_)
    · rw [← hrw t ht 177 (by decide) (by decide)]; exact c1
    · rw [← hrw t ht 178 (by decide) (by decide)]; exact c2
    · rw [← hrw t ht 179 (by decide) (by decide)]; exact c3
theorem sx_numbers5 {ND NF a : Nat} (hI : IM mi NB ND NF) (ha : a < NB) (hf : ∀ n t, PR mi n → t < NB → mi 177 t = 5 → mi 178 t = nI a → mi 179 t = -1 → Q (some (mm_I (nI t))) n ml) (hno : ∀ n, PR mi n → (∀ t, t < NB → ¬ (mi 177 t = 5 ∧ mi 178 t = nI a ∧ mi 179 t = -1)) → ¬ 1 + mi 180 a ≤ 5 → Q (some (mm_I (-3))) n ml) (hfull : ∀ n, PR mi n → (∀ t, t < NB → ¬ (mi 177 t = 5 ∧ mi 178 t = nI a ∧ mi 179 t = -1)) → 1 + mi 180 a ≤ 5 → NB = 200 → Q (some (mm_I (-4))) n ml) (hnew : ∀ n, NW4 NB ND NF mi n → en5 n n NB a → (∀ t, t < NB → ¬ (mi 177 t = 5 ∧ mi 178 t = nI a ∧ mi 179 t = -1)) → 1 + mi 180 a ≤ 5 → NB < 200 → Q (some (mm_I (nI NB))) n ml) : mm_cq (mm_call mm_ms (mm_tb L xs) (d + 4)) 175 [mm_R 176, mm_I 5, mm_I (nI a), mm_I (-1)] mi ml Q := by
  have hNB := hI.1.1
  refine en_X12_numbers (bk_X12_numbers_0 (mm_call_m _) (sx_forgets (N := NB) (by rw [hI.2.1.1]; exact mm_tI (by omega)) hNB.2 (fun n hfg hin => bk_X12_numbers_4 (mm_call_m _) ?_)))
  obtain ⟨hT, hp⟩ := TS_fg hI hfg
  have hIn := IM_c hI hp
  have va : vp_in (nI a) 8000 := vp_in_nI (by omega) (by decide)
  have ea : (nI a).toNatClampNeg = a := nI_clamp (by omega)
  have hrw : ∀ t, t < NB → ∀ c, 177 ≤ c → c ≤ 183 → n c t = mi c t := fun t ht c x y => hp c t (pg_row x y (by omega))
  have h4 : ∀ {P : Prop}, (5 : Int32) = 4 → P := fun z => absurd z (by decide)
  refine sx_known hT hin (fun hnone => ?_) (fun t ht c1 c2 c3 => ?_)
  · have hnone' : ∀ t, t < NB → ¬ (mi 177 t = 5 ∧ mi 178 t = nI a ∧ mi 179 t = -1) := fun t ht q => hnone t ht (by rw [hrw t ht 177 (by decide) (by decide), hrw t ht 178 (by decide) (by decide), hrw t ht 179 (by decide) (by decide)]; exact q)
    have e180 : n 180 (nI a).toNatClampNeg = mi 180 a := by rw [ea]; exact hrw a ha 180 (by decide) (by decide)
    refine bk_X12_numbers_11 (s0 := -1) (mm_call_m _) (fun _ _ => va) (fun _ _ z z2 => ?_) (fun _ _ z z2 => ?_) (fun _ _ z => ?_) (fun _ z => h4 z) (fun _ z => h4 z) (fun _ z => h4 z) (fun z => absurd rfl z) <;> rw [e180] at z
    · rw [hIn.2.1.1] at z2 ⊢
      have hlt := mm_ne200 z2 hNB.2
      refine sp_lays5 (by omega) ha (by have := hT.2.2.2.2.2.1; omega) (fun n' k hk hk0 hl he => bk_X12_numbers_84 (mm_call_m _) ?_)
      have hrow : ∀ c i, 177 ≤ c → c ≤ 183 → i < NB → n' c i = n c i := fun c i _ _ q => hl c i (by omega)
      have hu : ∀ c i, 177 ≤ c → ¬ c = 184 → mm_u (mm_u n' 184 k (nI NB + 1)) 176 0 (mm_u n' 184 k (nI NB + 1) 176 0 + 1) c i = n' c i := fun c i q q2 => by rw [mm_u_e (by omega), mm_u_e q2]
      have e0 : mm_u n' 184 k (nI NB + 1) 176 0 + 1 = nI (NB + 1) := by
        rw [mm_u_e (by decide), hl 176 0 (by omega), hIn.2.1.1]
        exact (nI_succ NB).symm
      have hret : mm_u n' 184 k (nI NB + 1) 176 0 + 1 - 1 = nI NB := by rw [e0, mm_dec' NB (by omega)]
      rw [hret]
      have he' : en5 (mm_u (mm_u n' 184 k (nI NB + 1)) 176 0 (mm_u n' 184 k (nI NB + 1) 176 0 + 1)) (mm_u (mm_u n' 184 k (nI NB + 1)) 176 0 (mm_u n' 184 k (nI NB + 1) 176 0 + 1)) NB a := en5_c (en5_s he (fun c x y => hrow c a x y ha)) (fun c x y => hu c _ x (by omega)) (fun c x y => hu c _ x (by omega))
      refine hnew _ ⟨IM_type hIn hlt ?_ ?_ ?_ (fun c i x y q => (hu c i x (by omega)).trans (hrow c i x y q)) (fun c i x y => (hu c i (by omega) (by omega)).trans (hl c i (by omega))) (.inr (.inl ⟨a, .inl (by omega), ha, he'⟩)) ?_, KO_u (KO_u (KO_l (KO_p hp) hl) (.inl (by decide))) (.inr ⟨rfl, by decide, by decide⟩), fun c i q1 q2 q3 => ?_⟩ he' hnone' z hlt
      · rw [mm_u_s, e0]
      · rw [mm_u_f (by decide), mm_u_e (by decide)]
        exact hl 176 13 (by omega)
      · rw [mm_u_f (by decide), mm_u_e (by decide)]
        exact hl 176 20 (by omega)
      · rw [hu 180 NB (by decide) (by decide), he.2.2.2.1, hrw a ha 180 (by decide) (by decide)]
        exact mm_leI z
      · rw [mm_u_e q1, mm_u_e q3, hl c i (by omega)]
        exact hfg.1 c i q3 (by omega)
    · exact hfull n hp hnone' z (nI_ij (by omega) (by decide) (hIn.2.1.1.symm.trans z2))
    · exact hno n hp hnone' z
  · have hne : ¬ nI t = -1 := nI_ne (by omega)
    refine bk_X12_numbers_11 (mm_call_m _) (fun z => absurd z hne) (fun z => absurd z hne) (fun z => absurd z hne) (fun z => absurd z hne) (fun z => absurd z hne) (fun z => absurd z hne) (fun z => absurd z hne) (fun _ => hf n t hp ht ?_ ?_ ?_)
    · rw [← hrw t ht 177 (by decide) (by decide)]; exact c1
    · rw [← hrw t ht 178 (by decide) (by decide)]; exact c2
    · rw [← hrw t ht 179 (by decide) (by decide)]; exact c3
theorem sx_typeOf {t : Nat} {x2 : Int32} {m : mm_P} (hD : DN NB m) (ht : t < NB) (hNB : NB ≤ 200) (hm : m = mi) (hx : 0 ≤ x2.toInt ∧ x2.toInt ≤ 5) (hQ : Q (some (mm_I (f_fact mi t x2))) mi ml) : mm_cq (mm_call mm_ms (mm_tb L xs) (d + 1)) 178 [mm_R 176, mm_I (nI t), mm_I x2] mi ml Q := by
  subst hm
  have v : vp_in (nI t) 8000 := vp_in_nI (by omega) (by decide)
  have et : (nI t).toNatClampNeg = t := nI_clamp (by omega)
  have d1 := hD t ht
  unfold f_fact at hQ
  have h5 : ¬ x2 = 0 → ¬ x2 = 1 → ¬ x2 = 2 → ¬ x2 = 3 → ¬ x2 = 4 → Q (some (mm_I (f_LT (m 181 t) (m 182 t)))) m ml := fun z0 z1 z2 z3 z4 => by
    have e5 : x2 = 5 := by
      obtain ⟨q, rfl, q2, -, -⟩ := mm_of (n := 6) hx.1 (by omega)
      rcases (show q = 0 ∨ q = 1 ∨ q = 2 ∨ q = 3 ∨ q = 4 ∨ q = 5 by omega) with rfl | rfl | rfl | rfl | rfl | rfl
      all_goals first
        | rfl
        | exact absurd rfl z0
        | exact absurd rfl z1
        | exact absurd rfl z2
        | exact absurd rfl z3
        | exact absurd rfl z4
    rw [if_neg z0, if_neg z1, if_neg z2, if_neg z3, if_neg z4, if_pos e5] at hQ
    exact hQ
  have hz : ∀ y : Int32, 0 ≤ y.toInt → (y ≤ 0 ↔ y = 0) := fun y h0 => by
    rw [Int32.le_iff_toInt_le, mm_tt0]
    exact ⟨fun q => Int32.toInt_inj.mp (by rw [mm_tt0]; omega), fun q => by rw [q, mm_tt0]; omega⟩
  refine en_X12_typeOf (bk_X12_typeOf_0 (mm_call_m _) (fun _ => v) (fun z => ?_) (fun _ => v) (fun z => ?_) (fun _ => v) (fun z => ?_) (fun _ => v) (fun z => ?_) (fun _ => v) (fun z => ?_) (fun _ _ _ _ _ => v) (fun _ _ _ _ _ _ => v) (fun z0 z1 z2 z3 z4 a b => ?_) (fun z0 z1 z2 z3 z4 a b => ?_) (fun _ _ _ _ _ _ => v) (fun z0 z1 z2 z3 z4 a b => ?_) (fun z0 z1 z2 z3 z4 a b => ?_))
  · have z' : x2 = 0 := z
    rw [if_pos z'] at hQ
    rw [et]
    exact hQ
  · have z' : x2 = 1 := z
    rw [if_neg (by rw [z']; decide), if_pos z'] at hQ
    rw [et]
    exact hQ
  · have z' : x2 = 2 := z
    rw [if_neg (by rw [z']; decide), if_neg (by rw [z']; decide), if_pos z'] at hQ
    rw [et]
    exact hQ
  · have z' : x2 = 3 := z
    rw [if_neg (by rw [z']; decide), if_neg (by rw [z']; decide), if_neg (by rw [z']; decide), if_pos z'] at hQ
    rw [et]
    exact hQ
  · have z' : x2 = 4 := z
    rw [if_neg (by rw [z']; decide), if_neg (by rw [z']; decide), if_neg (by rw [z']; decide), if_neg (by rw [z']; decide), if_pos z'] at hQ
    rw [et]
    exact hQ
  all_goals
    have hq := h5 z0 z1 z2 z3 z4
    rw [et] at a b
    rw [hz _ d1.2.1.1] at a
    rw [hz _ d1.2.2.1] at b
    unfold f_LT at hq
  · rw [if_pos a, if_pos b] at hq
    exact hq
  · rw [if_pos a, if_neg b] at hq
    exact hq
  · rw [if_neg a, if_pos b] at hq
    exact hq
  · rw [if_neg a, if_neg b] at hq
    exact hq
end MMT
