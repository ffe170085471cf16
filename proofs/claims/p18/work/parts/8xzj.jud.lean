/-! ===== the machine of copies: rows of copies, moves of many cells ===== -/
theorem nI_sb {a b : Nat} (h : a + b < 2 ^ 31) : nI (a + b) - nI b = nI a := by
  rw [← nI_a h, Int32.add_sub_cancel]
section MMT
variable {L : Nat} {xs : Nat → Int32} {d : Nat} {Q : mm_QQ} {mi : mm_P} {ml : mm_G} {lim : Nat × Nat}
theorem sf_has {i N : Nat} (h31 : mi 31 12 = nI N) (hN : N ≤ 60) (hi : i < N) (hQ : Q (some (mm_I 1)) mi ml) : mm_cq (mm_call mm_ms (mm_tb L xs) (d + 1)) 5 [mm_R 31, mm_I (nI i)] mi ml Q := by
  refine en_X0_has (bk_X0_has_0 (mm_call_m _) (fun z => ?_) (fun _ z => ?_) (fun _ _ z => ?_) (fun _ _ _ => hQ))
  · have := mm_ltI z
    rw [mm_tI (by omega), mm_tt0] at this
    omega
  · have := mm_leI z
    rw [h31, mm_tI (by omega), mm_tI (by omega)] at this
    omega
  · have := mm_leI z
    rw [mm_tI (by omega), show (60 : Int32).toInt = 60 from rfl] at this
    omega
theorem sf_fn {i N : Nat} (h31 : mi 31 12 = nI N) (hN : N ≤ 60) (hi : i < N) (hQ : Q (some (mm_I (mi 32 i))) mi ml) : mm_cq (mm_call mm_ms (mm_tb L xs) (d + 2)) 6 [mm_R 31, mm_I (nI i)] mi ml Q := by
  refine en_X0_functionOf (bk_X0_functionOf_0 (mm_call_m _) (sf_has h31 hN hi (bk_X0_functionOf_5 (s0 := 1) (mm_call_m _) (fun z => absurd z (by decide)) (fun _ => vp_in_nI (by omega) (by decide)) (fun _ => ?_))))
  rw [nI_clamp (by omega)]
  exact hQ
theorem sf_aw {i N : Nat} (h31 : mi 31 12 = nI N) (hN : N ≤ 60) (hi : i < N) (hQ : Q (some (mm_I (mi 36 i))) mi ml) : mm_cq (mm_call mm_ms (mm_tb L xs) (d + 3)) 15 [mm_R 170, mm_I (nI i)] mi ml Q := by
  refine en_X1_argumentWidth (bk_X1_argumentWidth_0 (mm_call_m _) (en_X0_argumentWidth (bk_X0_argumentWidth_0 (mm_call_m _) (sf_has h31 hN hi (bk_X0_argumentWidth_5 (s0 := 1) (mm_call_m _) (fun z => absurd z (by decide)) (fun _ => vp_in_nI (by omega) (by decide)) (fun _ => bk_X1_argumentWidth_8 (mm_call_m _) ?_))))))
  rw [nI_clamp (by omega)]
  exact hQ
theorem sf_rw {i N : Nat} (h31 : mi 31 12 = nI N) (hN : N ≤ 60) (hi : i < N) (hQ : Q (some (mm_I (mi 37 i))) mi ml) : mm_cq (mm_call mm_ms (mm_tb L xs) (d + 3)) 16 [mm_R 170, mm_I (nI i)] mi ml Q := by
  refine en_X1_resultWidth (bk_X1_resultWidth_0 (mm_call_m _) (en_X0_resultWidth (bk_X0_resultWidth_0 (mm_call_m _) (sf_has h31 hN hi (bk_X0_resultWidth_5 (s0 := 1) (mm_call_m _) (fun z => absurd z (by decide)) (fun _ => vp_in_nI (by omega) (by decide)) (fun _ => bk_X1_resultWidth_8 (mm_call_m _) ?_))))))
  rw [nI_clamp (by omega)]
  exact hQ
theorem sf_nw {i N n ND : Nat} (h31 : mi 31 12 = nI N) (hN : N ≤ 60) (hi : i < N) (h35 : mi 3 5 = nI ND) (hND : ND ≤ 200) (hn : n < ND) (hQ : Q (some (mm_I (mi (39 + i) n))) mi ml) : mm_cq (mm_call mm_ms (mm_tb L xs) (d + 3)) 17 [mm_R 170, mm_I (nI i), mm_I (nI n)] mi ml Q := by
  have vn : vp_in (nI n) 200 := vp_in_nI (by omega) (by decide)
  refine en_X1_nodeWidth (bk_X1_nodeWidth_0 (mm_call_m _) (en_X0_widthAt (bk_X0_widthAt_0 (mm_call_m _) (sf_has h31 hN hi (bk_X0_widthAt_5 (s0 := 1) (mm_call_m _) (fun z => absurd z (by decide)) (fun _ => sx_has7 h35 hND (fun t t1 t2 => bk_X0_widthAt_16 (s0 := 1) (mm_call_m _) (fun z => absurd z (by decide)) (fun _ => vp_in_nI (by omega) (by decide)) (fun _ => ?_)) (fun q => absurd ⟨n, hn, rfl⟩ q)))))))
  rw [nI_clamp (show i < 2 ^ 31 by omega)]
  refine mm_alq_r (mm_row39 (by omega)) vn (bk_X1_nodeWidth_9 (mm_call_m _) ?_)
  rw [nI_clamp (show n < 2 ^ 31 by omega)]
  exact hQ
theorem sf_ct {i N n ND : Nat} (h31 : mi 31 12 = nI N) (hN : N ≤ 60) (hi : i < N) (h35 : mi 3 5 = nI ND) (hND : ND ≤ 200) (hn : n < ND) (hQ : Q (some (mm_I (mi (100 + i) n))) mi ml) : mm_cq (mm_call mm_ms (mm_tb L xs) (d + 3)) 14 [mm_R 170, mm_I (nI i), mm_I (nI n)] mi ml Q := by
  have vn : vp_in (nI n) 200 := vp_in_nI (by omega) (by decide)
  refine en_X1_calledAt (bk_X1_calledAt_0 (mm_call_m _) (en_X0_calledAt (bk_X0_calledAt_0 (mm_call_m _) (sf_has h31 hN hi (bk_X0_calledAt_5 (s0 := 1) (mm_call_m _) (fun z => absurd z (by decide)) (fun _ => sx_has7 h35 hND (fun t t1 t2 => bk_X0_calledAt_16 (s0 := 1) (mm_call_m _) (fun z => absurd z (by decide)) (fun _ => vp_in_nI (by omega) (by decide)) (fun _ => ?_)) (fun q => absurd ⟨n, hn, rfl⟩ q)))))))
  rw [nI_clamp (show i < 2 ^ 31 by omega)]
  refine mm_alq_r (mm_row100 (by omega)) vn (bk_X1_calledAt_9 (mm_call_m _) ?_)
  rw [nI_clamp (show n < 2 ^ 31 by omega)]
  exact hQ
theorem sf_bd {i N f NF : Nat} (h31 : mi 31 12 = nI N) (hN : N ≤ 60) (hi : i < N) (h32 : mi 32 i = nI f) (h97 : mi 9 7 = nI NF) (hNF : NF ≤ 12) (hf : f < NF) (hQ : Q (some (mm_I (mi 15 f))) mi ml) : mm_cq (mm_call mm_ms (mm_tb L xs) (d + 3)) 13 [mm_R 170, mm_I (nI i)] mi ml Q := by
  refine en_X1_bodyOf (bk_X1_bodyOf_0 (mm_call_m _) (sf_fn h31 hN hi (bk_X1_bodyOf_12 (mm_call_m _) ?_)))
  rw [h32]
  exact sx_bodyOf h97 hNF hf (bk_X1_bodyOf_15 (mm_call_m _) hQ)
/-- pushFrom() -/
theorem sf_from {t a w : Nat} (h8 : mi 170 8 = nI t) (ht : t + w ≤ 4096) (ha : a + w ≤ 8192) (hs : a + w ≤ t ∨ 4096 ≤ a) (hQ : ∀ w', (∀ c i, ¬ (c = 171 ∧ t ≤ i ∧ i < t + w) → ¬ (c = 170 ∧ i = 8) → w' c i = mi c i) → (∀ i, i < w → w' 171 (t + i) = mi 171 (a + i)) → w' 170 8 = nI (t + w) → Q none w' ml) : mm_cq (mm_call mm_ms (mm_tb L xs) (d + 3)) 87 [mm_R 170, mm_I (nI a), mm_I (nI w)] mi ml Q := by
  refine en_X6_pushFrom_C (bk_X6_pushFrom_C_0 (mm_call_m _) ?_)
  have hl : ∀ (j e : Nat) (w1 : mm_P), e + j = w → (∀ c i, ¬ (c = 171 ∧ t ≤ i ∧ i < t + e) → ¬ (c = 170 ∧ i = 8) → w1 c i = mi c i) → (∀ i, i < e → w1 171 (t + i) = mi 171 (a + i)) → w1 170 8 = nI (t + e) → mm_WQ (mm_call mm_ms (mm_tb L xs) (d + 2)) (mm_tb L xs) mm_m87 (mm_li mm_m87) Q 2 [some (mm_R 170), some (mm_I (nI a)), some (mm_I (nI w)), some (mm_I (nI e))] [] w1 ml := by
    intro j
    induction j with
    | zero =>
      intro e w1 he h1 h2 h3
      obtain rfl : e = w := by omega
      exact bk_X6_pushFrom_C_2 (mm_call_m _) (fun _ => hQ w1 h1 h2 h3) (fun z => absurd (Int32.le_refl _) z)
    | succ j ih =>
      intro e w1 he h1 h2 h3
      refine bk_X6_pushFrom_C_2 (mm_call_m _) (fun z => ?_) (fun _ => ?_)
      · have := mm_leI z
        rw [mm_tI (by omega), mm_tI (by omega)] at this
        omega
      · rw [nI_a (by omega)]
        refine sm_cell_C (by omega) (bk_X6_pushFrom_C_15 (mm_call_m _) (sm_push_C h3 (by omega) (bk_X6_pushFrom_C_18 (mm_call_m _) ?_)))
        rw [show nI e + 1 = nI (e + 1) from (nI_succ e).symm]
        have ea : w1 171 (a + e) = mi 171 (a + e) := h1 171 (a + e) (by omega) (by omega)
        refine ih (e + 1) _ (by omega) (fun c i q q2 => ?_) (fun i hi => ?_) mm_u_s
        · rw [mm_u_o (by omega), mm_u_o (by omega)]
          exact h1 c i (by omega) q2
        · rw [mm_u_e (by decide)]
          by_cases q : i = e
          · rw [q, mm_u_s, ea]
          · rw [mm_u_f (by omega)]
            exact h2 i (by omega)
  exact hl w 0 mi (by omega) (fun _ _ _ _ => rfl) (fun i hi => absurd hi (Nat.not_lt_zero _)) h8
/-- keep() -/
theorem sf_keep {s la fr w : Nat} (h8 : mi 170 8 = nI (s + la)) (hl : fr + w ≤ la) (ht : s + la ≤ 4096) (hQ : ∀ w', (∀ c i, ¬ (c = 171 ∧ s ≤ i ∧ i < s + w) → ¬ (c = 170 ∧ i = 8) → w' c i = mi c i) → (∀ i, i < w → w' 171 (s + i) = mi 171 (s + fr + i)) → w' 170 8 = nI (s + w) → Q none w' ml) : mm_cq (mm_call mm_ms (mm_tb L xs) (d + 2)) 88 [mm_R 170, mm_I (nI la), mm_I (nI fr), mm_I (nI w)] mi ml Q := by
  refine en_X6_keep_C (bk_X6_keep_C_0 (mm_call_m _) ?_)
  rw [h8, nI_sb (by omega)]
  have hlp : ∀ (j e : Nat) (w1 : mm_P), e + j = w → (∀ c i, ¬ (c = 171 ∧ s ≤ i ∧ i < s + e) → w1 c i = mi c i) → (∀ i, i < e → w1 171 (s + i) = mi 171 (s + fr + i)) → mm_WQ (mm_call mm_ms (mm_tb L xs) (d + 1)) (mm_tb L xs) mm_m88 (mm_li mm_m88) Q 11 [some (mm_R 170), some (mm_I (nI la)), some (mm_I (nI fr)), some (mm_I (nI w)), some (mm_I (nI s)), some (mm_I (nI e))] [] w1 ml := by
    intro j
    induction j with
    | zero =>
      intro e w1 he h1 h2
      obtain rfl : e = w := by omega
      refine bk_X6_keep_C_11 (mm_call_m _) (fun _ => ?_) (fun z => absurd (Int32.le_refl _) z)
      rw [nI_a (by omega)]
      exact hQ _ (fun c i q q2 => (mm_u_o q2).trans (h1 c i q)) (fun i hi => (mm_u_e (by decide)).trans (h2 i hi)) mm_u_s
    | succ j ih =>
      intro e w1 he h1 h2
      refine bk_X6_keep_C_11 (mm_call_m _) (fun z => ?_) (fun _ => ?_)
      · have := mm_leI z
        rw [mm_tI (by omega), mm_tI (by omega)] at this
        omega
      · rw [nI_a (show s + fr < 2 ^ 31 by omega), nI_a (show s + fr + e < 2 ^ 31 by omega), nI_a (show s + e < 2 ^ 31 by omega)]
        refine sm_cell_C (by omega) (bk_X6_keep_C_34 (mm_call_m _) (sm_set_C (by omega) (bk_X6_keep_C_37 (mm_call_m _) ?_)))
        rw [show nI e + 1 = nI (e + 1) from (nI_succ e).symm]
        have ea : w1 171 (s + fr + e) = mi 171 (s + fr + e) := h1 171 _ (by omega)
        refine ih (e + 1) _ (by omega) (fun c i q => ?_) (fun i hi => ?_)
        · rw [mm_u_o (by omega)]
          exact h1 c i (by omega)
        · by_cases q : i = e
          · rw [q, mm_u_s, ea]
          · rw [mm_u_f (by omega)]
            exact h2 i (by omega)
  exact hlp w 0 mi (by omega) (fun _ _ _ => rfl) (fun i hi => absurd hi (Nat.not_lt_zero _))
/-- storeLink() -/
theorem sf_link {t p w : Nat} {x : Int32} (h8 : mi 170 8 = nI (t + w)) (h9 : mi 170 9 = nI p) (ht : t + w ≤ 4096) (hp : 4096 ≤ p) (hp2 : p + (1 + w) ≤ 8192) (hQ : ∀ w', (∀ c i, ¬ (c = 171 ∧ p ≤ i ∧ i < p + (1 + w)) → ¬ (c = 170 ∧ (i = 8 ∨ i = 9)) → w' c i = mi c i) → w' 171 p = x → (∀ i, i < w → w' 171 (p + 1 + i) = mi 171 (t + i)) → w' 170 8 = nI t → w' 170 9 = nI (p + (1 + w)) → Q (some (mm_I (nI p))) w' ml) : mm_cq (mm_call mm_ms (mm_tb L xs) (d + 2)) 79 [mm_R 170, mm_I (nI w), mm_I x] mi ml Q := by
  refine en_X6_storeLink_C (bk_X6_storeLink_C_0 (mm_call_m _) ?_)
  rw [h9, show (1 : Int32) + nI w = nI (1 + w) from nI_a (a := 1) (by omega), nI_a (by omega)]
  have hl : ∀ (j e : Nat) (w1 : mm_P), e + j = w → (∀ c i, ¬ (c = 171 ∧ p ≤ i ∧ i < p + 1 + e) → ¬ (c = 170 ∧ i = 9) → w1 c i = mi c i) → w1 171 p = x → (∀ i, i < e → w1 171 (p + 1 + i) = mi 171 (t + i)) → w1 170 9 = nI (p + (1 + w)) → mm_WQ (mm_call mm_ms (mm_tb L xs) (d + 1)) (mm_tb L xs) mm_m79 (mm_li mm_m79) Q 26 [some (mm_R 170), some (mm_I (nI w)), some (mm_I x), some (mm_I (nI p)), some (mm_I (nI e))] [] w1 ml := by
    intro j
    induction j with
    | zero =>
      intro e w1 he h1 h2 h3 h4
      obtain rfl : e = w := by omega
      have e8 : w1 170 8 = nI (t + e) := (h1 170 8 (by omega) (by omega)).trans h8
      refine bk_X6_storeLink_C_26 (mm_call_m _) (fun _ => ?_) (fun z => absurd (Int32.le_refl _) z)
      rw [e8, nI_sb (by omega)]
      exact hQ _ (fun c i q q2 => (mm_u_o (by omega)).trans (h1 c i (by omega) (by omega))) ((mm_u_e (by decide)).trans h2) (fun i hi => (mm_u_e (by decide)).trans (h3 i hi)) mm_u_s ((mm_u_f (by decide)).trans h4)
    | succ j ih =>
      intro e w1 he h1 h2 h3 h4
      have e8 : w1 170 8 = nI (t + w) := (h1 170 8 (by omega) (by omega)).trans h8
      refine bk_X6_storeLink_C_26 (mm_call_m _) (fun z => ?_) (fun _ => ?_)
      · have := mm_leI z
        rw [mm_tI (by omega), mm_tI (by omega)] at this
        omega
      · rw [e8, nI_sb (show t + w < 2 ^ 31 by omega), nI_a (show t + e < 2 ^ 31 by omega), show nI p + 1 = nI (p + 1) from (nI_succ p).symm, nI_a (show p + 1 + e < 2 ^ 31 by omega)]
        refine sm_cell_C (by omega) (bk_X6_storeLink_C_52 (mm_call_m _) (sm_set_C (by omega) (bk_X6_storeLink_C_55 (mm_call_m _) ?_)))
        rw [show nI e + 1 = nI (e + 1) from (nI_succ e).symm]
        have ea : w1 171 (t + e) = mi 171 (t + e) := h1 171 _ (by omega) (by omega)
        refine ih (e + 1) _ (by omega) (fun c i q q2 => ?_) ?_ (fun i hi => ?_) ?_
        · rw [mm_u_o (by omega)]
          exact h1 c i (by omega) q2
        · rw [mm_u_f (by omega)]
          exact h2
        · by_cases q : i = e
          · rw [q, mm_u_s, ea]
          · rw [mm_u_f (by omega)]
            exact h3 i (by omega)
        · rw [mm_u_e (by decide)]
          exact h4
  refine sm_set_C (by omega) (bk_X6_storeLink_C_23 (mm_call_m _) ?_)
  exact hl w 0 _ (by omega) (fun c i q q2 => by rw [mm_u_o (by omega), mm_u_o q2]) mm_u_s (fun i hi => absurd hi (Nat.not_lt_zero _)) ((mm_u_e (by decide)).trans mm_u_s)
end MMT
