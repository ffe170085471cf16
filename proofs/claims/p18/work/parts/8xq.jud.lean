/-! ===== the class's machines: small methods ===== -/
theorem mm_t8192 : (8192 : Int32).toInt = 8192 := rfl
theorem mm_t30 : (30 : Int32).toInt = 30 := rfl
theorem mm_t600 : (600 : Int32).toInt = 600 := rfl
theorem mm_t100 : (100 : Int32).toInt = 100 := rfl
section MMT
variable {L : Nat} {xs : Nat → Int32} {d : Nat} {Q : mm_QQ} {mi : mm_P} {ml : mm_G} {lim : Nat × Nat}
/-! the machine L: cells, stack -/
theorem sm_cell_L {a : Nat} (ha : a < 8192) (hQ : Q (some (mm_I (mi 165 a))) mi ml) : mm_cq (mm_call mm_ms (mm_tb L xs) (d + 1)) 83 [mm_R 164, mm_I (nI a)] mi ml Q := by
  refine en_X6_cell_L (bk_X6_cell_L_0 (mm_call_m _) (fun z => ?_) (fun _ z => ?_) (fun _ _ => vp_in_nI ha (by decide)) (fun _ _ => ?_))
  · have := mm_ltI z
    rw [mm_tI (by omega), mm_tt0] at this
    omega
  · have := mm_leI z
    rw [mm_tI (by omega), mm_t8192] at this
    omega
  · rw [nI_clamp (by omega)]
    exact hQ
theorem sm_set_L {a : Nat} {x : Int32} (ha : a < 8192) (hQ : Q none (mm_u mi 165 a x) ml) : mm_cq (mm_call mm_ms (mm_tb L xs) (d + 1)) 84 [mm_R 164, mm_I (nI a), mm_I x] mi ml Q := by
  refine en_X6_setCell_L (bk_X6_setCell_L_0 (mm_call_m _) (fun z => ?_) (fun _ z => ?_) (fun _ _ => vp_in_nI ha (by decide)) (fun _ _ => bk_X6_setCell_L_18 (mm_call_m _) ?_))
  · have := mm_ltI z
    rw [mm_tI (by omega), mm_tt0] at this
    omega
  · have := mm_leI z
    rw [mm_tI (by omega), mm_t8192] at this
    omega
  · rw [nI_clamp (by omega)]
    exact hQ
theorem sm_push_L {t : Nat} {x : Int32} (h8 : mi 164 8 = nI t) (ht : t < 8192) (hQ : Q none (mm_u (mm_u mi 165 t x) 164 8 (nI (t + 1))) ml) : mm_cq (mm_call mm_ms (mm_tb L xs) (d + 2)) 85 [mm_R 164, mm_I x] mi ml Q := by
  refine en_X6_push_L (bk_X6_push_L_0 (mm_call_m _) ?_)
  rw [h8]
  refine sm_set_L ht (bk_X6_push_L_9 (mm_call_m _) ?_)
  rw [mm_u_e (by decide), h8, show nI t + 1 = nI (t + 1) from (nI_succ t).symm]
  exact hQ
theorem sm_pop_L {t : Nat} (h8 : mi 164 8 = nI (t + 1)) (ht : t < 8192) (hQ : Q (some (mm_I (mi 165 t))) (mm_u mi 164 8 (nI t)) ml) : mm_cq (mm_call mm_ms (mm_tb L xs) (d + 2)) 86 [mm_R 164] mi ml Q := by
  refine en_X6_pop_L (bk_X6_pop_L_0 (mm_call_m _) ?_)
  rw [show mi 164 8 - 1 = nI t by rw [h8, mm_dec' t (by omega)]]
  refine sm_cell_L ht (bk_X6_pop_L_18 (mm_call_m _) ?_)
  rw [mm_u_e (by decide)]
  exact hQ
theorem sm_unit_L {o : Nat} (h11 : mi 164 11 = nI (o + 1)) (ho : o < 30) (hQ : Q (some (mm_I (mi 168 o))) mi ml) : mm_cq (mm_call mm_ms (mm_tb L xs) (d + 1)) 72 [mm_R 164] mi ml Q := by
  have e : mi 164 11 - 1 = nI o := by rw [h11, mm_dec' o (by omega)]
  refine en_X6_unit_L (bk_X6_unit_L_0 (mm_call_m _) (fun z => ?_) (fun _ z => ?_) (fun _ _ => ?_) (fun _ _ => ?_))
  · rw [e] at z
    have := mm_ltI z
    rw [mm_tI (by omega), mm_tt0] at this
    omega
  · rw [e] at z
    have := mm_leI z
    rw [mm_tI (by omega), mm_t30] at this
    omega
  · rw [e]
    exact vp_in_nI ho (by decide)
  · rw [e, nI_clamp (by omega)]
    exact hQ
theorem sm_begin_L {s k : Nat} {n : Int32} (h2 : mi 162 2 = nI s) (h10 : mi 164 10 = nI k) (hs : s ≤ 600) (hk : k < 600) (h1 : s < 600 → Q none (mm_u (mm_u (mm_u (mm_u mi 162 2 (nI (s + 1))) 166 k n) 167 k 0) 164 10 (nI (k + 1))) ml) (h0 : s = 600 → Q none (mm_u (mm_u mi 162 2 (nI (s + 1))) 162 5 2) ml) : mm_cq (mm_call mm_ms (mm_tb L xs) (d + 2)) 68 [mm_R 164, mm_I n] mi ml Q := by
  have e2 : mi 162 2 + 1 = nI (s + 1) := by rw [h2]; exact (nI_succ s).symm
  refine en_X6_beginNode_L (bk_X6_beginNode_L_0 (mm_call_m _) (en_X9_countStep (bk_X9_countStep_0 (mm_call_m _) ?_)))
  rw [e2]
  have u10 : mm_u mi 162 2 (nI (s + 1)) 164 10 = nI k := (mm_u_e (by decide)).trans h10
  have h30 : s = 600 → mm_WQ (mm_call mm_ms (mm_tb L xs) (d + 1)) (mm_tb L xs) mm_m68 (mm_li mm_m68) Q 30 [some (mm_R 164), some (mm_I n)] [] (mm_u mi 162 2 (nI (s + 1))) ml := fun q => bk_X6_beginNode_L_30 (mm_call_m _) (en_X9_end (bk_X9_end_0 (mm_call_m _) (bk_X6_beginNode_L_38 (mm_call_m _) (h0 q))))
  have hlo : ¬ mm_u mi 162 2 (nI (s + 1)) 164 10 < 0 := fun z => by
    rw [u10] at z
    have := mm_ltI z
    rw [mm_tI (by omega), mm_tt0] at this
    omega
  refine bk_X6_beginNode_L_7 (mm_call_m _) (fun z => h30 ?_) (fun _ z => absurd z hlo) (fun _ _ _ => ?_) (fun _ _ _ => ?_) (fun z _ _ => ?_) (fun _ _ z => ?_)
  · have := mm_ltI z
    rw [mm_tI (by omega), mm_t600] at this
    omega
  · rw [u10]
    exact vp_in_nI hk (by decide)
  · rw [u10]
    exact vp_in_nI hk (by decide)
  · rw [u10, nI_clamp (by omega), show nI k + 1 = nI (k + 1) from (nI_succ k).symm]
    refine h1 ?_
    have := mm_nltI z
    rw [mm_tI (by omega), mm_t600] at this
    omega
  · refine absurd ?_ z
    rw [u10, Int32.lt_iff_toInt_lt, mm_tI (by omega), mm_t600]
    omega
/-! the machine C: cells, stack -/
theorem sm_cell_C {a : Nat} (ha : a < 8192) (hQ : Q (some (mm_I (mi 171 a))) mi ml) : mm_cq (mm_call mm_ms (mm_tb L xs) (d + 1)) 83 [mm_R 170, mm_I (nI a)] mi ml Q := by
  refine en_X6_cell_C (bk_X6_cell_C_0 (mm_call_m _) (fun z => ?_) (fun _ z => ?_) (fun _ _ => vp_in_nI ha (by decide)) (fun _ _ => ?_))
  · have := mm_ltI z
    rw [mm_tI (by omega), mm_tt0] at this
    omega
  · have := mm_leI z
    rw [mm_tI (by omega), mm_t8192] at this
    omega
  · rw [nI_clamp (by omega)]
    exact hQ
theorem sm_set_C {a : Nat} {x : Int32} (ha : a < 8192) (hQ : Q none (mm_u mi 171 a x) ml) : mm_cq (mm_call mm_ms (mm_tb L xs) (d + 1)) 84 [mm_R 170, mm_I (nI a), mm_I x] mi ml Q := by
  refine en_X6_setCell_C (bk_X6_setCell_C_0 (mm_call_m _) (fun z => ?_) (fun _ z => ?_) (fun _ _ => vp_in_nI ha (by decide)) (fun _ _ => bk_X6_setCell_C_18 (mm_call_m _) ?_))
  · have := mm_ltI z
    rw [mm_tI (by omega), mm_tt0] at this
    omega
  · have := mm_leI z
    rw [mm_tI (by omega), mm_t8192] at this
    omega
  · rw [nI_clamp (by omega)]
    exact hQ
theorem sm_push_C {t : Nat} {x : Int32} (h8 : mi 170 8 = nI t) (ht : t < 8192) (hQ : Q none (mm_u (mm_u mi 171 t x) 170 8 (nI (t + 1))) ml) : mm_cq (mm_call mm_ms (mm_tb L xs) (d + 2)) 85 [mm_R 170, mm_I x] mi ml Q := by
  refine en_X6_push_C (bk_X6_push_C_0 (mm_call_m _) ?_)
  rw [h8]
  refine sm_set_C ht (bk_X6_push_C_9 (mm_call_m _) ?_)
  rw [mm_u_e (by decide), h8, show nI t + 1 = nI (t + 1) from (nI_succ t).symm]
  exact hQ
theorem sm_pop_C {t : Nat} (h8 : mi 170 8 = nI (t + 1)) (ht : t < 8192) (hQ : Q (some (mm_I (mi 171 t))) (mm_u mi 170 8 (nI t)) ml) : mm_cq (mm_call mm_ms (mm_tb L xs) (d + 2)) 86 [mm_R 170] mi ml Q := by
  refine en_X6_pop_C (bk_X6_pop_C_0 (mm_call_m _) ?_)
  rw [show mi 170 8 - 1 = nI t by rw [h8, mm_dec' t (by omega)]]
  refine sm_cell_C ht (bk_X6_pop_C_18 (mm_call_m _) ?_)
  rw [mm_u_e (by decide)]
  exact hQ
theorem sm_unit_C {o : Nat} (h11 : mi 170 11 = nI (o + 1)) (ho : o < 30) (hQ : Q (some (mm_I (mi 174 o))) mi ml) : mm_cq (mm_call mm_ms (mm_tb L xs) (d + 1)) 72 [mm_R 170] mi ml Q := by
  have e : mi 170 11 - 1 = nI o := by rw [h11, mm_dec' o (by omega)]
  refine en_X6_unit_C (bk_X6_unit_C_0 (mm_call_m _) (fun z => ?_) (fun _ z => ?_) (fun _ _ => ?_) (fun _ _ => ?_))
  · rw [e] at z
    have := mm_ltI z
    rw [mm_tI (by omega), mm_tt0] at this
    omega
  · rw [e] at z
    have := mm_leI z
    rw [mm_tI (by omega), mm_t30] at this
    omega
  · rw [e]
    exact vp_in_nI ho (by decide)
  · rw [e, nI_clamp (by omega)]
    exact hQ
theorem sm_begin_C {s k : Nat} {n : Int32} (h2 : mi 162 2 = nI s) (h10 : mi 170 10 = nI k) (hs : s ≤ 600) (hk : k < 600) (h1 : s < 600 → Q none (mm_u (mm_u (mm_u (mm_u mi 162 2 (nI (s + 1))) 172 k n) 173 k 0) 170 10 (nI (k + 1))) ml) (h0 : s = 600 → Q none (mm_u (mm_u mi 162 2 (nI (s + 1))) 162 5 2) ml) : mm_cq (mm_call mm_ms (mm_tb L xs) (d + 2)) 68 [mm_R 170, mm_I n] mi ml Q := by
  have e2 : mi 162 2 + 1 = nI (s + 1) := by rw [h2]; exact (nI_succ s).symm
  refine en_X6_beginNode_C (bk_X6_beginNode_C_0 (mm_call_m _) (en_X9_countStep (bk_X9_countStep_0 (mm_call_m _) ?_)))
  rw [e2]
  have u10 : mm_u mi 162 2 (nI (s + 1)) 170 10 = nI k := (mm_u_e (by decide)).trans h10
  have h30 : s = 600 → mm_WQ (mm_call mm_ms (mm_tb L xs) (d + 1)) (mm_tb L xs) mm_m68 (mm_li mm_m68) Q 30 [some (mm_R 170), some (mm_I n)] [] (mm_u mi 162 2 (nI (s + 1))) ml := fun q => bk_X6_beginNode_C_30 (mm_call_m _) (en_X9_end (bk_X9_end_0 (mm_call_m _) (bk_X6_beginNode_C_38 (mm_call_m _) (h0 q))))
  have hlo : ¬ mm_u mi 162 2 (nI (s + 1)) 170 10 < 0 := fun z => by
    rw [u10] at z
    have := mm_ltI z
    rw [mm_tI (by omega), mm_tt0] at this
    omega
  refine bk_X6_beginNode_C_7 (mm_call_m _) (fun z => h30 ?_) (fun _ z => absurd z hlo) (fun _ _ _ => ?_) (fun _ _ _ => ?_) (fun z _ _ => ?_) (fun _ _ z => ?_)
  · have := mm_ltI z
    rw [mm_tI (by omega), mm_t600] at this
    omega
  · rw [u10]
    exact vp_in_nI hk (by decide)
  · rw [u10]
    exact vp_in_nI hk (by decide)
  · rw [u10, nI_clamp (by omega), show nI k + 1 = nI (k + 1) from (nI_succ k).symm]
    refine h1 ?_
    have := mm_nltI z
    rw [mm_tI (by omega), mm_t600] at this
    omega
  · refine absurd ?_ z
    rw [u10, Int32.lt_iff_toInt_lt, mm_tI (by omega), mm_t600]
    omega
/-! the machine with letters: values of one cell -/
theorem sm_two {p : Nat} {x y : Int32} (h9 : mi 164 9 = nI p) (hp : p + 2 ≤ 8192) (hQ : Q (some (mm_I (nI p))) (mm_u (mm_u (mm_u mi 164 9 (nI (p + 2))) 165 p x) 165 (p + 1) y) ml) : mm_cq (mm_call mm_ms (mm_tb L xs) (d + 2)) 89 [mm_R 164, mm_I x, mm_I y] mi ml Q := by
  refine en_X6_storeTwo (bk_X6_storeTwo_0 (mm_call_m _) ?_)
  rw [h9, show nI p + 2 = nI (p + 2) from nI_a (a := p) (b := 2) (by omega)]
  refine sm_set_L (by omega) (bk_X6_storeTwo_21 (mm_call_m _) ?_)
  rw [show nI p + 1 = nI (p + 1) from (nI_succ p).symm]
  exact sm_set_L (by omega) (bk_X6_storeTwo_29 (mm_call_m _) hQ)
/-- join(): a PAIR -/
theorem sm_join {t p : Nat} (h8 : mi 164 8 = nI (t + 2)) (ht : t + 2 ≤ 8192) (h9 : mi 164 9 = nI p) (hp : p + 2 ≤ 8192) (hQ : Q none (mm_u (mm_u (mm_u (mm_u (mm_u (mm_u (mm_u mi 164 8 (nI (t + 1))) 164 8 (nI t)) 164 9 (nI (p + 2))) 165 p (mi 165 t)) 165 (p + 1) (mi 165 (t + 1))) 165 t (nI p)) 164 8 (nI (t + 1))) ml) : mm_cq (mm_call mm_ms (mm_tb L xs) (d + 3)) 62 [mm_R 164] mi ml Q := by
  refine en_X5_join (bk_X5_join_0 (mm_call_m _) (sm_pop_L (t := t + 1) h8 (by omega) (bk_X5_join_4 (mm_call_m _) (sm_pop_L (t := t) mm_u_s (by omega) (bk_X5_join_9 (mm_call_m _) ?_)))))
  rw [mm_u_e (by decide)]
  refine sm_two (p := p) ?_ hp (bk_X5_join_17 (mm_call_m _) (sm_push_L (t := t) ?_ (by omega) (bk_X5_join_20 (mm_call_m _) hQ)))
  · rw [mm_u_f (by decide), mm_u_f (by decide)]
    exact h9
  · rw [mm_u_e (by decide), mm_u_e (by decide), mm_u_f (by decide), mm_u_s]
/-- takePart(): a part of a PAIR -/
theorem sm_part {t a : Nat} {x1 x2 b : Int32} (h8 : mi 164 8 = nI (t + 1)) (ht : t < 8192) (hv : mi 165 t = nI a) (ha : a + 1 < 8192) (h0 : b = 0 → Q none (mm_u (mm_u (mm_u mi 164 8 (nI t)) 165 t (mi 165 a)) 164 8 (nI (t + 1))) ml) (h1 : ¬ b = 0 → Q none (mm_u (mm_u (mm_u mi 164 8 (nI t)) 165 t (mi 165 (a + 1))) 164 8 (nI (t + 1))) ml) : mm_cq (mm_call mm_ms (mm_tb L xs) (d + 3)) 63 [mm_R 164, mm_I x1, mm_I x2, mm_I b] mi ml Q := by
  refine en_X5_takePart (bk_X5_takePart_0 (mm_call_m _) (sm_pop_L h8 ht (bk_X5_takePart_4 (mm_call_m _) (fun z => ?_) (fun z => ?_)))) <;> rw [hv]
  · refine sm_cell_L (by omega) (bk_X5_takePart_24 (mm_call_m _) (sm_push_L (t := t) mm_u_s ht (bk_X5_takePart_27 (mm_call_m _) ?_)))
    rw [mm_u_e (by decide)]
    exact h0 z
  · rw [show nI a + 1 = nI (a + 1) from (nI_succ a).symm]
    refine sm_cell_L (by omega) (bk_X5_takePart_24 (mm_call_m _) (sm_push_L (t := t) mm_u_s ht (bk_X5_takePart_27 (mm_call_m _) ?_)))
    rw [mm_u_e (by decide)]
    exact h1 z
/-- pushFrom() of one cell -/
theorem sm_from {t a : Nat} (h8 : mi 164 8 = nI t) (ht : t < 8192) (ha : a < 8192) (hQ : Q none (mm_u (mm_u mi 165 t (mi 165 a)) 164 8 (nI (t + 1))) ml) : mm_cq (mm_call mm_ms (mm_tb L xs) (d + 3)) 87 [mm_R 164, mm_I (nI a), mm_I 1] mi ml Q := by
  refine en_X6_pushFrom_L (bk_X6_pushFrom_L_0 (mm_call_m _) (bk_X6_pushFrom_L_2 (mm_call_m _) (fun z => absurd z (by decide)) (fun _ => ?_)))
  rw [show nI a + 0 = nI a from nI_a (a := a) (b := 0) (by omega)]
  exact sm_cell_L ha (bk_X6_pushFrom_L_15 (mm_call_m _) (sm_push_L h8 ht (bk_X6_pushFrom_L_18 (mm_call_m _) (bk_X6_pushFrom_L_2 (mm_call_m _) (fun _ => hQ) (fun z => absurd (by decide) z)))))
/-- keep() at a function's end: the value takes the place of the argument -/
theorem sm_keep {t : Nat} (h8 : mi 164 8 = nI (t + 2)) (ht : t + 2 ≤ 8192) (hQ : Q none (mm_u (mm_u mi 165 t (mi 165 (t + 1))) 164 8 (nI (t + 1))) ml) : mm_cq (mm_call mm_ms (mm_tb L xs) (d + 2)) 88 [mm_R 164, mm_I (1 + 1), mm_I 1, mm_I 1] mi ml Q := by
  have e8 : mi 164 8 - (1 + 1) = nI t := by
    rw [h8]
    refine Int32.toInt_inj.mp ?_
    have e2 : ((1 : Int32) + 1).toInt = 2 := rfl
    rw [Int32.toInt_sub, mm_tI (by omega), e2, mm_tI (by omega), Int.bmod_eq_of_le] <;> omega
  refine en_X6_keep_L (bk_X6_keep_L_0 (mm_call_m _) ?_)
  rw [e8]
  refine bk_X6_keep_L_11 (mm_call_m _) (fun z => absurd z (by decide)) (fun _ => ?_)
  rw [show nI t + 1 + 0 = nI (t + 1) by rw [show nI t + 1 = nI (t + 1) from (nI_succ t).symm]; exact nI_a (a := t + 1) (b := 0) (by omega), show nI t + 0 = nI t from nI_a (a := t) (b := 0) (by omega)]
  refine sm_cell_L (by omega) (bk_X6_keep_L_34 (mm_call_m _) (sm_set_L (by omega) (bk_X6_keep_L_37 (mm_call_m _) (bk_X6_keep_L_11 (mm_call_m _) (fun _ => ?_) (fun z => absurd (by decide) z)))))
  rw [show nI t + 1 = nI (t + 1) from (nI_succ t).symm]
  exact hQ
/-- storeLink() of a head of one cell -/
theorem sm_link {t p : Nat} {x : Int32} (h8 : mi 164 8 = nI (t + 1)) (ht : t < 8192) (h9 : mi 164 9 = nI p) (hp : p + 2 ≤ 8192) (hpt : t < p) (hQ : Q (some (mm_I (nI p))) (mm_u (mm_u (mm_u (mm_u mi 164 9 (nI (p + 2))) 165 p x) 165 (p + 1) (mi 165 t)) 164 8 (nI t)) ml) : mm_cq (mm_call mm_ms (mm_tb L xs) (d + 2)) 79 [mm_R 164, mm_I 1, mm_I x] mi ml Q := by
  refine en_X6_storeLink_L (bk_X6_storeLink_L_0 (mm_call_m _) ?_)
  rw [h9, show ((1 : Int32) + 1) = 2 from rfl, show nI p + 2 = nI (p + 2) from nI_a (a := p) (b := 2) (by omega)]
  refine sm_set_L (by omega) (bk_X6_storeLink_L_23 (mm_call_m _) (bk_X6_storeLink_L_26 (mm_call_m _) (fun z => absurd z (by decide)) (fun _ => ?_)))
  have e8 : mm_u (mm_u mi 164 9 (nI (p + 2))) 165 p x 164 8 = nI (t + 1) := by
    rw [mm_u_e (by decide), mm_u_f (by decide)]
    exact h8
  have e8' : mm_u (mm_u mi 164 9 (nI (p + 2))) 165 p x 164 8 - 1 = nI t := by rw [e8, mm_dec' t (by omega)]
  rw [e8', show nI t + 0 = nI t from nI_a (a := t) (b := 0) (by omega), show nI p + 1 + 0 = nI (p + 1) by rw [show nI p + 1 = nI (p + 1) from (nI_succ p).symm]; exact nI_a (a := p + 1) (b := 0) (by omega)]
  refine sm_cell_L ht (bk_X6_storeLink_L_52 (mm_call_m _) (sm_set_L (by omega) (bk_X6_storeLink_L_55 (mm_call_m _) (bk_X6_storeLink_L_26 (mm_call_m _) (fun _ => ?_) (fun z => absurd (by decide) z)))))
  rw [show mm_u (mm_u mi 164 9 (nI (p + 2))) 165 p x 165 t = mi 165 t from (mm_u_f (by omega)).trans (mm_u_e (by decide)), show mm_u (mm_u (mm_u mi 164 9 (nI (p + 2))) 165 p x) 165 (p + 1) (mi 165 t) 164 8 = mm_u (mm_u mi 164 9 (nI (p + 2))) 165 p x 164 8 from mm_u_e (by decide), e8']
  exact hQ
end MMT
