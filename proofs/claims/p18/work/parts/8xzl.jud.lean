/-! ===== the machine of copies: a node ends ===== -/
/-- wv cells were pushed at t; the heap ends at p' -/
def RPf (w w' : mm_P) (t wv p p' : Nat) : Prop := (∀ c i, ¬ (c = 171 ∧ ((t ≤ i ∧ i < t + wv) ∨ (p ≤ i ∧ i < p'))) → ¬ (c = 170 ∧ (i = 8 ∨ i = 9)) → ¬ (c = 162 ∧ i = 3) → w' c i = w c i) ∧ w' 170 8 = nI (t + wv) ∧ w' 170 9 = nI p'
section MMT
variable {L : Nat} {xs : Nat → Int32} {d : Nat} {Q : mm_QQ} {mi : mm_P} {ml : mm_G} {lim : Nat × Nat} {NB ND NF : Nat}
theorem tf_push {t p : Nat} {w : mm_P} {y : Int32} (h : ∀ c i, ¬ (c = 170 ∧ i = 8) → w c i = mi c i) (h9 : mi 170 9 = nI p) : RPf mi (mm_u (mm_u w 171 t y) 170 8 (nI (t + 1))) t 1 p p ∧ mm_u (mm_u w 171 t y) 170 8 (nI (t + 1)) 171 t = y ∧ mm_u (mm_u w 171 t y) 170 8 (nI (t + 1)) 162 3 = mi 162 3 := by
  refine ⟨⟨fun c i a b e => ?_, mm_u_s, ?_⟩, ?_, ?_⟩
  · rw [mm_u_o (by omega), mm_u_o (by omega)]
    exact h c i (by omega)
  · rw [mm_u_f (by decide), mm_u_e (by decide), h 170 9 (by omega)]
    exact h9
  · rw [mm_u_e (by decide), mm_u_s]
  · rw [mm_u_e (by decide), mm_u_e (by decide)]
    exact h 162 3 (by omega)
/-- leaves -/
theorem tf_0 {n t p k : Nat} (hK : KW NB ND NF mi) (hn : n < ND) (h8 : mi 170 8 = nI t) (ht : t + 16 ≤ 4096) (h9 : mi 170 9 = nI p) (hk : k = 0 ∨ k = 1 ∨ k = 9) (hQ : ∀ y w', (((k = 0 ∨ k = 1) ∧ y = mi 6 (4 * n)) ∨ (k = 9 ∧ y = 0)) → RPf mi w' t 1 p p → w' 171 t = y → w' 162 3 = mi 162 3 → Q none w' ml) : mm_cq (mm_call mm_ms (mm_tb L xs) (d + 6)) 74 [mm_R 170, mm_I (nI n), mm_I (nI k)] mi ml Q := by
  have hND := hK.2.2.1
  have hp : ∀ y, _ := fun y => tf_push (mi := mi) (w := mi) (t := t) (p := p) (y := y) (fun _ _ _ => rfl) h9
  rcases hk with rfl | rfl | rfl
  · refine fe_0 (sx_wantedAt (i := 0) hK.1.2.1 hND hn (by decide) (bk_X6_finishNode_C_82 (mm_call_m _) (sm_push_C h8 (by omega) (bk_X6_finishNode_C_85 (mm_call_m _) (bk_X6_finishNode_C_217 (mm_call_m _) (hQ _ _ (.inl ⟨.inl rfl, rfl⟩) (hp _).1 (hp _).2.1 (hp _).2.2))))))
  · refine fe_1 (sx_wantedAt (i := 0) hK.1.2.1 hND hn (by decide) (bk_X6_finishNode_C_82 (mm_call_m _) (sm_push_C h8 (by omega) (bk_X6_finishNode_C_85 (mm_call_m _) (bk_X6_finishNode_C_217 (mm_call_m _) (hQ _ _ (.inl ⟨.inr rfl, rfl⟩) (hp _).1 (hp _).2.1 (hp _).2.2))))))
  · exact fe_9 (sm_push_C h8 (by omega) (bk_X6_finishNode_C_172 (mm_call_m _) (bk_X6_finishNode_C_217 (mm_call_m _) (hQ _ _ (.inr ⟨rfl, rfl⟩) (hp _).1 (hp _).2.1 (hp _).2.2))))
/-- ARGUMENT -/
theorem tf_arg {n t p o b wa N ci : Nat} (h8 : mi 170 8 = nI t) (ht : t + wa ≤ 4096) (h9 : mi 170 9 = nI p) (h11 : mi 170 11 = nI (o + 1)) (ho : o < 30) (h175 : mi 175 o = nI b) (h174 : mi 174 o = nI ci) (h31 : mi 31 12 = nI N) (hN : N ≤ 60) (hi : ci < N) (h36 : mi 36 ci = nI wa) (hb : b + wa ≤ t) (hQ : ∀ w', RPf mi w' t wa p p → (∀ i, i < wa → w' 171 (t + i) = mi 171 (b + i)) → w' 162 3 = mi 162 3 → Q none w' ml) : mm_cq (mm_call mm_ms (mm_tb L xs) (d + 6)) 74 [mm_R 170, mm_I (nI n), mm_I (nI 2)] mi ml Q := by
  have e : mi 170 11 - 1 = nI o := by rw [h11, mm_dec' o (by omega)]
  refine fe_2 (en_X6_pushArgument_C (bk_X6_pushArgument_C_0 (mm_call_m _) (fun z => ?_) (fun _ z => ?_) (fun _ _ => ?_) (fun _ _ => ?_) (fun _ _ => ?_)))
  · rw [e] at z
    have := mm_ltI z
    rw [mm_tI (by omega), mm_tt0] at this
    omega
  · rw [e] at z
    have := mm_leI z
    rw [mm_tI (by omega), mm_t30] at this
    omega
  · rw [e]
    exact vp_in_nI ho (by decide)
  · rw [e]
    exact vp_in_nI ho (by decide)
  · rw [e, nI_clamp (by omega), h174, h175]
    refine sf_aw h31 hN hi (bk_X6_pushArgument_C_34 (mm_call_m _) ?_)
    rw [h36]
    exact sf_from h8 ht (by omega) (.inl hb) (fun w' g1 g2 g3 => bk_X6_pushArgument_C_37 (mm_call_m _) (bk_X6_finishNode_C_92 (mm_call_m _) (bk_X6_finishNode_C_217 (mm_call_m _) (hQ w' ⟨fun c i q q2 q3 => g1 c i (by omega) (by omega), g3, (g1 170 9 (by omega) (by omega)).trans h9⟩ g2 (g1 162 3 (by omega) (by omega))))))
/-- takePart() -/
theorem tf_part {n t wh wv N ci p0 : Nat} {b : Int32} (hK : KW NB ND NF mi) (hok : okK NB mi n) (hn : n < ND) (hp : (0 : Int) < (f_parts (mi 4 n)).toInt) (hp0 : k_part mi n 0 = nI p0) (hpn : p0 < ND) (h31 : mi 31 12 = nI N) (hN : N ≤ 60) (hi : ci < N) (hwh : mi (39 + ci) p0 = nI wh) (hwv : mi (39 + ci) n = nI wv) (hw : wv ≤ wh) (h8 : mi 170 8 = nI (t + wh)) (ht : t + wh ≤ 4096) (hQ : ∀ w', (∀ c i, ¬ (c = 171 ∧ t ≤ i ∧ i < t + wv) → ¬ (c = 170 ∧ i = 8) → w' c i = mi c i) → (b = 0 → ∀ i, i < wv → w' 171 (t + i) = mi 171 (t + i)) → (¬ b = 0 → ∀ i, i < wv → w' 171 (t + i) = mi 171 (t + (wh - wv) + i)) → w' 170 8 = nI (t + wv) → Q none w' ml) : mm_cq (mm_call mm_ms (mm_tb L xs) (d + 5)) 20 [mm_R 170, mm_I (nI ci), mm_I (nI n), mm_I b] mi ml Q := by
  have hND := hK.2.2.1
  refine en_X1_takePart (bk_X1_takePart_0 (mm_call_m _) (sx_partOf7 (i := 0) hK hn (by decide) hok (fun _ => bk_X1_takePart_11 (mm_call_m _) ?_) (fun z => absurd hp z)))
  rw [hp0]
  refine sf_nw h31 hN hi hK.1.2.1 hND hpn (bk_X1_takePart_14 (mm_call_m _) (sf_nw h31 hN hi hK.1.2.1 hND hn (bk_X1_takePart_22 (mm_call_m _) (fun z => ?_) (fun z => ?_))))
  · rw [hwh, hwv]
    exact sf_keep (s := t) (la := wh) (fr := 0) (w := wv) h8 (by omega) ht (fun w' g1 g2 g3 => bk_X1_takePart_45 (mm_call_m _) (hQ w' g1 (fun _ => g2) (fun q => absurd z q) g3))
  · have es : nI wh - nI wv = nI (wh - wv) := by
      have := nI_sb (a := wh - wv) (b := wv) (by omega)
      rw [show wh - wv + wv = wh by omega] at this
      exact this
    rw [hwh, hwv, es]
    exact sf_keep (s := t) (la := wh) (fr := wh - wv) (w := wv) h8 (by omega) ht (fun w' g1 g2 g3 => bk_X1_takePart_45 (mm_call_m _) (hQ w' g1 (fun q => absurd q z) (fun _ => g2) g3))
/-- FIRST, SECOND -/
theorem tf_78 {n t p wh wv N ci p0 o k : Nat} (hk : k = 7 ∨ k = 8) (hK : KW NB ND NF mi) (hok : okK NB mi n) (hn : n < ND) (hp : (0 : Int) < (f_parts (mi 4 n)).toInt) (hp0 : k_part mi n 0 = nI p0) (hpn : p0 < ND) (h31 : mi 31 12 = nI N) (hN : N ≤ 60) (hi : ci < N) (hwh : mi (39 + ci) p0 = nI wh) (hwv : mi (39 + ci) n = nI wv) (hw : wv ≤ wh) (h8 : mi 170 8 = nI (t + wh)) (ht : t + wh ≤ 4096) (h9 : mi 170 9 = nI p) (h11 : mi 170 11 = nI (o + 1)) (ho : o < 30) (h174 : mi 174 o = nI ci) (hQ : ∀ w', RPf mi w' t wv p p → (k = 7 → ∀ i, i < wv → w' 171 (t + i) = mi 171 (t + i)) → (k = 8 → ∀ i, i < wv → w' 171 (t + i) = mi 171 (t + (wh - wv) + i)) → w' 162 3 = mi 162 3 → Q none w' ml) : mm_cq (mm_call mm_ms (mm_tb L xs) (d + 6)) 74 [mm_R 170, mm_I (nI n), mm_I (nI k)] mi ml Q := by
  have hR : ∀ w' : mm_P, (∀ c i, ¬ (c = 171 ∧ t ≤ i ∧ i < t + wv) → ¬ (c = 170 ∧ i = 8) → w' c i = mi c i) → w' 170 8 = nI (t + wv) → RPf mi w' t wv p p ∧ w' 162 3 = mi 162 3 := fun w' g1 g3 => ⟨⟨fun c i q q2 q3 => g1 c i (by omega) (by omega), g3, (g1 170 9 (by omega) (by omega)).trans h9⟩, g1 162 3 (by omega) (by omega)⟩
  rcases hk with rfl | rfl
  · refine fe_7 (sm_unit_C h11 ho (bk_X6_finishNode_C_146 (mm_call_m _) ?_))
    rw [h174]
    exact tf_part hK hok hn hp hp0 hpn h31 hN hi hwh hwv hw h8 ht (fun w' g1 g2 _ g4 => bk_X6_finishNode_C_151 (mm_call_m _) (bk_X6_finishNode_C_217 (mm_call_m _) (hQ w' (hR w' g1 g4).1 (fun _ => g2 rfl) (fun q => absurd q (by decide)) (hR w' g1 g4).2)))
  · refine fe_8 (sm_unit_C h11 ho (bk_X6_finishNode_C_159 (mm_call_m _) ?_))
    rw [h174]
    exact tf_part hK hok hn hp hp0 hpn h31 hN hi hwh hwv hw h8 ht (fun w' g1 _ g3 g4 => bk_X6_finishNode_C_164 (mm_call_m _) (bk_X6_finishNode_C_217 (mm_call_m _) (hQ w' (hR w' g1 g4).1 (fun q => absurd q (by decide)) (fun _ => g3 (by decide)) (hR w' g1 g4).2)))
/-- EMPTY, TAIL -/
theorem tf_11 {n t p : Nat} (h8 : mi 170 8 = nI (t + 1)) (ht : t + 16 ≤ 4096) (h9 : mi 170 9 = nI p) (hQ : ∀ y w', y = (if mi 171 t = 0 then 1 else 0) → RPf mi w' t 1 p p → w' 171 t = y → w' 162 3 = mi 162 3 → Q none w' ml) : mm_cq (mm_call mm_ms (mm_tb L xs) (d + 6)) 74 [mm_R 170, mm_I (nI n), mm_I (nI 11)] mi ml Q := by
  have hp : ∀ y, _ := fun y => tf_push (mi := mi) (w := mm_u mi 170 8 (nI t)) (t := t) (p := p) (y := y) (fun c i q => mm_u_o q) h9
  exact fe_11 (sm_pop_C h8 (by omega) (bk_X6_finishNode_C_188 (mm_call_m _) (fun z => sm_push_C mm_u_s (by omega) (bk_X6_finishNode_C_199 (mm_call_m _) (bk_X6_finishNode_C_217 (mm_call_m _) (hQ 0 _ (if_neg z).symm (hp _).1 (hp _).2.1 (hp _).2.2)))) (fun z => sm_push_C mm_u_s (by omega) (bk_X6_finishNode_C_199 (mm_call_m _) (bk_X6_finishNode_C_217 (mm_call_m _) (hQ 1 _ (if_pos z).symm (hp _).1 (hp _).2.1 (hp _).2.2))))))
theorem tf_13 {n t p a : Nat} (h8 : mi 170 8 = nI (t + 1)) (ht : t + 16 ≤ 4096) (h9 : mi 170 9 = nI p) (ha : ¬ mi 171 t = 0 → mi 171 t = nI a ∧ a < 8192) (h1 : mi 171 t = 0 → Q none (mm_u (mm_u mi 170 8 (nI t)) 162 5 1) ml) (hQ : ∀ w', ¬ mi 171 t = 0 → RPf mi w' t 1 p p → w' 171 t = mi 171 a → w' 162 3 = mi 162 3 → Q none w' ml) : mm_cq (mm_call mm_ms (mm_tb L xs) (d + 6)) 74 [mm_R 170, mm_I (nI n), mm_I (nI 13)] mi ml Q := by
  have hp : ∀ y, _ := fun y => tf_push (mi := mi) (w := mm_u mi 170 8 (nI t)) (t := t) (p := p) (y := y) (fun c i q => mm_u_o q) h9
  refine fe_13 (en_X6_takeTail_C (bk_X6_takeTail_C_0 (mm_call_m _) (sm_pop_C h8 (by omega) (bk_X6_takeTail_C_4 (mm_call_m _) (fun z => ?_) (fun z => en_X9_end (bk_X9_end_0 (mm_call_m _) (bk_X6_takeTail_C_17 (mm_call_m _) (bk_X6_finishNode_C_214 (mm_call_m _) (bk_X6_finishNode_C_217 (mm_call_m _) (h1 z))))))))))
  obtain ⟨a1, a2⟩ := ha z
  rw [a1]
  refine sm_cell_C a2 (bk_X6_takeTail_C_24 (mm_call_m _) (sm_push_C mm_u_s (by omega) (bk_X6_takeTail_C_27 (mm_call_m _) (bk_X6_finishNode_C_214 (mm_call_m _) (bk_X6_finishNode_C_217 (mm_call_m _) ?_)))))
  exact hQ _ z (hp _).1 ((hp _).2.1.trans (mm_u_e (by decide))) (hp _).2.2
/-- HEAD -/
theorem tf_12 {n t p a wv N ci o : Nat} (hK : KW NB ND NF mi) (hn : n < ND) (h8 : mi 170 8 = nI (t + 1)) (ht : t + 16 ≤ 4096) (h9 : mi 170 9 = nI p) (h11 : mi 170 11 = nI (o + 1)) (ho : o < 30) (h174 : mi 174 o = nI ci) (h31 : mi 31 12 = nI N) (hN : N ≤ 60) (hi : ci < N) (hwv : mi (39 + ci) n = nI wv) (hw : wv ≤ 16) (ha : ¬ mi 171 t = 0 → mi 171 t = nI a ∧ 4096 ≤ a ∧ a + 1 + wv ≤ 8192) (h1 : mi 171 t = 0 → Q none (mm_u (mm_u mi 170 8 (nI t)) 162 5 1) ml) (hQ : ∀ w', ¬ mi 171 t = 0 → RPf mi w' t wv p p → (∀ i, i < wv → w' 171 (t + i) = mi 171 (a + 1 + i)) → w' 162 3 = mi 162 3 → Q none w' ml) : mm_cq (mm_call mm_ms (mm_tb L xs) (d + 6)) 74 [mm_R 170, mm_I (nI n), mm_I (nI 12)] mi ml Q := by
  have hND := hK.2.2.1
  refine fe_12 (en_X6_takeHead_C (bk_X6_takeHead_C_0 (mm_call_m _) (sm_pop_C h8 (by omega) (bk_X6_takeHead_C_4 (mm_call_m _) (fun z => ?_) (fun z => en_X9_end (bk_X9_end_0 (mm_call_m _) (bk_X6_takeHead_C_17 (mm_call_m _) (bk_X6_finishNode_C_207 (mm_call_m _) (bk_X6_finishNode_C_217 (mm_call_m _) (h1 z))))))))))
  obtain ⟨a1, a3, a2⟩ := ha z
  have u : ∀ c i, ¬ (c = 170 ∧ i = 8) → mm_u mi 170 8 (nI t) c i = mi c i := fun c i q => mm_u_o q
  rw [a1, show nI a + 1 = nI (a + 1) from (nI_succ a).symm]
  refine sm_unit_C (o := o) ((u 170 11 (by omega)).trans h11) ho (bk_X6_takeHead_C_27 (mm_call_m _) ?_)
  rw [u 174 o (by omega), h174]
  refine sf_nw ((u 31 12 (by omega)).trans h31) hN hi ((u 3 5 (by omega)).trans hK.1.2.1) hND hn (bk_X6_takeHead_C_31 (mm_call_m _) ?_)
  rw [u (39 + ci) n (by omega), hwv]
  refine sf_from mm_u_s (by omega) (by omega) (.inr (by omega)) (fun w' g1 g2 g3 => bk_X6_takeHead_C_34 (mm_call_m _) (bk_X6_finishNode_C_207 (mm_call_m _) (bk_X6_finishNode_C_217 (mm_call_m _) ?_)))
  exact hQ w' z ⟨fun c i q q2 q3 => (g1 c i (by omega) (by omega)).trans (u c i (by omega)), g3, (g1 170 9 (by omega) (by omega)).trans ((u 170 9 (by omega)).trans h9)⟩ (fun i hi => (g2 i hi).trans (u 171 _ (by omega))) ((g1 162 3 (by omega) (by omega)).trans (u 162 3 (by omega)))
/-- ADD, LESS -/
theorem tf_34 {n t p k : Nat} (hk : k = 3 ∨ k = 4) (h8 : mi 170 8 = nI (t + 2)) (ht : t + 16 ≤ 4096) (h9 : mi 170 9 = nI p) (hQ : ∀ y w', ((k = 3 ∧ y = mi 171 t + mi 171 (t + 1)) ∨ (k = 4 ∧ y = if mi 171 (t + 1) ≤ mi 171 t then 0 else 1)) → RPf mi w' t 1 p p → w' 171 t = y → w' 162 3 = mi 162 3 → Q none w' ml) : mm_cq (mm_call mm_ms (mm_tb L xs) (d + 6)) 74 [mm_R 170, mm_I (nI n), mm_I (nI k)] mi ml Q := by
  have e1 : mm_u (mm_u mi 170 8 (nI (t + 1))) 170 8 (nI t) 170 8 = nI t := mm_u_s
  have hp : ∀ y, _ := fun y => tf_push (mi := mi) (w := mm_u (mm_u mi 170 8 (nI (t + 1))) 170 8 (nI t)) (t := t) (p := p) (y := y) (fun c i q => by rw [mm_u_o q, mm_u_o q]) h9
  rcases hk with rfl | rfl
  · refine fe_3 (sm_pop_C (t := t + 1) h8 (by omega) (bk_X6_finishNode_C_100 (mm_call_m _) (sm_pop_C (t := t) mm_u_s (by omega) (bk_X6_finishNode_C_104 (mm_call_m _) (sm_push_C e1 (by omega) (bk_X6_finishNode_C_108 (mm_call_m _) (bk_X6_finishNode_C_217 (mm_call_m _) (hQ _ _ (.inl ⟨rfl, ?_⟩) (hp _).1 (hp _).2.1 (hp _).2.2))))))))
    rw [mm_u_e (by decide)]
    exact Int32.add_comm _ _
  · refine fe_4 (sm_pop_C (t := t + 1) h8 (by omega) (bk_X6_finishNode_C_116 (mm_call_m _) (sm_pop_C (t := t) mm_u_s (by omega) ?_)))
    rw [mm_u_e (by decide)]
    exact bk_X6_finishNode_C_120 (mm_call_m _) (fun z => sm_push_C e1 (by omega) (bk_X6_finishNode_C_131 (mm_call_m _) (bk_X6_finishNode_C_217 (mm_call_m _) (hQ _ _ (.inr ⟨rfl, (if_pos z).symm⟩) (hp _).1 (hp _).2.1 (hp _).2.2)))) (fun z => sm_push_C e1 (by omega) (bk_X6_finishNode_C_131 (mm_call_m _) (bk_X6_finishNode_C_217 (mm_call_m _) (hQ _ _ (.inr ⟨rfl, (if_neg z).symm⟩) (hp _).1 (hp _).2.1 (hp _).2.2))))
/-- PAIR -/
theorem tf_6 {n : Nat} (hQ : Q none mi ml) : mm_cq (mm_call mm_ms (mm_tb L xs) (d + 6)) 74 [mm_R 170, mm_I (nI n), mm_I (nI 6)] mi ml Q :=
  fe_6 (en_X1_join (bk_X1_join_0 (mm_call_m _) (bk_X6_finishNode_C_138 (mm_call_m _) (bk_X6_finishNode_C_217 (mm_call_m _) hQ))))
/-- LINK -/
theorem tf_10 {n t p wh N ci p0 o l : Nat} (hK : KW NB ND NF mi) (hok : okK NB mi n) (hn : n < ND) (hp : (0 : Int) < (f_parts (mi 4 n)).toInt) (hp0 : k_part mi n 0 = nI p0) (hpn : p0 < ND) (h31 : mi 31 12 = nI N) (hN : N ≤ 60) (hi : ci < N) (hwh : mi (39 + ci) p0 = nI wh) (h8 : mi 170 8 = nI (t + wh + 1)) (ht : t + wh + 1 ≤ 4096) (h9 : mi 170 9 = nI p) (hp4 : 4096 ≤ p ∧ p + (1 + wh) ≤ 8192) (h11 : mi 170 11 = nI (o + 1)) (ho : o < 30) (h174 : mi 174 o = nI ci) (h162 : mi 162 3 = nI l) (hl : l ≤ 100)
    (hQ : l < 100 → ∀ w', RPf mi w' t 1 p (p + (1 + wh)) → w' 171 t = nI p → w' 171 p = mi 171 (t + wh) → (∀ i, i < wh → w' 171 (p + 1 + i) = mi 171 (t + i)) → w' 162 3 = nI (l + 1) → Q none w' ml)
    (h4 : l = 100 → Q none (mm_u (mm_u mi 162 3 (nI (l + 1))) 162 5 4) ml) : mm_cq (mm_call mm_ms (mm_tb L xs) (d + 6)) 74 [mm_R 170, mm_I (nI n), mm_I (nI 10)] mi ml Q := by
  have hND := hK.2.2.1
  refine fe_10 (en_X6_makeLink_C (bk_X6_makeLink_C_0 (mm_call_m _) (en_X9_countLink (bk_X9_countLink_0 (mm_call_m _) ?_))))
  rw [h162, show nI l + 1 = nI (l + 1) from (nI_succ l).symm]
  refine bk_X6_makeLink_C_7 (mm_call_m _) (fun z => ?_) (fun z => en_X9_end (bk_X9_end_0 (mm_call_m _) (bk_X6_makeLink_C_20 (mm_call_m _) (bk_X6_finishNode_C_180 (mm_call_m _) (bk_X6_finishNode_C_217 (mm_call_m _) (h4 ?_))))))
  · have z' := mm_leI z
    rw [mm_tI (by omega), mm_t100] at z'
    refine sm_pop_C (t := t + wh) (by rw [mm_u_e (by decide)]; exact h8) (by omega) (bk_X6_makeLink_C_25 (mm_call_m _) (sm_unit_C (o := o) (by rw [mm_u_f (by decide), mm_u_e (by decide)]; exact h11) ho (bk_X6_makeLink_C_33 (mm_call_m _) ?_)))
    have et1 : mm_u mi 162 3 (nI (l + 1)) 171 (t + wh) = mi 171 (t + wh) := mm_u_e (by decide)
    rw [et1]
    generalize hw2 : mm_u (mm_u mi 162 3 (nI (l + 1))) 170 8 (nI (t + wh)) = w2
    have o2 : ∀ c i, ¬ (c = 162 ∧ i = 3) → ¬ (c = 170 ∧ i = 8) → w2 c i = mi c i := fun c i a b => by rw [← hw2, mm_u_o b, mm_u_o a]
    have hK2 : KW NB ND NF w2 := ⟨⟨(o2 1 1 (by omega) (by omega)).trans hK.1.1, (o2 3 5 (by omega) (by omega)).trans hK.1.2.1, (o2 9 7 (by omega) (by omega)).trans hK.1.2.2⟩, hK.2⟩
    have hok2 : okK NB w2 n := okK_e hok (fun c i q => o2 c i (by omega) (by omega))
    have e8 : w2 170 8 = nI (t + wh) := by rw [← hw2, mm_u_s]
    have e3 : w2 162 3 = nI (l + 1) := by rw [← hw2, mm_u_e (by decide), mm_u_s]
    have e9 : w2 170 9 = nI p := (o2 170 9 (by omega) (by omega)).trans h9
    have ekp : k_part w2 n 0 = nI p0 := by
      rw [← hp0]
      unfold k_part
      rw [o2 4 n (by omega) (by omega), o2 6 _ (by omega) (by omega), o2 6 _ (by omega) (by omega)]
    rw [o2 174 o (by omega) (by omega), h174]
    refine sx_partOf7 (i := 0) hK2 hn (by decide) hok2 (fun _ => bk_X6_makeLink_C_42 (mm_call_m _) ?_) (fun z => absurd (by rw [o2 4 n (by omega) (by omega)]; exact hp) z)
    rw [ekp]
    refine sf_nw ((o2 31 12 (by omega) (by omega)).trans h31) hN hi hK2.1.2.1 hND hpn (bk_X6_makeLink_C_45 (mm_call_m _) ?_)
    rw [o2 (39 + ci) p0 (by omega) (by omega), hwh]
    refine sf_link e8 e9 (by omega) hp4.1 hp4.2 (fun w3 g1 g2 g3 g4 g5 => bk_X6_makeLink_C_49 (mm_call_m _) (sm_push_C (t := t) g4 (by omega) (bk_X6_makeLink_C_52 (mm_call_m _) (bk_X6_finishNode_C_180 (mm_call_m _) (bk_X6_finishNode_C_217 (mm_call_m _) ?_)))))
    refine hQ (by omega) _ ⟨fun c i q q2 q3 => ?_, mm_u_s, ?_⟩ ?_ ?_ (fun i hi => ?_) ?_
    · rw [mm_u_o (by omega), mm_u_o (by omega), g1 c i (by omega) q2]
      exact o2 c i q3 (by omega)
    · rw [mm_u_f (by decide), mm_u_e (by decide)]
      exact g5
    · rw [mm_u_e (by decide), mm_u_s]
    · rw [mm_u_e (by decide), mm_u_f (by omega)]
      exact g2
    · rw [mm_u_e (by decide), mm_u_f (by omega), g3 i hi]
      exact o2 171 _ (by omega) (by omega)
    · rw [mm_u_e (by decide), mm_u_e (by decide), g1 162 3 (by omega) (by omega)]
      exact e3
  · have z' := mm_nleI z
    rw [mm_tI (by omega), mm_t100] at z'
    omega
end MMT
