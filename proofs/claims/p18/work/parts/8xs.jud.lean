/-! ===== the machine with letters: a turn ===== -/
section MMT
variable {L : Nat} {xs : Nat → Int32} {d : Nat} {Q : mm_QQ} {mi : mm_P} {ml : mm_G} {lim : Nat × Nat} {NB ND NF : Nat}
/-- takeTurn() -/
theorem tn_turn {k n τ : Nat} (hK : KW NB ND NF mi) (hok : okK NB mi n) (hn : n < ND) (h10 : mi 164 10 = nI (k + 1)) (hk : k < 600) (h166 : mi 166 k = nI n) (h167 : mi 167 k = nI τ) (hτ : τ < 3)
    (hIf : mi 4 n = 5 → mm_cq (mm_call mm_ms (mm_tb L xs) (d + 6)) 70 [mm_R 164, mm_I (nI n), mm_I (nI τ)] (mm_u mi 167 k (nI (τ + 1))) ml (fun o a b => o = none ∧ Q none a b))
    (hCall : mi 4 n = 14 → mm_cq (mm_call mm_ms (mm_tb L xs) (d + 6)) 71 [mm_R 164, mm_I (nI n), mm_I (nI τ)] (mm_u mi 167 k (nI (τ + 1))) ml (fun o a b => o = none ∧ Q none a b))
    (hPart : ¬ mi 4 n = 5 → ¬ mi 4 n = 14 → (τ : Int) < (f_parts (mi 4 n)).toInt → mm_cq (mm_call mm_ms (mm_tb L xs) (d + 6)) 68 [mm_R 164, mm_I (k_part mi n τ)] (mm_u mi 167 k (nI (τ + 1))) ml (fun o a b => o = none ∧ Q none a b))
    (hFin : ¬ mi 4 n = 5 → ¬ mi 4 n = 14 → ¬ (τ : Int) < (f_parts (mi 4 n)).toInt → mm_cq (mm_call mm_ms (mm_tb L xs) (d + 6)) 74 [mm_R 164, mm_I (nI n), mm_I (mi 4 n)] (mm_u (mm_u mi 167 k (nI (τ + 1))) 164 10 (nI k)) ml (fun o a b => o = none ∧ Q none a b)) : mm_cq (mm_call mm_ms (mm_tb L xs) (d + 7)) 69 [mm_R 164] mi ml Q := by
  have hND := hK.2.2.1
  have e10 : mi 164 10 - 1 = nI k := by rw [h10, mm_dec' k (by omega)]
  have vk : vp_in (nI k) 600 := vp_in_nI hk (by decide)
  have ek : (nI k).toNatClampNeg = k := nI_clamp (by omega)
  have hlo : ¬ nI k < 0 := fun z => by
    have := mm_ltI z
    rw [mm_tI (by omega), mm_tt0] at this
    omega
  have hhi : nI k < 600 := by
    rw [Int32.lt_iff_toInt_lt, mm_tI (by omega), mm_t600]
    omega
  refine en_X6_takeTurn_L (bk_X6_takeTurn_L_0 (mm_call_m _) (fun z => absurd (by rw [e10] at z; exact z) hlo) (fun _ _ => by rw [e10]; exact vk) (fun _ _ => by rw [e10]; exact vk) (fun _ _ => by rw [e10]; exact vk) (fun _ _ => ?_) (fun _ z => absurd (by rw [e10]; exact hhi) z))
  rw [e10, ek, h166, h167, show nI τ + 1 = nI (τ + 1) from (nI_succ τ).symm]
  generalize hW1 : mm_u mi 167 k (nI (τ + 1)) = w1 at hIf hCall hPart hFin
  have o1 : ∀ c i, ¬ c = 167 → w1 c i = mi c i := fun c i q => by rw [← hW1]; exact mm_u_e q
  have hK1 : KW NB ND NF w1 := ⟨⟨(o1 1 1 (by decide)).trans hK.1.1, (o1 3 5 (by decide)).trans hK.1.2.1, (o1 9 7 (by decide)).trans hK.1.2.2⟩, hK.2⟩
  have hok1 : okK NB w1 n := okK_e hok (fun c i q => o1 c i (by omega))
  have hkd := hok.1
  have hkp : k_part w1 n τ = k_part mi n τ := by
    unfold k_part
    rw [o1 4 n (by decide), o1 6 _ (by decide), o1 6 _ (by decide)]
  have h129 : ∀ {x1 x2 x3 x4 : Int32} (a : mm_P) (b : mm_G), Q none a b → mm_WQ (mm_call mm_ms (mm_tb L xs) (d + 6)) (mm_tb L xs) mm_m69 (mm_li mm_m69) Q 129 [some (mm_R 164), some (mm_I x1), some (mm_I x2), some (mm_I x3), some (mm_I x4)] [] a b := fun {x1 x2 x3 x4} a b q => bk_X6_takeTurn_L_129 (mm_call_m _) q
  refine sx_kind7 hK1 hn ?_
  rw [o1 4 n (by decide)]
  refine bk_X6_takeTurn_L_50 (mm_call_m _) (fun a b => sx_parts7 hkd (bk_X6_takeTurn_L_93 (mm_call_m _) (fun z => ?_) (fun z => ?_))) (fun _ z => mm_cq_m (mm_call_m _) (hCall z) (fun o a b ⟨e, q⟩ => by subst e; exact bk_X6_takeTurn_L_80 (mm_call_m _) (h129 a b q))) (fun z => mm_cq_m (mm_call_m _) (hIf z) (fun o a b ⟨e, q⟩ => by subst e; exact bk_X6_takeTurn_L_64 (mm_call_m _) (h129 a b q)))
  · have z' := mm_leI z
    rw [mm_tI (by omega)] at z'
    rw [show w1 164 10 - 1 = nI k by rw [o1 164 10 (by decide), e10]]
    exact mm_cq_m (mm_call_m _) (hFin a b (by omega)) (fun o a b ⟨e, q⟩ => by subst e; exact h129 a b q)
  · have z' := mm_nleI z
    rw [mm_tI (by omega)] at z'
    refine sx_partOf7 hK1 hn hτ hok1 (fun _ => bk_X6_takeTurn_L_106 (mm_call_m _) ?_) (fun y => absurd (by rw [o1 4 n (by decide)]; omega) y)
    rw [hkp]
    exact mm_cq_m (mm_call_m _) (hPart a b (by omega)) (fun o a b ⟨e, q⟩ => by subst e; exact bk_X6_takeTurn_L_109 (mm_call_m _) (h129 a b q))
/-- takeTurnOfIf() -/
theorem tn_if {n τ t k : Nat} (hK : KW NB ND NF mi) (hok : okK NB mi n) (hn : n < ND) (h5 : mi 4 n = 5) (hτ : τ < 3)
    (h0 : τ = 0 → mm_cq (mm_call mm_ms (mm_tb L xs) (d + 5)) 68 [mm_R 164, mm_I (k_part mi n 0)] mi ml (fun o a b => o = none ∧ Q none a b))
    (h1 : τ = 1 → ∃ t, mi 164 8 = nI (t + 1) ∧ t < 8192 ∧ (mi 165 t = 0 → mm_cq (mm_call mm_ms (mm_tb L xs) (d + 5)) 68 [mm_R 164, mm_I (k_part mi n 2)] (mm_u mi 164 8 (nI t)) ml (fun o a b => o = none ∧ Q none a b)) ∧ (¬ mi 165 t = 0 → mm_cq (mm_call mm_ms (mm_tb L xs) (d + 5)) 68 [mm_R 164, mm_I (k_part mi n 1)] (mm_u mi 164 8 (nI t)) ml (fun o a b => o = none ∧ Q none a b)))
    (h2 : τ = 2 → Q none (mm_u mi 164 10 (mi 164 10 - 1)) ml) : mm_cq (mm_call mm_ms (mm_tb L xs) (d + 6)) 70 [mm_R 164, mm_I (nI n), mm_I (nI τ)] mi ml Q := by
  have hND := hK.2.2.1
  have h3 : (f_parts (mi 4 n)).toInt = 3 := by rw [h5]; rfl
  have h62 : ∀ (a : mm_P) (b : mm_G), Q none a b → mm_WQ (mm_call mm_ms (mm_tb L xs) (d + 5)) (mm_tb L xs) mm_m70 (mm_li mm_m70) Q 62 [some (mm_R 164), some (mm_I (nI n)), some (mm_I (nI τ))] [] a b := fun a b q => bk_X6_takeTurnOfIf_L_62 (mm_call_m _) q
  have en : ∀ {j : Nat}, nI τ = nI j → j < 10 → τ = j := fun q hj => nI_inj (by omega) (by omega) q
  refine en_X6_takeTurnOfIf_L (bk_X6_takeTurnOfIf_L_0 (mm_call_m _) (fun z z2 => ?_) (fun z z2 => ?_) (fun z => ?_))
  · have h0' : ¬ τ = 0 := fun q => z (by rw [q]; rfl)
    have h1' : ¬ τ = 1 := fun q => z2 (by rw [q]; rfl)
    exact h62 _ _ (h2 (by omega))
  · obtain ⟨t, t1, t2, t3, t4⟩ := h1 (en (j := 1) z2 (by decide))
    refine sm_pop_L t1 t2 (bk_X6_takeTurnOfIf_L_35 (mm_call_m _) (fun y => ?_) (fun y => ?_))
    · have hK' : KW NB ND NF (mm_u mi 164 8 (nI t)) := ⟨⟨(mm_u_e (by decide)).trans hK.1.1, (mm_u_e (by decide)).trans hK.1.2.1, (mm_u_e (by decide)).trans hK.1.2.2⟩, hK.2⟩
      have hok' : okK NB (mm_u mi 164 8 (nI t)) n := okK_e hok (fun c i q => mm_u_e (by omega))
      have hkp : k_part (mm_u mi 164 8 (nI t)) n 2 = k_part mi n 2 := by
        unfold k_part
        rw [mm_u_e (by decide), mm_u_e (by decide), mm_u_e (by decide)]
      refine sx_partOf7 (i := 2) hK' hn (by decide) hok' (fun _ => bk_X6_takeTurnOfIf_L_46 (mm_call_m _) ?_) (fun x => absurd (by rw [mm_u_e (by decide), h3]; decide) x)
      rw [hkp]
      exact mm_cq_m (mm_call_m _) (t3 y) (fun o a b ⟨e, q⟩ => by subst e; exact bk_X6_takeTurnOfIf_L_49 (mm_call_m _) (h62 a b q))
    · have hK' : KW NB ND NF (mm_u mi 164 8 (nI t)) := ⟨⟨(mm_u_e (by decide)).trans hK.1.1, (mm_u_e (by decide)).trans hK.1.2.1, (mm_u_e (by decide)).trans hK.1.2.2⟩, hK.2⟩
      have hok' : okK NB (mm_u mi 164 8 (nI t)) n := okK_e hok (fun c i q => mm_u_e (by omega))
      have hkp : k_part (mm_u mi 164 8 (nI t)) n 1 = k_part mi n 1 := by
        unfold k_part
        rw [mm_u_e (by decide), mm_u_e (by decide)]
      refine sx_partOf7 (i := 1) hK' hn (by decide) hok' (fun _ => bk_X6_takeTurnOfIf_L_46 (mm_call_m _) ?_) (fun x => absurd (by rw [mm_u_e (by decide), h3]; decide) x)
      rw [hkp]
      exact mm_cq_m (mm_call_m _) (t4 y) (fun o a b ⟨e, q⟩ => by subst e; exact bk_X6_takeTurnOfIf_L_49 (mm_call_m _) (h62 a b q))
  · refine sx_partOf7 (i := 0) hK hn (by decide) hok (fun _ => bk_X6_takeTurnOfIf_L_14 (mm_call_m _) ?_) (fun x => absurd (by rw [h3]; decide) x)
    exact mm_cq_m (mm_call_m _) (h0 (en (j := 0) z (by decide))) (fun o a b ⟨e, q⟩ => by subst e; exact bk_X6_takeTurnOfIf_L_17 (mm_call_m _) (h62 a b q))
/-- openFunction() -/
theorem tn_open {o t : Nat} {g : Int32} (h11 : mi 164 11 = nI o) (ho : o ≤ 30) (h8 : mi 164 8 = nI (t + 1)) (ht : t < 8192) (h0 : o = 30 → Q none (mm_u mi 162 5 3) ml) (h1 : o < 30 → ∀ y, Q none (mm_u (mm_u (mm_u (mm_u mi 168 o g) 169 o (nI t)) 164 11 (nI (o + 1))) 162 4 y) ml) : mm_cq (mm_call mm_ms (mm_tb L xs) (d + 2)) 67 [mm_R 164, mm_I g] mi ml Q := by
  have hlo : ¬ mi 164 11 < 0 := fun z => by
    rw [h11] at z
    have := mm_ltI z
    rw [mm_tI (by omega), mm_tt0] at this
    omega
  have hlt : mi 164 11 < 30 → o < 30 := fun z => by
    rw [h11] at z
    have := mm_ltI z
    rw [mm_tI (by omega), mm_t30] at this
    omega
  have eo : (nI o).toNatClampNeg = o := nI_clamp (by omega)
  refine en_X6_openFunction_L (bk_X6_openFunction_L_0 (mm_call_m _) (fun z => absurd z hlo) (fun _ z => ?_) (fun _ z => ?_) (fun _ z => bk_X6_openFunction_L_16 (mm_call_m _) (en_X9_end (bk_X9_end_0 (mm_call_m _) (bk_X6_openFunction_L_24 (mm_call_m _) (h0 ?_))))))
  · rw [h11]
    exact vp_in_nI (hlt z) (by decide)
  · have hl := hlt z
    rw [h11, eo, h8]
    refine en_X5_argumentWidth (bk_X5_argumentWidth_0 (mm_call_m _) (bk_X6_openFunction_L_52 (mm_call_m _) (vp_in_nI hl (by decide)) ?_))
    rw [eo, show nI (t + 1) - 1 = nI t from mm_dec' t (by omega), mm_u_e (by decide), h11, show nI o + 1 = nI (o + 1) from (nI_succ o).symm]
    exact en_X9_noteOpen (bk_X9_noteOpen_0 (mm_call_m _) (bk_X6_openFunction_L_75 (mm_call_m _) (h1 hl _)))
  · by_cases c : o = 30
    · exact c
    · refine absurd ?_ z
      rw [h11, Int32.lt_iff_toInt_lt, mm_tI (by omega), mm_t30]
      omega
/-- closeFunction() -/
theorem tn_close {o t : Nat} (h11 : mi 164 11 = nI (o + 1)) (ho : o < 30) (h8 : mi 164 8 = nI (t + 2)) (ht : t + 2 ≤ 8192) (hQ : Q none (mm_u (mm_u (mm_u mi 165 t (mi 165 (t + 1))) 164 8 (nI (t + 1))) 164 11 (nI o)) ml) : mm_cq (mm_call mm_ms (mm_tb L xs) (d + 4)) 73 [mm_R 164] mi ml Q := by
  refine en_X6_closeFunction_L (bk_X6_closeFunction_L_0 (mm_call_m _) (sm_unit_L h11 ho (bk_X6_closeFunction_L_5 (mm_call_m _) (en_X5_argumentWidth (bk_X5_argumentWidth_0 (mm_call_m _) (bk_X6_closeFunction_L_8 (mm_call_m _) (sm_unit_L h11 ho (bk_X6_closeFunction_L_14 (mm_call_m _) (en_X5_resultWidth (bk_X5_resultWidth_0 (mm_call_m _) (bk_X6_closeFunction_L_17 (mm_call_m _) (sm_keep h8 ht (bk_X6_closeFunction_L_27 (mm_call_m _) ?_)))))))))))))
  rw [mm_u_f (by decide), mm_u_e (by decide), show mi 164 11 - 1 = nI o by rw [h11, mm_dec' o (by omega)]]
  exact hQ
/-- takeTurnOfCall() -/
theorem tn_call {n τ k g : Nat} (hK : KW NB ND NF mi) (hok : okK NB mi n) (hn : n < ND) (h14 : mi 4 n = 14) (hτ : τ < 3) (hg : g < NF) (h6 : mi 6 (4 * n) = nI g)
    (h0 : τ = 0 → mm_cq (mm_call mm_ms (mm_tb L xs) (d + 5)) 68 [mm_R 164, mm_I (k_part mi n 0)] mi ml (fun o a b => o = none ∧ Q none a b))
    (h1 : τ = 1 → ∃ o t, 1 ≤ o ∧ o ≤ 30 ∧ mi 164 11 = nI o ∧ mi 164 8 = nI (t + 1) ∧ t < 8192 ∧ mi 162 5 = 0 ∧ (o = 30 → Q none (mm_u mi 162 5 3) ml) ∧ (o < 30 → ∀ y, mm_cq (mm_call mm_ms (mm_tb L xs) (d + 5)) 68 [mm_R 164, mm_I (mi 15 g)] (mm_u (mm_u (mm_u (mm_u mi 168 o (nI g)) 169 o (nI t)) 164 11 (nI (o + 1))) 162 4 y) ml (fun o a b => o = none ∧ Q none a b)))
    (h2 : τ = 2 → ∃ o t, mi 164 11 = nI (o + 1) ∧ o < 30 ∧ mi 164 8 = nI (t + 2) ∧ t + 2 ≤ 8192 ∧ Q none (mm_u (mm_u (mm_u (mm_u mi 165 t (mi 165 (t + 1))) 164 8 (nI (t + 1))) 164 11 (nI o)) 164 10 (mi 164 10 - 1)) ml) : mm_cq (mm_call mm_ms (mm_tb L xs) (d + 6)) 71 [mm_R 164, mm_I (nI n), mm_I (nI τ)] mi ml Q := by
  have hND := hK.2.2.1
  have hNF := hK.2.2.2
  have h1p : (f_parts (mi 4 n)).toInt = 1 := by rw [h14]; rfl
  have h77 : ∀ (a : mm_P) (b : mm_G), Q none a b → mm_WQ (mm_call mm_ms (mm_tb L xs) (d + 5)) (mm_tb L xs) mm_m71 (mm_li mm_m71) Q 77 [some (mm_R 164), some (mm_I (nI n)), some (mm_I (nI τ))] [] a b := fun a b q => bk_X6_takeTurnOfCall_L_77 (mm_call_m _) q
  have en : ∀ {j : Nat}, nI τ = nI j → j < 10 → τ = j := fun q hj => nI_inj (by omega) (by omega) q
  refine en_X6_takeTurnOfCall_L (bk_X6_takeTurnOfCall_L_0 (mm_call_m _) (fun z z2 => ?_) (fun z z2 => ?_) (fun z => ?_))
  · have h0' : ¬ τ = 0 := fun q => z (by rw [q]; rfl)
    have h1' : ¬ τ = 1 := fun q => z2 (by rw [q]; rfl)
    obtain ⟨o, t, o1, o2, t1, t2, hq⟩ := h2 (by omega)
    refine tn_close o1 o2 t1 t2 (bk_X6_takeTurnOfCall_L_67 (mm_call_m _) (h77 _ _ ?_))
    rw [mm_u_f (by decide), mm_u_f (by decide), mm_u_e (by decide)]
    exact hq
  · obtain ⟨o, t, o0, o1, o2, t1, t2, r5, q30, q⟩ := h1 (en (j := 1) z2 (by decide))
    obtain ⟨o', rfl⟩ : ∃ o', o = o' + 1 := ⟨o - 1, by omega⟩
    refine sm_unit_L o2 (by omega) (bk_X6_takeTurnOfCall_L_31 (mm_call_m _) (en_X5_calledAt (bk_X5_calledAt_0 (mm_call_m _) (sx_wantedAt (i := 0) hK.1.2.1 hND hn (by decide) (bk_X5_calledAt_9 (mm_call_m _) (bk_X6_takeTurnOfCall_L_35 (mm_call_m _) ?_))))))
    rw [show mi 6 (4 * n + 0) = nI g from h6]
    refine tn_open o2 o1 t1 t2 (fun e30 => bk_X6_takeTurnOfCall_L_38 (mm_call_m _) (en_X9_goesOn (bk_X9_goesOn_0 (mm_call_m _) (fun _ => bk_X6_takeTurnOfCall_L_45 (s0 := 0) (mm_call_m _) (fun _ => h77 _ _ (q30 e30)) (fun y => absurd rfl y)) (fun y => absurd (mm_u_s.symm.trans y) (by decide))))) (fun hlt y => bk_X6_takeTurnOfCall_L_38 (mm_call_m _) (en_X9_goesOn (bk_X9_goesOn_0 (mm_call_m _) (fun y2 => absurd ?_ y2) (fun _ => bk_X6_takeTurnOfCall_L_45 (s0 := 1) (mm_call_m _) (fun y => absurd y (by decide)) (fun _ => ?_)))))
    · rw [mm_u_f (by decide), mm_u_e (by decide), mm_u_e (by decide), mm_u_e (by decide)]
      exact r5
    · generalize hw2 : mm_u (mm_u (mm_u (mm_u mi 168 (o' + 1) (nI g)) 169 (o' + 1) (nI t)) 164 11 (nI (o' + 1 + 1))) 162 4 y = w2
      have ow : ∀ c i, c < 160 → w2 c i = mi c i := fun c i q => by rw [← hw2, mm_u_e (by omega), mm_u_e (by omega), mm_u_e (by omega), mm_u_e (by omega)]
      have e11 : w2 164 11 = nI (o' + 1 + 1) := by rw [← hw2, mm_u_e (by decide), mm_u_s]
      have e168 : w2 168 (o' + 1) = nI g := by rw [← hw2, mm_u_e (by decide), mm_u_e (by decide), mm_u_e (by decide), mm_u_s]
      refine sm_unit_L e11 hlt (bk_X6_takeTurnOfCall_L_54 (mm_call_m _) ?_)
      rw [e168]
      refine en_X5_bodyOf (bk_X5_bodyOf_0 (mm_call_m _) (sx_bodyOf (NF := NF) ((ow 9 7 (by decide)).trans hK.1.2.2) hNF hg (bk_X5_bodyOf_8 (mm_call_m _) (bk_X6_takeTurnOfCall_L_57 (mm_call_m _) ?_))))
      rw [ow 15 g (by decide)]
      have := q hlt y
      rw [hw2] at this
      exact mm_cq_m (mm_call_m _) this (fun o a b ⟨e, q⟩ => by subst e; exact bk_X6_takeTurnOfCall_L_60 (mm_call_m _) (h77 a b q))
  · refine sx_partOf7 (i := 0) hK hn (by decide) hok (fun _ => bk_X6_takeTurnOfCall_L_14 (mm_call_m _) ?_) (fun x => absurd (by rw [h1p]; decide) x)
    exact mm_cq_m (mm_call_m _) (h0 (en (j := 0) z (by decide))) (fun o a b ⟨e, q⟩ => by subst e; exact bk_X6_takeTurnOfCall_L_17 (mm_call_m _) (h77 a b q))
end MMT
