/-! ===== the machine of copies: a turn (tm_turn, tm_if by program out of row 8xs) ===== -/
section MMT
variable {L : Nat} {xs : Nat → Int32} {d : Nat} {Q : mm_QQ} {mi : mm_P} {ml : mm_G} {lim : Nat × Nat} {NB ND NF : Nat}
/-- takeTurn() -/
theorem tm_turn {k n τ : Nat} (hK : KW NB ND NF mi) (hok : okK NB mi n) (hn : n < ND) (h10 : mi 170 10 = nI (k + 1)) (hk : k < 600) (h172 : mi 172 k = nI n) (h173 : mi 173 k = nI τ) (hτ : τ < 3)
    (hIf : mi 4 n = 5 → mm_cq (mm_call mm_ms (mm_tb L xs) (d + 6)) 70 [mm_R 170, mm_I (nI n), mm_I (nI τ)] (mm_u mi 173 k (nI (τ + 1))) ml (fun o a b => o = none ∧ Q none a b))
    (hCall : mi 4 n = 14 → mm_cq (mm_call mm_ms (mm_tb L xs) (d + 6)) 71 [mm_R 170, mm_I (nI n), mm_I (nI τ)] (mm_u mi 173 k (nI (τ + 1))) ml (fun o a b => o = none ∧ Q none a b))
    (hPart : ¬ mi 4 n = 5 → ¬ mi 4 n = 14 → (τ : Int) < (f_parts (mi 4 n)).toInt → mm_cq (mm_call mm_ms (mm_tb L xs) (d + 6)) 68 [mm_R 170, mm_I (k_part mi n τ)] (mm_u mi 173 k (nI (τ + 1))) ml (fun o a b => o = none ∧ Q none a b))
    (hFin : ¬ mi 4 n = 5 → ¬ mi 4 n = 14 → ¬ (τ : Int) < (f_parts (mi 4 n)).toInt → mm_cq (mm_call mm_ms (mm_tb L xs) (d + 6)) 74 [mm_R 170, mm_I (nI n), mm_I (mi 4 n)] (mm_u (mm_u mi 173 k (nI (τ + 1))) 170 10 (nI k)) ml (fun o a b => o = none ∧ Q none a b)) : mm_cq (mm_call mm_ms (mm_tb L xs) (d + 7)) 69 [mm_R 170] mi ml Q := by
  have hND := hK.2.2.1
  have e10 : mi 170 10 - 1 = nI k := by rw [h10, mm_dec' k (by omega)]
  have vk : vp_in (nI k) 600 := vp_in_nI hk (by decide)
  have ek : (nI k).toNatClampNeg = k := nI_clamp (by omega)
  have hlo : ¬ nI k < 0 := fun z => by
    have := mm_ltI z
    rw [mm_tI (by omega), mm_tt0] at this
    omega
  have hhi : nI k < 600 := by
    rw [Int32.lt_iff_toInt_lt, mm_tI (by omega), mm_t600]
    omega
  refine en_X6_takeTurn_C (bk_X6_takeTurn_C_0 (mm_call_m _) (fun z => absurd (by rw [e10] at z; exact z) hlo) (fun _ _ => by rw [e10]; exact vk) (fun _ _ => by rw [e10]; exact vk) (fun _ _ => by rw [e10]; exact vk) (fun _ _ => ?_) (fun _ z => absurd (by rw [e10]; exact hhi) z))
  rw [e10, ek, h172, h173, show nI τ + 1 = nI (τ + 1) from (nI_succ τ).symm]
  generalize hW1 : mm_u mi 173 k (nI (τ + 1)) = w1 at hIf hCall hPart hFin
  have o1 : ∀ c i, ¬ c = 173 → w1 c i = mi c i := fun c i q => by rw [← hW1]; exact mm_u_e q
  have hK1 : KW NB ND NF w1 := ⟨⟨(o1 1 1 (by decide)).trans hK.1.1, (o1 3 5 (by decide)).trans hK.1.2.1, (o1 9 7 (by decide)).trans hK.1.2.2⟩, hK.2⟩
  have hok1 : okK NB w1 n := okK_e hok (fun c i q => o1 c i (by omega))
  have hkd := hok.1
  have hkp : k_part w1 n τ = k_part mi n τ := by
    unfold k_part
    rw [o1 4 n (by decide), o1 6 _ (by decide), o1 6 _ (by decide)]
  have h129 : ∀ {x1 x2 x3 x4 : Int32} (a : mm_P) (b : mm_G), Q none a b → mm_WQ (mm_call mm_ms (mm_tb L xs) (d + 6)) (mm_tb L xs) mm_m69 (mm_li mm_m69) Q 129 [some (mm_R 170), some (mm_I x1), some (mm_I x2), some (mm_I x3), some (mm_I x4)] [] a b := fun {x1 x2 x3 x4} a b q => bk_X6_takeTurn_C_129 (mm_call_m _) q
  refine sx_kind7 hK1 hn ?_
  rw [o1 4 n (by decide)]
  refine bk_X6_takeTurn_C_50 (mm_call_m _) (fun a b => sx_parts7 hkd (bk_X6_takeTurn_C_93 (mm_call_m _) (fun z => ?_) (fun z => ?_))) (fun _ z => mm_cq_m (mm_call_m _) (hCall z) (fun o a b ⟨e, q⟩ => by subst e; exact bk_X6_takeTurn_C_80 (mm_call_m _) (h129 a b q))) (fun z => mm_cq_m (mm_call_m _) (hIf z) (fun o a b ⟨e, q⟩ => by subst e; exact bk_X6_takeTurn_C_64 (mm_call_m _) (h129 a b q)))
  · have z' := mm_leI z
    rw [mm_tI (by omega)] at z'
    rw [show w1 170 10 - 1 = nI k by rw [o1 170 10 (by decide), e10]]
    exact mm_cq_m (mm_call_m _) (hFin a b (by omega)) (fun o a b ⟨e, q⟩ => by subst e; exact h129 a b q)
  · have z' := mm_nleI z
    rw [mm_tI (by omega)] at z'
    refine sx_partOf7 hK1 hn hτ hok1 (fun _ => bk_X6_takeTurn_C_106 (mm_call_m _) ?_) (fun y => absurd (by rw [o1 4 n (by decide)]; omega) y)
    rw [hkp]
    exact mm_cq_m (mm_call_m _) (hPart a b (by omega)) (fun o a b ⟨e, q⟩ => by subst e; exact bk_X6_takeTurn_C_109 (mm_call_m _) (h129 a b q))
/-- takeTurnOfIf() -/
theorem tm_if {n τ t k : Nat} (hK : KW NB ND NF mi) (hok : okK NB mi n) (hn : n < ND) (h5 : mi 4 n = 5) (hτ : τ < 3)
    (h0 : τ = 0 → mm_cq (mm_call mm_ms (mm_tb L xs) (d + 5)) 68 [mm_R 170, mm_I (k_part mi n 0)] mi ml (fun o a b => o = none ∧ Q none a b))
    (h1 : τ = 1 → ∃ t, mi 170 8 = nI (t + 1) ∧ t < 8192 ∧ (mi 171 t = 0 → mm_cq (mm_call mm_ms (mm_tb L xs) (d + 5)) 68 [mm_R 170, mm_I (k_part mi n 2)] (mm_u mi 170 8 (nI t)) ml (fun o a b => o = none ∧ Q none a b)) ∧ (¬ mi 171 t = 0 → mm_cq (mm_call mm_ms (mm_tb L xs) (d + 5)) 68 [mm_R 170, mm_I (k_part mi n 1)] (mm_u mi 170 8 (nI t)) ml (fun o a b => o = none ∧ Q none a b)))
    (h2 : τ = 2 → Q none (mm_u mi 170 10 (mi 170 10 - 1)) ml) : mm_cq (mm_call mm_ms (mm_tb L xs) (d + 6)) 70 [mm_R 170, mm_I (nI n), mm_I (nI τ)] mi ml Q := by
  have hND := hK.2.2.1
  have h3 : (f_parts (mi 4 n)).toInt = 3 := by rw [h5]; rfl
  have h62 : ∀ (a : mm_P) (b : mm_G), Q none a b → mm_WQ (mm_call mm_ms (mm_tb L xs) (d + 5)) (mm_tb L xs) mm_m70 (mm_li mm_m70) Q 62 [some (mm_R 170), some (mm_I (nI n)), some (mm_I (nI τ))] [] a b := fun a b q => bk_X6_takeTurnOfIf_C_62 (mm_call_m _) q
  have en : ∀ {j : Nat}, nI τ = nI j → j < 10 → τ = j := fun q hj => nI_inj (by omega) (by omega) q
  refine en_X6_takeTurnOfIf_C (bk_X6_takeTurnOfIf_C_0 (mm_call_m _) (fun z z2 => ?_) (fun z z2 => ?_) (fun z => ?_))
  · have h0' : ¬ τ = 0 := fun q => z (by rw [q]; rfl)
    have h1' : ¬ τ = 1 := fun q => z2 (by rw [q]; rfl)
    exact h62 _ _ (h2 (by omega))
  · obtain ⟨t, t1, t2, t3, t4⟩ := h1 (en (j := 1) z2 (by decide))
    refine sm_pop_C t1 t2 (bk_X6_takeTurnOfIf_C_35 (mm_call_m _) (fun y => ?_) (fun y => ?_))
    · have hK' : KW NB ND NF (mm_u mi 170 8 (nI t)) := ⟨⟨(mm_u_e (by decide)).trans hK.1.1, (mm_u_e (by decide)).trans hK.1.2.1, (mm_u_e (by decide)).trans hK.1.2.2⟩, hK.2⟩
      have hok' : okK NB (mm_u mi 170 8 (nI t)) n := okK_e hok (fun c i q => mm_u_e (by omega))
      have hkp : k_part (mm_u mi 170 8 (nI t)) n 2 = k_part mi n 2 := by
        unfold k_part
        rw [mm_u_e (by decide), mm_u_e (by decide), mm_u_e (by decide)]
      refine sx_partOf7 (i := 2) hK' hn (by decide) hok' (fun _ => bk_X6_takeTurnOfIf_C_46 (mm_call_m _) ?_) (fun x => absurd (by rw [mm_u_e (by decide), h3]; decide) x)
      rw [hkp]
      exact mm_cq_m (mm_call_m _) (t3 y) (fun o a b ⟨e, q⟩ => by subst e; exact bk_X6_takeTurnOfIf_C_49 (mm_call_m _) (h62 a b q))
    · have hK' : KW NB ND NF (mm_u mi 170 8 (nI t)) := ⟨⟨(mm_u_e (by decide)).trans hK.1.1, (mm_u_e (by decide)).trans hK.1.2.1, (mm_u_e (by decide)).trans hK.1.2.2⟩, hK.2⟩
      have hok' : okK NB (mm_u mi 170 8 (nI t)) n := okK_e hok (fun c i q => mm_u_e (by omega))
      have hkp : k_part (mm_u mi 170 8 (nI t)) n 1 = k_part mi n 1 := by
        unfold k_part
        rw [mm_u_e (by decide), mm_u_e (by decide)]
      refine sx_partOf7 (i := 1) hK' hn (by decide) hok' (fun _ => bk_X6_takeTurnOfIf_C_46 (mm_call_m _) ?_) (fun x => absurd (by rw [mm_u_e (by decide), h3]; decide) x)
      rw [hkp]
      exact mm_cq_m (mm_call_m _) (t4 y) (fun o a b ⟨e, q⟩ => by subst e; exact bk_X6_takeTurnOfIf_C_49 (mm_call_m _) (h62 a b q))
  · refine sx_partOf7 (i := 0) hK hn (by decide) hok (fun _ => bk_X6_takeTurnOfIf_C_14 (mm_call_m _) ?_) (fun x => absurd (by rw [h3]; decide) x)
    exact mm_cq_m (mm_call_m _) (h0 (en (j := 0) z (by decide))) (fun o a b ⟨e, q⟩ => by subst e; exact bk_X6_takeTurnOfIf_C_17 (mm_call_m _) (h62 a b q))
theorem fe_0 {x1 : Int32} (h : mm_cq (mm_call mm_ms (mm_tb L xs) d) 97 [mm_R 3, mm_I x1, mm_I 0] mi ml (fun o n1 n2 => mm_WQ (mm_call mm_ms (mm_tb L xs) d) (mm_tb L xs) mm_m74 (mm_li mm_m74) Q 82 [some (mm_R 170), some (mm_I x1), some (mm_I (nI 0))] (o.toList ++ [mm_R 170]) n1 n2)) : mm_cq (mm_call mm_ms (mm_tb L xs) (d + 1)) 74 [mm_R 170, mm_I x1, mm_I (nI 0)] mi ml Q :=
  en_X6_finishNode_C (bk_X6_finishNode_C_0 (mm_call_m _) (fun _ => h) (fun z => absurd z (by decide)) (fun z => absurd z (by decide)) (fun z => absurd z (by decide)) (fun z => absurd z (by decide)) (fun z => absurd z (by decide)) (fun z => absurd z (by decide)) (fun z => absurd z (by decide)) (fun z => absurd z (by decide)) (fun z => absurd z (by decide)) (fun z => absurd z (by decide)) (fun z => absurd z (by decide)) (fun z => absurd z (by decide)) (fun z => absurd z (by decide)) (fun z0 z1 z2 z3 z4 z5 z6 z7 z8 z9 z10 z11 z12 z13 => absurd rfl z0))
theorem fe_1 {x1 : Int32} (h : mm_cq (mm_call mm_ms (mm_tb L xs) d) 97 [mm_R 3, mm_I x1, mm_I 0] mi ml (fun o n1 n2 => mm_WQ (mm_call mm_ms (mm_tb L xs) d) (mm_tb L xs) mm_m74 (mm_li mm_m74) Q 82 [some (mm_R 170), some (mm_I x1), some (mm_I (nI 1))] (o.toList ++ [mm_R 170]) n1 n2)) : mm_cq (mm_call mm_ms (mm_tb L xs) (d + 1)) 74 [mm_R 170, mm_I x1, mm_I (nI 1)] mi ml Q :=
  en_X6_finishNode_C (bk_X6_finishNode_C_0 (mm_call_m _) (fun z => absurd z (by decide)) (fun _ => h) (fun z => absurd z (by decide)) (fun z => absurd z (by decide)) (fun z => absurd z (by decide)) (fun z => absurd z (by decide)) (fun z => absurd z (by decide)) (fun z => absurd z (by decide)) (fun z => absurd z (by decide)) (fun z => absurd z (by decide)) (fun z => absurd z (by decide)) (fun z => absurd z (by decide)) (fun z => absurd z (by decide)) (fun z => absurd z (by decide)) (fun z0 z1 z2 z3 z4 z5 z6 z7 z8 z9 z10 z11 z12 z13 => absurd rfl z1))
theorem fe_2 {x1 : Int32} (h : mm_cq (mm_call mm_ms (mm_tb L xs) d) 75 [mm_R 170] mi ml (fun o n1 n2 => mm_WQ (mm_call mm_ms (mm_tb L xs) d) (mm_tb L xs) mm_m74 (mm_li mm_m74) Q 92 [some (mm_R 170), some (mm_I x1), some (mm_I (nI 2))] (o.toList ++ []) n1 n2)) : mm_cq (mm_call mm_ms (mm_tb L xs) (d + 1)) 74 [mm_R 170, mm_I x1, mm_I (nI 2)] mi ml Q :=
  en_X6_finishNode_C (bk_X6_finishNode_C_0 (mm_call_m _) (fun z => absurd z (by decide)) (fun z => absurd z (by decide)) (fun _ => h) (fun z => absurd z (by decide)) (fun z => absurd z (by decide)) (fun z => absurd z (by decide)) (fun z => absurd z (by decide)) (fun z => absurd z (by decide)) (fun z => absurd z (by decide)) (fun z => absurd z (by decide)) (fun z => absurd z (by decide)) (fun z => absurd z (by decide)) (fun z => absurd z (by decide)) (fun z => absurd z (by decide)) (fun z0 z1 z2 z3 z4 z5 z6 z7 z8 z9 z10 z11 z12 z13 => absurd rfl z2))
theorem fe_3 {x1 : Int32} (h : mm_cq (mm_call mm_ms (mm_tb L xs) d) 86 [mm_R 170] mi ml (fun o n1 n2 => mm_WQ (mm_call mm_ms (mm_tb L xs) d) (mm_tb L xs) mm_m74 (mm_li mm_m74) Q 100 [some (mm_R 170), some (mm_I x1), some (mm_I (nI 3))] (o.toList ++ [mm_R 170]) n1 n2)) : mm_cq (mm_call mm_ms (mm_tb L xs) (d + 1)) 74 [mm_R 170, mm_I x1, mm_I (nI 3)] mi ml Q :=
  en_X6_finishNode_C (bk_X6_finishNode_C_0 (mm_call_m _) (fun z => absurd z (by decide)) (fun z => absurd z (by decide)) (fun z => absurd z (by decide)) (fun _ => h) (fun z => absurd z (by decide)) (fun z => absurd z (by decide)) (fun z => absurd z (by decide)) (fun z => absurd z (by decide)) (fun z => absurd z (by decide)) (fun z => absurd z (by decide)) (fun z => absurd z (by decide)) (fun z => absurd z (by decide)) (fun z => absurd z (by decide)) (fun z => absurd z (by decide)) (fun z0 z1 z2 z3 z4 z5 z6 z7 z8 z9 z10 z11 z12 z13 => absurd rfl z3))
theorem fe_4 {x1 : Int32} (h : mm_cq (mm_call mm_ms (mm_tb L xs) d) 86 [mm_R 170] mi ml (fun o n1 n2 => mm_WQ (mm_call mm_ms (mm_tb L xs) d) (mm_tb L xs) mm_m74 (mm_li mm_m74) Q 116 [some (mm_R 170), some (mm_I x1), some (mm_I (nI 4))] (o.toList ++ [mm_R 170]) n1 n2)) : mm_cq (mm_call mm_ms (mm_tb L xs) (d + 1)) 74 [mm_R 170, mm_I x1, mm_I (nI 4)] mi ml Q :=
  en_X6_finishNode_C (bk_X6_finishNode_C_0 (mm_call_m _) (fun z => absurd z (by decide)) (fun z => absurd z (by decide)) (fun z => absurd z (by decide)) (fun z => absurd z (by decide)) (fun _ => h) (fun z => absurd z (by decide)) (fun z => absurd z (by decide)) (fun z => absurd z (by decide)) (fun z => absurd z (by decide)) (fun z => absurd z (by decide)) (fun z => absurd z (by decide)) (fun z => absurd z (by decide)) (fun z => absurd z (by decide)) (fun z => absurd z (by decide)) (fun z0 z1 z2 z3 z4 z5 z6 z7 z8 z9 z10 z11 z12 z13 => absurd rfl z4))
theorem fe_6 {x1 : Int32} (h : mm_cq (mm_call mm_ms (mm_tb L xs) d) 19 [mm_R 170] mi ml (fun o n1 n2 => mm_WQ (mm_call mm_ms (mm_tb L xs) d) (mm_tb L xs) mm_m74 (mm_li mm_m74) Q 138 [some (mm_R 170), some (mm_I x1), some (mm_I (nI 6))] (o.toList ++ []) n1 n2)) : mm_cq (mm_call mm_ms (mm_tb L xs) (d + 1)) 74 [mm_R 170, mm_I x1, mm_I (nI 6)] mi ml Q :=
  en_X6_finishNode_C (bk_X6_finishNode_C_0 (mm_call_m _) (fun z => absurd z (by decide)) (fun z => absurd z (by decide)) (fun z => absurd z (by decide)) (fun z => absurd z (by decide)) (fun z => absurd z (by decide)) (fun z => absurd z (by decide)) (fun _ => h) (fun z => absurd z (by decide)) (fun z => absurd z (by decide)) (fun z => absurd z (by decide)) (fun z => absurd z (by decide)) (fun z => absurd z (by decide)) (fun z => absurd z (by decide)) (fun z => absurd z (by decide)) (fun z0 z1 z2 z3 z4 z5 z6 z7 z8 z9 z10 z11 z12 z13 => absurd rfl z6))
theorem fe_7 {x1 : Int32} (h : mm_cq (mm_call mm_ms (mm_tb L xs) d) 72 [mm_R 170] mi ml (fun o n1 n2 => mm_WQ (mm_call mm_ms (mm_tb L xs) d) (mm_tb L xs) mm_m74 (mm_li mm_m74) Q 146 [some (mm_R 170), some (mm_I x1), some (mm_I (nI 7))] (o.toList ++ [mm_R 170]) n1 n2)) : mm_cq (mm_call mm_ms (mm_tb L xs) (d + 1)) 74 [mm_R 170, mm_I x1, mm_I (nI 7)] mi ml Q :=
  en_X6_finishNode_C (bk_X6_finishNode_C_0 (mm_call_m _) (fun z => absurd z (by decide)) (fun z => absurd z (by decide)) (fun z => absurd z (by decide)) (fun z => absurd z (by decide)) (fun z => absurd z (by decide)) (fun z => absurd z (by decide)) (fun z => absurd z (by decide)) (fun _ => h) (fun z => absurd z (by decide)) (fun z => absurd z (by decide)) (fun z => absurd z (by decide)) (fun z => absurd z (by decide)) (fun z => absurd z (by decide)) (fun z => absurd z (by decide)) (fun z0 z1 z2 z3 z4 z5 z6 z7 z8 z9 z10 z11 z12 z13 => absurd rfl z7))
theorem fe_8 {x1 : Int32} (h : mm_cq (mm_call mm_ms (mm_tb L xs) d) 72 [mm_R 170] mi ml (fun o n1 n2 => mm_WQ (mm_call mm_ms (mm_tb L xs) d) (mm_tb L xs) mm_m74 (mm_li mm_m74) Q 159 [some (mm_R 170), some (mm_I x1), some (mm_I (nI 8))] (o.toList ++ [mm_R 170]) n1 n2)) : mm_cq (mm_call mm_ms (mm_tb L xs) (d + 1)) 74 [mm_R 170, mm_I x1, mm_I (nI 8)] mi ml Q :=
  en_X6_finishNode_C (bk_X6_finishNode_C_0 (mm_call_m _) (fun z => absurd z (by decide)) (fun z => absurd z (by decide)) (fun z => absurd z (by decide)) (fun z => absurd z (by decide)) (fun z => absurd z (by decide)) (fun z => absurd z (by decide)) (fun z => absurd z (by decide)) (fun z => absurd z (by decide)) (fun _ => h) (fun z => absurd z (by decide)) (fun z => absurd z (by decide)) (fun z => absurd z (by decide)) (fun z => absurd z (by decide)) (fun z => absurd z (by decide)) (fun z0 z1 z2 z3 z4 z5 z6 z7 z8 z9 z10 z11 z12 z13 => absurd rfl z8))
theorem fe_9 {x1 : Int32} (h : mm_cq (mm_call mm_ms (mm_tb L xs) d) 85 [mm_R 170, mm_I 0] mi ml (fun o n1 n2 => mm_WQ (mm_call mm_ms (mm_tb L xs) d) (mm_tb L xs) mm_m74 (mm_li mm_m74) Q 172 [some (mm_R 170), some (mm_I x1), some (mm_I (nI 9))] (o.toList ++ []) n1 n2)) : mm_cq (mm_call mm_ms (mm_tb L xs) (d + 1)) 74 [mm_R 170, mm_I x1, mm_I (nI 9)] mi ml Q :=
  en_X6_finishNode_C (bk_X6_finishNode_C_0 (mm_call_m _) (fun z => absurd z (by decide)) (fun z => absurd z (by decide)) (fun z => absurd z (by decide)) (fun z => absurd z (by decide)) (fun z => absurd z (by decide)) (fun z => absurd z (by decide)) (fun z => absurd z (by decide)) (fun z => absurd z (by decide)) (fun z => absurd z (by decide)) (fun _ => h) (fun z => absurd z (by decide)) (fun z => absurd z (by decide)) (fun z => absurd z (by decide)) (fun z => absurd z (by decide)) (fun z0 z1 z2 z3 z4 z5 z6 z7 z8 z9 z10 z11 z12 z13 => absurd rfl z9))
theorem fe_10 {x1 : Int32} (h : mm_cq (mm_call mm_ms (mm_tb L xs) d) 76 [mm_R 170, mm_I x1] mi ml (fun o n1 n2 => mm_WQ (mm_call mm_ms (mm_tb L xs) d) (mm_tb L xs) mm_m74 (mm_li mm_m74) Q 180 [some (mm_R 170), some (mm_I x1), some (mm_I (nI 10))] (o.toList ++ []) n1 n2)) : mm_cq (mm_call mm_ms (mm_tb L xs) (d + 1)) 74 [mm_R 170, mm_I x1, mm_I (nI 10)] mi ml Q :=
  en_X6_finishNode_C (bk_X6_finishNode_C_0 (mm_call_m _) (fun z => absurd z (by decide)) (fun z => absurd z (by decide)) (fun z => absurd z (by decide)) (fun z => absurd z (by decide)) (fun z => absurd z (by decide)) (fun z => absurd z (by decide)) (fun z => absurd z (by decide)) (fun z => absurd z (by decide)) (fun z => absurd z (by decide)) (fun z => absurd z (by decide)) (fun _ => h) (fun z => absurd z (by decide)) (fun z => absurd z (by decide)) (fun z => absurd z (by decide)) (fun z0 z1 z2 z3 z4 z5 z6 z7 z8 z9 z10 z11 z12 z13 => absurd rfl z10))
theorem fe_11 {x1 : Int32} (h : mm_cq (mm_call mm_ms (mm_tb L xs) d) 86 [mm_R 170] mi ml (fun o n1 n2 => mm_WQ (mm_call mm_ms (mm_tb L xs) d) (mm_tb L xs) mm_m74 (mm_li mm_m74) Q 188 [some (mm_R 170), some (mm_I x1), some (mm_I (nI 11))] (o.toList ++ [mm_R 170]) n1 n2)) : mm_cq (mm_call mm_ms (mm_tb L xs) (d + 1)) 74 [mm_R 170, mm_I x1, mm_I (nI 11)] mi ml Q :=
  en_X6_finishNode_C (bk_X6_finishNode_C_0 (mm_call_m _) (fun z => absurd z (by decide)) (fun z => absurd z (by decide)) (fun z => absurd z (by decide)) (fun z => absurd z (by decide)) (fun z => absurd z (by decide)) (fun z => absurd z (by decide)) (fun z => absurd z (by decide)) (fun z => absurd z (by decide)) (fun z => absurd z (by decide)) (fun z => absurd z (by decide)) (fun z => absurd z (by decide)) (fun _ => h) (fun z => absurd z (by decide)) (fun z => absurd z (by decide)) (fun z0 z1 z2 z3 z4 z5 z6 z7 z8 z9 z10 z11 z12 z13 => absurd rfl z11))
theorem fe_12 {x1 : Int32} (h : mm_cq (mm_call mm_ms (mm_tb L xs) d) 77 [mm_R 170, mm_I x1] mi ml (fun o n1 n2 => mm_WQ (mm_call mm_ms (mm_tb L xs) d) (mm_tb L xs) mm_m74 (mm_li mm_m74) Q 207 [some (mm_R 170), some (mm_I x1), some (mm_I (nI 12))] (o.toList ++ []) n1 n2)) : mm_cq (mm_call mm_ms (mm_tb L xs) (d + 1)) 74 [mm_R 170, mm_I x1, mm_I (nI 12)] mi ml Q :=
  en_X6_finishNode_C (bk_X6_finishNode_C_0 (mm_call_m _) (fun z => absurd z (by decide)) (fun z => absurd z (by decide)) (fun z => absurd z (by decide)) (fun z => absurd z (by decide)) (fun z => absurd z (by decide)) (fun z => absurd z (by decide)) (fun z => absurd z (by decide)) (fun z => absurd z (by decide)) (fun z => absurd z (by decide)) (fun z => absurd z (by decide)) (fun z => absurd z (by decide)) (fun z => absurd z (by decide)) (fun _ => h) (fun z => absurd z (by decide)) (fun z0 z1 z2 z3 z4 z5 z6 z7 z8 z9 z10 z11 z12 z13 => absurd rfl z12))
theorem fe_13 {x1 : Int32} (h : mm_cq (mm_call mm_ms (mm_tb L xs) d) 78 [mm_R 170] mi ml (fun o n1 n2 => mm_WQ (mm_call mm_ms (mm_tb L xs) d) (mm_tb L xs) mm_m74 (mm_li mm_m74) Q 214 [some (mm_R 170), some (mm_I x1), some (mm_I (nI 13))] (o.toList ++ []) n1 n2)) : mm_cq (mm_call mm_ms (mm_tb L xs) (d + 1)) 74 [mm_R 170, mm_I x1, mm_I (nI 13)] mi ml Q :=
  en_X6_finishNode_C (bk_X6_finishNode_C_0 (mm_call_m _) (fun z => absurd z (by decide)) (fun z => absurd z (by decide)) (fun z => absurd z (by decide)) (fun z => absurd z (by decide)) (fun z => absurd z (by decide)) (fun z => absurd z (by decide)) (fun z => absurd z (by decide)) (fun z => absurd z (by decide)) (fun z => absurd z (by decide)) (fun z => absurd z (by decide)) (fun z => absurd z (by decide)) (fun z => absurd z (by decide)) (fun z => absurd z (by decide)) (fun _ => h) (fun z0 z1 z2 z3 z4 z5 z6 z7 z8 z9 z10 z11 z12 z13 => absurd rfl z13))
/-- openFunction() -/
theorem tm_open {o t wa N ci : Nat} (h11 : mi 170 11 = nI o) (ho : o ≤ 30) (h8 : mi 170 8 = nI (t + wa)) (ht : t + wa < 8192) (h31 : mi 31 12 = nI N) (hN : N ≤ 60) (hi : ci < N) (h36 : mi 36 ci = nI wa) (h0 : o = 30 → Q none (mm_u mi 162 5 3) ml) (h1 : o < 30 → ∀ y, Q none (mm_u (mm_u (mm_u (mm_u mi 174 o (nI ci)) 175 o (nI t)) 170 11 (nI (o + 1))) 162 4 y) ml) : mm_cq (mm_call mm_ms (mm_tb L xs) (d + 4)) 67 [mm_R 170, mm_I (nI ci)] mi ml Q := by
  have hlo : ¬ mi 170 11 < 0 := fun z => by
    rw [h11] at z
    have := mm_ltI z
    rw [mm_tI (by omega), mm_tt0] at this
    omega
  have hlt : mi 170 11 < 30 → o < 30 := fun z => by
    rw [h11] at z
    have := mm_ltI z
    rw [mm_tI (by omega), mm_t30] at this
    omega
  have eo : (nI o).toNatClampNeg = o := nI_clamp (by omega)
  have e36 : mm_u mi 174 o (nI ci) 36 ci = nI wa := (mm_u_e (by decide)).trans h36
  refine en_X6_openFunction_C (bk_X6_openFunction_C_0 (mm_call_m _) (fun z => absurd z hlo) (fun _ z => ?_) (fun _ z => ?_) (fun _ z => bk_X6_openFunction_C_16 (mm_call_m _) (en_X9_end (bk_X9_end_0 (mm_call_m _) (bk_X6_openFunction_C_24 (mm_call_m _) (h0 ?_))))))
  · rw [h11]
    exact vp_in_nI (hlt z) (by decide)
  · have hl := hlt z
    rw [h11, eo, h8]
    refine sf_aw (N := N) ((mm_u_e (by decide)).trans h31) hN hi ?_
    rw [e36]
    refine bk_X6_openFunction_C_52 (mm_call_m _) (vp_in_nI hl (by decide)) ?_
    rw [eo, nI_sb (by omega), mm_u_e (by decide), h11, show nI o + 1 = nI (o + 1) from (nI_succ o).symm]
    exact en_X9_noteOpen (bk_X9_noteOpen_0 (mm_call_m _) (bk_X6_openFunction_C_75 (mm_call_m _) (h1 hl _)))
  · by_cases c : o = 30
    · exact c
    · refine absurd ?_ z
      rw [h11, Int32.lt_iff_toInt_lt, mm_tI (by omega), mm_t30]
      omega
/-- closeFunction() -/
theorem tm_close {o t ga ta N ci : Nat} (h11 : mi 170 11 = nI (o + 1)) (ho : o < 30) (h174 : mi 174 o = nI ci) (h31 : mi 31 12 = nI N) (hN : N ≤ 60) (hi : ci < N) (h36 : mi 36 ci = nI ga) (h37 : mi 37 ci = nI ta) (h8 : mi 170 8 = nI (t + (ga + ta))) (ht : t + (ga + ta) ≤ 4096) (hQ : ∀ w', (∀ c i, ¬ (c = 171 ∧ t ≤ i ∧ i < t + ta) → ¬ (c = 170 ∧ (i = 8 ∨ i = 11)) → w' c i = mi c i) → (∀ i, i < ta → w' 171 (t + i) = mi 171 (t + ga + i)) → w' 170 8 = nI (t + ta) → w' 170 11 = nI o → Q none w' ml) : mm_cq (mm_call mm_ms (mm_tb L xs) (d + 4)) 73 [mm_R 170] mi ml Q := by
  refine en_X6_closeFunction_C (bk_X6_closeFunction_C_0 (mm_call_m _) (sm_unit_C h11 ho (bk_X6_closeFunction_C_5 (mm_call_m _) ?_)))
  rw [h174]
  refine sf_aw h31 hN hi (bk_X6_closeFunction_C_8 (mm_call_m _) (sm_unit_C h11 ho (bk_X6_closeFunction_C_14 (mm_call_m _) ?_)))
  rw [h174]
  refine sf_rw h31 hN hi (bk_X6_closeFunction_C_17 (mm_call_m _) ?_)
  rw [h36, h37, nI_a (by omega)]
  refine sf_keep (s := t) (la := ga + ta) (fr := ga) (w := ta) h8 (Nat.le_refl _) ht (fun w' g1 g2 g3 => bk_X6_closeFunction_C_27 (mm_call_m _) ?_)
  have e11 : w' 170 11 - 1 = nI o := by rw [g1 170 11 (by omega) (by omega), h11, mm_dec' o (by omega)]
  rw [e11]
  exact hQ _ (fun c i q q2 => (mm_u_o (by omega)).trans (g1 c i q (by omega))) (fun i hi => (mm_u_e (by decide)).trans (g2 i hi)) ((mm_u_f (by decide)).trans g3) mm_u_s
/-- takeTurnOfCall() -/
theorem tm_call {n τ N : Nat} (hK : KW NB ND NF mi) (hok : okK NB mi n) (hn : n < ND) (h14 : mi 4 n = 14) (hτ : τ < 3) (h31 : mi 31 12 = nI N) (hN : N ≤ 60)
    (h0 : τ = 0 → mm_cq (mm_call mm_ms (mm_tb L xs) (d + 5)) 68 [mm_R 170, mm_I (k_part mi n 0)] mi ml (fun o a b => o = none ∧ Q none a b))
    (h1 : τ = 1 → ∃ o t wa ci cj g, (1 ≤ o ∧ o ≤ 30 ∧ mi 170 11 = nI o ∧ mi 170 8 = nI (t + wa) ∧ t + wa < 8192 ∧ mi 162 5 = 0) ∧ (ci < N ∧ cj < N ∧ g < NF) ∧ (mi 174 (o - 1) = nI ci ∧ mi (100 + ci) n = nI cj ∧ mi 36 cj = nI wa ∧ mi 32 cj = nI g) ∧ (o = 30 → Q none (mm_u mi 162 5 3) ml) ∧ (o < 30 → ∀ y, mm_cq (mm_call mm_ms (mm_tb L xs) (d + 5)) 68 [mm_R 170, mm_I (mi 15 g)] (mm_u (mm_u (mm_u (mm_u mi 174 o (nI cj)) 175 o (nI t)) 170 11 (nI (o + 1))) 162 4 y) ml (fun o a b => o = none ∧ Q none a b)))
    (h2 : τ = 2 → ∃ o t ga ta ci, (mi 170 11 = nI (o + 1) ∧ o < 30 ∧ mi 174 o = nI ci ∧ ci < N ∧ mi 36 ci = nI ga ∧ mi 37 ci = nI ta ∧ mi 170 8 = nI (t + (ga + ta)) ∧ t + (ga + ta) ≤ 4096) ∧ ∀ w', (∀ c i, ¬ (c = 171 ∧ t ≤ i ∧ i < t + ta) → ¬ (c = 170 ∧ (i = 8 ∨ i = 11)) → w' c i = mi c i) → (∀ i, i < ta → w' 171 (t + i) = mi 171 (t + ga + i)) → w' 170 8 = nI (t + ta) → w' 170 11 = nI o → Q none (mm_u w' 170 10 (w' 170 10 - 1)) ml) : mm_cq (mm_call mm_ms (mm_tb L xs) (d + 6)) 71 [mm_R 170, mm_I (nI n), mm_I (nI τ)] mi ml Q := by
  have hND := hK.2.2.1
  have hNF := hK.2.2.2
  have h1p : (f_parts (mi 4 n)).toInt = 1 := by rw [h14]; rfl
  have h77 : ∀ (a : mm_P) (b : mm_G), Q none a b → mm_WQ (mm_call mm_ms (mm_tb L xs) (d + 5)) (mm_tb L xs) mm_m71 (mm_li mm_m71) Q 77 [some (mm_R 170), some (mm_I (nI n)), some (mm_I (nI τ))] [] a b := fun a b q => bk_X6_takeTurnOfCall_C_77 (mm_call_m _) q
  have en : ∀ {j : Nat}, nI τ = nI j → j < 10 → τ = j := fun q hj => nI_inj (by omega) (by omega) q
  refine en_X6_takeTurnOfCall_C (bk_X6_takeTurnOfCall_C_0 (mm_call_m _) (fun z z2 => ?_) (fun z z2 => ?_) (fun z => ?_))
  · have h0' : ¬ τ = 0 := fun q => z (by rw [q]; rfl)
    have h1' : ¬ τ = 1 := fun q => z2 (by rw [q]; rfl)
    obtain ⟨o, t, ga, ta, ci, ⟨o1, o2, o3, o4, o5, o6, o7, o8⟩, hq⟩ := h2 (by omega)
    exact tm_close o1 o2 o3 h31 hN o4 o5 o6 o7 o8 (fun w' a b e f => bk_X6_takeTurnOfCall_C_67 (mm_call_m _) (h77 _ _ (hq w' a b e f)))
  · obtain ⟨o, t, wa, ci, cj, g, ⟨o0, o1, o2, t1, t2, r5⟩, ⟨i1, i2, i3⟩, ⟨u1, u2, u3, u4⟩, q30, q⟩ := h1 (en (j := 1) z2 (by decide))
    obtain ⟨o', rfl⟩ : ∃ o', o = o' + 1 := ⟨o - 1, by omega⟩
    refine sm_unit_C o2 (by omega) (bk_X6_takeTurnOfCall_C_31 (mm_call_m _) ?_)
    rw [show mi 174 o' = nI ci from u1]
    refine sf_ct h31 hN i1 hK.1.2.1 hND hn (bk_X6_takeTurnOfCall_C_35 (mm_call_m _) ?_)
    rw [u2]
    refine tm_open o2 o1 t1 t2 h31 hN i2 u3 (fun e30 => bk_X6_takeTurnOfCall_C_38 (mm_call_m _) (en_X9_goesOn (bk_X9_goesOn_0 (mm_call_m _) (fun _ => bk_X6_takeTurnOfCall_C_45 (s0 := 0) (mm_call_m _) (fun _ => h77 _ _ (q30 e30)) (fun y => absurd rfl y)) (fun y => absurd (mm_u_s.symm.trans y) (by decide))))) (fun hlt y => bk_X6_takeTurnOfCall_C_38 (mm_call_m _) (en_X9_goesOn (bk_X9_goesOn_0 (mm_call_m _) (fun y2 => absurd ?_ y2) (fun _ => bk_X6_takeTurnOfCall_C_45 (s0 := 1) (mm_call_m _) (fun y => absurd y (by decide)) (fun _ => ?_)))))
    · rw [mm_u_f (by decide), mm_u_e (by decide), mm_u_e (by decide), mm_u_e (by decide)]
      exact r5
    · generalize hw2 : mm_u (mm_u (mm_u (mm_u mi 174 (o' + 1) (nI cj)) 175 (o' + 1) (nI t)) 170 11 (nI (o' + 1 + 1))) 162 4 y = w2
      have ow : ∀ c i, c < 160 → w2 c i = mi c i := fun c i q => by rw [← hw2, mm_u_e (by omega), mm_u_e (by omega), mm_u_e (by omega), mm_u_e (by omega)]
      have e11 : w2 170 11 = nI (o' + 1 + 1) := by rw [← hw2, mm_u_e (by decide), mm_u_s]
      have e174 : w2 174 (o' + 1) = nI cj := by rw [← hw2, mm_u_e (by decide), mm_u_e (by decide), mm_u_e (by decide), mm_u_s]
      refine sm_unit_C e11 hlt (bk_X6_takeTurnOfCall_C_54 (mm_call_m _) ?_)
      rw [e174]
      refine sf_bd (NF := NF) (f := g) ((ow 31 12 (by decide)).trans h31) hN i2 ((ow 32 cj (by decide)).trans u4) ((ow 9 7 (by decide)).trans hK.1.2.2) hNF i3 (bk_X6_takeTurnOfCall_C_57 (mm_call_m _) ?_)
      rw [ow 15 g (by decide)]
      have := q hlt y
      rw [hw2] at this
      exact mm_cq_m (mm_call_m _) this (fun o a b ⟨e, q⟩ => by subst e; exact bk_X6_takeTurnOfCall_C_60 (mm_call_m _) (h77 a b q))
  · refine sx_partOf7 (i := 0) hK hn (by decide) hok (fun _ => bk_X6_takeTurnOfCall_C_14 (mm_call_m _) ?_) (fun x => absurd (by rw [h1p]; decide) x)
    exact mm_cq_m (mm_call_m _) (h0 (en (j := 0) z (by decide))) (fun o a b ⟨e, q⟩ => by subst e; exact bk_X6_takeTurnOfCall_C_17 (mm_call_m _) (h77 a b q))
end MMT
