/-! ===== run() of the class, exact ===== -/
/-- a TRUTH node's number is 0 or 1 -/
def TRN (m : mm_P) : Prop := ∀ n : Nat, (n : Int) < (m 3 5).toInt → m 4 n = 1 → m 6 (4 * n) = 0 ∨ m 6 (4 * n) = 1
theorem TRN_e {m w : mm_P} (h : TRN m) (h35 : w 3 5 = m 3 5) (h4 : ∀ i, w 4 i = m 4 i) (h6 : ∀ i, w 6 i = m 6 i) : TRN w := fun n hn k => by
  rw [h35] at hn
  rw [h4] at k
  rw [h6]
  exact h n hn k
theorem TRN_n {ND : Nat} {m : mm_P} (h : TRN m) (hND : ND ≤ 200) (hN : NC ND m) : ∀ n, n < ND → m 188 n = 1 → m 189 n = 0 ∨ m 189 n = 1 := fun n hn k => by
  obtain ⟨h4, -, h6, -⟩ := hN.2 n hn
  have h2 : ¬ m 188 n = 2 := fun z => by
    rw [k] at z
    exact absurd z (by decide)
  rw [← h6 h2]
  refine h n ?_ (h4.trans k)
  rw [hN.1, mm_tI (by omega)]
  omega
section MMT
variable {L : Nat} {xs : Nat → Int32} {d : Nat} {ml : mm_G}
theorem cl_work {w0 : mm_P} (A B : HF) (hCK : CK w0 ml) (hV : VP w0 ml 0) (hTR : TRN w0) : mm_cq (mm_call mm_ms (mm_tb L xs) (d + 13)) 66 [mm_R 164, mm_L (ml 13 0), mm_L (ml 14 0)] w0 ml (fun o _ _ => o = some (mm_I (OUT w0 A B))) := by
  obtain ⟨hIC, ⟨NB, ND, NF, hI0, hT0, hN0, hF0⟩, -, h41, h61⟩ := id hCK.1.1
  have hNB := hI0.1.1
  have hND := hI0.1.2.1
  have hNF := hI0.1.2.2
  obtain ⟨m, hp, hJ⟩ := JO_ex hCK.1 hI0 hV
  have hI := IM_c hI0 hp
  have hNF0 := hJ.1
  have hlo : ∀ c i, c < 176 → m c i = w0 c i := fun c i q => hp c i (pg_low q)
  have hrow : ∀ c t, 177 ≤ c → c ≤ 183 → t < 200 → m c t = w0 c t := fun c t a b q => hp c t (pg_row a b q)
  have hnod : ∀ c i, 188 ≤ c → c ≤ 197 → m c i = w0 c i := fun c i a b => hp c i (pg_nod a b)
  have hT : TC NB m ml := TC_c hT0 (hlo 1 1 (by decide)) (fun t ht c a b => hrow c t a b (by omega)) (fun _ _ => rfl)
  have hN : NC ND m := NC_c hN0 (hlo 3 5 (by decide)) (fun c i q => by
    by_cases z : c < 176
    · exact hlo c i z
    · exact hnod c i (by omega) (by omega))
  have hF : FC NF m ml := FC_c hI0 hF0 (hlo 9 7 (by decide)) (fun c i q => by
    by_cases z : c < 176
    · exact hlo c i z
    · exact hnod c i (by omega) (by omega)) (fun _ _ => rfl) (fun _ => rfl) (fun _ => rfl)
  have hTR1 := TRN_n (TRN_e hTR (hlo 3 5 (by decide)) (fun i => hlo 4 i (by decide)) (fun i => hlo 6 i (by decide))) hND hN
  obtain ⟨N, eN, hN16, -, -⟩ := mm_of (n := 17) (by have := hIC.2.2.2.2.2.1; exact this) (by have := hIC.2.2.2.2.2.2; omega)
  have hmN : m 176 41 = nI N := (hp 176 41 rfl).trans (h41.symm.trans eN)
  have hm61 : ∀ w : mm_P, (∀ i, w 161 i = w0 161 i) → ∀ i, i < N → w 161 i = m 211 i := fun w h i hi => by
    rw [h i, h61 i (by rw [eN, mm_tI (by omega)]; omega)]
    exact (hp 211 i rfl).symm
  -- the first function
  obtain ⟨l1, ⟨x, x1, x2, x3⟩, ⟨y, y1, y2, y3⟩, -⟩ := hI.2.2.2.2.2.1 0 hNF0
  have hl0 := hJ.2.1
  have hclx : m 181 x = 0 ∧ m 182 x = 0 := ⟨x3.1.resolve_right (by omega), x3.2.resolve_right (by omega)⟩
  have et : (m 195 0).toNatClampNeg = x := by rw [x2]; exact nI_clamp (by omega)
  obtain ⟨wf, TY, hAC⟩ := AC_of hJ (f := 0) (by decide) (.inl rfl)
  obtain ⟨-, -, -, gp, gT, gt, b, b1, b2, b3⟩ := id hAC
  have eb : (m 197 0).toNatClampNeg = b := by rw [b2]; exact nI_clamp (by omega)
  have hdb := (hI.2.2.2.2.1 b b1).2.1
  have hib : IB ND m 0 b := fun P h1 _ => h1 b b1 b2
  obtain ⟨-, -, -, f15, f13, f14⟩ := hF.2 0 hNF0
  rw [et] at f13
  have dx := hI.2.2.2.1 x x1
  have eOUT : OUT w0 A B = OUT m A B := (OUT_p hI0 hNF0 hp).symm
  rw [eOUT]
  have h117 : ∀ (w : mm_P) (m2 : mm_G) (x5 : Int32) (e : Int32), e = OUT m A B → w 162 5 = e → mm_WQ (mm_call mm_ms (mm_tb L xs) (d + 12)) (mm_tb L xs) mm_m66 (mm_li mm_m66) (fun o _ _ => o = some (mm_I (OUT m A B))) 117 [some (mm_R 164), some (mm_L (ml 13 0)), none, some (mm_L (ml 14 0)), none, some (mm_I x5)] [] w m2 := fun w m2 x5 e h1 h2 => bk_X6_work_L_117 (mm_call_m _) (en_X9_outcome (bk_X9_outcome_0 (mm_call_m _) (bk_X6_work_L_124 (mm_call_m _) (by rw [h2, h1]))))
  -- an end with another outcome
  have h92 : ∀ (w : mm_P) (x5 : Int32) (e : Int32), ¬ e = 0 → e = OUT m A B → w 162 5 = e → mm_WQ (mm_call mm_ms (mm_tb L xs) (d + 12)) (mm_tb L xs) mm_m66 (mm_li mm_m66) (fun o _ _ => o = some (mm_I (OUT m A B))) 92 [some (mm_R 164), some (mm_L (ml 13 0)), none, some (mm_L (ml 14 0)), none, some (mm_I x5)] [] w ml := fun w x5 e hne h1 h2 => bk_X6_work_L_92 (mm_call_m _) (en_X9_goesOn (bk_X9_goesOn_0 (mm_call_m _) (fun _ => bk_X6_work_L_99 (s0 := 0) (mm_call_m _) (fun _ => h117 w ml x5 e h1 h2) (fun z => absurd rfl z)) (fun z => absurd (h2.symm.trans z) hne)))
  -- an end with a value: it is told
  have h92' : ∀ (w : mm_P) (x5 : Int32), mm_IC w → 0 = OUT m A B → w 162 5 = 0 → mm_WQ (mm_call mm_ms (mm_tb L xs) (d + 12)) (mm_tb L xs) mm_m66 (mm_li mm_m66) (fun o _ _ => o = some (mm_I (OUT m A B))) 92 [some (mm_R 164), some (mm_L (ml 13 0)), none, some (mm_L (ml 14 0)), none, some (mm_I x5)] [] w ml := by
    intro w x5 hi h1 h2
    refine bk_X6_work_L_92 (mm_call_m _) (en_X9_goesOn (bk_X9_goesOn_0 (mm_call_m _) (fun z => absurd h2 z) (fun _ => bk_X6_work_L_99 (s0 := 1) (mm_call_m _) (fun z => absurd z (by decide)) (fun _ => sc_X5_shapeWidth hi (fun u n1 n2 i1 k1 => bk_X6_work_L_113 (mm_call_m _) (sc_X6_tellValue_L i1 (fun n3 n4 i2 k2 => h117 n3 n4 x5 0 h1 ?_)))))))
    exact (k2 162 5 (by decide +kernel)).1.trans ((k1 162 5 (by decide +kernel)).1.trans h2)
  generalize hC : (fun (T : Nat) (w : mm_P) => mm_IC w → mm_WQ (mm_call mm_ms (mm_tb L xs) (d + 12)) (mm_tb L xs) mm_m66 (mm_li mm_m66) (fun o _ _ => o = some (mm_I (OUT m A B))) 58 [some (mm_R 164), some (mm_L (ml 13 0)), none, some (mm_L (ml 14 0)), none, some (mm_I (nI T))] [] w ml) = C
  have hCi : ∀ T w, (mm_IC w → mm_WQ (mm_call mm_ms (mm_tb L xs) (d + 12)) (mm_tb L xs) mm_m66 (mm_li mm_m66) (fun o _ _ => o = some (mm_I (OUT m A B))) 58 [some (mm_R 164), some (mm_L (ml 13 0)), none, some (mm_L (ml 14 0)), none, some (mm_I (nI T))] [] w ml) → C T w := fun T w q => by
    rw [← hC]
    exact q
  have hCe : ∀ T w, C T w → mm_IC w → mm_WQ (mm_call mm_ms (mm_tb L xs) (d + 12)) (mm_tb L xs) mm_m66 (mm_li mm_m66) (fun o _ _ => o = some (mm_I (OUT m A B))) 58 [some (mm_R 164), some (mm_L (ml 13 0)), none, some (mm_L (ml 14 0)), none, some (mm_I (nI T))] [] w ml := fun T w q => by
    rw [← hC] at q
    exact q
  have hturn : ∀ T w k, T < 100000 → k < 600 → w 164 10 = nI (k + 1) → w 162 5 = 0 → mm_cq (mm_call mm_ms (mm_tb L xs) (d + 5 + 7)) 69 [mm_R 164] w ml (fun o a b => o = none ∧ b = ml ∧ C (T + 1) a) → C T w := fun T w k hT hk h10 h5 hq => hCi T w (fun hi => by
    have hlt : ¬ (100000 : Int32) ≤ nI T := fun z => by
      have := mm_leI z
      rw [mm_tI (by omega), show (100000 : Int32).toInt = 100000 from rfl] at this
      omega
    have hle : ¬ w 164 10 ≤ 0 := fun z => by
      rw [h10] at z
      have := mm_leI z
      rw [mm_tI (by omega), mm_tt0] at this
      omega
    refine bk_X6_work_L_58 (mm_call_m _) (fun z => absurd z hlt) (fun _ z => absurd z hle) (fun _ _ => en_X9_goesOn (bk_X9_goesOn_0 (mm_call_m _) (fun z => absurd h5 z) (fun _ => bk_X6_work_L_79 (s0 := 1) (mm_call_m _) (fun z => absurd z (by decide)) (fun _ => mm_cq_m (mm_call_m _) (mm_cq_a hq (sc_X6_takeTurn_L (d := d + 6) (Q := fun _ n1 _ => mm_IC n1) hi (fun n1 n2 a _ => a))) (fun o n1 n2 ⟨⟨e1, e2, hc⟩, hi2⟩ => ?_)))))
    obtain rfl : ml = n2 := e2.symm
    subst e1
    refine bk_X6_work_L_86 (mm_call_m _) ?_
    rw [show nI T + 1 = nI (T + 1) from (nI_succ T).symm]
    exact hCe _ _ hc hi2)
  have hj := cl_ev (d := d + 5) hturn hI ((hlo 1 1 (by decide)).trans hT0.1) hN hF hJ hTR1 360
  refine en_X6_work_L (bk_X6_work_L_0 (mm_call_m _) ?_)
  generalize hw1 : mm_u (mm_u (mm_u (mm_u w0 164 8 0) 164 9 4096) 164 10 0) 164 11 0 = w1
  have hIC1 : mm_IC w1 := by
    rw [← hw1]
    exact mm_IC_n (mm_IC_n (mm_IC_n (mm_IC_n hIC (by decide) (by decide) (by decide) (by decide) (by decide)) (by decide) (by decide) (by decide) (by decide) (by decide)) (by decide) (by decide) (by decide) (by decide) (by decide)) (by decide) (by decide) (by decide) (by decide) (by decide)
  have a0 : ∀ c i, ¬ c = 164 → w1 c i = w0 c i := fun c i z => by rw [← hw1, mm_u_e z, mm_u_e z, mm_u_e z, mm_u_e z]
  have a8 : w1 164 8 = nI 0 := by
    rw [← hw1, mm_u_f (by decide), mm_u_f (by decide), mm_u_f (by decide), mm_u_s]
    rfl
  have a9 : w1 164 9 = nI 4096 := by
    rw [← hw1, mm_u_f (by decide), mm_u_f (by decide), mm_u_s]
    rfl
  have a10 : w1 164 10 = nI 0 := by
    rw [← hw1, mm_u_f (by decide), mm_u_s]
    rfl
  have a11 : w1 164 11 = nI 0 := by
    rw [← hw1, mm_u_s]
    rfl
  -- begin
  have r1 : mm_cq (mm_call mm_ms (mm_tb L xs) (d + 12)) 117 [mm_R 162] w1 ml (fun o n1 n2 => o = none ∧ ml = n2 ∧ n1 = mm_u (mm_u (mm_u (mm_u (mm_u w1 162 1 0) 162 2 0) 162 3 0) 162 4 0) 162 5 0) := en_X9_begin (bk_X9_begin_0 (mm_call_m _) ⟨rfl, rfl, rfl⟩)
  refine mm_cq_m (mm_call_m _) (mm_cq_a r1 (sc_X9_begin (Q := fun _ n1 _ => mm_IC n1) hIC1 (fun n1 n2 a _ => a))) (fun o w2 n2 ⟨⟨e1, e2, e3⟩, hIC2⟩ => ?_)
  subst e1 e2
  have c0 : ∀ c i, ¬ c = 162 → w2 c i = w1 c i := fun c i z => by rw [e3, mm_u_e z, mm_u_e z, mm_u_e z, mm_u_e z, mm_u_e z]
  have c1 : w2 162 1 = 0 := by rw [e3, mm_u_f (by decide), mm_u_f (by decide), mm_u_f (by decide), mm_u_f (by decide), mm_u_s]
  have c2 : w2 162 2 = nI 0 := by
    rw [e3, mm_u_f (by decide), mm_u_f (by decide), mm_u_f (by decide), mm_u_s]
    rfl
  have c3 : w2 162 3 = nI 0 := by
    rw [e3, mm_u_f (by decide), mm_u_f (by decide), mm_u_s]
    rfl
  have c5 : w2 162 5 = 0 := by rw [e3, mm_u_s]
  refine bk_X6_work_L_29 (mm_call_m _) ?_
  -- rewind
  have r2 : mm_cq (mm_call mm_ms (mm_tb L xs) (d + 12)) 38 [mm_R 160] w2 ml (fun o n1 n2 => o = none ∧ ml = n2 ∧ n1 = mm_u w2 160 2 0) := en_X3_rewind (bk_X3_rewind_0 (mm_call_m _) ⟨rfl, rfl, rfl⟩)
  refine mm_cq_m (mm_call_m _) (mm_cq_a r2 (sc_X3_rewind (Q := fun _ n1 _ => mm_IC n1) hIC2 (fun n1 n2 a _ => a))) (fun o w3 n2 ⟨⟨e1, e2, e4⟩, hIC3⟩ => ?_)
  subst e1 e2
  have d0 : ∀ c i, ¬ (c = 160 ∧ i = 2) → w3 c i = w2 c i := fun c i z => by rw [e4, mm_u_o z]
  have d2 : w3 160 2 = nI (min 0 N) := by
    rw [e4, mm_u_s, Nat.zero_min]
    rfl
  refine bk_X6_work_L_36 (mm_call_m _) ?_
  -- the argument is read
  have w30 : ∀ c i, ¬ c = 164 → ¬ c = 162 → ¬ (c = 160 ∧ i = 2) → w3 c i = w0 c i := fun c i z1 z2 z3 => (d0 c i z3).trans ((c0 c i z2).trans (a0 c i z1))
  have w34 : ∀ i, w3 164 i = w1 164 i := fun i => (d0 164 i (by omega)).trans (c0 164 i (by decide))
  have w32 : ∀ i, w3 162 i = w2 162 i := fun i => d0 162 i (by omega)
  have r3 : mm_cq (mm_call mm_ms (mm_tb L xs) (d + 12)) 80 [mm_R 164, mm_L (ml 13 0)] w3 ml (fun o n1 n2 => o = none ∧ ml = n2 ∧ RV w3 n1 N (GVt gL m lI lI x) 5 0 4096 0 0 A B (fun _ => 0) (rd m 5 x A B 0 0)) := by
    rw [f13]
    exact cl_read (d := d + 4) hI hT hmN (by omega) mLR_I mLR_I 5 x1 hclx.1 hclx.2 (by omega) ((w30 160 1 (by decide) (by decide) (by omega)).trans eN) (hm61 w3 (fun i => w30 161 i (by decide) (by decide) (by omega))) (by decide) ((w34 8).trans a8) ((w34 9).trans a9) (Nat.le_refl _) (by decide) d2 (by decide) (fun a ha => absurd ha (Nat.not_lt_zero _)) (fun w' hR => ⟨rfl, rfl, hR⟩)
  refine mm_cq_m (mm_call_m _) (mm_cq_a r3 (sc_X6_readValue_L (d := d + 2) (Q := fun _ n1 _ => mm_IC n1) hIC3 (fun n1 n2 a _ => a))) (fun o w4 n2 ⟨⟨e1, e2, hRV⟩, hIC4⟩ => ?_)
  subst e1 e2
  obtain ⟨v, A1, B1, h1, e', φ, p, grd, ⟨s8, s9, sp, sl1, sl2⟩, -, hFR, -, -, -, -, hLP, hG⟩ := hRV
  have c5n : cn 5 = 1364 := by decide
  rw [c5n] at sl2
  have ep : p = 4096 + 2 * h1 := by omega
  subst ep
  have w42 : ∀ i, w4 162 i = w2 162 i := fun i => (hFR 162 i (by decide) (by omega) (by omega)).trans (w32 i)
  have w40 : ∀ c i, c < 160 → w4 c i = w0 c i := fun c i q => (hFR c i (by omega) (by omega) (by omega)).trans (w30 c i (by omega) (by omega) (by omega))
  have t10 : w4 164 10 = nI 0 := (hFR 164 10 (by decide) (by omega) (by omega)).trans ((w34 10).trans a10)
  have t11 : w4 164 11 = nI 0 := (hFR 164 11 (by decide) (by omega) (by omega)).trans ((w34 11).trans a11)
  refine bk_X6_work_L_41 (mm_call_m _) ?_
  -- the first function is opened
  have r4 : mm_cq (mm_call mm_ms (mm_tb L xs) (d + 12)) 67 [mm_R 164, mm_I 0] w4 ml (fun o n1 n2 => o = none ∧ ml = n2 ∧ ∃ y, n1 = mm_u (mm_u (mm_u (mm_u w4 168 0 0) 169 0 (nI 0)) 164 11 (nI (0 + 1))) 162 4 y) := tn_open (d := d + 10) (o := 0) (t := 0) (g := 0) t11 (by decide) s8 (by decide) (fun z => absurd z (by decide)) (fun _ y => ⟨rfl, rfl, y, rfl⟩)
  refine mm_cq_m (mm_call_m _) (mm_cq_a r4 (sc_X6_openFunction_L (Q := fun _ n1 _ => mm_IC n1) hIC4 (fun n1 n2 a _ => a))) (fun o w5 n2 ⟨⟨e1, e2, yo, e5⟩, hIC5⟩ => ?_)
  subst e1 e2
  have g0 : ∀ c i, ¬ (c = 168 ∧ i = 0) → ¬ (c = 169 ∧ i = 0) → ¬ (c = 164 ∧ i = 11) → ¬ (c = 162 ∧ i = 4) → w5 c i = w4 c i := fun c i z1 z2 z3 z4 => by rw [e5, mm_u_o z4, mm_u_o z3, mm_u_o z2, mm_u_o z1]
  have g11 : w5 164 11 = nI 1 := by rw [e5, mm_u_e (by decide), mm_u_s]
  have g169 : w5 169 0 = nI 0 := by rw [e5, mm_u_e (by decide), mm_u_e (by decide), mm_u_s]
  have e165 : w5 165 = w4 165 := funext fun i => g0 165 i (by omega) (by omega) (by omega) (by omega)
  have w50 : ∀ c i, c < 160 → w5 c i = m c i := fun c i q => (g0 c i (by omega) (by omega) (by omega) (by omega)).trans ((w40 c i q).trans (hlo c i (by omega)).symm)
  refine bk_X6_work_L_46 (mm_call_m _) (en_X5_bodyOf (bk_X5_bodyOf_0 (mm_call_m _) (sx_bodyOf (f := 0) ((w50 9 7 (by decide)).trans hF.1) hNF hNF0 (bk_X5_bodyOf_8 (mm_call_m _) (bk_X6_work_L_52 (mm_call_m _) ?_)))))
  rw [w50 15 0 (by decide), f15, b2]
  -- its body begins
  have hW : WC m w5 (w5 165) 1 (4096 + 2 * h1) 0 1 0 0 := ⟨w50, fun _ => rfl, ⟨(g0 164 8 (by omega) (by omega) (by omega) (by omega)).trans s8, (g0 164 9 (by omega) (by omega) (by omega) (by omega)).trans s9, (g0 164 10 (by omega) (by omega) (by omega) (by omega)).trans t10, g11⟩, (g0 162 2 (by omega) (by omega) (by omega) (by omega)).trans ((w42 2).trans c2), (g0 162 3 (by omega) (by omega) (by omega) (by omega)).trans ((w42 3).trans c3), (g0 162 5 (by omega) (by omega) (by omega) (by omega)).trans ((w42 5).trans c5), (g0 162 1 (by omega) (by omega) (by omega) (by omega)).trans ((w42 1).trans c1)⟩
  have r6 : mm_cq (mm_call mm_ms (mm_tb L xs) (d + 12)) 68 [mm_R 164, mm_I (nI b)] w5 ml (fun o a b => o = none ∧ b = ml ∧ C 0 a) := by
    refine cl_bg (d := d + 10) (k := 0) (t := 1) (o := 1) (s := 0) (l := 0) (T := 0) (A := A1) (B := B1) (h := h1) (φ := φ) (K := w5 165) (f := 0) (wf := wf) (TY := TY) (SA := lI) (SB := lI) (n := b) (arg := v) hI hj hW (by decide) (by decide) (fun _ w e169 => ⟨⟨by decide, by decide⟩, ⟨by decide, by decide, by omega, by decide⟩, hLP, hAC, ⟨mLR_I, mLR_I⟩, ⟨x, 0, x1, x2, e169.trans g169, by decide, ?_⟩, ⟨b1, hib, by omega, by decide⟩, by omega⟩) (by omega) (by omega) (by decide) (fun _ w _ => ?_) ?_
    · rw [e165]
      exact hG
    · intro z A2 B2 h2 s2 l2 o2 K2 φ2 w' T' he _ hW2 _ _ _ _ _
      have eO := OUT_e et eb grd he
      have h10 : w' 164 10 ≤ 0 := by
        rw [hW2.2.2.1.2.2.1]
        decide
      exact hCi T' w' (fun hi => bk_X6_work_L_58 (mm_call_m _) (fun _ => h92' w' _ hi eO.symm hW2.2.2.2.2.2.1) (fun _ _ => h92' w' _ hi eO.symm hW2.2.2.2.2.2.1) (fun _ z => absurd h10 z))
    · intro e z A2 B2 h2 s2 l2 o2 w' T' he hne _ h5 _ _
      have eO := OUT_e et eb grd he
      exact hCi T' w' (fun hi => bk_X6_work_L_58 (mm_call_m _) (fun _ => h92 w' _ e hne eO.symm h5) (fun _ _ => h92 w' _ e hne eO.symm h5) (fun _ _ => en_X9_goesOn (bk_X9_goesOn_0 (mm_call_m _) (fun _ => bk_X6_work_L_79 (s0 := 0) (mm_call_m _) (fun _ => h92 w' _ e hne eO.symm h5) (fun z => absurd rfl z)) (fun z => absurd (h5.symm.trans z) hne))))
  refine mm_cq_m (mm_call_m _) (mm_cq_a r6 (sc_X6_beginNode_L (Q := fun _ n1 _ => mm_IC n1) hIC5 (fun n1 n2 a _ => a))) (fun o n1 n2 ⟨⟨e1, e2, hc⟩, hi⟩ => ?_)
  obtain rfl : ml = n2 := e2.symm
  subst e1
  exact bk_X6_work_L_55 (mm_call_m _) (hCe 0 n1 hc hi)
/-- two heaps at the start: the same outcome -/
theorem OUT_i {w0 : mm_P} (A B A' B' : HF) (hCK : CK w0 ml) (hV : VP w0 ml 0) (hTR : TRN w0) : OUT w0 A B = OUT w0 A' B' := by
  refine mm_cq_k (mm_cq_m (mm_call_m _) (mm_cq_a (cl_work (L := 0) (xs := fun _ => 0) (d := 0) A B hCK hV hTR) (cl_work (L := 0) (xs := fun _ => 0) (d := 0) A' B' hCK hV hTR)) (fun o n1 n2 ⟨h1, h2⟩ => ?_))
  have h3 := h1.symm.trans h2
  injection h3 with h4
  injection h4
end MMT
