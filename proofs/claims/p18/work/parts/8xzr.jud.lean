/-! ===== runCopies() of the class, exact ===== -/
section MMT
variable {L : Nat} {xs : Nat → Int32} {d : Nat} {ml : mm_G}
theorem cc_work {m : mm_P} (A B : HF) (hCV : CV m ml) (hTR : TRN m) (h09 : m 0 9 = 0) {Cl : List CTy} (hcc : CC m ml = some Cl) (hCR : CRw m ml Cl) (hUR : ∀ s, s ∈ Cl → s.1 < 12 ∧ UR m s.1) (hPR : ∀ i, i < Cl.length → PRC m ml m ml Cl i) : mm_cq (mm_call mm_ms (mm_tb L xs) (d + 21)) 66 [mm_R 170, mm_L (ml 13 0), mm_L (ml 14 0)] m ml (fun o _ _ => o = some (mm_I (OUT m A B))) := by
  obtain ⟨hIC, -, -, h41, h61⟩ := id hCV.1.1.1
  obtain ⟨NB, ND, NF, hI, hT, hF, hNF0, hP, hlen, h0⟩ := CPG_of hCV h09 hcc hCR hUR hPR
  have hNB := hI.1.1
  have hND := hI.1.2.1
  have hNF := hI.1.2.2
  have hTR1 := TRN_n hTR hND hP.2.1
  obtain ⟨N, eN, hN16, -, -⟩ := mm_of (n := 17) (by have := hIC.2.2.2.2.2.1; exact this) (by have := hIC.2.2.2.2.2.2; omega)
  have hmN : m 176 41 = nI N := h41.symm.trans eN
  have hm61 : ∀ w : mm_P, (∀ i, w 161 i = m 161 i) → ∀ i, i < N → w 161 i = m 211 i := fun w h i hi => by
    rw [h i, h61 i (by rw [eN, mm_tI (by omega)]; omega)]
  obtain ⟨hOT, h32, ⟨hAS, hRS, h36, h37⟩, b, b1, b2, b5, b3, hNd⟩ := hP.2.2.2 0 hlen
  have hOT0 := hOT
  rw [h0] at h32 hAS hRS h36 h37 b2 b5
  obtain ⟨l1, ⟨x, x1, x2, x3⟩, -, -⟩ := hI.2.2.2.2.2.1 0 hNF0
  have et : (m 195 0).toNatClampNeg = x := by rw [x2]; exact nI_clamp (by omega)
  have eb : (m 197 0).toNatClampNeg = b := by
    rw [show m 197 0 = nI b from b5]
    exact nI_clamp (by omega)
  have hdb := (hI.2.2.2.2.1 b b1).2.1
  obtain ⟨-, -, -, f15, f13, f14⟩ := hF.2 0 hNF0
  rw [et] at f13
  -- the first copy's argument is the first function's
  obtain ⟨jx, hjx⟩ := hP.1.2.2.1 x x1
  have hA1 : ¬ f_with (ml 2 x) (-1) (-1) = -1 := fun e => by
    have h := hAS
    rw [show cAS ml k_c0 = f_with (ml 13 0) (-1) (-1) from rfl, f13, e] at h
    exact CLs_n h
  obtain ⟨hclx, ewx⟩ := with_nn jx (ml 2 x) hjx hA1
  have eAS : cAS ml k_c0 = ml 2 x := by
    rw [show cAS ml k_c0 = f_with (ml 13 0) (-1) (-1) from rfl, f13, ewx]
  rw [eAS] at h36
  have wx := wd_16 hclx
  have dx := dpn_r (CLs_V hclx)
  have h117 : ∀ (w : mm_P) (m2 : mm_G) (x5 : Int32) (e : Int32), e = OUT m A B → w 162 5 = e → mm_WQ (mm_call mm_ms (mm_tb L xs) (d + 20)) (mm_tb L xs) mm_m66 (mm_li mm_m66) (fun o _ _ => o = some (mm_I (OUT m A B))) 117 [some (mm_R 170), some (mm_L (ml 13 0)), none, some (mm_L (ml 14 0)), none, some (mm_I x5)] [] w m2 := fun w m2 x5 e h1 h2 => bk_X6_work_C_117 (mm_call_m _) (en_X9_outcome (bk_X9_outcome_0 (mm_call_m _) (bk_X6_work_C_124 (mm_call_m _) (by rw [h2, h1]))))
  have h92 : ∀ (w : mm_P) (x5 : Int32) (e : Int32), ¬ e = 0 → e = OUT m A B → w 162 5 = e → mm_WQ (mm_call mm_ms (mm_tb L xs) (d + 20)) (mm_tb L xs) mm_m66 (mm_li mm_m66) (fun o _ _ => o = some (mm_I (OUT m A B))) 92 [some (mm_R 170), some (mm_L (ml 13 0)), none, some (mm_L (ml 14 0)), none, some (mm_I x5)] [] w ml := fun w x5 e hne h1 h2 => bk_X6_work_C_92 (mm_call_m _) (en_X9_goesOn (bk_X9_goesOn_0 (mm_call_m _) (fun _ => bk_X6_work_C_99 (s0 := 0) (mm_call_m _) (fun _ => h117 w ml x5 e h1 h2) (fun z => absurd rfl z)) (fun z => absurd (h2.symm.trans z) hne)))
  have h92' : ∀ (w : mm_P) (x5 : Int32), mm_IC w → 0 = OUT m A B → w 162 5 = 0 → mm_WQ (mm_call mm_ms (mm_tb L xs) (d + 20)) (mm_tb L xs) mm_m66 (mm_li mm_m66) (fun o _ _ => o = some (mm_I (OUT m A B))) 92 [some (mm_R 170), some (mm_L (ml 13 0)), none, some (mm_L (ml 14 0)), none, some (mm_I x5)] [] w ml := by
    intro w x5 hi h1 h2
    refine bk_X6_work_C_92 (mm_call_m _) (en_X9_goesOn (bk_X9_goesOn_0 (mm_call_m _) (fun z => absurd h2 z) (fun _ => bk_X6_work_C_99 (s0 := 1) (mm_call_m _) (fun z => absurd z (by decide)) (fun _ => sc_X1_shapeWidth (d := d + 9) hi (fun u n1 n2 i1 k1 => bk_X6_work_C_113 (mm_call_m _) (sc_X6_tellValue_C (d := d + 2) i1 (fun n3 n4 i2 k2 => h117 n3 n4 x5 0 h1 ?_)))))))
    exact (k2 162 5 (by decide +kernel)).1.trans ((k1 162 5 (by decide +kernel)).1.trans h2)
  generalize hC : (fun (T : Nat) (w : mm_P) => mm_IC w → mm_WQ (mm_call mm_ms (mm_tb L xs) (d + 20)) (mm_tb L xs) mm_m66 (mm_li mm_m66) (fun o _ _ => o = some (mm_I (OUT m A B))) 58 [some (mm_R 170), some (mm_L (ml 13 0)), none, some (mm_L (ml 14 0)), none, some (mm_I (nI T))] [] w ml) = C
  have hCi : ∀ T w, (mm_IC w → mm_WQ (mm_call mm_ms (mm_tb L xs) (d + 20)) (mm_tb L xs) mm_m66 (mm_li mm_m66) (fun o _ _ => o = some (mm_I (OUT m A B))) 58 [some (mm_R 170), some (mm_L (ml 13 0)), none, some (mm_L (ml 14 0)), none, some (mm_I (nI T))] [] w ml) → C T w := fun T w q => by
    rw [← hC]
    exact q
  have hCe : ∀ T w, C T w → mm_IC w → mm_WQ (mm_call mm_ms (mm_tb L xs) (d + 20)) (mm_tb L xs) mm_m66 (mm_li mm_m66) (fun o _ _ => o = some (mm_I (OUT m A B))) 58 [some (mm_R 170), some (mm_L (ml 13 0)), none, some (mm_L (ml 14 0)), none, some (mm_I (nI T))] [] w ml := fun T w q => by
    rw [← hC] at q
    exact q
  have hturn : ∀ T w k, T < 100000 → k < 600 → w 170 10 = nI (k + 1) → w 162 5 = 0 → mm_cq (mm_call mm_ms (mm_tb L xs) (d + 13 + 7)) 69 [mm_R 170] w ml (fun o a b => o = none ∧ b = ml ∧ C (T + 1) a) → C T w := fun T w k hT hk h10 h5 hq => hCi T w (fun hi => by
    have hlt : ¬ (100000 : Int32) ≤ nI T := fun z => by
      have := mm_leI z
      rw [mm_tI (by omega), show (100000 : Int32).toInt = 100000 from rfl] at this
      omega
    have hle : ¬ w 170 10 ≤ 0 := fun z => by
      rw [h10] at z
      have := mm_leI z
      rw [mm_tI (by omega), mm_tt0] at this
      omega
    refine bk_X6_work_C_58 (mm_call_m _) (fun z => absurd z hlt) (fun _ z => absurd z hle) (fun _ _ => en_X9_goesOn (bk_X9_goesOn_0 (mm_call_m _) (fun z => absurd h5 z) (fun _ => bk_X6_work_C_79 (s0 := 1) (mm_call_m _) (fun z => absurd z (by decide)) (fun _ => mm_cq_m (mm_call_m _) (mm_cq_a hq (sc_X6_takeTurn_C (d := d + 14) (Q := fun _ n1 _ => mm_IC n1) hi (fun n1 n2 a _ => a))) (fun o n1 n2 ⟨⟨e1, e2, hc⟩, hi2⟩ => ?_)))))
    obtain rfl : ml = n2 := e2.symm
    subst e1
    refine bk_X6_work_C_86 (mm_call_m _) ?_
    rw [show nI T + 1 = nI (T + 1) from (nI_succ T).symm]
    exact hCe _ _ hc hi2)
  have hj := cc_ev (d := d + 13) hturn hI hP hTR1 360
  refine en_X6_work_C (bk_X6_work_C_0 (mm_call_m _) ?_)
  generalize hw1 : mm_u (mm_u (mm_u (mm_u m 170 8 0) 170 9 4096) 170 10 0) 170 11 0 = w1
  have hIC1 : mm_IC w1 := by
    rw [← hw1]
    exact mm_IC_n (mm_IC_n (mm_IC_n (mm_IC_n hIC (by decide) (by decide) (by decide) (by decide) (by decide)) (by decide) (by decide) (by decide) (by decide) (by decide)) (by decide) (by decide) (by decide) (by decide) (by decide)) (by decide) (by decide) (by decide) (by decide) (by decide)
  have a0 : ∀ c i, ¬ c = 170 → w1 c i = m c i := fun c i z => by rw [← hw1, mm_u_e z, mm_u_e z, mm_u_e z, mm_u_e z]
  have a8 : w1 170 8 = nI 0 := by
    rw [← hw1, mm_u_f (by decide), mm_u_f (by decide), mm_u_f (by decide), mm_u_s]
    rfl
  have a9 : w1 170 9 = nI 4096 := by
    rw [← hw1, mm_u_f (by decide), mm_u_f (by decide), mm_u_s]
    rfl
  have a10 : w1 170 10 = nI 0 := by
    rw [← hw1, mm_u_f (by decide), mm_u_s]
    rfl
  have a11 : w1 170 11 = nI 0 := by
    rw [← hw1, mm_u_s]
    rfl
  -- begin
  have r1 : mm_cq (mm_call mm_ms (mm_tb L xs) (d + 20)) 117 [mm_R 162] w1 ml (fun o n1 n2 => o = none ∧ ml = n2 ∧ n1 = mm_u (mm_u (mm_u (mm_u (mm_u w1 162 1 0) 162 2 0) 162 3 0) 162 4 0) 162 5 0) := en_X9_begin (bk_X9_begin_0 (mm_call_m _) ⟨rfl, rfl, rfl⟩)
  refine mm_cq_m (mm_call_m _) (mm_cq_a r1 (sc_X9_begin (Q := fun _ n1 _ => mm_IC n1) hIC1 (fun n1 n2 a _ => a))) (fun o w2 n2 ⟨⟨e1, e2, e3⟩, hIC2⟩ => ?_)
  subst e1 e2
  have c0 : ∀ c i, ¬ c = 162 → w2 c i = w1 c i := fun c i z => by rw [e3, mm_u_e z, mm_u_e z, mm_u_e z, mm_u_e z, mm_u_e z]
  have c1 : w2 162 1 = 0 := by rw [e3, mm_u_f (by decide), mm_u_f (by decide), mm_u_f (by decide), mm_u_f (by decide), mm_u_s]
  have c2 : w2 162 2 = nI 0 := by
    rw [e3, mm_u_f (by decide), mm_u_f (by decide), mm_u_f (by decide), mm_u_s]
    rfl
  have c3 : w2 162 3 = nI 0 := by
    rw [e3, mm_u_f (by decide), mm_u_f (by decide), mm_u_s]
    rfl
  have c5 : w2 162 5 = 0 := by rw [e3, mm_u_s]
  refine bk_X6_work_C_29 (mm_call_m _) ?_
  -- rewind
  have r2 : mm_cq (mm_call mm_ms (mm_tb L xs) (d + 20)) 38 [mm_R 160] w2 ml (fun o n1 n2 => o = none ∧ ml = n2 ∧ n1 = mm_u w2 160 2 0) := en_X3_rewind (bk_X3_rewind_0 (mm_call_m _) ⟨rfl, rfl, rfl⟩)
  refine mm_cq_m (mm_call_m _) (mm_cq_a r2 (sc_X3_rewind (Q := fun _ n1 _ => mm_IC n1) hIC2 (fun n1 n2 a _ => a))) (fun o w3 n2 ⟨⟨e1, e2, e4⟩, hIC3⟩ => ?_)
  subst e1 e2
  have d0 : ∀ c i, ¬ (c = 160 ∧ i = 2) → w3 c i = w2 c i := fun c i z => by rw [e4, mm_u_o z]
  have d2 : w3 160 2 = nI (min 0 N) := by
    rw [e4, mm_u_s, Nat.zero_min]
    rfl
  refine bk_X6_work_C_36 (mm_call_m _) ?_
  -- the argument is read
  have w30 : ∀ c i, ¬ c = 170 → ¬ c = 162 → ¬ (c = 160 ∧ i = 2) → w3 c i = m c i := fun c i z1 z2 z3 => (d0 c i z3).trans ((c0 c i z2).trans (a0 c i z1))
  have w34 : ∀ i, w3 170 i = w1 170 i := fun i => (d0 170 i (by omega)).trans (c0 170 i (by decide))
  have w32 : ∀ i, w3 162 i = w2 162 i := fun i => d0 162 i (by omega)
  have r3 : mm_cq (mm_call mm_ms (mm_tb L xs) (d + 20)) 80 [mm_R 170, mm_L (ml 13 0)] w3 ml (fun o n1 n2 => o = none ∧ ml = n2 ∧ RVc w3 n1 N (ml 2 x) 5 0 4096 0 0 A B (fun _ => 0) (rd m 5 x A B 0 0)) := by
    rw [f13]
    exact cc_read (d := d + 2) (h := 0) (e := 0) (φ := fun _ => 0) hI hT hmN (by omega) 5 x1 hclx dx.2 ((w30 160 1 (by decide) (by decide) (by omega)).trans eN) (hm61 w3 (fun i => w30 161 i (by decide) (by decide) (by omega))) (by omega) ((w34 8).trans a8) ((w34 9).trans a9) (Nat.le_refl _) (by decide) d2 (by decide) (fun w' hR => ⟨rfl, rfl, hR⟩)
  refine mm_cq_m (mm_call_m _) (mm_cq_a r3 (sc_X6_readValue_C (d := d + 2) (Q := fun _ n1 _ => mm_IC n1) hIC3 (fun n1 n2 a _ => a))) (fun o w4 n2 ⟨⟨e1, e2, hRV⟩, hIC4⟩ => ?_)
  subst e1 e2
  obtain ⟨v, A1, B1, h1, e', φ, p, grd, ⟨s8, s9, sp, sp2, sl1, sl2⟩, -, hFR, -, -, -, hG⟩ := hRV
  have c5n : cn 5 = 1364 := by decide
  have cf5 : cf 5 = 820 := by decide
  rw [c5n] at sl2
  rw [cf5] at sp2
  have w42 : ∀ i, w4 162 i = w2 162 i := fun i => (hFR 162 i (by decide) (by omega) (by omega)).trans (w32 i)
  have w40 : ∀ c i, c < 160 → w4 c i = m c i := fun c i q => (hFR c i (by omega) (by omega) (by omega)).trans (w30 c i (by omega) (by omega) (by omega))
  have t10 : w4 170 10 = nI 0 := (hFR 170 10 (by decide) (by omega) (by omega)).trans ((w34 10).trans a10)
  have t11 : w4 170 11 = nI 0 := (hFR 170 11 (by decide) (by omega) (by omega)).trans ((w34 11).trans a11)
  refine bk_X6_work_C_41 (mm_call_m _) ?_
  -- the first copy is opened
  have r4 : mm_cq (mm_call mm_ms (mm_tb L xs) (d + 20)) 67 [mm_R 170, mm_I 0] w4 ml (fun o n1 n2 => o = none ∧ ml = n2 ∧ ∃ y, n1 = mm_u (mm_u (mm_u (mm_u w4 174 0 (nI 0)) 175 0 (nI 0)) 170 11 (nI (0 + 1))) 162 4 y) := tm_open (d := d + 16) (o := 0) (t := 0) (wa := wd (ml 2 x)) (N := Cl.length) (ci := 0) t11 (by decide) s8 (by omega) ((w40 31 12 (by decide)).trans hP.2.2.1.1) hP.2.2.1.2 hlen ((w40 36 0 (by decide)).trans h36) (fun z => absurd z (by decide)) (fun _ y => ⟨rfl, rfl, y, rfl⟩)
  refine mm_cq_m (mm_call_m _) (mm_cq_a r4 (sc_X6_openFunction_C (d := d + 16) (Q := fun _ n1 _ => mm_IC n1) hIC4 (fun n1 n2 a _ => a))) (fun o w5 n2 ⟨⟨e1, e2, yo, e5⟩, hIC5⟩ => ?_)
  subst e1 e2
  have g0 : ∀ c i, ¬ (c = 174 ∧ i = 0) → ¬ (c = 175 ∧ i = 0) → ¬ (c = 170 ∧ i = 11) → ¬ (c = 162 ∧ i = 4) → w5 c i = w4 c i := fun c i z1 z2 z3 z4 => by rw [e5, mm_u_o z4, mm_u_o z3, mm_u_o z2, mm_u_o z1]
  have g11 : w5 170 11 = nI 1 := by rw [e5, mm_u_e (by decide), mm_u_s]
  have g175 : w5 175 0 = nI 0 := by rw [e5, mm_u_e (by decide), mm_u_e (by decide), mm_u_s]
  have g174 : w5 174 0 = nI 0 := by rw [e5, mm_u_e (by decide), mm_u_e (by decide), mm_u_e (by decide), mm_u_s]
  have e171 : ∀ i, w5 171 i = w4 171 i := fun i => g0 171 i (by omega) (by omega) (by omega) (by omega)
  have w50 : ∀ c i, c < 160 → w5 c i = m c i := fun c i q => (g0 c i (by omega) (by omega) (by omega) (by omega)).trans (w40 c i q)
  refine bk_X6_work_C_46 (mm_call_m _) (sf_bd (d := d + 17) (i := 0) (N := Cl.length) (f := 0) (NF := NF) ((w50 31 12 (by decide)).trans hP.2.2.1.1) hP.2.2.1.2 hlen ((w50 32 0 (by decide)).trans h32) ((w50 9 7 (by decide)).trans hF.1) hNF hNF0 (bk_X6_work_C_52 (mm_call_m _) ?_))
  rw [w50 15 0 (by decide), show m 15 0 = nI b from b2]
  -- its body begins
  have hW : WCc m w5 (w5 171) (wd (ml 2 x)) p 0 1 0 0 := ⟨w50, fun _ => rfl, ⟨(g0 170 8 (by omega) (by omega) (by omega) (by omega)).trans (s8.trans (by rw [Nat.zero_add])), (g0 170 9 (by omega) (by omega) (by omega) (by omega)).trans s9, (g0 170 10 (by omega) (by omega) (by omega) (by omega)).trans t10, g11⟩, (g0 162 2 (by omega) (by omega) (by omega) (by omega)).trans ((w42 2).trans c2), (g0 162 3 (by omega) (by omega) (by omega) (by omega)).trans ((w42 3).trans c3), (g0 162 5 (by omega) (by omega) (by omega) (by omega)).trans ((w42 5).trans c5), (g0 162 1 (by omega) (by omega) (by omega) (by omega)).trans ((w42 1).trans c1)⟩
  have hG5 : (qV 4096 (ml 2 x)).1 A1 B1 h1 p (w5 171) φ v (fun i => w5 171 (0 + i)) := qV_m hclx ⟨⟨Nat.le_refl _, Nat.le_refl _⟩, fun _ _ => ⟨rfl, rfl, rfl⟩, fun i _ _ => e171 i⟩ (fun i _ => e171 _) hG
  have r6 : mm_cq (mm_call mm_ms (mm_tb L xs) (d + 20)) 68 [mm_R 170, mm_I (nI b)] w5 ml (fun o a b => o = none ∧ b = ml ∧ C 0 a) := by
    refine cc_bg (d := d + 18) (k := 0) (t := wd (ml 2 x)) (o := 1) (s := 0) (l := 0) (T := 0) (A := A1) (B := B1) (h := h1) (φ := φ) (K := w5 171) (ci := 0) (n := b) (arg := v) hj rfl hW (by decide) (by decide) (fun _ w e174 e175 => ⟨⟨by decide, by decide⟩, ⟨by decide, by decide, by omega, by decide⟩, ⟨sp, by omega⟩, hlen, ⟨0, e174.trans g174, e175.trans g175, ?_, ?_⟩, ⟨b, b1, ?_, b1, BL_r, by omega, by omega⟩, by omega⟩) (by decide) (by decide) (fun _ w _ => ?_) ?_
    · rw [h0, eAS]
      omega
    · rw [h0, eAS]
      exact hG5
    · rw [h0]
      exact b2
    · intro z A2 B2 h2 s2 l2 o2 p2 K2 φ2 w' T' he _ hW2 _ _ _ _ _
      have eO := OUT_e et eb grd he
      have h10 : w' 170 10 ≤ 0 := by
        rw [hW2.2.2.1.2.2.1]
        decide
      exact hCi T' w' (fun hi => bk_X6_work_C_58 (mm_call_m _) (fun _ => h92' w' _ hi eO.symm hW2.2.2.2.2.2.1) (fun _ _ => h92' w' _ hi eO.symm hW2.2.2.2.2.2.1) (fun _ z => absurd h10 z))
    · intro e z A2 B2 h2 s2 l2 o2 w' T' he hne _ h5 _ _
      have eO := OUT_e et eb grd he
      exact hCi T' w' (fun hi => bk_X6_work_C_58 (mm_call_m _) (fun _ => h92 w' _ e hne eO.symm h5) (fun _ _ => h92 w' _ e hne eO.symm h5) (fun _ _ => en_X9_goesOn (bk_X9_goesOn_0 (mm_call_m _) (fun _ => bk_X6_work_C_79 (s0 := 0) (mm_call_m _) (fun _ => h92 w' _ e hne eO.symm h5) (fun z => absurd rfl z)) (fun z => absurd (h5.symm.trans z) hne))))
  refine mm_cq_m (mm_call_m _) (mm_cq_a r6 (sc_X6_beginNode_C (d := d + 18) (Q := fun _ n1 _ => mm_IC n1) hIC5 (fun n1 n2 a _ => a))) (fun o n1 n2 ⟨⟨e1, e2, hc⟩, hi⟩ => ?_)
  obtain rfl : ml = n2 := e2.symm
  subst e1
  exact bk_X6_work_C_55 (mm_call_m _) (hCe 0 n1 hc hi)
end MMT
