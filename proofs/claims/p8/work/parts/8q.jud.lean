/-! ===== pair() .. empty(): what is alike, and the class's shapes (by program from the rows lx_) ===== -/
theorem CJ_p {m n : mm_P} {ml : mm_G} (h : CJ m ml) (hp : PR m n) : CJ n ml := CJ_h h (CO_p h.1 hp) (fun c i q => hp c i (pg_low (by omega)))
theorem CJ_nt {NB ND NF : Nat} {m n : mm_P} {ml : mm_G} {p : Int64} (hCJ : CJ m ml) (hI : IM m NB ND NF) (hT : TC NB m ml) (hN : NC ND m) (hF : FC NF m ml) (hlt : NB < 200) (hw : NW4 NB ND NF (mm_u m 1 1 (nI (NB + 1))) n) (hsh : SHT (NB + 1) n (mm_u ml 2 NB p) NB) (hne : ∀ t, t < NB → ¬ ml 2 t = p) : CJ n (mm_u ml 2 NB p) := by
  have hc : ∀ c i, ¬ c = 176 → ¬ (177 ≤ c ∧ c ≤ 183 ∧ i = NB) → ¬ c = 184 → ¬ (c = 1 ∧ i = 1) → n c i = m c i := fun c i a b e f => (hw.2.2 c i a b e).trans (mm_u_o f)
  refine CJ_c hCJ (CO_nt hCJ.1 hI hT hN hF hlt hw hsh hne) (hc 3 5 (by omega) (by omega) (by omega) (by omega)) (hc 9 7 (by omega) (by omega) (by omega) (by omega)) (fun c i q => hc c i (by omega) (by omega) (by omega) (by omega)) (fun c i q => mm_u_e q) (fun N t e1 e2 ht => mm_u_f ?_)
  have : N = NB := nI_inj (by omega) (by omega) (e1.symm.trans hT.1)
  omega
section MMT
variable {L : Nat} {xs : Nat → Int32} {d : Nat} {Q : mm_QQ} {mi : mm_P} {ml : mm_G} {lim : Nat × Nat} {NB ND NF : Nat}
theorem lj_pair {x1 x2 : Int32} {Q' : Int32 → Int32 → mm_P → mm_G → Prop} (hCJ : CJ mi ml) (hQ : ∀ v n m2, CJ n m2 → Q' v v n m2) : mm_cq (mm_call mm_ms (mm_tb L xs) (d + 5)) 141 [mm_R 0, mm_I x1, mm_I x2] mi ml (fun o n1 n2 => ∃ v, o = some (mm_I v) ∧ mm_cq (mm_call mm_ms (mm_tb L xs) (d + 5)) 176 [mm_R 176, mm_I x1, mm_I x2] n1 n2 (fun o2 n3 n4 => ∃ v2, o2 = some (mm_I v2) ∧ Q' v v2 n3 n4)) := by
  have hCO := hCJ.1
  obtain ⟨hIC, ⟨NB, ND, NF, hI, hT, hN, hF⟩, h51, h41, hin⟩ := id hCO
  have hNB := hI.1.1
  have hD := hI.2.2.2.1
  have n1 : ∀ {P : Prop}, (1 : Int32) = 0 → P := fun z => absurd z (by decide)
  have n0 : ∀ {P : Prop}, ¬ (0 : Int32) = 0 → P := fun z => absurd rfl z
  have hd : ∀ t, t < NB → 1 ≤ (mi 180 t).toInt ∧ (mi 180 t).toInt ≤ 5 := fun t ht => (hD t ht).1
  -- the model's pair() of two types
  have hmod : ∀ (w : mm_P) (wl : mm_G) (Q2 : mm_QQ) (a b : Nat), IM w NB ND NF → a < NB → b < NB → mm_cq (mm_call mm_ms (mm_tb L xs) (d + 4)) 175 [mm_R 176, mm_I 4, mm_I (nI a), mm_I (nI b)] w wl Q2 → (∀ o n m2, Q2 o n m2 → ∃ v, o = some (mm_I v)) → mm_cq (mm_call mm_ms (mm_tb L xs) (d + 5)) 176 [mm_R 176, mm_I (nI a), mm_I (nI b)] w wl Q2 := fun w wl Q2 a b hIw ha hb hq ho => by
    refine en_X12_pair (bk_X12_pair_0 (mm_call_m _) (sp_typ hIw (fun t t1 t2 => bk_X12_pair_5 (s0 := 1) (mm_call_m _) n1 (fun _ => sp_typ hIw (fun u u1 u2 => bk_X12_pair_13 (s0 := 1) (mm_call_m _) n1 (fun _ => mm_cq_m (mm_call_m _) hq (fun o n m2 z => ?_))) (fun q => absurd rfl (q b hb)))) (fun q => absurd rfl (q a ha))))
    obtain ⟨v, rfl⟩ := ho o n m2 z
    exact bk_X12_pair_23 (mm_call_m _) z
  refine sx_X11_pair hT hNB.2 (fun hbad => ⟨-2, rfl, ?_⟩) (fun a b ha hb e1 e2 hp => ⟨-3, rfl, ?_⟩) (fun a b t ha hb e1 e2 ht hp he => ⟨nI t, rfl, ?_⟩) (fun a b ha hb e1 e2 hp hno hfull => ⟨-4, rfl, ?_⟩) (fun a b ha hb e1 e2 hp hno hlt => ⟨nI NB, rfl, ?_⟩)
  · have h26 : mm_WQ (mm_call mm_ms (mm_tb L xs) (d + 4)) (mm_tb L xs) mm_m176 (mm_li mm_m176) (fun o2 n3 n4 => ∃ v2, o2 = some (mm_I v2) ∧ Q' (-2) v2 n3 n4) 26 [some (mm_R 176), some (mm_I x1), some (mm_I x2)] [] mi ml := bk_X12_pair_26 (mm_call_m _) ⟨-2, rfl, hQ _ _ _ hCJ⟩
    refine en_X12_pair (bk_X12_pair_0 (mm_call_m _) (sp_typ hI (fun t t1 t2 => bk_X12_pair_5 (s0 := 1) (mm_call_m _) n1 (fun _ => sp_typ hI (fun u u1 u2 => absurd ⟨t, u, t1, u1, t2, u2⟩ hbad) (fun _ => bk_X12_pair_13 (s0 := 0) (mm_call_m _) (fun _ => h26) n0))) (fun _ => bk_X12_pair_5 (s0 := 0) (mm_call_m _) (fun _ => h26) n0)))
  · subst e1 e2
    have hdeep : ¬ 1 + f_most (mi 180 a) (mi 180 b) ≤ 5 := fun q => by
      have := (pr_iff hD hT ha hb).mpr ((most_iff (hd a ha) (hd b hb)).mp q)
      omega
    refine hmod mi ml _ a b hI ha hb (sx_numbers4 hI ha hb (fun n t g1 g2 g3 g4 g5 => ?_) (fun n g1 _ _ => ⟨_, rfl, hQ _ _ _ (CJ_p hCJ g1)⟩) (fun n g1 _ g3 _ => absurd g3 hdeep) (fun n g1 _ _ g3 _ => absurd g3 hdeep)) (fun o n m2 z => z.imp (fun v q => q.1))
    exfalso
    rcases hT.2.1 t g2 with ⟨q1, -⟩ | ⟨a', q1, q2, q3, -⟩ | ⟨a', b', q1, q2, q3, q4, q5, -⟩
    · exact absurd g3 (bs_45 q1).1
    · have := q3.1
      rw [g3] at this
      exact absurd this (by decide)
    · have f1 : a' = a := nI_ij (by omega) (by omega) (q5.2.1.symm.trans g4)
      have f2 : b' = b := nI_ij (by omega) (by omega) (q5.2.2.1.symm.trans g5)
      subst f1 f2
      refine hdeep ?_
      rw [← q5.2.2.2.1, Int32.le_iff_toInt_le, mm_tt5]
      exact (hd t g2).2
  · subst e1 e2
    obtain ⟨da, db⟩ := (pr_iff hD hT ha hb).mp hp
    have ht3 := (SH_p4 hD hT hNB.2 ht ha hb da db).mp he
    refine hmod mi ml _ a b hI ha hb (sx_numbers4 hI ha hb (fun n u g1 g2 g3 g4 g5 => ?_) (fun n g1 g2 _ => absurd ht3 (g2 t ht)) (fun n g1 g2 g3 _ => absurd ht3 (g2 t ht)) (fun n g1 _ g2 g3 _ => absurd ht3 (g2 t ht))) (fun o n m2 z => z.imp (fun v q => q.1))
    have hu := (SH_p4 hD hT hNB.2 g2 ha hb da db).mpr ⟨g3, g4, g5⟩
    have e : u = t := hT.2.2 u t g2 ht (hu.trans he.symm)
    subst e
    exact ⟨_, rfl, hQ _ _ _ (CJ_p hCJ g1)⟩
  · subst e1 e2
    obtain ⟨da, db⟩ := (pr_iff hD hT ha hb).mp hp
    have hnone : ∀ t, t < NB → ¬ (mi 177 t = 4 ∧ mi 178 t = nI a ∧ mi 179 t = nI b) := fun t ht q => hno t ht ((SH_p4 hD hT hNB.2 ht ha hb da db).mpr q)
    exact hmod mi ml _ a b hI ha hb (sx_numbers4 hI ha hb (fun n u g1 g2 g3 g4 g5 => absurd ⟨g3, g4, g5⟩ (hnone u g2)) (fun n g1 g2 g3 => absurd ((most_iff (hd a ha) (hd b hb)).mpr ⟨da, db⟩) g3) (fun n g1 g2 g3 _ => ⟨_, rfl, hQ _ _ _ (CJ_p hCJ g1)⟩) (fun n g1 _ g2 g3 g4 => by omega)) (fun o n m2 z => z.imp (fun v q => q.1))
  · subst e1 e2
    obtain ⟨da, db⟩ := (pr_iff hD hT ha hb).mp hp
    have hnone : ∀ t, t < NB → ¬ (mi 177 t = 4 ∧ mi 178 t = nI a ∧ mi 179 t = nI b) := fun t ht q => hno t ht ((SH_p4 hD hT hNB.2 ht ha hb da db).mpr q)
    have hc : ∀ c i, ¬ c = 1 → mm_u mi 1 1 (nI (NB + 1)) c i = mi c i := fun c i q => mm_u_e q
    have hI1 : IM (mm_u mi 1 1 (nI (NB + 1))) NB ND NF := IM_h hI (fun c i q => hc c i (by omega))
    refine hmod _ _ _ a b hI1 ha hb (sx_numbers4 hI1 ha hb (fun n u g1 g2 g3 g4 g5 => ?_) (fun n g1 g2 g3 => ?_) (fun n g1 g2 g3 _ => by omega) (fun n g1 g5 g2 g3 g4 => ⟨_, rfl, hQ _ _ _ (CJ_nt hCJ hI hT hN hF hlt g1 (.inr (.inr ⟨a, b, ha, by omega, hb, by omega, g5, ?_⟩)) hno)⟩)) (fun o n m2 z => z.imp (fun v q => q.1))
    · rw [hc _ _ (by decide)] at g3 g4 g5
      exact absurd ⟨g3, g4, g5⟩ (hnone u g2)
    · rw [hc _ _ (by decide), hc _ _ (by decide)] at g3
      exact absurd ((most_iff (hd a ha) (hd b hb)).mpr ⟨da, db⟩) g3
    · rw [mm_u_s, mm_u_f (by omega), mm_u_f (by omega)]
theorem lj_list {x1 : Int32} {Q' : Int32 → Int32 → mm_P → mm_G → Prop} (hCJ : CJ mi ml) (hQ : ∀ v n m2, CJ n m2 → Q' v v n m2) : mm_cq (mm_call mm_ms (mm_tb L xs) (d + 5)) 142 [mm_R 0, mm_I x1] mi ml (fun o n1 n2 => ∃ v, o = some (mm_I v) ∧ mm_cq (mm_call mm_ms (mm_tb L xs) (d + 5)) 177 [mm_R 176, mm_I x1] n1 n2 (fun o2 n3 n4 => ∃ v2, o2 = some (mm_I v2) ∧ Q' v v2 n3 n4)) := by
  have hCO := hCJ.1
  obtain ⟨hIC, ⟨NB, ND, NF, hI, hT, hN, hF⟩, h51, h41, hin⟩ := id hCO
  have hNB := hI.1.1
  have hD := hI.2.2.2.1
  have n1 : ∀ {P : Prop}, (1 : Int32) = 0 → P := fun z => absurd z (by decide)
  have n0 : ∀ {P : Prop}, ¬ (0 : Int32) = 0 → P := fun z => absurd rfl z
  have hd : ∀ t, t < NB → 1 ≤ (mi 180 t).toInt ∧ (mi 180 t).toInt ≤ 5 := fun t ht => (hD t ht).1
  have hdi : ∀ t, t < NB → (1 + mi 180 t ≤ 5 ↔ (mi 180 t).toInt ≤ 4) := fun t ht => by
    have := hd t ht
    rw [Int32.le_iff_toInt_le, mm_1p (by omega) (by omega), mm_tt5]
    omega
  have hmod : ∀ (w : mm_P) (wl : mm_G) (Q2 : mm_QQ) (a : Nat), IM w NB ND NF → a < NB → mm_cq (mm_call mm_ms (mm_tb L xs) (d + 4)) 175 [mm_R 176, mm_I 5, mm_I (nI a), mm_I (-1)] w wl Q2 → (∀ o n m2, Q2 o n m2 → ∃ v, o = some (mm_I v)) → mm_cq (mm_call mm_ms (mm_tb L xs) (d + 5)) 177 [mm_R 176, mm_I (nI a)] w wl Q2 := fun w wl Q2 a hIw ha hq ho => by
    refine en_X12_list (bk_X12_list_0 (mm_call_m _) (sp_typ hIw (fun t t1 t2 => bk_X12_list_5 (s0 := 1) (mm_call_m _) n1 (fun _ => mm_cq_m (mm_call_m _) hq (fun o n m2 z => ?_))) (fun q => absurd rfl (q a ha))))
    obtain ⟨v, rfl⟩ := ho o n m2 z
    exact bk_X12_list_15 (mm_call_m _) z
  refine sx_X11_list hT hNB.2 (fun hbad => ⟨-2, rfl, ?_⟩) (fun a ha e1 hp => ⟨-3, rfl, ?_⟩) (fun a t ha e1 ht hp he => ⟨nI t, rfl, ?_⟩) (fun a ha e1 hp hno hfull => ⟨-4, rfl, ?_⟩) (fun a ha e1 hp hno hlt => ⟨nI NB, rfl, ?_⟩)
  · exact en_X12_list (bk_X12_list_0 (mm_call_m _) (sp_typ hI (fun t t1 t2 => absurd ⟨t, t1, t2⟩ hbad) (fun _ => bk_X12_list_5 (s0 := 0) (mm_call_m _) (fun _ => ⟨-2, rfl, hQ _ _ _ hCJ⟩) n0)))
  · subst e1
    have hdeep : ¬ 1 + mi 180 a ≤ 5 := fun q => by
      have := (ls_iff hD hT ha).mpr ((hdi a ha).mp q)
      omega
    refine hmod mi ml _ a hI ha (sx_numbers5 hI ha (fun n t g1 g2 g3 g4 g5 => ?_) (fun n g1 _ _ => ⟨_, rfl, hQ _ _ _ (CJ_p hCJ g1)⟩) (fun n g1 _ g3 _ => absurd g3 hdeep) (fun n g1 _ _ g3 _ => absurd g3 hdeep)) (fun o n m2 z => z.imp (fun v q => q.1))
    exfalso
    rcases hT.2.1 t g2 with ⟨q1, -⟩ | ⟨a', q1, q2, q3, -⟩ | ⟨a', b', q1, q2, q3, q4, q5, -⟩
    · exact absurd g3 (bs_45 q1).2
    · have f1 : a' = a := nI_ij (by omega) (by omega) (q3.2.1.symm.trans g4)
      subst f1
      refine hdeep ?_
      rw [← q3.2.2.2.1, Int32.le_iff_toInt_le, mm_tt5]
      exact (hd t g2).2
    · have := q5.1
      rw [g3] at this
      exact absurd this (by decide)
  · subst e1
    have da := (ls_iff hD hT ha).mp hp
    have ht3 := (SH_p5 hD hT hNB.2 ht ha da).mp he
    refine hmod mi ml _ a hI ha (sx_numbers5 hI ha (fun n u g1 g2 g3 g4 g5 => ?_) (fun n g1 g2 _ => absurd ht3 (g2 t ht)) (fun n g1 g2 g3 _ => absurd ht3 (g2 t ht)) (fun n g1 _ g2 g3 _ => absurd ht3 (g2 t ht))) (fun o n m2 z => z.imp (fun v q => q.1))
    have hu := (SH_p5 hD hT hNB.2 g2 ha da).mpr ⟨g3, g4, g5⟩
    have e : u = t := hT.2.2 u t g2 ht (hu.trans he.symm)
    subst e
    exact ⟨_, rfl, hQ _ _ _ (CJ_p hCJ g1)⟩
  · subst e1
    have da := (ls_iff hD hT ha).mp hp
    have hnone : ∀ t, t < NB → ¬ (mi 177 t = 5 ∧ mi 178 t = nI a ∧ mi 179 t = -1) := fun t ht q => hno t ht ((SH_p5 hD hT hNB.2 ht ha da).mpr q)
    exact hmod mi ml _ a hI ha (sx_numbers5 hI ha (fun n u g1 g2 g3 g4 g5 => absurd ⟨g3, g4, g5⟩ (hnone u g2)) (fun n g1 g2 g3 => absurd ((hdi a ha).mpr da) g3) (fun n g1 g2 g3 _ => ⟨_, rfl, hQ _ _ _ (CJ_p hCJ g1)⟩) (fun n g1 _ g2 g3 g4 => by omega)) (fun o n m2 z => z.imp (fun v q => q.1))
  · subst e1
    have da := (ls_iff hD hT ha).mp hp
    have hnone : ∀ t, t < NB → ¬ (mi 177 t = 5 ∧ mi 178 t = nI a ∧ mi 179 t = -1) := fun t ht q => hno t ht ((SH_p5 hD hT hNB.2 ht ha da).mpr q)
    have hc : ∀ c i, ¬ c = 1 → mm_u mi 1 1 (nI (NB + 1)) c i = mi c i := fun c i q => mm_u_e q
    have hI1 : IM (mm_u mi 1 1 (nI (NB + 1))) NB ND NF := IM_h hI (fun c i q => hc c i (by omega))
    refine hmod _ _ _ a hI1 ha (sx_numbers5 hI1 ha (fun n u g1 g2 g3 g4 g5 => ?_) (fun n g1 g2 g3 => ?_) (fun n g1 g2 g3 _ => by omega) (fun n g1 g5 g2 g3 g4 => ⟨_, rfl, hQ _ _ _ (CJ_nt hCJ hI hT hN hF hlt g1 (.inr (.inl ⟨a, ha, by omega, g5, ?_⟩)) hno)⟩)) (fun o n m2 z => z.imp (fun v q => q.1))
    · rw [hc _ _ (by decide)] at g3 g4 g5
      exact absurd ⟨g3, g4, g5⟩ (hnone u g2)
    · rw [hc _ _ (by decide)] at g3
      exact absurd ((hdi a ha).mpr da) g3
    · rw [mm_u_s, mm_u_f (by omega)]
theorem lj_type {x1 x2 : Int32} {Q' : Int32 → Int32 → mm_P → mm_G → Prop} (hCJ : CJ mi ml) (hQ : ∀ v n m2, CJ n m2 → Q' v v n m2) : mm_cq (mm_call mm_ms (mm_tb L xs) (d + 12)) 143 [mm_R 0, mm_I x1, mm_I x2] mi ml (fun o n1 n2 => ∃ v, o = some (mm_I v) ∧ mm_cq (mm_call mm_ms (mm_tb L xs) (d + 12)) 179 [mm_R 176, mm_I x1, mm_I x2] n1 n2 (fun o2 n3 n4 => ∃ v2, o2 = some (mm_I v2) ∧ Q' v v2 n3 n4)) := by
  have hCO := hCJ.1
  obtain ⟨hIC, ⟨NB, ND, NF, hI, hT, hN, hF⟩, h51, h41, hin⟩ := id hCO
  have hNB := hI.1.1
  have hD := hI.2.2.2.1
  have n1 : ∀ {P : Prop}, (1 : Int32) = 0 → P := fun z => absurd z (by decide)
  have n0 : ∀ {P : Prop}, ¬ (0 : Int32) = 0 → P := fun z => absurd rfl z
  refine sx_X11_type hD hT hNB.2 (fun t t1 t2 => ⟨_, rfl, ?_⟩) (fun hno => ⟨-2, rfl, ?_⟩)
  · subst t2
    have h26 : ¬ (0 ≤ x2.toInt ∧ x2.toInt ≤ 5) → mm_WQ (mm_call mm_ms (mm_tb L xs) (d + 11)) (mm_tb L xs) mm_m179 (mm_li mm_m179) (fun o2 n3 n4 => ∃ v2, o2 = some (mm_I v2) ∧ Q' (f_fact mi t x2) v2 n3 n4) 26 [some (mm_R 176), some (mm_I (nI t)), some (mm_I x2)] [] mi ml := fun z => by
      have e : f_fact mi t x2 = -2 := by
        have hne : ∀ k : Int32, 0 ≤ k.toInt → k.toInt ≤ 5 → ¬ x2 = k := fun k a b q => z (by rw [q]; exact ⟨a, b⟩)
        unfold f_fact
        rw [if_neg (hne 0 (by decide) (by decide)), if_neg (hne 1 (by decide) (by decide)), if_neg (hne 2 (by decide) (by decide)), if_neg (hne 3 (by decide) (by decide)), if_neg (hne 4 (by decide) (by decide)), if_neg (hne 5 (by decide) (by decide))]
      refine bk_X12_type_26 (mm_call_m _) ⟨-2, rfl, ?_⟩
      rw [e]
      exact hQ _ _ _ hCJ
    refine en_X12_type (bk_X12_type_0 (mm_call_m _) (sp_typ hI (fun u u1 u2 => bk_X12_type_5 (s0 := 1) (mm_call_m _) n1 (fun _ => sp_in (fun a b => bk_X12_type_14 (s0 := 1) (mm_call_m _) n1 (fun _ => ?_)) (fun a => bk_X12_type_14 (s0 := 0) (mm_call_m _) (fun _ => h26 a) n0))) (fun q => absurd rfl (q t t1))))
    exact sx_typeOf hD t1 hNB.2 rfl ⟨a, b⟩ (bk_X12_type_23 (mm_call_m _) ⟨_, rfl, hQ _ _ _ hCJ⟩)
  · exact en_X12_type (bk_X12_type_0 (mm_call_m _) (sp_typ hI (fun u u1 u2 => absurd u2 (hno u u1)) (fun _ => bk_X12_type_5 (s0 := 0) (mm_call_m _) (fun _ => bk_X12_type_26 (mm_call_m _) ⟨-2, rfl, hQ _ _ _ hCJ⟩) n0)))
/-- the new row is one that findShape() can read -/
theorem okK_A7 {k v a b c e : Int32} (ok : okB NB ND k a b c e) : okK NB (A7 mi ND k v a b c e) ND := by
  obtain ⟨V4, V5, V0, V1, V2, V3, -⟩ := A7_v (w := mi) (n := ND) (k := k) (v := v) (a := a) (b := b) (c := c) (e := e)
  have hp := f_parts_in k
  have hp3 : (f_parts k).toInt ≤ 3 := by rcases hp with hp | hp | hp | hp <;> (rw [hp]; decide)
  unfold okK
  rw [V4, V0, V1, V2, V3]
  refine ⟨ok.1, fun h14 i hi => ?_, fun h9 => ?_, fun h14 => ?_⟩
  · obtain ⟨p1, p2, p3⟩ := ok.2.2.2.2 h14
    rcases (show i = 0 ∨ i = 1 ∨ i = 2 by omega) with rfl | rfl | rfl
    · rw [Nat.add_zero, V0]
      exact p1 (by omega)
    · rw [V1]
      exact p2 (by omega)
    · rw [V2]
      exact p3 (by omega)
  · exact ok.2.2.2.1 h9
  · obtain ⟨q1, q2, q3, q4, q5⟩ := ok.2.2.1 h14
    exact ⟨q2, q1, q3, q4⟩
theorem wr_fill {c i : Nat} (h : mm_wr mm_w_X4_fillNode c i = false) : ¬ (19 ≤ c ∧ c ≤ 30 ∧ i < 999999) := fun q => by
  unfold mm_wr mm_w_X4_fillNode mm_wr1 at h
  simp only [List.any_cons, List.any_nil, Bool.or_false] at h
  rw [Nat.ble_eq_true_of_le q.1, Nat.ble_eq_true_of_le q.2.1] at h
  simp at h
theorem sy_X11_node {dep : Nat → Int32} {k a b c e : Int32} (hIC : mm_IC mi) (h11 : mi 1 1 = nI NB) (hNB : NB ≤ 200) (h35 : mi 3 5 = nI ND) (hND : ND ≤ 200) (h97 : mi 9 7 = nI NF) (hNF : NF ≤ 12) (h5 : ∀ n, n < ND → mi 5 n = dep n) (hd : ∀ n, n < ND → 1 ≤ (dep n).toInt ∧ (dep n).toInt ≤ 12) (hbad : ¬ okB NB ND k a b c e → Q (some (mm_I (-2))) mi ml) (hno : okB NB ND k a b c e → 12 < NDP dep k a b c → Q (some (mm_I (-3))) mi ml) (hfull : okB NB ND k a b c e → NDP dep k a b c ≤ 12 → ND = 200 → Q (some (mm_I (-4))) mi ml) (hnew : okB NB ND k a b c e → NDP dep k a b c ≤ 12 → ND < 200 → ∀ (v : Int32) n1 n2, v.toInt = NDP dep k a b c → mm_IC n1 → mm_fw mm_w_X4_fillNode (A7 mi ND k v a b c e) ml n1 n2 → n1 = A7 mi ND k v a b c e → (∀ c i, ¬ (19 ≤ c ∧ c < 19 + NF ∧ i = ND) → n2 c i = ml c i) → (∀ f, f < NF → n2 (19 + f) ND = FSK NF n1 ml f ND (ksh (ml (19 + f)) n1 ND 0) (ksh (ml (19 + f)) n1 ND 1) (ksh (ml (19 + f)) n1 ND 2)) → Q (some (mm_I (nI ND))) n1 n2) : mm_cq (mm_call mm_ms (mm_tb L xs) (d + 20)) 144 [mm_R 0, mm_I k, mm_I a, mm_I b, mm_I c, mm_I e] mi ml Q := by
  have n1 : ∀ {P : Prop}, (1 : Int32) = 0 → P := fun z => absurd z (by decide)
  have n0 : ∀ {P : Prop}, ¬ (0 : Int32) = 0 → P := fun z => absurd rfl z
  refine en_X11_node (bk_X11_node_0 (mm_call_m _) (sx_wanted h11 hNB h35 hND (fun ok => bk_X11_node_11 (s0 := 1) (mm_call_m _) (fun _ => ?_) n1) (fun ok => bk_X11_node_11 (s0 := 0) (mm_call_m _) n0 (fun _ => hbad ok))))
  have k14 : k = 14 → ndN ND b := fun z => (ok.2.2.1 z).2.1
  have kps : ¬ k = 14 → PS ND k a b c := ok.2.2.2.2
  refine sx_depthOver h35 hND h5 hd ok.1 k14 kps (fun v hv => bk_X11_node_29 (mm_call_m _) (fun z => ?_) (fun z => hno ok ?_))
  · have z' := mm_leI z
    rw [hv, mm_tt12] at z'
    refine sx_add7 h35 hND h5 hd ok.1 k14 kps (fun q => bk_X11_node_51 (s0 := -4) (mm_call_m _) (fun _ => bk_X11_node_69 (mm_call_m _) (hfull ok z' q)) (fun q => absurd rfl q)) (fun hl v2 hv2 => bk_X11_node_51 (mm_call_m _) (fun q => ?_) (fun _ => ?_))
    · exfalso
      have := congrArg Int32.toInt q
      rw [mm_tI (by omega), mm_tn4] at this
      omega
    · have hIC' : mm_IC (A7 mi ND k v2 a b c e) := by
        unfold A7
        refine mm_IC_35 (mm_IC_n (mm_IC_n (mm_IC_n (mm_IC_n (mm_IC_n (mm_IC_n hIC ?_ ?_ ?_ ?_ ?_) ?_ ?_ ?_ ?_ ?_) ?_ ?_ ?_ ?_ ?_) ?_ ?_ ?_ ?_ ?_) ?_ ?_ ?_ ?_ ?_) ?_ ?_ ?_ ?_ ?_) (by rw [mm_tI (by omega)]; omega) <;> decide
      have hA : KW NB (ND + 1) NF (A7 mi ND k v2 a b c e) := by
        refine ⟨⟨(A7_o (by omega) (by omega) (by omega) (by omega)).trans h11, A7_v.2.2.2.2.2.2, (A7_o (by omega) (by omega) (by omega) (by omega)).trans h97⟩, hNB, by omega, hNF⟩
      refine sx_fillNode hA (Nat.lt_succ_self ND) (okK_A7 ok) (fun m2 hf1 hf2 => bk_X11_node_69 (mm_call_m _) (hnew ok z' hl v2 _ m2 hv2 hIC' (fun c i q => ⟨rfl, hf1 c i (fun y => ?_)⟩) rfl hf1 hf2))
      have := wr_fill q
      omega
  · have := mm_nleI z
    rw [hv, mm_tt12] at this
    exact this
/-- shapes of the nodes, by the class's sizes -/
def JJ (m : mm_P) (ml : mm_G) : Prop := ∀ ND NF, m 3 5 = nI ND → m 9 7 = nI NF → ND ≤ 200 → NF ≤ 12 → JT ND NF m ml
theorem CJ_lo {m n : mm_P} (h : JJ m ml) (hC : CO n ml) (hp : ∀ c i, c < 176 → n c i = m c i) : CJ n ml := by
  refine ⟨hC, fun ND NF e1 e2 e3 e4 f hf k hk => ?_⟩
  rw [hp 3 5 (by decide)] at e1
  rw [hp 9 7 (by decide)] at e2
  obtain ⟨hIC, ⟨NB, ND', NF', hI, hT, hN, hF⟩, -⟩ := id hC
  have hb := hI.1
  have e35 := hN.1
  rw [hp 3 5 (by decide)] at e35
  have : ND' = ND := nI_inj (by omega) (by omega) (e35.symm.trans e1)
  subst this
  have ok := okK_of hI hN hk
  have h4 : m 4 k = n 4 k := (hp 4 k (by decide)).symm
  have h6 : ∀ i, i < 4 → m 6 (4 * k + i) = n 6 (4 * k + i) := fun i _ => (hp 6 _ (by decide)).symm
  have hj := h ND' NF e1 e2 e3 e4 f hf k hk
  rw [ksh_c (S := ml (19 + f)) (S' := ml (19 + f)) ok (by decide) h4 h6 (fun _ _ => rfl) (by omega), ksh_c (S := ml (19 + f)) (S' := ml (19 + f)) ok (by decide) h4 h6 (fun _ _ => rfl) (by omega), ksh_c (S := ml (19 + f)) (S' := ml (19 + f)) ok (by decide) h4 h6 (fun _ _ => rfl) (by omega), FSK_c (m := n) (n := m) (ml := ml) (n2 := ml) ok hb.1.2 h4 h6 (funext fun i => (hp 10 i (by decide)).symm) (fun _ _ => rfl) rfl rfl] at hj
  exact hj
theorem JJ_node {k v a b c e : Int32} {m1 : mm_P} {m2 : mm_G} (hCJ : CJ mi ml) (hI : IM mi NB ND NF) (hT : TC NB mi ml) (hN : NC ND mi) (hF : FC NF mi ml) (hlt : ND < 200) (h1 : m1 = A7 mi ND k v a b c e) (h2 : ∀ c i, ¬ (19 ≤ c ∧ c < 19 + NF ∧ i = ND) → m2 c i = ml c i) (hok : okK NB m1 ND) (h3 : ∀ f, f < NF → m2 (19 + f) ND = FSK NF m1 ml f ND (ksh (ml (19 + f)) m1 ND 0) (ksh (ml (19 + f)) m1 ND 1) (ksh (ml (19 + f)) m1 ND 2)) : JJ m1 m2 := by
  intro ND' NF' e1 e2 e3 e4 f hf n hn
  have hb := hI.1
  have hJ := hCJ.2 ND NF hN.1 hF.1 hb.2.1 hb.2.2
  obtain ⟨V4, V5, V0, V1, V2, V3, V35⟩ := A7_v (w := mi) (n := ND) (k := k) (v := v) (a := a) (b := b) (c := c) (e := e)
  rw [h1, V35] at e1
  rw [h1, A7_o (by omega) (by omega) (by omega) (by omega)] at e2
  have hd : ND + 1 = ND' := nI_inj (by omega) (by omega) e1
  have hf' : NF' = NF := nI_inj (by omega) (by omega) (e2.symm.trans hF.1)
  subst hd hf'
  have hrow : ∀ c, (c < 19 ∨ 31 ≤ c) → m2 c = ml c := fun c q => funext fun i => h2 c i (by omega)
  have hS : ∀ p, p < ND → m2 (19 + f) p = ml (19 + f) p := fun p hp => h2 _ p (by omega)
  by_cases hnN : n = ND
  · subst hnN
    rw [h3 f hf, FSK_l (hrow 2 (by omega)) (hrow 13 (by omega)) (hrow 14 (by omega))]
    have hk : ∀ i, ksh (m2 (19 + f)) m1 n i = ksh (ml (19 + f)) m1 n i := fun i => by
      unfold ksh
      split
      · rename_i q
        obtain ⟨p, p1, p2⟩ := k_part_r hok q
        rw [p2, nI_clamp (by omega)]
        exact hS p p1
      · rfl
    rw [hk, hk, hk]
  · have hn' : n < ND := by omega
    have ok := okK_of hI hN hn'
    have h4 : m1 4 n = mi 4 n := by rw [h1, A7_o (by omega) (by omega) (by omega) (by omega)]
    have h6 : ∀ i, i < 4 → m1 6 (4 * n + i) = mi 6 (4 * n + i) := fun i hi => by rw [h1, A7_o (by omega) (by omega) (by omega) (by omega)]
    have hS' : ∀ p, p < n → m2 (19 + f) p = ml (19 + f) p := fun p hp => hS p (by omega)
    rw [ksh_c ok (by decide) h4 h6 hS' (by omega), ksh_c ok (by decide) h4 h6 hS' (by omega), ksh_c ok (by decide) h4 h6 hS' (by omega), FSK_c (ml := ml) (n2 := m2) ok hb.1.2 h4 h6 (funext fun i => by rw [h1, A7_o (by omega) (by omega) (by omega) (by omega)]) (fun t _ => by rw [hrow 2 (by omega)]) (hrow 13 (by omega)) (hrow 14 (by omega)), hS n hn']
    exact hJ f hf n hn'
theorem lj_node {k a b c e : Int32} {Q' : Int32 → Int32 → mm_P → mm_G → Prop} (hCJ : CJ mi ml) (hQ : ∀ v n m2, CJ n m2 → Q' v v n m2) : mm_cq (mm_call mm_ms (mm_tb L xs) (d + 20)) 144 [mm_R 0, mm_I k, mm_I a, mm_I b, mm_I c, mm_I e] mi ml (fun o n1 n2 => ∃ v, o = some (mm_I v) ∧ mm_cq (mm_call mm_ms (mm_tb L xs) (d + 20)) 189 [mm_R 176, mm_I k, mm_I a, mm_I b, mm_I c, mm_I e] n1 n2 (fun o2 n3 n4 => ∃ v2, o2 = some (mm_I v2) ∧ Q' v v2 n3 n4)) := by
  have hCO := hCJ.1
  obtain ⟨hIC, ⟨NB, ND, NF, hI, hT, hN, hF⟩, h51, h41, hin⟩ := id hCO
  have hNB := hI.1.1
  have hND := hI.1.2.1
  have hd : ∀ p, p < ND → 1 ≤ (mi 193 p).toInt ∧ (mi 193 p).toInt ≤ 12 := fun p h => (hI.2.2.2.2.1 p h).2.1
  refine sy_X11_node (dep := mi 193) hIC hT.1 hNB.2 hN.1 hND hF.1 hI.1.2.2 (fun n hn => (hN.2 n hn).2.1) hd (fun nok => ⟨-2, rfl, ?_⟩) (fun ok h12 => ⟨-3, rfl, ?_⟩) (fun ok h12 hf => ⟨-4, rfl, ?_⟩) (fun ok h12 hlt v m1 m2 hv hi hf hA1 hA2 hA3 => ⟨nI ND, rfl, ?_⟩)
  · exact sx_X12_node (d := d + 15) hI (fun _ => ⟨_, rfl, hQ _ _ _ hCJ⟩) (fun q => absurd q nok) (fun q => absurd q nok) (fun q => absurd q nok)
  · exact sx_X12_node (d := d + 15) hI (fun q => absurd ok q) (fun _ _ => ⟨_, rfl, hQ _ _ _ hCJ⟩) (fun _ q => by omega) (fun _ q => by omega)
  · exact sx_X12_node (d := d + 15) hI (fun q => absurd ok q) (fun _ q => by omega) (fun _ _ _ => ⟨_, rfl, hQ _ _ _ hCJ⟩) (fun _ _ q => by omega)
  · have hw : ∀ c i, ¬ (19 ≤ c ∧ c ≤ 30) → mm_wr mm_w_X4_fillNode c i = false := fun c i q => by
      cases hb : mm_wr mm_w_X4_fillNode c i with
      | false => rfl
      | true =>
        exfalso
        unfold mm_wr mm_w_X4_fillNode mm_wr1 at hb
        simp only [List.any_cons, List.any_nil, Bool.or_false] at hb
        split at hb
        · rename_i q1 q2
          have := Nat.le_of_ble_eq_true q1
          have := Nat.le_of_ble_eq_true q2
          omega
        · cases hb
    have hm : ∀ c' i, ¬ (19 ≤ c' ∧ c' ≤ 30) → m1 c' i = A7 mi ND k v a b c e c' i := fun c' i q => (hf c' i (hw c' i q)).1
    have hm' : ∀ c' i, ¬ (19 ≤ c' ∧ c' ≤ 30) → ¬ (c' = 4 ∧ i = ND) → ¬ (c' = 5 ∧ i = ND) → ¬ (c' = 6 ∧ 4 * ND ≤ i ∧ i < 4 * ND + 4) → ¬ (c' = 3 ∧ i = 5) → m1 c' i = mi c' i := fun c' i q q4 q5 q6 q3 => (hf c' i (hw c' i q)).1.trans (A7_o q4 q5 q6 q3)
    have hml : ∀ c' i, ¬ (19 ≤ c' ∧ c' ≤ 30) → m2 c' i = ml c' i := fun c' i q => (hf c' i (hw c' i q)).2
    have hI1 : IM m1 NB ND NF := IM_h hI (fun c' i q => hm' c' i (by omega) (by omega) (by omega) (by omega) (by omega))
    have e193 : m1 193 = mi 193 := funext (fun i => hm' 193 i (by omega) (by omega) (by omega) (by omega) (by omega))
    refine sx_X12_node (d := d + 15) hI1 (fun q => absurd ok q) (fun _ q => by rw [e193] at q; omega) (fun _ _ q => by omega) (fun _ _ _ v2 x6 A B C E hv2 hU => ⟨_, rfl, hQ _ _ _ (CJ_lo (JJ_node hCJ hI hT hN hF hlt hA1 hA2 (by rw [hA1]; exact okK_A7 ok) hA3) ?_ (fun c' i q => (U7_o (by omega) (by omega)).trans (mm_u_e (by omega))))⟩)
    rw [e193, ← hv] at hv2
    have ev : v2 = v := Int32.toInt_inj.mp hv2
    subst ev
    obtain ⟨u1, u2, u3, u4, u5⟩ := hU
    obtain ⟨V1, V2, V3, V4, V5, V6⟩ := U7_v (w := mm_u m1 188 ND k) (n := ND) (a := A) (b := B) (c := C) (e := E) (x := v2) (s := nI (ND + 1))
    have V0 : U7 (mm_u m1 188 ND k) ND A B C E v2 (nI (ND + 1)) 188 ND = k := (U7_o (by omega) (by omega)).trans mm_u_s
    have hn : ∀ c' i, ¬ (188 ≤ c' ∧ c' ≤ 193 ∧ i = ND) → ¬ (c' = 176 ∧ i = 13) → U7 (mm_u m1 188 ND k) ND A B C E v2 (nI (ND + 1)) c' i = m1 c' i := fun c' i q q2 => by rw [U7_o (by omega) q2, mm_u_o (by omega)]
    have hnm : ∀ c' i, ¬ (188 ≤ c' ∧ c' ≤ 193 ∧ i = ND) → ¬ (c' = 176 ∧ i = 13) → ¬ (19 ≤ c' ∧ c' ≤ 30) → ¬ (c' = 4 ∧ i = ND) → ¬ (c' = 5 ∧ i = ND) → ¬ (c' = 6 ∧ 4 * ND ≤ i ∧ i < 4 * ND + 4) → ¬ (c' = 3 ∧ i = 5) → U7 (mm_u m1 188 ND k) ND A B C E v2 (nI (ND + 1)) c' i = mi c' i := fun c' i q q2 a b c d e => (hn c' i q q2).trans (hm' c' i a b c d e)
    obtain ⟨⟨N1, N13⟩, g14, gps⟩ := NDP_r hND hd ok
    obtain ⟨a4, a5, a60, a61, a62, a63, a35⟩ := A7_v (w := mi) (n := ND) (k := k) (v := v2) (a := a) (b := b) (c := c) (e := e)
    have hpp : ∀ {x : Int32} {y : Int}, (mi 193 x.toNatClampNeg).toInt < y → ∀ p, p < ND → x = nI p → (m1 193 p).toInt < y := fun {x y} h p hp e => by
      rw [e, nI_clamp (by omega)] at h
      rw [e193]
      exact h
    have hok : okN NB (U7 (mm_u m1 188 ND k) ND A B C E v2 (nI (ND + 1))) ND := okN_new hI1 ok.1 ok.2.2 u1 (by rw [hv]; omega) ⟨fun z => by rw [hv]; exact hpp (g14 z), fun z => ⟨fun y => by rw [hv]; exact hpp ((gps z).1 y), fun y => by rw [hv]; exact hpp ((gps z).2.1 y), fun y => by rw [hv]; exact hpp ((gps z).2.2 y)⟩⟩ u2 u3 u4 u5
    have hIn : IM (U7 (mm_u m1 188 ND k) ND A B C E v2 (nI (ND + 1))) NB (ND + 1) NF := IM_node hI1 hlt V6 (hn 176 0 (by omega) (by omega)) (hn 176 20 (by omega) (by omega)) (fun c' i q q2 => hn c' i q2 (by omega)) hok
    have k60 : k = 14 → ¬ x6 = 0 := fun z => by
      rcases u1 with q | q
      · exact absurd z q.2
      · rw [q.1]
        decide
    have hlt' : ∀ {j : Int32} {y : Int}, j.toInt = y → y + 1 ≤ (f_parts k).toInt → j < f_parts k := fun e h => by
      rw [Int32.lt_iff_toInt_lt, e]
      omega
    have hrow : ∀ t, t < NB → ∀ c', 177 ≤ c' → c' ≤ 183 → U7 (mm_u m1 188 ND k) ND A B C E v2 (nI (ND + 1)) c' t = mi c' t := fun t ht c' p q => hnm c' t (by omega) (by omega) (by omega) (by omega) (by omega) (by omega) (by omega)
    have hs : ∀ c' i, ¬ (188 ≤ c' ∧ c' ≤ 193) → ¬ c' = 176 → ¬ (19 ≤ c' ∧ c' ≤ 30) → ¬ c' = 4 → ¬ c' = 5 → ¬ c' = 6 → ¬ c' = 3 → U7 (mm_u m1 188 ND k) ND A B C E v2 (nI (ND + 1)) c' i = mi c' i := fun c' i p q r s t u w => hnm c' i (by omega) (by omega) r (by omega) (by omega) (by omega) (by omega)
    refine ⟨IC_k hi (fun c' i q => hn c' i (by omega) (by omega)), ⟨NB, ND + 1, NF, hIn, TC_c hT (hs 1 1 (by decide) (by decide) (by decide) (by decide) (by decide) (by decide) (by decide)) hrow (fun t _ => hml 2 t (by omega)), ⟨?_, fun j hj => ?_⟩, FC_c hI hF (hs 9 7 (by decide) (by decide) (by decide) (by decide) (by decide) (by decide) (by decide)) (fun c' i q => hs c' i (by omega) (by omega) (by omega) (by omega) (by omega) (by omega) (by omega)) (fun t _ => hml 2 t (by omega)) (fun i => hml 13 i (by omega)) (fun i => hml 14 i (by omega))⟩, ?_, ?_, fun i hi' => ?_⟩
    · rw [hn 3 5 (by omega) (by omega), hm 3 5 (by omega)]
      exact a35
    · by_cases hjN : j = ND
      · subst hjN
        rw [V0, V1, V2, V3, V4, V5, hn 4 j (by omega) (by omega), hn 5 j (by omega) (by omega), hn 6 _ (by omega) (by omega), hn 6 _ (by omega) (by omega), hn 6 _ (by omega) (by omega), hn 6 _ (by omega) (by omega), hm 4 j (by omega), hm 5 j (by omega), hm 6 _ (by omega), hm 6 _ (by omega), hm 6 _ (by omega), hm 6 _ (by omega), a4, a5, a60, a61, a62, a63]
        refine ⟨rfl, rfl, fun z => (u2 z).symm, fun z => (u3 ?_).symm, fun z => (u4 ?_).symm, fun z => (u5 (k60 z)).symm⟩
        · rcases z with z | z
          · exact .inl (hlt' mm_tt1 z)
          · exact .inr (k60 z)
        · rcases z with z | z
          · exact .inl (hlt' mm_tt2 z)
          · exact .inr (k60 z)
      · have hj' := hN.2 j (by omega)
        have hc' : ∀ c' i, (c' = 4 ∨ c' = 5) → i = j → U7 (mm_u m1 188 ND k) ND A B C E v2 (nI (ND + 1)) c' i = mi c' i := fun c' i q q2 => hnm c' i (by omega) (by omega) (by omega) (by omega) (by omega) (by omega) (by omega)
        have h6' : ∀ i, i < 4 * ND → U7 (mm_u m1 188 ND k) ND A B C E v2 (nI (ND + 1)) 6 i = mi 6 i := fun i q => hnm 6 i (by omega) (by omega) (by omega) (by omega) (by omega) (by omega) (by omega)
        have h8' : ∀ c', 188 ≤ c' → c' ≤ 193 → U7 (mm_u m1 188 ND k) ND A B C E v2 (nI (ND + 1)) c' j = mi c' j := fun c' p q => hnm c' j (by omega) (by omega) (by omega) (by omega) (by omega) (by omega) (by omega)
        rw [hc' 4 j (by omega) rfl, hc' 5 j (by omega) rfl, h6' _ (by omega), h6' _ (by omega), h6' _ (by omega), h6' _ (by omega), h8' 188 (by decide) (by decide), h8' 189 (by decide) (by decide), h8' 190 (by decide) (by decide), h8' 191 (by decide) (by decide), h8' 192 (by decide) (by decide), h8' 193 (by decide) (by decide)]
        exact hj'
    · rw [hnm 176 51 (by omega) (by omega) (by omega) (by omega) (by omega) (by omega) (by omega)]
      exact h51
    · rw [hnm 160 1 (by omega) (by omega) (by omega) (by omega) (by omega) (by omega) (by omega), hnm 176 41 (by omega) (by omega) (by omega) (by omega) (by omega) (by omega) (by omega)]
      exact h41
    · rw [hnm 160 1 (by omega) (by omega) (by omega) (by omega) (by omega) (by omega) (by omega)] at hi'
      rw [hnm 161 i (by omega) (by omega) (by omega) (by omega) (by omega) (by omega) (by omega), hnm 211 i (by omega) (by omega) (by omega) (by omega) (by omega) (by omega) (by omega)]
      exact hin i hi'
theorem jud_19 {c i : Nat} (h1 : 19 ≤ c) (h2 : c ≤ 30) : mm_wr mm_w_X11_judgeAnew c i = false := by
  have h : ∀ j, j < 12 → mm_avC mm_w_X11_judgeAnew (19 + j) = true := by decide +kernel
  have := h (c - 19) (by omega)
  rw [show 19 + (c - 19) = c by omega] at this
  exact mm_avC_s this
theorem use_19 {c i : Nat} (h1 : 19 ≤ c) (h2 : c ≤ 30) : mm_wr mm_w_X7_usesUnder c i = false := by
  have h : ∀ j, j < 12 → mm_avC mm_w_X7_usesUnder (19 + j) = true := by decide +kernel
  have := h (c - 19) (by omega)
  rw [show 19 + (c - 19) = c by omega] at this
  exact mm_avC_s this
theorem JT_SS {w n : mm_P} {wl n2 : mm_G} (hok : ∀ k, k < ND → okK NB w k) (hNB : NB ≤ 200) (hND : ND ≤ 200) (hNF : NF ≤ 12) (hJ : JT ND NF w wl) (hs : SS w n wl n2) (hl : ∀ c i, 19 ≤ c → c ≤ 30 → n2 c i = wl c i) : JT ND NF n n2 :=
  JT_c hok hNB hND hJ (fun k _ => hs.1 4 k (.inl (by unfold stC; omega))) (fun i _ => hs.1 6 i (.inl (by unfold stC; omega))) (funext fun i => hs.1 10 i (.inl (by unfold stC; omega))) (fun t _ => hs.2 2 t (by omega)) (funext fun i => hs.2 13 i (by omega)) (funext fun i => hs.2 14 i (by omega)) (fun f hf k _ => hl _ k (by omega) (by omega))
theorem fun_101y {x1 x2 x3 : Int32} {x4 x6 : Int64} {x8 : Int32} {w0 : mm_P} {wl0 : mm_G} (hK : KW NB ND NF w0) (hok : ∀ k, k < ND → okK NB w0 k) (hIC : mm_IC w0) (hQ : ∀ n1 n2, mm_IC n1 → SS w0 n1 wl0 n2 → JT ND NF n1 n2 → Q (some (mm_I x8)) n1 n2) : ∀ (j i : Nat) (wl : mm_G), i + j = ND → (∀ c k, ¬ (19 ≤ c ∧ c < 19 + NF) → wl c k = wl0 c k) → (∀ f, f < NF → ∀ k, k < i → wl (19 + f) k = FSK NF w0 wl f k (ksh (wl (19 + f)) w0 k 0) (ksh (wl (19 + f)) w0 k 1) (ksh (wl (19 + f)) w0 k 2)) → mm_WQ (mm_call mm_ms (mm_tb L xs) (d + 19)) (mm_tb L xs) mm_m147 lim Q 101 [some (mm_R 0), some (mm_I x1), some (mm_I x2), some (mm_I x3), some (mm_L x4), none, some (mm_L x6), none, some (mm_I x8), some (mm_I (nI i))] [] w0 wl := by
  obtain ⟨⟨k1, k2, k3⟩, n1, n2, n3⟩ := id hK
  have hSS : ∀ wl : mm_G, (∀ c k, ¬ (19 ≤ c ∧ c < 19 + NF) → wl c k = wl0 c k) → SS w0 w0 wl0 wl := fun wl h => ⟨fun _ _ _ => rfl, fun c i q => h c i (by omega)⟩
  intro j
  induction j with
  | zero =>
    intro i wl h hF hS
    have hi : i = ND := by omega
    subst hi
    refine bk_X11_function_101 (mm_call_m _) (en_X7_size (bk_X7_size_0 (mm_call_m _) (bk_X11_function_110 (mm_call_m _) (fun _ => ?_) (fun z => ?_))))
    · exact sc_X11_judgeAnew hIC (fun m1 m2 hi hf => bk_X11_function_132 (mm_call_m _) (hQ m1 m2 hi (SS_t (hSS wl hF) (SS_w jud_w hf)) (JT_SS hok n1 n2 n3 hS (SS_w jud_w hf) (fun c k a b => (hf c k (jud_19 a b)).2))))
    · exact absurd (by rw [k2]; exact Int32.le_refl _) z
  | succ j ih =>
    intro i wl h hF hS
    refine bk_X11_function_101 (mm_call_m _) (en_X7_size (bk_X7_size_0 (mm_call_m _) (bk_X11_function_110 (mm_call_m _) (fun z => ?_) (fun z => ?_))))
    · have := mm_leI z
      rw [k2, mm_tI (by omega), mm_tI (by omega)] at this
      omega
    · refine sx_fillNode hK (by omega) (hok i (by omega)) (fun m2 g1 g2 => bk_X11_function_122 (mm_call_m _) ?_)
      rw [show nI i + 1 = nI (i + 1) from (nI_succ i).symm]
      have hrow : ∀ c, (c < 19 ∨ 31 ≤ c) → m2 c = wl c := fun c q => funext fun k => g1 c k (by omega)
      refine ih (i + 1) m2 (by omega) (fun c k q => (g1 c k (by omega)).trans (hF c k q)) (fun f hf k hk => ?_)
      have hks : ∀ e, ksh (m2 (19 + f)) w0 k e = ksh (wl (19 + f)) w0 k e := fun e => by
        unfold ksh
        split
        · rename_i q
          obtain ⟨p, p1, p2⟩ := k_part_r (hok k (by omega)) q
          rw [p2, nI_clamp (by omega)]
          exact g1 _ p (by omega)
        · rfl
      rw [hks, hks, hks, FSK_l (hrow 2 (by omega)) (hrow 13 (by omega)) (hrow 14 (by omega))]
      by_cases hki : k = i
      · subst hki
        exact g2 f hf
      · rw [g1 (19 + f) k (by omega)]
        exact hS f hf k (by omega)
theorem okK_e {m n : mm_P} {k : Nat} (h : okK NB m k) (hc : ∀ c i, (c = 4 ∨ c = 6) → n c i = m c i) : okK NB n k := by
  unfold okK
  rw [hc 4 k (by omega), hc 6 _ (by omega), hc 6 _ (by omega), hc 6 _ (by omega), hc 6 _ (by omega)]
  refine ⟨h.1, fun q i hi => ?_, h.2.2.1, h.2.2.2⟩
  rw [hc 6 _ (by omega)]
  exact h.2.1 q i hi
theorem JJ_of {m : mm_P} {wl : mm_G} (hJ : JT ND NF m wl) (h1 : m 3 5 = nI ND) (h2 : m 9 7 = nI NF) (hND : ND ≤ 200) (hNF : NF ≤ 12) : JJ m wl := fun ND' NF' e1 e2 e3 e4 => by
  have a : ND = ND' := nI_inj (by omega) (by omega) (h1.symm.trans e1)
  have b : NF = NF' := nI_inj (by omega) (by omega) (h2.symm.trans e2)
  subst a b
  exact hJ
theorem sy_X11_function {x1 x2 x3 : Int32} (hIC : mm_IC mi) (hD : DN NB mi) (hT : TC NB mi ml) (hNB : NB ≤ 200) (h35 : mi 3 5 = nI ND) (hND : ND ≤ 200) (h97 : mi 9 7 = nI NF) (hNF : NF ≤ 12) (hokK : ∀ k, k < ND → okK NB mi k) (hbad : ¬ FOK NB mi x1 x2 x3 → Q (some (mm_I (-2))) mi ml) (hfull : FOK NB mi x1 x2 x3 → NF = 12 → Q (some (mm_I (-4))) mi ml) (hnew : FOK NB mi x1 x2 x3 → NF < 12 → ∀ n1 n2, mm_IC n1 → SS (F5 mi NF x1 x2 x3) n1 (mm_u (mm_u ml 13 NF (ml 2 x2.toNatClampNeg)) 14 NF (ml 2 x3.toNatClampNeg)) n2 → JT ND (NF + 1) n1 n2 → Q (some (mm_I (nI NF))) n1 n2) : mm_cq (mm_call mm_ms (mm_tb L xs) (d + 20)) 147 [mm_R 0, mm_I x1, mm_I x2, mm_I x3] mi ml Q := by
  have n1 : ∀ {P : Prop}, (1 : Int32) = 0 → P := fun z => absurd z (by decide)
  have n0 : ∀ {P : Prop}, ¬ (0 : Int32) = 0 → P := fun z => absurd rfl z
  have h31 : ¬ FOK NB mi x1 x2 x3 → mm_WQ (mm_call mm_ms (mm_tb L xs) (d + 19)) (mm_tb L xs) mm_m147 (mm_li mm_m147) Q 31 [some (mm_R 0), some (mm_I x1), some (mm_I x2), some (mm_I x3), none, none, none, none, none, none] [] mi ml := fun z => bk_X11_function_31 (mm_call_m _) (hbad z)
  refine en_X11_function (bk_X11_function_0 (mm_call_m _) (fun z => h31 (fun p => ?_)) (fun _ z => h31 (fun p => ?_)) (fun z z2 => sx_has8 hT.1 hNB (fun t t1 t2 => bk_X11_function_17 (s0 := 1) (mm_call_m _) n1 (fun _ => sx_has8 hT.1 hNB (fun u u1 u2 => bk_X11_function_28 (s0 := 1) (mm_call_m _) (fun _ => ?_) n1) (fun q => bk_X11_function_28 (s0 := 0) (mm_call_m _) n0 (fun _ => h31 (fun ⟨_, _, u, _, u1, _, u2, _⟩ => q u u1 u2))))) (fun q => bk_X11_function_17 (s0 := 0) (mm_call_m _) (fun _ => h31 (fun ⟨_, t, _, t1, _, t2, _⟩ => q t t1 t2)) n0)))
  · have := mm_ltI z
    rw [mm_tt0] at this
    have := p.1.1
    omega
  · have := mm_ltI z
    rw [mm_tt2] at this
    have := p.1.2
    omega
  · have z' := mm_nltI z
    have z2' := mm_nltI z2
    rw [mm_tt0] at z'
    rw [mm_tt2] at z2'
    subst t2 u2
    rw [nI_clamp (show t < 2 ^ 31 by omega), nI_clamp (show u < 2 ^ 31 by omega)] at hnew
    have h72 : ¬ FOK NB mi x1 (nI t) (nI u) → mm_WQ (mm_call mm_ms (mm_tb L xs) (d + 19)) (mm_tb L xs) mm_m147 (mm_li mm_m147) Q 72 [some (mm_R 0), some (mm_I x1), some (mm_I (nI t)), some (mm_I (nI u)), some (mm_L (ml 2 t)), none, some (mm_L (ml 2 u)), none, none, none] [] mi ml := fun z => bk_X11_function_72 (mm_call_m _) (hbad z)
    have huniq : ∀ t' u', t' < NB → u' < NB → nI t = nI t' → nI u = nI u' → t' = t ∧ u' = u := fun t' u' a b p q => ⟨nI_ij (by omega) (by omega) p.symm, nI_ij (by omega) (by omega) q.symm⟩
    refine sx_shapeOf hT.1 hNB t1 (bk_X11_function_42 (mm_call_m _) (sx_shapeOf hT.1 hNB u1 (bk_X11_function_52 (mm_call_m _) (sx_allow hD hT t1 ⟨z', z2'⟩ (fun w1 => bk_X11_function_60 (s0 := 1) (mm_call_m _) n1 (fun _ => sx_allow hD hT u1 ⟨z', z2'⟩ (fun w2 => bk_X11_function_69 (s0 := 1) (mm_call_m _) (fun _ => ?_) n1) (fun q => bk_X11_function_69 (s0 := 0) (mm_call_m _) n0 (fun _ => h72 (fun ⟨_, t', u', a, b, p, p2, _, p4⟩ => q (by rw [← (huniq t' u' a b p p2).2]; exact p4)))))) (fun q => bk_X11_function_60 (s0 := 0) (mm_call_m _) (fun _ => h72 (fun ⟨_, t', u', a, b, p, p2, p3, _⟩ => q (by rw [← (huniq t' u' a b p p2).1]; exact p3))) n0)))))
    have hok : FOK NB mi x1 (nI t) (nI u) := ⟨⟨z', z2'⟩, t, u, t1, u1, rfl, rfl, w1, w2⟩
    refine sx_add2 h97 hNF (fun q => bk_X11_function_89 (s0 := -4) (mm_call_m _) (fun _ => bk_X11_function_132 (mm_call_m _) (hfull hok q)) (fun w => absurd rfl w)) (fun hlt => bk_X11_function_89 (mm_call_m _) (fun q => ?_) (fun _ => ?_))
    · exfalso
      have := congrArg Int32.toInt q
      rw [mm_tI (by omega), mm_tn4] at this
      omega
    · have hIC' : mm_IC (F5 mi NF x1 (nI t) (nI u)) := by
        unfold F5
        refine mm_IC_97 (mm_IC_n (mm_IC_n (mm_IC_n (mm_IC_n hIC ?_ ?_ ?_ ?_ ?_) ?_ ?_ ?_ ?_ ?_) ?_ ?_ ?_ ?_ ?_) ?_ ?_ ?_ ?_ ?_) (by rw [mm_tI (by omega)]; omega) <;> decide
      have hKF : KW NB ND (NF + 1) (F5 mi NF x1 (nI t) (nI u)) := ⟨⟨(F5_o (by omega) (by omega)).trans hT.1, (F5_o (by omega) (by omega)).trans h35, F5_v.2.2.2.2⟩, hNB, hND, by omega⟩
      have hF5 : ∀ c i, (c = 4 ∨ c = 6) → F5 mi NF x1 (nI t) (nI u) c i = mi c i := fun c i q => F5_o (by omega) (by omega)
      exact fun_101y hKF (fun k hk => okK_e (hokK k hk) hF5) hIC' (fun m1 m2 hi hs hJ => hnew hok hlt m1 m2 hi hs hJ) ND 0 _ (by omega) (fun _ _ _ => rfl) (fun f _ k hk => absurd hk (Nat.not_lt_zero _))
theorem lj_function {x1 x2 x3 : Int32} {Q' : Int32 → Int32 → mm_P → mm_G → Prop} (hCJ : CJ mi ml) (hQ : ∀ v n m2, CJ n m2 → Q' v v n m2) : mm_cq (mm_call mm_ms (mm_tb L xs) (d + 20)) 147 [mm_R 0, mm_I x1, mm_I x2, mm_I x3] mi ml (fun o n1 n2 => ∃ v, o = some (mm_I v) ∧ mm_cq (mm_call mm_ms (mm_tb L xs) (d + 20)) 190 [mm_R 176, mm_I x1, mm_I x2, mm_I x3] n1 n2 (fun o2 n3 n4 => ∃ v2, o2 = some (mm_I v2) ∧ Q' v v2 n3 n4)) := by
  have hCO := hCJ.1
  obtain ⟨hIC, ⟨NB, ND, NF, hI, hT, hN, hF⟩, h51, h41, hin⟩ := id hCO
  have hNB := hI.1.1
  have hND := hI.1.2.1
  have hNF := hI.1.2.2
  refine sy_X11_function hIC hI.2.2.2.1 hT hNB.2 hN.1 hND hF.1 hNF (fun k hk => okK_of hI hN hk) (fun nok => ⟨-2, rfl, ?_⟩) (fun ok hf => ⟨-4, rfl, ?_⟩) (fun ok hlt m1 m2 hi hs hJ => ⟨nI NF, rfl, ?_⟩)
  · exact sx_X12_function (d := d + 17) hI (fun _ => ⟨_, rfl, hQ _ _ _ hCJ⟩) (fun q => absurd q nok) (fun q => absurd q nok)
  · exact sx_X12_function (d := d + 17) hI (fun q => absurd ok q) (fun _ _ => ⟨_, rfl, hQ _ _ _ hCJ⟩) (fun _ q => by omega)
  · have hhi : ∀ c i, 176 ≤ c → m1 c i = mi c i := fun c i q => (hs.1 c i (.inr q)).trans (F5_o (by omega) (by omega))
    have hI1 : IM m1 NB ND NF := IM_h hI hhi
    have ok1 : FOK NB m1 x1 x2 x3 := FOK_c (fun t _ c a b => hhi c t (by omega)) ok
    refine sx_X12_function (d := d + 17) hI1 (fun q => absurd ok1 q) (fun _ q => by omega) (fun _ _ => ⟨_, rfl, hQ _ _ _ (CJ_lo (JJ_of hJ ((hs.1 3 5 (.inl (by unfold stC; omega))).trans ((F5_o (by omega) (by omega)).trans hN.1)) ((hs.1 9 7 (.inl (by unfold stC; omega))).trans F5_v.2.2.2.2) hND (by omega)) ?_ (fun c i q => G5_o (by omega) (by omega)))⟩)
    obtain ⟨hl, t, u, t1, u1, rfl, rfl, w1, w2⟩ := ok
    rw [nI_clamp (show t < 2 ^ 31 by omega), nI_clamp (show u < 2 ^ 31 by omega)] at hs
    obtain ⟨V1, V2, V3, V4, V5⟩ := G5_v (w := m1) (n := NF) (a := x1) (b := nI t) (c := nI u)
    obtain ⟨W1, W2, W3, W4, W5⟩ := F5_v (w := mi) (n := NF) (a := x1) (b := nI t) (c := nI u)
    have hg : ∀ c i, ¬ (194 ≤ c ∧ c ≤ 197 ∧ i = NF) → ¬ (c = 176 ∧ i = 20) → G5 m1 NF x1 (nI t) (nI u) c i = m1 c i := fun c i a b => G5_o a b
    have hstc : ∀ c i, stC c i → G5 m1 NF x1 (nI t) (nI u) c i = F5 mi NF x1 (nI t) (nI u) c i := fun c i q => (hg c i (by unfold stC at q; omega) (by unfold stC at q; omega)).trans (hs.1 c i (.inl q))
    have hrow : ∀ s, s < NB → ∀ c, 177 ≤ c → c ≤ 183 → G5 m1 NF x1 (nI t) (nI u) c s = mi c s := fun s _ c a b => (hg c s (by omega) (by omega)).trans (hhi c s (by omega))
    have hok : okF NB ND (G5 m1 NF x1 (nI t) (nI u)) NF := by
      unfold okF wthn
      rw [V1, V2, V3, V4]
      refine ⟨hl, ⟨t, t1, rfl, ?_⟩, ⟨u, u1, rfl, ?_⟩, .inl rfl⟩
      · rw [hrow t t1 181 (by decide) (by decide), hrow t t1 182 (by decide) (by decide)]
        exact w1
      · rw [hrow u u1 181 (by decide) (by decide), hrow u u1 182 (by decide) (by decide)]
        exact w2
    have hIn : IM (G5 m1 NF x1 (nI t) (nI u)) NB ND (NF + 1) := IM_function hI1 hlt V5 (hg 176 0 (by omega) (by omega)) (hg 176 13 (by omega) (by omega)) (fun c i q q2 => hg c i q2 (by omega)) hok
    have h2 : ∀ s, m2 2 s = ml 2 s := fun s => (hs.2 2 s (.inl rfl)).trans (by rw [mm_u_e (by decide), mm_u_e (by decide)])
    refine ⟨IC_k hi (fun c i q => hg c i (by omega) (by omega)), ⟨NB, ND, NF + 1, hIn, TC_c hT ((hstc 1 1 (by unfold stC; omega)).trans (F5_o (by omega) (by omega))) hrow (fun s _ => h2 s), NC_c hN ((hstc 3 5 (by unfold stC; omega)).trans (F5_o (by omega) (by omega))) (fun c i q => ?_), ⟨(hstc 9 7 (by unfold stC; omega)).trans W5, fun f hf => ?_⟩⟩, ?_, ?_, fun i hi' => ?_⟩
    · by_cases h8 : 188 ≤ c
      · exact (hg c i (by omega) (by omega)).trans (hhi c i (by omega))
      · exact (hstc c i (by unfold stC; omega)).trans (F5_o (by omega) (by omega))
    · have e13 : m2 13 f = if f = NF then ml 2 t else ml 13 f := by
        rw [hs.2 13 f (by omega), mm_u_e (by decide)]
        split
        · rename_i q
          rw [q, mm_u_s]
        · rename_i q
          exact mm_u_f q
      have e14 : m2 14 f = if f = NF then ml 2 u else ml 14 f := by
        rw [hs.2 14 f (by omega)]
        split
        · rename_i q
          rw [q, mm_u_s]
        · rename_i q
          rw [mm_u_f q, mm_u_e (by decide)]
      by_cases hfN : f = NF
      · subst hfN
        rw [if_pos rfl] at e13 e14
        rw [V1, V2, V3, V4, hstc 10 f (by unfold stC; omega), hstc 11 f (by unfold stC; omega), hstc 12 f (by unfold stC; omega), hstc 15 f (by unfold stC; omega), W1, W2, W3, W4, e13, e14, h2, h2, nI_clamp (by omega), nI_clamp (by omega)]
        exact ⟨rfl, rfl, rfl, rfl, rfl, rfl⟩
      · rw [if_neg hfN] at e13 e14
        have hf' := hF.2 f (by omega)
        have hc' : ∀ c, (c = 10 ∨ c = 11 ∨ c = 12 ∨ c = 15) → G5 m1 NF x1 (nI t) (nI u) c f = mi c f := fun c q => (hstc c f (by unfold stC; omega)).trans (F5_o (by omega) (by omega))
        have hm' : ∀ c, 194 ≤ c → c ≤ 197 → G5 m1 NF x1 (nI t) (nI u) c f = mi c f := fun c a b => (hg c f (by omega) (by omega)).trans (hhi c f (by omega))
        rw [hc' 10 (by omega), hc' 11 (by omega), hc' 12 (by omega), hc' 15 (by omega), hm' 194 (by decide) (by decide), hm' 195 (by decide) (by decide), hm' 196 (by decide) (by decide), hm' 197 (by decide) (by decide), e13, e14, h2, h2]
        exact hf'
    · rw [hg 176 51 (by omega) (by omega), hhi 176 51 (by decide)]
      exact h51
    · rw [hstc 160 1 (by unfold stC; omega), F5_o (by omega) (by omega), hg 176 41 (by omega) (by omega), hhi 176 41 (by decide)]
      exact h41
    · rw [hstc 160 1 (by unfold stC; omega), F5_o (by omega) (by omega)] at hi'
      rw [hstc 161 i (by unfold stC; omega), F5_o (by omega) (by omega), hg 211 i (by omega) (by omega), hhi 211 i (by decide)]
      exact hin i hi'
theorem sy_X11_body {x1 x2 : Int32} (hIC : mm_IC mi) (h35 : mi 3 5 = nI ND) (hND : ND ≤ 200) (h97 : mi 9 7 = nI NF) (hNF : NF ≤ 12) (hbad : (¬ ∃ f n, f < NF ∧ n < ND ∧ x1 = nI f ∧ x2 = nI n) → Q (some (mm_I (-2))) mi ml) (hnew : ∀ f n, f < NF → n < ND → x1 = nI f → x2 = nI n → ∀ n1 n2, mm_IC n1 → SS (mm_u mi 15 f (nI n)) n1 ml n2 → (∀ c i, 19 ≤ c → c ≤ 30 → n2 c i = ml c i) → Q (some (mm_I 1)) n1 n2) : mm_cq (mm_call mm_ms (mm_tb L xs) (d + 20)) 148 [mm_R 0, mm_I x1, mm_I x2] mi ml Q := by
  have n1 : ∀ {P : Prop}, (1 : Int32) = 0 → P := fun z => absurd z (by decide)
  have n0 : ∀ {P : Prop}, ¬ (0 : Int32) = 0 → P := fun z => absurd rfl z
  have h22 : (¬ ∃ f n, f < NF ∧ n < ND ∧ x1 = nI f ∧ x2 = nI n) → mm_WQ (mm_call mm_ms (mm_tb L xs) (d + 19)) (mm_tb L xs) mm_m148 (mm_li mm_m148) Q 22 [some (mm_R 0), some (mm_I x1), some (mm_I x2)] [] mi ml := fun z => bk_X11_body_22 (mm_call_m _) (hbad z)
  refine en_X11_body (bk_X11_body_0 (mm_call_m _) (sx_has2 h97 hNF (fun f f1 f2 => bk_X11_body_8 (s0 := 1) (mm_call_m _) n1 (fun _ => sx_has7 h35 hND (fun n e1 e2 => bk_X11_body_19 (s0 := 1) (mm_call_m _) (fun _ => ?_) n1) (fun q => bk_X11_body_19 (s0 := 0) (mm_call_m _) n0 (fun _ => h22 (fun ⟨_, n, _, a, _, b⟩ => q ⟨n, a, b⟩))))) (fun q => bk_X11_body_8 (s0 := 0) (mm_call_m _) (fun _ => h22 (fun ⟨f, _, a, _, b, _⟩ => q f a b)) n0)))
  subst f2 e2
  refine sc_X7_usesUnder (d := d + 2) hIC (fun v m1 m2 hi hf => bk_X11_body_39 (mm_call_m _) ?_)
  have hs := SS_w use_w hf
  have e97 : m1 9 7 = nI NF := (hs.1 9 7 (.inl (by unfold stC; omega))).trans h97
  refine en_X2_giveBody (bk_X2_giveBody_0 (mm_call_m _) (sx_has2 e97 hNF (fun t _ _ => bk_X2_giveBody_5 (s0 := 1) (mm_call_m _) n1 (fun _ => vp_in_nI (by omega) (by decide)) (fun _ => vp_in_nI (by omega) (by decide)) (fun _ => bk_X2_giveBody_22 (mm_call_m _) (bk_X11_body_42 (mm_call_m _) ?_))) (fun q => absurd rfl (q f f1))))
  rw [nI_clamp (by omega)]
  have hIC2 : mm_IC (mm_u (mm_u m1 15 f (nI n)) 16 f v) := by
    refine mm_IC_n (mm_IC_n hi ?_ ?_ ?_ ?_ ?_) ?_ ?_ ?_ ?_ ?_ <;> decide
  refine sc_X11_judgeAnew hIC2 (fun k1 k2 ki kf => bk_X11_body_46 (mm_call_m _) (hnew f n f1 e1 rfl rfl k1 k2 ki ?_ (fun c i a b => (kf c i (jud_19 a b)).2.trans (hf c i (use_19 a b)).2)))
  have hj := SS_w jud_w kf
  refine ⟨fun c i q => ?_, fun c i q => (hj.2 c i q).trans (hs.2 c i q)⟩
  rw [hj.1 c i q, mm_u_e (by unfold stC at q; omega)]
  by_cases h15 : c = 15 ∧ i = f
  · obtain ⟨rfl, rfl⟩ := h15
    rw [mm_u_s, mm_u_s]
  · rw [mm_u_o h15, mm_u_o h15]
    exact hs.1 c i q
theorem lj_body {x1 x2 : Int32} {Q' : Int32 → Int32 → mm_P → mm_G → Prop} (hCJ : CJ mi ml) (hQ : ∀ v n m2, CJ n m2 → Q' v v n m2) : mm_cq (mm_call mm_ms (mm_tb L xs) (d + 20)) 148 [mm_R 0, mm_I x1, mm_I x2] mi ml (fun o n1 n2 => ∃ v, o = some (mm_I v) ∧ mm_cq (mm_call mm_ms (mm_tb L xs) (d + 20)) 191 [mm_R 176, mm_I x1, mm_I x2] n1 n2 (fun o2 n3 n4 => ∃ v2, o2 = some (mm_I v2) ∧ Q' v v2 n3 n4)) := by
  have hCO := hCJ.1
  obtain ⟨hIC, ⟨NB, ND, NF, hI, hT, hN, hF⟩, h51, h41, hin⟩ := id hCO
  have hNB := hI.1.1
  have hND := hI.1.2.1
  have hNF := hI.1.2.2
  have n1 : ∀ {P : Prop}, (1 : Int32) = 0 → P := fun z => absurd z (by decide)
  have n0 : ∀ {P : Prop}, ¬ (0 : Int32) = 0 → P := fun z => absurd rfl z
  refine sy_X11_body hIC hN.1 hND hF.1 hNF (fun nok => ⟨-2, rfl, ?_⟩) (fun f n f1 e1 f2 e2 m1 m2 hi hs hl => ⟨1, rfl, ?_⟩)
  · have h16 : mm_WQ (mm_call mm_ms (mm_tb L xs) (d + 19)) (mm_tb L xs) mm_m191 (mm_li mm_m191) (fun o2 n3 n4 => ∃ v2, o2 = some (mm_I v2) ∧ Q' (-2) v2 n3 n4) 16 [some (mm_R 176), some (mm_I x1), some (mm_I x2)] [] mi ml := bk_X12_body_16 (mm_call_m _) ⟨-2, rfl, hQ _ _ _ hCJ⟩
    exact en_X12_body (bk_X12_body_0 (mm_call_m _) (sp_fun hI (fun f f1 f2 => bk_X12_body_5 (s0 := 1) (mm_call_m _) n1 (fun _ => sp_nod hI (fun b b1 b2 => absurd ⟨f, b, f1, b1, f2, b2⟩ nok) (fun _ => bk_X12_body_13 (s0 := 0) (mm_call_m _) n0 n0 (fun _ => h16)))) (fun _ => bk_X12_body_5 (s0 := 0) (mm_call_m _) (fun _ => h16) n0)))
  · subst f2 e2
    have hhi : ∀ c i, 176 ≤ c → m1 c i = mi c i := fun c i q => (hs.1 c i (.inr q)).trans (mm_u_e (by omega))
    have hI1 : IM m1 NB ND NF := IM_h hI hhi
    refine en_X12_body (bk_X12_body_0 (mm_call_m _) (sp_fun hI1 (fun f' g1 g2 => bk_X12_body_5 (s0 := 1) (mm_call_m _) n1 (fun _ => sp_nod hI1 (fun b b1 b2 => bk_X12_body_13 (s0 := 1) (mm_call_m _) (fun _ => vp_in_nI (by omega) (by decide)) (fun _ => ?_) n1) (fun q => absurd rfl (q n e1)))) (fun q => absurd rfl (q f f1))))
    rw [nI_clamp (by omega)]
    have hok : ∀ k, k < ND → okK NB (mm_u mi 15 f (nI n)) k := fun k hk => okK_e (okK_of hI hN hk) (fun c i q => mm_u_e (by omega))
    have hJ0 : JT ND NF (mm_u mi 15 f (nI n)) ml := JT_c (fun k hk => okK_of hI hN hk) hNB.2 hND (hCJ.2 ND NF hN.1 hF.1 hND hNF) (fun k _ => mm_u_e (by decide)) (fun i _ => mm_u_e (by decide)) (funext fun i => mm_u_e (by decide)) (fun _ _ => rfl) rfl rfl (fun _ _ _ _ => rfl)
    have hJ := JT_SS hok hNB.2 hND hNF hJ0 hs hl
    refine ⟨1, rfl, hQ _ _ _ (CJ_lo (JJ_of hJ ((hs.1 3 5 (.inl (by unfold stC; omega))).trans ((mm_u_e (by decide)).trans hN.1)) ((hs.1 9 7 (.inl (by unfold stC; omega))).trans ((mm_u_e (by decide)).trans hF.1)) hND hNF) ?_ (fun c i q => mm_u_e (by omega)))⟩
    have hg : ∀ c i, ¬ (c = 197 ∧ i = f) → mm_u m1 197 f (nI n) c i = m1 c i := fun c i q => mm_u_o q
    have hstc : ∀ c i, stC c i → ¬ (c = 15 ∧ i = f) → mm_u m1 197 f (nI n) c i = mi c i := fun c i q q2 => (hg c i (by unfold stC at q; omega)).trans ((hs.1 c i (.inl q)).trans (mm_u_o q2))
    have hrow : ∀ s, s < NB → ∀ c, 177 ≤ c → c ≤ 183 → mm_u m1 197 f (nI n) c s = mi c s := fun s _ c a b => (hg c s (by omega)).trans (hhi c s (by omega))
    have h2 : ∀ c s, (c = 2 ∨ c = 13 ∨ c = 14) → m2 c s = ml c s := fun c s q => hs.2 c s q
    refine ⟨IC_k hi (fun c i q => hg c i (by omega)), ⟨NB, ND, NF, IM_body hI1 f1 e1, TC_c hT (hstc 1 1 (by unfold stC; omega) (by omega)) hrow (fun s _ => h2 2 s (by omega)), NC_c hN (hstc 3 5 (by unfold stC; omega) (by omega)) (fun c i q => ?_), ⟨(hstc 9 7 (by unfold stC; omega) (by omega)).trans hF.1, fun g hg' => ?_⟩⟩, ?_, ?_, fun i hi' => ?_⟩
    · by_cases h8 : 188 ≤ c
      · exact (hg c i (by omega)).trans (hhi c i (by omega))
      · exact hstc c i (by unfold stC; omega) (by omega)
    · have hf' := hF.2 g hg'
      have hc' : ∀ c, (c = 10 ∨ c = 11 ∨ c = 12) → mm_u m1 197 f (nI n) c g = mi c g := fun c q => hstc c g (by unfold stC; omega) (by omega)
      have hm' : ∀ c, 194 ≤ c → c ≤ 196 → mm_u m1 197 f (nI n) c g = mi c g := fun c a b => (hg c g (by omega)).trans (hhi c g (by omega))
      rw [hc' 10 (by omega), hc' 11 (by omega), hc' 12 (by omega), hm' 194 (by decide) (by decide), hm' 195 (by decide) (by decide), hm' 196 (by decide) (by decide), h2 13 g (by omega), h2 14 g (by omega), h2 2 _ (by omega), h2 2 _ (by omega)]
      refine ⟨hf'.1, hf'.2.1, hf'.2.2.1, ?_, hf'.2.2.2.2.1, hf'.2.2.2.2.2⟩
      by_cases hgf : g = f
      · subst hgf
        rw [mm_u_s, hg 15 g (by omega), hs.1 15 g (.inl (by unfold stC; omega)), mm_u_s]
      · rw [mm_u_f hgf, hhi 197 g (by decide), hstc 15 g (by unfold stC; omega) (by omega)]
        exact hf'.2.2.2.1
    · rw [hg 176 51 (by omega), hhi 176 51 (by decide)]
      exact h51
    · rw [hstc 160 1 (by unfold stC; omega) (by omega), hg 176 41 (by omega), hhi 176 41 (by decide)]
      exact h41
    · rw [hstc 160 1 (by unfold stC; omega) (by omega)] at hi'
      rw [hstc 161 i (by unfold stC; omega) (by omega), hg 211 i (by omega), hhi 211 i (by decide)]
      exact hin i hi'
theorem lj_digest {Q' : Int64 → Int64 → mm_P → mm_G → Prop} (hCJ : CJ mi ml) (hQ : ∀ v n m2, CJ n m2 → Q' v v n m2) : mm_cq (mm_call mm_ms (mm_tb L xs) (d + 12)) 163 [mm_R 0] mi ml (fun o n1 n2 => ∃ v, o = some (mm_L v) ∧ mm_cq (mm_call mm_ms (mm_tb L xs) (d + 12)) 235 [mm_R 176] n1 n2 (fun o2 n3 n4 => ∃ v2, o2 = some (mm_L v2) ∧ Q' v v2 n3 n4)) := by
  have hCO := hCJ.1
  obtain ⟨hIC, ⟨NB, ND, NF, hI, hT, hN, hF⟩, h51, h41, hin⟩ := id hCO
  exact en_X11_digest (bk_X11_digest_0 (mm_call_m _) (cdig_6 hI hT hN hF ⟨_, rfl, sx_X12_digest (d := d + 9) hI ⟨_, rfl, hQ _ _ _ hCJ⟩⟩ NB 0 (by omega)))
theorem lj_count {x1 : Int32} {Q' : Int32 → Int32 → mm_P → mm_G → Prop} (hCJ : CJ mi ml) (hQ : ∀ v n m2, CJ n m2 → Q' v v n m2) : mm_cq (mm_call mm_ms (mm_tb L xs) (d + 2)) 162 [mm_R 0, mm_I x1] mi ml (fun o n1 n2 => ∃ v, o = some (mm_I v) ∧ mm_cq (mm_call mm_ms (mm_tb L xs) (d + 2)) 233 [mm_R 176, mm_I x1] n1 n2 (fun o2 n3 n4 => ∃ v2, o2 = some (mm_I v2) ∧ Q' v v2 n3 n4)) := by
  have hCO := hCJ.1
  obtain ⟨hIC, ⟨NB, ND, NF, hI, hT, hN, hF⟩, h51, h41, hin⟩ := id hCO
  have hm : ∀ (v : Int32), (x1 = 0 → v = mi 176 0) → (x1 = 1 → v = mi 176 13) → (x1 = 2 → v = mi 176 20) → (x1 = 3 → v = mi 176 41) → (¬ x1 = 0 → ¬ x1 = 1 → ¬ x1 = 2 → ¬ x1 = 3 → v = -2) → mm_cq (mm_call mm_ms (mm_tb L xs) (d + 2)) 233 [mm_R 176, mm_I x1] mi ml (fun o2 n3 n4 => ∃ v2, o2 = some (mm_I v2) ∧ Q' v v2 n3 n4) := fun v a0 a1 a2 a3 a4 => by
    refine en_X12_count (bk_X12_count_0 (mm_call_m _) (fun z0 z1 z2 z3 => ⟨_, rfl, ?_⟩) (fun _ _ _ z => ⟨_, rfl, ?_⟩) (fun _ _ z => ⟨_, rfl, ?_⟩) (fun _ z => ⟨_, rfl, ?_⟩) (fun z => ⟨_, rfl, ?_⟩))
    · rw [← a4 z0 z1 z2 z3]; exact hQ _ _ _ hCJ
    · rw [← a3 z]; exact hQ _ _ _ hCJ
    · rw [← a2 z]; exact hQ _ _ _ hCJ
    · rw [← a1 z]; exact hQ _ _ _ hCJ
    · rw [← a0 z]; exact hQ _ _ _ hCJ
  have hno : ∀ {P : Prop} {a b : Int32}, x1 = a → x1 = b → ¬ a = b → P := fun p q r => absurd (p.symm.trans q) r
  refine en_X11_count (bk_X11_count_0 (mm_call_m _) (fun z => en_X8_size (bk_X8_size_0 (mm_call_m _) (bk_X11_count_39 (mm_call_m _) ⟨_, rfl, hm _ (fun _ => by rw [hT.1, hI.2.1.1]) (fun q => hno z q (by decide)) (fun q => hno z q (by decide)) (fun q => hno z q (by decide)) (fun q _ _ _ => absurd z q)⟩))) (fun z => en_X7_size (bk_X7_size_0 (mm_call_m _) (bk_X11_count_47 (mm_call_m _) ⟨_, rfl, hm _ (fun q => hno z q (by decide)) (fun _ => by rw [hN.1, hI.2.1.2.1]) (fun q => hno z q (by decide)) (fun q => hno z q (by decide)) (fun _ q _ _ => absurd z q)⟩))) (fun z => en_X2_size (bk_X2_size_0 (mm_call_m _) (bk_X11_count_55 (mm_call_m _) ⟨_, rfl, hm _ (fun q => hno z q (by decide)) (fun q => hno z q (by decide)) (fun _ => by rw [hF.1, hI.2.1.2.2]) (fun q => hno z q (by decide)) (fun _ _ q _ => absurd z q)⟩))) (fun z => en_X3_size (bk_X3_size_0 (mm_call_m _) (bk_X11_count_63 (mm_call_m _) ⟨_, rfl, hm _ (fun q => hno z q (by decide)) (fun q => hno z q (by decide)) (fun q => hno z q (by decide)) (fun _ => h41) (fun _ _ _ q => absurd z q)⟩))) (fun z0 z1 z2 z3 => ⟨_, rfl, hm _ (fun q => absurd q z0) (fun q => absurd q z1) (fun q => absurd q z2) (fun q => absurd q z3) (fun _ _ _ _ => rfl)⟩))
theorem lj_input {x1 : Int32} {Q' : Int32 → Int32 → mm_P → mm_G → Prop} (hCJ : CJ mi ml) (hQ : ∀ v n m2, CJ n m2 → Q' v v n m2) : mm_cq (mm_call mm_ms (mm_tb L xs) (d + 2)) 156 [mm_R 0, mm_I x1] mi ml (fun o n1 n2 => ∃ v, o = some (mm_I v) ∧ mm_cq (mm_call mm_ms (mm_tb L xs) (d + 2)) 211 [mm_R 176, mm_I x1] n1 n2 (fun o2 n3 n4 => ∃ v2, o2 = some (mm_I v2) ∧ Q' v v2 n3 n4)) := by
  have hCO := hCJ.1
  obtain ⟨hIC, ⟨NB, ND, NF, hI, hT, hN, hF⟩, h51, h41, hin⟩ := id hCO
  have hr := hIC.2.2.2.2.2
  refine sp_X11_input (fun z => ⟨-4, rfl, ?_⟩) (fun z => ⟨_, rfl, ?_⟩) hr.1
  · have e16 : mi 160 1 = 16 := by
      have := mm_nltI z
      rw [mm_tt16] at this
      exact Int32.toInt_inj.mp (by rw [mm_tt16]; omega)
    refine sp_input (by rw [← h41]; exact hr) (fun _ => ⟨-4, rfl, hQ _ _ _ hCJ⟩) (fun q => absurd (h41.symm.trans e16) q)
  · have hlt := mm_ltI z
    rw [mm_tt16] at hlt
    have e41 : mm_u (mm_u mi 161 (mi 160 1).toNatClampNeg x1) 160 1 (mi 160 1 + 1) 176 41 = mi 160 1 := by
      rw [mm_u_e (by decide), mm_u_e (by decide)]
      exact h41.symm
    refine sp_input (by rw [e41]; exact hr) (fun q => ?_) (fun _ _ => ⟨_, rfl, ?_⟩)
    · rw [e41] at q
      rw [q, mm_tt16] at hlt
      omega
    · rw [e41]
      have hadd : (mi 160 1 + 1).toInt = (mi 160 1).toInt + 1 := mm_add1 (by omega)
      have hIC' : mm_IC (mm_u (mm_u mi 161 (mi 160 1).toNatClampNeg x1) 160 1 (mi 160 1 + 1)) := mm_IC_1601 (mm_IC_n hIC (by decide) (by decide) (by decide) (by decide) (by decide)) (by omega)
      obtain ⟨z0, e0, z1, z2, z3⟩ := mm_of (n := 16) hr.1 hlt
      have hc : ∀ c i, ¬ (c = 161 ∧ i = z0) → ¬ (c = 160 ∧ i = 1) → ¬ (c = 211 ∧ i = z0) → ¬ (c = 176 ∧ i = 41) → mm_u (mm_u (mm_u (mm_u mi 161 (mi 160 1).toNatClampNeg x1) 160 1 (mi 160 1 + 1)) 211 (mi 160 1).toNatClampNeg x1) 176 41 (mi 160 1 + 1) c i = mi c i := fun c i a b e f => by
        rw [z3, mm_u_o f, mm_u_o e, mm_u_o b, mm_u_o a]
      refine hQ _ _ _ (CJ_h hCJ ⟨IC_k hIC' (fun c i q => by rw [mm_u_e (by omega), mm_u_e (by omega)]), ⟨NB, ND, NF, IM_e hI (fun c i q => hc c i (by omega) (by omega) (by omega) (by omega)), TC_c hT (hc 1 1 (by omega) (by omega) (by omega) (by omega)) (fun t _ c a b => hc c t (by omega) (by omega) (by omega) (by omega)) (fun _ _ => rfl), NC_c hN (hc 3 5 (by omega) (by omega) (by omega) (by omega)) (fun c i q => hc c i (by omega) (by omega) (by omega) (by omega)), FC_c hI hF (hc 9 7 (by omega) (by omega) (by omega) (by omega)) (fun c i q => hc c i (by omega) (by omega) (by omega) (by omega)) (fun _ _ => rfl) (fun _ => rfl) (fun _ => rfl)⟩, ?_, ?_, fun i hi => ?_⟩ (fun c i q => hc c i (by omega) (by omega) (by omega) (by omega)))
      · rw [hc 176 51 (by omega) (by omega) (by omega) (by omega)]
        exact h51
      · rw [mm_u_e (by decide), mm_u_e (by decide), mm_u_s, mm_u_s]
      · rw [mm_u_e (by decide), mm_u_e (by decide), mm_u_s, hadd, e0, mm_tI (by omega)] at hi
        rw [z3]
        by_cases hiz : i = z0
        · subst hiz
          rw [mm_u_e (by decide), mm_u_e (by decide), mm_u_e (by decide), mm_u_s, mm_u_e (by decide), mm_u_s]
        · rw [mm_u_o (by omega), mm_u_o (by omega), mm_u_o (by omega), mm_u_o (by omega), mm_u_o (by omega), mm_u_o (by omega), mm_u_o (by omega), mm_u_o (by omega)]
          exact hin i (by rw [e0, mm_tI (by omega)]; omega)
theorem lj_empty {Q' : Int32 → Int32 → mm_P → mm_G → Prop} (hCJ : CJ mi ml) (hQ : ∀ v n m2, CJ n m2 → Q' v v n m2) : mm_cq (mm_call mm_ms (mm_tb L xs) (d + 2)) 157 [mm_R 0] mi ml (fun o n1 n2 => ∃ v, o = some (mm_I v) ∧ mm_cq (mm_call mm_ms (mm_tb L xs) (d + 2)) 212 [mm_R 176] n1 n2 (fun o2 n3 n4 => ∃ v2, o2 = some (mm_I v2) ∧ Q' v v2 n3 n4)) := by
  have hCO := hCJ.1
  obtain ⟨hIC, ⟨NB, ND, NF, hI, hT, hN, hF⟩, h51, h41, hin⟩ := id hCO
  refine sp_X11_empty ⟨_, rfl, sp_empty ⟨_, rfl, ?_⟩⟩
  rw [mm_u_e (by decide), ← h41]
  have hIC' : mm_IC (mm_u mi 160 1 0) := mm_IC_1601 hIC (by rw [mm_tt0]; omega)
  have hc : ∀ c i, ¬ (c = 160 ∧ i = 1) → ¬ (c = 176 ∧ i = 41) → mm_u (mm_u mi 160 1 0) 176 41 0 c i = mi c i := fun c i a b => by rw [mm_u_o b, mm_u_o a]
  refine hQ _ _ _ (CJ_h hCJ ⟨IC_k hIC' (fun c i q => mm_u_e (by omega)), ⟨NB, ND, NF, IM_e hI (fun c i q => hc c i (by omega) (by omega)), TC_c hT (hc 1 1 (by omega) (by omega)) (fun t _ c a b => hc c t (by omega) (by omega)) (fun _ _ => rfl), NC_c hN (hc 3 5 (by omega) (by omega)) (fun c i q => hc c i (by omega) (by omega)), FC_c hI hF (hc 9 7 (by omega) (by omega)) (fun c i q => hc c i (by omega) (by omega)) (fun _ _ => rfl) (fun _ => rfl) (fun _ => rfl)⟩, ?_, ?_, fun i hi => ?_⟩ (fun c i q => hc c i (by omega) (by omega)))
  · rw [hc 176 51 (by omega) (by omega)]
    exact h51
  · rw [mm_u_e (by decide), mm_u_s, mm_u_s]
  · rw [mm_u_e (by decide), mm_u_s, mm_tt0] at hi
    omega
end MMT
