/-! ===== pair(), list(), type() of both ===== -/
section MST
variable {NB : Nat} {m : mm_P} {ml : mm_G}
theorem pr_iff (hD : DN NB m) (h : TC NB m ml) {a b : Nat} (ha : a < NB) (hb : b < NB) : 0 ≤ (f_pr (ml 2 a) (ml 2 b)).toInt ↔ ((m 180 a).toInt ≤ 4 ∧ (m 180 b).toInt ≤ 4) := by
  have ia := (SH_r hD h ha).1
  have ib := (SH_r hD h hb).1
  constructor
  · intro q
    by_cases da : (m 180 a).toInt ≤ 4
    · by_cases db : (m 180 b).toInt ≤ 4
      · exact ⟨da, db⟩
      · rw [f_pr_no ia ib (.inr (SH_5 hD h hb db).1)] at q
        exact absurd q (by decide)
    · rw [f_pr_no ia ib (.inl (SH_5 hD h ha da).1)] at q
      exact absurd q (by decide)
  · rintro ⟨da, db⟩
    have := (f_pr_ok (SH_4 hD h ha da) (SH_4 hD h hb db)).1
    omega
theorem ls_iff (hD : DN NB m) (h : TC NB m ml) {a : Nat} (ha : a < NB) : 0 ≤ (f_ls (ml 2 a)).toInt ↔ (m 180 a).toInt ≤ 4 := by
  constructor
  · intro q
    by_cases da : (m 180 a).toInt ≤ 4
    · exact da
    · rw [f_ls_no (SH_5 hD h ha da)] at q
      exact absurd q (by decide)
  · intro da
    have := (f_ls_ok (SH_4 hD h ha da)).1
    omega
theorem most_iff {x y : Int32} (hx : 1 ≤ x.toInt ∧ x.toInt ≤ 5) (hy : 1 ≤ y.toInt ∧ y.toInt ≤ 5) : 1 + f_most x y ≤ 5 ↔ x.toInt ≤ 4 ∧ y.toInt ≤ 4 := by
  have hm := f_most_r hx hy
  have hc : (f_most x y).toInt = x.toInt ∨ (f_most x y).toInt = y.toInt := by
    unfold f_most
    split
    · exact .inr rfl
    · exact .inl rfl
  rw [Int32.le_iff_toInt_le, mm_1p (by omega) (by omega), mm_tt5]
  constructor
  · intro q
    omega
  · intro q
    rcases hc with e | e <;> omega
theorem CO_nt {ND NF : Nat} {n : mm_P} {p : Int64} (hCO : CO m ml) (hI : IM m NB ND NF) (hT : TC NB m ml) (hN : NC ND m) (hF : FC NF m ml) (hlt : NB < 200) (hw : NW4 NB ND NF (mm_u m 1 1 (nI (NB + 1))) n) (hsh : SHT (NB + 1) n (mm_u ml 2 NB p) NB) (hne : ∀ t, t < NB → ¬ ml 2 t = p) : CO n (mm_u ml 2 NB p) := by
  obtain ⟨hIC, -, h51, h41, hin⟩ := hCO
  obtain ⟨w1, w2, w3⟩ := hw
  have hIC' : mm_IC (mm_u m 1 1 (nI (NB + 1))) := mm_IC_11 hIC (by rw [mm_tI (by omega)]; omega)
  have hc : ∀ c i, ¬ c = 176 → ¬ (177 ≤ c ∧ c ≤ 183 ∧ i = NB) → ¬ c = 184 → ¬ (c = 1 ∧ i = 1) → n c i = m c i := fun c i a b e f => (w3 c i a b e).trans (mm_u_o f)
  have hl : ∀ t, t < NB → mm_u ml 2 NB p 2 t = ml 2 t := fun t ht => mm_u_f (by omega)
  refine ⟨IC_k hIC' w2.1, ⟨NB + 1, ND, NF, w1, TC_add hT ?_ (fun t ht c a b => hc c t (by omega) (by omega) (by omega) (by omega)) hl hsh (fun t ht q => hne t ht ?_), NC_c hN (hc 3 5 (by omega) (by omega) (by omega) (by omega)) (fun c i q => hc c i (by omega) (by omega) (by omega) (by omega)), FC_c hI hF (hc 9 7 (by omega) (by omega) (by omega) (by omega)) (fun c i q => hc c i (by omega) (by omega) (by omega) (by omega)) hl (fun i => mm_u_e (by decide)) (fun i => mm_u_e (by decide))⟩, ?_, ?_, fun i hi => ?_⟩
  · rw [w3 1 1 (by decide) (by omega) (by decide), mm_u_s]
  · rw [q, mm_u_s]
  · rw [w2.2.2, mm_u_e (by decide)]
    exact h51
  · rw [hc 160 1 (by omega) (by omega) (by omega) (by omega), w2.2.1, mm_u_e (by decide)]
    exact h41
  · rw [hc 160 1 (by omega) (by omega) (by omega) (by omega)] at hi
    rw [hc 161 i (by omega) (by omega) (by omega) (by omega), hc 211 i (by omega) (by omega) (by omega) (by omega)]
    exact hin i hi
end MST
section MMT
variable {L : Nat} {xs : Nat → Int32} {d : Nat} {Q : mm_QQ} {mi : mm_P} {ml : mm_G} {lim : Nat × Nat}
theorem lx_pair {x1 x2 : Int32} {Q' : Int32 → Int32 → mm_P → mm_G → Prop} (hCO : CO mi ml) (hQ : ∀ v n m2, CO n m2 → Q' v v n m2) : mm_cq (mm_call mm_ms (mm_tb L xs) (d + 5)) 141 [mm_R 0, mm_I x1, mm_I x2] mi ml (fun o n1 n2 => ∃ v, o = some (mm_I v) ∧ mm_cq (mm_call mm_ms (mm_tb L xs) (d + 5)) 176 [mm_R 176, mm_I x1, mm_I x2] n1 n2 (fun o2 n3 n4 => ∃ v2, o2 = some (mm_I v2) ∧ Q' v v2 n3 n4)) := by
  obtain ⟨hIC, ⟨NB, ND, NF, hI, hT, hN, hF⟩, h51, h41, hin⟩ := id hCO
  have hNB := hI.1.1
  have hD := hI.2.2.2.1
  have n1 : ∀ {P : Prop}, (1 : Int32) = 0 → P := fun z => absurd z (by decide)
  have n0 : ∀ {P : Prop}, ¬ (0 : Int32) = 0 → P := fun z => absurd rfl z
  have hd : ∀ t, t < NB → 1 ≤ (mi 180 t).toInt ∧ (mi 180 t).toInt ≤ 5 := fun t ht => (hD t ht).1
  -- the model's pair() of two types
  have hmod : ∀ (w : mm_P) (wl : mm_G) (Q2 : mm_QQ) (a b : Nat), IM w NB ND NF → a < NB → b < NB → mm_cq (mm_call mm_ms (mm_tb L xs) (d + 4)) 175 [mm_R 176, mm_I 4, mm_I (nI a), mm_I (nI b)] w wl Q2 → (∀ o n m2, Q2 o n m2 → ∃ v, o = some (mm_I v)) → mm_cq (mm_call mm_ms (mm_tb L xs) (d + 5)) 176 [mm_R 176, mm_I (nI a), mm_I (nI b)] w wl Q2 := fun w wl Q2 a b hIw ha hb hq ho => by
    refine en_X12_pair (bk_X12_pair_0 (mm_call_m _) (sp_typ hIw (fun t t1 t2 => bk_X12_pair_5 (s0 := 1) (mm_call_m _) n1 (fun _ => sp_typ hIw (fun u u1 u2 => bk_X12_pair_13 (s0 := 1) (mm_call_m _) n1 (fun _ => mm_cq_m (mm_call_m _) hq (fun o n m2 z => ?_))) (fun q => absurd rfl (q b hb)))) (fun q => absurd rfl (q a ha))))
    obtain ⟨v, rfl⟩ := ho o n m2 z
    exact bk_X12_pair_23 (mm_call_m _) z
  refine sx_X11_pair hT hNB.2 (fun hbad => ⟨-2, rfl, ?_⟩) (fun a b ha hb e1 e2 hp => ⟨-3, rfl, ?_⟩) (fun a b t ha hb e1 e2 ht hp he => ⟨nI t, rfl, ?_⟩) (fun a b ha hb e1 e2 hp hno hfull => ⟨-4, rfl, ?_⟩) (fun a b ha hb e1 e2 hp hno hlt => ⟨nI NB, rfl, ?_⟩)
  · have h26 : mm_WQ (mm_call mm_ms (mm_tb L xs) (d + 4)) (mm_tb L xs) mm_m176 (mm_li mm_m176) (fun o2 n3 n4 => ∃ v2, o2 = some (mm_I v2) ∧ Q' (-2) v2 n3 n4) 26 [some (mm_R 176), some (mm_I x1), some (mm_I x2)] [] mi ml := bk_X12_pair_26 (mm_call_m _) ⟨-2, rfl, hQ _ _ _ hCO⟩
    refine en_X12_pair (bk_X12_pair_0 (mm_call_m _) (sp_typ hI (fun t t1 t2 => bk_X12_pair_5 (s0 := 1) (mm_call_m _) n1 (fun _ => sp_typ hI (fun u u1 u2 => absurd ⟨t, u, t1, u1, t2, u2⟩ hbad) (fun _ => bk_X12_pair_13 (s0 := 0) (mm_call_m _) (fun _ => h26) n0))) (fun _ => bk_X12_pair_5 (s0 := 0) (mm_call_m _) (fun _ => h26) n0)))
  · subst e1 e2
    have hdeep : ¬ 1 + f_most (mi 180 a) (mi 180 b) ≤ 5 := fun q => by
      have := (pr_iff hD hT ha hb).mpr ((most_iff (hd a ha) (hd b hb)).mp q)
      omega
    refine hmod mi ml _ a b hI ha hb (sx_numbers4 hI ha hb (fun n t g1 g2 g3 g4 g5 => ?_) (fun n g1 _ _ => ⟨_, rfl, hQ _ _ _ (CO_p hCO g1)⟩) (fun n g1 _ g3 _ => absurd g3 hdeep) (fun n g1 _ _ g3 _ => absurd g3 hdeep)) (fun o n m2 z => z.imp (fun v q => q.1))
    exfalso
    rcases hT.2.1 t g2 with ⟨q1, -⟩ | ⟨a', q1, q2, q3, -⟩ | ⟨a', b', q1, q2, q3, q4, q5, -⟩
    · exact absurd g3 (bs_45 q1).1
    · have := q3.1
      rw [g3] at this
      exact absurd this (by decide)
    · have f1 : a' = a := nI_ij (by omega) (by omega) (q5.2.1.symm.trans g4)
      have f2 : b' = b := nI_ij (by omega) (by omega) (q5.2.2.1.symm.trans g5)
      subst f1 f2
      refine hdeep ?_
      rw [← q5.2.2.2.1, Int32.le_iff_toInt_le, mm_tt5]
      exact (hd t g2).2
  · subst e1 e2
    obtain ⟨da, db⟩ := (pr_iff hD hT ha hb).mp hp
    have ht3 := (SH_p4 hD hT hNB.2 ht ha hb da db).mp he
    refine hmod mi ml _ a b hI ha hb (sx_numbers4 hI ha hb (fun n u g1 g2 g3 g4 g5 => ?_) (fun n g1 g2 _ => absurd ht3 (g2 t ht)) (fun n g1 g2 g3 _ => absurd ht3 (g2 t ht)) (fun n g1 _ g2 g3 _ => absurd ht3 (g2 t ht))) (fun o n m2 z => z.imp (fun v q => q.1))
    have hu := (SH_p4 hD hT hNB.2 g2 ha hb da db).mpr ⟨g3, g4, g5⟩
    have e : u = t := hT.2.2 u t g2 ht (hu.trans he.symm)
    subst e
    exact ⟨_, rfl, hQ _ _ _ (CO_p hCO g1)⟩
  · subst e1 e2
    obtain ⟨da, db⟩ := (pr_iff hD hT ha hb).mp hp
    have hnone : ∀ t, t < NB → ¬ (mi 177 t = 4 ∧ mi 178 t = nI a ∧ mi 179 t = nI b) := fun t ht q => hno t ht ((SH_p4 hD hT hNB.2 ht ha hb da db).mpr q)
    exact hmod mi ml _ a b hI ha hb (sx_numbers4 hI ha hb (fun n u g1 g2 g3 g4 g5 => absurd ⟨g3, g4, g5⟩ (hnone u g2)) (fun n g1 g2 g3 => absurd ((most_iff (hd a ha) (hd b hb)).mpr ⟨da, db⟩) g3) (fun n g1 g2 g3 _ => ⟨_, rfl, hQ _ _ _ (CO_p hCO g1)⟩) (fun n g1 _ g2 g3 g4 => by omega)) (fun o n m2 z => z.imp (fun v q => q.1))
  · subst e1 e2
    obtain ⟨da, db⟩ := (pr_iff hD hT ha hb).mp hp
    have hnone : ∀ t, t < NB → ¬ (mi 177 t = 4 ∧ mi 178 t = nI a ∧ mi 179 t = nI b) := fun t ht q => hno t ht ((SH_p4 hD hT hNB.2 ht ha hb da db).mpr q)
    have hc : ∀ c i, ¬ c = 1 → mm_u mi 1 1 (nI (NB + 1)) c i = mi c i := fun c i q => mm_u_e q
    have hI1 : IM (mm_u mi 1 1 (nI (NB + 1))) NB ND NF := IM_h hI (fun c i q => hc c i (by omega))
    refine hmod _ _ _ a b hI1 ha hb (sx_numbers4 hI1 ha hb (fun n u g1 g2 g3 g4 g5 => ?_) (fun n g1 g2 g3 => ?_) (fun n g1 g2 g3 _ => by omega) (fun n g1 g5 g2 g3 g4 => ⟨_, rfl, hQ _ _ _ (CO_nt hCO hI hT hN hF hlt g1 (.inr (.inr ⟨a, b, ha, by omega, hb, by omega, g5, ?_⟩)) hno)⟩)) (fun o n m2 z => z.imp (fun v q => q.1))
    · rw [hc _ _ (by decide)] at g3 g4 g5
      exact absurd ⟨g3, g4, g5⟩ (hnone u g2)
    · rw [hc _ _ (by decide), hc _ _ (by decide)] at g3
      exact absurd ((most_iff (hd a ha) (hd b hb)).mpr ⟨da, db⟩) g3
    · rw [mm_u_s, mm_u_f (by omega), mm_u_f (by omega)]
theorem lx_list {x1 : Int32} {Q' : Int32 → Int32 → mm_P → mm_G → Prop} (hCO : CO mi ml) (hQ : ∀ v n m2, CO n m2 → Q' v v n m2) : mm_cq (mm_call mm_ms (mm_tb L xs) (d + 5)) 142 [mm_R 0, mm_I x1] mi ml (fun o n1 n2 => ∃ v, o = some (mm_I v) ∧ mm_cq (mm_call mm_ms (mm_tb L xs) (d + 5)) 177 [mm_R 176, mm_I x1] n1 n2 (fun o2 n3 n4 => ∃ v2, o2 = some (mm_I v2) ∧ Q' v v2 n3 n4)) := by
  obtain ⟨hIC, ⟨NB, ND, NF, hI, hT, hN, hF⟩, h51, h41, hin⟩ := id hCO
  have hNB := hI.1.1
  have hD := hI.2.2.2.1
  have n1 : ∀ {P : Prop}, (1 : Int32) = 0 → P := fun z => absurd z (by decide)
  have n0 : ∀ {P : Prop}, ¬ (0 : Int32) = 0 → P := fun z => absurd rfl z
  have hd : ∀ t, t < NB → 1 ≤ (mi 180 t).toInt ∧ (mi 180 t).toInt ≤ 5 := fun t ht => (hD t ht).1
  have hdi : ∀ t, t < NB → (1 + mi 180 t ≤ 5 ↔ (mi 180 t).toInt ≤ 4) := fun t ht => by
    have := hd t ht
    rw [Int32.le_iff_toInt_le, mm_1p (by omega) (by omega), mm_tt5]
    omega
  have hmod : ∀ (w : mm_P) (wl : mm_G) (Q2 : mm_QQ) (a : Nat), IM w NB ND NF → a < NB → mm_cq (mm_call mm_ms (mm_tb L xs) (d + 4)) 175 [mm_R 176, mm_I 5, mm_I (nI a), mm_I (-1)] w wl Q2 → (∀ o n m2, Q2 o n m2 → ∃ v, o = some (mm_I v)) → mm_cq (mm_call mm_ms (mm_tb L xs) (d + 5)) 177 [mm_R 176, mm_I (nI a)] w wl Q2 := fun w wl Q2 a hIw ha hq ho => by
    refine en_X12_list (bk_X12_list_0 (mm_call_m _) (sp_typ hIw (fun t t1 t2 => bk_X12_list_5 (s0 := 1) (mm_call_m _) n1 (fun _ => mm_cq_m (mm_call_m _) hq (fun o n m2 z => ?_))) (fun q => absurd rfl (q a ha))))
    obtain ⟨v, rfl⟩ := ho o n m2 z
    exact bk_X12_list_15 (mm_call_m _) z
  refine sx_X11_list hT hNB.2 (fun hbad => ⟨-2, rfl, ?_⟩) (fun a ha e1 hp => ⟨-3, rfl, ?_⟩) (fun a t ha e1 ht hp he => ⟨nI t, rfl, ?_⟩) (fun a ha e1 hp hno hfull => ⟨-4, rfl, ?_⟩) (fun a ha e1 hp hno hlt => ⟨nI NB, rfl, ?_⟩)
  · exact en_X12_list (bk_X12_list_0 (mm_call_m _) (sp_typ hI (fun t t1 t2 => absurd ⟨t, t1, t2⟩ hbad) (fun _ => bk_X12_list_5 (s0 := 0) (mm_call_m _) (fun _ => ⟨-2, rfl, hQ _ _ _ hCO⟩) n0)))
  · subst e1
    have hdeep : ¬ 1 + mi 180 a ≤ 5 := fun q => by
      have := (ls_iff hD hT ha).mpr ((hdi a ha).mp q)
      omega
    refine hmod mi ml _ a hI ha (sx_numbers5 hI ha (fun n t g1 g2 g3 g4 g5 => ?_) (fun n g1 _ _ => ⟨_, rfl, hQ _ _ _ (CO_p hCO g1)⟩) (fun n g1 _ g3 _ => absurd g3 hdeep) (fun n g1 _ _ g3 _ => absurd g3 hdeep)) (fun o n m2 z => z.imp (fun v q => q.1))
    exfalso
    rcases hT.2.1 t g2 with ⟨q1, -⟩ | ⟨a', q1, q2, q3, -⟩ | ⟨a', b', q1, q2, q3, q4, q5, -⟩
    · exact absurd g3 (bs_45 q1).2
    · have f1 : a' = a := nI_ij (by omega) (by omega) (q3.2.1.symm.trans g4)
      subst f1
      refine hdeep ?_
      rw [← q3.2.2.2.1, Int32.le_iff_toInt_le, mm_tt5]
      exact (hd t g2).2
    · have := q5.1
      rw [g3] at this
      exact absurd this (by decide)
  · subst e1
    have da := (ls_iff hD hT ha).mp hp
    have ht3 := (SH_p5 hD hT hNB.2 ht ha da).mp he
    refine hmod mi ml _ a hI ha (sx_numbers5 hI ha (fun n u g1 g2 g3 g4 g5 => ?_) (fun n g1 g2 _ => absurd ht3 (g2 t ht)) (fun n g1 g2 g3 _ => absurd ht3 (g2 t ht)) (fun n g1 _ g2 g3 _ => absurd ht3 (g2 t ht))) (fun o n m2 z => z.imp (fun v q => q.1))
    have hu := (SH_p5 hD hT hNB.2 g2 ha da).mpr ⟨g3, g4, g5⟩
    have e : u = t := hT.2.2 u t g2 ht (hu.trans he.symm)
    subst e
    exact ⟨_, rfl, hQ _ _ _ (CO_p hCO g1)⟩
  · subst e1
    have da := (ls_iff hD hT ha).mp hp
    have hnone : ∀ t, t < NB → ¬ (mi 177 t = 5 ∧ mi 178 t = nI a ∧ mi 179 t = -1) := fun t ht q => hno t ht ((SH_p5 hD hT hNB.2 ht ha da).mpr q)
    exact hmod mi ml _ a hI ha (sx_numbers5 hI ha (fun n u g1 g2 g3 g4 g5 => absurd ⟨g3, g4, g5⟩ (hnone u g2)) (fun n g1 g2 g3 => absurd ((hdi a ha).mpr da) g3) (fun n g1 g2 g3 _ => ⟨_, rfl, hQ _ _ _ (CO_p hCO g1)⟩) (fun n g1 _ g2 g3 g4 => by omega)) (fun o n m2 z => z.imp (fun v q => q.1))
  · subst e1
    have da := (ls_iff hD hT ha).mp hp
    have hnone : ∀ t, t < NB → ¬ (mi 177 t = 5 ∧ mi 178 t = nI a ∧ mi 179 t = -1) := fun t ht q => hno t ht ((SH_p5 hD hT hNB.2 ht ha da).mpr q)
    have hc : ∀ c i, ¬ c = 1 → mm_u mi 1 1 (nI (NB + 1)) c i = mi c i := fun c i q => mm_u_e q
    have hI1 : IM (mm_u mi 1 1 (nI (NB + 1))) NB ND NF := IM_h hI (fun c i q => hc c i (by omega))
    refine hmod _ _ _ a hI1 ha (sx_numbers5 hI1 ha (fun n u g1 g2 g3 g4 g5 => ?_) (fun n g1 g2 g3 => ?_) (fun n g1 g2 g3 _ => by omega) (fun n g1 g5 g2 g3 g4 => ⟨_, rfl, hQ _ _ _ (CO_nt hCO hI hT hN hF hlt g1 (.inr (.inl ⟨a, ha, by omega, g5, ?_⟩)) hno)⟩)) (fun o n m2 z => z.imp (fun v q => q.1))
    · rw [hc _ _ (by decide)] at g3 g4 g5
      exact absurd ⟨g3, g4, g5⟩ (hnone u g2)
    · rw [hc _ _ (by decide)] at g3
      exact absurd ((hdi a ha).mpr da) g3
    · rw [mm_u_s, mm_u_f (by omega)]
theorem lx_type {x1 x2 : Int32} {Q' : Int32 → Int32 → mm_P → mm_G → Prop} (hCO : CO mi ml) (hQ : ∀ v n m2, CO n m2 → Q' v v n m2) : mm_cq (mm_call mm_ms (mm_tb L xs) (d + 12)) 143 [mm_R 0, mm_I x1, mm_I x2] mi ml (fun o n1 n2 => ∃ v, o = some (mm_I v) ∧ mm_cq (mm_call mm_ms (mm_tb L xs) (d + 12)) 179 [mm_R 176, mm_I x1, mm_I x2] n1 n2 (fun o2 n3 n4 => ∃ v2, o2 = some (mm_I v2) ∧ Q' v v2 n3 n4)) := by
  obtain ⟨hIC, ⟨NB, ND, NF, hI, hT, hN, hF⟩, h51, h41, hin⟩ := id hCO
  have hNB := hI.1.1
  have hD := hI.2.2.2.1
  have n1 : ∀ {P : Prop}, (1 : Int32) = 0 → P := fun z => absurd z (by decide)
  have n0 : ∀ {P : Prop}, ¬ (0 : Int32) = 0 → P := fun z => absurd rfl z
  refine sx_X11_type hD hT hNB.2 (fun t t1 t2 => ⟨_, rfl, ?_⟩) (fun hno => ⟨-2, rfl, ?_⟩)
  · subst t2
    have h26 : ¬ (0 ≤ x2.toInt ∧ x2.toInt ≤ 5) → mm_WQ (mm_call mm_ms (mm_tb L xs) (d + 11)) (mm_tb L xs) mm_m179 (mm_li mm_m179) (fun o2 n3 n4 => ∃ v2, o2 = some (mm_I v2) ∧ Q' (f_fact mi t x2) v2 n3 n4) 26 [some (mm_R 176), some (mm_I (nI t)), some (mm_I x2)] [] mi ml := fun z => by
      have e : f_fact mi t x2 = -2 := by
        have hne : ∀ k : Int32, 0 ≤ k.toInt → k.toInt ≤ 5 → ¬ x2 = k := fun k a b q => z (by rw [q]; exact ⟨a, b⟩)
        unfold f_fact
        rw [if_neg (hne 0 (by decide) (by decide)), if_neg (hne 1 (by decide) (by decide)), if_neg (hne 2 (by decide) (by decide)), if_neg (hne 3 (by decide) (by decide)), if_neg (hne 4 (by decide) (by decide)), if_neg (hne 5 (by decide) (by decide))]
      refine bk_X12_type_26 (mm_call_m _) ⟨-2, rfl, ?_⟩
      rw [e]
      exact hQ _ _ _ hCO
    refine en_X12_type (bk_X12_type_0 (mm_call_m _) (sp_typ hI (fun u u1 u2 => bk_X12_type_5 (s0 := 1) (mm_call_m _) n1 (fun _ => sp_in (fun a b => bk_X12_type_14 (s0 := 1) (mm_call_m _) n1 (fun _ => ?_)) (fun a => bk_X12_type_14 (s0 := 0) (mm_call_m _) (fun _ => h26 a) n0))) (fun q => absurd rfl (q t t1))))
    exact sx_typeOf hD t1 hNB.2 rfl ⟨a, b⟩ (bk_X12_type_23 (mm_call_m _) ⟨_, rfl, hQ _ _ _ hCO⟩)
  · exact en_X12_type (bk_X12_type_0 (mm_call_m _) (sp_typ hI (fun u u1 u2 => absurd u2 (hno u u1)) (fun _ => bk_X12_type_5 (s0 := 0) (mm_call_m _) (fun _ => bk_X12_type_26 (mm_call_m _) ⟨-2, rfl, hQ _ _ _ hCO⟩) n0)))
end MMT
