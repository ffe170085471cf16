/-! ===== copies of the model: the types of nodes, and how deep they become ===== -/
section MTS
variable {NB ND NF TY : Nat} {m w : mm_P} {ml : mm_G} {f b n p : Nat}
/-- nodes under a typed one are typed -/
theorem typed_BL {S : Nat → Int64} (hX : XS NB ND NF S m ml f) (hN : NC ND m) (hb : b < ND) (hS : ¬ S b = -1) (h : BL m b n) : ¬ S n = -1 := by
  obtain ⟨hI, hT, hf, hSF⟩ := hX
  have hND := hI.1.2.1
  obtain ⟨k, h⟩ := h
  refine blw_P hI hN (P := fun n => ¬ S n = -1) (fun j hj hSj i i0 i1 q => hSj ?_) k b hb hS h
  have hp := f_parts_in (m 188 j)
  have hp3 : (f_parts (m 188 j)).toInt ≤ 3 := by rcases hp with hp | hp | hp | hp <;> (rw [hp]; decide)
  have hs : psh S m j i = -1 := (psh_1 i1).trans q
  rw [hSF j hj]
  refine FSH_n (hI.2.2.2.2.1 j hj).1 ?_
  obtain ⟨e, ee, e1, e2, -⟩ := mm_of i0 (show i.toInt < 3 by omega)
  have he : (nI e).toInt = e := mm_tI (by omega)
  rw [ee] at i1 hs
  rcases (show e = 0 ∨ e = 1 ∨ e = 2 by omega) with rfl | rfl | rfl
  · exact .inl ⟨by omega, hs⟩
  · exact .inr (.inl ⟨by omega, hs⟩)
  · exact .inr (.inr ⟨by omega, hs⟩)
/-- a function of a right program -/
theorem UR_S (hI : IM m NB ND NF) (hT : TC NB m ml) (hF : FC NF m ml) (hV2 : ¬ V2 m) (hV3 : ¬ V3 m ml) (hf : f < 12) (hU : UR m f) : f < NF ∧ ∃ b, b < ND ∧ m 15 f = nI b ∧ m 197 f = nI b ∧ ¬ ml (19 + f) b = -1 := by
  have hNB := hI.1.1
  have hND := hI.1.2.1
  have hNF := hI.1.2.2
  have e97 : (m 9 7).toInt = NF := by rw [hF.1]; exact mm_tI (by omega)
  have hfN : f < NF := by
    by_cases c : f < NF
    · exact c
    · exact absurd ⟨f, hf, hU, .inl (by omega)⟩ hV2
  have h15 := (hF.2 f hfN).2.2.2.1
  obtain ⟨b, b1, b2⟩ := (hI.2.2.2.2.2.1 f hfN).2.2.2.resolve_left (fun y => hV2 ⟨f, hf, hU, .inr (h15.trans y)⟩)
  refine ⟨hfN, b, b1, h15.trans b2, b2, fun q => ?_⟩
  obtain ⟨t, t1, t2, -⟩ := (hI.2.2.2.2.2.1 f hfN).2.2.1
  have hr : ml (19 + f) b = ml 14 f := by
    by_cases c : ml (19 + f) b = ml 14 f
    · exact c
    · exact absurd ⟨f, b, hf, hU, by omega, by omega, h15.trans b2, c⟩ hV3
  have h14 := (hF.2 f hfN).2.2.2.2.2
  rw [q, h14, t2, nI_clamp (by omega)] at hr
  have := (SH_r hI.2.2.2.1 hT t1).1.1
  rw [← hr, mm_lln] at this
  omega
/-- a call of a typed node -/
theorem call_K {S : Nat → Int64} (hX : XS NB ND NF S m ml f) (hn : n < ND) (hk : m 188 n = 14) (hS : ¬ S n = -1) : ∃ g, g < NF ∧ m 189 n = nI g ∧ m 194 g = nlt m n ∧ (m 191 n = -1 ∨ ∃ t, t < NB ∧ m 191 n = nI t ∧ wthn m t (m 194 f)) ∧ (m 192 n = -1 ∨ ∃ t, t < NB ∧ m 192 n = nI t ∧ wthn m t (m 194 f)) := by
  obtain ⟨hI, hT, hf, hSF⟩ := hX
  have hNB := hI.1.1
  have hK : CSK NF m ml f n (psh S m n 0) := by
    refine Classical.byContradiction fun q => hS ?_
    rw [hSF n hn, FSH_14 hk]
    unfold CSH
    rw [pik_f q]
  obtain ⟨d1, d2, d3, d4, -⟩ := (hI.2.2.2.2.1 n hn).2.2.2.2 hk
  obtain ⟨g, eg, g1, g2, g3⟩ := mm_of d1.1 hK.1.1
  have hl := hK.1.2
  rw [g3] at hl
  refine ⟨g, by omega, eg, hl, ?_, ?_⟩
  · rcases d3 with q | ⟨t, t1, t2⟩
    · exact .inl q
    · have := hK.2.1.1.resolve_left (fun y => nI_ne (t := t) (by omega) (t2.symm.trans y))
      rw [t2, nI_clamp (by omega)] at this
      exact .inr ⟨t, t1, t2, this⟩
  · rcases d4 with q | ⟨t, t1, t2⟩
    · exact .inl q
    · have := hK.2.1.2.resolve_left (fun y => nI_ne (t := t) (by omega) (t2.symm.trans y))
      rw [t2, nI_clamp (by omega)] at this
      exact .inr ⟨t, t1, t2, this⟩
end MTS
/-- what the model keeps of the type of node n in f -/
def NRX (m : mm_P) (ml : mm_G) (w : mm_P) (f n : Nat) : Prop := ml (19 + f) n = -1 ∨ (CNS (ml (19 + f) n) ∧ (w 201 (200 * f + n)).toInt = dpn (ml (19 + f) n) ∧ (w 202 (200 * f + n)).toInt = k_gl 2 7 (ml (19 + f) n) ∧ (w 203 (200 * f + n)).toInt = k_gl 3 7 (ml (19 + f) n) ∧ (0 < k_gl 2 7 (ml (19 + f) n) → 0 < (m 194 f).toInt) ∧ (0 < k_gl 3 7 (ml (19 + f) n) → 1 < (m 194 f).toInt))
def NRQ (ND : Nat) (m : mm_P) (ml : mm_G) (w : mm_P) (f n : Nat) : Prop := ∀ a, a < 12 → UR m a → ∀ b, b < ND → (a < f ∨ (a = f ∧ b < n)) → NRX m ml w a b
theorem NRX_c {m w w' : mm_P} {ml : mm_G} {f n : Nat} (h : NRX m ml w f n) (h1 : w' 201 (200 * f + n) = w 201 (200 * f + n)) (h2 : w' 202 (200 * f + n) = w 202 (200 * f + n)) (h3 : w' 203 (200 * f + n) = w 203 (200 * f + n)) : NRX m ml w' f n := by
  unfold NRX
  rw [h1, h2, h3]
  exact h
/-- what the program uses stands in the table -/
def RTB (m w : mm_P) : Prop := ∀ f, f < 12 → UR m f → used w f
theorem RTB_c {m w w' : mm_P} (h : RTB m w) (h2 : ∀ i, w' 200 i = w 200 i) : RTB m w' := fun f hf hu => (used_c h2).mpr (h f hf hu)
section MMT
variable {L : Nat} {xs : Nat → Int32} {d : Nat} {Q : mm_QQ} {mi : mm_P} {ml : mm_G} {lim : Nat × Nat} {NB ND NF : Nat}
theorem cx_35 {f : Nat} {m w1 : mm_P} (hI : IM w1 NB ND NF) (hf : f < NF) (hty : ∀ n, n < ND → (w1 198 n = -1 ∧ ml (19 + f) n = -1) ∨ ∃ r, w1 198 n = nI r ∧ r < 8000 ∧ TF w1 r ∧ SHV w1 r = ml (19 + f) n ∧ wthn w1 r (m 194 f)) (hK : ∀ w x2 x3, F3 w1 w → NRQ ND m ml w f ND → mm_WQ (mm_call mm_ms (mm_tb L xs) d) (mm_tb L xs) mm_m208 lim Q 137 [some (mm_R 176), some (mm_I (nI f)), some (mm_I x2), x3] [] w ml) : ∀ (j n : Nat) (w : mm_P) {x3 : Option mm_V}, n + j = ND → F3 w1 w → NRQ ND m ml w f n → mm_WQ (mm_call mm_ms (mm_tb L xs) d) (mm_tb L xs) mm_m208 lim Q 35 [some (mm_R 176), some (mm_I (nI f)), some (mm_I (nI n)), x3] [] w ml := by
  have hND := hI.1.2.1
  have hNF := hI.1.2.2
  intro j
  induction j with
  | zero =>
    intro n w x3 h hM hR
    have hn : n = ND := by omega
    subst hn
    have hle : w 176 13 ≤ nI n := by rw [(IM_c hI (PR_f3 hM)).2.1.2.1]; exact Int32.le_refl _
    have hn' : ∀ {P : Prop}, ¬ w 176 13 ≤ nI n → P := fun z => absurd hle z
    exact bk_X12_findCopies_35 (mm_call_m _) (fun _ => hK w _ _ hM hR) (fun z => hn' z) (fun z => hn' z) (fun z => hn' z) (fun z => hn' z) (fun z => hn' z) (fun z => hn' z) (fun z => hn' z) (fun z => hn' z) (fun z => hn' z) (fun z => hn' z) (fun z => hn' z) (fun z => hn' z) (fun z => hn' z) (fun z => hn' z) (fun z => hn' z) (fun z => hn' z) (fun z => hn' z) (fun z => hn' z) (fun z => hn' z) (fun z => hn' z) (fun z => hn' z) (fun z => hn' z) (fun z => hn' z) (fun z => hn' z) (fun z => hn' z) (fun z => hn' z) (fun z => hn' z) (fun z => hn' z) (fun z => hn' z) (fun z => hn' z)
  | succ j ih =>
    intro n w x3 h hM hR
    have hlt : ¬ w 176 13 ≤ nI n := by
      rw [Int32.le_iff_toInt_le, (ix (IM_c hI (PR_f3 hM))).1, mm_tI (by omega)]
      omega
    have vn : vp_in (nI n) 200 := vp_in_nI (by omega) (by decide)
    have en : (nI n).toNatClampNeg = n := nI_clamp (by omega)
    have v24 : vp_in (200 * nI f + nI n) 2400 := by
      rw [rx2 (by omega) (by omega)]
      exact vp_in_nI (by omega) (by decide)
    have e24 : (200 * nI f + nI n).toNatClampNeg = 200 * f + n := by
      rw [rx2 (by omega) (by omega)]
      exact nI_clamp (by omega)
    have hst : ∀ (A B C' : Int32) {x3 : Option mm_V}, NRX m ml (mm_u (mm_u (mm_u w 201 (200 * f + n) A) 202 (200 * f + n) B) 203 (200 * f + n) C') f n → mm_WQ (mm_call mm_ms (mm_tb L xs) d) (mm_tb L xs) mm_m208 lim Q 35 [some (mm_R 176), some (mm_I (nI f)), some (mm_I (nI n + 1)), x3] [] (mm_u (mm_u (mm_u w 201 (200 * f + n) A) 202 (200 * f + n) B) 203 (200 * f + n) C') ml := by
      intro A B C' x3 hN
      rw [show nI n + 1 = nI (n + 1) from (nI_succ n).symm]
      refine ih (n + 1) _ (by omega) (F3_u (F3_u (F3_u hM (by decide) (by decide)) (by decide) (by decide)) (by decide) (by decide)) (fun a a1 a2 b b1 b2 => ?_)
      by_cases hab : a = f ∧ b = n
      · obtain ⟨rfl, rfl⟩ := hab
        exact hN
      · refine NRX_c (hR a a1 a2 b b1 (by omega)) ?_ ?_ ?_
        · rw [mm_u_e (by decide), mm_u_e (by decide), mm_u_f (by omega)]
        · rw [mm_u_e (by decide), mm_u_f (by omega), mm_u_e (by decide)]
        · rw [mm_u_f (by omega), mm_u_e (by decide), mm_u_e (by decide)]
    have e198 : w 198 n = w1 198 n := hM 198 n (by omega)
    have hty' : ¬ w 198 n = -1 → ∃ r, w 198 n = nI r ∧ r < 8000 ∧ TF w1 r ∧ SHV w1 r = ml (19 + f) n ∧ wthn w1 r (m 194 f) := fun z => by
      rcases hty n (by omega) with q | ⟨r, q1, q2⟩
      · exact absurd (e198.trans q.1) z
      · exact ⟨r, e198.trans q1, q2⟩
    have hvt : ¬ w 198 n = -1 → vp_in (w 198 n) 8000 := fun z => by
      obtain ⟨r, r1, r2, -⟩ := hty' z
      rw [r1]
      exact vp_in_nI r2 (by decide)
    refine bk_X12_findCopies_35 (mm_call_m _) (fun z => absurd z hlt) (fun _ => vn) (fun _ z => ?_) (fun _ _ => v24) (fun _ z _ => ?_) (fun _ _ _ => v24) (fun _ z _ _ => ?_) (fun _ _ _ _ => v24) (fun _ z _ _ => ?_) (fun _ _ _ _ => v24) (fun _ z _ y => absurd y z) (fun _ _ _ => v24) (fun _ z y _ => absurd y z) (fun _ _ _ _ => v24) (fun _ z y _ => absurd y z) (fun _ _ _ _ => v24) (fun _ z y _ => absurd y z) (fun _ _ => v24) (fun _ y z => absurd y z) (fun _ _ _ => v24) (fun _ y z _ => absurd y z) (fun _ _ _ _ => v24) (fun _ y z _ => absurd y z) (fun _ _ _ _ => v24) (fun _ y z _ => absurd y z) (fun _ _ _ => v24) (fun _ y _ z => absurd y z) (fun _ _ _ _ => v24) (fun _ y _ z => absurd y z) (fun _ _ _ _ => v24) (fun _ z _ _ => ?_)
    · rw [en] at z ⊢; exact hvt z
    · rw [en] at z ⊢; exact hvt z
    · rw [en] at z ⊢; exact hvt z
    · rw [en] at z ⊢
      rw [e24]
      obtain ⟨r, r1, r2, r3, r4, r5⟩ := hty' z
      rw [r1, nI_clamp (by omega)]
      refine hst _ _ _ (.inr ?_)
      obtain ⟨c1, c2, c3, c4, c5⟩ := r3
      rw [r4] at c1 c2 c5
      have hd := dpn_r (CNS_V c1)
      obtain ⟨g2, g3⟩ := c5 7 (by omega)
      rw [mm_u_e (by decide), mm_u_e (by decide), mm_u_s, mm_u_e (by decide), mm_u_s, mm_u_s, hM 180 r (by omega), hM 181 r (by omega), hM 182 r (by omega)]
      refine ⟨c1, c2, by omega, by omega, fun q => ?_, fun q => ?_⟩
      · exact r5.1.resolve_left (fun y => by rw [y, mm_tt0] at g2; omega)
      · exact r5.2.resolve_left (fun y => by rw [y, mm_tt0] at g3; omega)
    · rw [en] at z
      rw [e24]
      refine hst _ _ _ (.inl ?_)
      rcases hty n (by omega) with q | ⟨r, q1, q2, -⟩
      · exact q.2
      · rw [e198, q1] at z
        exact absurd z (nI_ne (by omega))
theorem cx_12 {m : mm_P} (hCJ : CJ m ml) (hI : IM m NB ND NF) (hK : ∀ w x1 x2 x3, PR m w → RTB m w → NRQ ND m ml w NF 0 → mm_cq (mm_call mm_ms (mm_tb L xs) (d + 8)) 167 [mm_R 176] w ml (fun o n1 n2 => mm_WQ (mm_call mm_ms (mm_tb L xs) (d + 8)) (mm_tb L xs) mm_m208 lim Q 147 [some (mm_R 176), some (mm_I x1), x2, x3] (o.toList ++ []) n1 n2)) : ∀ (j f : Nat) (w : mm_P) {x2 x3 : Option mm_V}, f + j = NF → PR m w → RTB m w → NRQ ND m ml w f 0 → mm_WQ (mm_call mm_ms (mm_tb L xs) (d + 8)) (mm_tb L xs) mm_m208 lim Q 12 [some (mm_R 176), some (mm_I (nI f)), x2, x3] [] w ml := by
  have hNB := hI.1.1
  have hND := hI.1.2.1
  have hNF := hI.1.2.2
  intro j
  induction j with
  | zero =>
    intro f w x2 x3 h hp h2 hR
    have hf : f = NF := by omega
    subst hf
    have hle : w 176 20 ≤ nI f := by rw [(IM_c hI hp).2.1.2.2]; exact Int32.le_refl _
    exact bk_X12_findCopies_12 (mm_call_m _) (fun _ => hK w _ _ _ hp h2 hR) (fun z => absurd hle z)
  | succ j ih =>
    intro f w x2 x3 h hp h2 hR
    have hf : f < NF := by omega
    have hIw := IM_c hI hp
    have hlt : ¬ w 176 20 ≤ nI f := by
      rw [Int32.le_iff_toInt_le, (ix hIw).2, mm_tI (by omega)]
      omega
    have h137 : ∀ (w : mm_P) {x2 x3 : Option mm_V}, PR m w → RTB m w → NRQ ND m ml w (f + 1) 0 → mm_WQ (mm_call mm_ms (mm_tb L xs) (d + 8)) (mm_tb L xs) mm_m208 lim Q 137 [some (mm_R 176), some (mm_I (nI f)), x2, x3] [] w ml := fun w x2 x3 a b c => by
      refine bk_X12_findCopies_137 (mm_call_m _) ?_
      rw [show nI f + 1 = nI (f + 1) from (nI_succ f).symm]
      exact ih (f + 1) w (by omega) a b c
    refine bk_X12_findCopies_12 (mm_call_m _) (fun z => absurd z hlt) (fun _ => sp_isUsed (by omega) (fun hu => bk_X12_findCopies_25 (s0 := 1) (mm_call_m _) (fun z => absurd z (by decide)) (fun _ => ?_)) (fun hu => bk_X12_findCopies_25 (s0 := 0) (mm_call_m _) (fun _ => h137 w hp h2 (fun a a1 a2 b b1 b2 => ?_)) (fun z => absurd rfl z)))
    · have hCJw := CJ_p hCJ hp
      obtain ⟨hIC', ⟨NB', ND', NF', hI', hT', hN', hF'⟩, -⟩ := id hCJw.1
      have eB : NB' = NB := nI_inj (by have := hI'.1.1; omega) (by omega) (hI'.2.1.1.symm.trans hIw.2.1.1)
      have eD : ND' = ND := nI_inj (by have := hI'.1.2.1; omega) (by omega) (hI'.2.1.2.1.symm.trans hIw.2.1.2.1)
      have eF : NF' = NF := nI_inj (by have := hI'.1.2.2; omega) (by omega) (hI'.2.1.2.2.symm.trans hIw.2.1.2.2)
      subst eB eD eF
      have g1 : mm_cq (mm_call mm_ms (mm_tb L xs) (d + 8)) 194 [mm_R 176, mm_I (nI f)] w ml (fun o n1 n2 => o = none ∧ n2 = ml ∧ ∃ TY, GX (ml (19 + f)) NB' NF' w n1 f ND' TY) := sx_goThrough (JT_XS hI' hT' hN' hF' (hCJw.2 ND' NF' hN'.1 hF'.1 hND hNF) hf) (fun n TY hG => ⟨rfl, rfl, TY, hG⟩)
      have g2 : mm_cq (mm_call mm_ms (mm_tb L xs) (d + 8)) 194 [mm_R 176, mm_I (nI f)] w ml (fun o n1 n2 => o = none ∧ n2 = ml ∧ ∃ TY, GT NB' NF' w n1 f ND' TY) := sp_goThrough hf hIw (fun n TY hG => ⟨rfl, rfl, TY, hG⟩)
      refine mm_cq_m (mm_call_m _) (mm_cq_a g1 g2) (fun o n1 n2 ⟨⟨e1, e2, TY, hG⟩, ⟨_, _, TY', hG'⟩⟩ => ?_)
      subst e1 e2
      have hpw := PR_t hp hG.1
      have hIn := IM_c hIw hG.1
      have hW := TX_W hG.2.1
      refine bk_X12_findCopies_33 (mm_call_m _) (cx_35 (m := m) hIn hf (fun n hn => ?_) (fun w3 y2 y3 k1 k2 => h137 w3 (PR_t hpw (PR_f3 k1)) (RTB_c h2 (fun i => (k1 200 i (by omega)).trans (hG.2.2.2.2 200 i (by omega) (by decide) (by omega)))) (fun a a1 a2 b b1 b2 => k2 a a1 a2 b b1 (by omega))) ND' 0 n1 (by omega) (fun _ _ _ => rfl) ?_)
      · rcases hG.2.2.2.1 n hn with q | ⟨r, q1, q2, q3, q4⟩
        · exact .inl q
        · refine .inr ⟨r, q1, vd_lt q2 hNB.2 hG.2.1.1.2.1.2, TF_v hW q2 q3, q4, ?_⟩
          have eTY : TY = TY' := nI_inj (by have := hG.2.1.1.2.1.2; omega) (by have := hG'.2.1.2.1.2; omega) (hG.2.1.1.2.2.2.1.symm.trans hG'.2.1.2.2.2.1)
          have := GT_w hIn hG'.2.1 hf hG'.2.2.2.1 n r hn q1 (by rw [← eTY]; exact q2)
          rw [hpw 194 f (pg_nod (by decide) (by decide))] at this
          exact this
      · intro a a1 a2 b b1 b2
        have hg : ∀ c i, (c = 201 ∨ c = 202 ∨ c = 203) → n1 c i = w c i := fun c i q => hG.2.2.2.2 c i (by omega) (by omega) (by omega)
        exact NRX_c (hR a a1 a2 b b1 (by omega)) (hg 201 _ (by omega)) (hg 202 _ (by omega)) (hg 203 _ (by omega))
    · by_cases haf : a = f
      · subst haf
        exact absurd (h2 a a1 a2) hu
      · exact hR a a1 a2 b b1 (by omega)
end MMT
/-- a type, or none, and its shape -/
def TYV (NB TY : Nat) (w : mm_P) (v : Int32) (A : Int64) : Prop := (v = -1 ∧ A = -1) ∨ ∃ t, v = nI t ∧ vd NB TY t ∧ (w 180 t).toInt ≤ 5 ∧ SHV w t = A
/-- the copies stand in the model's rows -/
def CRM (NB TY : Nat) (m w : mm_P) (C : List CTy) : Prop := w 176 31 = nI C.length ∧ C.length ≤ 60 ∧ ∀ i, i < C.length → (C.getD i k_c0).1 < 12 ∧ w 204 i = nI (C.getD i k_c0).1 ∧ TYV NB TY w (w 205 i) (C.getD i k_c0).2.1 ∧ TYV NB TY w (w 206 i) (C.getD i k_c0).2.2 ∧ (0 < (m 194 (C.getD i k_c0).1).toInt → ¬ (C.getD i k_c0).2.1 = -1) ∧ (1 < (m 194 (C.getD i k_c0).1).toInt → ¬ (C.getD i k_c0).2.2 = -1)
section MTV
variable {NB TY TZ : Nat} {w w' : mm_P} {v : Int32} {A : Int64}
theorem TYV_c (hW : WTY NB TY w) (hl : TY ≤ TZ) (hr : ∀ t, vd NB TY t → ∀ c, 177 ≤ c → c ≤ 183 → w' c t = w c t) (h : TYV NB TY w v A) : TYV NB TZ w' v A := by
  rcases h with h | ⟨t, t1, t2, t3, t4⟩
  · exact .inl h
  · exact .inr ⟨t, t1, vd_le t2 hl, by rw [hr t t2 180 (by decide) (by decide)]; exact t3, (SHV_c hW hr t2).trans t4⟩
theorem TYV_N (hW : WTY NB TY w) (h : TYV NB TY w v A) : v = -1 ↔ A = -1 := by
  rcases h with h | ⟨t, t1, t2, t3, t4⟩
  · exact ⟨fun _ => h.2, fun _ => h.1⟩
  · have ht8 := vd_lt t2 hW.1 hW.2.1
    have hr := (SHV_r hW t2 t3).1.1
    exact ⟨fun y => absurd (t1.symm.trans y) (nI_ne (by omega)), fun y => by rw [t4, y, mm_lln] at hr; omega⟩
theorem TYV_T (hW : WTY NB TY w) (h : TYV NB TY w v A) (hA : ¬ A = -1) : CNS A ∧ ∃ t, v = nI t ∧ t < 8000 ∧ vd NB TY t ∧ (w 180 t).toInt ≤ 5 ∧ SHV w t = A ∧ (w 180 t).toInt = dpn A := by
  rcases h with h | ⟨t, t1, t2, t3, t4⟩
  · exact absurd h.2 hA
  · have hf := TF_v hW t2 t3
    rw [← t4]
    exact ⟨hf.1, t, t1, vd_lt t2 hW.1 hW.2.1, t2, t3, rfl, hf.2.1⟩
end MTV
section MMT
variable {L : Nat} {xs : Nat → Int32} {d : Nat} {Q : mm_QQ} {mi : mm_P} {ml : mm_G} {lim : Nat × Nat} {NB ND NF TY : Nat}
theorem most_t {x y : Int32} {a b : Nat} (hx : x.toInt = a) (hy : y.toInt = b) : (f_most x y).toInt = (max a b : Nat) := by
  have := most_n (x := x) (y := y) (by omega) (by omega)
  have h0 : 0 ≤ (f_most x y).toInt := by
    unfold f_most
    split <;> omega
  omega
theorem less_t {x y : Int32} {a b : Nat} (ha : 1 ≤ a) (hl : a ≤ 100) (hb : b ≤ 100) (hx : x.toInt = a) (hy : y.toInt = b) : ((x - 1) + y).toInt = (a - 1 + b : Nat) := by
  have e : (x - 1).toInt = a - 1 := by rw [mm_sub1 (by omega), hx]
  rw [mm_addI (by omega) (by omega), e, hy]
  omega
/-- deepIn(): how deep it becomes -/
theorem sx_deepIn {c a g2 g3 : Nat} {x1 x2 x3 : Int32} {A B : Int64} (hW : WTY NB TY mi) (hc : c < 60) (h1 : x1.toInt = a) (h2 : x2.toInt = g2) (h3 : x3.toInt = g3) (hl2 : g2 ≤ 10) (hl3 : g3 ≤ 10) (hA : 0 < g2 → TYV NB TY mi (mi 205 c) A ∧ ¬ A = -1) (hB : 0 < g3 → TYV NB TY mi (mi 206 c) B ∧ ¬ B = -1) (hQ : ∀ v : Int32, v.toInt = ((max a (max (k_dd g2 (dpn A)) (k_dd g3 (dpn B))) : Nat) : Int) → Q (some (mm_I v)) mi ml) : mm_cq (mm_call mm_ms (mm_tb L xs) (d + 2)) 204 [mm_R 176, mm_I x1, mm_I x2, mm_I x3, mm_I (nI c)] mi ml Q := by
  have vc : vp_in (nI c) 60 := vp_in_nI hc (by decide)
  have ec : (nI c).toNatClampNeg = c := nI_clamp (by omega)
  have z2 : x2 ≤ 0 → g2 = 0 := fun z => by
    have := mm_leI z
    rw [h2, mm_tt0] at this
    omega
  have z3 : x3 ≤ 0 → g3 = 0 := fun z => by
    have := mm_leI z
    rw [h3, mm_tt0] at this
    omega
  have p2 : ¬ x2 ≤ 0 → 0 < g2 := fun z => by
    have := mm_nleI z
    rw [h2, mm_tt0] at this
    omega
  have p3 : ¬ x3 ≤ 0 → 0 < g3 := fun z => by
    have := mm_nleI z
    rw [h3, mm_tt0] at this
    omega
  have d0 : ∀ y, k_dd 0 y = 0 := fun y => rfl
  have dp : ∀ g y, 0 < g → k_dd g y = g - 1 + y := fun g y q => by
    unfold k_dd
    rw [if_neg (by omega)]
  refine en_X12_deepIn (bk_X12_deepIn_0 (mm_call_m _) (fun y y2 => hQ _ ?_) (fun _ _ => vc) (fun _ z => ?_) (fun y z => sp_most (bk_X12_deepIn_60 (mm_call_m _) (hQ _ ?_))) (fun _ => vc) (fun z => ?_) (fun z => sp_most (bk_X12_deepIn_28 (mm_call_m _) (fun y => hQ _ ?_) (fun _ => vc) (fun y => ?_) (fun y => sp_most (bk_X12_deepIn_60 (mm_call_m _) (hQ _ ?_))))))
  · rw [h1, z2 y, z3 y2, d0, d0]
    omega
  · obtain ⟨hb1, hb2⟩ := hB (p3 z)
    obtain ⟨-, t, t1, t2, -⟩ := TYV_T hW hb1 hb2
    rw [ec, t1]
    exact vp_in_nI t2 (by decide)
  · obtain ⟨hb1, hb2⟩ := hB (p3 z)
    obtain ⟨hcn, t, t1, t2, t3, t4, t5, t6⟩ := TYV_T hW hb1 hb2
    have hr := dpn_r (CNS_V hcn)
    rw [ec, t1, nI_clamp (by omega), most_t h1 (less_t (p3 z) (by omega) (by omega) h3 t6), z2 y, d0, dp g3 _ (p3 z)]
    omega
  · obtain ⟨hb1, hb2⟩ := hA (p2 z)
    obtain ⟨-, t, t1, t2, -⟩ := TYV_T hW hb1 hb2
    rw [ec, t1]
    exact vp_in_nI t2 (by decide)
  · obtain ⟨hb1, hb2⟩ := hA (p2 z)
    obtain ⟨hcn, t, t1, t2, t3, t4, t5, t6⟩ := TYV_T hW hb1 hb2
    have hr := dpn_r (CNS_V hcn)
    rw [ec, t1, nI_clamp (by omega), most_t h1 (less_t (p2 z) (by omega) (by omega) h2 t6), z3 y, d0, dp g2 _ (p2 z)]
    omega
  · obtain ⟨hb1, hb2⟩ := hB (p3 y)
    obtain ⟨-, t, t1, t2, -⟩ := TYV_T hW hb1 hb2
    rw [ec, t1]
    exact vp_in_nI t2 (by decide)
  · obtain ⟨ha1, ha2⟩ := hA (p2 z)
    obtain ⟨hcn, t, t1, t2, t3, t4, t5, t6⟩ := TYV_T hW ha1 ha2
    obtain ⟨hb1, hb2⟩ := hB (p3 y)
    obtain ⟨hcn', u, u1, u2, u3, u4, u5, u6⟩ := TYV_T hW hb1 hb2
    have hr := dpn_r (CNS_V hcn)
    have hr' := dpn_r (CNS_V hcn')
    rw [ec, t1, u1, nI_clamp (show t < 2 ^ 31 by omega), nI_clamp (show u < 2 ^ 31 by omega), most_t (most_t h1 (less_t (p2 z) (by omega) (by omega) h2 t6)) (less_t (p3 y) (by omega) (by omega) h3 u6), dp g2 _ (p2 z), dp g3 _ (p3 y)]
    omega
/-- isTooDeep(): a type of a function in a copy of it -/
theorem sx_isTooDeep {t c : Nat} {A B : Int64} (hW : WTY NB TY mi) (ht : vd NB TY t) (hd : (mi 180 t).toInt ≤ 5) (hc : c < 60) (hA : 0 < k_gl 2 7 (SHV mi t) → TYV NB TY mi (mi 205 c) A ∧ ¬ A = -1) (hB : 0 < k_gl 3 7 (SHV mi t) → TYV NB TY mi (mi 206 c) B ∧ ¬ B = -1) (h1 : f_with (SHV mi t) A B = -1 → Q (some (mm_I 1)) mi ml) (h0 : ¬ f_with (SHV mi t) A B = -1 → Q (some (mm_I 0)) mi ml) : mm_cq (mm_call mm_ms (mm_tb L xs) (d + 3)) 205 [mm_R 176, mm_I (nI t), mm_I (nI c)] mi ml Q := by
  have ht8 := vd_lt ht hW.1 hW.2.1
  have vt : vp_in (nI t) 8000 := vp_in_nI ht8 (by decide)
  have et : (nI t).toNatClampNeg = t := nI_clamp (by omega)
  obtain ⟨c1, c2, c3, c4, c5⟩ := TF_v hW ht hd
  have hdp := dpn_r (CNS_V c1)
  obtain ⟨g2, g3⟩ := c5 7 (by omega)
  refine en_X12_isTooDeep (bk_X12_isTooDeep_0 (mm_call_m _) vt vt vt ?_)
  rw [et]
  have hD := with_D c1 (fun q => (TYV_T hW (hA q).1 (hA q).2).1) (fun q => (TYV_T hW (hB q).1 (hB q).2).1)
  refine sx_deepIn (g2 := k_gl 2 7 (SHV mi t)) (g3 := k_gl 3 7 (SHV mi t)) (A := A) (B := B) hW hc c2 (by omega) (by omega) (by omega) (by omega) hA hB (fun v hv => bk_X12_isTooDeep_23 (mm_call_m _) (fun z => h0 ?_) (fun z => h1 ?_))
  · have z' := mm_leI z
    rw [hv, mm_tt5] at z'
    have hDD : k_DD 7 (SHV mi t) A B ≤ 5 := by
      unfold k_DD
      omega
    rcases hD with ⟨-, q⟩ | ⟨q, -⟩
    · exact fun y => CNS_n (by rw [← y]; exact q)
    · omega
  · have z' := mm_nleI z
    rw [hv, mm_tt5] at z'
    have hDD : 5 < k_DD 7 (SHV mi t) A B := by
      unfold k_DD
      omega
    rcases hD with ⟨q, -⟩ | ⟨-, q⟩
    · omega
    · exact q
end MMT
