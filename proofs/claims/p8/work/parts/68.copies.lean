/-! ===== findCopies(), copies(), copy() of the model ===== -/
def NRk (w : mm_P) (f n : Nat) : Prop := (¬ w 202 (200 * f + n) ≤ 0 → 0 < (w 194 f).toInt) ∧ (¬ w 203 (200 * f + n) ≤ 0 → 1 < (w 194 f).toInt)
def NRq (ND : Nat) (w : mm_P) (f n : Nat) : Prop := ∀ a, a < 12 → used w a → ∀ b, b < ND → (a < f ∨ (a = f ∧ b < n)) → NRk w a b
def F3 (m w : mm_P) : Prop := ∀ c i, ¬ (201 ≤ c ∧ c ≤ 203) → w c i = m c i
theorem F3_u {c i : Nat} {x : Int32} {m w : mm_P} (h : F3 m w) (h1 : 201 ≤ c) (h2 : c ≤ 203) : F3 m (mm_u w c i x) := fun a b q => (mm_u_e (by omega)).trans (h a b q)
theorem PR_f3 {m w : mm_P} (h : F3 m w) : PR m w := fun c i q => h c i (fun z => by
  have e : ∀ c, c = 201 ∨ c = 202 ∨ c = 203 → pg c i = false := by
    rintro c (rfl | rfl | rfl) <;> rfl
  rw [e c (by omega)] at q
  cases q)
section MMT
variable {L : Nat} {xs : Nat → Int32} {d : Nat} {Q : mm_QQ} {mi : mm_P} {ml : mm_G} {lim : Nat × Nat}
theorem sp_follows {c NB ND NF TY C : Nat} (hF : FI NB ND NF TY C mi) (hc : c < C) (hQ0 : ∀ w, PR mi w → (∀ i, w 200 i = mi 200 i) → Q (some (mm_I 0)) w ml) (hQ1 : ∀ w TY C, PR mi w → (∀ i, w 200 i = mi 200 i) → FI NB ND NF TY C w → c < C → Q (some (mm_I 1)) w ml) : mm_cq (mm_call mm_ms (mm_tb L xs) (d + 6)) 207 [mm_R 176, mm_I (nI c)] mi ml Q := by
  obtain ⟨hI, hJ, hT, hC, hl, hN⟩ := id hF
  obtain ⟨f, f1, f2, f3, f4, f5, f6, f7⟩ := hC.2.2 c hc
  have hC60 := hC.2.1
  have hNB := hI.1.1.2
  have vc : vp_in (nI c) 60 := vp_in_nI (by omega) (by decide)
  have ec : (nI c).toNatClampNeg = c := nI_clamp (by omega)
  have vf : vp_in (nI f) 12 := vp_in_nI f1 (by decide)
  have ef : (nI f).toNatClampNeg = f := nI_clamp (by omega)
  have hW := hJ.2.2.1 f f1 f2
  obtain ⟨o1, ⟨t, o2, o3, o4⟩, ⟨u, o5, o6, o7⟩, o8⟩ := hI.2.2.2.2.2.1 f hW.1
  obtain ⟨hfN, b, wb, TB, b1, b2, -⟩ := hW
  have h35 : mm_WQ (mm_call mm_ms (mm_tb L xs) (d + 5)) (mm_tb L xs) mm_m207 (mm_li mm_m207) Q 35 [some (mm_R 176), some (mm_I (nI c)), some (mm_I (nI f)), none, none, none, none, none] [] mi ml := bk_X12_follows_35 (mm_call_m _) (hQ0 mi PR_r (fun _ => rfl))
  have hz : ∀ {y l : Int32} {n : Int}, (y = 0 ∨ n < l.toInt) → ¬ y ≤ 0 → n < l.toInt := fun h z => h.resolve_left (fun q => z (by rw [q]; exact Int32.le_refl _))
  refine en_X12_follows (bk_X12_follows_0 (mm_call_m _) vc ?_ ?_) <;> rw [ec, f3]
  · exact vf
  rw [ef, o3]
  refine sp_isTooDeep hT (by omega) (by omega) (fun z => f6 (hz o4.1 z)) (fun z => f7 (hz o4.2 z)) (bk_X12_follows_18 (s0 := 1) (mm_call_m _) (fun _ => h35) (fun z => absurd z (by decide)) (fun z => absurd z (by decide))) (bk_X12_follows_18 (s0 := 0) (mm_call_m _) (fun z => absurd rfl z) (fun _ => vf) (fun _ => ?_))
  rw [ef, o6]
  refine sp_isTooDeep hT (by omega) (by omega) (fun z => f6 (hz o7.1 z)) (fun z => f7 (hz o7.2 z)) (bk_X12_follows_32 (s0 := 1) (mm_call_m _) (fun z => absurd z (by decide)) (fun _ => h35)) (bk_X12_follows_32 (s0 := 0) (mm_call_m _) (fun _ => ?_) (fun z => absurd rfl z))
  refine sp_findOrder hI hfN b1 b2 (fun w o hO hR => bk_X12_follows_42 (mm_call_m _) ?_)
  have hp := PR_of hO
  exact follows_44 (m := mi) hfN hQ0 hQ1 o 0 TY C w (by omega) hp (fun i => hO 200 i (by omega) (by omega)) (FI_c hF hp (TS_c hT (hO 176 0 (by omega) (by omega)) (hO 176 1 (by omega) (by omega)) (fun c i a b => hO c i (by omega) (by omega))) (Nat.le_refl _) hl (hO 176 31 (by omega) (by omega)) (fun c i a b => hO c i (by omega) (by omega))) ⟨hR.1, hR.2.1, fun i hi => by
    obtain ⟨n, n1, n2, n3⟩ := hR.2.2 i hi
    exact ⟨n, n1, n2, IB_c hp n3⟩⟩ ((hO 204 c (by omega) (by omega)).trans f3) hc
theorem copies_35 {f NB ND NF TY : Nat} {w1 : mm_P} (hI : IM w1 NB ND NF) (hf : f < NF) (hT : TS w1 NB TY) (ht : ∀ j, j < ND → tyd NB NF TY w1 f j) (hK : ∀ w x2 x3, F3 w1 w → NRq ND w f ND → mm_WQ (mm_call mm_ms (mm_tb L xs) d) (mm_tb L xs) mm_m208 lim Q 137 [some (mm_R 176), some (mm_I (nI f)), some (mm_I x2), x3] [] w ml) : ∀ (j n : Nat) (w : mm_P) {x3 : Option mm_V}, n + j = ND → F3 w1 w → NRq ND w f n → mm_WQ (mm_call mm_ms (mm_tb L xs) d) (mm_tb L xs) mm_m208 lim Q 35 [some (mm_R 176), some (mm_I (nI f)), some (mm_I (nI n)), x3] [] w ml := by
  have hND := hI.1.2.1
  have hNF := hI.1.2.2
  intro j
  induction j with
  | zero =>
    intro n w x3 h hM hR
    have hn : n = ND := by omega
    subst hn
    have hle : w 176 13 ≤ nI n := by rw [(IM_c hI (PR_f3 hM)).2.1.2.1]; exact Int32.le_refl _
    have hn' : ∀ {P : Prop}, ¬ w 176 13 ≤ nI n → P := fun z => absurd hle z
    exact bk_X12_findCopies_35 (mm_call_m _) (fun _ => hK w _ _ hM hR) (fun z => hn' z) (fun z => hn' z) (fun z => hn' z) (fun z => hn' z) (fun z => hn' z) (fun z => hn' z) (fun z => hn' z) (fun z => hn' z) (fun z => hn' z) (fun z => hn' z) (fun z => hn' z) (fun z => hn' z) (fun z => hn' z) (fun z => hn' z) (fun z => hn' z) (fun z => hn' z) (fun z => hn' z) (fun z => hn' z) (fun z => hn' z) (fun z => hn' z) (fun z => hn' z) (fun z => hn' z) (fun z => hn' z) (fun z => hn' z) (fun z => hn' z) (fun z => hn' z) (fun z => hn' z) (fun z => hn' z) (fun z => hn' z) (fun z => hn' z)
  | succ j ih =>
    intro n w x3 h hM hR
    have hlt : ¬ w 176 13 ≤ nI n := by
      rw [Int32.le_iff_toInt_le, (ix (IM_c hI (PR_f3 hM))).1, mm_tI (by omega)]
      omega
    have vn : vp_in (nI n) 200 := vp_in_nI (by omega) (by decide)
    have en : (nI n).toNatClampNeg = n := nI_clamp (by omega)
    have v24 : vp_in (200 * nI f + nI n) 2400 := by
      rw [rx2 (by omega) (by omega)]
      exact vp_in_nI (by omega) (by decide)
    have e24 : (200 * nI f + nI n).toNatClampNeg = 200 * f + n := by
      rw [rx2 (by omega) (by omega)]
      exact nI_clamp (by omega)
    have hst : ∀ (A B C' : Int32) {x3 : Option mm_V}, (¬ B ≤ 0 → 0 < (w 194 f).toInt) → (¬ C' ≤ 0 → 1 < (w 194 f).toInt) → mm_WQ (mm_call mm_ms (mm_tb L xs) d) (mm_tb L xs) mm_m208 lim Q 35 [some (mm_R 176), some (mm_I (nI f)), some (mm_I (nI n + 1)), x3] [] (mm_u (mm_u (mm_u w 201 (200 * f + n) A) 202 (200 * f + n) B) 203 (200 * f + n) C') ml := by
      intro A B C' x3 hB hC
      rw [show nI n + 1 = nI (n + 1) from (nI_succ n).symm]
      have hoth : ∀ c i, ¬ (201 ≤ c ∧ c ≤ 203) → mm_u (mm_u (mm_u w 201 (200 * f + n) A) 202 (200 * f + n) B) 203 (200 * f + n) C' c i = w c i := fun c i q => by
        rw [mm_u_e (by omega), mm_u_e (by omega), mm_u_e (by omega)]
      refine ih (n + 1) _ (by omega) (F3_u (F3_u (F3_u hM (by decide) (by decide)) (by decide) (by decide)) (by decide) (by decide)) (fun a a1 a2 b b1 b2 => ?_)
      have a2' : used w a := (used_c (fun i => hoth 200 i (by omega))).mp a2
      unfold NRk
      rw [hoth 194 a (by omega)]
      by_cases hab : a = f ∧ b = n
      · obtain ⟨rfl, rfl⟩ := hab
        rw [mm_u_e (by decide), mm_u_s, mm_u_s]
        exact ⟨hB, hC⟩
      · rw [mm_u_e (by decide), mm_u_f (by omega), mm_u_e (by decide), mm_u_f (by omega), mm_u_e (by decide), mm_u_e (by decide)]
        exact hR a a1 a2' b b1 (by omega)
    have h00 : ∀ {P : Prop}, ¬ (0 : Int32) ≤ 0 → P := fun z => absurd (Int32.le_refl _) z
    have e198 : w 198 n = w1 198 n := hM 198 n (by omega)
    have hty : ¬ w 198 n = -1 → ∃ r, w 198 n = nI r ∧ r < 8000 ∧ wthn w r (w 194 f) := fun z => by
      rcases ht n (by omega) with q | ⟨r, q1, q2, -⟩
      · exact absurd (e198.trans q) z
      · refine ⟨r, e198.trans q1, vd_lt q2 hT.1.2 hT.2.1.2, ?_⟩
        unfold wthn
        rw [hM 181 r (by omega), hM 182 r (by omega), hM 194 f (by omega)]
        exact GT_w hI hT hf ht n r (by omega) q1 q2
    have hvt : ¬ w 198 n = -1 → vp_in (w 198 n) 8000 := fun z => by
      obtain ⟨r, r1, r2, -⟩ := hty z
      rw [r1]
      exact vp_in_nI r2 (by decide)
    have hz : ∀ {y l : Int32} {n : Int}, (y = 0 ∨ n < l.toInt) → ¬ y ≤ 0 → n < l.toInt := fun h z => h.resolve_left (fun q => z (by rw [q]; exact Int32.le_refl _))
    refine bk_X12_findCopies_35 (mm_call_m _) (fun z => absurd z hlt) (fun _ => vn) (fun _ z => ?_) (fun _ _ => v24) (fun _ z _ => ?_) (fun _ _ _ => v24) (fun _ z _ _ => ?_) (fun _ _ _ _ => v24) (fun _ z _ _ => ?_) (fun _ _ _ _ => v24) (fun _ z _ y => absurd y z) (fun _ _ _ => v24) (fun _ z y _ => absurd y z) (fun _ _ _ _ => v24) (fun _ z y _ => absurd y z) (fun _ _ _ _ => v24) (fun _ z y _ => absurd y z) (fun _ _ => v24) (fun _ y z => absurd y z) (fun _ _ _ => v24) (fun _ y z _ => absurd y z) (fun _ _ _ _ => v24) (fun _ y z _ => absurd y z) (fun _ _ _ _ => v24) (fun _ y z _ => absurd y z) (fun _ _ _ => v24) (fun _ y _ z => absurd y z) (fun _ _ _ _ => v24) (fun _ y _ z => absurd y z) (fun _ _ _ _ => v24) (fun _ _ _ _ => ?_)
    · rw [en] at z ⊢; exact hvt z
    · rw [en] at z ⊢; exact hvt z
    · rw [en] at z ⊢; exact hvt z
    · rw [en] at z ⊢
      rw [e24]
      obtain ⟨r, r1, r2, r3⟩ := hty z
      rw [r1, nI_clamp (by omega)]
      exact hst _ _ _ (hz r3.1) (hz r3.2)
    · rw [e24]
      exact hst _ _ _ (fun z => h00 z) (fun z => h00 z)
theorem copies_12 {NB ND NF : Nat} {m : mm_P} (hI : IM m NB ND NF) (hK : ∀ w x1 x2 x3, PR m w → (∀ i, w 200 i = m 200 i) → NRq ND w NF 0 → mm_cq (mm_call mm_ms (mm_tb L xs) (d + 8)) 167 [mm_R 176] w ml (fun o n1 n2 => mm_WQ (mm_call mm_ms (mm_tb L xs) (d + 8)) (mm_tb L xs) mm_m208 lim Q 147 [some (mm_R 176), some (mm_I x1), x2, x3] (o.toList ++ []) n1 n2)) : ∀ (j f : Nat) (w : mm_P) {x2 x3 : Option mm_V}, f + j = NF → PR m w → (∀ i, w 200 i = m 200 i) → NRq ND w f 0 → mm_WQ (mm_call mm_ms (mm_tb L xs) (d + 8)) (mm_tb L xs) mm_m208 lim Q 12 [some (mm_R 176), some (mm_I (nI f)), x2, x3] [] w ml := by
  have hNF := hI.1.2.2
  intro j
  induction j with
  | zero =>
    intro f w x2 x3 h hp h2 hR
    have hf : f = NF := by omega
    subst hf
    have hle : w 176 20 ≤ nI f := by rw [(IM_c hI hp).2.1.2.2]; exact Int32.le_refl _
    exact bk_X12_findCopies_12 (mm_call_m _) (fun _ => hK w _ _ _ hp h2 hR) (fun z => absurd hle z)
  | succ j ih =>
    intro f w x2 x3 h hp h2 hR
    have hIw := IM_c hI hp
    have hlt : ¬ w 176 20 ≤ nI f := by
      rw [Int32.le_iff_toInt_le, (ix hIw).2, mm_tI (by omega)]
      omega
    have h137 : ∀ (w : mm_P) {x2 x3 : Option mm_V}, PR m w → (∀ i, w 200 i = m 200 i) → NRq ND w (f + 1) 0 → mm_WQ (mm_call mm_ms (mm_tb L xs) (d + 8)) (mm_tb L xs) mm_m208 lim Q 137 [some (mm_R 176), some (mm_I (nI f)), x2, x3] [] w ml := fun w x2 x3 a b c => by
      refine bk_X12_findCopies_137 (mm_call_m _) ?_
      rw [show nI f + 1 = nI (f + 1) from (nI_succ f).symm]
      exact ih (f + 1) w (by omega) a b c
    refine bk_X12_findCopies_12 (mm_call_m _) (fun z => absurd z hlt) (fun _ => sp_isUsed (by omega) (fun hu => bk_X12_findCopies_25 (s0 := 1) (mm_call_m _) (fun z => absurd z (by decide)) (fun _ => sp_goThrough (by omega) hIw (fun w' TY hG => bk_X12_findCopies_33 (mm_call_m _) (copies_35 (IM_c hIw hG.1) (by omega) hG.2.1 hG.2.2.2.1 (fun w3 y2 y3 k1 k2 => h137 w3 (PR_t hp (PR_t hG.1 (PR_f3 k1))) (fun i => (k1 200 i (by omega)).trans ((hG.2.2.2.2 200 i (by omega) (by decide) (by omega)).trans (h2 i))) (fun a a1 a2 b b1 b2 => k2 a a1 a2 b b1 (by omega))) ND 0 w' (by omega) (fun _ _ _ => rfl) ?_)))) (fun hu => bk_X12_findCopies_25 (s0 := 0) (mm_call_m _) (fun _ => h137 w hp h2 (fun a a1 a2 b b1 b2 => ?_)) (fun z => absurd rfl z)))
    · intro a a1 a2 b b1 b2
      have hg : ∀ c i, (c = 200 ∨ c = 202 ∨ c = 203 ∨ c = 194) → w' c i = w c i := fun c i q => hG.2.2.2.2 c i (by omega) (by omega) (by omega)
      have := hR a a1 ((used_c (fun i => hg 200 i (by omega))).mp a2) b b1 (by omega)
      unfold NRk at this ⊢
      rw [hg 202 _ (by omega), hg 203 _ (by omega), hg 194 _ (by omega)]
      exact this
    · by_cases haf : a = f
      · subst haf
        exact absurd a2 hu
      · exact hR a a1 a2 b b1 (by omega)
theorem copies_162 {NB ND NF : Nat} {m : mm_P} (hQ0 : ∀ w, PR m w → Q (some (mm_I (-4))) w ml) (hQ1 : ∀ w TY C, PR m w → FI NB ND NF TY C w → Q (some (mm_I (nI C))) w ml) : ∀ (j c TY C : Nat) (w : mm_P) {x2 x3 : Option mm_V}, 60 ≤ c + j → c ≤ C → PR m w → FI NB ND NF TY C w → mm_WQ (mm_call mm_ms (mm_tb L xs) (d + 6)) (mm_tb L xs) mm_m208 lim Q 162 [some (mm_R 176), some (mm_I (nI c)), x2, x3] [] w ml := by
  intro j
  induction j with
  | zero =>
    intro c TY C w x2 x3 h1 h2 hp hF
    have hC := hF.2.2.2.1
    have hle : w 176 31 ≤ nI c := by
      have := hC.2.1
      rw [hC.1, Int32.le_iff_toInt_le, mm_tI (by omega), mm_tI (by omega)]
      omega
    refine bk_X12_findCopies_162 (mm_call_m _) (fun _ => ?_) (fun z => absurd hle z)
    rw [hC.1]
    exact hQ1 w TY C hp hF
  | succ j ih =>
    intro c TY C w x2 x3 h1 h2 hp hF
    have hC := hF.2.2.2.1
    have hC60 := hC.2.1
    refine bk_X12_findCopies_162 (mm_call_m _) (fun _ => ?_) (fun z => ?_)
    · rw [hC.1]
      exact hQ1 w TY C hp hF
    · rw [hC.1, Int32.le_iff_toInt_le, mm_tI (by omega), mm_tI (by omega)] at z
      refine sp_follows hF (by omega) (fun w' k1 k2 => bk_X12_findCopies_175 (mm_call_m _) (fun z => absurd rfl z) (fun _ => hQ0 w' (PR_t hp k1))) (fun w' TY' C' k1 k2 k3 k4 => bk_X12_findCopies_175 (mm_call_m _) (fun _ => ?_) (fun z => absurd z (by decide)))
      rw [show nI c + 1 = nI (c + 1) from (nI_succ c).symm]
      exact ih (c + 1) TY' C' w' (by omega) (by omega) (PR_t hp k1) k3
theorem sp_findCopies {NB ND NF : Nat} (hI : IM mi NB ND NF) (hQ : ∀ w v, PR mi w → (v.toInt < 0 ∨ ∃ TY C, FI NB ND NF TY C w ∧ v = nI C) → Q (some (mm_I v)) w ml) : mm_cq (mm_call mm_ms (mm_tb L xs) (d + 10)) 208 [mm_R 176] mi ml Q := by
  refine en_X12_findCopies (bk_X12_findCopies_0 (mm_call_m _) (sp_judge hI (fun w v hp hJ => bk_X12_findCopies_4 (mm_call_m _) (fun z => ?_) (fun _ => hQ w _ hp (.inl (by decide))))))
  have hJ := hJ z
  have hIw := IM_c hI hp
  refine copies_12 hIw (fun w2 y1 y2 y3 k1 k2 k3 => ?_) NF 0 w (by omega) PR_r (fun _ => rfl) (fun a a1 a2 b b1 b2 => absurd b2 (by omega))
  have hI2 := IM_c hIw k1
  have hNF := hI.1.2.2
  have hNB := hI.1.1
  refine sp_forgets (N := NB) (by rw [hI2.2.1.1]; exact mm_tI (by omega)) hNB.2 (fun n hfg => bk_X12_findCopies_147 (mm_call_m _) ?_)
  obtain ⟨t1, t2⟩ := TS_fg hI2 hfg
  have hp3 : PR mi (mm_u n 176 31 0) := PR_u (PR_t (PR_t hp k1) t2) rfl
  have hpw : PR w (mm_u n 176 31 0) := PR_u (PR_t k1 t2) rfl
  have hn : ∀ c i, 188 ≤ c → mm_u n 176 31 0 c i = w2 c i := fun c i q => (mm_u_e (by omega)).trans (hfg.1 c i (by omega) (by omega))
  have hF0 : FI NB ND NF 200 0 (mm_u n 176 31 0) := by
    refine ⟨IM_c hI hp3, JO_c hpw (fun i => (hn 200 i (by decide)).trans (k2 i)) hJ, TS_c t1 (mm_u_f (by decide)) (mm_u_f (by decide)) (fun c i _ _ => mm_u_e (by omega)), ⟨mm_u_s, by omega, fun c hc => absurd hc (Nat.not_lt_zero _)⟩, by omega, fun f f1 f2 n' n1 => ?_⟩
    have f2' : used w2 f := (used_c (fun i => hn 200 i (by decide))).mp f2
    have hfN := (hJ.2.2.1 f f1 ((used_c k2).mp f2')).1
    have := k3 f f1 f2' n' n1 (.inl hfN)
    unfold NRk at this
    rw [hn 202 _ (by decide), hn 203 _ (by decide), hn 194 _ (by decide)]
    exact this
  have h162 : ∀ (w : mm_P) (C TY : Nat) {x1 : Int32} {x2 x3 : Option mm_V} {s : Int32}, PR mi w → FI NB ND NF TY C w → mm_WQ (mm_call mm_ms (mm_tb L xs) (d + 9)) (mm_tb L xs) mm_m208 (mm_li mm_m208) Q 159 [some (mm_R 176), some (mm_I x1), x2, x3] [mm_I s] w ml := fun w C TY x1 x2 x3 s a b => bk_X12_findCopies_159 (mm_call_m _) (copies_162 (m := mi) (d := d + 3) (fun w a => hQ w _ a (.inl (by decide))) (fun w TY C a b => hQ w _ a (.inr ⟨TY, C, b, rfl⟩)) 60 0 TY C w (by omega) (by omega) a b)
  refine sp_copied (C := 0) mm_u_s (by decide) (.inl rfl) (.inl rfl) (fun c hc => absurd hc (Nat.not_lt_zero _)) (h162 _ 0 200 hp3 hF0) (fun _ => h162 _ 1 200 (PR_u (PR_u (PR_u (PR_u hp3 rfl) rfl) rfl) rfl) ?_)
  obtain ⟨g1, g2, g3, g4, g5, g6⟩ := hF0
  have hpn : PR (mm_u n 176 31 0) (mm_u (mm_u (mm_u (mm_u (mm_u n 176 31 0) 204 0 0) 205 0 (-1)) 206 0 (-1)) 176 31 (nI (0 + 1))) := PR_u (PR_u (PR_u (PR_u PR_r rfl) rfl) rfl) rfl
  have hoth : ∀ c i, ¬ c = 204 → ¬ c = 205 → ¬ c = 206 → ¬ c = 176 → mm_u (mm_u (mm_u (mm_u (mm_u n 176 31 0) 204 0 0) 205 0 (-1)) 206 0 (-1)) 176 31 (nI (0 + 1)) c i = mm_u n 176 31 0 c i := fun c i a b e k => by
    rw [mm_u_e k, mm_u_e e, mm_u_e b, mm_u_e a]
  have h176 : ∀ i, ¬ i = 31 → mm_u (mm_u (mm_u (mm_u (mm_u n 176 31 0) 204 0 0) 205 0 (-1)) 206 0 (-1)) 176 31 (nI (0 + 1)) 176 i = mm_u n 176 31 0 176 i := fun i a => by
    rw [mm_u_f a, mm_u_e (by decide), mm_u_e (by decide), mm_u_e (by decide)]
  have ho : ∀ c i, (c = 194 ∨ c = 200 ∨ c = 202 ∨ c = 203) → mm_u (mm_u (mm_u (mm_u (mm_u n 176 31 0) 204 0 0) 205 0 (-1)) 206 0 (-1)) 176 31 (nI (0 + 1)) c i = mm_u n 176 31 0 c i := fun c i q => hoth c i (by omega) (by omega) (by omega) (by omega)
  refine ⟨IM_c g1 hpn, JO_c hpn (fun i => ho 200 i (by omega)) g2, TS_c g3 (h176 0 (by decide)) (h176 1 (by decide)) (fun c i a b => hoth c i (by omega) (by omega) (by omega) (by omega)), ⟨mm_u_s, by decide, fun c hc => ?_⟩, by omega, NR_c (fun i => ho 194 i (by omega)) (fun i => ho 200 i (by omega)) (fun i => ho 202 i (by omega)) (fun i => ho 203 i (by omega)) g6⟩
  have hc0 : c = 0 := by omega
  subst hc0
  have hl := g2.2.1
  refine ⟨0, by decide, .inl rfl, ?_, .inl ?_, .inl ?_, fun z => ?_, fun z => ?_⟩
  · rw [mm_u_e (by decide), mm_u_e (by decide), mm_u_e (by decide), mm_u_s]
    rfl
  · rw [mm_u_e (by decide), mm_u_e (by decide), mm_u_s]
  · rw [mm_u_e (by decide), mm_u_s]
  · rw [ho 194 0 (by omega)] at z
    omega
  · rw [ho 194 0 (by omega)] at z
    omega
theorem sp_copies {NB ND NF : Nat} (hI : IM mi NB ND NF) (hQ : ∀ w v, PR mi w → Q (some (mm_I v)) w ml) : mm_cq (mm_call mm_ms (mm_tb L xs) (d + 11)) 209 [mm_R 176] mi ml Q :=
  en_X12_copies (bk_X12_copies_0 (mm_call_m _) (sp_findCopies hI (fun w v hp _ => bk_X12_copies_4 (mm_call_m _) (hQ w v hp))))
end MMT
