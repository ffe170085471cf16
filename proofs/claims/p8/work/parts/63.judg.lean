/-! ===== judge() of the model ===== -/
theorem GT_pr {NB NF f i TY : Nat} {m n w : mm_P} (hp : PR n m) (h : GT NB NF m w f i TY) : PR n w ∧ TS w NB TY ∧ TY ≤ 200 + 30 * i ∧ (∀ j, j < i → tyd NB NF TY w f j) := ⟨PR_t hp h.1, h.2.1, h.2.2.1, h.2.2.2.1⟩
/-- f is well typed, as the program of m has it -/
def WTy (NB ND NF : Nat) (m : mm_P) (f : Nat) : Prop := f < NF ∧ ∃ b w TY, b < ND ∧ m 197 f = nI b ∧ PR m w ∧ TS w NB TY ∧ (∀ j, j < ND → tyd NB NF TY w f j) ∧ w 198 b = m 196 f
theorem WTy_c {NB ND NF f : Nat} {m n : mm_P} (hp : PR m n) (h : WTy NB ND NF m f) : WTy NB ND NF n f := by
  obtain ⟨h1, b, w, TY, h2, h3, h4, h5, h6, h7⟩ := h
  exact ⟨h1, b, w, TY, h2, (hp 197 f (pg_nod (by decide) (by decide))).trans h3, PR_t (PR_s hp) h4, h5, h6, h7.trans (hp 196 f (pg_nod (by decide) (by decide))).symm⟩
def JO (NB ND NF : Nat) (m : mm_P) : Prop := 0 < NF ∧ (m 194 0).toInt ≤ 0 ∧ (∀ f, f < 12 → used m f → WTy NB ND NF m f) ∧ ∀ f g, f < 12 → used m f → g < 12 → DR ND m f g → used m g
theorem used_c {m n : mm_P} {f : Nat} (h : ∀ i, n 200 i = m 200 i) : used n f ↔ used m f := by
  unfold used
  rw [h]
theorem JO_c {NB ND NF : Nat} {m n : mm_P} (hp : PR m n) (h2 : ∀ i, n 200 i = m 200 i) (h : JO NB ND NF m) : JO NB ND NF n := by
  obtain ⟨h0, h1, h3, h4⟩ := h
  exact ⟨h0, by rw [hp 194 0 (pg_nod (by decide) (by decide))]; exact h1, fun f f1 hf => WTy_c hp (h3 f f1 ((used_c h2).mp hf)), fun f g f1 hf hg hd => (used_c h2).mpr (h4 f g f1 ((used_c h2).mp hf) hg (DR_c (PR_s hp) hd))⟩
section MMT
variable {L : Nat} {xs : Nat → Int32} {d : Nat} {Q : mm_QQ} {mi : mm_P} {ml : mm_G} {lim : Nat × Nat}
theorem judge_24 {NB ND NF : Nat} (hI : IM mi NB ND NF) (h2 : Q (some (mm_I 2)) mi ml) (hK : (∀ a, a < 12 → used mi a → a < NF ∧ ¬ mi 197 a = -1) → mm_WQ (mm_call mm_ms (mm_tb L xs) (d + 2)) (mm_tb L xs) mm_m202 (mm_li mm_m202) Q 66 [some (mm_R 176), some (mm_I 0)] [] mi ml) : ∀ (j f : Nat), f + j = 12 → (∀ a, a < f → used mi a → a < NF ∧ ¬ mi 197 a = -1) → mm_WQ (mm_call mm_ms (mm_tb L xs) (d + 2)) (mm_tb L xs) mm_m202 (mm_li mm_m202) Q 24 [some (mm_R 176), some (mm_I (nI f))] [] mi ml := by
  have hNF := hI.1.2.2
  intro j
  induction j with
  | zero =>
    intro f h hu
    have hf : f = 12 := by omega
    subst hf
    exact bk_X12_judge_24 (mm_call_m _) (fun _ => hK hu) (fun z => absurd (by decide) z)
  | succ j ih =>
    intro f h hu
    have ef : (nI f).toNatClampNeg = f := nI_clamp (by omega)
    have h58 : (used mi f → f < NF ∧ ¬ mi 197 f = -1) → mm_WQ (mm_call mm_ms (mm_tb L xs) (d + 2)) (mm_tb L xs) mm_m202 (mm_li mm_m202) Q 58 [some (mm_R 176), some (mm_I (nI f))] [] mi ml := fun hz => by
      refine bk_X12_judge_58 (mm_call_m _) ?_
      rw [show nI f + 1 = nI (f + 1) from (nI_succ f).symm]
      refine ih (f + 1) (by omega) (fun a a1 a2 => ?_)
      by_cases ha : a = f
      · subst ha
        exact hz a2
      · exact hu a (by omega) a2
    have h56 : mm_WQ (mm_call mm_ms (mm_tb L xs) (d + 2)) (mm_tb L xs) mm_m202 (mm_li mm_m202) Q 56 [some (mm_R 176), some (mm_I (nI f))] [] mi ml := bk_X12_judge_56 (mm_call_m _) h2
    refine bk_X12_judge_24 (mm_call_m _) (fun z => ?_) (fun _ => sp_isUsed (by omega) (fun hus => bk_X12_judge_35 (s0 := 1) (mm_call_m _) (fun z => absurd z (by decide)) (fun _ => sp_fun hI (fun g g1 g2 => bk_X12_judge_43 (s0 := 1) (mm_call_m _) (fun z => absurd z (by decide)) (fun _ => vp_in_nI (by omega) (by decide)) (fun _ z => ?_) (fun _ _ => h56)) (fun _ => bk_X12_judge_43 (s0 := 0) (mm_call_m _) (fun _ => h56) (fun z => absurd rfl z) (fun z => absurd rfl z) (fun z => absurd rfl z)))) (fun hus => bk_X12_judge_35 (s0 := 0) (mm_call_m _) (fun _ => h58 (fun q => absurd q hus)) (fun z => absurd rfl z)))
    · rw [Int32.le_iff_toInt_le, mm_tI (by omega), mm_tt12] at z
      omega
    · have hfg : f = g := by
        have := congrArg Int32.toInt g2
        rw [mm_tI (by omega), mm_tI (by omega)] at this
        omega
      rw [ef] at z
      exact h58 (fun _ => ⟨by omega, z⟩)
theorem judge_117 {NB ND NF : Nat} {m : mm_P} (hI : IM m NB ND NF) (hQ : ∀ w v, PR m w → (∀ i, w 200 i = m 200 i) → Q (some (mm_I v)) w ml) : ∀ (j f : Nat) (w : mm_P), f + j = NF → PR m w → (∀ i, w 200 i = m 200 i) → mm_WQ (mm_call mm_ms (mm_tb L xs) (d + 3)) (mm_tb L xs) mm_m202 (mm_li mm_m202) Q 117 [some (mm_R 176), some (mm_I (nI f))] [] w ml := by
  have hNF := hI.1.2.2
  intro j
  induction j with
  | zero =>
    intro f w h hp h2
    have hf : f = NF := by omega
    subst hf
    have hle : w 176 20 ≤ nI f := by rw [(IM_c hI hp).2.1.2.2]; exact Int32.le_refl _
    exact bk_X12_judge_117 (mm_call_m _) (fun _ => hQ w _ hp h2) (fun z => absurd hle z)
  | succ j ih =>
    intro f w h hp h2
    have hIw := IM_c hI hp
    have hlt : ¬ w 176 20 ≤ nI f := by
      rw [Int32.le_iff_toInt_le, (ix hIw).2, mm_tI (by omega)]
      omega
    have h143 : ∀ w, PR m w → (∀ i, w 200 i = m 200 i) → mm_WQ (mm_call mm_ms (mm_tb L xs) (d + 3)) (mm_tb L xs) mm_m202 (mm_li mm_m202) Q 143 [some (mm_R 176), some (mm_I (nI f))] [] w ml := fun w hw hw2 => by
      refine bk_X12_judge_143 (mm_call_m _) ?_
      rw [show nI f + 1 = nI (f + 1) from (nI_succ f).symm]
      exact ih (f + 1) w (by omega) hw hw2
    exact bk_X12_judge_117 (mm_call_m _) (fun z => absurd z hlt) (fun _ => sp_isUsed (by omega) (fun hus => bk_X12_judge_130 (s0 := 1) (mm_call_m _) (fun z => absurd z (by decide)) (fun _ => sp_isRegular hIw (by omega) (fun w' v g1 g2 => bk_X12_judge_138 (mm_call_m _) (fun _ => h143 w' (PR_t hp (PR_mf g1 (by omega))) (fun i => (g1 200 i (by decide)).trans (h2 i))) (fun _ => hQ w' _ (PR_t hp (PR_mf g1 (by omega))) (fun i => (g1 200 i (by decide)).trans (h2 i)))))) (fun _ => bk_X12_judge_130 (s0 := 0) (mm_call_m _) (fun _ => h143 w hp h2) (fun z => absurd rfl z)))
theorem judge_66 {NB ND NF : Nat} {m : mm_P} (hI : IM m NB ND NF) (hu : ∀ a, a < 12 → used m a → a < NF ∧ ¬ m 197 a = -1) (hK : ∀ w, PR m w → (∀ i, w 200 i = m 200 i) → (∀ a, a < NF → used m a → WTy NB ND NF m a) → mm_WQ (mm_call mm_ms (mm_tb L xs) (d + 8)) (mm_tb L xs) mm_m202 (mm_li mm_m202) Q 117 [some (mm_R 176), some (mm_I 0)] [] w ml) (h3 : ∀ w, PR m w → Q (some (mm_I 3)) w ml) : ∀ (j f : Nat) (w : mm_P), f + j = NF → PR m w → (∀ i, w 200 i = m 200 i) → (∀ a, a < f → used m a → WTy NB ND NF m a) → mm_WQ (mm_call mm_ms (mm_tb L xs) (d + 8)) (mm_tb L xs) mm_m202 (mm_li mm_m202) Q 66 [some (mm_R 176), some (mm_I (nI f))] [] w ml := by
  have hNF := hI.1.2.2
  have hND := hI.1.2.1
  intro j
  induction j with
  | zero =>
    intro f w h hp h200 hW
    have hf : f = NF := by omega
    subst hf
    have hle : w 176 20 ≤ nI f := by rw [(IM_c hI hp).2.1.2.2]; exact Int32.le_refl _
    exact bk_X12_judge_66 (mm_call_m _) (fun _ => hK w hp h200 hW) (fun z => absurd hle z)
  | succ j ih =>
    intro f w h hp h200 hW
    have hIw := IM_c hI hp
    have hlt : ¬ w 176 20 ≤ nI f := by
      rw [Int32.le_iff_toInt_le, (ix hIw).2, mm_tI (by omega)]
      omega
    have hus : used w f ↔ used m f := by
      unfold used
      rw [h200]
    have ef : (nI f).toNatClampNeg = f := nI_clamp (by omega)
    have vf : vp_in (nI f) 12 := vp_in_nI (by omega) (by decide)
    have h109 : ∀ w, PR m w → (∀ i, w 200 i = m 200 i) → (used m f → WTy NB ND NF m f) → mm_WQ (mm_call mm_ms (mm_tb L xs) (d + 8)) (mm_tb L xs) mm_m202 (mm_li mm_m202) Q 109 [some (mm_R 176), some (mm_I (nI f))] [] w ml := fun w hw hw2 hz => by
      refine bk_X12_judge_109 (mm_call_m _) ?_
      rw [show nI f + 1 = nI (f + 1) from (nI_succ f).symm]
      refine ih (f + 1) w (by omega) hw hw2 (fun a a1 a2 => ?_)
      by_cases ha : a = f
      · subst ha
        exact hz a2
      · exact hW a (by omega) a2
    refine bk_X12_judge_66 (mm_call_m _) (fun z => absurd z hlt) (fun _ => sp_isUsed (by omega) (fun hu1 => bk_X12_judge_79 (s0 := 1) (mm_call_m _) (fun z => absurd z (by decide)) (fun _ => sp_goThrough (by omega) hIw (fun w' TY hG => ?_))) (fun hu1 => bk_X12_judge_79 (s0 := 0) (mm_call_m _) (fun _ => h109 w hp h200 (fun q => absurd (hus.mpr q) hu1)) (fun z => absurd rfl z)))
    have hpw := PR_t hp hG.1
    have hIw' := IM_c hI hpw
    obtain ⟨o1, o2, o3, o4⟩ := hI.2.2.2.2.2.1 f (by omega)
    have hb : ∃ n, n < ND ∧ m 197 f = nI n := o4.resolve_left (hu f (by omega) (hus.mp hu1)).2
    obtain ⟨b, b1, b2⟩ := hb
    have b3 : w' 197 f = nI b := (hpw 197 f (pg_nod (by decide) (by decide))).trans b2
    have b4 : w' 196 f = m 196 f := hpw 196 f (pg_nod (by decide) (by decide))
    refine bk_X12_judge_87 (mm_call_m _) vf ?_ vf (fun z => h109 w' hpw (fun i => (hG.2.2.2.2 200 i (by omega) (by decide) (by omega)).trans (h200 i)) (fun _ => ⟨by omega, b, w', TY, b1, b2, hpw, hG.2.1, hG.2.2.2.1, ?_⟩)) (fun _ => h3 w' hpw)
    · rw [ef, b3]
      exact vp_in_nI (by omega) (by decide)
    · rw [ef, b3, nI_clamp (by omega), b4] at z
      exact z
theorem sp_judge {NB ND NF : Nat} (hI : IM mi NB ND NF) (hQ : ∀ w v, PR mi w → (v = 0 → JO NB ND NF w) → Q (some (mm_I v)) w ml) : mm_cq (mm_call mm_ms (mm_tb L xs) (d + 9)) 202 [mm_R 176] mi ml Q := by
  have hNF := hI.1.2.2
  have h16 : mm_WQ (mm_call mm_ms (mm_tb L xs) (d + 8)) (mm_tb L xs) mm_m202 (mm_li mm_m202) Q 16 [some (mm_R 176), none] [] mi ml := bk_X12_judge_16 (mm_call_m _) (hQ mi _ PR_r (fun z => absurd z (by decide)))
  refine en_X12_judge (bk_X12_judge_0 (mm_call_m _) (fun _ => h16) (fun _ => vp_in_nI (n := 0) (by decide) (by decide)) (fun z z2 => ?_) (fun _ _ => h16))
  have hN0 : 0 < NF := by
    refine Nat.pos_of_ne_zero (fun q => z ?_)
    rw [hI.2.1.2.2, q]
    rfl
  rw [show ((0 : Int32).toNatClampNeg) = 0 from rfl, Int32.le_iff_toInt_le, mm_tt0] at z2
  refine sp_findReach hI (fun w hM hR => bk_X12_judge_22 (mm_call_m _) (judge_24 (IM_c hI (PR_m2 hM)) (hQ w _ (PR_m2 hM) (fun z => absurd z (by decide))) (fun hu => judge_66 (IM_c hI (PR_m2 hM)) hu (fun w' hp h2 hW => ?_) (fun w' hp => hQ w' _ (PR_t (PR_m2 hM) hp) (fun z => absurd z (by decide))) NF 0 w (by omega) PR_r (fun _ => rfl) (fun a ha => absurd ha (Nat.not_lt_zero _))) 12 0 (by omega) (fun a ha => absurd ha (Nat.not_lt_zero _))))
  have hJ : JO NB ND NF w := by
    refine ⟨hN0, by rw [PR_m2 hM 194 0 rfl]; exact z2, fun f f1 hf => hW f (hu f f1 hf).1 hf, fun f g f1 hf hg hd => ?_⟩
    have h1 := hu f f1 hf
    have h3 := hR.1 f f1 h1.1 h1.2 g hg hd
    rcases hf with q | q
    · subst q
      rw [show 12 * 0 + g = g by omega] at h3
      exact .inr h3
    · have h4 := hR.2 f f1 0 g (by decide) hg (by rw [show 12 * 0 + f = f by omega]; exact q) h3
      rw [show 12 * 0 + g = g by omega] at h4
      exact .inr h4
  exact judge_117 (IM_c hI (PR_t (PR_m2 hM) hp)) (fun w2 v k2 k3 => hQ w2 v (PR_t (PR_t (PR_m2 hM) hp) k2) (fun _ => JO_c (PR_t hp k2) (fun i => (k3 i).trans (h2 i)) hJ)) NF 0 w' (by omega) PR_r (fun _ => rfl)
end MMT
