/-! ===== judge() of the model: the same verdict ===== -/
theorem i32_le0 {x : Int32} : x ≤ 0 ↔ x < 1 := by
  rw [Int32.le_iff_toInt_le, Int32.lt_iff_toInt_lt, mm_tt0, mm_tt1]
  omega
theorem i32_le1 {x : Int32} : x ≤ 1 ↔ x < 2 := by
  rw [Int32.le_iff_toInt_le, Int32.lt_iff_toInt_lt, mm_tt1, mm_tt2]
  omega
def BADM (w : mm_P) (f n : Nat) : Prop := ∃ g : Nat, g < 12 ∧ w 189 n = nI g ∧ (g = f ∨ ¬ w 200 (12 * g + f) = 0) ∧ (w 194 f < w 194 g ∨ (¬ w 194 g ≤ 0 ∧ ¬ w 191 n = 2) ∨ (¬ w 194 g ≤ 1 ∧ ¬ w 192 n = 3))
section MMT
variable {L : Nat} {xs : Nat → Int32} {d : Nat} {Q : mm_QQ} {mi : mm_P} {ml : mm_G} {lim : Nat × Nat} {NB ND NF : Nat}
theorem mr_7 {f : Nat} (hI : IM mi NB ND NF) (hf : f < NF) (h1 : (∀ k, k < ND → ¬ mi 199 k = 0 → mi 188 k = 14 → ¬ BADM mi f k) → Q (some (mm_I 1)) mi ml) (h0 : ∀ k, k < ND → ¬ mi 199 k = 0 → mi 188 k = 14 → BADM mi f k → Q (some (mm_I 0)) mi ml) : ∀ (j n : Nat) {x3 x4 : Option mm_V}, n + j = ND → (∀ k, k < n → ¬ mi 199 k = 0 → mi 188 k = 14 → ¬ BADM mi f k) → mm_WQ (mm_call mm_ms (mm_tb L xs) d) (mm_tb L xs) mm_m201 lim Q 7 [some (mm_R 176), some (mm_I (nI f)), some (mm_I (nI n)), x3, x4] [] mi ml := by
  have hND := hI.1.2.1
  have hNF := hI.1.2.2
  have e13 := (ix hI).1
  intro j
  induction j with
  | zero =>
    intro n x3 x4 h hA
    have hn : n = ND := by omega
    subst hn
    have hle : mi 176 13 ≤ nI n := by rw [hI.2.1.2.1]; exact Int32.le_refl _
    have hn' : ∀ {P : Prop}, ¬ mi 176 13 ≤ nI n → P := fun z => absurd hle z
    exact bk_X12_isRegular_7 (mm_call_m _) (fun _ => h1 hA) (fun z => hn' z) (fun z => hn' z) (fun z => hn' z) (fun z => hn' z) (fun z => hn' z) (fun z => hn' z) (fun z => hn' z) (fun z => hn' z) (fun z => hn' z) (fun z => hn' z) (fun z => hn' z) (fun z => hn' z) (fun z => hn' z) (fun z => hn' z) (fun z => hn' z) (fun z => hn' z) (fun z => hn' z)
  | succ j ih =>
    intro n x3 x4 h hA
    have hlt : ¬ mi 176 13 ≤ nI n := by
      rw [Int32.le_iff_toInt_le, e13, mm_tI (by omega)]
      omega
    have vn : vp_in (nI n) 200 := vp_in_nI (by omega) (by decide)
    have en : (nI n).toNatClampNeg = n := nI_clamp (by omega)
    have ef : (nI f).toNatClampNeg = f := nI_clamp (by omega)
    have es : nI n + 1 = nI (n + 1) := (nI_succ n).symm
    have vf : vp_in (nI f) 12 := vp_in_nI (by omega) (by decide)
    have h129 : (¬ mi 199 n = 0 → mi 188 n = 14 → ¬ BADM mi f n) → ∀ {y3 y4 : Option mm_V}, mm_WQ (mm_call mm_ms (mm_tb L xs) d) (mm_tb L xs) mm_m201 lim Q 129 [some (mm_R 176), some (mm_I (nI f)), some (mm_I (nI n)), y3, y4] [] mi ml := fun q {y3 y4} => by
      refine bk_X12_isRegular_129 (mm_call_m _) ?_
      rw [es]
      refine ih (n + 1) (by omega) (fun k hk => ?_)
      by_cases hkn : k = n
      · subst hkn
        exact q
      · exact hA k (by omega)
    have hcall : mi 188 n = 14 → ∃ g, g < 12 ∧ mi 189 n = nI g := fun z => by
      obtain ⟨c1, c2, c3, c4, c5⟩ := hI.2.2.2.2.1 n (by omega)
      obtain ⟨g, g1, g2, g3, g4⟩ := mm_of (c5 z).1.1 (c5 z).1.2
      exact ⟨g, by omega, g1⟩
    -- a call of g that is of the round
    have h61 : ∀ {g : Nat} {y4 : Option mm_V}, ¬ mi 199 n = 0 → mi 188 n = 14 → g < 12 → mi 189 n = nI g → (g = f ∨ ¬ mi 200 (12 * g + f) = 0) → mm_WQ (mm_call mm_ms (mm_tb L xs) d) (mm_tb L xs) mm_m201 lim Q 61 [some (mm_R 176), some (mm_I (nI f)), some (mm_I (nI n)), some (mm_I (nI g)), y4] [] mi ml := fun {g y4} hin hk hg hgn hr => by
      have eg : (nI g).toNatClampNeg = g := nI_clamp (by omega)
      have h127 : (mi 194 f < mi 194 g ∨ (¬ mi 194 g ≤ 0 ∧ ¬ mi 191 n = 2) ∨ (¬ mi 194 g ≤ 1 ∧ ¬ mi 192 n = 3)) → ∀ {y : Int32}, mm_WQ (mm_call mm_ms (mm_tb L xs) d) (mm_tb L xs) mm_m201 lim Q 127 [some (mm_R 176), some (mm_I (nI f)), some (mm_I (nI n)), some (mm_I (nI g)), some (mm_I y)] [] mi ml := fun q {y} => bk_X12_isRegular_127 (mm_call_m _) (h0 n (by omega) hin hk ⟨g, hg, hgn, hr, q⟩)
      have hok : ¬ (mi 194 f < mi 194 g ∨ (¬ mi 194 g ≤ 0 ∧ ¬ mi 191 n = 2) ∨ (¬ mi 194 g ≤ 1 ∧ ¬ mi 192 n = 3)) → ¬ BADM mi f n := fun q ⟨g', g1, g2, g3, g4⟩ => by
        have : g = g' := nI_inj (by omega) (by omega) (hgn.symm.trans g2)
        subst this
        exact q g4
      have h107 : ¬ mi 194 f < mi 194 g → ¬ (¬ mi 194 g ≤ 0 ∧ ¬ mi 191 n = 2) → ∀ {y : Int32}, mm_WQ (mm_call mm_ms (mm_tb L xs) d) (mm_tb L xs) mm_m201 lim Q 107 [some (mm_R 176), some (mm_I (nI f)), some (mm_I (nI n)), some (mm_I (nI g)), some (mm_I y)] [] mi ml := fun a b {y} => by
        refine bk_X12_isRegular_107 (mm_call_m _) (vp_in_nI hg (by decide)) (fun z => h129 (fun _ _ => hok (fun q => ?_))) (fun _ => vn) (fun _ z => h129 (fun _ _ => hok (fun q => ?_))) (fun z z2 => h127 (.inr (.inr ?_)))
        · rw [eg] at z
          exact q.elim a (fun q => q.elim b (fun q => q.1 z))
        · rw [en] at z
          exact q.elim a (fun q => q.elim b (fun q => q.2 z))
        · rw [eg] at z
          rw [en] at z2
          exact ⟨z, z2⟩
      refine bk_X12_isRegular_61 (mm_call_m _) (fun z => absurd z (by decide)) (fun _ => vp_in_nI hg (by decide)) (fun _ => vf) (fun _ z => h127 (.inl ?_)) (fun _ _ => vp_in_nI hg (by decide)) (fun _ z z2 => h107 ?_ (fun q => ?_)) (fun _ _ _ => vn) (fun _ z z2 z3 => h127 (.inr (.inl ?_))) (fun _ z z2 z3 => h107 ?_ (fun q => ?_))
      · rw [ef, eg] at z
        exact z
      · rw [ef, eg] at z
        exact z
      · rw [eg] at z2
        exact q.1 z2
      · rw [eg] at z2
        rw [en] at z3
        exact ⟨z2, z3⟩
      · rw [ef, eg] at z
        exact z
      · rw [en] at z3
        exact q.2 z3
    refine bk_X12_isRegular_7 (mm_call_m _) (fun z => absurd z hlt) (fun _ => vn) (fun _ z => h129 (fun q => ?_)) (fun _ _ => vn) (fun _ _ z => h129 (fun _ q => ?_)) (fun _ _ _ => vn) (fun _ y z z2 => ?_) (fun _ _ z _ => ?_) (fun _ y z z2 z3 _ => ?_) (fun _ _ _ _ _ z => absurd rfl z) (fun _ _ _ _ _ z => absurd rfl z) (fun _ _ _ _ _ z => absurd rfl z) (fun _ _ _ _ _ z => absurd rfl z) (fun _ _ _ _ _ z => absurd rfl z) (fun _ _ _ _ _ z => absurd rfl z) (fun _ _ _ _ _ z => absurd rfl z) (fun _ _ _ _ _ z => absurd rfl z) (fun _ y z _ z3 => ?_)
    · rw [en] at z
      exact absurd z q
    · rw [en] at z
      exact absurd q z
    · rw [en] at y z z2 ⊢
      obtain ⟨g, g1, g2⟩ := hcall z
      rw [g2] at z2 ⊢
      exact h61 y z g1 g2 (.inl (nI_inj (by omega) (by omega) z2))
    · rw [en] at z ⊢
      obtain ⟨g, g1, g2⟩ := hcall z
      rw [g2, rx g1 (by omega)]
      exact vp_in_nI (by omega) (by decide)
    · rw [en] at z z2 z3
      obtain ⟨g, g1, g2⟩ := hcall z
      rw [g2] at z2
      rw [g2, rx g1 (by omega), nI_clamp (by omega)] at z3
      refine h129 (fun _ _ ⟨g', g1', g2', g3', g4'⟩ => ?_)
      have : g = g' := nI_inj (by omega) (by omega) (g2.symm.trans g2')
      subst this
      rcases g3' with q | q
      · exact z2 (by rw [q])
      · exact q z3
    · rw [en] at y z z3 ⊢
      obtain ⟨g, g1, g2⟩ := hcall z
      rw [g2, rx g1 (by omega), nI_clamp (by omega)] at z3
      rw [g2]
      exact h61 y z g1 g2 (.inr z3)
/-- isRegular() over the program m: T is what is reached -/
theorem sx_isRegularM {f : Nat} {m : mm_P} (hIm : IM m NB ND NF) (hN : NC ND m) (hF : FC NF m ml) (hp : PR m mi) (hT : ∀ a c, a < 12 → c < 12 → (¬ mi 200 (12 * a + c) = 0 ↔ RCH (DE m) a c)) (hf : f < NF) (hU : UR m f) (hV2 : ¬ V2 m) (h1 : ∀ w, MF 199 mi w → ¬ IRR m f → Q (some (mm_I 1)) w ml) (h0 : ∀ w, MF 199 mi w → IRR m f → Q (some (mm_I 0)) w ml) : mm_cq (mm_call mm_ms (mm_tb L xs) (d + 3)) 201 [mm_R 176, mm_I (nI f)] mi ml Q := by
  have hI := IM_c hIm hp
  have hND := hI.1.2.1
  have hNF := hI.1.2.2
  have e97 : (m 9 7).toInt = NF := by rw [hF.1]; exact mm_tI (by omega)
  have h8 : ∀ c i, 188 ≤ c → c ≤ 197 → mi c i = m c i := fun c i a b => hp c i (pg_nod a b)
  have hf15 : m 15 f = m 197 f := (hF.2 f hf).2.2.2.1
  obtain ⟨b, b1, b2⟩ := (hIm.2.2.2.2.2.1 f hf).2.2.2.resolve_left (fun y => hV2 ⟨f, by omega, hU, .inr (hf15.trans y)⟩)
  refine en_X12_isRegular (bk_X12_isRegular_0 (mm_call_m _) (sx_mark hI hf (S := fun p => BL m b p) (fun q q1 q2 i i0 i1 => BL_cl hIm hN h8 q q1 q2 i i0 i1) (fun b' b1' b2' => ?_) (fun w g1 gS gM => bk_X12_isRegular_5 (mm_call_m _) ?_)))
  · have : b = b' := nI_inj (by omega) (by omega) (b2.symm.trans ((h8 197 f (by decide) (by decide)).symm.trans b2'))
    rw [← this]
    exact BL_r
  have h8' : ∀ c i, 188 ≤ c → c ≤ 197 → w c i = m c i := fun c i p q => (g1 c i (by omega)).trans (h8 c i p q)
  have hIw := IM_c hI (PR_mf g1 (by omega))
  have hin : ∀ p, p < ND → (¬ w 199 p = 0 ↔ BL m b p) := fun p hp => isIn_iff hIm hN h8' b1 b2 gS gM hp
  -- a bad call, in both ways
  have hbad : ∀ k, k < ND → ¬ w 199 k = 0 → w 188 k = 14 → (BADM w f k ↔ ∃ g, g < 12 ∧ m 6 (4 * k) = nI g ∧ (g = f ∨ RCH (DE m) g f) ∧ IRB m f k g) := fun k hk hi h14 => by
    have k14 : m 188 k = 14 := (h8' 188 k (by decide) (by decide)).symm.trans h14
    obtain ⟨e4, e5, e0, e1, e2, e3⟩ := hN.2 k hk
    have e0' := e0 (by rw [k14]; decide)
    have e2' := e2 (.inr k14)
    have e3' := e3 k14
    have hbl := (hin k hk).mp hi
    have hgN : ∀ g, g < 12 → m 6 (4 * k) = nI g → g < NF := fun g hg h6 => by
      have hde : DE m f g := ⟨b, by omega, by omega, hf15.trans b2, k, hbl, e4.trans k14, h6⟩
      have hUg : UR m g := by
        rcases hU with y | y
        · rw [y] at hde
          exact .inr (RCH_1 hg hde)
        · exact .inr (RCH_s (by omega) hg y hde)
      by_cases c : g < NF
      · exact c
      · exact absurd ⟨g, hg, hUg, .inl (by omega)⟩ hV2
    have hl : ∀ g, g < NF → w 194 g = m 10 g := fun g hg => (h8' 194 g (by decide) (by decide)).trans (hF.2 g hg).1.symm
    have hT' : ∀ g, g < 12 → (¬ w 200 (12 * g + f) = 0 ↔ RCH (DE m) g f) := fun g hg => by
      rw [g1 200 _ (by decide)]
      exact hT g f hg (by omega)
    have hI1 : w 191 k = m 6 (4 * k + 2) := (h8' 191 k (by decide) (by decide)).trans e2'.symm
    have hI2 : w 192 k = m 6 (4 * k + 3) := (h8' 192 k (by decide) (by decide)).trans e3'.symm
    constructor
    · rintro ⟨g, g1', g2', g3', g4'⟩
      have h6 : m 6 (4 * k) = nI g := e0'.trans ((h8' 189 k (by decide) (by decide)).symm.trans g2')
      refine ⟨g, g1', h6, g3'.imp id (hT' g g1').mp, ?_⟩
      rw [hl f hf, hl g (hgN g g1' h6), hI1, hI2, i32_le0, i32_le1] at g4'
      exact g4'
    · rintro ⟨g, g1', g2', g3', g4'⟩
      refine ⟨g, g1', (h8' 189 k (by decide) (by decide)).trans (e0'.symm.trans g2'), g3'.imp id (hT' g g1').mpr, ?_⟩
      rw [hl f hf, hl g (hgN g g1' g2'), hI1, hI2, i32_le0, i32_le1]
      exact g4'
  refine mr_7 hIw hf (fun hA => h1 w g1 (fun ⟨b', n, g, c1, c2, c3, q1, q2, q3, q4, q5, q6⟩ => ?_)) (fun k k1 k2 k3 k4 => h0 w g1 ?_) ND 0 (by omega) (fun k hk => absurd hk (Nat.not_lt_zero _))
  · have eb : b = b' := nI_inj (by omega) (by omega) (b2.symm.trans (hf15.symm.trans c3))
    subst eb
    have hnb := BL_le hND (fun q hq => okK_of hIm hN hq) b1 q1
    have hi := (hin n (by omega)).mpr q1
    have h14 : w 188 n = 14 := (h8' 188 n (by decide) (by decide)).trans ((hN.2 n (by omega)).1.symm.trans q2)
    exact hA n (by omega) hi h14 ((hbad n (by omega) hi h14).mpr ⟨g, q3, q4, q5, q6⟩)
  · obtain ⟨g, a1, a2, a3, a4⟩ := (hbad k k1 k2 k3).mp k4
    exact ⟨b, k, g, by omega, by omega, hf15.trans b2, (hin k k1).mp k2, (hN.2 k k1).1.trans ((h8' 188 k (by decide) (by decide)).symm.trans k3), a1, a2, a3, a4⟩
theorem jm_24 {m : mm_P} (hIm : IM m NB ND NF) (hF : FC NF m ml) (hI : IM mi NB ND NF) (hp : PR m mi) (hu : ∀ f, f < 12 → (used mi f ↔ UR m f)) (h2 : V2 m → Q (some (mm_I 2)) mi ml) (hK : ¬ V2 m → mm_WQ (mm_call mm_ms (mm_tb L xs) (d + 2)) (mm_tb L xs) mm_m202 (mm_li mm_m202) Q 66 [some (mm_R 176), some (mm_I 0)] [] mi ml) : ∀ (j f : Nat), f + j = 12 → (∀ a, a < f → UR m a → ¬ ((m 9 7).toInt ≤ (a : Int) ∨ m 15 a = -1)) → mm_WQ (mm_call mm_ms (mm_tb L xs) (d + 2)) (mm_tb L xs) mm_m202 (mm_li mm_m202) Q 24 [some (mm_R 176), some (mm_I (nI f))] [] mi ml := by
  have hNF := hI.1.2.2
  have e97 : (m 9 7).toInt = NF := by rw [hF.1]; exact mm_tI (by omega)
  intro j
  induction j with
  | zero =>
    intro f h hA
    have hf : f = 12 := by omega
    subst hf
    exact bk_X12_judge_24 (mm_call_m _) (fun _ => hK (fun ⟨a, a1, a2, a3⟩ => hA a a1 a2 a3)) (fun z => absurd (by decide) z)
  | succ j ih =>
    intro f h hA
    have hf : f < 12 := by omega
    have ef : (nI f).toNatClampNeg = f := nI_clamp (by omega)
    have h58 : (UR m f → ¬ ((m 9 7).toInt ≤ (f : Int) ∨ m 15 f = -1)) → mm_WQ (mm_call mm_ms (mm_tb L xs) (d + 2)) (mm_tb L xs) mm_m202 (mm_li mm_m202) Q 58 [some (mm_R 176), some (mm_I (nI f))] [] mi ml := fun hz => by
      refine bk_X12_judge_58 (mm_call_m _) ?_
      rw [show nI f + 1 = nI (f + 1) from (nI_succ f).symm]
      refine ih (f + 1) (by omega) (fun a a1 a2 => ?_)
      by_cases ha : a = f
      · subst ha
        exact hz a2
      · exact hA a (by omega) a2
    have h56 : V2 m → mm_WQ (mm_call mm_ms (mm_tb L xs) (d + 2)) (mm_tb L xs) mm_m202 (mm_li mm_m202) Q 56 [some (mm_R 176), some (mm_I (nI f))] [] mi ml := fun q => bk_X12_judge_56 (mm_call_m _) (h2 q)
    refine bk_X12_judge_24 (mm_call_m _) (fun z => absurd z (n12 hf)) (fun _ => sp_isUsed hf (fun hus => bk_X12_judge_35 (s0 := 1) (mm_call_m _) (fun z => absurd z (by decide)) (fun _ => sp_fun hI (fun g g1 g2 => bk_X12_judge_43 (s0 := 1) (mm_call_m _) (fun z => absurd z (by decide)) (fun _ => vp_in_nI (by omega) (by decide)) (fun _ z => ?_) (fun _ z => ?_)) (fun q => bk_X12_judge_43 (s0 := 0) (mm_call_m _) (fun _ => h56 ⟨f, hf, (hu f hf).mp hus, .inl ?_⟩) (fun z => absurd rfl z) (fun z => absurd rfl z) (fun z => absurd rfl z)))) (fun hus => bk_X12_judge_35 (s0 := 0) (mm_call_m _) (fun _ => h58 (fun q => absurd ((hu f hf).mpr q) hus)) (fun z => absurd rfl z)))
    · have hfg : f = g := nI_inj (by omega) (by omega) g2
      rw [ef] at z
      refine h58 (fun _ q => ?_)
      rcases q with q | q
      · omega
      · rw [(hF.2 f (by omega)).2.2.2.1, ← hp 197 f (pg_nod (by decide) (by decide))] at q
        exact z q
    · have hfg : f = g := nI_inj (by omega) (by omega) g2
      rw [ef, hp 197 f (pg_nod (by decide) (by decide))] at z
      exact h56 ⟨f, hf, (hu f hf).mp hus, .inr ((hF.2 f (by omega)).2.2.2.1.trans z)⟩
    · by_cases c : f < NF
      · exact absurd rfl (q f c)
      · omega
theorem jm_117 {m : mm_P} (hIm : IM m NB ND NF) (hN : NC ND m) (hF : FC NF m ml) (hV2 : ¬ V2 m) (h1 : ∀ w, PR m w → ¬ V4 m → Q (some (mm_I 0)) w ml) (h0 : ∀ w, PR m w → V4 m → Q (some (mm_I 4)) w ml) : ∀ (j f : Nat) (w : mm_P), f + j = NF → PR m w → (∀ a c, a < 12 → c < 12 → (¬ w 200 (12 * a + c) = 0 ↔ RCH (DE m) a c)) → (∀ a, a < f → UR m a → ¬ IRR m a) → mm_WQ (mm_call mm_ms (mm_tb L xs) (d + 3)) (mm_tb L xs) mm_m202 (mm_li mm_m202) Q 117 [some (mm_R 176), some (mm_I (nI f))] [] w ml := by
  have hNF := hIm.1.2.2
  have e97 : (m 9 7).toInt = NF := by rw [hF.1]; exact mm_tI (by omega)
  intro j
  induction j with
  | zero =>
    intro f w h hp hT hA
    have hf : f = NF := by omega
    subst hf
    have hle : w 176 20 ≤ nI f := by rw [(IM_c hIm hp).2.1.2.2]; exact Int32.le_refl _
    refine bk_X12_judge_117 (mm_call_m _) (fun _ => h1 w hp (fun ⟨a, a1, a2, a3⟩ => ?_)) (fun z => absurd hle z)
    obtain ⟨b, n, g, c1, c2, -⟩ := id a3
    exact hA a (by omega) a2 a3
  | succ j ih =>
    intro f w h hp hT hA
    have hIw := IM_c hIm hp
    have hlt : ¬ w 176 20 ≤ nI f := by
      rw [Int32.le_iff_toInt_le, (ix hIw).2, mm_tI (by omega)]
      omega
    have h143 : ∀ w, PR m w → (∀ a c, a < 12 → c < 12 → (¬ w 200 (12 * a + c) = 0 ↔ RCH (DE m) a c)) → (UR m f → ¬ IRR m f) → mm_WQ (mm_call mm_ms (mm_tb L xs) (d + 3)) (mm_tb L xs) mm_m202 (mm_li mm_m202) Q 143 [some (mm_R 176), some (mm_I (nI f))] [] w ml := fun w hw hw2 q => by
      refine bk_X12_judge_143 (mm_call_m _) ?_
      rw [show nI f + 1 = nI (f + 1) from (nI_succ f).symm]
      refine ih (f + 1) w (by omega) hw hw2 (fun a a1 a2 => ?_)
      by_cases ha : a = f
      · subst ha
        exact q a2
      · exact hA a (by omega) a2
    have hu : used w f ↔ UR m f := by
      have := hT 0 f (by decide) (by omega)
      rw [show 12 * 0 + f = f by omega] at this
      unfold used UR
      rw [this]
    have hT' : ∀ w', MF 199 w w' → ∀ a c, a < 12 → c < 12 → (¬ w' 200 (12 * a + c) = 0 ↔ RCH (DE m) a c) := fun w' g a c ha hc => by
      rw [g 200 _ (by decide)]
      exact hT a c ha hc
    refine bk_X12_judge_117 (mm_call_m _) (fun z => absurd z hlt) (fun _ => sp_isUsed (by omega) (fun hus => bk_X12_judge_130 (s0 := 1) (mm_call_m _) (fun z => absurd z (by decide)) (fun _ => sx_isRegularM hIm hN hF hp hT (by omega) (hu.mp hus) hV2 (fun w' g1 q => bk_X12_judge_138 (mm_call_m _) (fun _ => h143 w' (PR_t hp (PR_mf g1 (by omega))) (hT' w' g1) (fun _ => q)) (fun y => absurd y (by decide))) (fun w' g1 q => bk_X12_judge_138 (mm_call_m _) (fun y => absurd rfl y) (fun _ => h0 w' (PR_t hp (PR_mf g1 (by omega))) ⟨f, by omega, hu.mp hus, q⟩)))) (fun hus => bk_X12_judge_130 (s0 := 0) (mm_call_m _) (fun _ => h143 w hp hT (fun q => absurd (hu.mpr q) hus)) (fun z => absurd rfl z)))
theorem jm_66 {m : mm_P} (hCJ : CJ m ml) (hIm : IM m NB ND NF) (hN : NC ND m) (hF : FC NF m ml) (hV2 : ¬ V2 m) (h3 : ∀ w, PR m w → V3 m ml → Q (some (mm_I 3)) w ml) (hK : ¬ V3 m ml → ∀ w, PR m w → (∀ a c, a < 12 → c < 12 → (¬ w 200 (12 * a + c) = 0 ↔ RCH (DE m) a c)) → mm_WQ (mm_call mm_ms (mm_tb L xs) (d + 8)) (mm_tb L xs) mm_m202 (mm_li mm_m202) Q 117 [some (mm_R 176), some (mm_I 0)] [] w ml) : ∀ (j f : Nat) (w : mm_P), f + j = NF → PR m w → (∀ a c, a < 12 → c < 12 → (¬ w 200 (12 * a + c) = 0 ↔ RCH (DE m) a c)) → (∀ a b : Nat, a < f → UR m a → b < 200 → m 15 a = nI b → ml (19 + a) b = ml 14 a) → mm_WQ (mm_call mm_ms (mm_tb L xs) (d + 8)) (mm_tb L xs) mm_m202 (mm_li mm_m202) Q 66 [some (mm_R 176), some (mm_I (nI f))] [] w ml := by
  have hNB := hIm.1.1
  have hND := hIm.1.2.1
  have hNF := hIm.1.2.2
  have e97 : (m 9 7).toInt = NF := by rw [hF.1]; exact mm_tI (by omega)
  intro j
  induction j with
  | zero =>
    intro f w h hp hT hA
    have hf : f = NF := by omega
    subst hf
    have hle : w 176 20 ≤ nI f := by rw [(IM_c hIm hp).2.1.2.2]; exact Int32.le_refl _
    exact bk_X12_judge_66 (mm_call_m _) (fun _ => hK (fun ⟨a, b, a1, a2, b1, b2, b3, b4⟩ => b4 (hA a b (by omega) a2 b1 b3)) w hp hT) (fun z => absurd hle z)
  | succ j ih =>
    intro f w h hp hT hA
    have hf : f < NF := by omega
    have hIw := IM_c hIm hp
    have hlt : ¬ w 176 20 ≤ nI f := by
      rw [Int32.le_iff_toInt_le, (ix hIw).2, mm_tI (by omega)]
      omega
    have ef : (nI f).toNatClampNeg = f := nI_clamp (by omega)
    have vf : vp_in (nI f) 12 := vp_in_nI (by omega) (by decide)
    have h109 : ∀ w, PR m w → (∀ a c, a < 12 → c < 12 → (¬ w 200 (12 * a + c) = 0 ↔ RCH (DE m) a c)) → (∀ b : Nat, UR m f → b < 200 → m 15 f = nI b → ml (19 + f) b = ml 14 f) → mm_WQ (mm_call mm_ms (mm_tb L xs) (d + 8)) (mm_tb L xs) mm_m202 (mm_li mm_m202) Q 109 [some (mm_R 176), some (mm_I (nI f))] [] w ml := fun w hw hw2 q => by
      refine bk_X12_judge_109 (mm_call_m _) ?_
      rw [show nI f + 1 = nI (f + 1) from (nI_succ f).symm]
      refine ih (f + 1) w (by omega) hw hw2 (fun a b a1 a2 => ?_)
      by_cases ha : a = f
      · subst ha
        exact q b a2
      · exact hA a b (by omega) a2
    have hu : used w f ↔ UR m f := by
      have := hT 0 f (by decide) (by omega)
      rw [show 12 * 0 + f = f by omega] at this
      unfold used UR
      rw [this]
    have hCJw := CJ_p hCJ hp
    obtain ⟨hIC', ⟨NB', ND', NF', hI', hT', hN', hF'⟩, -⟩ := id hCJw.1
    have eB : NB' = NB := nI_inj (by have := hI'.1.1; omega) (by omega) (hI'.2.1.1.symm.trans hIw.2.1.1)
    have eD : ND' = ND := nI_inj (by have := hI'.1.2.1; omega) (by omega) (hI'.2.1.2.1.symm.trans hIw.2.1.2.1)
    have eF : NF' = NF := nI_inj (by have := hI'.1.2.2; omega) (by omega) (hI'.2.1.2.2.symm.trans hIw.2.1.2.2)
    subst eB eD eF
    refine bk_X12_judge_66 (mm_call_m _) (fun z => absurd z hlt) (fun _ => sp_isUsed (by omega) (fun hus => bk_X12_judge_79 (s0 := 1) (mm_call_m _) (fun z => absurd z (by decide)) (fun _ => sx_goThrough (JT_XS hI' hT' hN' hF' (hCJw.2 ND' NF' hN'.1 hF'.1 hND hNF) hf) (fun w' TY hG => ?_))) (fun hus => bk_X12_judge_79 (s0 := 0) (mm_call_m _) (fun _ => h109 w hp hT (fun b q => absurd (hu.mpr q) hus)) (fun z => absurd rfl z)))
    have hU := hu.mp hus
    have hpw := PR_t hp hG.1
    have hIw' := IM_c hIm hpw
    have hf15 : m 15 f = m 197 f := (hF.2 f hf).2.2.2.1
    obtain ⟨o1, o2, ⟨t, t1, t2, t3⟩, o4⟩ := hIm.2.2.2.2.2.1 f hf
    obtain ⟨b, b1, b2⟩ := o4.resolve_left (fun y => hV2 ⟨f, by omega, hU, .inr (hf15.trans y)⟩)
    have b3 : w' 197 f = nI b := (hpw 197 f (pg_nod (by decide) (by decide))).trans b2
    have b4 : w' 196 f = nI t := (hpw 196 f (pg_nod (by decide) (by decide))).trans t2
    have h14 : ml 14 f = ml 2 t := by rw [(hF.2 f hf).2.2.2.2.2, t2, nI_clamp (by omega)]
    have hWw := TX_W hG.2.1
    have hTw : TC NB' w' ml := TC_c hT' (hG.1 1 1 rfl) (fun t ht c a b => hG.1 c t (pg_row a b (by omega))) (fun _ _ => rfl)
    have hst : SHV w' t = ml 2 t := SHV_ml hWw hTw t1
    have hT2 : ∀ a c, a < 12 → c < 12 → (¬ w' 200 (12 * a + c) = 0 ↔ RCH (DE m) a c) := fun a c ha hc => by
      rw [hG.2.2.2.2 200 _ (by omega) (by decide) (by omega)]
      exact hT a c ha hc
    have hiff : w' 198 b = nI t ↔ ml (19 + f) b = ml 14 f := by
      rw [h14, ← hst]
      have ht0 : vd NB' TY t := .inl t1
      have hdt : (w' 180 t).toInt ≤ 5 := (hIw'.2.2.2.1 t t1).1.2
      have h0t := (SHV_r hWw ht0 hdt).1.1
      rcases hG.2.2.2.1 b b1 with ⟨q1, q2⟩ | ⟨r, q1, q2, q3, q4⟩
      · rw [q1, q2]
        exact ⟨fun y => absurd y.symm (nI_ne (by omega)), fun y => by rw [← y, mm_lln] at h0t; omega⟩
      · rw [q1, ← q4]
        exact (SHV_iff hWw hG.2.1.2.2 q2 ht0 q3).symm
    refine bk_X12_judge_87 (mm_call_m _) vf ?_ vf (fun z => h109 w' hpw hT2 (fun b' _ c1 c2 => ?_)) (fun z => h3 w' hpw ⟨f, b, by omega, hU, by omega, by omega, hf15.trans b2, fun y => z ?_⟩)
    · rw [ef, b3]
      exact vp_in_nI (by omega) (by decide)
    · rw [ef, b3, nI_clamp (by omega), b4] at z
      have : b = b' := nI_inj (by omega) (by omega) (b2.symm.trans (hf15.symm.trans c2))
      rw [← this]
      exact hiff.mp z
    · rw [ef, b3, nI_clamp (by omega), b4]
      exact hiff.mpr y
/-- judge(): the model's verdict -/
theorem sx_mjudge (hCJ : CJ mi ml) (hQ : ∀ w v, PR mi w → VP mi ml v → Q (some (mm_I v)) w ml) : mm_cq (mm_call mm_ms (mm_tb L xs) (d + 9)) 202 [mm_R 176] mi ml Q := by
  obtain ⟨hIC, ⟨NB, ND, NF, hI, hT, hN, hF⟩, h51, h41, hin⟩ := id hCJ.1
  have hNF := hI.1.2.2
  have e97 : (mi 9 7).toInt = NF := by rw [hF.1]; exact mm_tI (by omega)
  have h16 : V1 mi → mm_WQ (mm_call mm_ms (mm_tb L xs) (d + 8)) (mm_tb L xs) mm_m202 (mm_li mm_m202) Q 16 [some (mm_R 176), none] [] mi ml := fun q => bk_X12_judge_16 (mm_call_m _) (hQ mi 1 PR_r (.inl ⟨rfl, q⟩))
  have hN0 : ¬ mi 176 20 = 0 → 0 < NF := fun z => by
    refine Nat.pos_of_ne_zero (fun q => z ?_)
    rw [hI.2.1.2.2, q]
    rfl
  refine en_X12_judge (bk_X12_judge_0 (mm_call_m _) (fun z => h16 (.inl ?_)) (fun _ => vp_in_nI (n := 0) (by decide) (by decide)) (fun z z2 => ?_) (fun z z2 => h16 (.inr ?_)))
  · rw [hI.2.1.2.2] at z
    have := congrArg Int32.toInt z
    rw [mm_tI (by omega), mm_tt0] at this
    omega
  · rw [show ((0 : Int32).toNatClampNeg) = 0 from rfl, Int32.le_iff_toInt_le, mm_tt0] at z2
    have h0 := hN0 z
    have hl := (hI.2.2.2.2.2.1 0 h0).1
    have hV1 : ¬ V1 mi := fun q => by
      rcases q with q | q
      · omega
      · refine q ((hF.2 0 h0).1.trans (Int32.toInt_inj.mp ?_))
        rw [mm_tt0]
        omega
    refine sx_findReach hI hN hF (fun w hM hR => bk_X12_judge_22 (mm_call_m _) ?_)
    have hp := PR_m2 hM
    have hu : ∀ f, f < 12 → (used w f ↔ UR mi f) := fun f hf => by
      have := hR 0 f (by decide) hf
      rw [show 12 * 0 + f = f by omega] at this
      unfold used UR
      rw [this]
    exact jm_24 (d := d + 6) hI hF (IM_c hI hp) hp hu (fun y2 => hQ w 2 hp (.inr (.inl ⟨rfl, hV1, y2⟩))) (fun y2 => jm_66 (d := d) hCJ hI hN hF y2 (fun w' hp' y3 => hQ w' 3 hp' (.inr (.inr (.inl ⟨rfl, hV1, y2, y3⟩)))) (fun y3 w' hp' hR' => jm_117 (d := d + 5) hI hN hF y2 (fun w2 hp2 y4 => hQ w2 0 hp2 (.inr (.inr (.inr (.inr ⟨rfl, hV1, y2, y3, y4⟩))))) (fun w2 hp2 y4 => hQ w2 4 hp2 (.inr (.inr (.inr (.inl ⟨rfl, hV1, y2, y3, y4⟩))))) NF 0 w' (by omega) hp' hR' (fun a ha => absurd ha (Nat.not_lt_zero _))) NF 0 w (by omega) hp hR (fun a b ha => absurd ha (Nat.not_lt_zero _))) 12 0 (by omega) (fun a ha => absurd ha (Nat.not_lt_zero _))
  · rw [show ((0 : Int32).toNatClampNeg) = 0 from rfl, Int32.le_iff_toInt_le, mm_tt0] at z2
    have h0 := hN0 z
    intro y
    rw [(hF.2 0 h0).1] at y
    rw [y, mm_tt0] at z2
    omega
end MMT
