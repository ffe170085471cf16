/-! ===== count(), digest(), input(), empty() of both ===== -/
def dT (m : mm_P) (t : Nat) (h : Int64) : Int64 := (31 * ((31 * ((31 * ((31 * h) + Int32.toInt64 (m 177 t))) + Int32.toInt64 (m 178 t))) + Int32.toInt64 (m 179 t))) + Int32.toInt64 (m 180 t)
def fT (m : mm_P) : Nat → Int64 → Int64
  | 0, h => h
  | t + 1, h => dT m t (fT m t h)
def dN (m : mm_P) (n : Nat) (h : Int64) : Int64 := if m 188 n = 2 then (31 * h) + Int32.toInt64 (m 188 n) else if m 188 n = 14 then (31 * ((31 * ((31 * ((31 * ((31 * h) + Int32.toInt64 (m 188 n))) + Int32.toInt64 (m 189 n))) + Int32.toInt64 (m 190 n))) + Int32.toInt64 (m 191 n))) + Int32.toInt64 (m 192 n) else if f_parts (m 188 n) = 3 then (31 * ((31 * ((31 * ((31 * h) + Int32.toInt64 (m 188 n))) + Int32.toInt64 (m 189 n))) + Int32.toInt64 (m 190 n))) + Int32.toInt64 (m 191 n) else if f_parts (m 188 n) = 2 then (31 * ((31 * ((31 * h) + Int32.toInt64 (m 188 n))) + Int32.toInt64 (m 189 n))) + Int32.toInt64 (m 190 n) else (31 * ((31 * h) + Int32.toInt64 (m 188 n))) + Int32.toInt64 (m 189 n)
def fN (m : mm_P) : Nat → Int64 → Int64
  | 0, h => h
  | n + 1, h => dN m n (fN m n h)
def dF (m : mm_P) (f : Nat) (h : Int64) : Int64 := (31 * ((31 * ((31 * ((31 * h) + Int32.toInt64 (m 194 f))) + Int32.toInt64 (m 195 f))) + Int32.toInt64 (m 196 f))) + Int32.toInt64 (m 197 f)
def fF (m : mm_P) : Nat → Int64 → Int64
  | 0, h => h
  | f + 1, h => dF m f (fF m f h)
def wf (m : mm_P) (n : Nat) : Nat → Int64 → Int64
  | 0, h => h
  | i + 1, h => (31 * wf m n i h) + Int32.toInt64 (m 6 (4 * n + i))
def wN (k : Int32) : Nat := if k = 2 then 0 else if k = 14 then 4 else if f_parts k = 3 then 3 else if f_parts k = 2 then 2 else 1
theorem wants_e {k : Int32} (hk : 0 ≤ k.toInt ∧ k.toInt ≤ 14) : mm_wants.getD k.toNatClampNeg 0 = nI (wN k) := by
  obtain ⟨q, rfl, q2, -, -⟩ := mm_of (n := 15) hk.1 (by omega)
  rcases (show q = 0 ∨ q = 1 ∨ q = 2 ∨ q = 3 ∨ q = 4 ∨ q = 5 ∨ q = 6 ∨ q = 7 ∨ q = 8 ∨ q = 9 ∨ q = 10 ∨ q = 11 ∨ q = 12 ∨ q = 13 ∨ q = 14 by omega) with rfl | rfl | rfl | rfl | rfl | rfl | rfl | rfl | rfl | rfl | rfl | rfl | rfl | rfl | rfl <;> decide
theorem wN_4 (k : Int32) : wN k ≤ 4 := by
  unfold wN
  split
  · decide
  · split
    · decide
    · split
      · decide
      · split <;> decide
/-- what a node gives to the digest, in both -/
theorem wf_e {ND n : Nat} {m : mm_P} {h : Int64} (hN : NC ND m) (hn : n < ND) : wf m n (wN (m 188 n)) ((31 * h) + Int32.toInt64 (m 188 n)) = dN m n h := by
  obtain ⟨-, -, w0, w1, w2, w3⟩ := hN.2 n hn
  unfold wN dN
  by_cases k2 : m 188 n = 2
  · rw [if_pos k2, if_pos k2]
    rfl
  · rw [if_neg k2, if_neg k2]
    have e0 := w0 k2
    by_cases k14 : m 188 n = 14
    · rw [if_pos k14, if_pos k14]
      simp only [wf, Nat.add_zero]
      rw [e0, w1 (.inr k14), w2 (.inr k14), w3 k14]
    · rw [if_neg k14, if_neg k14]
      by_cases p3 : f_parts (m 188 n) = 3
      · rw [if_pos p3, if_pos p3]
        simp only [wf, Nat.add_zero]
        rw [e0, w1 (.inl (by rw [p3]; decide)), w2 (.inl (by rw [p3]; decide))]
      · rw [if_neg p3, if_neg p3]
        by_cases p2 : f_parts (m 188 n) = 2
        · rw [if_pos p2, if_pos p2]
          simp only [wf, Nat.add_zero]
          rw [e0, w1 (.inl (by rw [p2]; decide))]
        · rw [if_neg p2, if_neg p2]
          simp only [wf, Nat.add_zero]
          rw [e0]
section MMT
variable {L : Nat} {xs : Nat → Int32} {d : Nat} {Q : mm_QQ} {mi : mm_P} {ml : mm_G} {lim : Nat × Nat} {NB ND NF : Nat}
/-! the model -/
theorem sx_mixedNode {n : Nat} {h : Int64} (hn : n < 200) (hQ : Q (some (mm_L (dN mi n h))) mi ml) : mm_cq (mm_call mm_ms (mm_tb L xs) (d + 2)) 234 [mm_R 176, mm_L h, mm_I (nI n)] mi ml Q := by
  have v : vp_in (nI n) 200 := vp_in_nI hn (by decide)
  have en : (nI n).toNatClampNeg = n := nI_clamp (by omega)
  unfold dN at hQ
  by_cases k2 : mi 188 n = 2
  · rw [if_pos k2] at hQ
    refine en_X12_mixedNode (bk_X12_mixedNode_0 (mm_call_m _) v v (fun _ => v) (fun z => ?_) (fun z => ?_) (fun _ => ?_)) <;> rw [en] at *
    · exact absurd k2 z
    · exact absurd k2 z
    · exact hQ
  · rw [if_neg k2] at hQ
    by_cases k14 : mi 188 n = 14
    · rw [if_pos k14] at hQ
      refine en_X12_mixedNode (bk_X12_mixedNode_0 (mm_call_m _) v v (fun _ => v) (fun _ z => ?_) (fun _ z => ?_) (fun z => ?_)) <;> rw [en] at z
      · refine bk_X12_mixedNode_64 (mm_call_m _) v (bk_X12_mixedNode_80 (mm_call_m _) (fun _ => bk_X12_mixedNode_96 (mm_call_m _) v (bk_X12_mixedNode_112 (mm_call_m _) (fun q => ?_) (fun _ => v) (fun _ => ?_))) (fun q => ?_))
        · rw [en] at q
          exact absurd k14 q
        · rw [en]
          exact hQ
        · rw [en] at q
          exact absurd k14 q
      · exact absurd k14 z
      · exact absurd z k2
    · rw [if_neg k14] at hQ
      have hpin := f_parts_in (mi 188 n)
      have h112 : ∀ x4 : Int64, Q (some (mm_L x4)) mi ml → mm_WQ (mm_call mm_ms (mm_tb L xs) (d + 1)) (mm_tb L xs) mm_m234 (mm_li mm_m234) Q 112 [some (mm_R 176), some (mm_L h), none, some (mm_I (nI n)), some (mm_L x4), none, some (mm_I (mi 188 n))] [] mi ml := fun x4 q => bk_X12_mixedNode_112 (mm_call_m _) (fun _ => q) (fun _ => v) (fun z => absurd z k14)
      have h80 : ∀ x4 : Int64, (f_parts (mi 188 n) ≤ 2 → Q (some (mm_L x4)) mi ml) → (¬ f_parts (mi 188 n) ≤ 2 → Q (some (mm_L ((31 * x4) + Int32.toInt64 (mi 191 n)))) mi ml) → mm_WQ (mm_call mm_ms (mm_tb L xs) (d + 1)) (mm_tb L xs) mm_m234 (mm_li mm_m234) Q 80 [some (mm_R 176), some (mm_L h), none, some (mm_I (nI n)), some (mm_L x4), none, some (mm_I (mi 188 n))] [] mi ml := fun x4 a b => bk_X12_mixedNode_80 (mm_call_m _) (fun z => absurd z k14) (fun _ => sp_X12_partsOf (bk_X12_mixedNode_92 (mm_call_m _) (fun z => h112 _ (a z)) (fun z => bk_X12_mixedNode_96 (mm_call_m _) v (by rw [en]; exact h112 _ (b z)))))
      refine en_X12_mixedNode (bk_X12_mixedNode_0 (mm_call_m _) v v (fun _ => v) (fun _ z => ?_) (fun _ z => ?_) (fun z => ?_)) <;> rw [en] at z
      · exact absurd z k14
      · rw [en]
        refine sp_X12_partsOf (bk_X12_mixedNode_60 (mm_call_m _) (fun q => h80 _ (fun _ => ?_) (fun q2 => ?_)) (fun q => bk_X12_mixedNode_64 (mm_call_m _) v ?_))
        · rw [if_neg (fun w => by rw [w] at q; exact absurd q (by decide)), if_neg (fun w => by rw [w] at q; exact absurd q (by decide))] at hQ
          exact hQ
        · exfalso
          have a := mm_leI q
          have b := mm_nleI q2
          rw [mm_tt1] at a
          rw [mm_tt2] at b
          omega
        · rw [en]
          refine h80 _ (fun q2 => ?_) (fun q2 => ?_)
          · rw [if_neg (fun w => by rw [w] at q2; exact absurd q2 (by decide)), if_pos ?_] at hQ
            · exact hQ
            · rcases hpin with w | w | w | w
              · rw [w] at q; exact absurd (by decide) q
              · rw [w] at q; exact absurd (by decide) q
              · exact w
              · rw [w] at q2; exact absurd q2 (by decide)
          · rw [if_pos ?_] at hQ
            · exact hQ
            · rcases hpin with w | w | w | w
              · rw [w] at q2; exact absurd (by decide) q2
              · rw [w] at q2; exact absurd (by decide) q2
              · rw [w] at q2; exact absurd (by decide) q2
              · exact w
      · exact absurd z k2
theorem xdig_75 (hI : IM mi NB ND NF) {h0 : Int64} (hQ : Q (some (mm_L (fF mi NF h0))) mi ml) : ∀ (j n : Nat) {x4 : Option mm_V}, n + j = NF → mm_WQ (mm_call mm_ms (mm_tb L xs) d) (mm_tb L xs) mm_m235 lim Q 75 [some (mm_R 176), some (mm_L (fF mi n h0)), none, some (mm_I (nI n)), x4] [] mi ml := by
  have hNF := hI.1.2.2
  intro j
  induction j with
  | zero =>
    intro n x4 h
    have hn : n = NF := by omega
    subst hn
    have hle : mi 176 20 ≤ nI n := by rw [hI.2.1.2.2]; exact Int32.le_refl _
    exact bk_X12_digest_75 (mm_call_m _) (fun _ => hQ) (fun z => absurd hle z) (fun z => absurd hle z) (fun z => absurd hle z) (fun z => absurd hle z) (fun z => absurd hle z)
  | succ j ih =>
    intro n x4 h
    have vn : vp_in (nI n) 12 := vp_in_nI (by omega) (by decide)
    refine bk_X12_digest_75 (mm_call_m _) (fun z => ?_) (fun _ => vn) (fun _ => vn) (fun _ => vn) (fun _ => vn) (fun _ => ?_)
    · have := mm_leI z
      rw [hI.2.1.2.2, mm_tI (by omega), mm_tI (by omega)] at this
      omega
    · rw [show nI n + 1 = nI (n + 1) from (nI_succ n).symm, nI_clamp (by omega)]
      exact ih (n + 1) (by omega)
theorem xdig_52 (hI : IM mi NB ND NF) {h0 : Int64} (hQ : Q (some (mm_L (fF mi NF (fN mi ND h0)))) mi ml) : ∀ (j n : Nat) {x4 : Option mm_V}, n + j = ND → mm_WQ (mm_call mm_ms (mm_tb L xs) (d + 2)) (mm_tb L xs) mm_m235 lim Q 52 [some (mm_R 176), some (mm_L (fN mi n h0)), none, some (mm_I (nI n)), x4] [] mi ml := by
  have hND := hI.1.2.1
  intro j
  induction j with
  | zero =>
    intro n x4 h
    have hn : n = ND := by omega
    subst hn
    have hle : mi 176 13 ≤ nI n := by rw [hI.2.1.2.1]; exact Int32.le_refl _
    exact bk_X12_digest_52 (mm_call_m _) (fun _ => xdig_75 hI hQ NF 0 (by omega)) (fun z => absurd hle z)
  | succ j ih =>
    intro n x4 h
    refine bk_X12_digest_52 (mm_call_m _) (fun z => ?_) (fun _ => sx_mixedNode (by omega) (bk_X12_digest_66 (mm_call_m _) ?_))
    · have := mm_leI z
      rw [hI.2.1.2.1, mm_tI (by omega), mm_tI (by omega)] at this
      omega
    · rw [show nI n + 1 = nI (n + 1) from (nI_succ n).symm]
      exact ih (n + 1) (by omega)
theorem xdig_6 (hI : IM mi NB ND NF) {h0 : Int64} (hQ : Q (some (mm_L (fF mi NF (fN mi ND (fT mi NB h0))))) mi ml) : ∀ (j n : Nat) {x4 : Option mm_V}, n + j = NB → mm_WQ (mm_call mm_ms (mm_tb L xs) (d + 2)) (mm_tb L xs) mm_m235 lim Q 6 [some (mm_R 176), some (mm_L (fT mi n h0)), none, some (mm_I (nI n)), x4] [] mi ml := by
  have hNB := hI.1.1
  have hD := hI.2.2.2.1
  intro j
  induction j with
  | zero =>
    intro n x4 h
    have hn : n = NB := by omega
    subst hn
    have hle : mi 176 0 ≤ nI n := by rw [hI.2.1.1]; exact Int32.le_refl _
    exact bk_X12_digest_6 (mm_call_m _) (fun _ => xdig_52 hI hQ ND 0 (by omega)) (fun z => absurd hle z)
  | succ j ih =>
    intro n x4 h
    have hfac : ∀ (x : Int32) (Q2 : mm_QQ), (0 ≤ x.toInt ∧ x.toInt ≤ 5) → Q2 (some (mm_I (f_fact mi n x))) mi ml → mm_cq (mm_call mm_ms (mm_tb L xs) (d + 2)) 178 [mm_R 176, mm_I (nI n), mm_I x] mi ml Q2 := fun x Q2 hx q => sx_typeOf (d := d + 1) hD (by omega) hNB.2 rfl hx q
    have hlt : ¬ mi 176 0 ≤ nI n := fun z => by
      have := mm_leI z
      rw [hI.2.1.1, mm_tI (by omega), mm_tI (by omega)] at this
      omega
    have s1 : (0 : Int32) + 1 = 1 := by decide
    have s2 : (1 : Int32) + 1 = 2 := by decide
    have s3 : (2 : Int32) + 1 = 3 := by decide
    have s4 : (3 : Int32) + 1 = 4 := by decide
    have c4 : ∀ {P : Prop} {x : Int32}, ¬ (4 : Int32) ≤ x → (4 : Int32) ≤ x → P := fun a b => absurd b a
    refine bk_X12_digest_6 (mm_call_m _) (fun z => absurd z hlt) (fun _ => bk_X12_digest_17 (mm_call_m _) (fun z => absurd z (by decide)) (fun _ => hfac 0 _ (by decide) (bk_X12_digest_35 (mm_call_m _) ?_)))
    rw [s1]
    refine bk_X12_digest_17 (mm_call_m _) (fun z => absurd z (by decide)) (fun _ => hfac 1 _ (by decide) (bk_X12_digest_35 (mm_call_m _) ?_))
    rw [s2]
    refine bk_X12_digest_17 (mm_call_m _) (fun z => absurd z (by decide)) (fun _ => hfac 2 _ (by decide) (bk_X12_digest_35 (mm_call_m _) ?_))
    rw [s3]
    refine bk_X12_digest_17 (mm_call_m _) (fun z => absurd z (by decide)) (fun _ => hfac 3 _ (by decide) (bk_X12_digest_35 (mm_call_m _) ?_))
    rw [s4]
    refine bk_X12_digest_17 (mm_call_m _) (fun _ => ?_) (fun z => absurd (by decide) z)
    rw [show nI n + 1 = nI (n + 1) from (nI_succ n).symm]
    exact ih (n + 1) (by omega)
theorem sx_X12_digest (hI : IM mi NB ND NF) (hQ : Q (some (mm_L (fF mi NF (fN mi ND (fT mi NB 61))))) mi ml) : mm_cq (mm_call mm_ms (mm_tb L xs) (d + 3)) 235 [mm_R 176] mi ml Q :=
  en_X12_digest (bk_X12_digest_0 (mm_call_m _) (xdig_6 hI hQ NB 0 (by omega)))
/-! the class -/
theorem sx_wantedAt {n i : Nat} (h35 : mi 3 5 = nI ND) (hND : ND ≤ 200) (hn : n < ND) (hi : i < 4) (hQ : Q (some (mm_I (mi 6 (4 * n + i)))) mi ml) : mm_cq (mm_call mm_ms (mm_tb L xs) (d + 2)) 97 [mm_R 3, mm_I (nI n), mm_I (nI i)] mi ml Q := by
  have e : nI n * 4 + nI i = nI (4 * n + i) := by
    have e4 : nI n * 4 = nI (4 * n) := by
      refine Int32.toInt_inj.mp ?_
      rw [mm_m4e (by rw [mm_tI (by omega)]; omega), mm_tI (by omega), mm_tI (by omega)]
      omega
    rw [e4, nI_a (by omega)]
  have g0 : ¬ nI i < 0 := by
    rw [Int32.lt_iff_toInt_lt, mm_tI (by omega), mm_tt0]
    omega
  have g4 : ¬ 4 ≤ nI i := by
    rw [Int32.le_iff_toInt_le, mm_tI (by omega), mm_tt4]
    omega
  refine en_X7_wantedAt (bk_X7_wantedAt_0 (mm_call_m _) (sx_has7 h35 hND (fun u _ _ => bk_X7_wantedAt_5 (s0 := 1) (mm_call_m _) (fun z => absurd z (by decide)) (fun _ z => absurd z g0) (fun _ _ z => absurd z g4) (fun _ _ _ => ?_) (fun _ _ _ => ?_)) (fun a => absurd ⟨n, hn, rfl⟩ a)))
  · rw [e]
    exact vp_in_nI (by omega) (by decide)
  · rw [e, nI_clamp (by omega)]
    exact hQ
theorem cdig_43 {x1 h0 : Int64} {n W : Nat} {k : Int32} (h35 : mi 3 5 = nI ND) (hND : ND ≤ 200) (hn : n < ND) (hW : W ≤ 4) (hK : ∀ y, mm_WQ (mm_call mm_ms (mm_tb L xs) (d + 2)) (mm_tb L xs) mm_m108 lim Q 5 [some (mm_R 3), some (mm_L x1), none, some (mm_L (wf mi n W h0)), none, some (mm_I (nI n + 1)), some (mm_I k), some (mm_I (nI W)), y] [] mi ml) : ∀ (j i : Nat), i + j = W → mm_WQ (mm_call mm_ms (mm_tb L xs) (d + 2)) (mm_tb L xs) mm_m108 lim Q 43 [some (mm_R 3), some (mm_L x1), none, some (mm_L (wf mi n i h0)), none, some (mm_I (nI n)), some (mm_I k), some (mm_I (nI W)), some (mm_I (nI i))] [] mi ml := by
  intro j
  induction j with
  | zero =>
    intro i h
    have hi : i = W := by omega
    subst hi
    exact bk_X7_digestFrom_43 (mm_call_m _) (fun _ => hK _) (fun z => absurd (Int32.le_refl _) z)
  | succ j ih =>
    intro i h
    refine bk_X7_digestFrom_43 (mm_call_m _) (fun z => ?_) (fun _ => sx_wantedAt h35 hND hn (by omega) (bk_X7_digestFrom_63 (mm_call_m _) ?_))
    · have := mm_leI z
      rw [mm_tI (by omega), mm_tI (by omega)] at this
      omega
    · rw [show nI i + 1 = nI (i + 1) from (nI_succ i).symm]
      exact ih (i + 1) (by omega)
theorem cdig_5 {x1 h0 : Int64} (hI : IM mi NB ND NF) (hN : NC ND mi) (hQ : Q (some (mm_L (fN mi ND h0))) mi ml) : ∀ (j n : Nat) {y6 y7 y8 : Option mm_V}, n + j = ND → mm_WQ (mm_call mm_ms (mm_tb L xs) (d + 2)) (mm_tb L xs) mm_m108 lim Q 5 [some (mm_R 3), some (mm_L x1), none, some (mm_L (fN mi n h0)), none, some (mm_I (nI n)), y6, y7, y8] [] mi ml := by
  have hND := hI.1.2.1
  intro j
  induction j with
  | zero =>
    intro n y6 y7 y8 h
    have hn : n = ND := by omega
    subst hn
    exact bk_X7_digestFrom_5 (mm_call_m _) (fun _ => hQ) (fun z => absurd (by rw [hN.1]; exact Int32.le_refl _) z)
  | succ j ih =>
    intro n y6 y7 y8 h
    have hk := (hI.2.2.2.2.1 n (by omega)).1
    have e4 := (hN.2 n (by omega)).1
    refine bk_X7_digestFrom_5 (mm_call_m _) (fun z => ?_) (fun _ => ?_)
    · have := mm_leI z
      rw [hN.1, mm_tI (by omega), mm_tI (by omega)] at this
      omega
    · refine en_X7_kindOf (bk_X7_kindOf_0 (mm_call_m _) (sx_has7 hN.1 hND (fun u _ _ => bk_X7_kindOf_5 (s0 := 1) (mm_call_m _) (fun z => absurd z (by decide)) (fun _ => vp_in_nI (by omega) (by decide)) (fun _ => ?_)) (fun a => absurd ⟨n, by omega, rfl⟩ a)))
      rw [nI_clamp (by omega), e4]
      have g0 : ¬ mi 188 n < 0 := by
        rw [Int32.lt_iff_toInt_lt, mm_tt0]
        omega
      have g15 : ¬ nI 15 ≤ mi 188 n := by
        rw [Int32.le_iff_toInt_le, mm_tI (by omega)]
        omega
      refine bk_X7_digestFrom_20 (mm_call_m _) (en_X7_wantsOf (bk_X7_wantsOf_0 (mm_call_m _) (fun z => absurd z g0) (fun _ z => absurd z g15) (fun _ _ => mm_vpr (by omega)) (fun _ _ => ?_)))
      rw [wants_e hk]
      refine bk_X7_digestFrom_38 (mm_call_m _) (cdig_43 (n := n) (W := wN (mi 188 n)) hN.1 hND (by omega) (wN_4 _) (fun y => ?_) (wN (mi 188 n)) 0 (by omega))
      rw [wf_e hN (by omega), show nI n + 1 = nI (n + 1) from (nI_succ n).symm]
      exact ih (n + 1) (by omega)
theorem cdigF_5 {x1 h0 : Int64} (hI : IM mi NB ND NF) (hF : FC NF mi ml) (hQ : Q (some (mm_L (fF mi NF h0))) mi ml) : ∀ (j n : Nat), n + j = NF → mm_WQ (mm_call mm_ms (mm_tb L xs) d) (mm_tb L xs) mm_m33 lim Q 5 [some (mm_R 9), some (mm_L x1), none, some (mm_L (fF mi n h0)), none, some (mm_I (nI n))] [] mi ml := by
  have hNF := hI.1.2.2
  intro j
  induction j with
  | zero =>
    intro n h
    have hn : n = NF := by omega
    subst hn
    have hle : mi 9 7 ≤ nI n := by rw [hF.1]; exact Int32.le_refl _
    exact bk_X2_digestFrom_5 (mm_call_m _) (fun _ => bk_X2_digestFrom_87 (mm_call_m _) hQ) (fun z => absurd hle z) (fun z => absurd hle z) (fun z => absurd hle z) (fun z => absurd hle z) (fun z => absurd hle z) (fun z => absurd hle z)
  | succ j ih =>
    intro n h
    have vn : vp_in (nI n) 12 := vp_in_nI (by omega) (by decide)
    obtain ⟨e1, e2, e3, e4, -⟩ := hF.2 n (by omega)
    refine bk_X2_digestFrom_5 (mm_call_m _) (fun z => ?_) (fun _ z => ?_) (fun _ _ => vn) (fun _ _ => vn) (fun _ _ => vn) (fun _ _ => vn) (fun _ _ => ?_)
    · have := mm_leI z
      rw [hF.1, mm_tI (by omega), mm_tI (by omega)] at this
      omega
    · have := mm_leI z
      rw [mm_tI (by omega), mm_tt12] at this
      omega
    · rw [show nI n + 1 = nI (n + 1) from (nI_succ n).symm, nI_clamp (by omega), e1, e2, e3, e4]
      exact ih (n + 1) (by omega)
theorem cdig_6 (hI : IM mi NB ND NF) (hT : TC NB mi ml) (hN : NC ND mi) (hF : FC NF mi ml) (hQ : Q (some (mm_L (fF mi NF (fN mi ND (fT mi NB 61))))) mi ml) : ∀ (j n : Nat) {x4 : Option mm_V}, n + j = NB → mm_WQ (mm_call mm_ms (mm_tb L xs) (d + 11)) (mm_tb L xs) mm_m163 lim Q 6 [some (mm_R 0), some (mm_L (fT mi n 61)), none, some (mm_I (nI n)), x4] [] mi ml := by
  have hNB := hI.1.1
  have hD := hI.2.2.2.1
  intro j
  induction j with
  | zero =>
    intro n x4 h
    have hn : n = NB := by omega
    subst hn
    refine bk_X11_digest_6 (mm_call_m _) (en_X8_size (bk_X8_size_0 (mm_call_m _) (bk_X11_digest_14 (mm_call_m _) (fun _ => ?_) (fun z => absurd (by rw [hT.1]; exact Int32.le_refl _) z))))
    refine en_X7_digestFrom (bk_X7_digestFrom_0 (mm_call_m _) (cdig_5 (d := d + 8) hI hN (bk_X11_digest_68 (mm_call_m _) ?_) ND 0 (by omega)))
    exact en_X2_digestFrom (bk_X2_digestFrom_0 (mm_call_m _) (cdigF_5 hI hF (bk_X11_digest_71 (mm_call_m _) hQ) NF 0 (by omega)))
  | succ j ih =>
    intro n x4 h
    have hfac : ∀ (x : Int32) (Q2 : mm_QQ), Q2 (some (mm_I (f_fact mi n x))) mi ml → mm_cq (mm_call mm_ms (mm_tb L xs) (d + 11)) 115 [mm_R 1, mm_I (nI n), mm_I x] mi ml Q2 := fun x Q2 q => sx_factOf hD hT hNB.2 (by omega) q
    have hlt : ¬ mi 1 1 ≤ nI n := fun z => by
      have := mm_leI z
      rw [hT.1, mm_tI (by omega), mm_tI (by omega)] at this
      omega
    have s1 : (0 : Int32) + 1 = 1 := by decide
    have s2 : (1 : Int32) + 1 = 2 := by decide
    have s3 : (2 : Int32) + 1 = 3 := by decide
    have s4 : (3 : Int32) + 1 = 4 := by decide
    refine bk_X11_digest_6 (mm_call_m _) (en_X8_size (bk_X8_size_0 (mm_call_m _) (bk_X11_digest_14 (mm_call_m _) (fun z => absurd z hlt) (fun _ => bk_X11_digest_20 (mm_call_m _) (fun z => absurd z (by decide)) (fun _ => hfac 0 _ (bk_X11_digest_41 (mm_call_m _) ?_))))))
    rw [s1]
    refine bk_X11_digest_20 (mm_call_m _) (fun z => absurd z (by decide)) (fun _ => hfac 1 _ (bk_X11_digest_41 (mm_call_m _) ?_))
    rw [s2]
    refine bk_X11_digest_20 (mm_call_m _) (fun z => absurd z (by decide)) (fun _ => hfac 2 _ (bk_X11_digest_41 (mm_call_m _) ?_))
    rw [s3]
    refine bk_X11_digest_20 (mm_call_m _) (fun z => absurd z (by decide)) (fun _ => hfac 3 _ (bk_X11_digest_41 (mm_call_m _) ?_))
    rw [s4]
    refine bk_X11_digest_20 (mm_call_m _) (fun _ => ?_) (fun z => absurd (by decide) z)
    rw [show nI n + 1 = nI (n + 1) from (nI_succ n).symm]
    exact ih (n + 1) (by omega)
theorem lx_digest {Q' : Int64 → Int64 → mm_P → mm_G → Prop} (hCO : CO mi ml) (hQ : ∀ v n m2, CO n m2 → Q' v v n m2) : mm_cq (mm_call mm_ms (mm_tb L xs) (d + 12)) 163 [mm_R 0] mi ml (fun o n1 n2 => ∃ v, o = some (mm_L v) ∧ mm_cq (mm_call mm_ms (mm_tb L xs) (d + 12)) 235 [mm_R 176] n1 n2 (fun o2 n3 n4 => ∃ v2, o2 = some (mm_L v2) ∧ Q' v v2 n3 n4)) := by
  obtain ⟨hIC, ⟨NB, ND, NF, hI, hT, hN, hF⟩, h51, h41, hin⟩ := id hCO
  exact en_X11_digest (bk_X11_digest_0 (mm_call_m _) (cdig_6 hI hT hN hF ⟨_, rfl, sx_X12_digest (d := d + 9) hI ⟨_, rfl, hQ _ _ _ hCO⟩⟩ NB 0 (by omega)))
theorem lx_count {x1 : Int32} {Q' : Int32 → Int32 → mm_P → mm_G → Prop} (hCO : CO mi ml) (hQ : ∀ v n m2, CO n m2 → Q' v v n m2) : mm_cq (mm_call mm_ms (mm_tb L xs) (d + 2)) 162 [mm_R 0, mm_I x1] mi ml (fun o n1 n2 => ∃ v, o = some (mm_I v) ∧ mm_cq (mm_call mm_ms (mm_tb L xs) (d + 2)) 233 [mm_R 176, mm_I x1] n1 n2 (fun o2 n3 n4 => ∃ v2, o2 = some (mm_I v2) ∧ Q' v v2 n3 n4)) := by
  obtain ⟨hIC, ⟨NB, ND, NF, hI, hT, hN, hF⟩, h51, h41, hin⟩ := id hCO
  have hm : ∀ (v : Int32), (x1 = 0 → v = mi 176 0) → (x1 = 1 → v = mi 176 13) → (x1 = 2 → v = mi 176 20) → (x1 = 3 → v = mi 176 41) → (¬ x1 = 0 → ¬ x1 = 1 → ¬ x1 = 2 → ¬ x1 = 3 → v = -2) → mm_cq (mm_call mm_ms (mm_tb L xs) (d + 2)) 233 [mm_R 176, mm_I x1] mi ml (fun o2 n3 n4 => ∃ v2, o2 = some (mm_I v2) ∧ Q' v v2 n3 n4) := fun v a0 a1 a2 a3 a4 => by
    refine en_X12_count (bk_X12_count_0 (mm_call_m _) (fun z0 z1 z2 z3 => ⟨_, rfl, ?_⟩) (fun _ _ _ z => ⟨_, rfl, ?_⟩) (fun _ _ z => ⟨_, rfl, ?_⟩) (fun _ z => ⟨_, rfl, ?_⟩) (fun z => ⟨_, rfl, ?_⟩))
    · rw [← a4 z0 z1 z2 z3]; exact hQ _ _ _ hCO
    · rw [← a3 z]; exact hQ _ _ _ hCO
    · rw [← a2 z]; exact hQ _ _ _ hCO
    · rw [← a1 z]; exact hQ _ _ _ hCO
    · rw [← a0 z]; exact hQ _ _ _ hCO
  have hno : ∀ {P : Prop} {a b : Int32}, x1 = a → x1 = b → ¬ a = b → P := fun p q r => absurd (p.symm.trans q) r
  refine en_X11_count (bk_X11_count_0 (mm_call_m _) (fun z => en_X8_size (bk_X8_size_0 (mm_call_m _) (bk_X11_count_39 (mm_call_m _) ⟨_, rfl, hm _ (fun _ => by rw [hT.1, hI.2.1.1]) (fun q => hno z q (by decide)) (fun q => hno z q (by decide)) (fun q => hno z q (by decide)) (fun q _ _ _ => absurd z q)⟩))) (fun z => en_X7_size (bk_X7_size_0 (mm_call_m _) (bk_X11_count_47 (mm_call_m _) ⟨_, rfl, hm _ (fun q => hno z q (by decide)) (fun _ => by rw [hN.1, hI.2.1.2.1]) (fun q => hno z q (by decide)) (fun q => hno z q (by decide)) (fun _ q _ _ => absurd z q)⟩))) (fun z => en_X2_size (bk_X2_size_0 (mm_call_m _) (bk_X11_count_55 (mm_call_m _) ⟨_, rfl, hm _ (fun q => hno z q (by decide)) (fun q => hno z q (by decide)) (fun _ => by rw [hF.1, hI.2.1.2.2]) (fun q => hno z q (by decide)) (fun _ _ q _ => absurd z q)⟩))) (fun z => en_X3_size (bk_X3_size_0 (mm_call_m _) (bk_X11_count_63 (mm_call_m _) ⟨_, rfl, hm _ (fun q => hno z q (by decide)) (fun q => hno z q (by decide)) (fun q => hno z q (by decide)) (fun _ => h41) (fun _ _ _ q => absurd z q)⟩))) (fun z0 z1 z2 z3 => ⟨_, rfl, hm _ (fun q => absurd q z0) (fun q => absurd q z1) (fun q => absurd q z2) (fun q => absurd q z3) (fun _ _ _ _ => rfl)⟩))
theorem lx_input {x1 : Int32} {Q' : Int32 → Int32 → mm_P → mm_G → Prop} (hCO : CO mi ml) (hQ : ∀ v n m2, CO n m2 → Q' v v n m2) : mm_cq (mm_call mm_ms (mm_tb L xs) (d + 2)) 156 [mm_R 0, mm_I x1] mi ml (fun o n1 n2 => ∃ v, o = some (mm_I v) ∧ mm_cq (mm_call mm_ms (mm_tb L xs) (d + 2)) 211 [mm_R 176, mm_I x1] n1 n2 (fun o2 n3 n4 => ∃ v2, o2 = some (mm_I v2) ∧ Q' v v2 n3 n4)) := by
  obtain ⟨hIC, ⟨NB, ND, NF, hI, hT, hN, hF⟩, h51, h41, hin⟩ := id hCO
  have hr := hIC.2.2.2.2.2
  refine sp_X11_input (fun z => ⟨-4, rfl, ?_⟩) (fun z => ⟨_, rfl, ?_⟩) hr.1
  · have e16 : mi 160 1 = 16 := by
      have := mm_nltI z
      rw [mm_tt16] at this
      exact Int32.toInt_inj.mp (by rw [mm_tt16]; omega)
    refine sp_input (by rw [← h41]; exact hr) (fun _ => ⟨-4, rfl, hQ _ _ _ hCO⟩) (fun q => absurd (h41.symm.trans e16) q)
  · have hlt := mm_ltI z
    rw [mm_tt16] at hlt
    have e41 : mm_u (mm_u mi 161 (mi 160 1).toNatClampNeg x1) 160 1 (mi 160 1 + 1) 176 41 = mi 160 1 := by
      rw [mm_u_e (by decide), mm_u_e (by decide)]
      exact h41.symm
    refine sp_input (by rw [e41]; exact hr) (fun q => ?_) (fun _ _ => ⟨_, rfl, ?_⟩)
    · rw [e41] at q
      rw [q, mm_tt16] at hlt
      omega
    · rw [e41]
      have hadd : (mi 160 1 + 1).toInt = (mi 160 1).toInt + 1 := mm_add1 (by omega)
      have hIC' : mm_IC (mm_u (mm_u mi 161 (mi 160 1).toNatClampNeg x1) 160 1 (mi 160 1 + 1)) := mm_IC_1601 (mm_IC_n hIC (by decide) (by decide) (by decide) (by decide) (by decide)) (by omega)
      obtain ⟨z0, e0, z1, z2, z3⟩ := mm_of (n := 16) hr.1 hlt
      have hc : ∀ c i, ¬ (c = 161 ∧ i = z0) → ¬ (c = 160 ∧ i = 1) → ¬ (c = 211 ∧ i = z0) → ¬ (c = 176 ∧ i = 41) → mm_u (mm_u (mm_u (mm_u mi 161 (mi 160 1).toNatClampNeg x1) 160 1 (mi 160 1 + 1)) 211 (mi 160 1).toNatClampNeg x1) 176 41 (mi 160 1 + 1) c i = mi c i := fun c i a b e f => by
        rw [z3, mm_u_o f, mm_u_o e, mm_u_o b, mm_u_o a]
      refine hQ _ _ _ ⟨IC_k hIC' (fun c i q => by rw [mm_u_e (by omega), mm_u_e (by omega)]), ⟨NB, ND, NF, IM_e hI (fun c i q => hc c i (by omega) (by omega) (by omega) (by omega)), TC_c hT (hc 1 1 (by omega) (by omega) (by omega) (by omega)) (fun t _ c a b => hc c t (by omega) (by omega) (by omega) (by omega)) (fun _ _ => rfl), NC_c hN (hc 3 5 (by omega) (by omega) (by omega) (by omega)) (fun c i q => hc c i (by omega) (by omega) (by omega) (by omega)), FC_c hI hF (hc 9 7 (by omega) (by omega) (by omega) (by omega)) (fun c i q => hc c i (by omega) (by omega) (by omega) (by omega)) (fun _ _ => rfl) (fun _ => rfl) (fun _ => rfl)⟩, ?_, ?_, fun i hi => ?_⟩
      · rw [hc 176 51 (by omega) (by omega) (by omega) (by omega)]
        exact h51
      · rw [mm_u_e (by decide), mm_u_e (by decide), mm_u_s, mm_u_s]
      · rw [mm_u_e (by decide), mm_u_e (by decide), mm_u_s, hadd, e0, mm_tI (by omega)] at hi
        rw [z3]
        by_cases hiz : i = z0
        · subst hiz
          rw [mm_u_e (by decide), mm_u_e (by decide), mm_u_e (by decide), mm_u_s, mm_u_e (by decide), mm_u_s]
        · rw [mm_u_o (by omega), mm_u_o (by omega), mm_u_o (by omega), mm_u_o (by omega), mm_u_o (by omega), mm_u_o (by omega), mm_u_o (by omega), mm_u_o (by omega)]
          exact hin i (by rw [e0, mm_tI (by omega)]; omega)
theorem lx_empty {Q' : Int32 → Int32 → mm_P → mm_G → Prop} (hCO : CO mi ml) (hQ : ∀ v n m2, CO n m2 → Q' v v n m2) : mm_cq (mm_call mm_ms (mm_tb L xs) (d + 2)) 157 [mm_R 0] mi ml (fun o n1 n2 => ∃ v, o = some (mm_I v) ∧ mm_cq (mm_call mm_ms (mm_tb L xs) (d + 2)) 212 [mm_R 176] n1 n2 (fun o2 n3 n4 => ∃ v2, o2 = some (mm_I v2) ∧ Q' v v2 n3 n4)) := by
  obtain ⟨hIC, ⟨NB, ND, NF, hI, hT, hN, hF⟩, h51, h41, hin⟩ := id hCO
  refine sp_X11_empty ⟨_, rfl, sp_empty ⟨_, rfl, ?_⟩⟩
  rw [mm_u_e (by decide), ← h41]
  have hIC' : mm_IC (mm_u mi 160 1 0) := mm_IC_1601 hIC (by rw [mm_tt0]; omega)
  have hc : ∀ c i, ¬ (c = 160 ∧ i = 1) → ¬ (c = 176 ∧ i = 41) → mm_u (mm_u mi 160 1 0) 176 41 0 c i = mi c i := fun c i a b => by rw [mm_u_o b, mm_u_o a]
  refine hQ _ _ _ ⟨IC_k hIC' (fun c i q => mm_u_e (by omega)), ⟨NB, ND, NF, IM_e hI (fun c i q => hc c i (by omega) (by omega)), TC_c hT (hc 1 1 (by omega) (by omega)) (fun t _ c a b => hc c t (by omega) (by omega)) (fun _ _ => rfl), NC_c hN (hc 3 5 (by omega) (by omega)) (fun c i q => hc c i (by omega) (by omega)), FC_c hI hF (hc 9 7 (by omega) (by omega)) (fun c i q => hc c i (by omega) (by omega)) (fun _ _ => rfl) (fun _ => rfl) (fun _ => rfl)⟩, ?_, ?_, fun i hi => ?_⟩
  · rw [hc 176 51 (by omega) (by omega)]
    exact h51
  · rw [mm_u_e (by decide), mm_u_s, mm_u_s]
  · rw [mm_u_e (by decide), mm_u_s, mm_tt0] at hi
    omega
end MMT
