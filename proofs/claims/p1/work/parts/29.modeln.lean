/-! ===== fresh objects: the model's node, function ===== -/
section MMM
variable {L : Nat} {xs : Nat → Int32} {d : Nat} {Q : mm_QQ} {m1 : mm_P} {m2 : mm_G}
theorem sp_partsOf {k : Int32} (h : ∀ s, Q (some (mm_I s)) m1 m2) : mm_cq (mm_call mm_ms (mm_tb L xs) (d + 1)) 185 [mm_I k] m1 m2 Q :=
  en_X12_partsOf (bk_X12_partsOf_0 (mm_call_m _) (fun _ => bk_X12_partsOf_11 (mm_call_m _) (h _)) (fun _ _ _ _ => bk_X12_partsOf_46 (mm_call_m _) (h _)) (fun _ _ _ _ _ => bk_X12_partsOf_46 (mm_call_m _) (h _)) (fun _ _ _ _ _ _ => bk_X12_partsOf_46 (mm_call_m _) (h _)) (fun _ _ _ _ _ _ _ => h _) (fun _ _ _ _ _ _ _ => bk_X12_partsOf_46 (mm_call_m _) (h _)) (fun _ _ _ => h _) (fun _ _ => bk_X12_partsOf_11 (mm_call_m _) (h _)))
theorem sp_partsOf0 {k : Int32} (hk : k = 0 ∨ k = 1 ∨ k = 2 ∨ k = 9) (h : Q (some (mm_I 0)) m1 m2) : mm_cq (mm_call mm_ms (mm_tb L xs) (d + 1)) 185 [mm_I k] m1 m2 Q := by
  have h3 : k < 3 ∨ k = 9 := by rcases hk with rfl | rfl | rfl | rfl <;> decide
  exact en_X12_partsOf (bk_X12_partsOf_0 (mm_call_m _) (fun _ => bk_X12_partsOf_11 (mm_call_m _) h) (fun a b _ _ => (h3.elim a b).elim) (fun a b _ _ _ => (h3.elim a b).elim) (fun a b _ _ _ _ => (h3.elim a b).elim) (fun a b _ _ _ _ _ => (h3.elim a b).elim) (fun a b _ _ _ _ _ => (h3.elim a b).elim) (fun a b _ => (h3.elim a b).elim) (fun _ _ => bk_X12_partsOf_11 (mm_call_m _) h))
theorem sf_mayBe {k a b c e : Int32} (hf : mm_fr m1 m2) (k0 : 0 ≤ k.toInt) (k1 : k.toInt < 15) (h1 : an_nodeB k a → Q (some (mm_I 1)) m1 m2) (h0 : ¬ an_nodeB k a → Q (some (mm_I 0)) m1 m2) : mm_cq (mm_call mm_ms (mm_tb L xs) (d + 3)) 188 [mm_R 176, mm_I k, mm_I a, mm_I b, mm_I c, mm_I e] m1 m2 Q := by
  have no : ¬ k = nI 0 → ¬ k = nI 1 → ¬ k = nI 2 → ¬ k = nI 9 → ¬ an_nodeB k a := by
    rintro a0 a1 a2 a9 (q | q | q | q)
    · exact a0 q
    · exact a2 q
    · exact a1 q.1
    · exact a9 q.1
  have hp : ∀ (j : Nat), k = nI j → ¬ nI j = nI 0 → ¬ nI j = nI 1 → ¬ nI j = nI 2 → ¬ nI j = nI 9 → mm_cq (mm_call mm_ms (mm_tb L xs) (d + 2)) 185 [mm_I k] m1 m2 (fun o n1 n2 => mm_WQ (mm_call mm_ms (mm_tb L xs) (d + 2)) (mm_tb L xs) mm_m188 (mm_li mm_m188) Q 149 [some (mm_R 176), some (mm_I k), some (mm_I a), some (mm_I b), some (mm_I c), some (mm_I e), none] (o.toList ++ []) n1 n2) := by
    intro j hj j0 j1 j2 j9
    refine sp_partsOf (fun s => bk_X12_mayBe_149 (s0 := s) (mm_call_m _) (sf_isNode hf (bk_X12_mayBe_156 (s0 := 0) (mm_call_m _) (fun _ => bk_X12_mayBe_192 (mm_call_m _) (h0 (no ?_ ?_ ?_ ?_))) (fun z => absurd rfl z) (fun z => absurd rfl z))))
    · rw [hj]; exact j0
    · rw [hj]; exact j1
    · rw [hj]; exact j2
    · rw [hj]; exact j9
  refine en_X12_mayBe (bk_X12_mayBe_0 (mm_call_m _) (fun z => h1 (.inl z))
    (fun z => sp_in (fun p q => bk_X12_mayBe_84 (s0 := 1) (mm_call_m _) (.inr rfl) (h1 (.inr (.inr (.inl ⟨z, ?_⟩))))) (fun p => bk_X12_mayBe_84 (s0 := 0) (mm_call_m _) (.inl rfl) (h0 ?_)))
    (fun z => h1 (.inr (.inl z)))
    (fun z => hp 3 z (by decide) (by decide) (by decide) (by decide)) (fun z => hp 4 z (by decide) (by decide) (by decide) (by decide)) (fun z => hp 5 z (by decide) (by decide) (by decide) (by decide)) (fun z => hp 6 z (by decide) (by decide) (by decide) (by decide)) (fun z => hp 7 z (by decide) (by decide) (by decide) (by decide)) (fun z => hp 8 z (by decide) (by decide) (by decide) (by decide))
    (fun z => sf_isType hf (fun p q => bk_X12_mayBe_90 (s0 := 1) (mm_call_m _) (.inr rfl) (h1 (.inr (.inr (.inr ⟨z, p, q⟩))))) (fun p => bk_X12_mayBe_90 (s0 := 0) (mm_call_m _) (.inl rfl) (h0 ?_)))
    (fun z => hp 10 z (by decide) (by decide) (by decide) (by decide)) (fun z => hp 11 z (by decide) (by decide) (by decide) (by decide)) (fun z => hp 12 z (by decide) (by decide) (by decide) (by decide)) (fun z => hp 13 z (by decide) (by decide) (by decide) (by decide))
    (fun z => sp_in (fun p q => bk_X12_mayBe_98 (s0 := 1) (mm_call_m _) (fun y => absurd y (by decide)) (fun _ => sf_isNode hf (bk_X12_mayBe_106 (s0 := 0) (mm_call_m _) (fun _ => bk_X12_mayBe_143 (mm_call_m _) (h0 ?_)) (fun y => absurd rfl y)))) (fun p => bk_X12_mayBe_98 (s0 := 0) (mm_call_m _) (fun _ => bk_X12_mayBe_143 (mm_call_m _) (h0 ?_)) (fun y => absurd rfl y)))
    (fun a0 a1 a2 a3 a4 a5 a6 a7 a8 a9 a10 a11 a12 a13 a14 => ?_))
  · rw [mm_tt0] at p
    rw [mm_tt1] at q
    rcases (show a.toInt = 0 ∨ a.toInt = 1 by omega) with w | w
    · exact .inl (Int32.toInt_inj.mp w)
    · exact .inr (Int32.toInt_inj.mp w)
  · rintro (q | q | q | q)
    · exact absurd (z.symm.trans q) (by decide)
    · exact absurd (z.symm.trans q) (by decide)
    · rcases q.2 with rfl | rfl <;> exact p (by decide)
    · exact absurd (z.symm.trans q.1) (by decide)
  · rintro (q | q | q | q)
    · exact absurd (z.symm.trans q) (by decide)
    · exact absurd (z.symm.trans q) (by decide)
    · exact absurd (z.symm.trans q.1) (by decide)
    · exact p q.2
  · exact no (by rw [z]; decide) (by rw [z]; decide) (by rw [z]; decide) (by rw [z]; decide)
  · exact no (by rw [z]; decide) (by rw [z]; decide) (by rw [z]; decide) (by rw [z]; decide)
  · rcases mm_r15 k0 k1 with w | w | w | w | w | w | w | w | w | w | w | w | w | w | w
    · exact absurd w a0
    · exact absurd w a1
    · exact absurd w a2
    · exact absurd w a3
    · exact absurd w a4
    · exact absurd w a5
    · exact absurd w a6
    · exact absurd w a7
    · exact absurd w a8
    · exact absurd w a9
    · exact absurd w a10
    · exact absurd w a11
    · exact absurd w a12
    · exact absurd w a13
    · exact absurd w a14
theorem ml_node {v : Int32} (hf : mm_fr m1 m2) (k a b c e : Int32) (h1 : an_nodeB k a → v = 0) (h0 : ¬ an_nodeB k a → v = -2) : mm_cq (mm_call mm_ms (mm_tb L xs) 40) 189 [mm_R 176, mm_I k, mm_I a, mm_I b, mm_I c, mm_I e] m1 m2 (mm_Am (mm_I v)) := by
  have hv : m1 176 13 = 0 := mm_frv hf rfl (by decide +kernel)
  have h13 : ∀ (k i : Nat) (x : Int32), 177 ≤ k → mm_u m1 k i x 176 13 = 0 := fun k i x h => by rw [mm_u_o (by omega), hv]
  refine en_X12_node (bk_X12_node_0 (mm_call_m _) (sp_in (fun p q => bk_X12_node_7 (s0 := 1) (mm_call_m _) (fun y => absurd y (by decide)) (fun _ => ?_)) (fun p => bk_X12_node_7 (s0 := 0) (mm_call_m _) (fun _ => bk_X12_node_24 (mm_call_m _) ?_) (fun y => absurd rfl y))))
  · rw [mm_tt0] at p
    rw [mm_tt14] at q
    refine sf_mayBe hf p (by omega) (fun hh => ?_) (fun hh => bk_X12_node_21 (s0 := 0) (mm_call_m _) (fun y => absurd rfl y) (fun y => absurd rfl y) (fun _ => bk_X12_node_24 (mm_call_m _) (by show some _ = some _; rw [h0 hh])))
    have hk := mm_nB hh
    have n14 : ¬ k = 14 := by rcases hk with rfl | rfl | rfl | rfl <;> decide
    refine bk_X12_node_21 (s0 := 1) (mm_call_m _) (fun _ _ => ?_) (fun _ y => absurd y n14) (fun y => absurd y (by decide))
    refine bk_X12_node_38 (s0 := 0) (mm_call_m _) (sp_partsOf0 hk ?_)
    refine bk_X12_node_44 (s0 := 0) (mm_call_m _) (fun y => absurd rfl y) (fun y => absurd rfl y) (fun _ => ?_)
    refine bk_X12_node_72 (s0 := 1) (mm_call_m _) (fun _ => ?_) (fun y => absurd (by decide) y) (fun y => absurd (by decide) y)
    have hw : ∀ (s2 : Int32) (m : mm_P), m 176 13 = 0 → mm_WQ (mm_call mm_ms (mm_tb L xs) 39) (mm_tb L xs) mm_m189 (mm_li mm_m189) (mm_Am (mm_I v)) 178 [some (mm_R 176), some (mm_I k), some (mm_I a), some (mm_I b), some (mm_I c), some (mm_I e), some (mm_I 0), some (mm_I 0), some (mm_I 1)] [mm_I s2, mm_I (m1 176 13), mm_R 189] m m2 := by
      intro s2 m hm
      rw [hv]
      refine bk_X12_node_178 (s1 := 0) (mm_call_m _) (vp_in_iff.mpr (by decide)) (fun y => absurd y (by decide)) (fun _ _ => ?_) (fun _ y => absurd rfl y)
      rw [hm]
      refine bk_X12_node_203 (s1 := 0) (mm_call_m _) (vp_in_iff.mpr (by decide)) (fun y => absurd y (by decide)) (fun _ _ => ?_) (fun _ y => absurd rfl y)
      rw [mm_u_o (by decide), hm]
      refine bk_X12_node_229 (s1 := 0) (mm_call_m _) (vp_in_iff.mpr (by decide)) (fun _ => ?_) (fun y => absurd rfl y)
      rw [mm_u_o (by decide), mm_u_o (by decide), hm]
      refine bk_X12_node_249 (s1 := 0) (mm_call_m _) (vp_in_iff.mpr (by decide)) ?_ ?_
      · rw [mm_u_o (by decide), mm_u_o (by decide), mm_u_o (by decide), hm]
        exact vp_in_iff.mpr (by decide)
      · show some _ = some _
        rw [mm_u_o (by decide), mm_u_o (by decide), mm_u_o (by decide), hm, h1 hh]
        rfl
    refine bk_X12_node_98 (s0 := 1) (mm_call_m _) (fun _ => ?_) (fun y => absurd (by decide) y) (fun y => absurd (by decide) y)
    refine bk_X12_node_125 (s0 := 1) (mm_call_m _) (fun _ _ => ?_) (fun _ _ _ => hw _ _ (h13 _ _ _ (by decide))) (fun _ _ _ => hw _ _ (h13 _ _ _ (by decide))) (fun _ y => ?_) (fun y => absurd (by decide) y)
    · rw [hv]
      exact vp_in_iff.mpr (by decide)
    · rw [hv] at y
      exact absurd y (by decide)
  · rw [mm_tt0, mm_tt14] at p
    show some _ = some _
    rw [h0]
    intro q
    rcases mm_nB q with rfl | rfl | rfl | rfl <;> exact p (by decide)
theorem ml_fun (hf : mm_fr m1 m2) (l a r : Int32) : mm_cq (mm_call mm_ms (mm_tb L xs) 40) 190 [mm_R 176, mm_I l, mm_I a, mm_I r] m1 m2 (mm_Am (mm_I (an_fun l a r))) := by
  by_cases h : 0 ≤ l.toInt ∧ l.toInt < 3 ∧ 0 ≤ a.toInt ∧ a.toInt < 4 ∧ 0 ≤ r.toInt ∧ r.toInt < 4
  · obtain ⟨h1, h2, h3, h4, h5, h6⟩ := h
    rcases mm_r3 h1 h2 with rfl | rfl | rfl <;> rcases mm_r4 h3 h4 with rfl | rfl | rfl | rfl <;> rcases mm_r4 h5 h6 with rfl | rfl | rfl | rfl <;> exact mm_evB_a hf (by decide +kernel)
  · have hz : ∀ n1 n2, mm_Am (mm_I (an_fun l a r)) (some (mm_I (-2))) n1 n2 := fun _ _ => by show some _ = some _; rw [an_fun, if_neg (fun q => h q.1)]
    refine en_X12_function (bk_X12_function_0 (mm_call_m _) (sp_in (fun l0 l1 => bk_X12_function_6 (s0 := 1) (mm_call_m _) (fun z => absurd z (by decide)) (fun _ => sf_isType hf (fun p q => bk_X12_function_14 (s0 := 1) (mm_call_m _) (fun z => absurd z (by decide)) (fun _ => sf_isType hf (fun p2 q2 => ?_) (fun _ => bk_X12_function_22 (s0 := 0) (mm_call_m _) (fun _ => bk_X12_function_43 (mm_call_m _) (hz _ _)) (fun z => absurd rfl z)))) (fun _ => bk_X12_function_14 (s0 := 0) (mm_call_m _) (fun _ => bk_X12_function_43 (mm_call_m _) (hz _ _)) (fun z => absurd rfl z)))) (fun _ => bk_X12_function_6 (s0 := 0) (mm_call_m _) (fun _ => bk_X12_function_43 (mm_call_m _) (hz _ _)) (fun z => absurd rfl z))))
    rw [mm_tt0] at l0
    rw [mm_tt2] at l1
    exact absurd ⟨l0, by omega, p, q, p2, q2⟩ h
end MMM
