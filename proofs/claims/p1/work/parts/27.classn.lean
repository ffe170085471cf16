/-! ===== fresh objects: the class's node, function ===== -/
theorem mm_r15 {x : Int32} (h0 : 0 ≤ x.toInt) (h1 : x.toInt < 15) : x = 0 ∨ x = 1 ∨ x = 2 ∨ x = 3 ∨ x = 4 ∨ x = 5 ∨ x = 6 ∨ x = 7 ∨ x = 8 ∨ x = 9 ∨ x = 10 ∨ x = 11 ∨ x = 12 ∨ x = 13 ∨ x = 14 := by
  rcases (show x.toInt = 0 ∨ x.toInt = 1 ∨ x.toInt = 2 ∨ x.toInt = 3 ∨ x.toInt = 4 ∨ x.toInt = 5 ∨ x.toInt = 6 ∨ x.toInt = 7 ∨ x.toInt = 8 ∨ x.toInt = 9 ∨ x.toInt = 10 ∨ x.toInt = 11 ∨ x.toInt = 12 ∨ x.toInt = 13 ∨ x.toInt = 14 by omega) with h | h | h | h | h | h | h | h | h | h | h | h | h | h | h
  · exact .inl (Int32.toInt_inj.mp h)
  · exact .inr (.inl (Int32.toInt_inj.mp h))
  · exact .inr (.inr (.inl (Int32.toInt_inj.mp h)))
  · exact .inr (.inr (.inr (.inl (Int32.toInt_inj.mp h))))
  · exact .inr (.inr (.inr (.inr (.inl (Int32.toInt_inj.mp h)))))
  · exact .inr (.inr (.inr (.inr (.inr (.inl (Int32.toInt_inj.mp h))))))
  · exact .inr (.inr (.inr (.inr (.inr (.inr (.inl (Int32.toInt_inj.mp h)))))))
  · exact .inr (.inr (.inr (.inr (.inr (.inr (.inr (.inl (Int32.toInt_inj.mp h))))))))
  · exact .inr (.inr (.inr (.inr (.inr (.inr (.inr (.inr (.inl (Int32.toInt_inj.mp h)))))))))
  · exact .inr (.inr (.inr (.inr (.inr (.inr (.inr (.inr (.inr (.inl (Int32.toInt_inj.mp h))))))))))
  · exact .inr (.inr (.inr (.inr (.inr (.inr (.inr (.inr (.inr (.inr (.inl (Int32.toInt_inj.mp h)))))))))))
  · exact .inr (.inr (.inr (.inr (.inr (.inr (.inr (.inr (.inr (.inr (.inr (.inl (Int32.toInt_inj.mp h))))))))))))
  · exact .inr (.inr (.inr (.inr (.inr (.inr (.inr (.inr (.inr (.inr (.inr (.inr (.inl (Int32.toInt_inj.mp h)))))))))))))
  · exact .inr (.inr (.inr (.inr (.inr (.inr (.inr (.inr (.inr (.inr (.inr (.inr (.inr (.inl (Int32.toInt_inj.mp h))))))))))))))
  · exact .inr (.inr (.inr (.inr (.inr (.inr (.inr (.inr (.inr (.inr (.inr (.inr (.inr (.inr (Int32.toInt_inj.mp h))))))))))))))
theorem mm_pk {k : Int32} (h0 : 0 ≤ k.toInt) (h1 : k.toInt < 15) (n1 : ¬ k = nI 1) (n9 : ¬ k = nI 9) : mm_parts.getD k.toNatClampNeg 0 < 1 ↔ (k = 0 ∨ k = 2) := by
  rcases mm_r15 h0 h1 with rfl | rfl | rfl | rfl | rfl | rfl | rfl | rfl | rfl | rfl | rfl | rfl | rfl | rfl | rfl
  · decide
  · exact absurd rfl n1
  · decide
  · decide
  · decide
  · decide
  · decide
  · decide
  · decide
  · exact absurd rfl n9
  · decide
  · decide
  · decide
  · decide
  · decide
theorem mm_nB {k a : Int32} (h : an_nodeB k a) : k = 0 ∨ k = 1 ∨ k = 2 ∨ k = 9 := by
  rcases h with h | h | h | h
  · exact .inl h
  · exact .inr (.inr (.inl h))
  · exact .inr (.inl h.1)
  · exact .inr (.inr (.inr h.1))
theorem mm_u_o {α : Type} {f : Nat → Nat → α} {k i a b : Nat} {x : α} (h : ¬ a = k) : mm_u f k i x a b = f a b := by
  unfold mm_u
  rw [if_neg h]
section MMC
variable {L : Nat} {xs : Nat → Int32} {d : Nat} {Q : mm_QQ}
theorem sf_partsStand {m1 : mm_P} {m2 : mm_G} {k a b c : Int32} (hv : m1 3 5 = 0) (k0 : 0 ≤ k.toInt) (k1 : k.toInt ≤ 14) (n1 : ¬ k = nI 1) (n9 : ¬ k = nI 9) (h1 : k = 0 ∨ k = 2 → Q (some (mm_I 1)) m1 m2) (h0 : ¬ (k = 0 ∨ k = 2) → Q (some (mm_I 0)) m1 m2) : mm_cq (mm_call mm_ms (mm_tb L xs) (d + 2)) 99 [mm_R 3, mm_I k, mm_I a, mm_I b, mm_I c] m1 m2 Q := by
  have hp := mm_pk k0 (by omega) n1 n9
  refine en_X7_partsStand (bk_X7_partsStand_0 (mm_call_m _) (sp_X7_partsOf (fun _ _ => bk_X7_partsStand_5 (s0 := mm_parts.getD k.toNatClampNeg 0) (mm_call_m _) (fun z => ?_) (fun z => sf_X7_has hv (bk_X7_partsStand_18 (s0 := 0) (mm_call_m _) (fun _ => bk_X7_partsStand_54 (mm_call_m _) (h0 (fun q => z (hp.mpr q)))) (fun y => absurd rfl y)))) (fun z => absurd ⟨k0, by omega⟩ z)))
  rw [Int32.lt_iff_toInt_lt, mm_tt1] at z
  refine bk_X7_partsStand_21 (mm_call_m _) (fun _ => bk_X7_partsStand_35 (mm_call_m _) (fun _ => bk_X7_partsStand_50 (mm_call_m _) (h1 (hp.mp ?_))) (fun y => ?_)) (fun y => ?_)
  · rw [Int32.lt_iff_toInt_lt, mm_tt1]
    exact z
  · rw [Int32.lt_iff_toInt_lt, mm_tt3] at y
    omega
  · rw [Int32.lt_iff_toInt_lt, mm_tt2] at y
    omega
theorem sf_wanted {k a b c e : Int32} (h1 : an_nodeB k a → Q (some (mm_I 1)) mm_i0 mm_l0) (h0 : ¬ an_nodeB k a → Q (some (mm_I 0)) mm_i0 mm_l0) : mm_cq (mm_call mm_ms (mm_tb L xs) (d + 3)) 145 [mm_R 0, mm_I k, mm_I a, mm_I b, mm_I c, mm_I e] mm_i0 mm_l0 Q := by
  have n14 : k = nI 14 → ¬ an_nodeB k a := by
    rintro rfl (q | q | q | q)
    · exact absurd q (by decide)
    · exact absurd q (by decide)
    · exact absurd q.1 (by decide)
    · exact absurd q.1 (by decide)
  have n1 : k = nI 1 → ¬ a = 0 → ¬ a = 1 → ¬ an_nodeB k a := by
    rintro rfl a0 a1 (q | q | q | q)
    · exact absurd q (by decide)
    · exact absurd q (by decide)
    · exact q.2.elim a0 a1
    · exact absurd q.1 (by decide)
  have n9 : k = nI 9 → ¬ (0 ≤ a.toInt ∧ a.toInt < 4) → ¬ an_nodeB k a := by
    rintro rfl a0 (q | q | q | q)
    · exact absurd q (by decide)
    · exact absurd q (by decide)
    · exact absurd q.1 (by decide)
    · exact a0 q.2
  have nd : ¬ k = nI 1 → ¬ k = nI 9 → ¬ (k = 0 ∨ k = 2) → ¬ an_nodeB k a := by
    rintro a0 a1 a2 (q | q | q | q)
    · exact a2 (.inl q)
    · exact a2 (.inr q)
    · exact a0 q.1
    · exact a1 q.1
  refine en_X11_wantedStands (bk_X11_wantedStands_0 (mm_call_m _) (fun k1 a0 => bk_X11_wantedStands_45 (mm_call_m _) (h1 (.inr (.inr (.inl ⟨k1, .inl a0⟩))))) (fun k1 a0 a1 => h0 (n1 k1 a0 a1)) (fun k1 a0 a1 => bk_X11_wantedStands_45 (mm_call_m _) (h1 (.inr (.inr (.inl ⟨k1, .inr a1⟩)))))
    (fun k9 => sf_X8_has (fun p q => bk_X11_wantedStands_59 (s0 := 1) (mm_call_m _) (.inr rfl) (h1 (.inr (.inr (.inr ⟨k9, p, q⟩))))) (fun p => bk_X11_wantedStands_59 (s0 := 0) (mm_call_m _) (.inl rfl) (h0 (n9 k9 p))))
    (fun k14 _ => bk_X11_wantedStands_96 (mm_call_m _) (h0 (n14 k14))) (fun k14 _ _ => bk_X11_wantedStands_96 (mm_call_m _) (h0 (n14 k14)))
    (fun k14 _ _ => sf_X7_has mm_v35 (bk_X11_wantedStands_78 (s0 := 0) (mm_call_m _) (fun _ => bk_X11_wantedStands_96 (mm_call_m _) (h0 (n14 k14))) (fun z => absurd rfl z)))
    (fun k1 k9 _ => sp_X7_isKind (fun p q => bk_X11_wantedStands_106 (s0 := 1) (mm_call_m _) (fun z => absurd z (by decide)) (fun _ => sf_partsStand mm_v35 p q k1 k9 (fun hh => bk_X11_wantedStands_121 (s0 := 1) (mm_call_m _) (fun z => absurd z (by decide)) (fun _ => h1 (hh.elim .inl (fun y => .inr (.inl y))))) (fun hh => bk_X11_wantedStands_121 (s0 := 0) (mm_call_m _) (fun _ => bk_X11_wantedStands_128 (mm_call_m _) (h0 (nd k1 k9 hh))) (fun z => absurd rfl z)))) (fun p => bk_X11_wantedStands_106 (s0 := 0) (mm_call_m _) (fun _ => bk_X11_wantedStands_128 (mm_call_m _) (h0 (nd k1 k9 (fun q => p (by rcases q with rfl | rfl <;> decide))))) (fun z => absurd rfl z))))
theorem sf_depthOver {m1 : mm_P} {m2 : mm_G} {k a b c : Int32} (hk : k = 0 ∨ k = 1 ∨ k = 2 ∨ k = 9) (h : Q (some (mm_I (1 + 0))) m1 m2) : mm_cq (mm_call mm_ms (mm_tb L xs) (d + 2)) 100 [mm_R 3, mm_I k, mm_I a, mm_I b, mm_I c] m1 m2 Q := by
  have hp : mm_parts.getD k.toNatClampNeg 0 = 0 := by rcases hk with rfl | rfl | rfl | rfl <;> decide
  have h14 : ¬ k = 14 := by rcases hk with rfl | rfl | rfl | rfl <;> decide
  have hr : 0 ≤ k.toInt ∧ k.toInt < 15 := by rcases hk with rfl | rfl | rfl | rfl <;> decide
  refine en_X7_depthOver (bk_X7_depthOver_0 (mm_call_m _) (fun _ => sp_X7_partsOf (fun _ _ => ?_) (fun z => absurd hr z)) (fun z => absurd z h14))
  rw [hp]
  exact bk_X7_depthOver_19 (s0 := 0) (mm_call_m _) (fun _ => bk_X7_depthOver_36 (mm_call_m _) (fun _ => bk_X7_depthOver_54 (mm_call_m _) (fun _ => bk_X7_depthOver_73 (mm_call_m _) h) (fun z => absurd (by decide) z)) (fun z => absurd (by decide) z)) (fun z => absurd (by decide) z)
theorem sf_add {k a b c e : Int32} (hk : k = 0 ∨ k = 1 ∨ k = 2 ∨ k = 9) (h : ∀ n1, mm_fr n1 mm_l0 → n1 9 7 = 0 → Q (some (mm_I 0)) n1 mm_l0) : mm_cq (mm_call mm_ms (mm_tb L xs) (d + 3)) 102 [mm_R 3, mm_I k, mm_I a, mm_I b, mm_I c, mm_I e] mm_i0 mm_l0 Q := by
  refine en_X7_add (bk_X7_add_0 (mm_call_m _) (fun _ _ => ?_) (fun _ _ => sf_depthOver hk (bk_X7_add_63 (x6 := mm_i0 3 5 * 4) (s1 := mm_i0 3 5) (s2 := 1 + 0) (mm_call_m _) ?_ ?_ ?_ ?_ ?_ ?_)) (fun _ z => ?_) (fun z => ?_))
  · rw [mm_v35]
    exact vp_in_iff.mpr (by decide)
  · rw [mm_v35]
    exact vp_in_iff.mpr (by decide)
  · rw [mm_v35]
    exact vp_in_iff.mpr (by decide)
  · rw [mm_v35]
    exact vp_in_iff.mpr (by decide)
  · rw [mm_v35]
    exact vp_in_iff.mpr (by decide)
  · rw [mm_v35]
    exact vp_in_iff.mpr (by decide)
  · rw [mm_u_o (by decide : ¬ 3 = 4), mm_v35]
    refine h _ ?_ ?_
    · exact mm_fr_u (mm_fr_u (mm_fr_u (mm_fr_u (mm_fr_u (mm_fr_u (mm_fr_u mm_fr0 (by decide)) (by decide)) (by decide)) (by decide)) (by decide)) (by decide)) (by decide)
    · rw [mm_u_o (by decide), mm_u_o (by decide), mm_u_o (by decide), mm_u_o (by decide), mm_u_o (by decide), mm_u_o (by decide), mm_u_o (by decide), mm_v97]
  · rw [mm_v35] at z
    exact absurd (by decide) z
  · rw [mm_v35] at z
    exact absurd (by decide) z
theorem sf_fill {n1 : mm_P} {n2 : mm_G} {n : Int32} (hv : n1 9 7 = 0) (h : Q none n1 n2) : mm_cq (mm_call mm_ms (mm_tb L xs) (d + 2)) 41 [mm_R 17, mm_I n] n1 n2 Q := by
  refine en_X4_fillNode (bk_X4_fillNode_0 (mm_call_m _) (bk_X4_fillNode_2 (mm_call_m _) (en_X2_size (bk_X2_size_0 (mm_call_m _) (bk_X4_fillNode_10 (s1 := n1 9 7) (s0 := 0) (mm_call_m _) (fun _ => h) (fun z => ?_))))))
  rw [hv] at z
  exact absurd (by decide) z
theorem cl_node {v : Int32} (k a b c e : Int32) (h1 : an_nodeB k a → v = 0) (h0 : ¬ an_nodeB k a → v = -2) : mm_cq (mm_call mm_ms (mm_tb L xs) 40) 144 [mm_R 0, mm_I k, mm_I a, mm_I b, mm_I c, mm_I e] mm_i0 mm_l0 (mm_An (mm_I v)) := by
  refine en_X11_node (bk_X11_node_0 (mm_call_m _) (sf_wanted (fun hh => bk_X11_node_11 (s0 := 1) (mm_call_m _) (fun _ => sf_depthOver (mm_nB hh) (bk_X11_node_29 (s0 := 1 + 0) (mm_call_m _) (fun _ => sf_add (mm_nB hh) (fun n1 f hv => bk_X11_node_51 (s0 := 0) (mm_call_m _) (fun z => absurd z (by decide)) (fun _ => sf_fill hv (bk_X11_node_69 (mm_call_m _) ⟨by rw [h1 hh], f⟩)))) (fun z => absurd (by decide) z))) (fun z => absurd z (by decide))) (fun hh => bk_X11_node_11 (s0 := 0) (mm_call_m _) (fun z => absurd rfl z) (fun _ => ⟨by rw [h0 hh], mm_fr0⟩))))
theorem cl_fun (l a r : Int32) : mm_cq (mm_call mm_ms (mm_tb L xs) 40) 147 [mm_R 0, mm_I l, mm_I a, mm_I r] mm_i0 mm_l0 (mm_An (mm_I (an_fun l a r))) := by
  by_cases h : 0 ≤ l.toInt ∧ l.toInt < 3 ∧ 0 ≤ a.toInt ∧ a.toInt < 4 ∧ 0 ≤ r.toInt ∧ r.toInt < 4
  · obtain ⟨h1, h2, h3, h4, h5, h6⟩ := h
    rcases mm_r3 h1 h2 with rfl | rfl | rfl <;> rcases mm_r4 h3 h4 with rfl | rfl | rfl | rfl <;> rcases mm_r4 h5 h6 with rfl | rfl | rfl | rfl <;> exact mm_evA_a (by decide +kernel)
  · have hz : mm_An (mm_I (an_fun l a r)) (some (mm_I (-2))) mm_i0 mm_l0 := ⟨by rw [an_fun, if_neg (fun q => h q.1)], mm_fr0⟩
    refine en_X11_function (bk_X11_function_0 (mm_call_m _) (fun _ => bk_X11_function_31 (mm_call_m _) hz) (fun _ _ => bk_X11_function_31 (mm_call_m _) hz) (fun l0 l1 => sf_X8_has (fun p q => bk_X11_function_17 (s0 := 1) (mm_call_m _) (fun z => absurd z (by decide)) (fun _ => sf_X8_has (fun p2 q2 => ?_) (fun _ => bk_X11_function_28 (s0 := 0) (mm_call_m _) (fun z => absurd rfl z) (fun _ => bk_X11_function_31 (mm_call_m _) hz)))) (fun _ => bk_X11_function_17 (s0 := 0) (mm_call_m _) (fun _ => bk_X11_function_31 (mm_call_m _) hz) (fun z => absurd rfl z))))
    simp only [Int32.lt_iff_toInt_lt, mm_tt0, mm_tt2] at l0 l1
    exact absurd ⟨by omega, by omega, p, q, p2, q2⟩ h
end MMC
