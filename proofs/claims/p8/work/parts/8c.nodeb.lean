/-! ===== node() of both: alike ===== -/
section MMT
variable {L : Nat} {xs : Nat → Int32} {d : Nat} {Q : mm_QQ} {mi : mm_P} {ml : mm_G} {lim : Nat × Nat} {NB ND NF : Nat}
theorem node_178x {w : mm_P} {x1 x2 x3 x4 x5 x6 x7 x8 A : Int32} (h13 : w 176 13 = nI ND) (hND : ND < 200) (hQ : ∀ B C E, ((1 < x7 ∨ ¬ x6 = 0) → B = x3) → ((2 < x7 ∨ ¬ x6 = 0) → C = x4) → (¬ x6 = 0 → E = x5) → Q (some (mm_I (nI ND))) (U7 w ND A B C E x8 (nI (ND + 1))) ml) : mm_WQ (mm_call mm_ms (mm_tb L xs) d) (mm_tb L xs) mm_m189 lim Q 178 [some (mm_R 176), some (mm_I x1), some (mm_I x2), some (mm_I x3), some (mm_I x4), some (mm_I x5), some (mm_I x6), some (mm_I x7), some (mm_I x8)] [mm_I A, mm_I (nI ND), mm_R 189] w ml := by
  have v : vp_in (nI ND) 200 := vp_in_nI hND (by decide)
  have e : (nI ND).toNatClampNeg = ND := nI_clamp (by omega)
  have h249 : ∀ B C E, ((1 < x7 ∨ ¬ x6 = 0) → B = x3) → ((2 < x7 ∨ ¬ x6 = 0) → C = x4) → (¬ x6 = 0 → E = x5) → mm_WQ (mm_call mm_ms (mm_tb L xs) d) (mm_tb L xs) mm_m189 lim Q 249 [some (mm_R 176), some (mm_I x1), some (mm_I x2), some (mm_I x3), some (mm_I x4), some (mm_I x5), some (mm_I x6), some (mm_I x7), some (mm_I x8)] [mm_I E, mm_I (nI ND), mm_R 192] (mm_u (mm_u (mm_u w 189 ND A) 190 ND B) 191 ND C) ml := fun B C E b c f => by
    have h : mm_u (mm_u (mm_u w 189 ND A) 190 ND B) 191 ND C 176 13 = nI ND := by
      rw [mm_u_e (by decide), mm_u_e (by decide), mm_u_e (by decide)]
      exact h13
    refine bk_X12_node_249 (mm_call_m _) v (by rw [h]; exact v) ?_
    rw [h, e, show nI ND + 1 = nI (ND + 1) from (nI_succ ND).symm, mm_dec' ND (by omega)]
    exact hQ B C E b c f
  have h229 : ∀ B C, ((1 < x7 ∨ ¬ x6 = 0) → B = x3) → ((2 < x7 ∨ ¬ x6 = 0) → C = x4) → mm_WQ (mm_call mm_ms (mm_tb L xs) d) (mm_tb L xs) mm_m189 lim Q 229 [some (mm_R 176), some (mm_I x1), some (mm_I x2), some (mm_I x3), some (mm_I x4), some (mm_I x5), some (mm_I x6), some (mm_I x7), some (mm_I x8)] [mm_I C, mm_I (nI ND), mm_R 191] (mm_u (mm_u w 189 ND A) 190 ND B) ml := fun B C b c => by
    have h : mm_u (mm_u w 189 ND A) 190 ND B 176 13 = nI ND := by
      rw [mm_u_e (by decide), mm_u_e (by decide)]
      exact h13
    refine bk_X12_node_229 (mm_call_m _) v (fun z => ?_) (fun _ => ?_) <;> rw [h, e]
    · exact h249 B C 0 b c (fun q => absurd z q)
    · exact h249 B C x5 b c (fun _ => rfl)
  have h203 : ∀ B, ((1 < x7 ∨ ¬ x6 = 0) → B = x3) → mm_WQ (mm_call mm_ms (mm_tb L xs) d) (mm_tb L xs) mm_m189 lim Q 203 [some (mm_R 176), some (mm_I x1), some (mm_I x2), some (mm_I x3), some (mm_I x4), some (mm_I x5), some (mm_I x6), some (mm_I x7), some (mm_I x8)] [mm_I B, mm_I (nI ND), mm_R 190] (mm_u w 189 ND A) ml := fun B b => by
    have h : mm_u w 189 ND A 176 13 = nI ND := by
      rw [mm_u_e (by decide)]
      exact h13
    refine bk_X12_node_203 (mm_call_m _) v (fun z => bk_X12_node_223 (mm_call_m _) ?_) (fun z z2 => ?_) (fun z z2 => bk_X12_node_223 (mm_call_m _) ?_) <;> rw [h, e]
    · exact h229 B x4 b (fun _ => rfl)
    · exact h229 B 0 b (fun q => absurd (q.resolve_left z) (fun q => q z2))
    · exact h229 B x4 b (fun _ => rfl)
  refine bk_X12_node_178 (mm_call_m _) v (fun z => bk_X12_node_198 (mm_call_m _) ?_) (fun z z2 => ?_) (fun z z2 => bk_X12_node_198 (mm_call_m _) ?_) <;> rw [h13, e]
  · exact h203 x3 (fun _ => rfl)
  · exact h203 0 (fun q => absurd (q.resolve_left z) (fun q => q z2))
  · exact h203 x3 (fun _ => rfl)
/-- what stands in a new node's rows -/
def UN (k a b c e x6 A B C E : Int32) : Prop := ((x6 = 0 ∧ ¬ k = 14) ∨ (x6 = 1 ∧ k = 14)) ∧ (¬ k = 2 → A = a) ∧ ((1 < f_parts k ∨ ¬ x6 = 0) → B = b) ∧ ((2 < f_parts k ∨ ¬ x6 = 0) → C = c) ∧ (¬ x6 = 0 → E = e)
theorem sx_X12_node {k a b c e : Int32} (hI : IM mi NB ND NF) (hbad : ¬ okB NB ND k a b c e → Q (some (mm_I (-2))) mi ml) (hno : okB NB ND k a b c e → 12 < NDP (mi 193) k a b c → Q (some (mm_I (-3))) mi ml) (hfull : okB NB ND k a b c e → NDP (mi 193) k a b c ≤ 12 → ND = 200 → Q (some (mm_I (-4))) mi ml) (hnew : okB NB ND k a b c e → NDP (mi 193) k a b c ≤ 12 → ND < 200 → ∀ v x6 A B C E : Int32, v.toInt = NDP (mi 193) k a b c → UN k a b c e x6 A B C E → Q (some (mm_I (nI ND))) (U7 (mm_u mi 188 ND k) ND A B C E v (nI (ND + 1))) ml) : mm_cq (mm_call mm_ms (mm_tb L xs) (d + 5)) 189 [mm_R 176, mm_I k, mm_I a, mm_I b, mm_I c, mm_I e] mi ml Q := by
  have hND := hI.1.2.1
  have n1 : ∀ {P : Prop}, (1 : Int32) = 0 → P := fun z => absurd z (by decide)
  have n0 : ∀ {P : Prop}, ¬ (0 : Int32) = 0 → P := fun z => absurd rfl z
  have h24 : ¬ okB NB ND k a b c e → mm_WQ (mm_call mm_ms (mm_tb L xs) (d + 4)) (mm_tb L xs) mm_m189 (mm_li mm_m189) Q 24 [some (mm_R 176), some (mm_I k), some (mm_I a), some (mm_I b), some (mm_I c), some (mm_I e), none, none, none] [] mi ml := fun z => bk_X12_node_24 (mm_call_m _) (hbad z)
  refine en_X12_node (bk_X12_node_0 (mm_call_m _) (sp_in (fun k0 k1 => bk_X12_node_7 (s0 := 1) (mm_call_m _) n1 (fun _ => ?_)) (fun q => bk_X12_node_7 (s0 := 0) (mm_call_m _) (fun _ => h24 (fun p => q (by rw [mm_tt0, mm_tt14]; exact p.1))) n0)))
  rw [mm_tt0] at k0
  rw [mm_tt14] at k1
  refine sx_mayBe hI ⟨k0, k1⟩ (fun ok => ?_) (fun ok => bk_X12_node_21 (s0 := 0) (mm_call_m _) n0 n0 (fun _ => h24 ok))
  have hd : ∀ p, p < ND → 1 ≤ (mi 193 p).toInt ∧ (mi 193 p).toInt ≤ 12 := fun p h => (hI.2.2.2.2.1 p h).2.1
  obtain ⟨⟨N1, N13⟩, -, -⟩ := NDP_r hND hd ok
  have hA := ok.2.2
  have hvp : ∀ {x : Int32}, ndN ND x → vp_in x 200 ∧ 1 ≤ (mi 193 x.toNatClampNeg).toInt ∧ (mi 193 x.toNatClampNeg).toInt ≤ 12 := fun {x} ⟨p, p1, p2⟩ => by
    rw [p2, nI_clamp (by omega)]
    exact ⟨vp_in_nI (by omega) (by decide), hd p p1⟩
  have h38 : ∀ x6 : Int32, ((x6 = 0 ∧ ¬ k = 14) ∨ (x6 = 1 ∧ k = 14)) → mm_WQ (mm_call mm_ms (mm_tb L xs) (d + 4)) (mm_tb L xs) mm_m189 (mm_li mm_m189) Q 38 [some (mm_R 176), some (mm_I k), some (mm_I a), some (mm_I b), some (mm_I c), some (mm_I e), none, none, none] [mm_I x6] mi ml := fun x6 h6 => by
    have h125 : ∀ (D x8 : Int32), D.toInt = NDP (mi 193) k a b c → mm_WQ (mm_call mm_ms (mm_tb L xs) (d + 4)) (mm_tb L xs) mm_m189 (mm_li mm_m189) Q 125 [some (mm_R 176), some (mm_I k), some (mm_I a), some (mm_I b), some (mm_I c), some (mm_I e), some (mm_I x6), some (mm_I (f_parts k)), some (mm_I x8)] [mm_I D] mi ml := fun D x8 hD => by
      have hle : D ≤ 12 → NDP (mi 193) k a b c ≤ 12 := fun z => by
        have := mm_leI z
        rw [hD, mm_tt12] at this
        exact this
      have hlt : ¬ mi 176 13 = 200 → ND < 200 := fun z => by
        rw [hI.2.1.2.1] at z
        exact mm_ne200 z hND
      refine bk_X12_node_125 (mm_call_m _) (fun _ z => ?_) (fun y z z2 => ?_) (fun y z z2 => ?_) (fun y z => hfull ok (hle y) (nI_ij (by omega) (by decide) (hI.2.1.2.1.symm.trans z))) (fun z => hno ok ?_)
      · rw [hI.2.1.2.1]
        exact vp_in_nI (hlt z) (by decide)
      · have hl := hlt z
        rw [hI.2.1.2.1, nI_clamp (by omega)]
        exact node_178x (by rw [mm_u_e (by decide)]; exact hI.2.1.2.1) hl (fun B C E p q r => hnew ok (hle y) hl D x6 a B C E hD ⟨h6, fun _ => rfl, p, q, r⟩)
      · have hl := hlt z
        rw [hI.2.1.2.1, nI_clamp (by omega)]
        exact node_178x (by rw [mm_u_e (by decide)]; exact hI.2.1.2.1) hl (fun B C E p q r => hnew ok (hle y) hl D x6 0 B C E hD ⟨h6, fun w => absurd z2 w, p, q, r⟩)
      · have := mm_nleI z
        rw [hD, mm_tt12] at this
        exact this
    have h98 : ∀ (D x8 : Int32), (1 ≤ D.toInt ∧ D.toInt ≤ 13) → ((f_parts k).toInt ≤ 2 → D.toInt = NDP (mi 193) k a b c) → (¬ (f_parts k).toInt ≤ 2 → D.toInt = 1 + mxi (mi 193 a.toNatClampNeg).toInt (mi 193 b.toNatClampNeg).toInt) → mm_WQ (mm_call mm_ms (mm_tb L xs) (d + 4)) (mm_tb L xs) mm_m189 (mm_li mm_m189) Q 98 [some (mm_R 176), some (mm_I k), some (mm_I a), some (mm_I b), some (mm_I c), some (mm_I e), some (mm_I x6), some (mm_I (f_parts k)), some (mm_I x8)] [mm_I D] mi ml := fun D x8 hD e2 e3 => by
      have hk14 : ¬ f_parts k ≤ 2 → ¬ k = 14 ∧ ndN ND c ∧ ¬ (f_parts k).toInt ≤ 2 := fun z => by
        have z' := mm_nleI z
        rw [mm_tt2] at z'
        have hx : ¬ k = 14 := fun q => by
          rw [q, f_parts_v.2.2.2.2.2.2.2.2.2.2.2, mm_tt1] at z'
          omega
        exact ⟨hx, (hA.2.2 hx).2.2 (by omega), by omega⟩
      refine bk_X12_node_98 (mm_call_m _) (fun z => h125 D D (e2 (by have := mm_leI z; rw [mm_tt2] at this; exact this))) (fun z => (hvp (hk14 z).2.1).1) (fun z => ?_)
      obtain ⟨hx, hc, hp⟩ := hk14 z
      have d1 := (hvp hc).2
      have e1 : (1 + mi 193 c.toNatClampNeg).toInt = 1 + (mi 193 c.toNatClampNeg).toInt := mm_1p (by omega) (by omega)
      refine sp_most (bk_X12_node_120 (mm_call_m _) (h125 _ _ ?_))
      rw [mxi_m, e1, e3 hp, mxi_1]
      unfold NDP
      rw [if_neg hx, if_neg (by omega), if_neg hp]
    have h72 : ∀ (D : Int32), (1 ≤ D.toInt ∧ D.toInt ≤ 13) → ((f_parts k).toInt ≤ 1 → D.toInt = NDP (mi 193) k a b c) → (¬ (f_parts k).toInt ≤ 1 → D.toInt = 1 + (mi 193 a.toNatClampNeg).toInt) → mm_WQ (mm_call mm_ms (mm_tb L xs) (d + 4)) (mm_tb L xs) mm_m189 (mm_li mm_m189) Q 72 [some (mm_R 176), some (mm_I k), some (mm_I a), some (mm_I b), some (mm_I c), some (mm_I e), some (mm_I x6), some (mm_I (f_parts k)), none] [mm_I D] mi ml := fun D hD e2 e3 => by
      have hk14 : ¬ f_parts k ≤ 1 → ¬ k = 14 ∧ ndN ND b ∧ ¬ (f_parts k).toInt ≤ 1 := fun z => by
        have z' := mm_nleI z
        rw [mm_tt1] at z'
        have hx : ¬ k = 14 := fun q => by
          rw [q, f_parts_v.2.2.2.2.2.2.2.2.2.2.2, mm_tt1] at z'
          omega
        exact ⟨hx, (hA.2.2 hx).2.1 (by omega), by omega⟩
      refine bk_X12_node_72 (mm_call_m _) (fun z => ?_) (fun z => (hvp (hk14 z).2.1).1) (fun z => ?_)
      · have z' := mm_leI z
        rw [mm_tt1] at z'
        exact h98 D D hD (fun _ => e2 z') (fun q => by omega)
      · obtain ⟨hx, hb, hp⟩ := hk14 z
        have d1 := (hvp hb).2
        have e1 : (1 + mi 193 b.toNatClampNeg).toInt = 1 + (mi 193 b.toNatClampNeg).toInt := mm_1p (by omega) (by omega)
        have hm := mxi_r (lo := 1) (hi := 13) hD (show 1 ≤ (1 + mi 193 b.toNatClampNeg).toInt ∧ (1 + mi 193 b.toNatClampNeg).toInt ≤ 13 by omega)
        refine sp_most (bk_X12_node_93 (mm_call_m _) (h98 _ D (by rw [mxi_m]; exact hm) (fun q => ?_) (fun q => ?_)))
        · rw [mxi_m, e1, e3 hp, mxi_1]
          unfold NDP
          rw [if_neg hx, if_neg (by omega), if_pos q, if_neg hp]
        · rw [mxi_m, e1, e3 hp, mxi_1]
    have h70 : ∀ (x : Int32), ndN ND x → ((f_parts k).toInt ≤ 1 → 1 + (mi 193 x.toNatClampNeg).toInt = NDP (mi 193) k a b c) → (¬ (f_parts k).toInt ≤ 1 → x = a) → mm_WQ (mm_call mm_ms (mm_tb L xs) (d + 4)) (mm_tb L xs) mm_m189 (mm_li mm_m189) Q 70 [some (mm_R 176), some (mm_I k), some (mm_I a), some (mm_I b), some (mm_I c), some (mm_I e), some (mm_I x6), some (mm_I (f_parts k)), none] [mm_I x, mm_R 193, mm_I 1] mi ml := fun x hx p q => by
      obtain ⟨v, d1, d2⟩ := hvp hx
      have e1 : (1 + mi 193 x.toNatClampNeg).toInt = 1 + (mi 193 x.toNatClampNeg).toInt := mm_1p (by omega) (by omega)
      refine bk_X12_node_70 (mm_call_m _) v (h72 _ (by omega) (fun w => by rw [e1]; exact p w) (fun w => ?_))
      rw [e1, q w]
    refine bk_X12_node_38 (mm_call_m _) (sp_X12_partsOf (bk_X12_node_44 (mm_call_m _) (fun z z2 => ?_) (fun z z2 => ?_) (fun z => ?_)))
    · have hx : ¬ k = 14 := by
        rcases h6 with q | q
        · exact q.2
        · rw [q.1] at z2
          exact absurd z2 (by decide)
      have hpos : 1 ≤ (f_parts k).toInt := by
        rcases f_parts_in k with q | q | q | q
        · exact absurd q z
        · rw [q]; decide
        · rw [q]; decide
        · rw [q]; decide
      refine h70 a ((hA.2.2 hx).1 hpos) (fun w => ?_) (fun _ => rfl)
      unfold NDP
      rw [if_neg hx, if_neg (by omega), if_pos (by omega), if_pos w]
    · have hx : k = 14 := by
        rcases h6 with q | q
        · exact absurd q.1 z2
        · exact q.2
      refine h70 b (hA.1 hx).2.1 (fun _ => ?_) (fun w => ?_)
      · unfold NDP
        rw [if_pos hx]
      · rw [hx, f_parts_v.2.2.2.2.2.2.2.2.2.2.2] at w
        exact absurd (by decide) w
    · have hx : ¬ k = 14 := fun q => by
        rw [q, f_parts_v.2.2.2.2.2.2.2.2.2.2.2] at z
        exact absurd z (by decide)
      refine h72 1 (by rw [mm_tt1]; omega) (fun _ => ?_) (fun w => ?_)
      · unfold NDP
        rw [if_neg hx, if_pos (by rw [z, mm_tt0]; omega), mm_tt1]
      · rw [z, mm_tt0] at w
        exact absurd (by decide) w
  exact bk_X12_node_21 (s0 := 1) (mm_call_m _) (fun _ z => h38 0 (.inl ⟨rfl, z⟩)) (fun _ z => h38 1 (.inr ⟨rfl, z⟩)) n1
theorem U7_o {w : mm_P} {n c' i : Nat} {a b c e x s : Int32} (h : ¬ (189 ≤ c' ∧ c' ≤ 193 ∧ i = n)) (h2 : ¬ (c' = 176 ∧ i = 13)) : U7 w n a b c e x s c' i = w c' i := by
  unfold U7
  rw [mm_u_o (by omega), mm_u_o (by omega), mm_u_o (by omega), mm_u_o (by omega), mm_u_o (by omega), mm_u_o (by omega)]
theorem U7_v {w : mm_P} {n : Nat} {a b c e x s : Int32} : U7 w n a b c e x s 189 n = a ∧ U7 w n a b c e x s 190 n = b ∧ U7 w n a b c e x s 191 n = c ∧ U7 w n a b c e x s 192 n = e ∧ U7 w n a b c e x s 193 n = x ∧ U7 w n a b c e x s 176 13 = s := by
  unfold U7
  refine ⟨?_, ?_, ?_, ?_, ?_, mm_u_s⟩
  · rw [mm_u_o (by omega), mm_u_o (by omega), mm_u_o (by omega), mm_u_o (by omega), mm_u_o (by omega), mm_u_s]
  · rw [mm_u_o (by omega), mm_u_o (by omega), mm_u_o (by omega), mm_u_o (by omega), mm_u_s]
  · rw [mm_u_o (by omega), mm_u_o (by omega), mm_u_o (by omega), mm_u_s]
  · rw [mm_u_o (by omega), mm_u_o (by omega), mm_u_s]
  · rw [mm_u_o (by omega), mm_u_s]
theorem lx_node {k a b c e : Int32} {Q' : Int32 → Int32 → mm_P → mm_G → Prop} (hCO : CO mi ml) (hQ : ∀ v n m2, CO n m2 → Q' v v n m2) : mm_cq (mm_call mm_ms (mm_tb L xs) (d + 20)) 144 [mm_R 0, mm_I k, mm_I a, mm_I b, mm_I c, mm_I e] mi ml (fun o n1 n2 => ∃ v, o = some (mm_I v) ∧ mm_cq (mm_call mm_ms (mm_tb L xs) (d + 20)) 189 [mm_R 176, mm_I k, mm_I a, mm_I b, mm_I c, mm_I e] n1 n2 (fun o2 n3 n4 => ∃ v2, o2 = some (mm_I v2) ∧ Q' v v2 n3 n4)) := by
  obtain ⟨hIC, ⟨NB, ND, NF, hI, hT, hN, hF⟩, h51, h41, hin⟩ := id hCO
  have hNB := hI.1.1
  have hND := hI.1.2.1
  have hd : ∀ p, p < ND → 1 ≤ (mi 193 p).toInt ∧ (mi 193 p).toInt ≤ 12 := fun p h => (hI.2.2.2.2.1 p h).2.1
  refine sx_X11_node (dep := mi 193) hIC hT.1 hNB.2 hN.1 hND (fun n hn => (hN.2 n hn).2.1) hd (fun nok => ⟨-2, rfl, ?_⟩) (fun ok h12 => ⟨-3, rfl, ?_⟩) (fun ok h12 hf => ⟨-4, rfl, ?_⟩) (fun ok h12 hlt v m1 m2 hv hi hf => ⟨nI ND, rfl, ?_⟩)
  · exact sx_X12_node (d := d + 15) hI (fun _ => ⟨_, rfl, hQ _ _ _ hCO⟩) (fun q => absurd q nok) (fun q => absurd q nok) (fun q => absurd q nok)
  · exact sx_X12_node (d := d + 15) hI (fun q => absurd ok q) (fun _ _ => ⟨_, rfl, hQ _ _ _ hCO⟩) (fun _ q => by omega) (fun _ q => by omega)
  · exact sx_X12_node (d := d + 15) hI (fun q => absurd ok q) (fun _ q => by omega) (fun _ _ _ => ⟨_, rfl, hQ _ _ _ hCO⟩) (fun _ _ q => by omega)
  · have hw : ∀ c i, ¬ (19 ≤ c ∧ c ≤ 30) → mm_wr mm_w_X4_fillNode c i = false := fun c i q => by
      cases hb : mm_wr mm_w_X4_fillNode c i with
      | false => rfl
      | true =>
        exfalso
        unfold mm_wr mm_w_X4_fillNode mm_wr1 at hb
        simp only [List.any_cons, List.any_nil, Bool.or_false] at hb
        split at hb
        · rename_i q1 q2
          have := Nat.le_of_ble_eq_true q1
          have := Nat.le_of_ble_eq_true q2
          omega
        · cases hb
    have hm : ∀ c' i, ¬ (19 ≤ c' ∧ c' ≤ 30) → m1 c' i = A7 mi ND k v a b c e c' i := fun c' i q => (hf c' i (hw c' i q)).1
    have hm' : ∀ c' i, ¬ (19 ≤ c' ∧ c' ≤ 30) → ¬ (c' = 4 ∧ i = ND) → ¬ (c' = 5 ∧ i = ND) → ¬ (c' = 6 ∧ 4 * ND ≤ i ∧ i < 4 * ND + 4) → ¬ (c' = 3 ∧ i = 5) → m1 c' i = mi c' i := fun c' i q q4 q5 q6 q3 => (hf c' i (hw c' i q)).1.trans (A7_o q4 q5 q6 q3)
    have hml : ∀ c' i, ¬ (19 ≤ c' ∧ c' ≤ 30) → m2 c' i = ml c' i := fun c' i q => (hf c' i (hw c' i q)).2
    have hI1 : IM m1 NB ND NF := IM_h hI (fun c' i q => hm' c' i (by omega) (by omega) (by omega) (by omega) (by omega))
    have e193 : m1 193 = mi 193 := funext (fun i => hm' 193 i (by omega) (by omega) (by omega) (by omega) (by omega))
    refine sx_X12_node (d := d + 15) hI1 (fun q => absurd ok q) (fun _ q => by rw [e193] at q; omega) (fun _ _ q => by omega) (fun _ _ _ v2 x6 A B C E hv2 hU => ⟨_, rfl, hQ _ _ _ ?_⟩)
    rw [e193, ← hv] at hv2
    have ev : v2 = v := Int32.toInt_inj.mp hv2
    subst ev
    obtain ⟨u1, u2, u3, u4, u5⟩ := hU
    obtain ⟨V1, V2, V3, V4, V5, V6⟩ := U7_v (w := mm_u m1 188 ND k) (n := ND) (a := A) (b := B) (c := C) (e := E) (x := v2) (s := nI (ND + 1))
    have V0 : U7 (mm_u m1 188 ND k) ND A B C E v2 (nI (ND + 1)) 188 ND = k := (U7_o (by omega) (by omega)).trans mm_u_s
    have hn : ∀ c' i, ¬ (188 ≤ c' ∧ c' ≤ 193 ∧ i = ND) → ¬ (c' = 176 ∧ i = 13) → U7 (mm_u m1 188 ND k) ND A B C E v2 (nI (ND + 1)) c' i = m1 c' i := fun c' i q q2 => by rw [U7_o (by omega) q2, mm_u_o (by omega)]
    have hnm : ∀ c' i, ¬ (188 ≤ c' ∧ c' ≤ 193 ∧ i = ND) → ¬ (c' = 176 ∧ i = 13) → ¬ (19 ≤ c' ∧ c' ≤ 30) → ¬ (c' = 4 ∧ i = ND) → ¬ (c' = 5 ∧ i = ND) → ¬ (c' = 6 ∧ 4 * ND ≤ i ∧ i < 4 * ND + 4) → ¬ (c' = 3 ∧ i = 5) → U7 (mm_u m1 188 ND k) ND A B C E v2 (nI (ND + 1)) c' i = mi c' i := fun c' i q q2 a b c d e => (hn c' i q q2).trans (hm' c' i a b c d e)
    obtain ⟨⟨N1, N13⟩, g14, gps⟩ := NDP_r hND hd ok
    obtain ⟨a4, a5, a60, a61, a62, a63, a35⟩ := A7_v (w := mi) (n := ND) (k := k) (v := v2) (a := a) (b := b) (c := c) (e := e)
    have hpp : ∀ {x : Int32} {y : Int}, (mi 193 x.toNatClampNeg).toInt < y → ∀ p, p < ND → x = nI p → (m1 193 p).toInt < y := fun {x y} h p hp e => by
      rw [e, nI_clamp (by omega)] at h
      rw [e193]
      exact h
    have hok : okN NB (U7 (mm_u m1 188 ND k) ND A B C E v2 (nI (ND + 1))) ND := okN_new hI1 ok.1 ok.2.2 u1 (by rw [hv]; omega) ⟨fun z => by rw [hv]; exact hpp (g14 z), fun z => ⟨fun y => by rw [hv]; exact hpp ((gps z).1 y), fun y => by rw [hv]; exact hpp ((gps z).2.1 y), fun y => by rw [hv]; exact hpp ((gps z).2.2 y)⟩⟩ u2 u3 u4 u5
    have hIn : IM (U7 (mm_u m1 188 ND k) ND A B C E v2 (nI (ND + 1))) NB (ND + 1) NF := IM_node hI1 hlt V6 (hn 176 0 (by omega) (by omega)) (hn 176 20 (by omega) (by omega)) (fun c' i q q2 => hn c' i q2 (by omega)) hok
    have k60 : k = 14 → ¬ x6 = 0 := fun z => by
      rcases u1 with q | q
      · exact absurd z q.2
      · rw [q.1]
        decide
    have hlt' : ∀ {j : Int32} {y : Int}, j.toInt = y → y + 1 ≤ (f_parts k).toInt → j < f_parts k := fun e h => by
      rw [Int32.lt_iff_toInt_lt, e]
      omega
    have hrow : ∀ t, t < NB → ∀ c', 177 ≤ c' → c' ≤ 183 → U7 (mm_u m1 188 ND k) ND A B C E v2 (nI (ND + 1)) c' t = mi c' t := fun t ht c' p q => hnm c' t (by omega) (by omega) (by omega) (by omega) (by omega) (by omega) (by omega)
    have hs : ∀ c' i, ¬ (188 ≤ c' ∧ c' ≤ 193) → ¬ c' = 176 → ¬ (19 ≤ c' ∧ c' ≤ 30) → ¬ c' = 4 → ¬ c' = 5 → ¬ c' = 6 → ¬ c' = 3 → U7 (mm_u m1 188 ND k) ND A B C E v2 (nI (ND + 1)) c' i = mi c' i := fun c' i p q r s t u w => hnm c' i (by omega) (by omega) r (by omega) (by omega) (by omega) (by omega)
    refine ⟨IC_k hi (fun c' i q => hn c' i (by omega) (by omega)), ⟨NB, ND + 1, NF, hIn, TC_c hT (hs 1 1 (by decide) (by decide) (by decide) (by decide) (by decide) (by decide) (by decide)) hrow (fun t _ => hml 2 t (by omega)), ⟨?_, fun j hj => ?_⟩, FC_c hI hF (hs 9 7 (by decide) (by decide) (by decide) (by decide) (by decide) (by decide) (by decide)) (fun c' i q => hs c' i (by omega) (by omega) (by omega) (by omega) (by omega) (by omega) (by omega)) (fun t _ => hml 2 t (by omega)) (fun i => hml 13 i (by omega)) (fun i => hml 14 i (by omega))⟩, ?_, ?_, fun i hi' => ?_⟩
    · rw [hn 3 5 (by omega) (by omega), hm 3 5 (by omega)]
      exact a35
    · by_cases hjN : j = ND
      · subst hjN
        rw [V0, V1, V2, V3, V4, V5, hn 4 j (by omega) (by omega), hn 5 j (by omega) (by omega), hn 6 _ (by omega) (by omega), hn 6 _ (by omega) (by omega), hn 6 _ (by omega) (by omega), hn 6 _ (by omega) (by omega), hm 4 j (by omega), hm 5 j (by omega), hm 6 _ (by omega), hm 6 _ (by omega), hm 6 _ (by omega), hm 6 _ (by omega), a4, a5, a60, a61, a62, a63]
        refine ⟨rfl, rfl, fun z => (u2 z).symm, fun z => (u3 ?_).symm, fun z => (u4 ?_).symm, fun z => (u5 (k60 z)).symm⟩
        · rcases z with z | z
          · exact .inl (hlt' mm_tt1 z)
          · exact .inr (k60 z)
        · rcases z with z | z
          · exact .inl (hlt' mm_tt2 z)
          · exact .inr (k60 z)
      · have hj' := hN.2 j (by omega)
        have hc' : ∀ c' i, (c' = 4 ∨ c' = 5) → i = j → U7 (mm_u m1 188 ND k) ND A B C E v2 (nI (ND + 1)) c' i = mi c' i := fun c' i q q2 => hnm c' i (by omega) (by omega) (by omega) (by omega) (by omega) (by omega) (by omega)
        have h6' : ∀ i, i < 4 * ND → U7 (mm_u m1 188 ND k) ND A B C E v2 (nI (ND + 1)) 6 i = mi 6 i := fun i q => hnm 6 i (by omega) (by omega) (by omega) (by omega) (by omega) (by omega) (by omega)
        have h8' : ∀ c', 188 ≤ c' → c' ≤ 193 → U7 (mm_u m1 188 ND k) ND A B C E v2 (nI (ND + 1)) c' j = mi c' j := fun c' p q => hnm c' j (by omega) (by omega) (by omega) (by omega) (by omega) (by omega) (by omega)
        rw [hc' 4 j (by omega) rfl, hc' 5 j (by omega) rfl, h6' _ (by omega), h6' _ (by omega), h6' _ (by omega), h6' _ (by omega), h8' 188 (by decide) (by decide), h8' 189 (by decide) (by decide), h8' 190 (by decide) (by decide), h8' 191 (by decide) (by decide), h8' 192 (by decide) (by decide), h8' 193 (by decide) (by decide)]
        exact hj'
    · rw [hnm 176 51 (by omega) (by omega) (by omega) (by omega) (by omega) (by omega) (by omega)]
      exact h51
    · rw [hnm 160 1 (by omega) (by omega) (by omega) (by omega) (by omega) (by omega) (by omega), hnm 176 41 (by omega) (by omega) (by omega) (by omega) (by omega) (by omega) (by omega)]
      exact h41
    · rw [hnm 160 1 (by omega) (by omega) (by omega) (by omega) (by omega) (by omega) (by omega)] at hi'
      rw [hnm 161 i (by omega) (by omega) (by omega) (by omega) (by omega) (by omega) (by omega), hnm 211 i (by omega) (by omega) (by omega) (by omega) (by omega) (by omega) (by omega)]
      exact hin i hi'
end MMT
