/-! ===== shapes: numbers of types, taken apart and put together ===== -/
theorem mm_ll24 : (24 : Int64).toInt = 24 := rfl
theorem mm_ll624 : (624 : Int64).toInt = 624 := rfl
theorem mm_ll39 : (390624 : Int64).toInt = 390624 := rfl
theorem mm_ll15 : (152587890624 : Int64).toInt = 152587890624 := rfl
theorem mm_lln : (-1 : Int64).toInt = -1 := rfl
theorem f_rw_c {x : Int64} (h : 0 ≤ x.toInt) (h5 : x.toInt < 152587890624) : (x.toInt < 4 ∧ f_rw x = 4 ∧ f_dp x = 1) ∨ (4 ≤ x.toInt ∧ x.toInt < 24 ∧ f_rw x = 24 ∧ f_dp x = 2) ∨ (24 ≤ x.toInt ∧ x.toInt < 624 ∧ f_rw x = 624 ∧ f_dp x = 3) ∨ (624 ≤ x.toInt ∧ x.toInt < 390624 ∧ f_rw x = 390624 ∧ f_dp x = 4) ∨ (390624 ≤ x.toInt ∧ f_rw x = 0 ∧ f_dp x = 5) := by
  by_cases h4 : x.toInt < 4
  · exact .inl ⟨h4, by unfold f_rw; rw [if_neg (by omega), if_pos h4], by unfold f_dp; rw [if_neg (by omega), if_pos h4]⟩
  · by_cases h24 : x.toInt < 24
    · exact .inr (.inl ⟨by omega, h24, by unfold f_rw; rw [if_neg (by omega), if_neg (by omega), if_pos h24], by unfold f_dp; rw [if_neg (by omega), if_neg (by omega), if_pos h24]⟩)
    · by_cases h62 : x.toInt < 624
      · exact .inr (.inr (.inl ⟨by omega, h62, by unfold f_rw; rw [if_neg (by omega), if_neg (by omega), if_neg (by omega), if_pos h62], by unfold f_dp; rw [if_neg (by omega), if_neg (by omega), if_neg (by omega), if_pos h62]⟩))
      · by_cases h39 : x.toInt < 390624
        · exact .inr (.inr (.inr (.inl ⟨by omega, h39, by unfold f_rw; rw [if_neg (by omega), if_neg (by omega), if_neg (by omega), if_neg (by omega), if_pos h39], by unfold f_dp; rw [if_neg (by omega), if_neg (by omega), if_neg (by omega), if_neg (by omega), if_pos h39]⟩)))
        · exact .inr (.inr (.inr (.inr ⟨by omega, by unfold f_rw; rw [if_neg (by omega), if_neg (by omega), if_neg (by omega), if_neg (by omega), if_neg (by omega)], by unfold f_dp; rw [if_neg (by omega), if_neg (by omega), if_neg (by omega), if_neg (by omega), if_neg (by omega), if_pos h5]⟩)))
/-- the room of a PAIR's parts -/
theorem fmx {x y : Int64} (hx : 0 ≤ x.toInt ∧ x.toInt < 390624) (hy : 0 ≤ y.toInt ∧ y.toInt < 390624) : ∃ R : Int64, (if f_rw y < f_rw x then f_rw x else f_rw y) = R ∧ 1 ≤ (f_rw x).toInt ∧ 1 ≤ (f_rw y).toInt ∧ x.toInt < R.toInt ∧ y.toInt < R.toInt ∧ ((R = 4 ∧ f_most (f_dp x) (f_dp y) = 1) ∨ (R = 24 ∧ f_most (f_dp x) (f_dp y) = 2) ∨ (R = 624 ∧ f_most (f_dp x) (f_dp y) = 3) ∨ (R = 390624 ∧ f_most (f_dp x) (f_dp y) = 4)) := by
  rcases f_rw_c hx.1 (by omega) with ⟨b1, c1, d1⟩ | ⟨a1, b1, c1, d1⟩ | ⟨a1, b1, c1, d1⟩ | ⟨a1, b1, c1, d1⟩ | ⟨a1, -, -⟩ <;> rcases f_rw_c hy.1 (by omega) with ⟨b2, c2, d2⟩ | ⟨a2, b2, c2, d2⟩ | ⟨a2, b2, c2, d2⟩ | ⟨a2, b2, c2, d2⟩ | ⟨a2, -, -⟩
  · rw [c1, c2, d1, d2]
    exact ⟨4, by decide, by decide, by decide, by rw [mm_ll4]; omega, by rw [mm_ll4]; omega, .inl ⟨rfl, rfl⟩⟩
  · rw [c1, c2, d1, d2]
    exact ⟨24, by decide, by decide, by decide, by rw [mm_ll24]; omega, by rw [mm_ll24]; omega, .inr (.inl ⟨rfl, rfl⟩)⟩
  · rw [c1, c2, d1, d2]
    exact ⟨624, by decide, by decide, by decide, by rw [mm_ll624]; omega, by rw [mm_ll624]; omega, .inr (.inr (.inl ⟨rfl, rfl⟩))⟩
  · rw [c1, c2, d1, d2]
    exact ⟨390624, by decide, by decide, by decide, by rw [mm_ll39]; omega, by rw [mm_ll39]; omega, .inr (.inr (.inr ⟨rfl, rfl⟩))⟩
  · omega
  · rw [c1, c2, d1, d2]
    exact ⟨24, by decide, by decide, by decide, by rw [mm_ll24]; omega, by rw [mm_ll24]; omega, .inr (.inl ⟨rfl, rfl⟩)⟩
  · rw [c1, c2, d1, d2]
    exact ⟨24, by decide, by decide, by decide, by rw [mm_ll24]; omega, by rw [mm_ll24]; omega, .inr (.inl ⟨rfl, rfl⟩)⟩
  · rw [c1, c2, d1, d2]
    exact ⟨624, by decide, by decide, by decide, by rw [mm_ll624]; omega, by rw [mm_ll624]; omega, .inr (.inr (.inl ⟨rfl, rfl⟩))⟩
  · rw [c1, c2, d1, d2]
    exact ⟨390624, by decide, by decide, by decide, by rw [mm_ll39]; omega, by rw [mm_ll39]; omega, .inr (.inr (.inr ⟨rfl, rfl⟩))⟩
  · omega
  · rw [c1, c2, d1, d2]
    exact ⟨624, by decide, by decide, by decide, by rw [mm_ll624]; omega, by rw [mm_ll624]; omega, .inr (.inr (.inl ⟨rfl, rfl⟩))⟩
  · rw [c1, c2, d1, d2]
    exact ⟨624, by decide, by decide, by decide, by rw [mm_ll624]; omega, by rw [mm_ll624]; omega, .inr (.inr (.inl ⟨rfl, rfl⟩))⟩
  · rw [c1, c2, d1, d2]
    exact ⟨624, by decide, by decide, by decide, by rw [mm_ll624]; omega, by rw [mm_ll624]; omega, .inr (.inr (.inl ⟨rfl, rfl⟩))⟩
  · rw [c1, c2, d1, d2]
    exact ⟨390624, by decide, by decide, by decide, by rw [mm_ll39]; omega, by rw [mm_ll39]; omega, .inr (.inr (.inr ⟨rfl, rfl⟩))⟩
  · omega
  · rw [c1, c2, d1, d2]
    exact ⟨390624, by decide, by decide, by decide, by rw [mm_ll39]; omega, by rw [mm_ll39]; omega, .inr (.inr (.inr ⟨rfl, rfl⟩))⟩
  · rw [c1, c2, d1, d2]
    exact ⟨390624, by decide, by decide, by decide, by rw [mm_ll39]; omega, by rw [mm_ll39]; omega, .inr (.inr (.inr ⟨rfl, rfl⟩))⟩
  · rw [c1, c2, d1, d2]
    exact ⟨390624, by decide, by decide, by decide, by rw [mm_ll39]; omega, by rw [mm_ll39]; omega, .inr (.inr (.inr ⟨rfl, rfl⟩))⟩
  · rw [c1, c2, d1, d2]
    exact ⟨390624, by decide, by decide, by decide, by rw [mm_ll39]; omega, by rw [mm_ll39]; omega, .inr (.inr (.inr ⟨rfl, rfl⟩))⟩
  · omega
  · omega
  · omega
  · omega
  · omega
  · omega
/-- a number in the room behind R -/
theorem f_rb_e {t R : Int64} (hR : (R = 4 ∧ 4 ≤ t.toInt ∧ t.toInt < 24) ∨ (R = 24 ∧ 24 ≤ t.toInt ∧ t.toInt < 624) ∨ (R = 624 ∧ 624 ≤ t.toInt ∧ t.toInt < 390624) ∨ (R = 390624 ∧ 390624 ≤ t.toInt)) : f_rb t = R := by
  unfold f_rb
  rcases hR with ⟨rfl, a, b⟩ | ⟨rfl, a, b⟩ | ⟨rfl, a, b⟩ | ⟨rfl, a⟩
  · rw [if_neg (by omega), if_pos b]
  · rw [if_neg (by omega), if_neg (by omega), if_pos b]
  · rw [if_neg (by omega), if_neg (by omega), if_neg (by omega), if_pos b]
  · rw [if_neg (by omega), if_neg (by omega), if_neg (by omega), if_neg (by omega)]
theorem f_dp_e {t R : Int64} (hR : (R = 4 ∧ 4 ≤ t.toInt ∧ t.toInt < 24) ∨ (R = 24 ∧ 24 ≤ t.toInt ∧ t.toInt < 624) ∨ (R = 624 ∧ 624 ≤ t.toInt ∧ t.toInt < 390624) ∨ (R = 390624 ∧ 390624 ≤ t.toInt ∧ t.toInt < 152587890624)) : (R = 4 ∧ f_dp t = 2) ∨ (R = 24 ∧ f_dp t = 3) ∨ (R = 624 ∧ f_dp t = 4) ∨ (R = 390624 ∧ f_dp t = 5) := by
  unfold f_dp
  rcases hR with ⟨rfl, a, b⟩ | ⟨rfl, a, b⟩ | ⟨rfl, a, b⟩ | ⟨rfl, a, b⟩
  · exact .inl ⟨rfl, by rw [if_neg (by omega), if_neg (by omega), if_pos b]⟩
  · exact .inr (.inl ⟨rfl, by rw [if_neg (by omega), if_neg (by omega), if_neg (by omega), if_pos b]⟩)
  · exact .inr (.inr (.inl ⟨rfl, by rw [if_neg (by omega), if_neg (by omega), if_neg (by omega), if_neg (by omega), if_pos b]⟩))
  · exact .inr (.inr (.inr ⟨rfl, by rw [if_neg (by omega), if_neg (by omega), if_neg (by omega), if_neg (by omega), if_neg (by omega), if_pos b]⟩))
theorem f_kd_e {t R : Int64} (h4 : 4 ≤ t.toInt) (hR : f_rb t = R) : f_kd t = if R.toInt ≤ (t - R).toInt then 4 else 5 := by
  unfold f_kd
  rw [if_neg (by omega), if_neg (by omega), hR]
/-- a PAIR of two types -/
theorem f_pr_ok {x y : Int64} (hx : 0 ≤ x.toInt ∧ x.toInt < 390624) (hy : 0 ≤ y.toInt ∧ y.toInt < 390624) : (4 ≤ (f_pr x y).toInt ∧ (f_pr x y).toInt < 152587890624) ∧ f_kd (f_pr x y) = 4 ∧ f_fs (f_pr x y) = x ∧ f_sc (f_pr x y) = y ∧ f_dp (f_pr x y) = 1 + f_most (f_dp x) (f_dp y) := by
  obtain ⟨R, r1, r2, r3, r4, r5, r6⟩ := fmx hx hy
  have e : f_pr x y = R + (x + 1) * R + y := by
    unfold f_pr
    rw [if_neg (by omega), if_pos r3, r1]
  have hRt : R.toInt = 4 ∨ R.toInt = 24 ∨ R.toInt = 624 ∨ R.toInt = 390624 := by
    rcases r6 with ⟨rfl, -⟩ | ⟨rfl, -⟩ | ⟨rfl, -⟩ | ⟨rfl, -⟩
    · exact .inl rfl
    · exact .inr (.inl rfl)
    · exact .inr (.inr (.inl rfl))
    · exact .inr (.inr (.inr rfl))
  have hx1 : (x + 1).toInt = x.toInt + 1 := by rw [mm_ladd] <;> rw [mm_ll1] <;> omega
  have hp0 : 0 ≤ (x.toInt + 1) * R.toInt := Int.mul_nonneg (by omega) (by omega)
  have hp1 : (x.toInt + 1) * R.toInt ≤ R.toInt * R.toInt := Int.mul_le_mul_of_nonneg_right (by omega) (by omega)
  have hp2 : R.toInt ≤ (x.toInt + 1) * R.toInt := by
    have := Int.mul_le_mul_of_nonneg_right (show 1 ≤ x.toInt + 1 by omega) (show 0 ≤ R.toInt by omega)
    omega
  have hRR : R.toInt * R.toInt ≤ 152587109376 := by
    rcases hRt with h | h | h | h <;> rw [h] <;> decide
  have hm : ((x + 1) * R).toInt = (x.toInt + 1) * R.toInt := by
    rw [mm_lmul] <;> rw [hx1] <;> omega
  have hs : (R + (x + 1) * R).toInt = R.toInt + (x.toInt + 1) * R.toInt := by
    rw [mm_ladd] <;> rw [hm] <;> omega
  have ht : (f_pr x y).toInt = R.toInt + (x.toInt + 1) * R.toInt + y.toInt := by
    rw [e, mm_ladd] <;> rw [hs] <;> omega
  have hroom : (R = 4 ∧ 4 ≤ (f_pr x y).toInt ∧ (f_pr x y).toInt < 24) ∨ (R = 24 ∧ 24 ≤ (f_pr x y).toInt ∧ (f_pr x y).toInt < 624) ∨ (R = 624 ∧ 624 ≤ (f_pr x y).toInt ∧ (f_pr x y).toInt < 390624) ∨ (R = 390624 ∧ 390624 ≤ (f_pr x y).toInt ∧ (f_pr x y).toInt < 152587890624) := by
    rw [ht]
    rcases r6 with ⟨rfl, -⟩ | ⟨rfl, -⟩ | ⟨rfl, -⟩ | ⟨rfl, -⟩
    · rw [mm_ll4] at *
      exact .inl ⟨rfl, by omega, by omega⟩
    · rw [mm_ll24] at *
      exact .inr (.inl ⟨rfl, by omega, by omega⟩)
    · rw [mm_ll624] at *
      exact .inr (.inr (.inl ⟨rfl, by omega, by omega⟩))
    · rw [mm_ll39] at *
      exact .inr (.inr (.inr ⟨rfl, by omega, by omega⟩))
  have hrb : f_rb (f_pr x y) = R := f_rb_e (by rcases hroom with h | h | h | ⟨h1, h2, h3⟩; exact .inl h; exact .inr (.inl h); exact .inr (.inr (.inl h)); exact .inr (.inr (.inr ⟨h1, h2⟩)))
  have h4 : 4 ≤ (f_pr x y).toInt := by rw [ht]; omega
  have hover : (f_pr x y).toInt - R.toInt = (x.toInt + 1) * R.toInt + y.toInt := by rw [ht]; omega
  have hle : R.toInt ≤ (f_pr x y).toInt := by rw [ht]; omega
  obtain ⟨u1, u2⟩ := f_fs_of hrb (by omega) hle
  obtain ⟨v1, v2⟩ := f_sc_of hrb (by omega) hle
  have hover2 : R.toInt ≤ (f_pr x y).toInt - R.toInt := by rw [hover]; omega
  have u1' := u1 hover2
  have v1' := v1 hover2
  rw [hover] at u1' v1'
  have hdiv : ((x.toInt + 1) * R.toInt + y.toInt) / R.toInt = x.toInt + 1 := by
    rw [Int.add_comm, Int.add_mul_ediv_right _ _ (by omega), Int.ediv_eq_zero_of_lt hy.1 r5]
    omega
  have hmod : ((x.toInt + 1) * R.toInt + y.toInt) % R.toInt = y.toInt := by
    rw [Int.add_comm, Int.add_mul_emod_self_right, Int.emod_eq_of_lt hy.1 r5]
  rw [hdiv] at u1'
  rw [hmod] at v1'
  have hsub : (f_pr x y - R).toInt = (f_pr x y).toInt - R.toInt := by
    have := mm_llt (f_pr x y)
    exact mm_lsub (by omega) (by omega)
  refine ⟨⟨h4, ?_⟩, ?_, Int64.toInt_inj.mp (by omega), Int64.toInt_inj.mp v1', ?_⟩
  · rcases hroom with h | h | h | h <;> omega
  · rw [f_kd_e h4 hrb, hsub, if_pos hover2]
  · rcases f_dp_e hroom with ⟨q1, q2⟩ | ⟨q1, q2⟩ | ⟨q1, q2⟩ | ⟨q1, q2⟩ <;> rcases r6 with ⟨p1, p2⟩ | ⟨p1, p2⟩ | ⟨p1, p2⟩ | ⟨p1, p2⟩
    all_goals first
      | (rw [q2, p2]; decide)
      | (rw [q1] at p1; exact absurd p1 (by decide))
/-- a LIST of a type -/
theorem f_ls_ok {x : Int64} (hx : 0 ≤ x.toInt ∧ x.toInt < 390624) : (4 ≤ (f_ls x).toInt ∧ (f_ls x).toInt < 152587890624) ∧ f_kd (f_ls x) = 5 ∧ f_fs (f_ls x) = x ∧ f_sc (f_ls x) = -1 ∧ f_dp (f_ls x) = 1 + f_dp x := by
  have hc : ∃ R : Int64, f_rw x = R ∧ x.toInt < R.toInt ∧ ((R = 4 ∧ f_dp x = 1) ∨ (R = 24 ∧ f_dp x = 2) ∨ (R = 624 ∧ f_dp x = 3) ∨ (R = 390624 ∧ f_dp x = 4)) := by
    rcases f_rw_c hx.1 (by omega) with ⟨b1, c1, d1⟩ | ⟨a1, b1, c1, d1⟩ | ⟨a1, b1, c1, d1⟩ | ⟨a1, b1, c1, d1⟩ | ⟨a1, -, -⟩
    · exact ⟨4, c1, by rw [mm_ll4]; omega, .inl ⟨rfl, d1⟩⟩
    · exact ⟨24, c1, by rw [mm_ll24]; omega, .inr (.inl ⟨rfl, d1⟩)⟩
    · exact ⟨624, c1, by rw [mm_ll624]; omega, .inr (.inr (.inl ⟨rfl, d1⟩))⟩
    · exact ⟨390624, c1, by rw [mm_ll39]; omega, .inr (.inr (.inr ⟨rfl, d1⟩))⟩
    · omega
  obtain ⟨R, r1, r4, r6⟩ := hc
  have hRt : R.toInt = 4 ∨ R.toInt = 24 ∨ R.toInt = 624 ∨ R.toInt = 390624 := by
    rcases r6 with ⟨rfl, -⟩ | ⟨rfl, -⟩ | ⟨rfl, -⟩ | ⟨rfl, -⟩
    · exact .inl rfl
    · exact .inr (.inl rfl)
    · exact .inr (.inr (.inl rfl))
    · exact .inr (.inr (.inr rfl))
  have e : f_ls x = R + x := by
    unfold f_ls
    rw [r1, if_pos (by omega)]
  have ht : (f_ls x).toInt = R.toInt + x.toInt := by
    rw [e, mm_ladd] <;> omega
  have hroom : (R = 4 ∧ 4 ≤ (f_ls x).toInt ∧ (f_ls x).toInt < 24) ∨ (R = 24 ∧ 24 ≤ (f_ls x).toInt ∧ (f_ls x).toInt < 624) ∨ (R = 624 ∧ 624 ≤ (f_ls x).toInt ∧ (f_ls x).toInt < 390624) ∨ (R = 390624 ∧ 390624 ≤ (f_ls x).toInt ∧ (f_ls x).toInt < 152587890624) := by
    rw [ht]
    rcases r6 with ⟨rfl, -⟩ | ⟨rfl, -⟩ | ⟨rfl, -⟩ | ⟨rfl, -⟩
    · rw [mm_ll4] at *
      exact .inl ⟨rfl, by omega, by omega⟩
    · rw [mm_ll24] at *
      exact .inr (.inl ⟨rfl, by omega, by omega⟩)
    · rw [mm_ll624] at *
      exact .inr (.inr (.inl ⟨rfl, by omega, by omega⟩))
    · rw [mm_ll39] at *
      exact .inr (.inr (.inr ⟨rfl, by omega, by omega⟩))
  have hrb : f_rb (f_ls x) = R := f_rb_e (by rcases hroom with h | h | h | ⟨h1, h2, h3⟩; exact .inl h; exact .inr (.inl h); exact .inr (.inr (.inl h)); exact .inr (.inr (.inr ⟨h1, h2⟩)))
  have h4 : 4 ≤ (f_ls x).toInt := by rw [ht]; omega
  obtain ⟨u1, u2⟩ := f_fs_of hrb (by omega) (by rw [ht]; omega)
  obtain ⟨v1, v2⟩ := f_sc_of hrb (by omega) (by rw [ht]; omega)
  have u2' := u2 (by rw [ht]; omega)
  have v2' := v2 (by rw [ht]; omega)
  have hsub : (f_ls x - R).toInt = (f_ls x).toInt - R.toInt := by
    have := mm_llt (f_ls x)
    exact mm_lsub (by omega) (by omega)
  refine ⟨⟨h4, ?_⟩, ?_, Int64.toInt_inj.mp (by omega), Int64.toInt_inj.mp (v2'.trans mm_lln.symm), ?_⟩
  · rcases hroom with h | h | h | h <;> omega
  · rw [f_kd_e h4 hrb, hsub, if_neg (by rw [ht]; omega)]
  · rcases f_dp_e hroom with ⟨q1, q2⟩ | ⟨q1, q2⟩ | ⟨q1, q2⟩ | ⟨q1, q2⟩ <;> rcases r6 with ⟨p1, p2⟩ | ⟨p1, p2⟩ | ⟨p1, p2⟩ | ⟨p1, p2⟩
    all_goals first
      | (rw [q2, p2]; decide)
      | (rw [q1] at p1; exact absurd p1 (by decide))
/-- too deep parts -/
theorem f_pr_no {x y : Int64} (hx : 0 ≤ x.toInt ∧ x.toInt < 152587890624) (hy : 0 ≤ y.toInt ∧ y.toInt < 152587890624) (h : 390624 ≤ x.toInt ∨ 390624 ≤ y.toInt) : f_pr x y = -1 := by
  have hz : ∀ z : Int64, 390624 ≤ z.toInt → z.toInt < 152587890624 → f_rw z = 0 := fun z a b => by
    rcases f_rw_c (show 0 ≤ z.toInt by omega) b with ⟨b1, -, -⟩ | ⟨-, b1, -, -⟩ | ⟨-, b1, -, -⟩ | ⟨-, b1, -, -⟩ | ⟨-, c1, -⟩
    · omega
    · omega
    · omega
    · omega
    · exact c1
  unfold f_pr
  rcases h with h | h
  · rw [hz x h hx.2, if_pos (by decide)]
  · rw [hz y h hy.2]
    split
    · rfl
    · rfl
theorem f_ls_no {x : Int64} (hx : 390624 ≤ x.toInt ∧ x.toInt < 152587890624) : f_ls x = -1 := by
  unfold f_ls
  rcases f_rw_c (show 0 ≤ x.toInt by omega) hx.2 with ⟨b1, -, -⟩ | ⟨-, b1, -, -⟩ | ⟨-, b1, -, -⟩ | ⟨-, b1, -, -⟩ | ⟨-, c1, -⟩
  · omega
  · omega
  · omega
  · omega
  · rw [c1]
    rfl
/-- depth 5 is where nothing more can be made -/
theorem f_dp_5 {x : Int64} (hx : 0 ≤ x.toInt ∧ x.toInt < 152587890624) : (x.toInt < 390624 ∧ (f_dp x).toInt ≤ 4 ∧ 1 ≤ (f_dp x).toInt) ∨ (390624 ≤ x.toInt ∧ f_dp x = 5) := by
  rcases f_rw_c hx.1 hx.2 with ⟨b1, c1, d1⟩ | ⟨a1, b1, c1, d1⟩ | ⟨a1, b1, c1, d1⟩ | ⟨a1, b1, c1, d1⟩ | ⟨a1, c1, d1⟩
  · exact .inl ⟨by omega, by rw [d1]; decide, by rw [d1]; decide⟩
  · exact .inl ⟨by omega, by rw [d1]; decide, by rw [d1]; decide⟩
  · exact .inl ⟨by omega, by rw [d1]; decide, by rw [d1]; decide⟩
  · exact .inl ⟨by omega, by rw [d1]; decide, by rw [d1]; decide⟩
  · exact .inr ⟨a1, d1⟩
