/-! ===== both objects, new: alike ===== -/
theorem mm_l0_v : mm_l0 2 0 = 0 ∧ mm_l0 2 1 = 1 ∧ mm_l0 2 2 = 2 ∧ mm_l0 2 3 = 3 := by
  unfold mm_l0
  refine ⟨?_, ?_, ?_, ?_⟩ <;> decide +kernel
theorem CO_0 : CO mm_i0 mm_l0 := by
  obtain ⟨hIC, -, h51, h41⟩ := LI_0
  have r : ∀ c i x, mm_n0 c i x = true → mm_i0 c i = x := fun c i x h => mm_n0_s h
  obtain ⟨l0, l1, l2, l3⟩ := mm_l0_v
  have hbs : ∀ t, t < 4 → bs mm_i0 t ∧ (mm_l0 2 t).toInt = (mm_i0 177 t).toInt := fun t ht => by
    unfold bs
    rcases (show t = 0 ∨ t = 1 ∨ t = 2 ∨ t = 3 by omega) with rfl | rfl | rfl | rfl
    · rw [l0, r 177 0 0 (by decide +kernel), r 178 0 (-1) (by decide +kernel), r 179 0 (-1) (by decide +kernel), r 180 0 1 (by decide +kernel), r 181 0 0 (by decide +kernel), r 182 0 0 (by decide +kernel), r 183 0 1 (by decide +kernel)]
      decide
    · rw [l1, r 177 1 1 (by decide +kernel), r 178 1 (-1) (by decide +kernel), r 179 1 (-1) (by decide +kernel), r 180 1 1 (by decide +kernel), r 181 1 0 (by decide +kernel), r 182 1 0 (by decide +kernel), r 183 1 1 (by decide +kernel)]
      decide
    · rw [l2, r 177 2 2 (by decide +kernel), r 178 2 (-1) (by decide +kernel), r 179 2 (-1) (by decide +kernel), r 180 2 1 (by decide +kernel), r 181 2 1 (by decide +kernel), r 182 2 0 (by decide +kernel), r 183 2 (-1) (by decide +kernel)]
      decide
    · rw [l3, r 177 3 3 (by decide +kernel), r 178 3 (-1) (by decide +kernel), r 179 3 (-1) (by decide +kernel), r 180 3 1 (by decide +kernel), r 181 3 0 (by decide +kernel), r 182 3 1 (by decide +kernel), r 183 3 (-1) (by decide +kernel)]
      decide
  have hT : TC 4 mm_i0 mm_l0 := by
    refine ⟨r _ _ _ (by decide +kernel), fun t ht => .inl (hbs t ht), fun t u ht hu e => ?_⟩
    have hv : ∀ t, t < 4 → (mm_l0 2 t).toInt = t := fun t ht => by
      rcases (show t = 0 ∨ t = 1 ∨ t = 2 ∨ t = 3 by omega) with rfl | rfl | rfl | rfl
      · rw [l0]; rfl
      · rw [l1]; rfl
      · rw [l2]; rfl
      · rw [l3]; rfl
    have := hv t ht
    rw [e, hv u hu] at this
    omega
  have e0 : mm_i0 176 0 = nI 4 := r _ _ _ (by decide +kernel)
  have hI : IM mm_i0 4 0 0 := by
    refine ⟨⟨⟨by decide, by decide⟩, by decide, by decide⟩, ⟨e0, r _ _ _ (by decide +kernel), r _ _ _ (by decide +kernel)⟩, fun t ht => .inl (hbs t ht).1, fun t ht => ?_, fun n hn => absurd hn (Nat.not_lt_zero _), fun n hn => absurd hn (Nat.not_lt_zero _), r _ _ _ (by decide +kernel), r _ _ _ (by decide +kernel), r _ _ _ (by decide +kernel), r _ _ _ (by decide +kernel)⟩
    rcases (show t = 0 ∨ t = 1 ∨ t = 2 ∨ t = 3 by omega) with rfl | rfl | rfl | rfl
    · rw [r 180 0 1 (by decide +kernel), r 181 0 0 (by decide +kernel), r 182 0 0 (by decide +kernel)]
      decide
    · rw [r 180 1 1 (by decide +kernel), r 181 1 0 (by decide +kernel), r 182 1 0 (by decide +kernel)]
      decide
    · rw [r 180 2 1 (by decide +kernel), r 181 2 1 (by decide +kernel), r 182 2 0 (by decide +kernel)]
      decide
    · rw [r 180 3 1 (by decide +kernel), r 181 3 0 (by decide +kernel), r 182 3 1 (by decide +kernel)]
      decide
  refine ⟨hIC, ⟨4, 0, 0, hI, hT, ⟨r _ _ _ (by decide +kernel), fun n hn => absurd hn (Nat.not_lt_zero _)⟩, ⟨r _ _ _ (by decide +kernel), fun n hn => absurd hn (Nat.not_lt_zero _)⟩⟩, h51, h41, fun i hi => ?_⟩
  rw [r 160 1 0 (by decide +kernel), mm_tt0] at hi
  omega
