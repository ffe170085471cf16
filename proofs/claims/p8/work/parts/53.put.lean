/-! ===== the model's put() ===== -/
theorem mm_dec (p : Nat) (h : p < 2 ^ 31 - 1) : nI (p + 1) + (-1) = nI p := by
  refine Int32.toInt_inj.mp ?_
  rw [mm_addI] <;> rw [mm_tn1, mm_tI (show p + 1 < 2 ^ 31 by omega)]
  · rw [mm_tI (show p < 2 ^ 31 by omega)]
    omega
  · omega
  · omega
theorem mm_dec' (p : Nat) (h : p < 2 ^ 31 - 1) : nI (p + 1) - 1 = nI p := by
  refine Int32.toInt_inj.mp ?_
  rw [mm_sub1 (by rw [mm_tI (show p + 1 < 2 ^ 31 by omega)]; omega), mm_tI (show p + 1 < 2 ^ 31 by omega), mm_tI (show p < 2 ^ 31 by omega)]
  omega
theorem mm_nb1 : vp_nar .boolean 1 = 1 := by decide
theorem mm_nb0 : vp_nar .boolean 0 = 0 := by decide
section MMT
variable {L : Nat} {xs : Nat → Int32} {d : Nat} {Q : mm_QQ} {mi : mm_P} {ml : mm_G} {lim : Nat × Nat} {x1 x2 x3 : Int32}
/-- a turn of put()'s loop, type x on top of what is to do -/
theorem put20 {p q x : Nat} {x6 : Option mm_V} (hp : p < 61) (hq : q < 63) (hx : mi 185 p = nI x) (hx8 : x < 8000)
    (hcl : mi 181 x + mi 182 x = 0 → mm_WQ (mm_call mm_ms (mm_tb L xs) d) (mm_tb L xs) mm_m181 lim Q 20 [some (mm_R 176), some (mm_I x1), some (mm_I x2), some (mm_I x3), some (mm_I (nI p)), some (mm_I (nI (q + 1))), some (mm_I (nI x))] [] (mm_u mi 187 q (nI x)) ml)
    (hle : ¬ mi 181 x + mi 182 x = 0 → mi 177 x = 2 ∨ mi 177 x = 3 → mm_WQ (mm_call mm_ms (mm_tb L xs) d) (mm_tb L xs) mm_m181 lim Q 20 [some (mm_R 176), some (mm_I x1), some (mm_I x2), some (mm_I x3), some (mm_I (nI p)), some (mm_I (nI (q + 1))), some (mm_I (nI x))] [] (mm_u mi 187 q (if mi 177 x = 2 then x2 else x3)) ml)
    (hpu : ¬ mi 181 x + mi 182 x = 0 → ¬ mi 177 x = 2 → ¬ mi 177 x = 3 → mi 186 p = 0 → ¬ mi 177 x = 4 → mm_WQ (mm_call mm_ms (mm_tb L xs) d) (mm_tb L xs) mm_m181 lim Q 20 [some (mm_R 176), some (mm_I x1), some (mm_I x2), some (mm_I x3), some (mm_I (nI (p + 2))), some (mm_I (nI q)), some (mm_I (nI x))] [] (mm_u (mm_u (mm_u mi 186 p 1) 185 (p + 1) (mi 178 x)) 186 (p + 1) 0) ml)
    (hpp : ¬ mi 181 x + mi 182 x = 0 → ¬ mi 177 x = 2 → ¬ mi 177 x = 3 → mi 186 p = 0 → mi 177 x = 4 → mm_WQ (mm_call mm_ms (mm_tb L xs) d) (mm_tb L xs) mm_m181 lim Q 20 [some (mm_R 176), some (mm_I x1), some (mm_I x2), some (mm_I x3), some (mm_I (nI (p + 3))), some (mm_I (nI q)), some (mm_I (nI x))] [] (mm_u (mm_u (mm_u (mm_u (mm_u mi 186 p 1) 185 (p + 1) (mi 178 x)) 186 (p + 1) 0) 185 (p + 2) (mi 179 x)) 186 (p + 2) 0) ml)
    (hb5 : ¬ mi 181 x + mi 182 x = 0 → ¬ mi 177 x = 2 → ¬ mi 177 x = 3 → ¬ mi 186 p = 0 → mi 177 x = 5 → ∃ q1, q = q1 + 1 ∧ mm_cq (mm_call mm_ms (mm_tb L xs) d) 173 [mm_R 176, mm_I 5, mm_I (mi 187 q1), mm_I (-1)] mi ml (fun o n1 n2 => ∃ v, o = some (mm_I v) ∧ mm_WQ (mm_call mm_ms (mm_tb L xs) d) (mm_tb L xs) mm_m181 lim Q 20 [some (mm_R 176), some (mm_I x1), some (mm_I x2), some (mm_I x3), some (mm_I (nI p)), some (mm_I (nI q)), some (mm_I (nI x))] [] (mm_u n1 187 q1 v) n2))
    (hb4 : ¬ mi 181 x + mi 182 x = 0 → ¬ mi 177 x = 2 → ¬ mi 177 x = 3 → ¬ mi 186 p = 0 → ¬ mi 177 x = 5 → ∃ q1, q = q1 + 2 ∧ mm_cq (mm_call mm_ms (mm_tb L xs) d) 173 [mm_R 176, mm_I 4, mm_I (mi 187 (q1 + 1)), mm_I (mi 187 q1)] mi ml (fun o n1 n2 => ∃ v, o = some (mm_I v) ∧ mm_WQ (mm_call mm_ms (mm_tb L xs) d) (mm_tb L xs) mm_m181 lim Q 20 [some (mm_R 176), some (mm_I x1), some (mm_I x2), some (mm_I x3), some (mm_I (nI p)), some (mm_I (nI (q1 + 1))), some (mm_I (nI x))] [] (mm_u n1 187 q1 v) n2)) :
    mm_WQ (mm_call mm_ms (mm_tb L xs) d) (mm_tb L xs) mm_m181 lim Q 20 [some (mm_R 176), some (mm_I x1), some (mm_I x2), some (mm_I x3), some (mm_I (nI (p + 1))), some (mm_I (nI q)), x6] [] mi ml := by
  have e1 : nI (p + 1) + (-1) = nI p := mm_dec p (by omega)
  have e2 : nI p + 1 = nI (p + 1) := (nI_succ p).symm
  have e3 : nI (p + 1) + 1 = nI (p + 2) := (nI_succ (p + 1)).symm
  have e4 : nI (p + 2) + 1 = nI (p + 3) := (nI_succ (p + 2)).symm
  have eq1 : nI q + 1 = nI (q + 1) := (nI_succ q).symm
  have ep : (nI p).toNatClampNeg = p := nI_clamp (by omega)
  have ep1 : (nI (p + 1)).toNatClampNeg = p + 1 := nI_clamp (by omega)
  have ep2 : (nI (p + 2)).toNatClampNeg = p + 2 := nI_clamp (by omega)
  have ex : (nI x).toNatClampNeg = x := nI_clamp (by omega)
  have eqc : (nI q).toNatClampNeg = q := nI_clamp (by omega)
  have vx : vp_in (nI x) 8000 := vp_in_nI hx8 (by decide)
  have vp0 : vp_in (nI p) 64 := vp_in_nI (by omega) (by decide)
  have vp1 : vp_in (nI (p + 1)) 64 := vp_in_nI (by omega) (by decide)
  have vp2 : vp_in (nI (p + 2)) 64 := vp_in_nI (by omega) (by decide)
  have vq : vp_in (nI q) 64 := vp_in_nI (by omega) (by decide)
  have hn : ¬ nI (p + 1) ≤ 0 := by
    rw [Int32.le_iff_toInt_le, mm_tI (show p + 1 < 2 ^ 31 by omega), mm_tt0]
    omega
  refine bk_X12_put_20 (mm_call_m _) (fun z => absurd z hn) (fun z => absurd z hn) ?_ ?_ ?_ ?_ ?_ ?_ ?_ ?_ ?_ ?_ ?_ ?_ ?_ ?_ ?_ ?_ ?_ ?_ ?_ ?_ ?_ ?_ ?_ ?_ ?_ ?_ <;> simp only [e1, ep, hx, ex]
  · exact fun _ => vp0
  · exact fun _ => vx
  · exact fun _ => vx
  · exact fun _ _ => vx
  · intro _ c0 c2
    refine bk_X12_put_92 (mm_call_m _) vx (fun _ => vq) (fun z => ?_) (fun _ => vq) (fun z => bk_X12_put_277 (mm_call_m _) ?_)
    · rw [ex] at z
      exact absurd c2 z
    · have := hle c0 (.inl c2)
      rw [if_pos c2] at this
      rw [eq1, eqc]
      exact this
  · exact fun _ _ _ => vx
  · exact fun _ _ _ _ => vp0
  · exact fun _ _ _ _ _ => vx
  · intro _ c0 c2 c3 cb c5
    obtain ⟨q1, rfl, -⟩ := hb4 c0 c2 c3 cb c5
    rw [mm_dec (q1 + 1) (by omega)]
    exact vp_in_nI (by omega) (by decide)
  · intro _ c0 c2 c3 cb c5
    obtain ⟨q1, rfl, -⟩ := hb4 c0 c2 c3 cb c5
    rw [mm_dec (q1 + 1) (by omega), mm_dec' q1 (by omega)]
    exact vp_in_nI (by omega) (by decide)
  · intro _ c0 c2 c3 cb c5
    obtain ⟨q1, rfl, h⟩ := hb4 c0 c2 c3 cb c5
    rw [mm_dec (q1 + 1) (by omega), mm_dec' q1 (by omega), nI_clamp (show q1 + 1 < 2 ^ 31 by omega), nI_clamp (show q1 < 2 ^ 31 by omega)]
    refine mm_cq_m (mm_call_m _) h (fun o n1 n2 z => ?_)
    obtain ⟨v, rfl, hw⟩ := z
    refine bk_X12_put_276 (s1 := nI q1) (s2 := v) (mm_call_m _) (vp_in_nI (by omega) (by decide)) (bk_X12_put_277 (mm_call_m _) ?_)
    rw [nI_clamp (show q1 < 2 ^ 31 by omega)]
    exact hw
  · intro _ c0 c2 c3 cb c5
    obtain ⟨q1, rfl, -⟩ := hb5 c0 c2 c3 cb c5
    rw [mm_dec' q1 (by omega)]
    exact vp_in_nI (by omega) (by decide)
  · intro _ c0 c2 c3 cb c5
    obtain ⟨q1, rfl, h⟩ := hb5 c0 c2 c3 cb c5
    rw [mm_dec' q1 (by omega), nI_clamp (show q1 < 2 ^ 31 by omega)]
    refine mm_cq_m (mm_call_m _) h (fun o n1 n2 z => ?_)
    obtain ⟨v, rfl, hw⟩ := z
    refine bk_X12_put_240 (s1 := nI q1) (s2 := v) (mm_call_m _) (vp_in_nI (by omega) (by decide)) (bk_X12_put_277 (mm_call_m _) ?_)
    rw [nI_clamp (show q1 < 2 ^ 31 by omega)]
    exact hw
  · exact fun _ _ _ _ _ => vp0
  · exact fun _ _ _ _ _ => vx
  · rw [e2]
    exact fun _ _ _ _ _ => vp1
  · rw [e2]
    exact fun _ _ _ _ _ => vp1
  · exact fun _ _ _ _ _ => vx
  · intro _ c0 c2 c3 cb c4
    rw [e2, e3, ep1, mm_nb1, mm_nb0]
    exact bk_X12_put_277 (mm_call_m _) (hpu c0 c2 c3 cb c4)
  · exact fun _ _ _ _ _ _ => vx
  · rw [e2, e3]
    exact fun _ _ _ _ _ _ => vp2
  · rw [e2, e3]
    exact fun _ _ _ _ _ _ => vp2
  · intro _ c0 c2 c3 cb c4
    rw [e2, e3, e4, ep1, ep2, mm_nb1, mm_nb0]
    exact bk_X12_put_277 (mm_call_m _) (hpp c0 c2 c3 cb c4)
  · intro _ c0 c2 c3
    refine bk_X12_put_92 (mm_call_m _) vx (fun _ => vq) (fun z => bk_X12_put_277 (mm_call_m _) ?_) (fun _ => vq) (fun z => ?_)
    · have := hle c0 (.inr c3)
      rw [if_neg c2] at this
      rw [eq1, eqc]
      exact this
    · rw [ex] at z
      exact absurd z c2
  · exact fun _ _ => vq
  · intro _ c0
    rw [eq1, eqc]
    exact bk_X12_put_277 (mm_call_m _) (hcl c0)
end MMT
