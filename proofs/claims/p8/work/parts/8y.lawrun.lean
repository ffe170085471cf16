/-! ===== the law's turns (by program) ===== -/
theorem ly_z {i L : Nat} (hL : L ≤ 3072) (hi : i ≤ 4000) (h : ¬ nI L - 6 < nI i) : i + 6 ≤ L := by
  have e : (nI L - 6).toInt = L - 6 := by
    rw [Int32.toInt_sub, mm_tI (by omega), mm_tt6, Int.bmod_eq_of_le] <;> omega
  have h' := mm_nltI h
  rw [e, mm_tI (by omega)] at h'
  omega
theorem ly_x {i L : Nat} (hL : L ≤ 3072) (hi : i ≤ 4000) (h : L < i + 6) : nI L - 6 < nI i := by
  have e : (nI L - 6).toInt = L - 6 := by
    rw [Int32.toInt_sub, mm_tI (by omega), mm_tt6, Int.bmod_eq_of_le] <;> omega
  rw [Int32.lt_iff_toInt_lt, e, mm_tI (by omega)]
  omega
theorem ly_vp {i L : Nat} {k : Int32} (hL : L ≤ 3072) (h : i + 6 ≤ L) (h0 : 0 ≤ k.toInt) (h5 : k.toInt ≤ 5) : vp_in (nI i + k) L := by
  have e : (nI i + k).toInt = i + k.toInt := by
    rw [mm_addI] <;> rw [mm_tI (by omega)] <;> omega
  exact vp_in_iff.mpr (by omega)
section MMZ
variable {L : Nat} {xs : Nat → Int32} {lim : Nat × Nat} {i : Nat} {mi : mm_P} {ml : mm_G}
theorem ly_pair (hL : L ≤ 3072) (hi : i + 6 ≤ L) (hCO : CK mi ml) (H : ∀ n m2, CK n m2 → mm_WQ (mm_call mm_ms (mm_tb L xs) 40) (mm_tb L xs) mm_ML lim (fun o _ _ => o = some (mm_I 1)) 648 [some (mm_S 0), some (mm_R 0), some (mm_R 176), some (mm_I (nI i))] [] n m2) : mm_cq (mm_call mm_ms (mm_tb L xs) 40) 141 [mm_R 0, mm_I (xs (nI i + 1).toNatClampNeg), mm_I (xs (nI i + 2).toNatClampNeg)] mi ml (fun o n1 n2 => mm_WQ (mm_call mm_ms (mm_tb L xs) 40) (mm_tb L xs) mm_ML lim (fun o _ _ => o = some (mm_I 1)) 142 [some (mm_S 0), some (mm_R 0), some (mm_R 176), some (mm_I (nI i))] (o.toList ++ []) n1 n2) := by
  refine mm_cq_m (mm_call_m 40) (lk_pair (Q' := fun v v2 n m2 => v = v2 ∧ CK n m2) hCO (fun v n m2 h => ⟨rfl, h⟩)) (fun o n1 n2 z => ?_)
  obtain ⟨v, rfl, z⟩ := z
  refine bk_L_142 (mm_call_m 40) (ly_vp hL hi (by decide) (by decide)) (ly_vp hL hi (by decide) (by decide)) (mm_cq_m (mm_call_m 40) z (fun o2 n3 n4 y => ?_))
  obtain ⟨v2, rfl, e, h⟩ := y
  subst e
  exact bk_L_157 (mm_call_m 40) (H _ _ h)
theorem ly_list (hL : L ≤ 3072) (hi : i + 6 ≤ L) (hCO : CK mi ml) (H : ∀ n m2, CK n m2 → mm_WQ (mm_call mm_ms (mm_tb L xs) 40) (mm_tb L xs) mm_ML lim (fun o _ _ => o = some (mm_I 1)) 648 [some (mm_S 0), some (mm_R 0), some (mm_R 176), some (mm_I (nI i))] [] n m2) : mm_cq (mm_call mm_ms (mm_tb L xs) 40) 142 [mm_R 0, mm_I (xs (nI i + 1).toNatClampNeg)] mi ml (fun o n1 n2 => mm_WQ (mm_call mm_ms (mm_tb L xs) 40) (mm_tb L xs) mm_ML lim (fun o _ _ => o = some (mm_I 1)) 170 [some (mm_S 0), some (mm_R 0), some (mm_R 176), some (mm_I (nI i))] (o.toList ++ []) n1 n2) := by
  refine mm_cq_m (mm_call_m 40) (lk_list (Q' := fun v v2 n m2 => v = v2 ∧ CK n m2) hCO (fun v n m2 h => ⟨rfl, h⟩)) (fun o n1 n2 z => ?_)
  obtain ⟨v, rfl, z⟩ := z
  refine bk_L_170 (mm_call_m 40) (ly_vp hL hi (by decide) (by decide)) (mm_cq_m (mm_call_m 40) z (fun o2 n3 n4 y => ?_))
  obtain ⟨v2, rfl, e, h⟩ := y
  subst e
  exact bk_L_180 (mm_call_m 40) (H _ _ h)
theorem ly_type (hL : L ≤ 3072) (hi : i + 6 ≤ L) (hCO : CK mi ml) (H : ∀ n m2, CK n m2 → mm_WQ (mm_call mm_ms (mm_tb L xs) 40) (mm_tb L xs) mm_ML lim (fun o _ _ => o = some (mm_I 1)) 648 [some (mm_S 0), some (mm_R 0), some (mm_R 176), some (mm_I (nI i))] [] n m2) : mm_cq (mm_call mm_ms (mm_tb L xs) 40) 143 [mm_R 0, mm_I (xs (nI i + 1).toNatClampNeg), mm_I (xs (nI i + 2).toNatClampNeg)] mi ml (fun o n1 n2 => mm_WQ (mm_call mm_ms (mm_tb L xs) 40) (mm_tb L xs) mm_ML lim (fun o _ _ => o = some (mm_I 1)) 198 [some (mm_S 0), some (mm_R 0), some (mm_R 176), some (mm_I (nI i))] (o.toList ++ []) n1 n2) := by
  refine mm_cq_m (mm_call_m 40) (lk_type (Q' := fun v v2 n m2 => v = v2 ∧ CK n m2) hCO (fun v n m2 h => ⟨rfl, h⟩)) (fun o n1 n2 z => ?_)
  obtain ⟨v, rfl, z⟩ := z
  refine bk_L_198 (mm_call_m 40) (ly_vp hL hi (by decide) (by decide)) (ly_vp hL hi (by decide) (by decide)) (mm_cq_m (mm_call_m 40) z (fun o2 n3 n4 y => ?_))
  obtain ⟨v2, rfl, e, h⟩ := y
  subst e
  exact bk_L_213 (mm_call_m 40) (H _ _ h)
theorem ly_node (hL : L ≤ 3072) (hi : i + 6 ≤ L) (hCO : CK mi ml) (H : ∀ n m2, CK n m2 → mm_WQ (mm_call mm_ms (mm_tb L xs) 40) (mm_tb L xs) mm_ML lim (fun o _ _ => o = some (mm_I 1)) 648 [some (mm_S 0), some (mm_R 0), some (mm_R 176), some (mm_I (nI i))] [] n m2) : mm_cq (mm_call mm_ms (mm_tb L xs) 40) 144 [mm_R 0, mm_I (xs (nI i + 1).toNatClampNeg), mm_I (xs (nI i + 2).toNatClampNeg), mm_I (xs (nI i + 3).toNatClampNeg), mm_I (xs (nI i + 4).toNatClampNeg), mm_I (xs (nI i + 5).toNatClampNeg)] mi ml (fun o n1 n2 => mm_WQ (mm_call mm_ms (mm_tb L xs) 40) (mm_tb L xs) mm_ML lim (fun o _ _ => o = some (mm_I 1)) 246 [some (mm_S 0), some (mm_R 0), some (mm_R 176), some (mm_I (nI i))] (o.toList ++ []) n1 n2) := by
  refine mm_cq_m (mm_call_m 40) (lk_node (Q' := fun v v2 n m2 => v = v2 ∧ CK n m2) hCO (fun v n m2 h => ⟨rfl, h⟩)) (fun o n1 n2 z => ?_)
  obtain ⟨v, rfl, z⟩ := z
  refine bk_L_246 (mm_call_m 40) (ly_vp hL hi (by decide) (by decide)) (ly_vp hL hi (by decide) (by decide)) (ly_vp hL hi (by decide) (by decide)) (ly_vp hL hi (by decide) (by decide)) (ly_vp hL hi (by decide) (by decide)) (mm_cq_m (mm_call_m 40) z (fun o2 n3 n4 y => ?_))
  obtain ⟨v2, rfl, e, h⟩ := y
  subst e
  exact bk_L_276 (mm_call_m 40) (H _ _ h)
theorem ly_function (hL : L ≤ 3072) (hi : i + 6 ≤ L) (hCO : CK mi ml) (H : ∀ n m2, CK n m2 → mm_WQ (mm_call mm_ms (mm_tb L xs) 40) (mm_tb L xs) mm_ML lim (fun o _ _ => o = some (mm_I 1)) 648 [some (mm_S 0), some (mm_R 0), some (mm_R 176), some (mm_I (nI i))] [] n m2) : mm_cq (mm_call mm_ms (mm_tb L xs) 40) 147 [mm_R 0, mm_I (xs (nI i + 1).toNatClampNeg), mm_I (xs (nI i + 2).toNatClampNeg), mm_I (xs (nI i + 3).toNatClampNeg)] mi ml (fun o n1 n2 => mm_WQ (mm_call mm_ms (mm_tb L xs) 40) (mm_tb L xs) mm_ML lim (fun o _ _ => o = some (mm_I 1)) 299 [some (mm_S 0), some (mm_R 0), some (mm_R 176), some (mm_I (nI i))] (o.toList ++ []) n1 n2) := by
  refine mm_cq_m (mm_call_m 40) (lk_function (Q' := fun v v2 n m2 => v = v2 ∧ CK n m2) hCO (fun v n m2 h => ⟨rfl, h⟩)) (fun o n1 n2 z => ?_)
  obtain ⟨v, rfl, z⟩ := z
  refine bk_L_299 (mm_call_m 40) (ly_vp hL hi (by decide) (by decide)) (ly_vp hL hi (by decide) (by decide)) (ly_vp hL hi (by decide) (by decide)) (mm_cq_m (mm_call_m 40) z (fun o2 n3 n4 y => ?_))
  obtain ⟨v2, rfl, e, h⟩ := y
  subst e
  exact bk_L_319 (mm_call_m 40) (H _ _ h)
theorem ly_body (hL : L ≤ 3072) (hi : i + 6 ≤ L) (hCO : CK mi ml) (H : ∀ n m2, CK n m2 → mm_WQ (mm_call mm_ms (mm_tb L xs) 40) (mm_tb L xs) mm_ML lim (fun o _ _ => o = some (mm_I 1)) 648 [some (mm_S 0), some (mm_R 0), some (mm_R 176), some (mm_I (nI i))] [] n m2) : mm_cq (mm_call mm_ms (mm_tb L xs) 40) 148 [mm_R 0, mm_I (xs (nI i + 1).toNatClampNeg), mm_I (xs (nI i + 2).toNatClampNeg)] mi ml (fun o n1 n2 => mm_WQ (mm_call mm_ms (mm_tb L xs) 40) (mm_tb L xs) mm_ML lim (fun o _ _ => o = some (mm_I 1)) 337 [some (mm_S 0), some (mm_R 0), some (mm_R 176), some (mm_I (nI i))] (o.toList ++ []) n1 n2) := by
  refine mm_cq_m (mm_call_m 40) (lk_body (Q' := fun v v2 n m2 => v = v2 ∧ CK n m2) hCO (fun v n m2 h => ⟨rfl, h⟩)) (fun o n1 n2 z => ?_)
  obtain ⟨v, rfl, z⟩ := z
  refine bk_L_337 (mm_call_m 40) (ly_vp hL hi (by decide) (by decide)) (ly_vp hL hi (by decide) (by decide)) (mm_cq_m (mm_call_m 40) z (fun o2 n3 n4 y => ?_))
  obtain ⟨v2, rfl, e, h⟩ := y
  subst e
  exact bk_L_352 (mm_call_m 40) (H _ _ h)
theorem ly_typeIn (hL : L ≤ 3072) (hi : i + 6 ≤ L) (hCO : CK mi ml) (H : ∀ n m2, CK n m2 → mm_WQ (mm_call mm_ms (mm_tb L xs) 40) (mm_tb L xs) mm_ML lim (fun o _ _ => o = some (mm_I 1)) 648 [some (mm_S 0), some (mm_R 0), some (mm_R 176), some (mm_I (nI i))] [] n m2) : mm_cq (mm_call mm_ms (mm_tb L xs) 40) 150 [mm_R 0, mm_I (xs (nI i + 1).toNatClampNeg), mm_I (xs (nI i + 2).toNatClampNeg)] mi ml (fun o n1 n2 => mm_WQ (mm_call mm_ms (mm_tb L xs) 40) (mm_tb L xs) mm_ML lim (fun o _ _ => o = some (mm_I 1)) 370 [some (mm_S 0), some (mm_R 0), some (mm_R 176), some (mm_I (nI i))] (o.toList ++ []) n1 n2) := by
  refine mm_cq_m (mm_call_m 40) (lk_typeIn (Q' := fun v v2 n m2 => v = v2 ∧ CK n m2) hCO (fun v n m2 h => ⟨rfl, h⟩)) (fun o n1 n2 z => ?_)
  obtain ⟨v, rfl, z⟩ := z
  refine bk_L_370 (mm_call_m 40) (ly_vp hL hi (by decide) (by decide)) (ly_vp hL hi (by decide) (by decide)) (mm_cq_m (mm_call_m 40) z (fun o2 n3 n4 y => ?_))
  obtain ⟨v2, rfl, e, h⟩ := y
  subst e
  exact bk_L_384 (mm_call_m 40) (fun _ => H _ _ h) (fun w => absurd rfl w)
theorem ly_wrong (hL : L ≤ 3072) (hi : i + 6 ≤ L) (hCO : CK mi ml) (H : ∀ n m2, CK n m2 → mm_WQ (mm_call mm_ms (mm_tb L xs) 40) (mm_tb L xs) mm_ML lim (fun o _ _ => o = some (mm_I 1)) 648 [some (mm_S 0), some (mm_R 0), some (mm_R 176), some (mm_I (nI i))] [] n m2) : mm_cq (mm_call mm_ms (mm_tb L xs) 40) 151 [mm_R 0, mm_I (xs (nI i + 1).toNatClampNeg)] mi ml (fun o n1 n2 => mm_WQ (mm_call mm_ms (mm_tb L xs) 40) (mm_tb L xs) mm_ML lim (fun o _ _ => o = some (mm_I 1)) 398 [some (mm_S 0), some (mm_R 0), some (mm_R 176), some (mm_I (nI i))] (o.toList ++ []) n1 n2) := by
  refine mm_cq_m (mm_call_m 40) (lk_wrong (Q' := fun v v2 n m2 => v = v2 ∧ CK n m2) hCO (fun v n m2 h => ⟨rfl, h⟩)) (fun o n1 n2 z => ?_)
  obtain ⟨v, rfl, z⟩ := z
  refine bk_L_398 (mm_call_m 40) (ly_vp hL hi (by decide) (by decide)) (mm_cq_m (mm_call_m 40) z (fun o2 n3 n4 y => ?_))
  obtain ⟨v2, rfl, e, h⟩ := y
  subst e
  exact bk_L_408 (mm_call_m 40) (H _ _ h)
theorem ly_reaches (hL : L ≤ 3072) (hi : i + 6 ≤ L) (hCO : CK mi ml) (H : ∀ n m2, CK n m2 → mm_WQ (mm_call mm_ms (mm_tb L xs) 40) (mm_tb L xs) mm_ML lim (fun o _ _ => o = some (mm_I 1)) 648 [some (mm_S 0), some (mm_R 0), some (mm_R 176), some (mm_I (nI i))] [] n m2) : mm_cq (mm_call mm_ms (mm_tb L xs) 40) 152 [mm_R 0, mm_I (xs (nI i + 1).toNatClampNeg), mm_I (xs (nI i + 2).toNatClampNeg)] mi ml (fun o n1 n2 => mm_WQ (mm_call mm_ms (mm_tb L xs) 40) (mm_tb L xs) mm_ML lim (fun o _ _ => o = some (mm_I 1)) 426 [some (mm_S 0), some (mm_R 0), some (mm_R 176), some (mm_I (nI i))] (o.toList ++ []) n1 n2) := by
  refine mm_cq_m (mm_call_m 40) (lk_reaches (Q' := fun v v2 n m2 => v = v2 ∧ CK n m2) hCO (fun v n m2 h => ⟨rfl, h⟩)) (fun o n1 n2 z => ?_)
  obtain ⟨v, rfl, z⟩ := z
  refine bk_L_426 (mm_call_m 40) (ly_vp hL hi (by decide) (by decide)) (ly_vp hL hi (by decide) (by decide)) (mm_cq_m (mm_call_m 40) z (fun o2 n3 n4 y => ?_))
  obtain ⟨v2, rfl, e, h⟩ := y
  subst e
  exact bk_L_441 (mm_call_m 40) (H _ _ h)
theorem ly_judge (hL : L ≤ 3072) (hi : i + 6 ≤ L) (hCO : CK mi ml) (H : ∀ n m2, CK n m2 → mm_WQ (mm_call mm_ms (mm_tb L xs) 40) (mm_tb L xs) mm_ML lim (fun o _ _ => o = some (mm_I 1)) 648 [some (mm_S 0), some (mm_R 0), some (mm_R 176), some (mm_I (nI i))] [] n m2) : mm_cq (mm_call mm_ms (mm_tb L xs) 40) 153 [mm_R 0] mi ml (fun o n1 n2 => mm_WQ (mm_call mm_ms (mm_tb L xs) 40) (mm_tb L xs) mm_ML lim (fun o _ _ => o = some (mm_I 1)) 449 [some (mm_S 0), some (mm_R 0), some (mm_R 176), some (mm_I (nI i))] (o.toList ++ []) n1 n2) := by
  refine mm_cq_m (mm_call_m 40) (lk_judge (Q' := fun v v2 n m2 => v = v2 ∧ CK n m2) hCO (fun v n m2 h => ⟨rfl, h⟩)) (fun o n1 n2 z => ?_)
  obtain ⟨v, rfl, z⟩ := z
  refine bk_L_449 (mm_call_m 40)  (mm_cq_m (mm_call_m 40) z (fun o2 n3 n4 y => ?_))
  obtain ⟨v2, rfl, e, h⟩ := y
  subst e
  exact bk_L_454 (mm_call_m 40) (H _ _ h)
theorem ly_copies (hL : L ≤ 3072) (hi : i + 6 ≤ L) (hCO : CK mi ml) (H : ∀ n m2, CK n m2 → mm_WQ (mm_call mm_ms (mm_tb L xs) 40) (mm_tb L xs) mm_ML lim (fun o _ _ => o = some (mm_I 1)) 648 [some (mm_S 0), some (mm_R 0), some (mm_R 176), some (mm_I (nI i))] [] n m2) : mm_cq (mm_call mm_ms (mm_tb L xs) 40) 154 [mm_R 0] mi ml (fun o n1 n2 => mm_WQ (mm_call mm_ms (mm_tb L xs) 40) (mm_tb L xs) mm_ML lim (fun o _ _ => o = some (mm_I 1)) 462 [some (mm_S 0), some (mm_R 0), some (mm_R 176), some (mm_I (nI i))] (o.toList ++ []) n1 n2) := by
  refine sc_X11_copies hCO.1.1.1 (fun v n1 n2 hIC hfw => ?_)
  have h1 : CK n1 n2 := CK_f hCO (by decide +kernel) (by decide +kernel) (by decide +kernel) hIC hfw
  obtain ⟨NB, ND, NF, hI, -⟩ := h1.1.1.2.1
  exact bk_L_462 (mm_call_m 40)  (sp_copies hI (fun w v hp => bk_L_467 (mm_call_m 40) (H w _ (CK_p h1 hp))))
theorem ly_copy (hL : L ≤ 3072) (hi : i + 6 ≤ L) (hCO : CK mi ml) (H : ∀ n m2, CK n m2 → mm_WQ (mm_call mm_ms (mm_tb L xs) 40) (mm_tb L xs) mm_ML lim (fun o _ _ => o = some (mm_I 1)) 648 [some (mm_S 0), some (mm_R 0), some (mm_R 176), some (mm_I (nI i))] [] n m2) : mm_cq (mm_call mm_ms (mm_tb L xs) 40) 155 [mm_R 0, mm_I (xs (nI i + 1).toNatClampNeg), mm_I (xs (nI i + 2).toNatClampNeg)] mi ml (fun o n1 n2 => mm_WQ (mm_call mm_ms (mm_tb L xs) 40) (mm_tb L xs) mm_ML lim (fun o _ _ => o = some (mm_I 1)) 485 [some (mm_S 0), some (mm_R 0), some (mm_R 176), some (mm_I (nI i))] (o.toList ++ []) n1 n2) := by
  refine sc_X11_copy hCO.1.1.1 (fun v n1 n2 hIC hfw => ?_)
  have h1 : CK n1 n2 := CK_f hCO (by decide +kernel) (by decide +kernel) (by decide +kernel) hIC hfw
  obtain ⟨NB, ND, NF, hI, -⟩ := h1.1.1.2.1
  exact bk_L_485 (mm_call_m 40) (ly_vp hL hi (by decide) (by decide)) (ly_vp hL hi (by decide) (by decide)) (sp_copy hI (fun w v hp => bk_L_500 (mm_call_m 40) (H w _ (CK_p h1 hp))))
theorem ly_input (hL : L ≤ 3072) (hi : i + 6 ≤ L) (hCO : CK mi ml) (H : ∀ n m2, CK n m2 → mm_WQ (mm_call mm_ms (mm_tb L xs) 40) (mm_tb L xs) mm_ML lim (fun o _ _ => o = some (mm_I 1)) 648 [some (mm_S 0), some (mm_R 0), some (mm_R 176), some (mm_I (nI i))] [] n m2) : mm_cq (mm_call mm_ms (mm_tb L xs) 40) 156 [mm_R 0, mm_I (xs (nI i + 1).toNatClampNeg)] mi ml (fun o n1 n2 => mm_WQ (mm_call mm_ms (mm_tb L xs) 40) (mm_tb L xs) mm_ML lim (fun o _ _ => o = some (mm_I 1)) 513 [some (mm_S 0), some (mm_R 0), some (mm_R 176), some (mm_I (nI i))] (o.toList ++ []) n1 n2) := by
  refine mm_cq_m (mm_call_m 40) (lk_input (Q' := fun v v2 n m2 => v = v2 ∧ CK n m2) hCO (fun v n m2 h => ⟨rfl, h⟩)) (fun o n1 n2 z => ?_)
  obtain ⟨v, rfl, z⟩ := z
  refine bk_L_513 (mm_call_m 40) (ly_vp hL hi (by decide) (by decide)) (mm_cq_m (mm_call_m 40) z (fun o2 n3 n4 y => ?_))
  obtain ⟨v2, rfl, e, h⟩ := y
  subst e
  exact bk_L_523 (mm_call_m 40) (H _ _ h)
theorem ly_empty (hL : L ≤ 3072) (hi : i + 6 ≤ L) (hCO : CK mi ml) (H : ∀ n m2, CK n m2 → mm_WQ (mm_call mm_ms (mm_tb L xs) 40) (mm_tb L xs) mm_ML lim (fun o _ _ => o = some (mm_I 1)) 648 [some (mm_S 0), some (mm_R 0), some (mm_R 176), some (mm_I (nI i))] [] n m2) : mm_cq (mm_call mm_ms (mm_tb L xs) 40) 157 [mm_R 0] mi ml (fun o n1 n2 => mm_WQ (mm_call mm_ms (mm_tb L xs) 40) (mm_tb L xs) mm_ML lim (fun o _ _ => o = some (mm_I 1)) 531 [some (mm_S 0), some (mm_R 0), some (mm_R 176), some (mm_I (nI i))] (o.toList ++ []) n1 n2) := by
  refine mm_cq_m (mm_call_m 40) (lk_empty (Q' := fun v v2 n m2 => v = v2 ∧ CK n m2) hCO (fun v n m2 h => ⟨rfl, h⟩)) (fun o n1 n2 z => ?_)
  obtain ⟨v, rfl, z⟩ := z
  refine bk_L_531 (mm_call_m 40)  (mm_cq_m (mm_call_m 40) z (fun o2 n3 n4 y => ?_))
  obtain ⟨v2, rfl, e, h⟩ := y
  subst e
  exact bk_L_536 (mm_call_m 40) (H _ _ h)
theorem ly_run (hL : L ≤ 3072) (hi : i + 6 ≤ L) (hCO : CK mi ml) (H : ∀ n m2, CK n m2 → mm_WQ (mm_call mm_ms (mm_tb L xs) 40) (mm_tb L xs) mm_ML lim (fun o _ _ => o = some (mm_I 1)) 648 [some (mm_S 0), some (mm_R 0), some (mm_R 176), some (mm_I (nI i))] [] n m2) : mm_cq (mm_call mm_ms (mm_tb L xs) 40) 158 [mm_R 0] mi ml (fun o n1 n2 => mm_WQ (mm_call mm_ms (mm_tb L xs) 40) (mm_tb L xs) mm_ML lim (fun o _ _ => o = some (mm_I 1)) 544 [some (mm_S 0), some (mm_R 0), some (mm_R 176), some (mm_I (nI i))] (o.toList ++ []) n1 n2) := by
  refine sc_X11_run hCO.1.1.1 (fun v n1 n2 hIC hfw => ?_)
  have h1 : CK n1 n2 := CK_f hCO (by decide +kernel) (by decide +kernel) (by decide +kernel) hIC hfw
  obtain ⟨NB, ND, NF, hI, -⟩ := h1.1.1.2.1
  exact bk_L_544 (mm_call_m 40)  (sp_run hI (CO_in h1.1.1) (fun w v hp => bk_L_549 (mm_call_m 40) (H w _ (CK_p h1 hp))) (fun w w' v r hp hr h51 hr2 => bk_L_549 (mm_call_m 40) (H w' _ (CK_rf h1 hp hr h51 hr2))))
theorem ly_runCopies (hL : L ≤ 3072) (hi : i + 6 ≤ L) (hCO : CK mi ml) (H : ∀ n m2, CK n m2 → mm_WQ (mm_call mm_ms (mm_tb L xs) 40) (mm_tb L xs) mm_ML lim (fun o _ _ => o = some (mm_I 1)) 648 [some (mm_S 0), some (mm_R 0), some (mm_R 176), some (mm_I (nI i))] [] n m2) : mm_cq (mm_call mm_ms (mm_tb L xs) 40) 159 [mm_R 0] mi ml (fun o n1 n2 => mm_WQ (mm_call mm_ms (mm_tb L xs) 40) (mm_tb L xs) mm_ML lim (fun o _ _ => o = some (mm_I 1)) 557 [some (mm_S 0), some (mm_R 0), some (mm_R 176), some (mm_I (nI i))] (o.toList ++ []) n1 n2) := by
  refine sc_X11_runCopies hCO.1.1.1 (fun v n1 n2 hIC hfw => ?_)
  have h1 : CK n1 n2 := CK_f hCO (by decide +kernel) (by decide +kernel) (by decide +kernel) hIC hfw
  obtain ⟨NB, ND, NF, hI, -⟩ := h1.1.1.2.1
  exact bk_L_557 (mm_call_m 40)  (sp_runCopies hI (CO_in h1.1.1) (fun w v hp => bk_L_562 (mm_call_m 40) (H w _ (CK_p h1 hp))) (fun w w' v r hp hr h51 hr2 => bk_L_562 (mm_call_m 40) (H w' _ (CK_rf h1 hp hr h51 hr2))))
theorem ly_result (hL : L ≤ 3072) (hi : i + 6 ≤ L) (hCO : CK mi ml) (H : ∀ n m2, CK n m2 → mm_WQ (mm_call mm_ms (mm_tb L xs) 40) (mm_tb L xs) mm_ML lim (fun o _ _ => o = some (mm_I 1)) 648 [some (mm_S 0), some (mm_R 0), some (mm_R 176), some (mm_I (nI i))] [] n m2) : mm_cq (mm_call mm_ms (mm_tb L xs) 40) 160 [mm_R 0, mm_I (xs (nI i + 1).toNatClampNeg)] mi ml (fun o n1 n2 => mm_WQ (mm_call mm_ms (mm_tb L xs) 40) (mm_tb L xs) mm_ML lim (fun o _ _ => o = some (mm_I 1)) 575 [some (mm_S 0), some (mm_R 0), some (mm_R 176), some (mm_I (nI i))] (o.toList ++ []) n1 n2) := by
  refine sc_X11_result hCO.1.1.1 (fun v n1 n2 hIC hfw => ?_)
  have h1 : CK n1 n2 := CK_f hCO (by decide +kernel) (by decide +kernel) (by decide +kernel) hIC hfw
  obtain ⟨NB, ND, NF, hI, -⟩ := h1.1.1.2.1
  exact bk_L_575 (mm_call_m 40) (ly_vp hL hi (by decide) (by decide)) (sp_result h1.1.1.2.2.1 (fun v => bk_L_585 (mm_call_m 40) (H _ _ h1)))
theorem ly_told (hL : L ≤ 3072) (hi : i + 6 ≤ L) (hCO : CK mi ml) (H : ∀ n m2, CK n m2 → mm_WQ (mm_call mm_ms (mm_tb L xs) 40) (mm_tb L xs) mm_ML lim (fun o _ _ => o = some (mm_I 1)) 648 [some (mm_S 0), some (mm_R 0), some (mm_R 176), some (mm_I (nI i))] [] n m2) : mm_cq (mm_call mm_ms (mm_tb L xs) 40) 161 [mm_R 0, mm_I (xs (nI i + 1).toNatClampNeg)] mi ml (fun o n1 n2 => mm_WQ (mm_call mm_ms (mm_tb L xs) 40) (mm_tb L xs) mm_ML lim (fun o _ _ => o = some (mm_I 1)) 598 [some (mm_S 0), some (mm_R 0), some (mm_R 176), some (mm_I (nI i))] (o.toList ++ []) n1 n2) := by
  refine sc_X11_told hCO.1.1.1 (fun v n1 n2 hIC hfw => ?_)
  have h1 : CK n1 n2 := CK_f hCO (by decide +kernel) (by decide +kernel) (by decide +kernel) hIC hfw
  obtain ⟨NB, ND, NF, hI, -⟩ := h1.1.1.2.1
  exact bk_L_598 (mm_call_m 40) (ly_vp hL hi (by decide) (by decide)) (sp_told (fun v => bk_L_608 (mm_call_m 40) (H _ _ h1)))
theorem ly_count (hL : L ≤ 3072) (hi : i + 6 ≤ L) (hCO : CK mi ml) (H : ∀ n m2, CK n m2 → mm_WQ (mm_call mm_ms (mm_tb L xs) 40) (mm_tb L xs) mm_ML lim (fun o _ _ => o = some (mm_I 1)) 648 [some (mm_S 0), some (mm_R 0), some (mm_R 176), some (mm_I (nI i))] [] n m2) : mm_cq (mm_call mm_ms (mm_tb L xs) 40) 162 [mm_R 0, mm_I (xs (nI i + 1).toNatClampNeg)] mi ml (fun o n1 n2 => mm_WQ (mm_call mm_ms (mm_tb L xs) 40) (mm_tb L xs) mm_ML lim (fun o _ _ => o = some (mm_I 1)) 621 [some (mm_S 0), some (mm_R 0), some (mm_R 176), some (mm_I (nI i))] (o.toList ++ []) n1 n2) := by
  refine mm_cq_m (mm_call_m 40) (lk_count (Q' := fun v v2 n m2 => v = v2 ∧ CK n m2) hCO (fun v n m2 h => ⟨rfl, h⟩)) (fun o n1 n2 z => ?_)
  obtain ⟨v, rfl, z⟩ := z
  refine bk_L_621 (mm_call_m 40) (ly_vp hL hi (by decide) (by decide)) (mm_cq_m (mm_call_m 40) z (fun o2 n3 n4 y => ?_))
  obtain ⟨v2, rfl, e, h⟩ := y
  subst e
  exact bk_L_631 (mm_call_m 40) (H _ _ h)
theorem ly_digest (hL : L ≤ 3072) (hi : i + 6 ≤ L) (hCO : CK mi ml) (H : ∀ n m2, CK n m2 → mm_WQ (mm_call mm_ms (mm_tb L xs) 40) (mm_tb L xs) mm_ML lim (fun o _ _ => o = some (mm_I 1)) 648 [some (mm_S 0), some (mm_R 0), some (mm_R 176), some (mm_I (nI i))] [] n m2) : mm_cq (mm_call mm_ms (mm_tb L xs) 40) 163 [mm_R 0] mi ml (fun o n1 n2 => mm_WQ (mm_call mm_ms (mm_tb L xs) 40) (mm_tb L xs) mm_ML lim (fun o _ _ => o = some (mm_I 1)) 639 [some (mm_S 0), some (mm_R 0), some (mm_R 176), some (mm_I (nI i))] (o.toList ++ []) n1 n2) := by
  refine mm_cq_m (mm_call_m 40) (lk_digest (Q' := fun v v2 n m2 => v = v2 ∧ CK n m2) hCO (fun v n m2 h => ⟨rfl, h⟩)) (fun o n1 n2 z => ?_)
  obtain ⟨v, rfl, z⟩ := z
  refine bk_L_639 (mm_call_m 40)  (mm_cq_m (mm_call_m 40) z (fun o2 n3 n4 y => ?_))
  obtain ⟨v2, rfl, e, h⟩ := y
  subst e
  exact bk_L_644 (mm_call_m 40) (H _ _ h)
theorem ly_loop (hL : L ≤ 3072) : ∀ (j i : Nat) (mi : mm_P) (ml : mm_G), i ≤ 4000 → L < i + 6 * j + 6 → CK mi ml → mm_WQ (mm_call mm_ms (mm_tb L xs) 40) (mm_tb L xs) mm_ML lim (fun o _ _ => o = some (mm_I 1)) 18 [some (mm_S 0), some (mm_R 0), some (mm_R 176), some (mm_I (nI i))] [] mi ml := by
  intro j
  induction j with
  | zero =>
    intro i mi ml hi hj hCO
    have hn : nI L - 6 < nI i := ly_x hL hi (by omega)
    exact bk_L_18 (mm_call_m 40) (fun _ => rfl) (fun z => absurd hn z) (fun z _ => absurd hn z) (fun z _ => absurd hn z) (fun z _ => absurd hn z) (fun z _ => absurd hn z) (fun z _ => absurd hn z) (fun z _ => absurd hn z) (fun z _ => absurd hn z) (fun z _ => absurd hn z) (fun z _ => absurd hn z) (fun z _ => absurd hn z) (fun z _ => absurd hn z) (fun z _ => absurd hn z) (fun z _ => absurd hn z) (fun z _ => absurd hn z) (fun z _ => absurd hn z) (fun z _ => absurd hn z) (fun z _ => absurd hn z) (fun z _ => absurd hn z) (fun z _ => absurd hn z) (fun z _ => absurd hn z) (fun z _ => absurd hn z) (fun z _ => absurd hn z) (fun z _ => absurd hn z) (fun z _ => absurd hn z) (fun z _ => absurd hn z) (fun z _ => absurd hn z) (fun z _ => absurd hn z) (fun z _ => absurd hn z) (fun z _ => absurd hn z) (fun z _ => absurd hn z) (fun z _ => absurd hn z) (fun z _ => absurd hn z) (fun z _ => absurd hn z) (fun z _ => absurd hn z) (fun z _ => absurd hn z) (fun z _ => absurd hn z) (fun z _ => absurd hn z) (fun z _ => absurd hn z) (fun z _ => absurd hn z) (fun z _ => absurd hn z) (fun z _ => absurd hn z) (fun z _ => absurd hn z) (fun z _ => absurd hn z) (fun z _ => absurd hn z) (fun z _ => absurd hn z) (fun z _ => absurd hn z) (fun z _ _ _ _ _ _ _ _ _ _ _ _ _ _ _ _ _ _ _ _ => absurd hn z)
  | succ j ih =>
    intro i mi ml hi hj hCO
    by_cases hlt : L < i + 6
    · have hn : nI L - 6 < nI i := ly_x hL hi hlt
      exact bk_L_18 (mm_call_m 40) (fun _ => rfl) (fun z => absurd hn z) (fun z _ => absurd hn z) (fun z _ => absurd hn z) (fun z _ => absurd hn z) (fun z _ => absurd hn z) (fun z _ => absurd hn z) (fun z _ => absurd hn z) (fun z _ => absurd hn z) (fun z _ => absurd hn z) (fun z _ => absurd hn z) (fun z _ => absurd hn z) (fun z _ => absurd hn z) (fun z _ => absurd hn z) (fun z _ => absurd hn z) (fun z _ => absurd hn z) (fun z _ => absurd hn z) (fun z _ => absurd hn z) (fun z _ => absurd hn z) (fun z _ => absurd hn z) (fun z _ => absurd hn z) (fun z _ => absurd hn z) (fun z _ => absurd hn z) (fun z _ => absurd hn z) (fun z _ => absurd hn z) (fun z _ => absurd hn z) (fun z _ => absurd hn z) (fun z _ => absurd hn z) (fun z _ => absurd hn z) (fun z _ => absurd hn z) (fun z _ => absurd hn z) (fun z _ => absurd hn z) (fun z _ => absurd hn z) (fun z _ => absurd hn z) (fun z _ => absurd hn z) (fun z _ => absurd hn z) (fun z _ => absurd hn z) (fun z _ => absurd hn z) (fun z _ => absurd hn z) (fun z _ => absurd hn z) (fun z _ => absurd hn z) (fun z _ => absurd hn z) (fun z _ => absurd hn z) (fun z _ => absurd hn z) (fun z _ => absurd hn z) (fun z _ => absurd hn z) (fun z _ => absurd hn z) (fun z _ => absurd hn z) (fun z _ _ _ _ _ _ _ _ _ _ _ _ _ _ _ _ _ _ _ _ => absurd hn z)
    · have H : ∀ n m2, CK n m2 → mm_WQ (mm_call mm_ms (mm_tb L xs) 40) (mm_tb L xs) mm_ML lim (fun o _ _ => o = some (mm_I 1)) 648 [some (mm_S 0), some (mm_R 0), some (mm_R 176), some (mm_I (nI i))] [] n m2 := fun n m2 h => bk_L_648 (mm_call_m 40) (by
        have e6 : nI i + 6 = nI (i + 6) := nI_a (a := i) (b := 6) (by omega)
        rw [e6]
        exact ih (i + 6) n m2 (by omega) (by omega) h)
      exact bk_L_18 (mm_call_m 40) (fun _ => rfl) (fun z => by have := ly_z hL (by omega) z; exact vp_in_nI (by omega) (by omega)) (fun z _ => ly_vp hL (ly_z hL (by omega) z) (by decide) (by decide)) (fun z _ => ly_vp hL (ly_z hL (by omega) z) (by decide) (by decide)) (fun z _ => ly_pair hL (ly_z hL (by omega) z) hCO H) (fun z _ => ly_vp hL (ly_z hL (by omega) z) (by decide) (by decide)) (fun z _ => ly_list hL (ly_z hL (by omega) z) hCO H) (fun z _ => ly_vp hL (ly_z hL (by omega) z) (by decide) (by decide)) (fun z _ => ly_vp hL (ly_z hL (by omega) z) (by decide) (by decide)) (fun z _ => ly_type hL (ly_z hL (by omega) z) hCO H) (fun z _ => ly_vp hL (ly_z hL (by omega) z) (by decide) (by decide)) (fun z _ => ly_vp hL (ly_z hL (by omega) z) (by decide) (by decide)) (fun z _ => ly_vp hL (ly_z hL (by omega) z) (by decide) (by decide)) (fun z _ => ly_vp hL (ly_z hL (by omega) z) (by decide) (by decide)) (fun z _ => ly_vp hL (ly_z hL (by omega) z) (by decide) (by decide)) (fun z _ => ly_node hL (ly_z hL (by omega) z) hCO H) (fun z _ => ly_vp hL (ly_z hL (by omega) z) (by decide) (by decide)) (fun z _ => ly_vp hL (ly_z hL (by omega) z) (by decide) (by decide)) (fun z _ => ly_vp hL (ly_z hL (by omega) z) (by decide) (by decide)) (fun z _ => ly_function hL (ly_z hL (by omega) z) hCO H) (fun z _ => ly_vp hL (ly_z hL (by omega) z) (by decide) (by decide)) (fun z _ => ly_vp hL (ly_z hL (by omega) z) (by decide) (by decide)) (fun z _ => ly_body hL (ly_z hL (by omega) z) hCO H) (fun z _ => ly_vp hL (ly_z hL (by omega) z) (by decide) (by decide)) (fun z _ => ly_vp hL (ly_z hL (by omega) z) (by decide) (by decide)) (fun z _ => ly_typeIn hL (ly_z hL (by omega) z) hCO H) (fun z _ => ly_vp hL (ly_z hL (by omega) z) (by decide) (by decide)) (fun z _ => ly_wrong hL (ly_z hL (by omega) z) hCO H) (fun z _ => ly_vp hL (ly_z hL (by omega) z) (by decide) (by decide)) (fun z _ => ly_vp hL (ly_z hL (by omega) z) (by decide) (by decide)) (fun z _ => ly_reaches hL (ly_z hL (by omega) z) hCO H) (fun z _ => ly_judge hL (ly_z hL (by omega) z) hCO H) (fun z _ => ly_copies hL (ly_z hL (by omega) z) hCO H) (fun z _ => ly_vp hL (ly_z hL (by omega) z) (by decide) (by decide)) (fun z _ => ly_vp hL (ly_z hL (by omega) z) (by decide) (by decide)) (fun z _ => ly_copy hL (ly_z hL (by omega) z) hCO H) (fun z _ => ly_vp hL (ly_z hL (by omega) z) (by decide) (by decide)) (fun z _ => ly_input hL (ly_z hL (by omega) z) hCO H) (fun z _ => ly_empty hL (ly_z hL (by omega) z) hCO H) (fun z _ => ly_run hL (ly_z hL (by omega) z) hCO H) (fun z _ => ly_runCopies hL (ly_z hL (by omega) z) hCO H) (fun z _ => ly_vp hL (ly_z hL (by omega) z) (by decide) (by decide)) (fun z _ => ly_result hL (ly_z hL (by omega) z) hCO H) (fun z _ => ly_vp hL (ly_z hL (by omega) z) (by decide) (by decide)) (fun z _ => ly_told hL (ly_z hL (by omega) z) hCO H) (fun z _ => ly_vp hL (ly_z hL (by omega) z) (by decide) (by decide)) (fun z _ => ly_count hL (ly_z hL (by omega) z) hCO H) (fun z _ => ly_digest hL (ly_z hL (by omega) z) hCO H) (fun _ _ _ _ _ _ _ _ _ _ _ _ _ _ _ _ _ _ _ _ _ => H _ _ hCO)
theorem ly_all (hL : L ≤ 3072) : mm_WQ (mm_call mm_ms (mm_tb L xs) 40) (mm_tb L xs) mm_ML lim (fun o _ _ => o = some (mm_I 1)) 18 [some (mm_S 0), some (mm_R 0), some (mm_R 176), some (mm_I 0)] [] mm_i0 mm_l0 := ly_loop hL 600 0 mm_i0 mm_l0 (by decide) (by omega) CK_0
end MMZ
