/-! ===== the law's turns (by program) ===== -/
theorem LI_in {m : mm_P} (h : LI m) : (m 176 41).toInt ≤ 16 := by
  rw [← h.2.2.2]
  exact h.1.2.2.2.2.2.2
theorem lw_z {i L : Nat} (hL : L ≤ 3072) (hi : i ≤ 4000) (h : ¬ nI L - 6 < nI i) : i + 6 ≤ L := by
  have e : (nI L - 6).toInt = L - 6 := by
    rw [Int32.toInt_sub, mm_tI (by omega), mm_tt6, Int.bmod_eq_of_le] <;> omega
  have h' := mm_nltI h
  rw [e, mm_tI (by omega)] at h'
  omega
theorem lw_x {i L : Nat} (hL : L ≤ 3072) (hi : i ≤ 4000) (h : L < i + 6) : nI L - 6 < nI i := by
  have e : (nI L - 6).toInt = L - 6 := by
    rw [Int32.toInt_sub, mm_tI (by omega), mm_tt6, Int.bmod_eq_of_le] <;> omega
  rw [Int32.lt_iff_toInt_lt, e, mm_tI (by omega)]
  omega
theorem lw_vp {i L : Nat} {k : Int32} (hL : L ≤ 3072) (h : i + 6 ≤ L) (h0 : 0 ≤ k.toInt) (h5 : k.toInt ≤ 5) : vp_in (nI i + k) L := by
  have e : (nI i + k).toInt = i + k.toInt := by
    rw [mm_addI] <;> rw [mm_tI (by omega)] <;> omega
  exact vp_in_iff.mpr (by omega)
section MMZ
variable {L : Nat} {xs : Nat → Int32} {lim : Nat × Nat} {i : Nat} {mi : mm_P} {ml : mm_G}
theorem lz_pair (hL : L ≤ 3072) (hi : i + 6 ≤ L) (hLI : LI mi) (H : ∀ n m2, LI n → mm_WQ (mm_call mm_ms (mm_tb L xs) 40) (mm_tb L xs) mm_ML lim (fun o _ _ => o = some (mm_I 1)) 648 [some (mm_S 0), some (mm_R 0), some (mm_R 176), some (mm_I (nI i))] [] n m2) : mm_cq (mm_call mm_ms (mm_tb L xs) 40) 141 [mm_R 0, mm_I (xs (nI i + 1).toNatClampNeg), mm_I (xs (nI i + 2).toNatClampNeg)] mi ml (fun o n1 n2 => mm_WQ (mm_call mm_ms (mm_tb L xs) 40) (mm_tb L xs) mm_ML lim (fun o _ _ => o = some (mm_I 1)) 142 [some (mm_S 0), some (mm_R 0), some (mm_R 176), some (mm_I (nI i))] (o.toList ++ []) n1 n2) := by
  refine sc_X11_pair hLI.1 (fun v n1 n2 hIC hfw => ?_)
  have h1 : LI n1 := LI_c hLI (by decide +kernel) (by decide +kernel) hIC hfw
  obtain ⟨NB, ND, NF, hI⟩ := h1.2.1
  exact bk_L_142 (mm_call_m 40) (lw_vp hL hi (by decide) (by decide)) (lw_vp hL hi (by decide) (by decide)) (sp_pair hI (fun n NB' v a b => bk_L_157 (mm_call_m 40) (H n _ (LI_k h1 a b))))
theorem lz_list (hL : L ≤ 3072) (hi : i + 6 ≤ L) (hLI : LI mi) (H : ∀ n m2, LI n → mm_WQ (mm_call mm_ms (mm_tb L xs) 40) (mm_tb L xs) mm_ML lim (fun o _ _ => o = some (mm_I 1)) 648 [some (mm_S 0), some (mm_R 0), some (mm_R 176), some (mm_I (nI i))] [] n m2) : mm_cq (mm_call mm_ms (mm_tb L xs) 40) 142 [mm_R 0, mm_I (xs (nI i + 1).toNatClampNeg)] mi ml (fun o n1 n2 => mm_WQ (mm_call mm_ms (mm_tb L xs) 40) (mm_tb L xs) mm_ML lim (fun o _ _ => o = some (mm_I 1)) 170 [some (mm_S 0), some (mm_R 0), some (mm_R 176), some (mm_I (nI i))] (o.toList ++ []) n1 n2) := by
  refine sc_X11_list hLI.1 (fun v n1 n2 hIC hfw => ?_)
  have h1 : LI n1 := LI_c hLI (by decide +kernel) (by decide +kernel) hIC hfw
  obtain ⟨NB, ND, NF, hI⟩ := h1.2.1
  exact bk_L_170 (mm_call_m 40) (lw_vp hL hi (by decide) (by decide)) (sp_list hI (fun n NB' v a b => bk_L_180 (mm_call_m 40) (H n _ (LI_k h1 a b))))
theorem lz_type (hL : L ≤ 3072) (hi : i + 6 ≤ L) (hLI : LI mi) (H : ∀ n m2, LI n → mm_WQ (mm_call mm_ms (mm_tb L xs) 40) (mm_tb L xs) mm_ML lim (fun o _ _ => o = some (mm_I 1)) 648 [some (mm_S 0), some (mm_R 0), some (mm_R 176), some (mm_I (nI i))] [] n m2) : mm_cq (mm_call mm_ms (mm_tb L xs) 40) 143 [mm_R 0, mm_I (xs (nI i + 1).toNatClampNeg), mm_I (xs (nI i + 2).toNatClampNeg)] mi ml (fun o n1 n2 => mm_WQ (mm_call mm_ms (mm_tb L xs) 40) (mm_tb L xs) mm_ML lim (fun o _ _ => o = some (mm_I 1)) 198 [some (mm_S 0), some (mm_R 0), some (mm_R 176), some (mm_I (nI i))] (o.toList ++ []) n1 n2) := by
  refine sc_X11_type hLI.1 (fun v n1 n2 hIC hfw => ?_)
  have h1 : LI n1 := LI_c hLI (by decide +kernel) (by decide +kernel) hIC hfw
  obtain ⟨NB, ND, NF, hI⟩ := h1.2.1
  exact bk_L_198 (mm_call_m 40) (lw_vp hL hi (by decide) (by decide)) (lw_vp hL hi (by decide) (by decide)) (sp_type hI (fun v => bk_L_213 (mm_call_m 40) (H _ _ h1)))
theorem lz_node (hL : L ≤ 3072) (hi : i + 6 ≤ L) (hLI : LI mi) (H : ∀ n m2, LI n → mm_WQ (mm_call mm_ms (mm_tb L xs) 40) (mm_tb L xs) mm_ML lim (fun o _ _ => o = some (mm_I 1)) 648 [some (mm_S 0), some (mm_R 0), some (mm_R 176), some (mm_I (nI i))] [] n m2) : mm_cq (mm_call mm_ms (mm_tb L xs) 40) 144 [mm_R 0, mm_I (xs (nI i + 1).toNatClampNeg), mm_I (xs (nI i + 2).toNatClampNeg), mm_I (xs (nI i + 3).toNatClampNeg), mm_I (xs (nI i + 4).toNatClampNeg), mm_I (xs (nI i + 5).toNatClampNeg)] mi ml (fun o n1 n2 => mm_WQ (mm_call mm_ms (mm_tb L xs) 40) (mm_tb L xs) mm_ML lim (fun o _ _ => o = some (mm_I 1)) 246 [some (mm_S 0), some (mm_R 0), some (mm_R 176), some (mm_I (nI i))] (o.toList ++ []) n1 n2) := by
  refine sc_X11_node hLI.1 (fun v n1 n2 hIC hfw => ?_)
  have h1 : LI n1 := LI_c hLI (by decide +kernel) (by decide +kernel) hIC hfw
  obtain ⟨NB, ND, NF, hI⟩ := h1.2.1
  exact bk_L_246 (mm_call_m 40) (lw_vp hL hi (by decide) (by decide)) (lw_vp hL hi (by decide) (by decide)) (lw_vp hL hi (by decide) (by decide)) (lw_vp hL hi (by decide) (by decide)) (lw_vp hL hi (by decide) (by decide)) (sp_node hI (fun n ND' v a b => bk_L_276 (mm_call_m 40) (H n _ (LI_k h1 a b))))
theorem lz_function (hL : L ≤ 3072) (hi : i + 6 ≤ L) (hLI : LI mi) (H : ∀ n m2, LI n → mm_WQ (mm_call mm_ms (mm_tb L xs) 40) (mm_tb L xs) mm_ML lim (fun o _ _ => o = some (mm_I 1)) 648 [some (mm_S 0), some (mm_R 0), some (mm_R 176), some (mm_I (nI i))] [] n m2) : mm_cq (mm_call mm_ms (mm_tb L xs) 40) 147 [mm_R 0, mm_I (xs (nI i + 1).toNatClampNeg), mm_I (xs (nI i + 2).toNatClampNeg), mm_I (xs (nI i + 3).toNatClampNeg)] mi ml (fun o n1 n2 => mm_WQ (mm_call mm_ms (mm_tb L xs) 40) (mm_tb L xs) mm_ML lim (fun o _ _ => o = some (mm_I 1)) 299 [some (mm_S 0), some (mm_R 0), some (mm_R 176), some (mm_I (nI i))] (o.toList ++ []) n1 n2) := by
  refine sc_X11_function hLI.1 (fun v n1 n2 hIC hfw => ?_)
  have h1 : LI n1 := LI_c hLI (by decide +kernel) (by decide +kernel) hIC hfw
  obtain ⟨NB, ND, NF, hI⟩ := h1.2.1
  exact bk_L_299 (mm_call_m 40) (lw_vp hL hi (by decide) (by decide)) (lw_vp hL hi (by decide) (by decide)) (lw_vp hL hi (by decide) (by decide)) (sp_function hI (fun n NF' v a b => bk_L_319 (mm_call_m 40) (H n _ (LI_k h1 a b))))
theorem lz_body (hL : L ≤ 3072) (hi : i + 6 ≤ L) (hLI : LI mi) (H : ∀ n m2, LI n → mm_WQ (mm_call mm_ms (mm_tb L xs) 40) (mm_tb L xs) mm_ML lim (fun o _ _ => o = some (mm_I 1)) 648 [some (mm_S 0), some (mm_R 0), some (mm_R 176), some (mm_I (nI i))] [] n m2) : mm_cq (mm_call mm_ms (mm_tb L xs) 40) 148 [mm_R 0, mm_I (xs (nI i + 1).toNatClampNeg), mm_I (xs (nI i + 2).toNatClampNeg)] mi ml (fun o n1 n2 => mm_WQ (mm_call mm_ms (mm_tb L xs) 40) (mm_tb L xs) mm_ML lim (fun o _ _ => o = some (mm_I 1)) 337 [some (mm_S 0), some (mm_R 0), some (mm_R 176), some (mm_I (nI i))] (o.toList ++ []) n1 n2) := by
  refine sc_X11_body hLI.1 (fun v n1 n2 hIC hfw => ?_)
  have h1 : LI n1 := LI_c hLI (by decide +kernel) (by decide +kernel) hIC hfw
  obtain ⟨NB, ND, NF, hI⟩ := h1.2.1
  exact bk_L_337 (mm_call_m 40) (lw_vp hL hi (by decide) (by decide)) (lw_vp hL hi (by decide) (by decide)) (sp_body hI (fun n v a b => bk_L_352 (mm_call_m 40) (H n _ (LI_k h1 a b))))
theorem lz_typeIn (hL : L ≤ 3072) (hi : i + 6 ≤ L) (hLI : LI mi) (H : ∀ n m2, LI n → mm_WQ (mm_call mm_ms (mm_tb L xs) 40) (mm_tb L xs) mm_ML lim (fun o _ _ => o = some (mm_I 1)) 648 [some (mm_S 0), some (mm_R 0), some (mm_R 176), some (mm_I (nI i))] [] n m2) : mm_cq (mm_call mm_ms (mm_tb L xs) 40) 150 [mm_R 0, mm_I (xs (nI i + 1).toNatClampNeg), mm_I (xs (nI i + 2).toNatClampNeg)] mi ml (fun o n1 n2 => mm_WQ (mm_call mm_ms (mm_tb L xs) 40) (mm_tb L xs) mm_ML lim (fun o _ _ => o = some (mm_I 1)) 370 [some (mm_S 0), some (mm_R 0), some (mm_R 176), some (mm_I (nI i))] (o.toList ++ []) n1 n2) := by
  refine sc_X11_typeIn hLI.1 (fun v n1 n2 hIC hfw => ?_)
  have h1 : LI n1 := LI_c hLI (by decide +kernel) (by decide +kernel) hIC hfw
  obtain ⟨NB, ND, NF, hI⟩ := h1.2.1
  exact bk_L_370 (mm_call_m 40) (lw_vp hL hi (by decide) (by decide)) (lw_vp hL hi (by decide) (by decide)) (sp_typeIn hI (fun w v hp => bk_L_385 (mm_call_m 40) (H w _ (LI_p h1 hp))))
theorem lz_wrong (hL : L ≤ 3072) (hi : i + 6 ≤ L) (hLI : LI mi) (H : ∀ n m2, LI n → mm_WQ (mm_call mm_ms (mm_tb L xs) 40) (mm_tb L xs) mm_ML lim (fun o _ _ => o = some (mm_I 1)) 648 [some (mm_S 0), some (mm_R 0), some (mm_R 176), some (mm_I (nI i))] [] n m2) : mm_cq (mm_call mm_ms (mm_tb L xs) 40) 151 [mm_R 0, mm_I (xs (nI i + 1).toNatClampNeg)] mi ml (fun o n1 n2 => mm_WQ (mm_call mm_ms (mm_tb L xs) 40) (mm_tb L xs) mm_ML lim (fun o _ _ => o = some (mm_I 1)) 398 [some (mm_S 0), some (mm_R 0), some (mm_R 176), some (mm_I (nI i))] (o.toList ++ []) n1 n2) := by
  refine sc_X11_wrong hLI.1 (fun v n1 n2 hIC hfw => ?_)
  have h1 : LI n1 := LI_c hLI (by decide +kernel) (by decide +kernel) hIC hfw
  obtain ⟨NB, ND, NF, hI⟩ := h1.2.1
  exact bk_L_398 (mm_call_m 40) (lw_vp hL hi (by decide) (by decide)) (sp_wrong hI (fun w v hp => bk_L_408 (mm_call_m 40) (H w _ (LI_p h1 hp))))
theorem lz_reaches (hL : L ≤ 3072) (hi : i + 6 ≤ L) (hLI : LI mi) (H : ∀ n m2, LI n → mm_WQ (mm_call mm_ms (mm_tb L xs) 40) (mm_tb L xs) mm_ML lim (fun o _ _ => o = some (mm_I 1)) 648 [some (mm_S 0), some (mm_R 0), some (mm_R 176), some (mm_I (nI i))] [] n m2) : mm_cq (mm_call mm_ms (mm_tb L xs) 40) 152 [mm_R 0, mm_I (xs (nI i + 1).toNatClampNeg), mm_I (xs (nI i + 2).toNatClampNeg)] mi ml (fun o n1 n2 => mm_WQ (mm_call mm_ms (mm_tb L xs) 40) (mm_tb L xs) mm_ML lim (fun o _ _ => o = some (mm_I 1)) 426 [some (mm_S 0), some (mm_R 0), some (mm_R 176), some (mm_I (nI i))] (o.toList ++ []) n1 n2) := by
  refine sc_X11_reaches hLI.1 (fun v n1 n2 hIC hfw => ?_)
  have h1 : LI n1 := LI_c hLI (by decide +kernel) (by decide +kernel) hIC hfw
  obtain ⟨NB, ND, NF, hI⟩ := h1.2.1
  exact bk_L_426 (mm_call_m 40) (lw_vp hL hi (by decide) (by decide)) (lw_vp hL hi (by decide) (by decide)) (sp_reaches hI (fun w v hp => bk_L_441 (mm_call_m 40) (H w _ (LI_p h1 hp))))
theorem lz_judge (hL : L ≤ 3072) (hi : i + 6 ≤ L) (hLI : LI mi) (H : ∀ n m2, LI n → mm_WQ (mm_call mm_ms (mm_tb L xs) 40) (mm_tb L xs) mm_ML lim (fun o _ _ => o = some (mm_I 1)) 648 [some (mm_S 0), some (mm_R 0), some (mm_R 176), some (mm_I (nI i))] [] n m2) : mm_cq (mm_call mm_ms (mm_tb L xs) 40) 153 [mm_R 0] mi ml (fun o n1 n2 => mm_WQ (mm_call mm_ms (mm_tb L xs) 40) (mm_tb L xs) mm_ML lim (fun o _ _ => o = some (mm_I 1)) 449 [some (mm_S 0), some (mm_R 0), some (mm_R 176), some (mm_I (nI i))] (o.toList ++ []) n1 n2) := by
  refine sc_X11_judge hLI.1 (fun v n1 n2 hIC hfw => ?_)
  have h1 : LI n1 := LI_c hLI (by decide +kernel) (by decide +kernel) hIC hfw
  obtain ⟨NB, ND, NF, hI⟩ := h1.2.1
  exact bk_L_449 (mm_call_m 40)  (sp_judge hI (fun w v hp _ => bk_L_454 (mm_call_m 40) (H w _ (LI_p h1 hp))))
theorem lz_copies (hL : L ≤ 3072) (hi : i + 6 ≤ L) (hLI : LI mi) (H : ∀ n m2, LI n → mm_WQ (mm_call mm_ms (mm_tb L xs) 40) (mm_tb L xs) mm_ML lim (fun o _ _ => o = some (mm_I 1)) 648 [some (mm_S 0), some (mm_R 0), some (mm_R 176), some (mm_I (nI i))] [] n m2) : mm_cq (mm_call mm_ms (mm_tb L xs) 40) 154 [mm_R 0] mi ml (fun o n1 n2 => mm_WQ (mm_call mm_ms (mm_tb L xs) 40) (mm_tb L xs) mm_ML lim (fun o _ _ => o = some (mm_I 1)) 462 [some (mm_S 0), some (mm_R 0), some (mm_R 176), some (mm_I (nI i))] (o.toList ++ []) n1 n2) := by
  refine sc_X11_copies hLI.1 (fun v n1 n2 hIC hfw => ?_)
  have h1 : LI n1 := LI_c hLI (by decide +kernel) (by decide +kernel) hIC hfw
  obtain ⟨NB, ND, NF, hI⟩ := h1.2.1
  exact bk_L_462 (mm_call_m 40)  (sp_copies hI (fun w v hp => bk_L_467 (mm_call_m 40) (H w _ (LI_p h1 hp))))
theorem lz_copy (hL : L ≤ 3072) (hi : i + 6 ≤ L) (hLI : LI mi) (H : ∀ n m2, LI n → mm_WQ (mm_call mm_ms (mm_tb L xs) 40) (mm_tb L xs) mm_ML lim (fun o _ _ => o = some (mm_I 1)) 648 [some (mm_S 0), some (mm_R 0), some (mm_R 176), some (mm_I (nI i))] [] n m2) : mm_cq (mm_call mm_ms (mm_tb L xs) 40) 155 [mm_R 0, mm_I (xs (nI i + 1).toNatClampNeg), mm_I (xs (nI i + 2).toNatClampNeg)] mi ml (fun o n1 n2 => mm_WQ (mm_call mm_ms (mm_tb L xs) 40) (mm_tb L xs) mm_ML lim (fun o _ _ => o = some (mm_I 1)) 485 [some (mm_S 0), some (mm_R 0), some (mm_R 176), some (mm_I (nI i))] (o.toList ++ []) n1 n2) := by
  refine sc_X11_copy hLI.1 (fun v n1 n2 hIC hfw => ?_)
  have h1 : LI n1 := LI_c hLI (by decide +kernel) (by decide +kernel) hIC hfw
  obtain ⟨NB, ND, NF, hI⟩ := h1.2.1
  exact bk_L_485 (mm_call_m 40) (lw_vp hL hi (by decide) (by decide)) (lw_vp hL hi (by decide) (by decide)) (sp_copy hI (fun w v hp => bk_L_500 (mm_call_m 40) (H w _ (LI_p h1 hp))))
theorem lz_input (hL : L ≤ 3072) (hi : i + 6 ≤ L) (hLI : LI mi) (H : ∀ n m2, LI n → mm_WQ (mm_call mm_ms (mm_tb L xs) 40) (mm_tb L xs) mm_ML lim (fun o _ _ => o = some (mm_I 1)) 648 [some (mm_S 0), some (mm_R 0), some (mm_R 176), some (mm_I (nI i))] [] n m2) : mm_cq (mm_call mm_ms (mm_tb L xs) 40) 156 [mm_R 0, mm_I (xs (nI i + 1).toNatClampNeg)] mi ml (fun o n1 n2 => mm_WQ (mm_call mm_ms (mm_tb L xs) 40) (mm_tb L xs) mm_ML lim (fun o _ _ => o = some (mm_I 1)) 513 [some (mm_S 0), some (mm_R 0), some (mm_R 176), some (mm_I (nI i))] (o.toList ++ []) n1 n2) := by
  refine mm_cq_m (mm_call_m 40) (lw_input (Q' := fun v v2 n m2 => v = v2 ∧ LI n) hLI (fun v n h => ⟨rfl, h⟩)) (fun o n1 n2 z => ?_)
  obtain ⟨v, rfl, z⟩ := z
  refine bk_L_513 (mm_call_m 40) (lw_vp hL hi (by decide) (by decide)) (mm_cq_m (mm_call_m 40) z (fun o2 n3 n4 y => ?_))
  obtain ⟨v2, rfl, e, h⟩ := y
  subst e
  exact bk_L_523 (mm_call_m 40) (H _ _ h)
theorem lz_empty (hL : L ≤ 3072) (hi : i + 6 ≤ L) (hLI : LI mi) (H : ∀ n m2, LI n → mm_WQ (mm_call mm_ms (mm_tb L xs) 40) (mm_tb L xs) mm_ML lim (fun o _ _ => o = some (mm_I 1)) 648 [some (mm_S 0), some (mm_R 0), some (mm_R 176), some (mm_I (nI i))] [] n m2) : mm_cq (mm_call mm_ms (mm_tb L xs) 40) 157 [mm_R 0] mi ml (fun o n1 n2 => mm_WQ (mm_call mm_ms (mm_tb L xs) 40) (mm_tb L xs) mm_ML lim (fun o _ _ => o = some (mm_I 1)) 531 [some (mm_S 0), some (mm_R 0), some (mm_R 176), some (mm_I (nI i))] (o.toList ++ []) n1 n2) := by
  refine mm_cq_m (mm_call_m 40) (lw_empty (Q' := fun v v2 n m2 => v = v2 ∧ LI n) hLI (fun v n h => ⟨rfl, h⟩)) (fun o n1 n2 z => ?_)
  obtain ⟨v, rfl, z⟩ := z
  refine bk_L_531 (mm_call_m 40)  (mm_cq_m (mm_call_m 40) z (fun o2 n3 n4 y => ?_))
  obtain ⟨v2, rfl, e, h⟩ := y
  subst e
  exact bk_L_535 (mm_call_m 40) (fun _ => H _ _ h) (fun w => absurd rfl w)
theorem lz_run (hL : L ≤ 3072) (hi : i + 6 ≤ L) (hLI : LI mi) (H : ∀ n m2, LI n → mm_WQ (mm_call mm_ms (mm_tb L xs) 40) (mm_tb L xs) mm_ML lim (fun o _ _ => o = some (mm_I 1)) 648 [some (mm_S 0), some (mm_R 0), some (mm_R 176), some (mm_I (nI i))] [] n m2) : mm_cq (mm_call mm_ms (mm_tb L xs) 40) 158 [mm_R 0] mi ml (fun o n1 n2 => mm_WQ (mm_call mm_ms (mm_tb L xs) 40) (mm_tb L xs) mm_ML lim (fun o _ _ => o = some (mm_I 1)) 544 [some (mm_S 0), some (mm_R 0), some (mm_R 176), some (mm_I (nI i))] (o.toList ++ []) n1 n2) := by
  refine sc_X11_run hLI.1 (fun v n1 n2 hIC hfw => ?_)
  have h1 : LI n1 := LI_c hLI (by decide +kernel) (by decide +kernel) hIC hfw
  obtain ⟨NB, ND, NF, hI⟩ := h1.2.1
  exact bk_L_544 (mm_call_m 40)  (sp_run hI (LI_in h1) (fun w v hp => bk_L_549 (mm_call_m 40) (H w _ (LI_p h1 hp))) (fun w w' v r hp hr h51 hr2 => bk_L_549 (mm_call_m 40) (H w' _ (LI_f h1 hp hr h51 hr2))))
theorem lz_runCopies (hL : L ≤ 3072) (hi : i + 6 ≤ L) (hLI : LI mi) (H : ∀ n m2, LI n → mm_WQ (mm_call mm_ms (mm_tb L xs) 40) (mm_tb L xs) mm_ML lim (fun o _ _ => o = some (mm_I 1)) 648 [some (mm_S 0), some (mm_R 0), some (mm_R 176), some (mm_I (nI i))] [] n m2) : mm_cq (mm_call mm_ms (mm_tb L xs) 40) 159 [mm_R 0] mi ml (fun o n1 n2 => mm_WQ (mm_call mm_ms (mm_tb L xs) 40) (mm_tb L xs) mm_ML lim (fun o _ _ => o = some (mm_I 1)) 557 [some (mm_S 0), some (mm_R 0), some (mm_R 176), some (mm_I (nI i))] (o.toList ++ []) n1 n2) := by
  refine sc_X11_runCopies hLI.1 (fun v n1 n2 hIC hfw => ?_)
  have h1 : LI n1 := LI_c hLI (by decide +kernel) (by decide +kernel) hIC hfw
  obtain ⟨NB, ND, NF, hI⟩ := h1.2.1
  exact bk_L_557 (mm_call_m 40)  (sp_runCopies hI (LI_in h1) (fun w v hp => bk_L_562 (mm_call_m 40) (H w _ (LI_p h1 hp))) (fun w w' v r hp hr h51 hr2 => bk_L_562 (mm_call_m 40) (H w' _ (LI_f h1 hp hr h51 hr2))))
theorem lz_result (hL : L ≤ 3072) (hi : i + 6 ≤ L) (hLI : LI mi) (H : ∀ n m2, LI n → mm_WQ (mm_call mm_ms (mm_tb L xs) 40) (mm_tb L xs) mm_ML lim (fun o _ _ => o = some (mm_I 1)) 648 [some (mm_S 0), some (mm_R 0), some (mm_R 176), some (mm_I (nI i))] [] n m2) : mm_cq (mm_call mm_ms (mm_tb L xs) 40) 160 [mm_R 0, mm_I (xs (nI i + 1).toNatClampNeg)] mi ml (fun o n1 n2 => mm_WQ (mm_call mm_ms (mm_tb L xs) 40) (mm_tb L xs) mm_ML lim (fun o _ _ => o = some (mm_I 1)) 575 [some (mm_S 0), some (mm_R 0), some (mm_R 176), some (mm_I (nI i))] (o.toList ++ []) n1 n2) := by
  refine sc_X11_result hLI.1 (fun v n1 n2 hIC hfw => ?_)
  have h1 : LI n1 := LI_c hLI (by decide +kernel) (by decide +kernel) hIC hfw
  obtain ⟨NB, ND, NF, hI⟩ := h1.2.1
  exact bk_L_575 (mm_call_m 40) (lw_vp hL hi (by decide) (by decide)) (sp_result h1.2.2.1 (fun v => bk_L_585 (mm_call_m 40) (H _ _ h1)))
theorem lz_told (hL : L ≤ 3072) (hi : i + 6 ≤ L) (hLI : LI mi) (H : ∀ n m2, LI n → mm_WQ (mm_call mm_ms (mm_tb L xs) 40) (mm_tb L xs) mm_ML lim (fun o _ _ => o = some (mm_I 1)) 648 [some (mm_S 0), some (mm_R 0), some (mm_R 176), some (mm_I (nI i))] [] n m2) : mm_cq (mm_call mm_ms (mm_tb L xs) 40) 161 [mm_R 0, mm_I (xs (nI i + 1).toNatClampNeg)] mi ml (fun o n1 n2 => mm_WQ (mm_call mm_ms (mm_tb L xs) 40) (mm_tb L xs) mm_ML lim (fun o _ _ => o = some (mm_I 1)) 598 [some (mm_S 0), some (mm_R 0), some (mm_R 176), some (mm_I (nI i))] (o.toList ++ []) n1 n2) := by
  refine sc_X11_told hLI.1 (fun v n1 n2 hIC hfw => ?_)
  have h1 : LI n1 := LI_c hLI (by decide +kernel) (by decide +kernel) hIC hfw
  obtain ⟨NB, ND, NF, hI⟩ := h1.2.1
  exact bk_L_598 (mm_call_m 40) (lw_vp hL hi (by decide) (by decide)) (sp_told (fun v => bk_L_608 (mm_call_m 40) (H _ _ h1)))
theorem lz_count (hL : L ≤ 3072) (hi : i + 6 ≤ L) (hLI : LI mi) (H : ∀ n m2, LI n → mm_WQ (mm_call mm_ms (mm_tb L xs) 40) (mm_tb L xs) mm_ML lim (fun o _ _ => o = some (mm_I 1)) 648 [some (mm_S 0), some (mm_R 0), some (mm_R 176), some (mm_I (nI i))] [] n m2) : mm_cq (mm_call mm_ms (mm_tb L xs) 40) 162 [mm_R 0, mm_I (xs (nI i + 1).toNatClampNeg)] mi ml (fun o n1 n2 => mm_WQ (mm_call mm_ms (mm_tb L xs) 40) (mm_tb L xs) mm_ML lim (fun o _ _ => o = some (mm_I 1)) 621 [some (mm_S 0), some (mm_R 0), some (mm_R 176), some (mm_I (nI i))] (o.toList ++ []) n1 n2) := by
  refine sc_X11_count hLI.1 (fun v n1 n2 hIC hfw => ?_)
  have h1 : LI n1 := LI_c hLI (by decide +kernel) (by decide +kernel) hIC hfw
  obtain ⟨NB, ND, NF, hI⟩ := h1.2.1
  exact bk_L_621 (mm_call_m 40) (lw_vp hL hi (by decide) (by decide)) (sp_count (fun _ => bk_L_631 (mm_call_m 40) (H _ _ h1)) (fun _ v => bk_L_631 (mm_call_m 40) (H _ _ h1)))
theorem lz_digest (hL : L ≤ 3072) (hi : i + 6 ≤ L) (hLI : LI mi) (H : ∀ n m2, LI n → mm_WQ (mm_call mm_ms (mm_tb L xs) 40) (mm_tb L xs) mm_ML lim (fun o _ _ => o = some (mm_I 1)) 648 [some (mm_S 0), some (mm_R 0), some (mm_R 176), some (mm_I (nI i))] [] n m2) : mm_cq (mm_call mm_ms (mm_tb L xs) 40) 163 [mm_R 0] mi ml (fun o n1 n2 => mm_WQ (mm_call mm_ms (mm_tb L xs) 40) (mm_tb L xs) mm_ML lim (fun o _ _ => o = some (mm_I 1)) 639 [some (mm_S 0), some (mm_R 0), some (mm_R 176), some (mm_I (nI i))] (o.toList ++ []) n1 n2) := by
  refine sc_X11_digest hLI.1 (fun v n1 n2 hIC hfw => ?_)
  have h1 : LI n1 := LI_c hLI (by decide +kernel) (by decide +kernel) hIC hfw
  obtain ⟨NB, ND, NF, hI⟩ := h1.2.1
  exact bk_L_639 (mm_call_m 40)  (sp_digest hI (fun v => bk_L_644 (mm_call_m 40) (H _ _ h1)))
theorem lw_loop (hL : L ≤ 3072) : ∀ (j i : Nat) (mi : mm_P) (ml : mm_G), i ≤ 4000 → L < i + 6 * j + 6 → LI mi → mm_WQ (mm_call mm_ms (mm_tb L xs) 40) (mm_tb L xs) mm_ML lim (fun o _ _ => o = some (mm_I 1)) 18 [some (mm_S 0), some (mm_R 0), some (mm_R 176), some (mm_I (nI i))] [] mi ml := by
  intro j
  induction j with
  | zero =>
    intro i mi ml hi hj hLI
    have hn : nI L - 6 < nI i := lw_x hL hi (by omega)
    exact bk_L_18 (mm_call_m 40) (fun _ => rfl) (fun z => absurd hn z) (fun z _ => absurd hn z) (fun z _ => absurd hn z) (fun z _ => absurd hn z) (fun z _ => absurd hn z) (fun z _ => absurd hn z) (fun z _ => absurd hn z) (fun z _ => absurd hn z) (fun z _ => absurd hn z) (fun z _ => absurd hn z) (fun z _ => absurd hn z) (fun z _ => absurd hn z) (fun z _ => absurd hn z) (fun z _ => absurd hn z) (fun z _ => absurd hn z) (fun z _ => absurd hn z) (fun z _ => absurd hn z) (fun z _ => absurd hn z) (fun z _ => absurd hn z) (fun z _ => absurd hn z) (fun z _ => absurd hn z) (fun z _ => absurd hn z) (fun z _ => absurd hn z) (fun z _ => absurd hn z) (fun z _ => absurd hn z) (fun z _ => absurd hn z) (fun z _ => absurd hn z) (fun z _ => absurd hn z) (fun z _ => absurd hn z) (fun z _ => absurd hn z) (fun z _ => absurd hn z) (fun z _ => absurd hn z) (fun z _ => absurd hn z) (fun z _ => absurd hn z) (fun z _ => absurd hn z) (fun z _ => absurd hn z) (fun z _ => absurd hn z) (fun z _ => absurd hn z) (fun z _ => absurd hn z) (fun z _ => absurd hn z) (fun z _ => absurd hn z) (fun z _ => absurd hn z) (fun z _ => absurd hn z) (fun z _ => absurd hn z) (fun z _ => absurd hn z) (fun z _ => absurd hn z) (fun z _ => absurd hn z) (fun z _ _ _ _ _ _ _ _ _ _ _ _ _ _ _ _ _ _ _ _ => absurd hn z)
  | succ j ih =>
    intro i mi ml hi hj hLI
    by_cases hlt : L < i + 6
    · have hn : nI L - 6 < nI i := lw_x hL hi hlt
      exact bk_L_18 (mm_call_m 40) (fun _ => rfl) (fun z => absurd hn z) (fun z _ => absurd hn z) (fun z _ => absurd hn z) (fun z _ => absurd hn z) (fun z _ => absurd hn z) (fun z _ => absurd hn z) (fun z _ => absurd hn z) (fun z _ => absurd hn z) (fun z _ => absurd hn z) (fun z _ => absurd hn z) (fun z _ => absurd hn z) (fun z _ => absurd hn z) (fun z _ => absurd hn z) (fun z _ => absurd hn z) (fun z _ => absurd hn z) (fun z _ => absurd hn z) (fun z _ => absurd hn z) (fun z _ => absurd hn z) (fun z _ => absurd hn z) (fun z _ => absurd hn z) (fun z _ => absurd hn z) (fun z _ => absurd hn z) (fun z _ => absurd hn z) (fun z _ => absurd hn z) (fun z _ => absurd hn z) (fun z _ => absurd hn z) (fun z _ => absurd hn z) (fun z _ => absurd hn z) (fun z _ => absurd hn z) (fun z _ => absurd hn z) (fun z _ => absurd hn z) (fun z _ => absurd hn z) (fun z _ => absurd hn z) (fun z _ => absurd hn z) (fun z _ => absurd hn z) (fun z _ => absurd hn z) (fun z _ => absurd hn z) (fun z _ => absurd hn z) (fun z _ => absurd hn z) (fun z _ => absurd hn z) (fun z _ => absurd hn z) (fun z _ => absurd hn z) (fun z _ => absurd hn z) (fun z _ => absurd hn z) (fun z _ => absurd hn z) (fun z _ => absurd hn z) (fun z _ => absurd hn z) (fun z _ _ _ _ _ _ _ _ _ _ _ _ _ _ _ _ _ _ _ _ => absurd hn z)
    · have H : ∀ n m2, LI n → mm_WQ (mm_call mm_ms (mm_tb L xs) 40) (mm_tb L xs) mm_ML lim (fun o _ _ => o = some (mm_I 1)) 648 [some (mm_S 0), some (mm_R 0), some (mm_R 176), some (mm_I (nI i))] [] n m2 := fun n m2 h => bk_L_648 (mm_call_m 40) (by
        have e6 : nI i + 6 = nI (i + 6) := nI_a (a := i) (b := 6) (by omega)
        rw [e6]
        exact ih (i + 6) n m2 (by omega) (by omega) h)
      exact bk_L_18 (mm_call_m 40) (fun _ => rfl) (fun z => by have := lw_z hL (by omega) z; exact vp_in_nI (by omega) (by omega)) (fun z _ => lw_vp hL (lw_z hL (by omega) z) (by decide) (by decide)) (fun z _ => lw_vp hL (lw_z hL (by omega) z) (by decide) (by decide)) (fun z _ => lz_pair hL (lw_z hL (by omega) z) hLI H) (fun z _ => lw_vp hL (lw_z hL (by omega) z) (by decide) (by decide)) (fun z _ => lz_list hL (lw_z hL (by omega) z) hLI H) (fun z _ => lw_vp hL (lw_z hL (by omega) z) (by decide) (by decide)) (fun z _ => lw_vp hL (lw_z hL (by omega) z) (by decide) (by decide)) (fun z _ => lz_type hL (lw_z hL (by omega) z) hLI H) (fun z _ => lw_vp hL (lw_z hL (by omega) z) (by decide) (by decide)) (fun z _ => lw_vp hL (lw_z hL (by omega) z) (by decide) (by decide)) (fun z _ => lw_vp hL (lw_z hL (by omega) z) (by decide) (by decide)) (fun z _ => lw_vp hL (lw_z hL (by omega) z) (by decide) (by decide)) (fun z _ => lw_vp hL (lw_z hL (by omega) z) (by decide) (by decide)) (fun z _ => lz_node hL (lw_z hL (by omega) z) hLI H) (fun z _ => lw_vp hL (lw_z hL (by omega) z) (by decide) (by decide)) (fun z _ => lw_vp hL (lw_z hL (by omega) z) (by decide) (by decide)) (fun z _ => lw_vp hL (lw_z hL (by omega) z) (by decide) (by decide)) (fun z _ => lz_function hL (lw_z hL (by omega) z) hLI H) (fun z _ => lw_vp hL (lw_z hL (by omega) z) (by decide) (by decide)) (fun z _ => lw_vp hL (lw_z hL (by omega) z) (by decide) (by decide)) (fun z _ => lz_body hL (lw_z hL (by omega) z) hLI H) (fun z _ => lw_vp hL (lw_z hL (by omega) z) (by decide) (by decide)) (fun z _ => lw_vp hL (lw_z hL (by omega) z) (by decide) (by decide)) (fun z _ => lz_typeIn hL (lw_z hL (by omega) z) hLI H) (fun z _ => lw_vp hL (lw_z hL (by omega) z) (by decide) (by decide)) (fun z _ => lz_wrong hL (lw_z hL (by omega) z) hLI H) (fun z _ => lw_vp hL (lw_z hL (by omega) z) (by decide) (by decide)) (fun z _ => lw_vp hL (lw_z hL (by omega) z) (by decide) (by decide)) (fun z _ => lz_reaches hL (lw_z hL (by omega) z) hLI H) (fun z _ => lz_judge hL (lw_z hL (by omega) z) hLI H) (fun z _ => lz_copies hL (lw_z hL (by omega) z) hLI H) (fun z _ => lw_vp hL (lw_z hL (by omega) z) (by decide) (by decide)) (fun z _ => lw_vp hL (lw_z hL (by omega) z) (by decide) (by decide)) (fun z _ => lz_copy hL (lw_z hL (by omega) z) hLI H) (fun z _ => lw_vp hL (lw_z hL (by omega) z) (by decide) (by decide)) (fun z _ => lz_input hL (lw_z hL (by omega) z) hLI H) (fun z _ => lz_empty hL (lw_z hL (by omega) z) hLI H) (fun z _ => lz_run hL (lw_z hL (by omega) z) hLI H) (fun z _ => lz_runCopies hL (lw_z hL (by omega) z) hLI H) (fun z _ => lw_vp hL (lw_z hL (by omega) z) (by decide) (by decide)) (fun z _ => lz_result hL (lw_z hL (by omega) z) hLI H) (fun z _ => lw_vp hL (lw_z hL (by omega) z) (by decide) (by decide)) (fun z _ => lz_told hL (lw_z hL (by omega) z) hLI H) (fun z _ => lw_vp hL (lw_z hL (by omega) z) (by decide) (by decide)) (fun z _ => lz_count hL (lw_z hL (by omega) z) hLI H) (fun z _ => lz_digest hL (lw_z hL (by omega) z) hLI H) (fun _ _ _ _ _ _ _ _ _ _ _ _ _ _ _ _ _ _ _ _ _ => H _ _ hLI)
theorem lz_all (hL : L ≤ 3072) : mm_WQ (mm_call mm_ms (mm_tb L xs) 40) (mm_tb L xs) mm_ML lim (fun o _ _ => o = some (mm_I 1)) 18 [some (mm_S 0), some (mm_R 0), some (mm_R 176), some (mm_I 0)] [] mm_i0 mm_l0 := lw_loop hL 600 0 mm_i0 mm_l0 (by decide) (by omega) LI_0
end MMZ
