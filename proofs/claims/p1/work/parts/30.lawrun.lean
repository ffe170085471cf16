/-! ===== the law on one call of fresh objects (by program) ===== -/
section MMZ
variable {xs : Nat → Int32} {lim : Nat × Nat}
theorem lz_pair (hE : ∀ n1 n2, mm_WQ (mm_call mm_ms (mm_tb 6 xs) 40) (mm_tb 6 xs) mm_ML lim (fun o _ _ => o = some (mm_I 1)) 649 [some (mm_S 0), some (mm_R 0), some (mm_R 176), some (mm_I 0)] [] n1 n2) : mm_cq (mm_call mm_ms (mm_tb 6 xs) 40) 141 [mm_R 0, mm_I (xs ((0 : Int32) + 1).toNatClampNeg), mm_I (xs ((0 : Int32) + 2).toNatClampNeg)] mm_i0 mm_l0 (fun o n1 n2 => mm_WQ (mm_call mm_ms (mm_tb 6 xs) 40) (mm_tb 6 xs) mm_ML lim (fun o _ _ => o = some (mm_I 1)) 142 [some (mm_S 0), some (mm_R 0), some (mm_R 176), some (mm_I 0)] (o.toList ++ []) n1 n2) := by
  refine mm_cq_m (mm_call_m 40) (cl_pair _ _) (fun o n1 n2 z => ?_)
  obtain ⟨rfl, f⟩ := z
  refine bk_L_142 (mm_call_m 40) (vp_in_iff.mpr (by decide)) (vp_in_iff.mpr (by decide)) (mm_cq_m (mm_call_m 40) (ml_pair f _ _) (fun o2 n3 n4 y => ?_))
  cases y
  exact bk_L_156 (mm_call_m 40) (fun _ => hE _ _) (fun w => absurd rfl w)
theorem lz_list (hE : ∀ n1 n2, mm_WQ (mm_call mm_ms (mm_tb 6 xs) 40) (mm_tb 6 xs) mm_ML lim (fun o _ _ => o = some (mm_I 1)) 649 [some (mm_S 0), some (mm_R 0), some (mm_R 176), some (mm_I 0)] [] n1 n2) : mm_cq (mm_call mm_ms (mm_tb 6 xs) 40) 142 [mm_R 0, mm_I (xs ((0 : Int32) + 1).toNatClampNeg)] mm_i0 mm_l0 (fun o n1 n2 => mm_WQ (mm_call mm_ms (mm_tb 6 xs) 40) (mm_tb 6 xs) mm_ML lim (fun o _ _ => o = some (mm_I 1)) 170 [some (mm_S 0), some (mm_R 0), some (mm_R 176), some (mm_I 0)] (o.toList ++ []) n1 n2) := by
  refine mm_cq_m (mm_call_m 40) (cl_list _) (fun o n1 n2 z => ?_)
  obtain ⟨rfl, f⟩ := z
  refine bk_L_170 (mm_call_m 40) (vp_in_iff.mpr (by decide)) (mm_cq_m (mm_call_m 40) (ml_list f _) (fun o2 n3 n4 y => ?_))
  cases y
  exact bk_L_179 (mm_call_m 40) (fun _ => hE _ _) (fun w => absurd rfl w)
theorem lz_type (hE : ∀ n1 n2, mm_WQ (mm_call mm_ms (mm_tb 6 xs) 40) (mm_tb 6 xs) mm_ML lim (fun o _ _ => o = some (mm_I 1)) 649 [some (mm_S 0), some (mm_R 0), some (mm_R 176), some (mm_I 0)] [] n1 n2) : mm_cq (mm_call mm_ms (mm_tb 6 xs) 40) 143 [mm_R 0, mm_I (xs ((0 : Int32) + 1).toNatClampNeg), mm_I (xs ((0 : Int32) + 2).toNatClampNeg)] mm_i0 mm_l0 (fun o n1 n2 => mm_WQ (mm_call mm_ms (mm_tb 6 xs) 40) (mm_tb 6 xs) mm_ML lim (fun o _ _ => o = some (mm_I 1)) 198 [some (mm_S 0), some (mm_R 0), some (mm_R 176), some (mm_I 0)] (o.toList ++ []) n1 n2) := by
  refine mm_cq_m (mm_call_m 40) (cl_type _ _) (fun o n1 n2 z => ?_)
  obtain ⟨rfl, f⟩ := z
  refine bk_L_198 (mm_call_m 40) (vp_in_iff.mpr (by decide)) (vp_in_iff.mpr (by decide)) (mm_cq_m (mm_call_m 40) (ml_type f _ _) (fun o2 n3 n4 y => ?_))
  cases y
  exact bk_L_212 (mm_call_m 40) (fun _ => hE _ _) (fun w => absurd rfl w)
theorem lz_node (hE : ∀ n1 n2, mm_WQ (mm_call mm_ms (mm_tb 6 xs) 40) (mm_tb 6 xs) mm_ML lim (fun o _ _ => o = some (mm_I 1)) 649 [some (mm_S 0), some (mm_R 0), some (mm_R 176), some (mm_I 0)] [] n1 n2) : mm_cq (mm_call mm_ms (mm_tb 6 xs) 40) 144 [mm_R 0, mm_I (xs ((0 : Int32) + 1).toNatClampNeg), mm_I (xs ((0 : Int32) + 2).toNatClampNeg), mm_I (xs ((0 : Int32) + 3).toNatClampNeg), mm_I (xs ((0 : Int32) + 4).toNatClampNeg), mm_I (xs ((0 : Int32) + 5).toNatClampNeg)] mm_i0 mm_l0 (fun o n1 n2 => mm_WQ (mm_call mm_ms (mm_tb 6 xs) 40) (mm_tb 6 xs) mm_ML lim (fun o _ _ => o = some (mm_I 1)) 246 [some (mm_S 0), some (mm_R 0), some (mm_R 176), some (mm_I 0)] (o.toList ++ []) n1 n2) := by
  obtain ⟨v, v1, v0⟩ : ∃ v : Int32, (an_nodeB (xs ((0 : Int32) + 1).toNatClampNeg) (xs ((0 : Int32) + 2).toNatClampNeg) → v = 0) ∧ (¬ an_nodeB (xs ((0 : Int32) + 1).toNatClampNeg) (xs ((0 : Int32) + 2).toNatClampNeg) → v = -2) := by
    by_cases hB : an_nodeB (xs ((0 : Int32) + 1).toNatClampNeg) (xs ((0 : Int32) + 2).toNatClampNeg)
    · exact ⟨0, fun _ => rfl, fun z => absurd hB z⟩
    · exact ⟨-2, fun z => absurd z hB, fun _ => rfl⟩
  refine mm_cq_m (mm_call_m 40) (cl_node _ _ _ _ _ v1 v0) (fun o n1 n2 z => ?_)
  obtain ⟨rfl, f⟩ := z
  refine bk_L_246 (mm_call_m 40) (vp_in_iff.mpr (by decide)) (vp_in_iff.mpr (by decide)) (vp_in_iff.mpr (by decide)) (vp_in_iff.mpr (by decide)) (vp_in_iff.mpr (by decide)) (mm_cq_m (mm_call_m 40) (ml_node f _ _ _ _ _ v1 v0) (fun o2 n3 n4 y => ?_))
  cases y
  exact bk_L_275 (mm_call_m 40) (fun _ => hE _ _) (fun w => absurd rfl w)
theorem lz_fun (hE : ∀ n1 n2, mm_WQ (mm_call mm_ms (mm_tb 6 xs) 40) (mm_tb 6 xs) mm_ML lim (fun o _ _ => o = some (mm_I 1)) 649 [some (mm_S 0), some (mm_R 0), some (mm_R 176), some (mm_I 0)] [] n1 n2) : mm_cq (mm_call mm_ms (mm_tb 6 xs) 40) 147 [mm_R 0, mm_I (xs ((0 : Int32) + 1).toNatClampNeg), mm_I (xs ((0 : Int32) + 2).toNatClampNeg), mm_I (xs ((0 : Int32) + 3).toNatClampNeg)] mm_i0 mm_l0 (fun o n1 n2 => mm_WQ (mm_call mm_ms (mm_tb 6 xs) 40) (mm_tb 6 xs) mm_ML lim (fun o _ _ => o = some (mm_I 1)) 299 [some (mm_S 0), some (mm_R 0), some (mm_R 176), some (mm_I 0)] (o.toList ++ []) n1 n2) := by
  refine mm_cq_m (mm_call_m 40) (cl_fun _ _ _) (fun o n1 n2 z => ?_)
  obtain ⟨rfl, f⟩ := z
  refine bk_L_299 (mm_call_m 40) (vp_in_iff.mpr (by decide)) (vp_in_iff.mpr (by decide)) (vp_in_iff.mpr (by decide)) (mm_cq_m (mm_call_m 40) (ml_fun f _ _ _) (fun o2 n3 n4 y => ?_))
  cases y
  exact bk_L_318 (mm_call_m 40) (fun _ => hE _ _) (fun w => absurd rfl w)
theorem lz_body (hE : ∀ n1 n2, mm_WQ (mm_call mm_ms (mm_tb 6 xs) 40) (mm_tb 6 xs) mm_ML lim (fun o _ _ => o = some (mm_I 1)) 649 [some (mm_S 0), some (mm_R 0), some (mm_R 176), some (mm_I 0)] [] n1 n2) : mm_cq (mm_call mm_ms (mm_tb 6 xs) 40) 148 [mm_R 0, mm_I (xs ((0 : Int32) + 1).toNatClampNeg), mm_I (xs ((0 : Int32) + 2).toNatClampNeg)] mm_i0 mm_l0 (fun o n1 n2 => mm_WQ (mm_call mm_ms (mm_tb 6 xs) 40) (mm_tb 6 xs) mm_ML lim (fun o _ _ => o = some (mm_I 1)) 337 [some (mm_S 0), some (mm_R 0), some (mm_R 176), some (mm_I 0)] (o.toList ++ []) n1 n2) := by
  refine mm_cq_m (mm_call_m 40) (cl_body _ _) (fun o n1 n2 z => ?_)
  obtain ⟨rfl, f⟩ := z
  refine bk_L_337 (mm_call_m 40) (vp_in_iff.mpr (by decide)) (vp_in_iff.mpr (by decide)) (mm_cq_m (mm_call_m 40) (ml_body f _ _) (fun o2 n3 n4 y => ?_))
  cases y
  exact bk_L_351 (mm_call_m 40) (fun _ => hE _ _) (fun w => absurd rfl w)
theorem lz_typeIn (hE : ∀ n1 n2, mm_WQ (mm_call mm_ms (mm_tb 6 xs) 40) (mm_tb 6 xs) mm_ML lim (fun o _ _ => o = some (mm_I 1)) 649 [some (mm_S 0), some (mm_R 0), some (mm_R 176), some (mm_I 0)] [] n1 n2) : mm_cq (mm_call mm_ms (mm_tb 6 xs) 40) 150 [mm_R 0, mm_I (xs ((0 : Int32) + 1).toNatClampNeg), mm_I (xs ((0 : Int32) + 2).toNatClampNeg)] mm_i0 mm_l0 (fun o n1 n2 => mm_WQ (mm_call mm_ms (mm_tb 6 xs) 40) (mm_tb 6 xs) mm_ML lim (fun o _ _ => o = some (mm_I 1)) 370 [some (mm_S 0), some (mm_R 0), some (mm_R 176), some (mm_I 0)] (o.toList ++ []) n1 n2) := by
  refine mm_cq_m (mm_call_m 40) (cl_typeIn _ _) (fun o n1 n2 z => ?_)
  obtain ⟨rfl, f⟩ := z
  refine bk_L_370 (mm_call_m 40) (vp_in_iff.mpr (by decide)) (vp_in_iff.mpr (by decide)) (mm_cq_m (mm_call_m 40) (ml_typeIn f _ _) (fun o2 n3 n4 y => ?_))
  cases y
  exact bk_L_384 (mm_call_m 40) (fun _ => hE _ _) (fun w => absurd rfl w)
theorem lz_wrong (hE : ∀ n1 n2, mm_WQ (mm_call mm_ms (mm_tb 6 xs) 40) (mm_tb 6 xs) mm_ML lim (fun o _ _ => o = some (mm_I 1)) 649 [some (mm_S 0), some (mm_R 0), some (mm_R 176), some (mm_I 0)] [] n1 n2) : mm_cq (mm_call mm_ms (mm_tb 6 xs) 40) 151 [mm_R 0, mm_I (xs ((0 : Int32) + 1).toNatClampNeg)] mm_i0 mm_l0 (fun o n1 n2 => mm_WQ (mm_call mm_ms (mm_tb 6 xs) 40) (mm_tb 6 xs) mm_ML lim (fun o _ _ => o = some (mm_I 1)) 398 [some (mm_S 0), some (mm_R 0), some (mm_R 176), some (mm_I 0)] (o.toList ++ []) n1 n2) := by
  refine mm_cq_m (mm_call_m 40) (cl_wrong _) (fun o n1 n2 z => ?_)
  obtain ⟨rfl, f⟩ := z
  refine bk_L_398 (mm_call_m 40) (vp_in_iff.mpr (by decide)) (mm_cq_m (mm_call_m 40) (ml_wrong f _) (fun o2 n3 n4 y => ?_))
  cases y
  exact bk_L_407 (mm_call_m 40) (fun _ => hE _ _) (fun w => absurd rfl w)
theorem lz_reaches (hE : ∀ n1 n2, mm_WQ (mm_call mm_ms (mm_tb 6 xs) 40) (mm_tb 6 xs) mm_ML lim (fun o _ _ => o = some (mm_I 1)) 649 [some (mm_S 0), some (mm_R 0), some (mm_R 176), some (mm_I 0)] [] n1 n2) : mm_cq (mm_call mm_ms (mm_tb 6 xs) 40) 152 [mm_R 0, mm_I (xs ((0 : Int32) + 1).toNatClampNeg), mm_I (xs ((0 : Int32) + 2).toNatClampNeg)] mm_i0 mm_l0 (fun o n1 n2 => mm_WQ (mm_call mm_ms (mm_tb 6 xs) 40) (mm_tb 6 xs) mm_ML lim (fun o _ _ => o = some (mm_I 1)) 426 [some (mm_S 0), some (mm_R 0), some (mm_R 176), some (mm_I 0)] (o.toList ++ []) n1 n2) := by
  refine mm_cq_m (mm_call_m 40) (cl_reaches _ _) (fun o n1 n2 z => ?_)
  obtain ⟨rfl, f⟩ := z
  refine bk_L_426 (mm_call_m 40) (vp_in_iff.mpr (by decide)) (vp_in_iff.mpr (by decide)) (mm_cq_m (mm_call_m 40) (ml_reaches f _ _) (fun o2 n3 n4 y => ?_))
  cases y
  exact bk_L_440 (mm_call_m 40) (fun _ => hE _ _) (fun w => absurd rfl w)
theorem lz_judge (hE : ∀ n1 n2, mm_WQ (mm_call mm_ms (mm_tb 6 xs) 40) (mm_tb 6 xs) mm_ML lim (fun o _ _ => o = some (mm_I 1)) 649 [some (mm_S 0), some (mm_R 0), some (mm_R 176), some (mm_I 0)] [] n1 n2) : mm_cq (mm_call mm_ms (mm_tb 6 xs) 40) 153 [mm_R 0] mm_i0 mm_l0 (fun o n1 n2 => mm_WQ (mm_call mm_ms (mm_tb 6 xs) 40) (mm_tb 6 xs) mm_ML lim (fun o _ _ => o = some (mm_I 1)) 449 [some (mm_S 0), some (mm_R 0), some (mm_R 176), some (mm_I 0)] (o.toList ++ []) n1 n2) := by
  refine mm_cq_m (mm_call_m 40) (cl_judge) (fun o n1 n2 z => ?_)
  obtain ⟨rfl, f⟩ := z
  refine bk_L_449 (mm_call_m 40)  (mm_cq_m (mm_call_m 40) (ml_judge f) (fun o2 n3 n4 y => ?_))
  cases y
  exact bk_L_453 (mm_call_m 40) (fun _ => hE _ _) (fun w => absurd rfl w)
theorem lz_copies (hE : ∀ n1 n2, mm_WQ (mm_call mm_ms (mm_tb 6 xs) 40) (mm_tb 6 xs) mm_ML lim (fun o _ _ => o = some (mm_I 1)) 649 [some (mm_S 0), some (mm_R 0), some (mm_R 176), some (mm_I 0)] [] n1 n2) : mm_cq (mm_call mm_ms (mm_tb 6 xs) 40) 154 [mm_R 0] mm_i0 mm_l0 (fun o n1 n2 => mm_WQ (mm_call mm_ms (mm_tb 6 xs) 40) (mm_tb 6 xs) mm_ML lim (fun o _ _ => o = some (mm_I 1)) 462 [some (mm_S 0), some (mm_R 0), some (mm_R 176), some (mm_I 0)] (o.toList ++ []) n1 n2) := by
  refine mm_cq_m (mm_call_m 40) (cl_copies) (fun o n1 n2 z => ?_)
  obtain ⟨rfl, f⟩ := z
  refine bk_L_462 (mm_call_m 40)  (mm_cq_m (mm_call_m 40) (ml_copies f) (fun o2 n3 n4 y => ?_))
  cases y
  exact bk_L_466 (mm_call_m 40) (fun _ => hE _ _) (fun w => absurd rfl w)
theorem lz_copy (hE : ∀ n1 n2, mm_WQ (mm_call mm_ms (mm_tb 6 xs) 40) (mm_tb 6 xs) mm_ML lim (fun o _ _ => o = some (mm_I 1)) 649 [some (mm_S 0), some (mm_R 0), some (mm_R 176), some (mm_I 0)] [] n1 n2) : mm_cq (mm_call mm_ms (mm_tb 6 xs) 40) 155 [mm_R 0, mm_I (xs ((0 : Int32) + 1).toNatClampNeg), mm_I (xs ((0 : Int32) + 2).toNatClampNeg)] mm_i0 mm_l0 (fun o n1 n2 => mm_WQ (mm_call mm_ms (mm_tb 6 xs) 40) (mm_tb 6 xs) mm_ML lim (fun o _ _ => o = some (mm_I 1)) 485 [some (mm_S 0), some (mm_R 0), some (mm_R 176), some (mm_I 0)] (o.toList ++ []) n1 n2) := by
  refine mm_cq_m (mm_call_m 40) (cl_copy _ _) (fun o n1 n2 z => ?_)
  obtain ⟨rfl, f⟩ := z
  refine bk_L_485 (mm_call_m 40) (vp_in_iff.mpr (by decide)) (vp_in_iff.mpr (by decide)) (mm_cq_m (mm_call_m 40) (ml_copy f _ _) (fun o2 n3 n4 y => ?_))
  cases y
  exact bk_L_499 (mm_call_m 40) (fun _ => hE _ _) (fun w => absurd rfl w)
theorem lz_input (hE : ∀ n1 n2, mm_WQ (mm_call mm_ms (mm_tb 6 xs) 40) (mm_tb 6 xs) mm_ML lim (fun o _ _ => o = some (mm_I 1)) 649 [some (mm_S 0), some (mm_R 0), some (mm_R 176), some (mm_I 0)] [] n1 n2) : mm_cq (mm_call mm_ms (mm_tb 6 xs) 40) 156 [mm_R 0, mm_I (xs ((0 : Int32) + 1).toNatClampNeg)] mm_i0 mm_l0 (fun o n1 n2 => mm_WQ (mm_call mm_ms (mm_tb 6 xs) 40) (mm_tb 6 xs) mm_ML lim (fun o _ _ => o = some (mm_I 1)) 513 [some (mm_S 0), some (mm_R 0), some (mm_R 176), some (mm_I 0)] (o.toList ++ []) n1 n2) := by
  refine mm_cq_m (mm_call_m 40) (cl_input _) (fun o n1 n2 z => ?_)
  obtain ⟨rfl, f⟩ := z
  refine bk_L_513 (mm_call_m 40) (vp_in_iff.mpr (by decide)) (mm_cq_m (mm_call_m 40) (ml_input f _) (fun o2 n3 n4 y => ?_))
  cases y
  exact bk_L_522 (mm_call_m 40) (fun _ => hE _ _) (fun w => absurd rfl w)
theorem lz_empty (hE : ∀ n1 n2, mm_WQ (mm_call mm_ms (mm_tb 6 xs) 40) (mm_tb 6 xs) mm_ML lim (fun o _ _ => o = some (mm_I 1)) 649 [some (mm_S 0), some (mm_R 0), some (mm_R 176), some (mm_I 0)] [] n1 n2) : mm_cq (mm_call mm_ms (mm_tb 6 xs) 40) 157 [mm_R 0] mm_i0 mm_l0 (fun o n1 n2 => mm_WQ (mm_call mm_ms (mm_tb 6 xs) 40) (mm_tb 6 xs) mm_ML lim (fun o _ _ => o = some (mm_I 1)) 531 [some (mm_S 0), some (mm_R 0), some (mm_R 176), some (mm_I 0)] (o.toList ++ []) n1 n2) := by
  refine mm_cq_m (mm_call_m 40) (cl_empty) (fun o n1 n2 z => ?_)
  obtain ⟨rfl, f⟩ := z
  refine bk_L_531 (mm_call_m 40)  (mm_cq_m (mm_call_m 40) (ml_empty f) (fun o2 n3 n4 y => ?_))
  cases y
  exact bk_L_535 (mm_call_m 40) (fun _ => hE _ _) (fun w => absurd rfl w)
theorem lz_run (hE : ∀ n1 n2, mm_WQ (mm_call mm_ms (mm_tb 6 xs) 40) (mm_tb 6 xs) mm_ML lim (fun o _ _ => o = some (mm_I 1)) 649 [some (mm_S 0), some (mm_R 0), some (mm_R 176), some (mm_I 0)] [] n1 n2) : mm_cq (mm_call mm_ms (mm_tb 6 xs) 40) 158 [mm_R 0] mm_i0 mm_l0 (fun o n1 n2 => mm_WQ (mm_call mm_ms (mm_tb 6 xs) 40) (mm_tb 6 xs) mm_ML lim (fun o _ _ => o = some (mm_I 1)) 544 [some (mm_S 0), some (mm_R 0), some (mm_R 176), some (mm_I 0)] (o.toList ++ []) n1 n2) := by
  refine mm_cq_m (mm_call_m 40) (cl_run) (fun o n1 n2 z => ?_)
  obtain ⟨rfl, f⟩ := z
  refine bk_L_544 (mm_call_m 40)  (mm_cq_m (mm_call_m 40) (ml_run f) (fun o2 n3 n4 y => ?_))
  cases y
  exact bk_L_548 (mm_call_m 40) (fun _ => hE _ _) (fun w => absurd rfl w)
theorem lz_runCopies (hE : ∀ n1 n2, mm_WQ (mm_call mm_ms (mm_tb 6 xs) 40) (mm_tb 6 xs) mm_ML lim (fun o _ _ => o = some (mm_I 1)) 649 [some (mm_S 0), some (mm_R 0), some (mm_R 176), some (mm_I 0)] [] n1 n2) : mm_cq (mm_call mm_ms (mm_tb 6 xs) 40) 159 [mm_R 0] mm_i0 mm_l0 (fun o n1 n2 => mm_WQ (mm_call mm_ms (mm_tb 6 xs) 40) (mm_tb 6 xs) mm_ML lim (fun o _ _ => o = some (mm_I 1)) 557 [some (mm_S 0), some (mm_R 0), some (mm_R 176), some (mm_I 0)] (o.toList ++ []) n1 n2) := by
  refine mm_cq_m (mm_call_m 40) (cl_runCopies) (fun o n1 n2 z => ?_)
  obtain ⟨rfl, f⟩ := z
  refine bk_L_557 (mm_call_m 40)  (mm_cq_m (mm_call_m 40) (ml_runCopies f) (fun o2 n3 n4 y => ?_))
  cases y
  exact bk_L_561 (mm_call_m 40) (fun _ => hE _ _) (fun w => absurd rfl w)
theorem lz_result (hE : ∀ n1 n2, mm_WQ (mm_call mm_ms (mm_tb 6 xs) 40) (mm_tb 6 xs) mm_ML lim (fun o _ _ => o = some (mm_I 1)) 649 [some (mm_S 0), some (mm_R 0), some (mm_R 176), some (mm_I 0)] [] n1 n2) : mm_cq (mm_call mm_ms (mm_tb 6 xs) 40) 160 [mm_R 0, mm_I (xs ((0 : Int32) + 1).toNatClampNeg)] mm_i0 mm_l0 (fun o n1 n2 => mm_WQ (mm_call mm_ms (mm_tb 6 xs) 40) (mm_tb 6 xs) mm_ML lim (fun o _ _ => o = some (mm_I 1)) 575 [some (mm_S 0), some (mm_R 0), some (mm_R 176), some (mm_I 0)] (o.toList ++ []) n1 n2) := by
  refine mm_cq_m (mm_call_m 40) (cl_result _) (fun o n1 n2 z => ?_)
  obtain ⟨rfl, f⟩ := z
  refine bk_L_575 (mm_call_m 40) (vp_in_iff.mpr (by decide)) (mm_cq_m (mm_call_m 40) (ml_result f _) (fun o2 n3 n4 y => ?_))
  cases y
  exact bk_L_584 (mm_call_m 40) (fun _ => hE _ _) (fun w => absurd rfl w)
theorem lz_told (hE : ∀ n1 n2, mm_WQ (mm_call mm_ms (mm_tb 6 xs) 40) (mm_tb 6 xs) mm_ML lim (fun o _ _ => o = some (mm_I 1)) 649 [some (mm_S 0), some (mm_R 0), some (mm_R 176), some (mm_I 0)] [] n1 n2) : mm_cq (mm_call mm_ms (mm_tb 6 xs) 40) 161 [mm_R 0, mm_I (xs ((0 : Int32) + 1).toNatClampNeg)] mm_i0 mm_l0 (fun o n1 n2 => mm_WQ (mm_call mm_ms (mm_tb 6 xs) 40) (mm_tb 6 xs) mm_ML lim (fun o _ _ => o = some (mm_I 1)) 598 [some (mm_S 0), some (mm_R 0), some (mm_R 176), some (mm_I 0)] (o.toList ++ []) n1 n2) := by
  refine mm_cq_m (mm_call_m 40) (cl_told _) (fun o n1 n2 z => ?_)
  obtain ⟨rfl, f⟩ := z
  refine bk_L_598 (mm_call_m 40) (vp_in_iff.mpr (by decide)) (mm_cq_m (mm_call_m 40) (ml_told f _) (fun o2 n3 n4 y => ?_))
  cases y
  exact bk_L_607 (mm_call_m 40) (fun _ => hE _ _) (fun w => absurd rfl w)
theorem lz_count (hE : ∀ n1 n2, mm_WQ (mm_call mm_ms (mm_tb 6 xs) 40) (mm_tb 6 xs) mm_ML lim (fun o _ _ => o = some (mm_I 1)) 649 [some (mm_S 0), some (mm_R 0), some (mm_R 176), some (mm_I 0)] [] n1 n2) : mm_cq (mm_call mm_ms (mm_tb 6 xs) 40) 162 [mm_R 0, mm_I (xs ((0 : Int32) + 1).toNatClampNeg)] mm_i0 mm_l0 (fun o n1 n2 => mm_WQ (mm_call mm_ms (mm_tb 6 xs) 40) (mm_tb 6 xs) mm_ML lim (fun o _ _ => o = some (mm_I 1)) 621 [some (mm_S 0), some (mm_R 0), some (mm_R 176), some (mm_I 0)] (o.toList ++ []) n1 n2) := by
  refine mm_cq_m (mm_call_m 40) (cl_count _) (fun o n1 n2 z => ?_)
  obtain ⟨rfl, f⟩ := z
  refine bk_L_621 (mm_call_m 40) (vp_in_iff.mpr (by decide)) (mm_cq_m (mm_call_m 40) (ml_count f _) (fun o2 n3 n4 y => ?_))
  cases y
  exact bk_L_630 (mm_call_m 40) (fun _ => hE _ _) (fun w => absurd rfl w)
theorem lz_digest (hE : ∀ n1 n2, mm_WQ (mm_call mm_ms (mm_tb 6 xs) 40) (mm_tb 6 xs) mm_ML lim (fun o _ _ => o = some (mm_I 1)) 649 [some (mm_S 0), some (mm_R 0), some (mm_R 176), some (mm_I 0)] [] n1 n2) : mm_cq (mm_call mm_ms (mm_tb 6 xs) 40) 163 [mm_R 0] mm_i0 mm_l0 (fun o n1 n2 => mm_WQ (mm_call mm_ms (mm_tb 6 xs) 40) (mm_tb 6 xs) mm_ML lim (fun o _ _ => o = some (mm_I 1)) 639 [some (mm_S 0), some (mm_R 0), some (mm_R 176), some (mm_I 0)] (o.toList ++ []) n1 n2) := by
  refine mm_cq_m (mm_call_m 40) (cl_digest) (fun o n1 n2 z => ?_)
  obtain ⟨rfl, f⟩ := z
  refine bk_L_639 (mm_call_m 40)  (mm_cq_m (mm_call_m 40) (ml_digest f) (fun o2 n3 n4 y => ?_))
  cases y
  exact bk_L_643 (mm_call_m 40) (fun _ => hE _ _) (fun w => absurd (by decide +kernel) w)
end MMZ
set_option maxRecDepth 100000 in
theorem lz_all {L : Nat} {xs : Nat → Int32} {lim : Nat × Nat} (hL : L ≤ 6) : mm_WQ (mm_call mm_ms (mm_tb L xs) 40) (mm_tb L xs) mm_ML lim (fun o _ _ => o = some (mm_I 1)) 18 [some (mm_S 0), some (mm_R 0), some (mm_R 176), some (mm_I 0)] [] mm_i0 mm_l0 := by
  by_cases hn : nI L - 6 < (0 : Int32)
  · exact bk_L_18 (mm_call_m 40) (fun _ => rfl) (fun z => absurd hn z) (fun z _ => absurd hn z) (fun z _ => absurd hn z) (fun z _ => absurd hn z) (fun z _ => absurd hn z) (fun z _ => absurd hn z) (fun z _ => absurd hn z) (fun z _ => absurd hn z) (fun z _ => absurd hn z) (fun z _ => absurd hn z) (fun z _ => absurd hn z) (fun z _ => absurd hn z) (fun z _ => absurd hn z) (fun z _ => absurd hn z) (fun z _ => absurd hn z) (fun z _ => absurd hn z) (fun z _ => absurd hn z) (fun z _ => absurd hn z) (fun z _ => absurd hn z) (fun z _ => absurd hn z) (fun z _ => absurd hn z) (fun z _ => absurd hn z) (fun z _ => absurd hn z) (fun z _ => absurd hn z) (fun z _ => absurd hn z) (fun z _ => absurd hn z) (fun z _ => absurd hn z) (fun z _ => absurd hn z) (fun z _ => absurd hn z) (fun z _ => absurd hn z) (fun z _ => absurd hn z) (fun z _ => absurd hn z) (fun z _ => absurd hn z) (fun z _ => absurd hn z) (fun z _ => absurd hn z) (fun z _ => absurd hn z) (fun z _ => absurd hn z) (fun z _ => absurd hn z) (fun z _ => absurd hn z) (fun z _ => absurd hn z) (fun z _ => absurd hn z) (fun z _ => absurd hn z) (fun z _ => absurd hn z) (fun z _ => absurd hn z) (fun z _ => absurd hn z) (fun z _ => absurd hn z) (fun z _ => absurd hn z) (fun z _ _ _ _ _ _ _ _ _ _ _ _ _ _ _ _ _ _ _ _ => absurd hn z)
  · have h6 : L = 6 := by
      rcases (show L = 0 ∨ L = 1 ∨ L = 2 ∨ L = 3 ∨ L = 4 ∨ L = 5 ∨ L = 6 by omega) with rfl | rfl | rfl | rfl | rfl | rfl | rfl
      · exact absurd (by decide) hn
      · exact absurd (by decide) hn
      · exact absurd (by decide) hn
      · exact absurd (by decide) hn
      · exact absurd (by decide) hn
      · exact absurd (by decide) hn
      · rfl
    subst h6
    have hq : nI 6 - 6 < (0 : Int32) + 6 := by decide
    have hE : ∀ n1 n2, mm_WQ (mm_call mm_ms (mm_tb 6 xs) 40) (mm_tb 6 xs) mm_ML lim (fun o _ _ => o = some (mm_I 1)) 649 [some (mm_S 0), some (mm_R 0), some (mm_R 176), some (mm_I 0)] [] n1 n2 := fun n1 n2 => bk_L_649 (mm_call_m 40) (bk_L_18 (mm_call_m 40) (fun _ => rfl) (fun z => absurd hq z) (fun z _ => absurd hq z) (fun z _ => absurd hq z) (fun z _ => absurd hq z) (fun z _ => absurd hq z) (fun z _ => absurd hq z) (fun z _ => absurd hq z) (fun z _ => absurd hq z) (fun z _ => absurd hq z) (fun z _ => absurd hq z) (fun z _ => absurd hq z) (fun z _ => absurd hq z) (fun z _ => absurd hq z) (fun z _ => absurd hq z) (fun z _ => absurd hq z) (fun z _ => absurd hq z) (fun z _ => absurd hq z) (fun z _ => absurd hq z) (fun z _ => absurd hq z) (fun z _ => absurd hq z) (fun z _ => absurd hq z) (fun z _ => absurd hq z) (fun z _ => absurd hq z) (fun z _ => absurd hq z) (fun z _ => absurd hq z) (fun z _ => absurd hq z) (fun z _ => absurd hq z) (fun z _ => absurd hq z) (fun z _ => absurd hq z) (fun z _ => absurd hq z) (fun z _ => absurd hq z) (fun z _ => absurd hq z) (fun z _ => absurd hq z) (fun z _ => absurd hq z) (fun z _ => absurd hq z) (fun z _ => absurd hq z) (fun z _ => absurd hq z) (fun z _ => absurd hq z) (fun z _ => absurd hq z) (fun z _ => absurd hq z) (fun z _ => absurd hq z) (fun z _ => absurd hq z) (fun z _ => absurd hq z) (fun z _ => absurd hq z) (fun z _ => absurd hq z) (fun z _ => absurd hq z) (fun z _ => absurd hq z) (fun z _ _ _ _ _ _ _ _ _ _ _ _ _ _ _ _ _ _ _ _ => absurd hq z))
    exact bk_L_18 (mm_call_m 40) (fun z => absurd z hn) (fun _ => (vp_in_iff.mpr (by decide))) (fun _ _ => (vp_in_iff.mpr (by decide))) (fun _ _ => (vp_in_iff.mpr (by decide))) (fun _ _ => lz_pair hE) (fun _ _ => (vp_in_iff.mpr (by decide))) (fun _ _ => lz_list hE) (fun _ _ => (vp_in_iff.mpr (by decide))) (fun _ _ => (vp_in_iff.mpr (by decide))) (fun _ _ => lz_type hE) (fun _ _ => (vp_in_iff.mpr (by decide))) (fun _ _ => (vp_in_iff.mpr (by decide))) (fun _ _ => (vp_in_iff.mpr (by decide))) (fun _ _ => (vp_in_iff.mpr (by decide))) (fun _ _ => (vp_in_iff.mpr (by decide))) (fun _ _ => lz_node hE) (fun _ _ => (vp_in_iff.mpr (by decide))) (fun _ _ => (vp_in_iff.mpr (by decide))) (fun _ _ => (vp_in_iff.mpr (by decide))) (fun _ _ => lz_fun hE) (fun _ _ => (vp_in_iff.mpr (by decide))) (fun _ _ => (vp_in_iff.mpr (by decide))) (fun _ _ => lz_body hE) (fun _ _ => (vp_in_iff.mpr (by decide))) (fun _ _ => (vp_in_iff.mpr (by decide))) (fun _ _ => lz_typeIn hE) (fun _ _ => (vp_in_iff.mpr (by decide))) (fun _ _ => lz_wrong hE) (fun _ _ => (vp_in_iff.mpr (by decide))) (fun _ _ => (vp_in_iff.mpr (by decide))) (fun _ _ => lz_reaches hE) (fun _ _ => lz_judge hE) (fun _ _ => lz_copies hE) (fun _ _ => (vp_in_iff.mpr (by decide))) (fun _ _ => (vp_in_iff.mpr (by decide))) (fun _ _ => lz_copy hE) (fun _ _ => (vp_in_iff.mpr (by decide))) (fun _ _ => lz_input hE) (fun _ _ => lz_empty hE) (fun _ _ => lz_run hE) (fun _ _ => lz_runCopies hE) (fun _ _ => (vp_in_iff.mpr (by decide))) (fun _ _ => lz_result hE) (fun _ _ => (vp_in_iff.mpr (by decide))) (fun _ _ => lz_told hE) (fun _ _ => (vp_in_iff.mpr (by decide))) (fun _ _ => lz_count hE) (fun _ _ => lz_digest hE) (fun _ _ _ _ _ _ _ _ _ _ _ _ _ _ _ _ _ _ _ _ _ => hE _ _)
