/-! ===== the classes' words ===== -/
theorem mm_cw : ∀ (ci : Nat) (q : vw_C), mm_cl[ci]? = some q → ∀ w ∈ u_ws q.1 q.2.1 q.2.2, w ∈ mm_GW := mm_class_ok mm_cps (by decide +kernel)
theorem mm_inst : ∀ (ci : Nat) (q : vw_C), mm_cl[ci]? = some q → Cond.instantiable q.1 q.2.2 ∈ mm_GW := by
  have h : (List.range 11).all (fun ci => match mm_cl[ci]?, mm_ips[ci]? with
    | some q, some p => mm_at p (Cond.instantiable q.1 q.2.2)
    | _, _ => false) = true := by decide +kernel
  intro ci q hq
  have hlt : ci < 11 := (List.getElem?_eq_some_iff.mp hq).1
  have h1 := List.all_eq_true.mp h ci (List.mem_range.mpr hlt)
  rw [hq] at h1
  split at h1
  · rename_i q1 p1 e1 e2
    cases e1
    exact mm_at_in h1
  · cases h1
