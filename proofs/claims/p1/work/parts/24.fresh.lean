/-! ===== fresh objects: calls found by the evaluator ===== -/
def mm_kC (a : Nat) : Bool := Nat.blt a 176
def mm_kM (a : Nat) : Bool := Nat.ble 176 a
/-- the model's cells are as they were made -/
def mm_fr (n1 : mm_P) (n2 : mm_G) : Prop := ∀ a b, 176 ≤ a → n1 a b = mm_i0 a b ∧ n2 a b = mm_l0 a b
theorem mm_fr0 : mm_fr mm_i0 mm_l0 := fun _ _ _ => ⟨rfl, rfl⟩
theorem mm_fr_u {n1 : mm_P} {n2 : mm_G} {k i : Nat} {x : Int32} (h : mm_fr n1 n2) (hk : k < 176) : mm_fr (mm_u n1 k i x) n2 := fun a b hl => by
  unfold mm_u
  rw [if_neg (by omega)]
  exact h a b hl
theorem mm_find_app {α : Type} (es fs : List (Nat × Nat × α)) (a b : Nat) : mm_find (es ++ fs) a b = match mm_find es a b with | some x => some x | none => mm_find fs a b := by
  induction es with
  | nil => rfl
  | cons e r ih =>
    obtain ⟨k, i, x⟩ := e
    rw [List.cons_append, mm_find_u, mm_find_u, ih]
    by_cases h1 : a = k
    · rw [if_pos h1, if_pos h1]
      by_cases h2 : b = i
      · rw [if_pos h2, if_pos h2]
      · rw [if_neg h2, if_neg h2]
    · rw [if_neg h1, if_neg h1]
theorem mm_find_ge {α : Type} {lo : Nat} : ∀ {es : List (Nat × Nat × α)}, es.all (fun e => Nat.ble lo e.1) = true → ∀ a b, a < lo → mm_find es a b = none
  | [], _, _, _, _ => rfl
  | (k, i, x) :: r, h, a, b, hl => by
    simp only [List.all_cons, Bool.and_eq_true] at h
    have hk : lo ≤ k := Nat.le_of_ble_eq_true h.1
    rw [mm_find_u, if_neg (by omega)]
    exact mm_find_ge (es := r) h.2 a b hl
theorem mm_gb_self {α : Type} {B : Nat → Nat → α} {es : List (Nat × Nat × α)} (h : ∀ a b x, mm_find es a b = some x → B a b = x) : mm_gb B es = B := by
  funext a b
  unfold mm_gb
  split
  · rename_i x q
    exact (h a b x q).symm
  · rfl
theorem mm_E1b : mm_zb mm_E1 176 = true := by decide +kernel
theorem mm_F1b : mm_zb mm_F1 176 = true := by decide +kernel
theorem mm_E2b : mm_E2.all (fun e => Nat.ble 176 e.1) = true := by decide +kernel
theorem mm_i0_lo {a b : Nat} (h : a < 176) : mm_i0 a b = mm_gb (fun _ _ => 0) mm_E1 a b := by
  unfold mm_i0 mm_gb
  rw [mm_find_app, mm_find_ge mm_E2b a b h]
theorem mm_i0_hi {a b : Nat} (h : 176 ≤ a) : mm_i0 a b = mm_gb (fun _ _ => 0) mm_E2 a b := by
  unfold mm_i0 mm_gb
  rw [mm_find_app, mm_find_0 mm_E1b a b h]
  cases mm_find mm_E2 a b <;> rfl
theorem mm_l0_hi {a b : Nat} (h : 176 ≤ a) : mm_l0 a b = 0 := by
  unfold mm_l0 mm_gb
  rw [mm_find_0 mm_F1b a b h]
theorem mm_find_lt {α : Type} {lo : Nat} {es : List (Nat × Nat × α)} (h : mm_zb es lo = true) {a b : Nat} {x : α} (hf : mm_find es a b = some x) : a < lo := by
  rcases Nat.lt_or_ge a lo with q | q
  · exact q
  · rw [mm_find_0 h a b q] at hf
    cases hf
theorem mm_find_le {α : Type} {lo : Nat} {es : List (Nat × Nat × α)} (h : es.all (fun e => Nat.ble lo e.1) = true) {a b : Nat} {x : α} (hf : mm_find es a b = some x) : lo ≤ a := by
  rcases Nat.lt_or_ge a lo with q | q
  · rw [mm_find_ge h a b q] at hf
    cases hf
  · exact q
theorem mm_semC : mm_sem (mm_i0, mm_l0) (mm_LAY, mm_E1, mm_F1) = (mm_LAY, mm_i0, mm_l0) := by
  have h1 : mm_gb mm_i0 mm_E1 = mm_i0 := mm_gb_self (fun a b x q => by
    rw [mm_i0_lo (mm_find_lt mm_E1b q)]
    unfold mm_gb
    rw [q])
  have h2 : mm_gb mm_l0 mm_F1 = mm_l0 := mm_gb_self (fun a b x q => by
    unfold mm_l0 mm_gb
    rw [q])
  unfold mm_sem
  rw [h1, h2]
theorem mm_jvC : mm_jv mm_kC (mm_i0, mm_l0) (mm_LAY, mm_E1, mm_F1) := by
  refine ⟨fun a b hk q => ?_, fun a b hk q => ?_⟩
  · show mm_i0 a b = 0
    rw [mm_i0_lo (Nat.le_of_ble_eq_true hk)]
    unfold mm_gb
    rw [q]
  · show mm_l0 a b = 0
    unfold mm_l0 mm_gb
    rw [q]
theorem mm_semM {m1 : mm_P} {m2 : mm_G} (h : mm_fr m1 m2) : mm_sem (m1, m2) (mm_LAY, mm_E2, []) = (mm_LAY, m1, m2) := by
  have h1 : mm_gb m1 mm_E2 = m1 := mm_gb_self (fun a b x q => by
    have hl := mm_find_le mm_E2b q
    rw [(h a b hl).1, mm_i0_hi hl]
    unfold mm_gb
    rw [q])
  have h2 : mm_gb m2 [] = m2 := mm_gb_self (fun a b x q => by cases q)
  unfold mm_sem
  rw [h1, h2]
theorem mm_jvM {m1 : mm_P} {m2 : mm_G} (h : mm_fr m1 m2) : mm_jv mm_kM (m1, m2) (mm_LAY, mm_E2, []) := by
  refine ⟨fun a b hk q => ?_, fun a b hk q => ?_⟩
  · show m1 a b = 0
    have hl : 176 ≤ a := Nat.le_of_ble_eq_true hk
    rw [(h a b hl).1, mm_i0_hi hl]
    unfold mm_gb
    rw [q]
  · show m2 a b = 0
    have hl : 176 ≤ a := Nat.le_of_ble_eq_true hk
    rw [(h a b hl).2, mm_l0_hi hl]
def mm_qA (a : Option (Option mm_V)) (o : Option mm_V) : Bool := mm_qo (mm_qo mm_qV) a (some o)
theorem mm_qA_s {a : Option (Option mm_V)} {o : Option mm_V} (h : mm_qA a o = true) : a = some o := mm_qo_s (fun _ _ => mm_qo_s (fun _ _ => mm_qV_s)) h
noncomputable def mm_evA (d mi : Nat) (As : List mm_V) : Option (Option mm_V) := match mm_evc mm_kC d false mi As (mm_LAY, mm_E1, mm_F1) with
  | some (o, X') => (match mm_zb X'.2.1 176, mm_zb X'.2.2 176 with
    | true, true => some o
    | _, _ => none)
  | none => none
noncomputable def mm_evB (d mi : Nat) (As : List mm_V) : Option (Option mm_V) := match mm_evc mm_kM d false mi As (mm_LAY, mm_E2, []) with
  | some (o, _) => some o
  | none => none
theorem mm_evA_q {L : Nat} {xs : Nat → Int32} {d mi : Nat} {As : List mm_V} {o : Option mm_V} {Q : mm_QQ} (h0 : mm_qA (mm_evA d mi As) o = true) (hQ : ∀ n1 n2, mm_fr n1 n2 → Q o n1 n2) : mm_cq (mm_call mm_ms (mm_tb L xs) d) mi As mm_i0 mm_l0 Q := by
  have h := mm_qA_s h0
  unfold mm_evA at h
  split at h
  · rename_i o' X' h1
    split at h
    · rename_i h2 h3
      cases h
      unfold mm_cq
      rw [← mm_semC]
      refine mm_call_m d _ _ _ _ _ (fun o1 w1 z => ?_) (mm_evc_s d false mi As _ _ _ (fun q => by cases q) mm_jvC h1)
      obtain ⟨z1, z2, z3⟩ := z
      subst z1 z2
      refine ⟨z3.2 rfl, hQ _ _ (fun a b hl => ?_)⟩
      show mm_gb mm_i0 X'.2.1 a b = _ ∧ mm_gb mm_l0 X'.2.2 a b = _
      unfold mm_gb
      rw [mm_find_0 h2 a b hl, mm_find_0 h3 a b hl]
      exact ⟨rfl, rfl⟩
    · cases h
  · cases h
theorem mm_evB_q {L : Nat} {xs : Nat → Int32} {d mi : Nat} {As : List mm_V} {o : Option mm_V} {Q : mm_QQ} {m1 : mm_P} {m2 : mm_G} (hf : mm_fr m1 m2) (h0 : mm_qA (mm_evB d mi As) o = true) (hQ : ∀ n1 n2, Q o n1 n2) : mm_cq (mm_call mm_ms (mm_tb L xs) d) mi As m1 m2 Q := by
  have h := mm_qA_s h0
  unfold mm_evB at h
  split at h
  · rename_i o' X' h1
    cases h
    unfold mm_cq
    rw [← mm_semM hf]
    refine mm_call_m d _ _ _ _ _ (fun o1 w1 z => ?_) (mm_evc_s d false mi As _ _ _ (fun q => by cases q) (mm_jvM hf) h1)
    obtain ⟨z1, z2, z3⟩ := z
    subst z1 z2
    exact ⟨z3.2 rfl, hQ _ _⟩
  · cases h
/-- the model's numbers() behind its forgets(): the rest of forgets(), then the rest of numbers() -/
noncomputable def mm_evN (d : Nat) (sort a b : Int32) : Option (Option mm_V) := match mm_evl mm_kM (mm_evc mm_kM d) mm_f167 51 none (mm_li mm_m167) false 1000 31 [some (mm_R 176), some (mm_I 0)] [] (mm_LAY, mm_E2, []) with
  | some (none, X1) => (match mm_evl mm_kM (mm_evc mm_kM (d + 1)) mm_f175 101 (some .int) (mm_li mm_m175) false 1000 4 [some (mm_R 176), some (mm_I sort), some (mm_I a), some (mm_I b), none] [] X1 with
    | some (o, _) => some o
    | none => none)
  | _ => none
