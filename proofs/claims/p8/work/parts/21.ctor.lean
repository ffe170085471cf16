/-! ===== both objects made: found by the evaluator ===== -/
def mm_E1 : List (Nat × Nat × Int32) := [(0, 10, (-3)), (0, 9, 1), (162, 5, (-1)), (1, 1, 4)]
def mm_E2 : List (Nat × Nat × Int32) := [(183, 3, (-1)), (182, 3, 1), (181, 3, 0), (180, 3, 1), (179, 3, (-1)), (178, 3, (-1)), (177, 3, 3), (183, 2, (-1)), (182, 2, 0), (181, 2, 1), (180, 2, 1), (179, 2, (-1)), (178, 2, (-1)), (177, 2, 2), (183, 1, 1), (182, 1, 0), (181, 1, 0), (180, 1, 1), (179, 1, (-1)), (178, 1, (-1)), (177, 1, 1), (183, 0, 1), (182, 0, 0), (181, 0, 0), (180, 0, 1), (179, 0, (-1)), (178, 0, (-1)), (177, 0, 0), (176, 47, (-1)), (176, 1, 200), (176, 0, 4)]
def mm_F1 : List (Nat × Nat × Int64) := [(2, 3, 3), (2, 2, 2), (2, 1, 1), (2, 0, 0)]
/-! equality as a Bool -/
def mm_qV : mm_V → mm_V → Bool
  | .inl a, .inl b => mm_qb a b
  | .inr (.inl a), .inr (.inl b) => Nat.beq a.toBitVec.toNat b.toBitVec.toNat
  | .inr (.inr (.inl a)), .inr (.inr (.inl b)) => Nat.beq a b
  | .inr (.inr (.inr (.inl a))), .inr (.inr (.inr (.inl b))) => Nat.beq a b
  | _, _ => false
theorem mm_qV_s : ∀ {a b : mm_V}, mm_qV a b = true → a = b
  | .inl a, .inl b, h => by rw [mm_qb_t h]
  | .inr (.inl a), .inr (.inl b), h => by rw [Int64.toBitVec_inj.mp (BitVec.eq_of_toNat_eq (Nat.eq_of_beq_eq_true h))]
  | .inr (.inr (.inl a)), .inr (.inr (.inl b)), h => by rw [Nat.eq_of_beq_eq_true h]
  | .inr (.inr (.inr (.inl a))), .inr (.inr (.inr (.inl b))), h => by rw [Nat.eq_of_beq_eq_true h]
  | .inr (.inr (.inr (.inr _))), b, h => by
    unfold mm_qV at h
    cases h
def mm_ql {α : Type} (q : α → α → Bool) : List α → List α → Bool
  | [], [] => true
  | a :: r, b :: s => match q a b with
    | true => mm_ql q r s
    | false => false
  | _, _ => false
theorem mm_ql_s {α : Type} {q : α → α → Bool} (hq : ∀ a b, q a b = true → a = b) : ∀ {l s : List α}, mm_ql q l s = true → l = s
  | [], [], _ => rfl
  | a :: r, b :: s, h => by
    unfold mm_ql at h
    split at h
    · rename_i q1
      rw [hq _ _ q1, mm_ql_s hq h]
    · cases h
  | [], _ :: _, h => by cases h
  | _ :: _, [], h => by cases h
def mm_qo {α : Type} (q : α → α → Bool) : Option α → Option α → Bool
  | none, none => true
  | some a, some b => q a b
  | _, _ => false
theorem mm_qo_s {α : Type} {q : α → α → Bool} (hq : ∀ a b, q a b = true → a = b) : ∀ {l s : Option α}, mm_qo q l s = true → l = s
  | none, none, _ => rfl
  | some a, some b, h => by rw [hq a b h]
  | none, some _, h => by cases h
  | some _, none, h => by cases h
def mm_qC : mm_C → mm_C → Bool
  | .inl (a, f), .inl (b, g) => (match Nat.beq a b with
    | true => mm_ql (mm_qo (mm_qo Nat.beq)) f g
    | false => false)
  | .inr (.inl (a, n)), .inr (.inl (b, m)) => (match Nat.beq a b with
    | true => Nat.beq n m
    | false => false)
  | .inr (.inr (a, n, x)), .inr (.inr (b, m, y)) => (match Nat.beq a b, Nat.beq n m with
    | true, true => Nat.beq x y
    | _, _ => false)
  | _, _ => false
theorem mm_qN (a b : Nat) (h : Nat.beq a b = true) : a = b := Nat.eq_of_beq_eq_true h
theorem mm_qC_s (a b : mm_C) (h : mm_qC a b = true) : a = b := by
  unfold mm_qC at h
  split at h
  · split at h
    · rename_i q
      rw [mm_qN _ _ q, mm_ql_s (fun _ _ => mm_qo_s (fun _ _ => mm_qo_s mm_qN)) h]
    · cases h
  · split at h
    · rename_i q
      rw [mm_qN _ _ q, mm_qN _ _ h]
    · cases h
  · split at h
    · rename_i q1 q2
      rw [mm_qN _ _ q1, mm_qN _ _ q2, mm_qN _ _ h]
    · cases h
  · cases h
def mm_qE (a b : Nat × Nat × Int32) : Bool := match Nat.beq a.1 b.1, Nat.beq a.2.1 b.2.1 with
  | true, true => mm_qb a.2.2 b.2.2
  | _, _ => false
theorem mm_qE_s (a b : Nat × Nat × Int32) (h : mm_qE a b = true) : a = b := by
  unfold mm_qE at h
  split at h
  · rename_i q1 q2
    exact Prod.ext (mm_qN _ _ q1) (Prod.ext (mm_qN _ _ q2) (mm_qb_t h))
  · cases h
def mm_qF (a b : Nat × Nat × Int64) : Bool := match Nat.beq a.1 b.1, Nat.beq a.2.1 b.2.1 with
  | true, true => Nat.beq a.2.2.toBitVec.toNat b.2.2.toBitVec.toNat
  | _, _ => false
theorem mm_qF_s (a b : Nat × Nat × Int64) (h : mm_qF a b = true) : a = b := by
  unfold mm_qF at h
  split at h
  · rename_i q1 q2
    exact Prod.ext (mm_qN _ _ q1) (Prod.ext (mm_qN _ _ q2) (Int64.toBitVec_inj.mp (BitVec.eq_of_toNat_eq (Nat.eq_of_beq_eq_true h))))
  · cases h
def mm_qX (a b : mm_X) : Bool := match mm_ql mm_qC a.1 b.1, mm_ql mm_qE a.2.1 b.2.1 with
  | true, true => mm_ql mm_qF a.2.2 b.2.2
  | _, _ => false
theorem mm_qX_s (a b : mm_X) (h : mm_qX a b = true) : a = b := by
  unfold mm_qX at h
  split at h
  · rename_i q1 q2
    exact Prod.ext (mm_ql_s mm_qC_s q1) (Prod.ext (mm_ql_s mm_qE_s q2) (mm_ql_s mm_qF_s h))
  · cases h
/-- a stop of the evaluator, looked at -/
def mm_qP (a : Option (List (Option mm_V) × List mm_V × mm_X)) (ls : List (Option mm_V)) (X : mm_X) : Bool := match a with
  | some (l, [], Y) => (match mm_ql (mm_qo mm_qV) l ls with
    | true => mm_qX Y X
    | false => false)
  | _ => false
theorem mm_qP_s {a : Option (List (Option mm_V) × List mm_V × mm_X)} {ls : List (Option mm_V)} {X : mm_X} (h : mm_qP a ls X = true) : a = some (ls, [], X) := by
  unfold mm_qP at h
  split at h
  · split at h
    · rename_i q
      rw [mm_ql_s (fun _ _ => mm_qo_s (fun _ _ => mm_qV_s)) q, mm_qX_s _ _ h]
    · cases h
  · cases h
theorem mm_ctor_b : mm_qP (mm_evp (fun _ => true) (mm_evc (fun _ => true) 40) mm_fL 656 ret (600000, 7302250) true 18 100 0 [some (mm_S 0), none, none, none] [] ([], [], [])) [some (mm_S 0), some (mm_R 0), some (mm_R 176), some (mm_I 0)] (mm_LAY, mm_E2 ++ mm_E1, mm_F1) = true := by decide +kernel
theorem mm_ctor : mm_evp (fun _ => true) (mm_evc (fun _ => true) 40) mm_fL 656 ret (600000, 7302250) true 18 100 0 [some (mm_S 0), none, none, none] [] ([], [], []) = some ([some (mm_S 0), some (mm_R 0), some (mm_R 176), some (mm_I 0)], [], (mm_LAY, mm_E2 ++ mm_E1, mm_F1)) := mm_qP_s mm_ctor_b
theorem mm_kL_e : mm_kL = (List.range 656).map mm_fL := by unfold mm_kL; exact Eq.refl _
theorem mm_Mc_at (a : MethodName) (b : ByteArray) (c : Nat) (r : Option FieldType) (k : List mm_E) (e f g h : Nat) : mm_Mc (a, b, c, r, k, e, f, g, h) = k := rfl
theorem mm_ML_c : mm_Mc mm_ML = mm_kL := by
  unfold mm_ML
  exact mm_Mc_at x code 4 ret mm_kL 1 0 0 0
theorem mm_hfL : mm_Mc mm_ML = (List.range 656).map mm_fL := mm_ML_c.trans mm_kL_e
/-- ints and longs once both objects are made -/
def mm_i0 : mm_P := mm_gb (fun _ _ => 0) (mm_E2 ++ mm_E1)
def mm_l0 : mm_G := mm_gb (fun _ _ => 0) mm_F1
set_option maxRecDepth 100000 in
theorem mm_begin {L : Nat} {xs : Nat → Int32} {lim : Nat × Nat} {Q : Option mm_V → mm_W → Prop} (hl : lim = (600000, 7302250)) (hW : mm_WP (mm_call mm_ms (mm_tb L xs) 40) mm_ms (mm_tb L xs) mm_ML lim Q 18 [some (mm_S 0), some (mm_R 0), some (mm_R 176), some (mm_I 0)] [] (mm_LAY, mm_i0, mm_l0)) : mm_WP (mm_call mm_ms (mm_tb L xs) 40) mm_ms (mm_tb L xs) mm_ML lim Q 0 [some (mm_S 0), none, none, none] [] ([], fun _ _ => 0, fun _ _ => 0) := by
  subst hl
  have h := mm_evp_s (kz := fun _ => true) (B := (fun _ _ => 0, fun _ _ => 0)) (M := mm_ML) (L := L) (xs := xs) (lim := (600000, 7302250)) (fl := true) (Q := Q) (f := mm_fL) (n := 656) mm_hfL (mm_call_m 40) (mm_evc_s 40) (fun _ => ⟨rfl, rfl⟩) (stop := 18) hW 100 0 _ _ ([], [], []) ⟨fun _ _ _ _ => rfl, fun _ _ _ _ => rfl⟩ mm_ctor
  exact h
