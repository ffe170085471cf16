/-! ===== what holds of the class's ints, and what a method leaves as it was ===== -/
theorem mm_tt30 : (30 : Int32).toInt = 30 := rfl
theorem mm_tt60 : (60 : Int32).toInt = 60 := rfl
theorem mm_tt600 : (600 : Int32).toInt = 600 := rfl
theorem mm_tt8192 : (8192 : Int32).toInt = 8192 := rfl
theorem mm_tt100000 : (100000 : Int32).toInt = 100000 := rfl
theorem mm_n15 : (nI 15).toInt = 15 := rfl
theorem mm_n5 : (nI 5).toInt = 5 := rfl
theorem mm_n51 : (nI 5 - 1).toInt = 4 := rfl
theorem mm_n800 : (nI 800).toInt = 800 := rfl
theorem mm_vpr {x : Int32} {n : Nat} (h : 0 ≤ x.toInt ∧ x.toInt < n) : vp_in x n := vp_in_iff.mpr h
theorem mm_add1 {x : Int32} (h : x.toInt < 2147483647) : (x + 1).toInt = x.toInt + 1 := by
  rw [Int32.toInt_add, mm_tt1]
  have h2 : -2 ^ 31 ≤ x.toInt := Int32.le_toInt x
  rw [Int.bmod_eq_of_le] <;> omega
theorem mm_inc {x : Int32} {N : Int} (h0 : 0 ≤ x.toInt) (h1 : x.toInt < N) (hN : N ≤ 2147483647) : 0 ≤ (x + 1).toInt ∧ (x + 1).toInt ≤ N := by
  rw [mm_add1 (by omega)]
  omega
def mm_IC (m : mm_P) : Prop := (0 ≤ (m 1 1).toInt ∧ (m 1 1).toInt ≤ 200) ∧ (0 ≤ (m 3 5).toInt ∧ (m 3 5).toInt ≤ 200) ∧ (0 ≤ (m 3 6).toInt ∧ (m 3 6).toInt ≤ 200) ∧ (0 ≤ (m 9 7).toInt ∧ (m 9 7).toInt ≤ 12) ∧ (0 ≤ (m 31 12).toInt ∧ (m 31 12).toInt ≤ 60) ∧ (0 ≤ (m 160 1).toInt ∧ (m 160 1).toInt ≤ 16)
def mm_ick (k : Nat) : Bool := !([1, 3, 9, 31, 160].contains k)
theorem mm_u_e {α : Type} {f : Nat → Nat → α} {k i a b : Nat} {x : α} (h : ¬ a = k) : mm_u f k i x a b = f a b := by
  unfold mm_u
  rw [if_neg h]
theorem mm_u_f {α : Type} {f : Nat → Nat → α} {k i b : Nat} {x : α} (h : ¬ b = i) : mm_u f k i x k b = f k b := by
  unfold mm_u
  rw [if_pos rfl, if_neg h]
theorem mm_u_s {α : Type} {f : Nat → Nat → α} {k i : Nat} {x : α} : mm_u f k i x k i = x := by
  unfold mm_u
  rw [if_pos rfl, if_pos rfl]
theorem mm_IC_n {m : mm_P} {k i : Nat} {x : Int32} (h : mm_IC m) (h1 : ¬ 1 = k) (h3 : ¬ 3 = k) (h9 : ¬ 9 = k) (h31 : ¬ 31 = k) (h160 : ¬ 160 = k) : mm_IC (mm_u m k i x) := by
  unfold mm_IC
  rw [mm_u_e h1, mm_u_e h3, mm_u_e h3, mm_u_e h9, mm_u_e h31, mm_u_e h160]
  exact h
theorem mm_IC_o {m : mm_P} {k i : Nat} {x : Int32} (h : mm_IC m) (hk : mm_ick k = true) : mm_IC (mm_u m k i x) := by
  have hq : ∀ j, [1, 3, 9, 31, 160].contains j = true → ¬ j = k := fun j hj e => by
    subst e
    unfold mm_ick at hk
    rw [hj] at hk
    cases hk
  exact mm_IC_n h (hq 1 rfl) (hq 3 rfl) (hq 9 rfl) (hq 31 rfl) (hq 160 rfl)
theorem mm_IC_11 {m : mm_P} {x : Int32} (h : mm_IC m) (hx : 0 ≤ x.toInt ∧ x.toInt ≤ 200) : mm_IC (mm_u m 1 1 x) := by
  unfold mm_IC
  rw [mm_u_s, mm_u_e (by decide), mm_u_e (by decide), mm_u_e (by decide), mm_u_e (by decide), mm_u_e (by decide)]
  exact ⟨hx, h.2⟩
theorem mm_IC_35 {m : mm_P} {x : Int32} (h : mm_IC m) (hx : 0 ≤ x.toInt ∧ x.toInt ≤ 200) : mm_IC (mm_u m 3 5 x) := by
  unfold mm_IC
  rw [mm_u_e (by decide), mm_u_s, mm_u_f (by decide), mm_u_e (by decide), mm_u_e (by decide), mm_u_e (by decide)]
  exact ⟨h.1, hx, h.2.2⟩
theorem mm_IC_36 {m : mm_P} {x : Int32} (h : mm_IC m) (hx : 0 ≤ x.toInt ∧ x.toInt ≤ 200) : mm_IC (mm_u m 3 6 x) := by
  unfold mm_IC
  rw [mm_u_e (by decide), mm_u_f (by decide), mm_u_s, mm_u_e (by decide), mm_u_e (by decide), mm_u_e (by decide)]
  exact ⟨h.1, h.2.1, hx, h.2.2.2⟩
theorem mm_IC_97 {m : mm_P} {x : Int32} (h : mm_IC m) (hx : 0 ≤ x.toInt ∧ x.toInt ≤ 12) : mm_IC (mm_u m 9 7 x) := by
  unfold mm_IC
  rw [mm_u_e (by decide), mm_u_e (by decide), mm_u_e (by decide), mm_u_s, mm_u_e (by decide), mm_u_e (by decide)]
  exact ⟨h.1, h.2.1, h.2.2.1, hx, h.2.2.2.2⟩
theorem mm_IC_3112 {m : mm_P} {x : Int32} (h : mm_IC m) (hx : 0 ≤ x.toInt ∧ x.toInt ≤ 60) : mm_IC (mm_u m 31 12 x) := by
  unfold mm_IC
  rw [mm_u_e (by decide), mm_u_e (by decide), mm_u_e (by decide), mm_u_e (by decide), mm_u_s, mm_u_e (by decide)]
  exact ⟨h.1, h.2.1, h.2.2.1, h.2.2.2.1, hx, h.2.2.2.2.2⟩
theorem mm_IC_1601 {m : mm_P} {x : Int32} (h : mm_IC m) (hx : 0 ≤ x.toInt ∧ x.toInt ≤ 16) : mm_IC (mm_u m 160 1 x) := by
  unfold mm_IC
  rw [mm_u_e (by decide), mm_u_e (by decide), mm_u_e (by decide), mm_u_e (by decide), mm_u_e (by decide), mm_u_s]
  exact ⟨h.1, h.2.1, h.2.2.1, h.2.2.2.1, h.2.2.2.2.1, hx⟩
theorem mm_IC_1602 {m : mm_P} {x : Int32} (h : mm_IC m) (_ : True) : mm_IC (mm_u m 160 2 x) := by
  unfold mm_IC
  rw [mm_u_e (by decide), mm_u_e (by decide), mm_u_e (by decide), mm_u_e (by decide), mm_u_e (by decide), mm_u_f (by decide)]
  exact h
/-! places: from a cell to a cell, a place or all (999999) -/
def mm_wr1 (a b : Nat) (e : Nat × Nat × Nat) : Bool := match Nat.ble e.1 a, Nat.ble a e.2.1 with
  | true, true => (match Nat.beq e.2.2 999999 with
    | true => true
    | false => Nat.beq e.2.2 b)
  | _, _ => false
def mm_wr (W : List (Nat × Nat × Nat)) (a b : Nat) : Bool := W.any (mm_wr1 a b)
def mm_wdr1 (lo hi : Nat) (e : Nat × Nat × Nat) : Bool := match Nat.ble e.1 lo, Nat.ble hi e.2.1 with
  | true, true => Nat.beq e.2.2 999999
  | _, _ => false
def mm_wdr (W : List (Nat × Nat × Nat)) (lo hi : Nat) : Bool := W.any (mm_wdr1 lo hi)
def mm_fw (W : List (Nat × Nat × Nat)) (m1 : mm_P) (m2 : mm_G) (n1 : mm_P) (n2 : mm_G) : Prop := ∀ a b, mm_wr W a b = false → n1 a b = m1 a b ∧ n2 a b = m2 a b
def mm_ws1 (e f : Nat × Nat × Nat) : Bool := match Nat.ble f.1 e.1, Nat.ble e.2.1 f.2.1 with
  | true, true => (match Nat.beq f.2.2 999999 with
    | true => true
    | false => Nat.beq f.2.2 e.2.2)
  | _, _ => false
def mm_ws2 (V W : List (Nat × Nat × Nat)) : Bool := V.all (fun e => W.any (mm_ws1 e))
theorem mm_wr1_s {a b : Nat} {e f : Nat × Nat × Nat} (h : mm_wr1 a b e = true) (hs : mm_ws1 e f = true) : mm_wr1 a b f = true := by
  unfold mm_wr1 at h
  unfold mm_ws1 at hs
  split at h
  · rename_i h1 h2
    split at hs
    · rename_i h3 h4
      have i1 := Nat.le_of_ble_eq_true h1
      have i2 := Nat.le_of_ble_eq_true h2
      have i3 := Nat.le_of_ble_eq_true h3
      have i4 := Nat.le_of_ble_eq_true h4
      unfold mm_wr1
      rw [Nat.ble_eq_true_of_le (show f.1 ≤ a by omega), Nat.ble_eq_true_of_le (show a ≤ f.2.1 by omega)]
      dsimp only
      split at hs
      · first
        | rfl
        | (rename_i h5; rw [h5])
      · rename_i h5
        have h6 := Nat.eq_of_beq_eq_true hs
        rw [h6] at h5
        rw [h5] at h
        first
        | exact h
        | (rw [h6, h5]; exact h)
        | (rw [h6]; exact h)
    · cases hs
  · cases h
theorem mm_ws2_s {V W : List (Nat × Nat × Nat)} (hs : mm_ws2 V W = true) {a b : Nat} (h : mm_wr W a b = false) : mm_wr V a b = false := by
  cases hv : mm_wr V a b with
  | false => rfl
  | true =>
    obtain ⟨e, he, h1⟩ := List.any_eq_true.mp hv
    obtain ⟨f, hf, h2⟩ := List.any_eq_true.mp (List.all_eq_true.mp hs e he)
    have : mm_wr W a b = true := List.any_eq_true.mpr ⟨f, hf, mm_wr1_s h1 h2⟩
    rw [h] at this
    cases this
section MMI
variable {W V : List (Nat × Nat × Nat)} {m1 n1 p1 : mm_P} {m2 n2 p2 : mm_G} {k i : Nat}
theorem mm_fw_r : mm_fw W m1 m2 m1 m2 := fun _ _ _ => ⟨rfl, rfl⟩
theorem mm_fw_t (h : mm_fw W m1 m2 n1 n2) (hs : mm_ws2 V W = true) (h2 : mm_fw V n1 n2 p1 p2) : mm_fw W m1 m2 p1 p2 := fun a b hw => by
  obtain ⟨x1, x2⟩ := h a b hw
  obtain ⟨y1, y2⟩ := h2 a b (mm_ws2_s hs hw)
  exact ⟨y1.trans x1, y2.trans x2⟩
theorem mm_fw_f {x : Int32} (h : mm_fw W m1 m2 n1 n2) (hw : mm_wr W k i = true) : mm_fw W m1 m2 (mm_u n1 k i x) n2 := fun a b hb => by
  refine ⟨?_, (h a b hb).2⟩
  unfold mm_u
  split
  · rename_i h1
    split
    · rename_i h2
      rw [h1, h2, hw] at hb
      cases hb
    · exact (h a b hb).1
  · exact (h a b hb).1
theorem mm_wdr_s {lo hi b : Nat} (hw : mm_wdr W lo hi = true) (h1 : lo ≤ k) (h2 : k ≤ hi) : mm_wr W k b = true := by
  obtain ⟨e, he, h3⟩ := List.any_eq_true.mp hw
  refine List.any_eq_true.mpr ⟨e, he, ?_⟩
  unfold mm_wdr1 at h3
  split at h3
  · rename_i h4 h5
    have i4 := Nat.le_of_ble_eq_true h4
    have i5 := Nat.le_of_ble_eq_true h5
    unfold mm_wr1
    rw [Nat.ble_eq_true_of_le (show e.1 ≤ k by omega), Nat.ble_eq_true_of_le (show k ≤ e.2.1 by omega), h3]
  · cases h3
theorem mm_fw_d {x : Int32} {lo hi : Nat} (h : mm_fw W m1 m2 n1 n2) (hw : mm_wdr W lo hi = true) (h1 : lo ≤ k) (h2 : k ≤ hi) : mm_fw W m1 m2 (mm_u n1 k i x) n2 := fun a b hb => by
  refine ⟨?_, (h a b hb).2⟩
  unfold mm_u
  split
  · rename_i h3
    rw [h3, mm_wdr_s hw h1 h2] at hb
    cases hb
  · exact (h a b hb).1
theorem mm_fw_ld {x : Int64} {lo hi : Nat} (h : mm_fw W m1 m2 n1 n2) (hw : mm_wdr W lo hi = true) (h1 : lo ≤ k) (h2 : k ≤ hi) : mm_fw W m1 m2 n1 (mm_u n2 k i x) := fun a b hb => by
  refine ⟨(h a b hb).1, ?_⟩
  unfold mm_u
  split
  · rename_i h3
    rw [h3, mm_wdr_s hw h1 h2] at hb
    cases hb
  · exact (h a b hb).2
theorem mm_fw_a {x : Int32} (h : mm_fw W m1 m2 n1 n2) (hw : mm_wdr W k k = true) : mm_fw W m1 m2 (mm_u n1 k i x) n2 := mm_fw_d h hw (Nat.le_refl _) (Nat.le_refl _)
theorem mm_fw_l {x : Int64} (h : mm_fw W m1 m2 n1 n2) (hw : mm_wdr W k k = true) : mm_fw W m1 m2 n1 (mm_u n2 k i x) := mm_fw_ld h hw (Nat.le_refl _) (Nat.le_refl _)
end MMI
theorem mm_IC_d {m : mm_P} {k i : Nat} {x : Int32} (h : mm_IC m) (h1 : 31 < k) (h2 : k < 160) : mm_IC (mm_u m k i x) := mm_IC_n h (by omega) (by omega) (by omega) (by omega) (by omega)
theorem mm_alq_r {t r n : Nat} {i : Int32} {k : Prop} (hr : mm_LF r = some (.inr (.inl (t, n)))) (h : vp_in i n) (hk : k) : mm_alq t r i k := by
  unfold mm_alq
  rw [hr]
  dsimp only
  have hb : Nat.beq t t = true := Nat.beq_refl t
  rw [hb]
  exact ⟨h, hk⟩
theorem mm_tn {x : Int32} {n : Nat} (h0 : 0 ≤ x.toInt) (h1 : x.toInt < n) : x.toNatClampNeg < n := by
  show x.toInt.toNat < n
  omega
def mm_rwq (b t n : Nat) (j : Nat) : Bool := match mm_LF (b + j) with
  | some (.inr (.inl (t', n'))) => (match Nat.beq t' t with
    | true => Nat.beq n' n
    | false => false)
  | _ => false
theorem mm_rwq_s {b t n j : Nat} (h : mm_rwq b t n j = true) : mm_LF (b + j) = some (.inr (.inl (t, n))) := by
  unfold mm_rwq at h
  split at h
  · rename_i t' n' q
    split at h
    · rename_i q2
      rw [q, Nat.eq_of_beq_eq_true q2, Nat.eq_of_beq_eq_true h]
    · cases h
  · cases h
theorem mm_rows_b : (List.range 12).all (mm_rwq 19 1 200) = true ∧ (List.range 60).all (mm_rwq 39 0 200) = true ∧ (List.range 60).all (mm_rwq 100 0 200) = true := by decide +kernel
theorem mm_row19 {j : Nat} (h : j < 12) : mm_LF (19 + j) = some (.inr (.inl (1, 200))) := mm_rwq_s (List.all_eq_true.mp mm_rows_b.1 j (List.mem_range.mpr h))
theorem mm_row39 {j : Nat} (h : j < 60) : mm_LF (39 + j) = some (.inr (.inl (0, 200))) := mm_rwq_s (List.all_eq_true.mp mm_rows_b.2.1 j (List.mem_range.mpr h))
theorem mm_row100 {j : Nat} (h : j < 60) : mm_LF (100 + j) = some (.inr (.inl (0, 200))) := mm_rwq_s (List.all_eq_true.mp mm_rows_b.2.2 j (List.mem_range.mpr h))
theorem mm_addI {x y : Int32} (h1 : -2147483648 ≤ x.toInt + y.toInt) (h2 : x.toInt + y.toInt < 2147483648) : (x + y).toInt = x.toInt + y.toInt := by
  rw [Int32.toInt_add, Int.bmod_eq_of_le] <;> omega
theorem mm_m4e {x : Int32} (hx : 0 ≤ x.toInt ∧ x.toInt < 200) : (x * 4).toInt = 4 * x.toInt := by
  have e : (4 : Int32).toInt = 4 := rfl
  rw [Int32.toInt_mul, e, Int.bmod_eq_of_le] <;> omega
theorem mm_vp4 {x y : Int32} (hx : 0 ≤ x.toInt ∧ x.toInt < 200) (hy : 0 ≤ y.toInt ∧ y.toInt < 4) : vp_in (x * 4 + y) 800 := by
  have e := mm_m4e hx
  have e2 : (x * 4 + y).toInt = (x * 4).toInt + y.toInt := mm_addI (by omega) (by omega)
  exact mm_vpr (by omega)
theorem mm_vpk {x k : Int32} (h : 0 ≤ x.toInt) (h2 : x.toInt + k.toInt < 800) (hk : 0 ≤ k.toInt) : vp_in (x + k) 800 := by
  have e2 : (x + k).toInt = x.toInt + k.toInt := mm_addI (by omega) (by omega)
  exact mm_vpr (by omega)
theorem mm_add_r {m : mm_P} (hI : mm_IC m) (c : m 3 5 < 200) : 0 ≤ (m 3 5).toInt ∧ (m 3 5).toInt < 200 := by
  rw [Int32.lt_iff_toInt_lt, mm_tt200] at c
  exact ⟨hI.2.1.1, c⟩
theorem sp_X0_has {L : Nat} {xs : Nat → Int32} {d : Nat} {Q : mm_QQ} {mi : mm_P} {ml : mm_G} {n : Int32} (h1 : 0 ≤ n.toInt → n.toInt < (mi 31 12).toInt → n.toInt < 60 → Q (some (mm_I 1)) mi ml) (h0 : ¬ (0 ≤ n.toInt ∧ n.toInt < (mi 31 12).toInt ∧ n.toInt < 60) → Q (some (mm_I 0)) mi ml) : mm_cq (mm_call mm_ms (mm_tb L xs) (d + 1)) 5 [mm_R 31, mm_I n] mi ml Q := by
  refine en_X0_has (bk_X0_has_0 (mm_call_m _) (fun a => bk_X0_has_22 (mm_call_m _) (h0 ?_)) (fun a b => bk_X0_has_22 (mm_call_m _) (h0 ?_)) (fun a b c => bk_X0_has_22 (mm_call_m _) (h0 ?_)) (fun a b c => h1 ?_ ?_ ?_)) <;> simp only [Int32.lt_iff_toInt_lt, Int32.le_iff_toInt_le, mm_tt0, mm_tt60] at * <;> omega
