/-! ===== fresh objects: the model's answers ===== -/
theorem mm_add1 {x : Int32} (h : x.toInt < 2147483647) : (x + 1).toInt = x.toInt + 1 := by
  rw [Int32.toInt_add, mm_tt1]
  have h2 : -2 ^ 31 ≤ x.toInt := Int32.le_toInt x
  rw [Int.bmod_eq_of_le] <;> omega
theorem mm_find_no {α : Type} {a : Nat} : ∀ {es : List (Nat × Nat × α)}, es.all (fun e => !(Nat.beq e.1 a)) = true → ∀ b, mm_find es a b = none
  | [], _, _ => rfl
  | (k, i, x) :: r, h, b => by
    simp only [List.all_cons, Bool.and_eq_true] at h
    have hk : ¬ a = k := fun q => by
      have := h.1
      rw [q, Nat.beq_refl] at this
      cases this
    rw [mm_find_u, if_neg hk]
    exact mm_find_no (es := r) h.2 b
theorem mm_v184 (b : Nat) : mm_i0 184 b = 0 := by
  unfold mm_i0 mm_gb
  rw [mm_find_no (by decide +kernel)]
theorem mm_fr_s {n1 : mm_P} {n2 : mm_G} {k i : Nat} {x : Int32} (h : mm_fr n1 n2) (hx : mm_i0 k i = x) : mm_fr (mm_u n1 k i x) n2 := fun a b hl => by
  unfold mm_u
  split
  · rename_i q1
    split
    · rename_i q2
      subst q1 q2
      exact ⟨hx.symm, (h _ _ hl).2⟩
    · exact h a b hl
  · exact h a b hl
section MMM
variable {L : Nat} {xs : Nat → Int32} {d : Nat} {Q : mm_QQ} {m1 : mm_P} {m2 : mm_G}
theorem mm_frv {a b : Nat} {x : Int32} (hf : mm_fr m1 m2) (h : Nat.ble 176 a = true) (hx : mm_qb (mm_i0 a b) x = true) : m1 a b = x := (hf a b (Nat.le_of_ble_eq_true h)).1.trans (mm_qb_t hx)
theorem sf_floop {lim : Nat × Nat} : ∀ (k : Nat) (x : Int32) (m1 : mm_P), x.toInt = 16384 - k → k ≤ 16384 → mm_fr m1 m2 → (∀ m, mm_fr m m2 → mm_WQ (mm_call mm_ms (mm_tb L xs) d) (mm_tb L xs) mm_m167 lim Q 31 [some (mm_R 176), some (mm_I 0)] [] m m2) → mm_WQ (mm_call mm_ms (mm_tb L xs) d) (mm_tb L xs) mm_m167 lim Q 9 [some (mm_R 176), some (mm_I x)] [] m1 m2
  | 0, x, m1, hx, _, hf, hw => by
    have e : (16384 : Int32).toInt = 16384 := rfl
    refine bk_X12_forgets_9 (mm_call_m _) (fun _ => hw m1 hf) (fun z => ?_) (fun z => ?_) <;> (rw [Int32.le_iff_toInt_le, e] at z; omega)
  | k + 1, x, m1, hx, hk, hf, hw => by
    have e : (16384 : Int32).toInt = 16384 := rfl
    refine bk_X12_forgets_9 (mm_call_m _) (fun z => ?_) (fun _ => vp_in_iff.mpr (by omega)) (fun _ => sf_floop k (x + 1) _ ?_ (by omega) (mm_fr_s hf (mm_v184 _)) hw)
    · rw [Int32.le_iff_toInt_le, e] at z
      omega
    · rw [mm_add1 (by omega), hx]
      omega
theorem sf_numbers {sort a b v : Int32} (hf : mm_fr m1 m2) (h0 : mm_qA (mm_evN d sort a b) (some (mm_I v)) = true) (hQ : ∀ n1 n2, Q (some (mm_I v)) n1 n2) : mm_cq (mm_call mm_ms (mm_tb L xs) (d + 2)) 175 [mm_R 176, mm_I sort, mm_I a, mm_I b] m1 m2 Q := by
  have h := mm_qA_s h0
  unfold mm_evN at h
  split at h
  · rename_i X1 h1
    split at h
    · rename_i o X2 h2
      cases h
      refine en_X12_numbers (bk_X12_numbers_0 (mm_call_m _) (en_X12_forgets (bk_X12_forgets_0 (mm_call_m _) (sf_floop 16384 0 _ (by decide) (by omega) (mm_fr_s hf (by decide +kernel)) (fun m hm => ?_)))))
      unfold mm_WQ
      rw [← mm_semM hm]
      refine mm_WP_m (mm_call_m _) (fun o1 w1 z => ?_) (mm_evl_s (M := mm_m167) (f := mm_f167) (n := 51) (lim := mm_li mm_m167) (fl := false) (o := none) (X' := X1) rfl (mm_call_m d) (mm_evc_s d) (fun q => by cases q) (mm_LAY, mm_E2, []) 1000 31 [some (mm_R 176), some (mm_I 0)] [] (mm_LAY, mm_E2, []) ⟨mm_jvM hm, fun _ => rfl⟩ h1)
      obtain ⟨z1, z2, z3⟩ := z
      subst z1 z2
      have hl : X1.1 = mm_LAY := z3.2 rfl
      refine ⟨hl, ?_⟩
      show mm_WP (mm_call mm_ms (mm_tb L xs) (d + 1)) mm_ms (mm_tb L xs) mm_m175 (mm_li mm_m175) (fun o w => w.1 = mm_LAY ∧ Q o w.2.1 w.2.2) 4 [some (mm_R 176), some (mm_I sort), some (mm_I a), some (mm_I b), none] [] (mm_LAY, (mm_sem (m, m2) X1).2.1, (mm_sem (m, m2) X1).2.2)
      rw [show ((mm_LAY, (mm_sem (m, m2) X1).2.1, (mm_sem (m, m2) X1).2.2) : mm_W) = mm_sem (m, m2) X1 from by rw [← hl]; rfl]
      refine mm_WP_m (mm_call_m _) (fun o2 w2 y => ?_) (mm_evl_s (M := mm_m175) (f := mm_f175) (n := 101) (lim := mm_li mm_m175) (fl := false) (o := some (mm_I v)) (X' := X2) rfl (mm_call_m (d + 1)) (mm_evc_s (d + 1)) (fun q => by cases q) X1 1000 4 _ [] X1 ⟨z3.1, fun _ => rfl⟩ h2)
      obtain ⟨y1, y2, y3⟩ := y
      subst y1 y2
      exact ⟨(y3.2 rfl).trans hl, hQ _ _⟩
    · cases h
  · cases h
theorem sf_isType {n : Int32} (hf : mm_fr m1 m2) (h1 : 0 ≤ n.toInt → n.toInt < 4 → Q (some (mm_I 1)) m1 m2) (h0 : ¬ (0 ≤ n.toInt ∧ n.toInt < 4) → Q (some (mm_I 0)) m1 m2) : mm_cq (mm_call mm_ms (mm_tb L xs) (d + 2)) 174 [mm_R 176, mm_I n] m1 m2 Q := by
  have hv : m1 176 0 = 4 := mm_frv hf rfl (by decide +kernel)
  refine sp_X12_isType (by rw [hv]; decide) (fun a b => h1 a ?_) (fun a => h0 ?_)
  · rw [hv] at b
    exact b
  · rw [hv] at a
    exact a
theorem sf_isNode {n : Int32} (hf : mm_fr m1 m2) (h0 : Q (some (mm_I 0)) m1 m2) : mm_cq (mm_call mm_ms (mm_tb L xs) (d + 2)) 183 [mm_R 176, mm_I n] m1 m2 Q := by
  have hv : m1 176 13 = 0 := mm_frv hf rfl (by decide +kernel)
  refine sp_X12_isNode (by rw [hv]; decide) (fun a b => ?_) (fun _ => h0)
  rw [hv, mm_tt0] at b
  omega
theorem sf_isFunction {n : Int32} (hf : mm_fr m1 m2) (h0 : Q (some (mm_I 0)) m1 m2) : mm_cq (mm_call mm_ms (mm_tb L xs) (d + 2)) 184 [mm_R 176, mm_I n] m1 m2 Q := by
  have hv : m1 176 20 = 0 := mm_frv hf rfl (by decide +kernel)
  refine sp_X12_isFunction (by rw [hv]; decide) (fun a b => ?_) (fun _ => h0)
  rw [hv, mm_tt0] at b
  omega
/-- what a call of the model answers here -/
def mm_Am (v : mm_V) : mm_QQ := fun o _ _ => o = some v
theorem mm_evB_a {mi : Nat} {As : List mm_V} {v : mm_V} (hf : mm_fr m1 m2) (h : mm_qA (mm_evB 40 mi As) (some v) = true) : mm_cq (mm_call mm_ms (mm_tb L xs) 40) mi As m1 m2 (mm_Am v) := mm_evB_q hf h (fun _ _ => rfl)
theorem ml_pair (hf : mm_fr m1 m2) (t u : Int32) : mm_cq (mm_call mm_ms (mm_tb L xs) 40) 176 [mm_R 176, mm_I t, mm_I u] m1 m2 (mm_Am (mm_I (an_pair t u))) := by
  by_cases h : 0 ≤ t.toInt ∧ t.toInt < 4 ∧ 0 ≤ u.toInt ∧ u.toInt < 4
  · have hn : mm_qA (mm_evN 37 4 t u) (some (mm_I (an_pair t u))) = true := by
      obtain ⟨a, b, c, e⟩ := h
      rcases mm_r4 a b with rfl | rfl | rfl | rfl <;> rcases mm_r4 c e with rfl | rfl | rfl | rfl <;> decide +kernel
    exact en_X12_pair (bk_X12_pair_0 (mm_call_m _) (sf_isType hf (fun _ _ => bk_X12_pair_5 (s0 := 1) (mm_call_m _) (fun z => absurd z (by decide)) (fun _ => sf_isType hf (fun _ _ => bk_X12_pair_13 (s0 := 1) (mm_call_m _) (fun z => absurd z (by decide)) (fun _ => sf_numbers hf hn (fun _ _ => bk_X12_pair_23 (mm_call_m _) rfl))) (fun z => absurd h.2.2 z))) (fun z => absurd ⟨h.1, h.2.1⟩ z)))
  · have hz : ∀ n1 n2, mm_Am (mm_I (an_pair t u)) (some (mm_I (-2))) n1 n2 := fun _ _ => by show some _ = some _; rw [an_pair, if_neg h]
    exact en_X12_pair (bk_X12_pair_0 (mm_call_m _) (sf_isType hf (fun a b => bk_X12_pair_5 (s0 := 1) (mm_call_m _) (fun z => absurd z (by decide)) (fun _ => sf_isType hf (fun c e => absurd ⟨a, b, c, e⟩ h) (fun _ => bk_X12_pair_13 (s0 := 0) (mm_call_m _) (fun _ => bk_X12_pair_26 (mm_call_m _) (hz _ _)) (fun z => absurd rfl z)))) (fun _ => bk_X12_pair_5 (s0 := 0) (mm_call_m _) (fun _ => bk_X12_pair_26 (mm_call_m _) (hz _ _)) (fun z => absurd rfl z))))
theorem ml_list (hf : mm_fr m1 m2) (t : Int32) : mm_cq (mm_call mm_ms (mm_tb L xs) 40) 177 [mm_R 176, mm_I t] m1 m2 (mm_Am (mm_I (an_list t))) := by
  by_cases h : 0 ≤ t.toInt ∧ t.toInt < 4
  · have hn : mm_qA (mm_evN 37 5 t (-1)) (some (mm_I (an_list t))) = true := by
      rcases mm_r4 h.1 h.2 with rfl | rfl | rfl | rfl <;> decide +kernel
    exact en_X12_list (bk_X12_list_0 (mm_call_m _) (sf_isType hf (fun _ _ => bk_X12_list_5 (s0 := 1) (mm_call_m _) (fun z => absurd z (by decide)) (fun _ => sf_numbers hf hn (fun _ _ => bk_X12_list_15 (mm_call_m _) rfl))) (fun z => absurd h z)))
  · exact en_X12_list (bk_X12_list_0 (mm_call_m _) (sf_isType hf (fun a b => absurd ⟨a, b⟩ h) (fun _ => bk_X12_list_5 (s0 := 0) (mm_call_m _) (fun _ => by show some _ = some _; rw [an_list, if_neg h]) (fun z => absurd rfl z))))
theorem ml_type (hf : mm_fr m1 m2) (t w : Int32) : mm_cq (mm_call mm_ms (mm_tb L xs) 40) 179 [mm_R 176, mm_I t, mm_I w] m1 m2 (mm_Am (mm_I (an_type t w))) := by
  by_cases h : 0 ≤ t.toInt ∧ t.toInt < 4 ∧ 0 ≤ w.toInt ∧ w.toInt < 6
  · obtain ⟨a, b, c, e⟩ := h
    rcases mm_r4 a b with rfl | rfl | rfl | rfl <;> rcases mm_r6 c e with rfl | rfl | rfl | rfl | rfl | rfl <;> exact mm_evB_a hf (by decide +kernel)
  · have hz : ∀ n1 n2, mm_Am (mm_I (an_type t w)) (some (mm_I (-2))) n1 n2 := fun _ _ => by show some _ = some _; rw [an_type, if_neg h]
    refine en_X12_type (bk_X12_type_0 (mm_call_m _) (sf_isType hf (fun a b => bk_X12_type_5 (s0 := 1) (mm_call_m _) (fun z => absurd z (by decide)) (fun _ => sp_in (fun c e => ?_) (fun _ => bk_X12_type_14 (s0 := 0) (mm_call_m _) (fun _ => bk_X12_type_26 (mm_call_m _) (hz _ _)) (fun z => absurd rfl z)))) (fun _ => bk_X12_type_5 (s0 := 0) (mm_call_m _) (fun _ => bk_X12_type_26 (mm_call_m _) (hz _ _)) (fun z => absurd rfl z))))
    rw [mm_tt0] at c
    rw [mm_tt5] at e
    exact absurd ⟨a, b, c, by omega⟩ h
theorem ml_body (hf : mm_fr m1 m2) (f n : Int32) : mm_cq (mm_call mm_ms (mm_tb L xs) 40) 191 [mm_R 176, mm_I f, mm_I n] m1 m2 (mm_Am (mm_I (-2))) :=
  en_X12_body (bk_X12_body_0 (mm_call_m _) (sf_isFunction hf (bk_X12_body_5 (s0 := 0) (mm_call_m _) (fun _ => bk_X12_body_16 (mm_call_m _) rfl) (fun z => absurd rfl z))))
theorem ml_typeIn (hf : mm_fr m1 m2) (f n : Int32) : mm_cq (mm_call mm_ms (mm_tb L xs) 40) 195 [mm_R 176, mm_I f, mm_I n] m1 m2 (mm_Am (mm_I (-2))) :=
  en_X12_typeIn (bk_X12_typeIn_0 (mm_call_m _) (sf_isFunction hf (bk_X12_typeIn_5 (s0 := 0) (mm_call_m _) (fun _ => bk_X12_typeIn_16 (mm_call_m _) rfl) (fun z => absurd rfl z))))
theorem ml_wrong (hf : mm_fr m1 m2) (f : Int32) : mm_cq (mm_call mm_ms (mm_tb L xs) 40) 197 [mm_R 176, mm_I f] m1 m2 (mm_Am (mm_I (-2))) :=
  en_X12_wrong (bk_X12_wrong_0 (mm_call_m _) (sf_isFunction hf (bk_X12_wrong_5 (s0 := 0) (mm_call_m _) (fun z => absurd rfl z) (fun z => absurd rfl z) (fun z => absurd rfl z) (fun _ => rfl))))
theorem ml_reaches (hf : mm_fr m1 m2) (f g : Int32) : mm_cq (mm_call mm_ms (mm_tb L xs) 40) 199 [mm_R 176, mm_I f, mm_I g] m1 m2 (mm_Am (mm_I (-2))) :=
  en_X12_reaches (bk_X12_reaches_0 (mm_call_m _) (sf_isFunction hf (bk_X12_reaches_5 (s0 := 0) (mm_call_m _) (fun _ => bk_X12_reaches_16 (mm_call_m _) rfl) (fun z => absurd rfl z))))
theorem ml_copy (hf : mm_fr m1 m2) (i w : Int32) : mm_cq (mm_call mm_ms (mm_tb L xs) 40) 210 [mm_R 176, mm_I i, mm_I w] m1 m2 (mm_Am (mm_I (an_copy w))) := by
  refine en_X12_copy (bk_X12_copy_0 (mm_call_m _) (sp_in (fun a b => bk_X12_copy_6 (s0 := 1) (mm_call_m _) (fun _ => mm_evB_q (o := some (mm_I (-3))) hf (by decide +kernel) (fun n1 n2 => bk_X12_copy_16 (s0 := -3) (mm_call_m _) (fun _ => bk_X12_copy_33 (mm_call_m _) ?_) (fun z => absurd (by decide) z))) (fun z => absurd z (by decide))) (fun a => bk_X12_copy_6 (s0 := 0) (mm_call_m _) (fun z => absurd rfl z) (fun _ => ?_))))
  · rw [mm_tt0] at a
    rw [mm_tt5] at b
    show some _ = some _
    rw [an_copy, if_pos ⟨a, by omega⟩]
  · rw [mm_tt0, mm_tt5] at a
    show some _ = some _
    rw [an_copy, if_neg (by omega)]
theorem ml_input (hf : mm_fr m1 m2) (v : Int32) : mm_cq (mm_call mm_ms (mm_tb L xs) 40) 211 [mm_R 176, mm_I v] m1 m2 (mm_Am (mm_I 1)) := by
  have hv : m1 176 41 = 0 := mm_frv hf rfl (by decide +kernel)
  refine en_X12_input (bk_X12_input_0 (mm_call_m _) (fun _ => ?_) (fun _ => ?_) (fun a => ?_))
  · rw [hv]
    exact vp_in_iff.mpr (by decide)
  · show some _ = some _
    rw [hv]
    rfl
  · rw [hv] at a
    exact absurd a (by decide)
theorem ml_result (hf : mm_fr m1 m2) (i : Int32) : mm_cq (mm_call mm_ms (mm_tb L xs) 40) 231 [mm_R 176, mm_I i] m1 m2 (mm_Am (mm_I 0)) := by
  have hv : m1 176 47 = -1 := mm_frv hf rfl (by decide +kernel)
  refine en_X12_result (bk_X12_result_0 (mm_call_m _) (fun _ => bk_X12_result_30 (mm_call_m _) rfl) (fun a => ?_))
  rw [hv] at a
  exact absurd a (by decide)
theorem ml_told (hf : mm_fr m1 m2) (w : Int32) : mm_cq (mm_call mm_ms (mm_tb L xs) 40) 232 [mm_R 176, mm_I w] m1 m2 (mm_Am (mm_I (an_told w))) := by
  have h7 : m1 176 47 = -1 := mm_frv hf rfl (by decide +kernel)
  have h8 : m1 176 48 = 0 := mm_frv hf rfl (by decide +kernel)
  have h9 : m1 176 49 = 0 := mm_frv hf rfl (by decide +kernel)
  have h5 : m1 176 50 = 0 := mm_frv hf rfl (by decide +kernel)
  refine en_X12_told (bk_X12_told_0 (mm_call_m _) (fun a _ => ?_) (fun a b => ?_) (fun a => ?_) (fun a => ?_) (fun a => ?_) (fun a => ?_) (fun a b c e f => ?_))
  · rw [a]; rfl
  · rw [h7] at b
    exact absurd b (by decide)
  · rw [h8, a]; rfl
  · rw [h9, a]; rfl
  · rw [h5, a]; rfl
  · rw [h7, a]; rfl
  · show some _ = some _
    rw [an_told, if_neg (show ¬ (w = 0 ∨ w = 1 ∨ w = 2 ∨ w = 3) from fun q => by rcases q with q | q | q | q; exact a q; exact b q; exact c q; exact e q), if_neg (show ¬ w = 4 from f)]
theorem ml_count (hf : mm_fr m1 m2) (w : Int32) : mm_cq (mm_call mm_ms (mm_tb L xs) 40) 233 [mm_R 176, mm_I w] m1 m2 (mm_Am (mm_I (an_count w))) := by
  have h0 : m1 176 0 = 4 := mm_frv hf rfl (by decide +kernel)
  have h1 : m1 176 13 = 0 := mm_frv hf rfl (by decide +kernel)
  have h2 : m1 176 20 = 0 := mm_frv hf rfl (by decide +kernel)
  have h3 : m1 176 41 = 0 := mm_frv hf rfl (by decide +kernel)
  refine en_X12_count (bk_X12_count_0 (mm_call_m _) (fun a b c e => ?_) (fun _ _ _ a => ?_) (fun _ _ a => ?_) (fun _ a => ?_) (fun a => ?_))
  · show some _ = some _
    rw [an_count, if_neg a, if_neg (fun q => by rcases q with q | q | q; exact b q; exact c q; exact e q)]
  · rw [h3, a]; rfl
  · rw [h2, a]; rfl
  · rw [h1, a]; rfl
  · rw [h0, a]; rfl
theorem ml_empty (hf : mm_fr m1 m2) : mm_cq (mm_call mm_ms (mm_tb L xs) 40) 212 [mm_R 176] m1 m2 (mm_Am (mm_I 0)) := mm_evB_a hf (by decide +kernel)
theorem ml_run (hf : mm_fr m1 m2) : mm_cq (mm_call mm_ms (mm_tb L xs) 40) 229 [mm_R 176] m1 m2 (mm_Am (mm_I (-3))) := mm_evB_a hf (by decide +kernel)
theorem ml_runCopies (hf : mm_fr m1 m2) : mm_cq (mm_call mm_ms (mm_tb L xs) 40) 230 [mm_R 176] m1 m2 (mm_Am (mm_I (-3))) := mm_evB_a hf (by decide +kernel)
theorem ml_judge (hf : mm_fr m1 m2) : mm_cq (mm_call mm_ms (mm_tb L xs) 40) 202 [mm_R 176] m1 m2 (mm_Am (mm_I 1)) := mm_evB_a hf (by decide +kernel)
theorem ml_copies (hf : mm_fr m1 m2) : mm_cq (mm_call mm_ms (mm_tb L xs) 40) 209 [mm_R 176] m1 m2 (mm_Am (mm_I (-3))) := mm_evB_a hf (by decide +kernel)
theorem ml_digest (hf : mm_fr m1 m2) : mm_cq (mm_call mm_ms (mm_tb L xs) 40) 235 [mm_R 176] m1 m2 (mm_Am (mm_L (-8125251031052165125))) := mm_evB_a hf (by decide +kernel)
end MMM
