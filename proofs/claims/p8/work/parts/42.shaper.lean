/-! ===== Shape: the methods that call themselves ===== -/
def fB : Nat → Int
  | 0 => 4
  | 1 => 24
  | 2 => 624
  | 3 => 390624
  | 4 => 152587890624
  | 5 => 24000000000000
  | _ => 9223372036854775808
theorem mm_lsub {x y : Int64} (h1 : -9223372036854775808 ≤ x.toInt - y.toInt) (h2 : x.toInt - y.toInt < 9223372036854775808) : (x - y).toInt = x.toInt - y.toInt := by
  rw [Int64.toInt_sub, Int.bmod_eq_of_le] <;> omega
theorem mm_ladd {x y : Int64} (h1 : -9223372036854775808 ≤ x.toInt + y.toInt) (h2 : x.toInt + y.toInt < 9223372036854775808) : (x + y).toInt = x.toInt + y.toInt := by
  rw [Int64.toInt_add, Int.bmod_eq_of_le] <;> omega
theorem mm_lmul {x y : Int64} (h1 : -9223372036854775808 ≤ x.toInt * y.toInt) (h2 : x.toInt * y.toInt < 9223372036854775808) : (x * y).toInt = x.toInt * y.toInt := by
  rw [Int64.toInt_mul, Int.bmod_eq_of_le] <;> omega
theorem mm_llt (x : Int64) : x.toInt < 9223372036854775808 := Int64.toInt_lt x
theorem mm_lle (x : Int64) : -9223372036854775808 ≤ x.toInt := Int64.le_toInt x
theorem mm_ldiv {x y : Int64} (hx : 0 ≤ x.toInt) (hy : 0 < y.toInt) : (x / y).toInt = x.toInt / y.toInt := by
  have h1 : x.toInt / y.toInt ≤ x.toInt := Int.ediv_le_self _ hx
  have h2 : 0 ≤ x.toInt / y.toInt := Int.ediv_nonneg hx (by omega)
  have h3 := mm_llt x
  rw [Int64.toInt_div, Int.tdiv_eq_ediv_of_nonneg hx, Int.bmod_eq_of_le] <;> omega
theorem f_rb_c (t : Int64) : (t.toInt < 4 ∧ f_rb t = 0) ∨ (4 ≤ t.toInt ∧ t.toInt < 24 ∧ f_rb t = 4) ∨ (24 ≤ t.toInt ∧ t.toInt < 624 ∧ f_rb t = 24) ∨ (624 ≤ t.toInt ∧ t.toInt < 390624 ∧ f_rb t = 624) ∨ (390624 ≤ t.toInt ∧ f_rb t = 390624) := by
  unfold f_rb
  split
  · exact .inl ⟨by assumption, rfl⟩
  · split
    · exact .inr (.inl ⟨by omega, by assumption, rfl⟩)
    · split
      · exact .inr (.inr (.inl ⟨by omega, by assumption, rfl⟩))
      · split
        · exact .inr (.inr (.inr (.inl ⟨by omega, by assumption, rfl⟩)))
        · exact .inr (.inr (.inr (.inr ⟨by omega, rfl⟩)))
/-- the first part, as numbers are -/
theorem f_fs_of {t b : Int64} (hb : f_rb t = b) (h0 : 0 < b.toInt) (h1 : b.toInt ≤ t.toInt) : (b.toInt ≤ t.toInt - b.toInt → (f_fs t).toInt = (t.toInt - b.toInt) / b.toInt - 1) ∧ (t.toInt - b.toInt < b.toInt → (f_fs t).toInt = t.toInt - b.toInt) := by
  have h3 := mm_llt t
  have e : (t - b).toInt = t.toInt - b.toInt := mm_lsub (by omega) (by omega)
  unfold f_fs
  rw [hb, if_pos (by omega), e]
  constructor
  · intro h
    rw [if_pos h]
    have h4 : 0 ≤ (t.toInt - b.toInt) / b.toInt := Int.ediv_nonneg (by omega) (by omega)
    have h5 : (t.toInt - b.toInt) / b.toInt ≤ t.toInt - b.toInt := Int.ediv_le_self _ (by omega)
    rw [mm_lsub, mm_ldiv, e, mm_ll1]
    · omega
    · omega
    · rw [mm_ldiv (by omega) (by omega), e, mm_ll1]
      omega
    · rw [mm_ldiv (by omega) (by omega), e, mm_ll1]
      omega
  · intro h
    rw [if_neg (by omega), e]
theorem f_sc_of {t b : Int64} (hb : f_rb t = b) (h0 : 0 < b.toInt) (h1 : b.toInt ≤ t.toInt) : (b.toInt ≤ t.toInt - b.toInt → (f_sc t).toInt = (t.toInt - b.toInt) % b.toInt) ∧ (t.toInt - b.toInt < b.toInt → (f_sc t).toInt = -1) := by
  have h3 := mm_llt t
  have e : (t - b).toInt = t.toInt - b.toInt := mm_lsub (by omega) (by omega)
  unfold f_sc
  rw [hb, if_neg (by omega), e]
  constructor
  · intro h
    rw [if_pos h]
    have h4 : 0 ≤ (t.toInt - b.toInt) / b.toInt := Int.ediv_nonneg (by omega) (by omega)
    have h6 : ((t - b) / b).toInt = (t.toInt - b.toInt) / b.toInt := by rw [mm_ldiv (by omega) (by omega), e]
    have h7 := Int.mul_ediv_add_emod (t.toInt - b.toInt) b.toInt
    have h8 := Int.emod_nonneg (t.toInt - b.toInt) (show b.toInt ≠ 0 by omega)
    have h9 := Int.emod_lt_of_pos (t.toInt - b.toInt) h0
    have h10 : b.toInt * ((t.toInt - b.toInt) / b.toInt) = (t.toInt - b.toInt) / b.toInt * b.toInt := Int.mul_comm _ _
    have h11 : 0 ≤ (t.toInt - b.toInt) / b.toInt * b.toInt := Int.mul_nonneg h4 (by omega)
    have h12 : ((t - b) / b * b).toInt = (t.toInt - b.toInt) / b.toInt * b.toInt := by
      rw [mm_lmul] <;> rw [h6] <;> omega
    rw [mm_lsub] <;> rw [h12, e] <;> omega
  · intro h
    rw [if_neg (by omega)]
    rfl
theorem f_parts_lt {k : Nat} (hk : k ≤ 5) {t : Int64} (ht : t.toInt < fB (k + 1)) : (f_fs t).toInt < fB k ∧ (f_sc t).toInt < fB k := by
  have h4 : (4 : Int64).toInt = 4 := rfl
  have h24 : (24 : Int64).toInt = 24 := rfl
  have h624 : (624 : Int64).toInt = 624 := rfl
  have h39 : (390624 : Int64).toInt = 390624 := rfl
  have hm : (-1 : Int64).toInt = -1 := rfl
  have hn := mm_llt t
  rcases f_rb_c t with ⟨a, b⟩ | ⟨a, a2, b⟩ | ⟨a, a2, b⟩ | ⟨a, a2, b⟩ | ⟨a, b⟩
  · have e1 : f_fs t = -1 := by
      unfold f_fs
      rw [b, if_neg (by decide)]
    have e2 : f_sc t = -1 := by
      unfold f_sc
      rw [b, if_pos (by decide)]
    rw [e1, e2, hm]
    rcases (show k = 0 ∨ k = 1 ∨ k = 2 ∨ k = 3 ∨ k = 4 ∨ k = 5 by omega) with rfl | rfl | rfl | rfl | rfl | rfl <;> decide
  · obtain ⟨x1, x2⟩ := f_fs_of b (by decide) (by omega)
    obtain ⟨y1, y2⟩ := f_sc_of b (by decide) (by omega)
    rw [h4] at x1 x2 y1 y2
    rcases (show k = 0 ∨ k = 1 ∨ k = 2 ∨ k = 3 ∨ k = 4 ∨ k = 5 by omega) with rfl | rfl | rfl | rfl | rfl | rfl <;> simp only [fB] at ht ⊢ <;> omega
  · obtain ⟨x1, x2⟩ := f_fs_of b (by decide) (by omega)
    obtain ⟨y1, y2⟩ := f_sc_of b (by decide) (by omega)
    rw [h24] at x1 x2 y1 y2
    rcases (show k = 0 ∨ k = 1 ∨ k = 2 ∨ k = 3 ∨ k = 4 ∨ k = 5 by omega) with rfl | rfl | rfl | rfl | rfl | rfl <;> simp only [fB] at ht ⊢ <;> omega
  · obtain ⟨x1, x2⟩ := f_fs_of b (by decide) (by omega)
    obtain ⟨y1, y2⟩ := f_sc_of b (by decide) (by omega)
    rw [h624] at x1 x2 y1 y2
    rcases (show k = 0 ∨ k = 1 ∨ k = 2 ∨ k = 3 ∨ k = 4 ∨ k = 5 by omega) with rfl | rfl | rfl | rfl | rfl | rfl <;> simp only [fB] at ht ⊢ <;> omega
  · obtain ⟨x1, x2⟩ := f_fs_of b (by decide) (by omega)
    obtain ⟨y1, y2⟩ := f_sc_of b (by decide) (by omega)
    rw [h39] at x1 x2 y1 y2
    rcases (show k = 0 ∨ k = 1 ∨ k = 2 ∨ k = 3 ∨ k = 4 ∨ k = 5 by omega) with rfl | rfl | rfl | rfl | rfl | rfl <;> simp only [fB] at ht ⊢ <;> omega
theorem f_kd_lo {t : Int64} (ht : t.toInt < 4) : ¬ f_kd t = 4 ∧ ¬ f_kd t = 5 := by
  by_cases h0 : t.toInt < 0
  · unfold f_kd
    rw [if_pos h0]
    exact ⟨by decide, by decide⟩
  · have h : t = 0 ∨ t = 1 ∨ t = 2 ∨ t = 3 := by
      rcases (show t.toInt = 0 ∨ t.toInt = 1 ∨ t.toInt = 2 ∨ t.toInt = 3 by omega) with h | h | h | h
      · exact .inl (Int64.toInt_inj.mp h)
      · exact .inr (.inl (Int64.toInt_inj.mp h))
      · exact .inr (.inr (.inl (Int64.toInt_inj.mp h)))
      · exact .inr (.inr (.inr (Int64.toInt_inj.mp h)))
    rcases h with rfl | rfl | rfl | rfl <;> exact ⟨by decide, by decide⟩
def f_wl : Nat → Int64 → Int64 → Int64 → Int64
  | 0, t, _, _ => t
  | k + 1, t, a, b => if f_kd t = 2 then a else if f_kd t = 3 then b else if f_kd t = 4 then f_pr (f_wl k (f_fs t) a b) (f_wl k (f_sc t) a b) else if f_kd t = 5 then f_ls (f_wl k (f_fs t) a b) else t
def f_lo : Nat → Int64 → Int32
  | 0, _ => 0
  | k + 1, t => if f_kd t = 2 then 1 else if f_kd t = 3 then 2 else if f_kd t = 4 then f_lo k (f_fs t) ||| f_lo k (f_sc t) else if f_kd t = 5 then f_lo k (f_fs t) else 0
def f_lv : Nat → Int64 → Int32
  | 0, _ => 0
  | k + 1, t => if f_kd t = 4 then f_lv k (f_fs t) + f_lv k (f_sc t) else 1
def f_with (t a b : Int64) : Int64 := f_wl 7 t a b
def f_letters (t : Int64) : Int32 := f_lo 7 t
def f_leaves (t : Int64) : Int32 := f_lv 7 t
def f_width (t : Int64) : Int32 := if (f_dp t).toInt < 1 then -1 else if f_letters t = 0 then f_leaves t else -1
section MMS
variable {L : Nat} {xs : Nat → Int32} {d : Nat} {mi : mm_P} {ml : mm_G}
theorem sp_wl (a b : Int64) : ∀ (k : Nat) (_ : k ≤ 6) (t : Int64) (_ : t.toInt < fB k) {Q : mm_QQ} (_ : Q (some (mm_L (f_wl (k + 1) t a b))) mi ml), mm_cq (mm_call mm_ms (mm_tb L xs) (d + k + 3)) 136 [mm_L t, mm_L a, mm_L b] mi ml Q
  | 0, _, t, ht, Q, h => by
    obtain ⟨n4, n5⟩ := f_kd_lo ht
    refine en_X10_withLetters (bk_X10_withLetters_0 (mm_call_m _) (sp_X10_kindOf (bk_X10_withLetters_4 (s0 := f_kd t) (mm_call_m _) (fun c => ?_) (fun c => ?_) (fun c => absurd c n4) (fun c => absurd c n5) (fun c2 c3 c4 c5 => ?_))))
    · have c' : f_kd t = 2 := c
      unfold f_wl at h
      rw [if_pos c'] at h
      exact h
    · have c' : f_kd t = 3 := c
      unfold f_wl at h
      rw [if_neg (by rw [c']; decide), if_pos c'] at h
      exact h
    · unfold f_wl at h
      rw [if_neg (show ¬ f_kd t = 2 from c2), if_neg (show ¬ f_kd t = 3 from c3), if_neg (show ¬ f_kd t = 4 from c4), if_neg (show ¬ f_kd t = 5 from c5)] at h
      exact h
  | k + 1, hk, t, ht, Q, h => by
    obtain ⟨hf, hs⟩ := f_parts_lt (by omega) ht
    refine en_X10_withLetters (bk_X10_withLetters_0 (mm_call_m _) (sp_X10_kindOf (bk_X10_withLetters_4 (s0 := f_kd t) (mm_call_m _) (fun c => ?_) (fun c => ?_) (fun c => ?_) (fun c => ?_) (fun c2 c3 c4 c5 => ?_))))
    · have c' : f_kd t = 2 := c
      unfold f_wl at h
      rw [if_pos c'] at h
      exact h
    · have c' : f_kd t = 3 := c
      unfold f_wl at h
      rw [if_neg (by rw [c']; decide), if_pos c'] at h
      exact h
    · have c' : f_kd t = 4 := c
      unfold f_wl at h
      rw [if_neg (by rw [c']; decide), if_neg (by rw [c']; decide), if_pos c'] at h
      exact sp_X10_firstOf (bk_X10_withLetters_59 (mm_call_m _) (sp_wl a b k (by omega) _ hf (bk_X10_withLetters_65 (mm_call_m _) (sp_X10_secondOf (bk_X10_withLetters_69 (mm_call_m _) (sp_wl a b k (by omega) _ hs (bk_X10_withLetters_75 (mm_call_m _) (sp_X10_pairOf (bk_X10_withLetters_78 (mm_call_m _) h)))))))))
    · have c' : f_kd t = 5 := c
      unfold f_wl at h
      rw [if_neg (by rw [c']; decide), if_neg (by rw [c']; decide), if_neg (by rw [c']; decide), if_pos c'] at h
      exact sp_X10_firstOf (bk_X10_withLetters_45 (mm_call_m _) (sp_wl a b k (by omega) _ hf (bk_X10_withLetters_51 (mm_call_m _) (sp_X10_listOf (bk_X10_withLetters_54 (mm_call_m _) h)))))
    · unfold f_wl at h
      rw [if_neg (show ¬ f_kd t = 2 from c2), if_neg (show ¬ f_kd t = 3 from c3), if_neg (show ¬ f_kd t = 4 from c4), if_neg (show ¬ f_kd t = 5 from c5)] at h
      exact h
theorem sp_X10_withLetters {t a b : Int64} {Q : mm_QQ} (h : Q (some (mm_L (f_with t a b))) mi ml) : mm_cq (mm_call mm_ms (mm_tb L xs) (d + 9)) 136 [mm_L t, mm_L a, mm_L b] mi ml Q := sp_wl (d := d) a b 6 (by omega) t (mm_llt t) h
theorem sp_lo : ∀ (k : Nat) (_ : k ≤ 6) (t : Int64) (_ : t.toInt < fB k) {Q : mm_QQ} (_ : Q (some (mm_I (f_lo (k + 1) t))) mi ml), mm_cq (mm_call mm_ms (mm_tb L xs) (d + k + 3)) 137 [mm_L t] mi ml Q
  | 0, _, t, ht, Q, h => by
    obtain ⟨n4, n5⟩ := f_kd_lo ht
    refine en_X10_lettersOf (bk_X10_lettersOf_0 (mm_call_m _) (sp_X10_kindOf (bk_X10_lettersOf_4 (s0 := f_kd t) (mm_call_m _) (fun c => ?_) (fun c => ?_) (fun c => absurd c n4) (fun c => absurd c n5) (fun c2 c3 c4 c5 => ?_))))
    · have c' : f_kd t = 2 := c
      unfold f_lo at h
      rw [if_pos c'] at h
      exact h
    · have c' : f_kd t = 3 := c
      unfold f_lo at h
      rw [if_neg (by rw [c']; decide), if_pos c'] at h
      exact h
    · unfold f_lo at h
      rw [if_neg (show ¬ f_kd t = 2 from c2), if_neg (show ¬ f_kd t = 3 from c3), if_neg (show ¬ f_kd t = 4 from c4), if_neg (show ¬ f_kd t = 5 from c5)] at h
      exact h
  | k + 1, hk, t, ht, Q, h => by
    obtain ⟨hf, hs⟩ := f_parts_lt (by omega) ht
    refine en_X10_lettersOf (bk_X10_lettersOf_0 (mm_call_m _) (sp_X10_kindOf (bk_X10_lettersOf_4 (s0 := f_kd t) (mm_call_m _) (fun c => ?_) (fun c => ?_) (fun c => ?_) (fun c => ?_) (fun c2 c3 c4 c5 => ?_))))
    · have c' : f_kd t = 2 := c
      unfold f_lo at h
      rw [if_pos c'] at h
      exact h
    · have c' : f_kd t = 3 := c
      unfold f_lo at h
      rw [if_neg (by rw [c']; decide), if_pos c'] at h
      exact h
    · have c' : f_kd t = 4 := c
      unfold f_lo at h
      rw [if_neg (by rw [c']; decide), if_neg (by rw [c']; decide), if_pos c'] at h
      exact sp_X10_firstOf (bk_X10_lettersOf_52 (mm_call_m _) (sp_lo k (by omega) _ hf (bk_X10_lettersOf_55 (mm_call_m _) (sp_X10_secondOf (bk_X10_lettersOf_59 (mm_call_m _) (sp_lo k (by omega) _ hs (bk_X10_lettersOf_62 (mm_call_m _) h)))))))
    · have c' : f_kd t = 5 := c
      unfold f_lo at h
      rw [if_neg (by rw [c']; decide), if_neg (by rw [c']; decide), if_neg (by rw [c']; decide), if_pos c'] at h
      exact sp_X10_firstOf (bk_X10_lettersOf_44 (mm_call_m _) (sp_lo k (by omega) _ hf (bk_X10_lettersOf_47 (mm_call_m _) h)))
    · unfold f_lo at h
      rw [if_neg (show ¬ f_kd t = 2 from c2), if_neg (show ¬ f_kd t = 3 from c3), if_neg (show ¬ f_kd t = 4 from c4), if_neg (show ¬ f_kd t = 5 from c5)] at h
      exact h
theorem sp_X10_lettersOf {t : Int64} {Q : mm_QQ} (h : Q (some (mm_I (f_letters t))) mi ml) : mm_cq (mm_call mm_ms (mm_tb L xs) (d + 9)) 137 [mm_L t] mi ml Q := sp_lo (d := d) 6 (by omega) t (mm_llt t) h
theorem sp_lv : ∀ (k : Nat) (_ : k ≤ 6) (t : Int64) (_ : t.toInt < fB k) {Q : mm_QQ} (_ : Q (some (mm_I (f_lv (k + 1) t))) mi ml), mm_cq (mm_call mm_ms (mm_tb L xs) (d + k + 3)) 139 [mm_L t] mi ml Q
  | 0, _, t, ht, Q, h => by
    obtain ⟨n4, n5⟩ := f_kd_lo ht
    refine en_X10_leavesOf (bk_X10_leavesOf_0 (mm_call_m _) (sp_X10_kindOf (bk_X10_leavesOf_4 (s0 := f_kd t) (mm_call_m _) (fun c => ?_) (fun c => absurd c n4))))
    unfold f_lv at h
    rw [if_neg c] at h
    exact h
  | k + 1, hk, t, ht, Q, h => by
    obtain ⟨hf, hs⟩ := f_parts_lt (by omega) ht
    refine en_X10_leavesOf (bk_X10_leavesOf_0 (mm_call_m _) (sp_X10_kindOf (bk_X10_leavesOf_4 (s0 := f_kd t) (mm_call_m _) (fun c => ?_) (fun c => ?_))))
    · unfold f_lv at h
      rw [if_neg c] at h
      exact h
    · unfold f_lv at h
      rw [if_pos c] at h
      exact sp_X10_firstOf (bk_X10_leavesOf_12 (mm_call_m _) (sp_lv k (by omega) _ hf (bk_X10_leavesOf_15 (mm_call_m _) (sp_X10_secondOf (bk_X10_leavesOf_19 (mm_call_m _) (sp_lv k (by omega) _ hs (bk_X10_leavesOf_22 (mm_call_m _) h)))))))
theorem sp_X10_leavesOf {t : Int64} {Q : mm_QQ} (h : Q (some (mm_I (f_leaves t))) mi ml) : mm_cq (mm_call mm_ms (mm_tb L xs) (d + 9)) 139 [mm_L t] mi ml Q := sp_lv (d := d) 6 (by omega) t (mm_llt t) h
theorem sp_X10_widthOf {t : Int64} {Q : mm_QQ} (h : Q (some (mm_I (f_width t))) mi ml) : mm_cq (mm_call mm_ms (mm_tb L xs) (d + 10)) 138 [mm_L t] mi ml Q := by
  refine en_X10_widthOf (bk_X10_widthOf_0 (mm_call_m _) (sp_X10_depthOf (bk_X10_widthOf_4 (s0 := f_dp t) (mm_call_m _) (fun c => ?_) (fun c => sp_X10_lettersOf (bk_X10_widthOf_12 (s0 := f_letters t) (mm_call_m _) (fun e => sp_X10_leavesOf (bk_X10_widthOf_23 (mm_call_m _) ?_)) (fun e => ?_))))))
  · rw [Int32.lt_iff_toInt_lt, mm_tt1] at c
    unfold f_width at h
    rw [if_pos c] at h
    exact bk_X10_widthOf_15 (mm_call_m _) (bk_X10_widthOf_23 (mm_call_m _) h)
  · rw [Int32.lt_iff_toInt_lt, mm_tt1] at c
    unfold f_width at h
    rw [if_neg c, if_pos e] at h
    exact h
  · rw [Int32.lt_iff_toInt_lt, mm_tt1] at c
    unfold f_width at h
    rw [if_neg c, if_neg e] at h
    exact bk_X10_widthOf_15 (mm_call_m _) (bk_X10_widthOf_23 (mm_call_m _) h)
end MMS
