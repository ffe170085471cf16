/-! ===== fresh objects: the class's answers ===== -/
def an_pair (t u : Int32) : Int32 := if 0 ≤ t.toInt ∧ t.toInt < 4 ∧ 0 ≤ u.toInt ∧ u.toInt < 4 then 4 else -2
def an_list (t : Int32) : Int32 := if 0 ≤ t.toInt ∧ t.toInt < 4 then 4 else -2
def an_type (t w : Int32) : Int32 := if 0 ≤ t.toInt ∧ t.toInt < 4 ∧ 0 ≤ w.toInt ∧ w.toInt < 6 then (if w = 0 then t else if w = 1 ∨ w = 2 then -1 else if w = 3 then 1 else if w = 4 then (if t.toInt < 2 then 1 else -1) else if t.toInt < 2 then 0 else t - 1) else -2
def an_nodeB (k a : Int32) : Prop := k = 0 ∨ k = 2 ∨ (k = 1 ∧ (a = 0 ∨ a = 1)) ∨ (k = 9 ∧ 0 ≤ a.toInt ∧ a.toInt < 4)
def an_okB (l t : Int32) : Prop := t.toInt < 2 ∨ (t = 2 ∧ 1 ≤ l.toInt) ∨ (t = 3 ∧ 2 ≤ l.toInt)
def an_funB (l a r : Int32) : Prop := 0 ≤ l.toInt ∧ l.toInt < 3 ∧ 0 ≤ a.toInt ∧ a.toInt < 4 ∧ 0 ≤ r.toInt ∧ r.toInt < 4
def an_fun (l a r : Int32) : Int32 := if (0 ≤ l.toInt ∧ l.toInt < 3 ∧ 0 ≤ a.toInt ∧ a.toInt < 4 ∧ 0 ≤ r.toInt ∧ r.toInt < 4) ∧ (a.toInt < 2 ∨ (a = 2 ∧ 1 ≤ l.toInt) ∨ (a = 3 ∧ 2 ≤ l.toInt)) ∧ (r.toInt < 2 ∨ (r = 2 ∧ 1 ≤ l.toInt) ∨ (r = 3 ∧ 2 ≤ l.toInt)) then 0 else -2
def an_copy (w : Int32) : Int32 := if 0 ≤ w.toInt ∧ w.toInt < 6 then -1 else -2
def an_told (w : Int32) : Int32 := if w = 0 ∨ w = 1 ∨ w = 2 ∨ w = 3 then 0 else if w = 4 then -1 else -2
def an_count (w : Int32) : Int32 := if w = 0 then 4 else if w = 1 ∨ w = 2 ∨ w = 3 then 0 else -2
theorem mm_r3 {x : Int32} (h0 : 0 ≤ x.toInt) (h1 : x.toInt < 3) : x = 0 ∨ x = 1 ∨ x = 2 := by
  rcases (show x.toInt = 0 ∨ x.toInt = 1 ∨ x.toInt = 2 by omega) with h | h | h
  · exact .inl (Int32.toInt_inj.mp h)
  · exact .inr (.inl (Int32.toInt_inj.mp h))
  · exact .inr (.inr (Int32.toInt_inj.mp h))
theorem mm_r6 {x : Int32} (h0 : 0 ≤ x.toInt) (h1 : x.toInt < 6) : x = 0 ∨ x = 1 ∨ x = 2 ∨ x = 3 ∨ x = 4 ∨ x = 5 := by
  rcases (show x.toInt = 0 ∨ x.toInt = 1 ∨ x.toInt = 2 ∨ x.toInt = 3 ∨ x.toInt = 4 ∨ x.toInt = 5 by omega) with h | h | h | h | h | h
  · exact .inl (Int32.toInt_inj.mp h)
  · exact .inr (.inl (Int32.toInt_inj.mp h))
  · exact .inr (.inr (.inl (Int32.toInt_inj.mp h)))
  · exact .inr (.inr (.inr (.inl (Int32.toInt_inj.mp h))))
  · exact .inr (.inr (.inr (.inr (.inl (Int32.toInt_inj.mp h)))))
  · exact .inr (.inr (.inr (.inr (.inr (Int32.toInt_inj.mp h)))))
theorem mm_v11 : mm_i0 1 1 = 4 := by decide +kernel
theorem mm_v97 : mm_i0 9 7 = 0 := by decide +kernel
theorem mm_v35 : mm_i0 3 5 = 0 := by decide +kernel
section MMC
variable {L : Nat} {xs : Nat → Int32} {d : Nat} {Q : mm_QQ}
theorem sf_X8_has {n : Int32} (h1 : 0 ≤ n.toInt → n.toInt < 4 → Q (some (mm_I 1)) mm_i0 mm_l0) (h0 : ¬ (0 ≤ n.toInt ∧ n.toInt < 4) → Q (some (mm_I 0)) mm_i0 mm_l0) : mm_cq (mm_call mm_ms (mm_tb L xs) (d + 1)) 111 [mm_R 1, mm_I n] mm_i0 mm_l0 Q := by
  refine sp_X8_has (fun a b c => h1 a ?_) (fun a => h0 ?_) <;> simp only [mm_v11, mm_tt4] at * <;> omega
theorem sf_X2_has {n : Int32} {n1 : mm_P} {n2 : mm_G} (hv : n1 9 7 = 0) (h0 : Q (some (mm_I 0)) n1 n2) : mm_cq (mm_call mm_ms (mm_tb L xs) (d + 1)) 24 [mm_R 9, mm_I n] n1 n2 Q := by
  refine sp_X2_has (fun a b c => ?_) (fun a => h0)
  rw [hv, mm_tt0] at b
  omega
theorem sf_X7_has {n : Int32} {n1 : mm_P} {n2 : mm_G} (hv : n1 3 5 = 0) (h0 : Q (some (mm_I 0)) n1 n2) : mm_cq (mm_call mm_ms (mm_tb L xs) (d + 1)) 92 [mm_R 3, mm_I n] n1 n2 Q := by
  refine sp_X7_has (fun a b c => ?_) (fun a => h0)
  rw [hv, mm_tt0] at b
  omega
/-- what a call of the class leaves here: its answer, the model's cells as they were -/
def mm_An (v : mm_V) : mm_QQ := fun o n1 n2 => o = some v ∧ mm_fr n1 n2
theorem mm_evA_a {mi : Nat} {As : List mm_V} {v : mm_V} (h : mm_qA (mm_evA 40 mi As) (some v) = true) : mm_cq (mm_call mm_ms (mm_tb L xs) 40) mi As mm_i0 mm_l0 (mm_An v) := mm_evA_q h (fun _ _ f => ⟨rfl, f⟩)
theorem cl_pair (t u : Int32) : mm_cq (mm_call mm_ms (mm_tb L xs) 40) 141 [mm_R 0, mm_I t, mm_I u] mm_i0 mm_l0 (mm_An (mm_I (an_pair t u))) := by
  by_cases h : 0 ≤ t.toInt ∧ t.toInt < 4 ∧ 0 ≤ u.toInt ∧ u.toInt < 4
  · obtain ⟨a, b, c, e⟩ := h
    rcases mm_r4 a b with rfl | rfl | rfl | rfl <;> rcases mm_r4 c e with rfl | rfl | rfl | rfl <;> exact mm_evA_a (by decide +kernel)
  · have hz : mm_An (mm_I (an_pair t u)) (some (mm_I (-2))) mm_i0 mm_l0 := ⟨by rw [an_pair, if_neg h], mm_fr0⟩
    refine en_X11_pair (bk_X11_pair_0 (mm_call_m _) (sf_X8_has (fun a b => bk_X11_pair_8 (s0 := 1) (mm_call_m _) (fun z => absurd z (by decide)) (fun _ => sf_X8_has (fun c e => absurd ⟨a, b, c, e⟩ h) (fun _ => bk_X11_pair_19 (s0 := 0) (mm_call_m _) (fun z => absurd rfl z) (fun _ => bk_X11_pair_22 (mm_call_m _) hz)))) (fun _ => bk_X11_pair_8 (s0 := 0) (mm_call_m _) (fun _ => bk_X11_pair_22 (mm_call_m _) hz) (fun z => absurd rfl z))))
theorem cl_list (t : Int32) : mm_cq (mm_call mm_ms (mm_tb L xs) 40) 142 [mm_R 0, mm_I t] mm_i0 mm_l0 (mm_An (mm_I (an_list t))) := by
  by_cases h : 0 ≤ t.toInt ∧ t.toInt < 4
  · rcases mm_r4 h.1 h.2 with rfl | rfl | rfl | rfl <;> exact mm_evA_a (by decide +kernel)
  · have hz : mm_An (mm_I (an_list t)) (some (mm_I (-2))) mm_i0 mm_l0 := ⟨by rw [an_list, if_neg h], mm_fr0⟩
    exact en_X11_list (bk_X11_list_0 (mm_call_m _) (sf_X8_has (fun a b => absurd ⟨a, b⟩ h) (fun _ => bk_X11_list_8 (s0 := 0) (mm_call_m _) (fun z => absurd rfl z) (fun _ => hz))))
theorem mm_n6 {w : Int32} (h : ¬ (0 ≤ w.toInt ∧ w.toInt < 6)) : ¬ w = nI 0 ∧ ¬ w = nI 1 ∧ ¬ w = nI 2 ∧ ¬ w = nI 3 ∧ ¬ w = nI 4 ∧ ¬ w = nI 5 := by
  refine ⟨?_, ?_, ?_, ?_, ?_, ?_⟩ <;> (rintro rfl; exact h (by decide))
theorem cl_type (t w : Int32) : mm_cq (mm_call mm_ms (mm_tb L xs) 40) 143 [mm_R 0, mm_I t, mm_I w] mm_i0 mm_l0 (mm_An (mm_I (an_type t w))) := by
  by_cases h : 0 ≤ t.toInt ∧ t.toInt < 4
  · by_cases hw : 0 ≤ w.toInt ∧ w.toInt < 6
    · rcases mm_r4 h.1 h.2 with rfl | rfl | rfl | rfl <;> rcases mm_r6 hw.1 hw.2 with rfl | rfl | rfl | rfl | rfl | rfl <;> exact mm_evA_a (by decide +kernel)
    · have hz : ∀ n1 n2, mm_fr n1 n2 → mm_An (mm_I (an_type t w)) (some (mm_I (-2))) n1 n2 := fun _ _ f => ⟨by rw [an_type, if_neg (fun q => hw q.2.2)], f⟩
      obtain ⟨w0, w1, w2, w3, w4, w5⟩ := mm_n6 hw
      refine en_X11_type (bk_X11_type_0 (mm_call_m _) (sf_X8_has (fun _ _ => bk_X11_type_8 (s0 := 1) (mm_call_m _) (fun _ => ?_) (fun z => absurd z (by decide))) (fun z => absurd h z)))
      have hs : ∃ s : Int64, mm_qA (mm_evA 38 112 [mm_R 1, mm_I t]) (some (mm_L s)) = true := by
        rcases mm_r4 h.1 h.2 with rfl | rfl | rfl | rfl
        · exact ⟨0, by decide +kernel⟩
        · exact ⟨1, by decide +kernel⟩
        · exact ⟨2, by decide +kernel⟩
        · exact ⟨3, by decide +kernel⟩
      obtain ⟨s, hs⟩ := hs
      exact en_X8_factOf (bk_X8_factOf_0 (mm_call_m _) (mm_evA_q hs (fun n1 n2 f => bk_X8_factOf_5 (s0 := s) (mm_call_m _) (fun z => absurd z w0) (fun z => absurd z w1) (fun z => absurd z w2) (fun z => absurd z w3) (fun z => absurd z w4) (fun z => absurd z w5) (fun _ _ _ _ _ _ => bk_X11_type_23 (s0 := -2) (mm_call_m _) (hz _ _ f)))))
  · have hz : mm_An (mm_I (an_type t w)) (some (mm_I (-2))) mm_i0 mm_l0 := ⟨by rw [an_type, if_neg (fun q => h ⟨q.1, q.2.1⟩)], mm_fr0⟩
    exact en_X11_type (bk_X11_type_0 (mm_call_m _) (sf_X8_has (fun a b => absurd ⟨a, b⟩ h) (fun _ => bk_X11_type_8 (s0 := 0) (mm_call_m _) (fun z => absurd rfl z) (fun _ => hz))))
theorem cl_body (f n : Int32) : mm_cq (mm_call mm_ms (mm_tb L xs) 40) 148 [mm_R 0, mm_I f, mm_I n] mm_i0 mm_l0 (mm_An (mm_I (-2))) :=
  en_X11_body (bk_X11_body_0 (mm_call_m _) (sf_X2_has mm_v97 (bk_X11_body_8 (s0 := 0) (mm_call_m _) (fun _ => bk_X11_body_22 (mm_call_m _) ⟨rfl, mm_fr0⟩) (fun z => absurd rfl z))))
theorem cl_typeIn (f n : Int32) : mm_cq (mm_call mm_ms (mm_tb L xs) 40) 150 [mm_R 0, mm_I f, mm_I n] mm_i0 mm_l0 (mm_An (mm_I (-2))) :=
  en_X11_typeIn (bk_X11_typeIn_0 (mm_call_m _) (sf_X2_has mm_v97 (bk_X11_typeIn_8 (s0 := 0) (mm_call_m _) (fun _ => bk_X11_typeIn_22 (mm_call_m _) ⟨rfl, mm_fr0⟩) (fun z => absurd rfl z))))
theorem cl_wrong (f : Int32) : mm_cq (mm_call mm_ms (mm_tb L xs) 40) 151 [mm_R 0, mm_I f] mm_i0 mm_l0 (mm_An (mm_I (-2))) :=
  en_X11_wrong (bk_X11_wrong_0 (mm_call_m _) (sf_X2_has mm_v97 (bk_X11_wrong_8 (s0 := 0) (mm_call_m _) (fun z => absurd rfl z) (fun _ => ⟨rfl, mm_fr0⟩))))
theorem cl_reaches (f g : Int32) : mm_cq (mm_call mm_ms (mm_tb L xs) 40) 152 [mm_R 0, mm_I f, mm_I g] mm_i0 mm_l0 (mm_An (mm_I (-2))) :=
  en_X11_reaches (bk_X11_reaches_0 (mm_call_m _) (sf_X2_has mm_v97 (bk_X11_reaches_8 (s0 := 0) (mm_call_m _) (fun _ => bk_X11_reaches_22 (mm_call_m _) ⟨rfl, mm_fr0⟩) (fun z => absurd rfl z))))
theorem cl_copy (i w : Int32) : mm_cq (mm_call mm_ms (mm_tb L xs) 40) 155 [mm_R 0, mm_I i, mm_I w] mm_i0 mm_l0 (mm_An (mm_I (an_copy w))) := by
  have hv : mm_i0 0 10 = -3 := by decide +kernel
  have hz : ¬ (0 ≤ w.toInt ∧ w.toInt < 6) → mm_An (mm_I (an_copy w)) (some (mm_I (-2))) mm_i0 mm_l0 := fun h => ⟨by rw [an_copy, if_neg h], mm_fr0⟩
  have ho : (0 ≤ w.toInt ∧ w.toInt < 6) → mm_An (mm_I (an_copy w)) (some (mm_I (-1))) mm_i0 mm_l0 := fun h => ⟨by rw [an_copy, if_pos h], mm_fr0⟩
  refine en_X11_copy (bk_X11_copy_0 (mm_call_m _) (fun a => bk_X11_copy_9 (mm_call_m _) (hz ?_)) (fun a b c => bk_X11_copy_24 (mm_call_m _) (ho ?_)) (fun a b c e => ?_) (fun a b c e => bk_X11_copy_24 (mm_call_m _) (ho ?_)) (fun a b => bk_X11_copy_9 (mm_call_m _) (hz ?_)))
  · simp only [Int32.lt_iff_toInt_lt, mm_tt0] at a
    omega
  · simp only [Int32.lt_iff_toInt_lt, Int32.le_iff_toInt_le, mm_tt0, mm_tt5] at a b
    omega
  · exfalso
    rw [hv] at e
    simp only [Int32.lt_iff_toInt_lt, mm_tt0] at c e
    have : (-3 : Int32).toInt = -3 := rfl
    omega
  · simp only [Int32.lt_iff_toInt_lt, Int32.le_iff_toInt_le, mm_tt0, mm_tt5] at a b
    omega
  · simp only [Int32.lt_iff_toInt_lt, Int32.le_iff_toInt_le, mm_tt0, mm_tt5] at a b
    omega
theorem cl_input (v : Int32) : mm_cq (mm_call mm_ms (mm_tb L xs) 40) 156 [mm_R 0, mm_I v] mm_i0 mm_l0 (mm_An (mm_I 1)) := by
  have hv : mm_i0 160 1 = 0 := by decide +kernel
  refine en_X11_input (bk_X11_input_0 (mm_call_m _) (en_X3_add (bk_X3_add_0 (mm_call_m _) (fun _ => ?_) (fun _ => bk_X11_input_8 (s0 := mm_i0 160 1 + 1) (mm_call_m _) ⟨?_, mm_fr_u (mm_fr_u mm_fr0 (by decide)) (by decide)⟩) (fun a => ?_))))
  · rw [hv]
    exact vp_in_nI (n := 0) (by decide) (by decide)
  · rw [hv]
    rfl
  · rw [hv] at a
    exact absurd (by decide) a
theorem cl_result (i : Int32) : mm_cq (mm_call mm_ms (mm_tb L xs) 40) 160 [mm_R 0, mm_I i] mm_i0 mm_l0 (mm_An (mm_I 0)) := by
  have hv : mm_i0 162 1 = 0 := by decide +kernel
  have hz : mm_An (mm_I 0) (some (mm_I 0)) mm_i0 mm_l0 := ⟨rfl, mm_fr0⟩
  refine en_X11_result (bk_X11_result_0 (mm_call_m _) (en_X9_entry (bk_X9_entry_0 (mm_call_m _) (fun _ => bk_X9_entry_27 (mm_call_m _) (bk_X11_result_8 (s0 := 0) (mm_call_m _) hz)) (fun _ _ => bk_X9_entry_27 (mm_call_m _) (bk_X11_result_8 (s0 := 0) (mm_call_m _) hz)) (fun _ _ _ => bk_X9_entry_27 (mm_call_m _) (bk_X11_result_8 (s0 := 0) (mm_call_m _) hz)) (fun a b _ => ?_) (fun a b _ => ?_))))
  all_goals
    exfalso
    rw [hv] at b
    simp only [Int32.lt_iff_toInt_lt, Int32.le_iff_toInt_le, mm_tt0] at a b
    omega
theorem cl_told (w : Int32) : mm_cq (mm_call mm_ms (mm_tb L xs) 40) 161 [mm_R 0, mm_I w] mm_i0 mm_l0 (mm_An (mm_I (an_told w))) := by
  have h1 : mm_i0 162 1 = 0 := by decide +kernel
  have h2 : mm_i0 162 2 = 0 := by decide +kernel
  have h3 : mm_i0 162 3 = 0 := by decide +kernel
  have h4 : mm_i0 162 4 = 0 := by decide +kernel
  have h5 : mm_i0 162 5 = -1 := by decide +kernel
  refine en_X11_told (bk_X11_told_0 (mm_call_m _) (sp_X9_factOf ⟨fun a => ?_, fun a => ?_, fun a => ?_, fun a => ?_, fun a => ?_, fun a => ?_⟩))
  · exact bk_X11_told_8 (s0 := mm_i0 162 1) (mm_call_m _) ⟨by rw [h1, a]; rfl, mm_fr0⟩
  · exact bk_X11_told_8 (s0 := mm_i0 162 2) (mm_call_m _) ⟨by rw [h2, a]; rfl, mm_fr0⟩
  · exact bk_X11_told_8 (s0 := mm_i0 162 3) (mm_call_m _) ⟨by rw [h3, a]; rfl, mm_fr0⟩
  · exact bk_X11_told_8 (s0 := mm_i0 162 4) (mm_call_m _) ⟨by rw [h4, a]; rfl, mm_fr0⟩
  · exact bk_X11_told_8 (s0 := mm_i0 162 5) (mm_call_m _) ⟨by rw [h5, a]; rfl, mm_fr0⟩
  · refine bk_X11_told_8 (s0 := -2) (mm_call_m _) ⟨?_, mm_fr0⟩
    rw [an_told, if_neg (fun q => a (by rcases q with q | q | q | q; exact .inl q; exact .inr (.inl q); exact .inr (.inr (.inl q)); exact .inr (.inr (.inr (.inl q))))), if_neg (show ¬ w = 4 from fun q => a (.inr (.inr (.inr (.inr q)))))]
theorem cl_count (w : Int32) : mm_cq (mm_call mm_ms (mm_tb L xs) 40) 162 [mm_R 0, mm_I w] mm_i0 mm_l0 (mm_An (mm_I (an_count w))) := by
  refine en_X11_count (bk_X11_count_0 (mm_call_m _) (fun a => ?_) (fun a => ?_) (fun a => ?_) (fun a => ?_) (fun a b c e => ?_))
  · exact mm_evA_q (o := some (mm_I 4)) (by decide +kernel) (fun _ _ f => bk_X11_count_39 (s0 := 4) (mm_call_m _) ⟨by rw [a]; rfl, f⟩)
  · exact mm_evA_q (o := some (mm_I 0)) (by decide +kernel) (fun _ _ f => bk_X11_count_47 (s0 := 0) (mm_call_m _) ⟨by rw [a]; rfl, f⟩)
  · exact mm_evA_q (o := some (mm_I 0)) (by decide +kernel) (fun _ _ f => bk_X11_count_55 (s0 := 0) (mm_call_m _) ⟨by rw [a]; rfl, f⟩)
  · exact mm_evA_q (o := some (mm_I 0)) (by decide +kernel) (fun _ _ f => bk_X11_count_63 (s0 := 0) (mm_call_m _) ⟨by rw [a]; rfl, f⟩)
  · exact ⟨by rw [an_count, if_neg (show ¬ w = 0 from a), if_neg (fun q => by rcases q with q | q | q; exact b q; exact c q; exact e q)], mm_fr0⟩
theorem cl_empty : mm_cq (mm_call mm_ms (mm_tb L xs) 40) 157 [mm_R 0] mm_i0 mm_l0 (mm_An (mm_I 0)) := mm_evA_a (by decide +kernel)
theorem cl_run : mm_cq (mm_call mm_ms (mm_tb L xs) 40) 158 [mm_R 0] mm_i0 mm_l0 (mm_An (mm_I (-3))) := mm_evA_a (by decide +kernel)
theorem cl_runCopies : mm_cq (mm_call mm_ms (mm_tb L xs) 40) 159 [mm_R 0] mm_i0 mm_l0 (mm_An (mm_I (-3))) := mm_evA_a (by decide +kernel)
theorem cl_judge : mm_cq (mm_call mm_ms (mm_tb L xs) 40) 153 [mm_R 0] mm_i0 mm_l0 (mm_An (mm_I 1)) := mm_evA_a (by decide +kernel)
theorem cl_copies : mm_cq (mm_call mm_ms (mm_tb L xs) 40) 154 [mm_R 0] mm_i0 mm_l0 (mm_An (mm_I (-3))) := mm_evA_a (by decide +kernel)
theorem cl_digest : mm_cq (mm_call mm_ms (mm_tb L xs) 40) 163 [mm_R 0] mm_i0 mm_l0 (mm_An (mm_L (-8125251031052165125))) := mm_evA_a (by decide +kernel)
end MMC
