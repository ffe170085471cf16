/-! ===== the numbered types of both ===== -/
/-- type t of the class is type t of the model -/
def SHT (NB : Nat) (m : mm_P) (ml : mm_G) (t : Nat) : Prop := (bs m t ∧ (ml 2 t).toInt = (m 177 t).toInt) ∨ (∃ a, a < t ∧ a < NB ∧ en5 m m t a ∧ ml 2 t = f_ls (ml 2 a)) ∨ (∃ a b, a < t ∧ a < NB ∧ b < t ∧ b < NB ∧ en4 m m t a b ∧ ml 2 t = f_pr (ml 2 a) (ml 2 b))
def TC (NB : Nat) (m : mm_P) (ml : mm_G) : Prop := m 1 1 = nI NB ∧ (∀ t, t < NB → SHT NB m ml t) ∧ ∀ t u, t < NB → u < NB → ml 2 t = ml 2 u → t = u
theorem bs_k {m : mm_P} {t : Nat} (h : bs m t) : (0 ≤ (m 177 t).toInt ∧ (m 177 t).toInt < 4) ∧ m 180 t = 1 ∧ m 178 t = -1 ∧ m 179 t = -1 := by
  refine ⟨?_, h.2⟩
  rcases h.1 with ⟨s, -⟩ | ⟨s, -⟩ | ⟨s, -⟩ | ⟨s, -⟩ <;> (rw [s]; decide)
section MST
variable {NB : Nat} {m : mm_P} {ml : mm_G}
/-- shapes are numbers of types as deep as the types -/
theorem SH_d (hD : DN NB m) (h : ∀ t, t < NB → SHT NB m ml t) : ∀ (k t : Nat), t < k → t < NB → (0 ≤ (ml 2 t).toInt ∧ (ml 2 t).toInt < 152587890624) ∧ f_dp (ml 2 t) = m 180 t := by
  intro k
  induction k with
  | zero => exact fun t q => absurd q (Nat.not_lt_zero _)
  | succ k ih =>
    intro t hk ht
    have hd := hD t ht
    rcases h t ht with ⟨q1, q2⟩ | ⟨a, q1, q2, q3, q4⟩ | ⟨a, b, q1, q2, q3, q4, q5, q6⟩
    · obtain ⟨b1, b2, -⟩ := bs_k q1
      refine ⟨by omega, ?_⟩
      rw [b2]
      unfold f_dp
      rw [if_neg (by omega), if_pos (by omega)]
    · obtain ⟨i1, i2⟩ := ih a (by omega) q2
      have da := hD a q2
      have hd' := hd
      rw [q3.2.2.2.1, mm_1p (by omega) (by omega)] at hd'
      have ha : (ml 2 a).toInt < 390624 := by
        rcases f_dp_5 i1 with z | z
        · exact z.1
        · exfalso
          rw [i2] at z
          have e := congrArg Int32.toInt z.2
          rw [mm_tt5] at e
          omega
      obtain ⟨x1, x2, x3, x4, x5⟩ := f_ls_ok ⟨i1.1, ha⟩
      rw [q4]
      exact ⟨by omega, by rw [x5, i2, q3.2.2.2.1]⟩
    · obtain ⟨i1, i2⟩ := ih a (by omega) q2
      obtain ⟨j1, j2⟩ := ih b (by omega) q4
      have da := hD a q2
      have db := hD b q4
      have hm := f_most_r (x := m 180 a) (y := m 180 b) (lo := 1) (hi := 5) da.1 db.1
      have hd' := hd
      rw [q5.2.2.2.1, mm_1p (by omega) (by omega)] at hd'
      have ha : (ml 2 a).toInt < 390624 := by
        rcases f_dp_5 i1 with z | z
        · exact z.1
        · exfalso
          rw [i2] at z
          have e := congrArg Int32.toInt z.2
          rw [mm_tt5] at e
          omega
      have hb : (ml 2 b).toInt < 390624 := by
        rcases f_dp_5 j1 with z | z
        · exact z.1
        · exfalso
          rw [j2] at z
          have e := congrArg Int32.toInt z.2
          rw [mm_tt5] at e
          omega
      obtain ⟨x1, x2, x3, x4, x5⟩ := f_pr_ok ⟨i1.1, ha⟩ ⟨j1.1, hb⟩
      rw [q6]
      exact ⟨by omega, by rw [x5, i2, j2, q5.2.2.2.1]⟩
theorem SH_r (hD : DN NB m) (h : TC NB m ml) {t : Nat} (ht : t < NB) : (0 ≤ (ml 2 t).toInt ∧ (ml 2 t).toInt < 152587890624) ∧ f_dp (ml 2 t) = m 180 t := SH_d hD h.2.1 (t + 1) t (by omega) ht
/-- less deep than 5: a number that parts have -/
theorem SH_4 (hD : DN NB m) (h : TC NB m ml) {t : Nat} (ht : t < NB) (hd : (m 180 t).toInt ≤ 4) : 0 ≤ (ml 2 t).toInt ∧ (ml 2 t).toInt < 390624 := by
  obtain ⟨i1, i2⟩ := SH_r hD h ht
  refine ⟨i1.1, ?_⟩
  rcases f_dp_5 i1 with z | z
  · exact z.1
  · exfalso
    rw [i2] at z
    have e := congrArg Int32.toInt z.2
    rw [mm_tt5] at e
    omega
theorem SH_5 (hD : DN NB m) (h : TC NB m ml) {t : Nat} (ht : t < NB) (hd : ¬ (m 180 t).toInt ≤ 4) : 390624 ≤ (ml 2 t).toInt ∧ (ml 2 t).toInt < 152587890624 := by
  obtain ⟨i1, i2⟩ := SH_r hD h ht
  refine ⟨?_, i1.2⟩
  rcases f_dp_5 i1 with z | z
  · rw [i2] at z
    omega
  · exact z.1
/-- what a type is, its parts, as the class reads them -/
theorem SH_k (hD : DN NB m) (h : TC NB m ml) {t : Nat} (ht : t < NB) : f_kd (ml 2 t) = m 177 t ∧ ((¬ m 177 t = 4 ∧ ¬ m 177 t = 5 ∧ f_fs (ml 2 t) = -1 ∧ f_sc (ml 2 t) = -1 ∧ m 178 t = -1 ∧ m 179 t = -1 ∧ bs m t) ∨ (∃ a, a < t ∧ a < NB ∧ en5 m m t a ∧ f_fs (ml 2 t) = ml 2 a ∧ f_sc (ml 2 t) = -1 ∧ (m 180 a).toInt ≤ 4) ∨ (∃ a b, a < t ∧ a < NB ∧ b < t ∧ b < NB ∧ en4 m m t a b ∧ f_fs (ml 2 t) = ml 2 a ∧ f_sc (ml 2 t) = ml 2 b ∧ (m 180 a).toInt ≤ 4 ∧ (m 180 b).toInt ≤ 4)) := by
  have hd := hD t ht
  rcases h.2.1 t ht with ⟨q1, q2⟩ | ⟨a, q1, q2, q3, q4⟩ | ⟨a, b, q1, q2, q3, q4, q5, q6⟩
  · obtain ⟨b1, b2, b3, b4⟩ := bs_k q1
    obtain ⟨n4, n5⟩ := bs_45 q1
    have hx : (ml 2 t).toInt < 4 := by omega
    have hrb : f_rb (ml 2 t) = 0 := by
      unfold f_rb
      rw [if_pos hx]
    refine ⟨?_, .inl ⟨n4, n5, ?_, ?_, b3, b4, q1⟩⟩
    · have hc : ∀ k : Int32, m 177 t = k → ∀ x : Int64, x.toInt = k.toInt → (ml 2 t) = x := fun k e x ex => Int64.toInt_inj.mp (by rw [q2, e, ex])
      rcases q1.1 with ⟨s, -⟩ | ⟨s, -⟩ | ⟨s, -⟩ | ⟨s, -⟩
      · rw [hc 0 s 0 rfl, s]; decide
      · rw [hc 1 s 1 rfl, s]; decide
      · rw [hc 2 s 2 rfl, s]; decide
      · rw [hc 3 s 3 rfl, s]; decide
    · unfold f_fs
      rw [hrb, if_neg (by decide)]
    · unfold f_sc
      rw [hrb, if_pos (by decide)]
  · have da := hD a q2
    have hd' := hd
    rw [q3.2.2.2.1, mm_1p (by omega) (by omega)] at hd'
    obtain ⟨x1, x2, x3, x4, x5⟩ := f_ls_ok (SH_4 hD h q2 (by omega))
    rw [q4]
    exact ⟨x2.trans q3.1.symm, .inr (.inl ⟨a, q1, q2, q3, x3, x4, by omega⟩)⟩
  · have da := hD a q2
    have db := hD b q4
    have hm := f_most_r (x := m 180 a) (y := m 180 b) (lo := 1) (hi := 5) da.1 db.1
    have hd' := hd
    rw [q5.2.2.2.1, mm_1p (by omega) (by omega)] at hd'
    obtain ⟨x1, x2, x3, x4, x5⟩ := f_pr_ok (SH_4 hD h q2 (by omega)) (SH_4 hD h q4 (by omega))
    rw [q6]
    exact ⟨x2.trans q5.1.symm, .inr (.inr ⟨a, b, q1, q2, q3, q4, q5, x3, x4, by omega, by omega⟩)⟩
/-- the PAIR of a and b is the type t -/
theorem SH_p4 (hD : DN NB m) (h : TC NB m ml) {t a b : Nat} (hN : NB ≤ 200) (ht : t < NB) (ha : a < NB) (hb : b < NB) (da : (m 180 a).toInt ≤ 4) (db : (m 180 b).toInt ≤ 4) : ml 2 t = f_pr (ml 2 a) (ml 2 b) ↔ (m 177 t = 4 ∧ m 178 t = nI a ∧ m 179 t = nI b) := by
  obtain ⟨x1, x2, x3, x4, x5⟩ := f_pr_ok (SH_4 hD h ha da) (SH_4 hD h hb db)
  obtain ⟨k1, k2⟩ := SH_k hD h ht
  constructor
  · intro e
    rw [e] at k1 k2
    rw [x2] at k1
    rcases k2 with ⟨q, -⟩ | ⟨a', q1, q2, q3, -⟩ | ⟨a', b', q1, q2, q3, q4, q5, q6, q7, -⟩
    · exact absurd k1.symm q
    · have := q3.1
      rw [← k1] at this
      exact absurd this (by decide)
    · rw [x3] at q6
      rw [x4] at q7
      have e1 := h.2.2 a a' ha q2 q6
      have e2 := h.2.2 b b' hb q4 q7
      subst e1 e2
      exact ⟨q5.1, q5.2.1, q5.2.2.1⟩
  · rintro ⟨e1, e2, e3⟩
    rcases h.2.1 t ht with ⟨q1, -⟩ | ⟨a', q1, q2, q3, -⟩ | ⟨a', b', q1, q2, q3, q4, q5, q6⟩
    · exact absurd e1 (bs_45 q1).1
    · have := q3.1
      rw [e1] at this
      exact absurd this (by decide)
    · have f1 : a' = a := nI_ij (by omega) (by omega) (q5.2.1.symm.trans e2)
      have f2 : b' = b := nI_ij (by omega) (by omega) (q5.2.2.1.symm.trans e3)
      subst f1 f2
      exact q6
theorem SH_p5 (hD : DN NB m) (h : TC NB m ml) {t a : Nat} (hN : NB ≤ 200) (ht : t < NB) (ha : a < NB) (da : (m 180 a).toInt ≤ 4) : ml 2 t = f_ls (ml 2 a) ↔ (m 177 t = 5 ∧ m 178 t = nI a ∧ m 179 t = -1) := by
  obtain ⟨x1, x2, x3, x4, x5⟩ := f_ls_ok (SH_4 hD h ha da)
  obtain ⟨k1, k2⟩ := SH_k hD h ht
  constructor
  · intro e
    rw [e] at k1 k2
    rw [x2] at k1
    rcases k2 with ⟨-, q, -⟩ | ⟨a', q1, q2, q3, q4, -⟩ | ⟨a', b', q1, q2, q3, q4, q5, -⟩
    · exact absurd k1.symm q
    · rw [x3] at q4
      have e1 := h.2.2 a a' ha q2 q4
      subst e1
      exact ⟨q3.1, q3.2.1, q3.2.2.1⟩
    · have := q5.1
      rw [← k1] at this
      exact absurd this (by decide)
  · rintro ⟨e1, e2, e3⟩
    rcases h.2.1 t ht with ⟨q1, -⟩ | ⟨a', q1, q2, q3, q4⟩ | ⟨a', b', q1, q2, q3, q4, q5, q6⟩
    · exact absurd e1 (bs_45 q1).2
    · have f1 : a' = a := nI_ij (by omega) (by omega) (q3.2.1.symm.trans e2)
      subst f1
      exact q4
    · have := q5.1
      rw [e1] at this
      exact absurd this (by decide)
/-- letters, as the class finds them -/
def f_LT (a b : Int32) : Int32 := if a = 0 then (if b = 0 then 0 else 2) else (if b = 0 then 1 else 3)
theorem f_LT_u {a b : Int32} (ha : 0 ≤ a.toInt ∧ a.toInt ≤ 5) (hb : 0 ≤ b.toInt ∧ b.toInt ≤ 5) : f_LT (f_under a) (f_under b) = f_LT a b := by
  have h : ∀ x : Int32, 0 ≤ x.toInt → x.toInt ≤ 5 → (f_under x = 0 ↔ x = 0) := fun x h0 h5 => ⟨under_z h0 h5, fun e => by rw [e]; rfl⟩
  unfold f_LT
  simp only [h a ha.1 ha.2, h b hb.1 hb.2]
theorem f_LT_m {a b x y : Int32} (ha : 0 ≤ a.toInt) (hb : 0 ≤ b.toInt) (hx : 0 ≤ x.toInt) (hy : 0 ≤ y.toInt) : f_LT (f_most a x) (f_most b y) = f_LT a b ||| f_LT x y := by
  have h : ∀ u v : Int32, 0 ≤ u.toInt → 0 ≤ v.toInt → (f_most u v = 0 ↔ u = 0 ∧ v = 0) := fun u v h0 h1 => ⟨most_z h0 h1, fun e => by rw [e.1, e.2]; rfl⟩
  unfold f_LT
  simp only [h a x ha hx, h b y hb hy]
  by_cases a0 : a = 0 <;> by_cases b0 : b = 0 <;> by_cases x0 : x = 0 <;> by_cases y0 : y = 0 <;> simp [a0, b0, x0, y0] <;> decide
theorem SH_l (hD : DN NB m) (h : TC NB m ml) : ∀ (k t : Nat), t < NB → (m 180 t).toInt ≤ k → f_lo k (ml 2 t) = f_LT (m 181 t) (m 182 t) := by
  intro k
  induction k with
  | zero =>
    intro t ht hk
    have := hD t ht
    omega
  | succ k ih =>
    intro t ht hk
    have hd := hD t ht
    obtain ⟨k1, k2⟩ := SH_k hD h ht
    unfold f_lo
    rw [k1]
    rcases k2 with ⟨n4, n5, -, -, -, -, q⟩ | ⟨a, q1, q2, q3, q4, q5, q6⟩ | ⟨a, b, q1, q2, q3, q4, q5, q6, q7, q8, q9⟩
    · rcases q.1 with ⟨s1, s2, s3, -⟩ | ⟨s1, s2, s3, -⟩ | ⟨s1, s2, s3, -⟩ | ⟨s1, s2, s3, -⟩ <;> rw [s1, s2, s3]
      · rw [if_neg (by decide), if_neg (by decide), if_neg (by decide), if_neg (by decide)]; decide
      · rw [if_neg (by decide), if_neg (by decide), if_neg (by decide), if_neg (by decide)]; decide
      · rw [if_pos rfl]; decide
      · rw [if_neg (by decide), if_pos rfl]; decide
    · have da := hD a q2
      rw [q3.2.2.2.1, mm_1p (by omega) (by omega)] at hk
      rw [q3.1, if_neg (by decide), if_neg (by decide), if_neg (by decide), if_pos rfl, q4, ih a q2 (by omega), q3.2.2.2.2.1, q3.2.2.2.2.2.1, f_LT_u da.2.1 da.2.2]
    · have da := hD a q2
      have db := hD b q4
      have hm := f_most_r (x := m 180 a) (y := m 180 b) (lo := 1) (hi := 5) da.1 db.1
      rw [q5.2.2.2.1, mm_1p (by omega) (by omega)] at hk
      have x1 := f_most_r (x := m 181 a) (y := m 181 b) (lo := 0) (hi := 5) da.2.1 db.2.1
      have x2 := f_most_r (x := m 182 a) (y := m 182 b) (lo := 0) (hi := 5) da.2.2 db.2.2
      rw [q5.1, if_neg (by decide), if_neg (by decide), if_pos rfl, q6, q7, ih a q2 (by omega), ih b q4 (by omega), q5.2.2.2.2.1, q5.2.2.2.2.2.1, f_LT_u x1.1 x2.1, f_LT_m da.2.1.1 da.2.2.1 db.2.1.1 db.2.2.1]
theorem SH_lt (hD : DN NB m) (h : TC NB m ml) {t : Nat} (ht : t < NB) : f_letters (ml 2 t) = f_LT (m 181 t) (m 182 t) := SH_l hD h 7 t ht (by have := hD t ht; omega)
theorem sum_le {x y : Int32} (hx : 0 ≤ x.toInt ∧ x.toInt ≤ 5) (hy : 0 ≤ y.toInt ∧ y.toInt ≤ 5) : x + y ≤ 0 ↔ x = 0 ∧ y = 0 := by
  rw [Int32.le_iff_toInt_le, mm_addI (by omega) (by omega), mm_tt0]
  constructor
  · intro h
    exact ⟨Int32.toInt_inj.mp (by rw [mm_tt0]; omega), Int32.toInt_inj.mp (by rw [mm_tt0]; omega)⟩
  · rintro ⟨rfl, rfl⟩
    decide
theorem SH_v (hD : DN NB m) (h : TC NB m ml) : ∀ (k t : Nat), t < NB → (m 180 t).toInt ≤ k → m 181 t = 0 → m 182 t = 0 → f_lv k (ml 2 t) = m 183 t := by
  intro k
  induction k with
  | zero =>
    intro t ht hk
    have := hD t ht
    omega
  | succ k ih =>
    intro t ht hk hc1 hc2
    have hd := hD t ht
    obtain ⟨k1, k2⟩ := SH_k hD h ht
    unfold f_lv
    rw [k1]
    rcases k2 with ⟨n4, n5, -, -, -, -, q⟩ | ⟨a, q1, q2, q3, q4, q5, q6⟩ | ⟨a, b, q1, q2, q3, q4, q5, q6, q7, q8, q9⟩
    · rw [if_neg n4]
      rcases q.1 with ⟨s1, s2, s3, s4⟩ | ⟨s1, s2, s3, s4⟩ | ⟨s1, s2, s3, s4⟩ | ⟨s1, s2, s3, s4⟩
      · rw [s4]
      · rw [s4]
      · rw [s2] at hc1
        exact absurd hc1 (by decide)
      · rw [s3] at hc2
        exact absurd hc2 (by decide)
    · rw [q3.1, if_neg (by decide), q3.2.2.2.2.2.2, if_pos ((sum_le hd.2.1 hd.2.2).mpr ⟨hc1, hc2⟩)]
    · have da := hD a q2
      have db := hD b q4
      have hm := f_most_r (x := m 180 a) (y := m 180 b) (lo := 1) (hi := 5) da.1 db.1
      rw [q5.2.2.2.1, mm_1p (by omega) (by omega)] at hk
      obtain ⟨⟨c1, c2⟩, c3, c4⟩ := cl_4 hD q2 q4 q5 hc1 hc2
      rw [q5.1, if_pos rfl, q5.2.2.2.2.2.2, if_pos ((sum_le hd.2.1 hd.2.2).mpr ⟨hc1, hc2⟩), q6, q7, ih a q2 (by omega) c1 c2, ih b q4 (by omega) c3 c4]
/-- WIDTH, as the class finds it -/
theorem SH_w (hD : DN NB m) (h : TC NB m ml) {t : Nat} (ht : t < NB) : f_width (ml 2 t) = m 183 t := by
  have hd := hD t ht
  obtain ⟨i1, i2⟩ := SH_r hD h ht
  unfold f_width
  rw [i2, if_neg (by omega), SH_lt hD h ht]
  by_cases hc : m 181 t = 0 ∧ m 182 t = 0
  · rw [hc.1, hc.2, if_pos (by decide)]
    exact SH_v hD h 7 t ht (by omega) hc.1 hc.2
  · have hn : ¬ f_LT (m 181 t) (m 182 t) = 0 := by
      unfold f_LT
      by_cases a0 : m 181 t = 0
      · rw [if_pos a0, if_neg (fun q => hc ⟨a0, q⟩)]
        decide
      · rw [if_neg a0]
        split <;> decide
    rw [if_neg hn]
    have hs : ¬ m 181 t + m 182 t ≤ 0 := fun q => hc ((sum_le hd.2.1 hd.2.2).mp q)
    obtain ⟨-, k2⟩ := SH_k hD h ht
    rcases k2 with ⟨n4, n5, -, -, -, -, q⟩ | ⟨a, q1, q2, q3, q4, q5, q6⟩ | ⟨a, b, q1, q2, q3, q4, q5, q6, q7, q8, q9⟩
    · rcases q.1 with ⟨s1, s2, s3, s4⟩ | ⟨s1, s2, s3, s4⟩ | ⟨s1, s2, s3, s4⟩ | ⟨s1, s2, s3, s4⟩
      · exact absurd ⟨s2, s3⟩ hc
      · exact absurd ⟨s2, s3⟩ hc
      · rw [s4]
      · rw [s4]
    · rw [q3.2.2.2.2.2.2, if_neg hs]
    · rw [q5.2.2.2.2.2.2, if_neg hs]
end MST
