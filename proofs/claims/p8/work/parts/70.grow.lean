/-! ===== node(), function(), body(), pair(), list() of the model: they change the program ===== -/
theorem mm_u_o {α : Type} {f : Nat → Nat → α} {k i a b : Nat} {x : α} (h : ¬ (a = k ∧ b = i)) : mm_u f k i x a b = f a b := by
  unfold mm_u
  split
  · rename_i h1
    split
    · rename_i h2
      exact absurd ⟨h1, h2⟩ h
    · rfl
  · rfl
def ndN (ND : Nat) (v : Int32) : Prop := ∃ p : Nat, p < ND ∧ v = nI p
theorem wT_c {m n : mm_P} {NB TY t : Nat} (h : wT NB TY m t) (hv : ∀ t, t < NB ∨ 200 ≤ t ∧ t < TY → ∀ c, 177 ≤ c → c ≤ 183 → n c t = m c t) (ht : vd NB TY t) : wT NB TY n t := by
  rcases h with q | ⟨a, q1, q2, q3⟩ | ⟨a, b, q1, q2, q3, q4, q5⟩
  · exact .inl (bs_c q (hv t ht))
  · exact .inr (.inl ⟨a, q1, q2, en5_c q3 (hv t ht) (hv a q1)⟩)
  · exact .inr (.inr ⟨a, b, q1, q2, q3, q4, en4_c q5 (hv t ht) (hv a q1) (hv b q3)⟩)
theorem okF_c {NB NB' ND ND' f : Nat} {m n : mm_P} (h : okF NB ND m f) (hB : NB ≤ NB') (hD : ND ≤ ND') (h4 : ∀ c, 194 ≤ c → c ≤ 197 → n c f = m c f) (hr : ∀ t, t < NB → ∀ c, 177 ≤ c → c ≤ 183 → n c t = m c t) : okF NB' ND' n f := by
  obtain ⟨b1, ⟨t, b2, b3, b4⟩, ⟨u, b5, b6, b7⟩, b8⟩ := h
  unfold okF wthn
  rw [h4 194 (by decide) (by decide), h4 195 (by decide) (by decide), h4 196 (by decide) (by decide), h4 197 (by decide) (by decide)]
  refine ⟨b1, ⟨t, by omega, b3, ?_⟩, ⟨u, by omega, b6, ?_⟩, b8.imp_right (fun ⟨k, k1, k2⟩ => ⟨k, by omega, k2⟩)⟩
  · rw [hr t b2 181 (by decide) (by decide), hr t b2 182 (by decide) (by decide)]
    exact b4
  · rw [hr u b5 181 (by decide) (by decide), hr u b5 182 (by decide) (by decide)]
    exact b7
theorem pa_k {m n : mm_P} {k : Nat} {v : Int32} (h : pa m k v) (hr : ∀ i, i ≤ k → n 193 i = m 193 i) : pa n k v := by
  obtain ⟨p, h1, h2, h3⟩ := h
  exact ⟨p, h1, h2, by rw [hr p (by omega), hr k (by omega)]; exact h3⟩
theorem tyN_le {NB NB' : Nat} {v : Int32} (h : tyN NB v) (hl : NB ≤ NB') : tyN NB' v := by
  obtain ⟨t, t1, t2⟩ := h
  exact ⟨t, by omega, t2⟩
theorem okN_c {NB NB' j : Nat} {m n : mm_P} (h : okN NB m j) (hB : NB ≤ NB') (hr : ∀ c i, 188 ≤ c → c ≤ 193 → i ≤ j → n c i = m c i) : okN NB' n j := by
  obtain ⟨b1, b2, b3, b4, b5⟩ := h
  have h193 : ∀ i, i ≤ j → n 193 i = m 193 i := fun i hi => hr 193 i (by decide) (by decide) hi
  have hj : ∀ c, 188 ≤ c → c ≤ 193 → n c j = m c j := fun c a b => hr c j a b (Nat.le_refl _)
  unfold okN
  rw [hj 188 (by decide) (by decide), hj 189 (by decide) (by decide), hj 190 (by decide) (by decide), hj 191 (by decide) (by decide), hj 192 (by decide) (by decide), hj 193 (by decide) (by decide)]
  exact ⟨b1, b2, fun z => ⟨fun y => pa_k ((b3 z).1 y) h193, fun y => pa_k ((b3 z).2.1 y) h193, fun y => pa_k ((b3 z).2.2 y) h193⟩, fun z => tyN_le (b4 z) hB, fun z => ⟨(b5 z).1, pa_k (b5 z).2.1 h193, (b5 z).2.2.1.imp_right (fun q => tyN_le q hB), (b5 z).2.2.2.1.imp_right (fun q => tyN_le q hB), (b5 z).2.2.2.2⟩⟩
/-- one node more -/
theorem IM_node {NB ND NF : Nat} {m n : mm_P} (h : IM m NB ND NF) (hND : ND < 200) (h13 : n 176 13 = nI (ND + 1)) (h0 : n 176 0 = m 176 0) (h20 : n 176 20 = m 176 20) (hr : ∀ c i, 177 ≤ c → ¬ (188 ≤ c ∧ c ≤ 193 ∧ i = ND) → n c i = m c i) (hk : okN NB n ND) : IM n NB (ND + 1) NF := by
  obtain ⟨⟨a1, a2, a3⟩, ⟨a4, a5, a6⟩, a7, a8, a9, a10, a11⟩ := h
  have hrow : ∀ t, ∀ c, 177 ≤ c → c ≤ 183 → n c t = m c t := fun t c x y => hr c t x (by omega)
  refine ⟨⟨a1, by omega, a3⟩, ⟨h0.trans a4, h13, h20.trans a6⟩, fun t ht => wT_c (a7 t ht) (fun t _ => hrow t) (.inl ht), DN_c a8 (fun t _ => hrow t), fun j hj => ?_, fun f hf => okF_c (a10 f hf) (Nat.le_refl _) (by omega) (fun c x y => hr c f (by omega) (by omega)) (fun t _ => hrow t), ?_⟩
  · by_cases hjD : j = ND
    · rw [hjD]
      exact hk
    · exact okN_c (a9 j (by omega)) (Nat.le_refl _) (fun c i x y z => hr c i (by omega) (by omega))
  · rw [hrow 0 177 (by decide) (by decide), hrow 1 177 (by decide) (by decide), hrow 2 177 (by decide) (by decide), hrow 3 177 (by decide) (by decide)]
    exact a11
/-- one function more -/
theorem IM_function {NB ND NF : Nat} {m n : mm_P} (h : IM m NB ND NF) (hNF : NF < 12) (h20 : n 176 20 = nI (NF + 1)) (h0 : n 176 0 = m 176 0) (h13 : n 176 13 = m 176 13) (hr : ∀ c i, 177 ≤ c → ¬ (194 ≤ c ∧ c ≤ 197 ∧ i = NF) → n c i = m c i) (hk : okF NB ND n NF) : IM n NB ND (NF + 1) := by
  obtain ⟨⟨a1, a2, a3⟩, ⟨a4, a5, a6⟩, a7, a8, a9, a10, a11⟩ := h
  have hrow : ∀ t, ∀ c, 177 ≤ c → c ≤ 183 → n c t = m c t := fun t c x y => hr c t x (by omega)
  refine ⟨⟨a1, a2, by omega⟩, ⟨h0.trans a4, h13.trans a5, h20⟩, fun t ht => wT_c (a7 t ht) (fun t _ => hrow t) (.inl ht), DN_c a8 (fun t _ => hrow t), fun j hj => okN_c (a9 j hj) (Nat.le_refl _) (fun c i x y z => hr c i (by omega) (by omega)), fun f hf => ?_, ?_⟩
  · by_cases hfF : f = NF
    · rw [hfF]
      exact hk
    · exact okF_c (a10 f (by omega)) (Nat.le_refl _) (Nat.le_refl _) (fun c x y => hr c f (by omega) (by omega)) (fun t _ => hrow t)
  · rw [hrow 0 177 (by decide) (by decide), hrow 1 177 (by decide) (by decide), hrow 2 177 (by decide) (by decide), hrow 3 177 (by decide) (by decide)]
    exact a11
/-- a body -/
theorem IM_body {NB ND NF f b : Nat} {m : mm_P} (h : IM m NB ND NF) (hf : f < NF) (hb : b < ND) : IM (mm_u m 197 f (nI b)) NB ND NF := by
  obtain ⟨a0, ⟨a4, a5, a6⟩, a7, a8, a9, a10, a11⟩ := h
  have hr : ∀ c i, ¬ c = 197 → mm_u m 197 f (nI b) c i = m c i := fun c i q => mm_u_e q
  refine ⟨a0, ⟨(hr _ _ (by decide)).trans a4, (hr _ _ (by decide)).trans a5, (hr _ _ (by decide)).trans a6⟩, fun t ht => wT_c (a7 t ht) (fun t _ c x y => hr c t (by omega)) (.inl ht), DN_c a8 (fun t _ c x y => hr c t (by omega)), fun j hj => okN_c (a9 j hj) (Nat.le_refl _) (fun c i x y z => hr c i (by omega)), fun g hg => ?_, ?_⟩
  · by_cases hfg : g = f
    · subst hfg
      obtain ⟨b1, b2, b3, b4⟩ := a10 g hg
      unfold okF wthn at *
      rw [hr 194 g (by decide), hr 195 g (by decide), hr 196 g (by decide), mm_u_s]
      simp only [hr 181 _ (show ¬ 181 = 197 by decide), hr 182 _ (show ¬ 182 = 197 by decide)]
      exact ⟨b1, b2, b3, .inr ⟨b, hb, rfl⟩⟩
    · refine okF_c (a10 g hg) (Nat.le_refl _) (Nat.le_refl _) (fun c x y => ?_) (fun t _ c x y => hr c t (by omega))
      by_cases hc : c = 197
      · subst hc
        exact mm_u_f hfg
      · exact hr c g hc
  · rw [hr 177 0 (by decide), hr 177 1 (by decide), hr 177 2 (by decide), hr 177 3 (by decide)]
    exact a11
/-- letters lie no deeper than the type -/
theorem DL {NB : Nat} {m : mm_P} (h : ∀ t, t < NB → wT NB 200 m t) (hD : DN NB m) : ∀ (k t : Nat), t < k → t < NB → (m 181 t).toInt ≤ (m 180 t).toInt ∧ (m 182 t).toInt ≤ (m 180 t).toInt := by
  intro k
  induction k with
  | zero => exact fun t h => absurd h (Nat.not_lt_zero _)
  | succ k ih =>
    intro t hk ht
    rcases h t ht with q | ⟨a, q1, q2, q3⟩ | ⟨a, b, q1, q2, q3, q4, q5⟩
    · obtain ⟨s, e, -⟩ := q
      rw [e]
      rcases s with ⟨-, s2, s3, -⟩ | ⟨-, s2, s3, -⟩ | ⟨-, s2, s3, -⟩ | ⟨-, s2, s3, -⟩ <;> (rw [s2, s3]; decide)
    · have d := hD a (by omega)
      obtain ⟨i1, i2⟩ := ih a (by omega) (by omega)
      rw [q3.2.2.2.1, q3.2.2.2.2.1, q3.2.2.2.2.2.1, mm_1p (by omega) (by omega)]
      have hu : ∀ y : Int32, 0 ≤ y.toInt → y.toInt ≤ 5 → (f_under y).toInt ≤ 1 + y.toInt := fun y y0 y1 => by
        unfold f_under
        split
        · rw [mm_tt0]; omega
        · rw [mm_add1 (by omega)]; omega
      have u1 := hu (m 181 a) (by omega) (by omega)
      have u2 := hu (m 182 a) (by omega) (by omega)
      omega
    · have d := hD a (by omega)
      have d' := hD b (by omega)
      obtain ⟨i1, i2⟩ := ih a (by omega) (by omega)
      obtain ⟨j1, j2⟩ := ih b (by omega) (by omega)
      have x0 := f_most_r (x := m 180 a) (y := m 180 b) (lo := 1) (hi := 5) (by omega) (by omega)
      rw [q5.2.2.2.1, q5.2.2.2.2.1, q5.2.2.2.2.2.1, mm_1p (by omega) (by omega)]
      have x1 := f_most_r (x := m 181 a) (y := m 181 b) (lo := 0) (hi := (f_most (m 180 a) (m 180 b)).toInt) (by omega) (by omega)
      have x2 := f_most_r (x := m 182 a) (y := m 182 b) (lo := 0) (hi := (f_most (m 180 a) (m 180 b)).toInt) (by omega) (by omega)
      have hu : ∀ y : Int32, 0 ≤ y.toInt → y.toInt ≤ 5 → (f_under y).toInt ≤ 1 + y.toInt := fun y y0 y1 => by
        unfold f_under
        split
        · rw [mm_tt0]; omega
        · rw [mm_add1 (by omega)]; omega
      have u1 := hu _ x1.1.1 (by omega)
      have u2 := hu _ x2.1.1 (by omega)
      omega
theorem f_under_r {y : Int32} (h0 : 0 ≤ y.toInt) (h1 : y.toInt ≤ 5) : 0 ≤ (f_under y).toInt ∧ (f_under y).toInt ≤ 1 + y.toInt := by
  unfold f_under
  split
  · rw [mm_tt0]; omega
  · rw [mm_add1 (by omega)]; omega
/-- one type more -/
theorem IM_type {NB ND NF : Nat} {m n : mm_P} (h : IM m NB ND NF) (hNB : NB < 200) (h0 : n 176 0 = nI (NB + 1)) (h13 : n 176 13 = m 176 13) (h20 : n 176 20 = m 176 20) (hr : ∀ c i, 177 ≤ c → c ≤ 183 → i < NB → n c i = m c i) (hr2 : ∀ c i, 188 ≤ c → c ≤ 197 → n c i = m c i) (hw : wT (NB + 1) 200 n NB) (hd : (n 180 NB).toInt ≤ 5) : IM n (NB + 1) ND NF := by
  obtain ⟨⟨a1, a2, a3⟩, ⟨a4, a5, a6⟩, a7, a8, a9, a10, a11⟩ := h
  have hall : ∀ t, t < NB + 1 → wT (NB + 1) 200 n t := fun t ht => by
    by_cases htN : t = NB
    · rw [htN]
      exact hw
    · have hw' := wT_c (n := n) (a7 t (by omega)) (fun t q c x y => hr c t x y (by omega)) (.inl (by omega))
      rcases hw' with q | ⟨a, q1, q2, q3⟩ | ⟨a, b, q1, q2, q3, q4, q5⟩
      · exact .inl q
      · exact .inr (.inl ⟨a, .inl (by unfold vd at q1; omega), q2, q3⟩)
      · exact .inr (.inr ⟨a, b, .inl (by unfold vd at q1; omega), q2, .inl (by unfold vd at q3; omega), q4, q5⟩)
  have hDo : DN NB n := DN_c a8 (fun t ht c x y => hr c t x y ht)
  have hLo := DL (m := n) (fun t ht => wT_c (a7 t ht) (fun t q c x y => hr c t x y (by omega)) (.inl ht)) hDo
  refine ⟨⟨by omega, a2, a3⟩, ⟨h0, h13.trans a5, h20.trans a6⟩, hall, fun t ht => ?_, fun j hj => okN_c (a9 j hj) (by omega) (fun c i x y z => hr2 c i (by omega) (by omega)), fun f hf => okF_c (a10 f hf) (by omega) (Nat.le_refl _) (fun c x y => hr2 c f (by omega) (by omega)) (fun t ht c x y => hr c t x y ht), ?_⟩
  · by_cases htN : t = NB
    · subst htN
      rcases hw with q | ⟨a, q1, q2, q3⟩ | ⟨a, b, q1, q2, q3, q4, q5⟩
      · obtain ⟨s, e, -⟩ := q
        rw [e]
        rcases s with ⟨-, s2, s3, -⟩ | ⟨-, s2, s3, -⟩ | ⟨-, s2, s3, -⟩ | ⟨-, s2, s3, -⟩ <;> (rw [s2, s3]; decide)
      · have d := hDo a (by omega)
        obtain ⟨i1, i2⟩ := hLo (a + 1) a (by omega) (by omega)
        have u1 := f_under_r (y := n 181 a) (by omega) (by omega)
        have u2 := f_under_r (y := n 182 a) (by omega) (by omega)
        rw [q3.2.2.2.1, mm_1p (by omega) (by omega)] at hd
        rw [q3.2.2.2.1, q3.2.2.2.2.1, q3.2.2.2.2.2.1, mm_1p (by omega) (by omega)]
        omega
      · have d := hDo a (by omega)
        have d' := hDo b (by omega)
        obtain ⟨i1, i2⟩ := hLo (a + 1) a (by omega) (by omega)
        obtain ⟨j1, j2⟩ := hLo (b + 1) b (by omega) (by omega)
        have x0 := f_most_r (x := n 180 a) (y := n 180 b) (lo := 1) (hi := 5) (by omega) (by omega)
        have x1 := f_most_r (x := n 181 a) (y := n 181 b) (lo := 0) (hi := (f_most (n 180 a) (n 180 b)).toInt) (by omega) (by omega)
        have x2 := f_most_r (x := n 182 a) (y := n 182 b) (lo := 0) (hi := (f_most (n 180 a) (n 180 b)).toInt) (by omega) (by omega)
        have u1 := f_under_r (y := f_most (n 181 a) (n 181 b)) (by omega) (by omega)
        have u2 := f_under_r (y := f_most (n 182 a) (n 182 b)) (by omega) (by omega)
        rw [q5.2.2.2.1, mm_1p (by omega) (by omega)] at hd
        rw [q5.2.2.2.1, q5.2.2.2.2.1, q5.2.2.2.2.2.1, mm_1p (by omega) (by omega)]
        omega
    · exact hDo t (by omega)
  · rw [hr 177 0 (by decide) (by decide) (by omega), hr 177 1 (by decide) (by decide) (by omega), hr 177 2 (by decide) (by decide) (by omega), hr 177 3 (by decide) (by decide) (by omega)]
    exact a11
