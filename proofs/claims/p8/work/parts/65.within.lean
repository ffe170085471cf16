/-! ===== types of nodes have no letters but their function's ===== -/
theorem nI_ij {a b : Nat} (ha : a < 2 ^ 31) (hb : b < 2 ^ 31) (h : nI a = nI b) : a = b := by
  have := congrArg Int32.toInt h
  rw [mm_tI ha, mm_tI hb] at this
  omega
theorem f_under_z {y : Int32} (h0 : 0 ≤ y.toInt) (h1 : y.toInt < 2147483647) : (f_under y = 0 ↔ y = 0) ∧ 0 ≤ (f_under y).toInt ∧ (f_under y).toInt ≤ y.toInt + 1 := by
  unfold f_under
  split
  · rename_i h
    refine ⟨⟨fun _ => h, fun _ => rfl⟩, by decide, ?_⟩
    rw [mm_tt0]
    omega
  · rename_i h
    have e := mm_add1 h1
    refine ⟨⟨fun q => ?_, fun q => absurd q h⟩, by omega, by omega⟩
    rw [q, mm_tt0] at e
    omega
theorem f_most_z {x y : Int32} (hx : 0 ≤ x.toInt) (hy : 0 ≤ y.toInt) : f_most x y = 0 ↔ x = 0 ∧ y = 0 := by
  refine ⟨fun q => ?_, fun q => by rw [q.1, q.2]; rfl⟩
  by_cases h : x = 0 ∧ y = 0
  · exact h
  · refine absurd q (f_most_0 hx hy ?_)
    by_cases hx0 : x = 0
    · exact .inr (fun q => h ⟨hx0, q⟩)
    · exact .inl hx0
/-- no type has more letters' depth than its number -/
theorem DT {NB TY : Nat} {w : mm_P} (h : TS w NB TY) : ∀ (t : Nat), vd NB TY t → (0 ≤ (w 181 t).toInt ∧ (w 181 t).toInt ≤ t + 1) ∧ (0 ≤ (w 182 t).toInt ∧ (w 182 t).toInt ≤ t + 1) := by
  intro t
  induction t using Nat.strongRecOn with
  | _ t ih =>
    intro ht
    have ht8 := vd_lt ht h.1.2 h.2.1.2
    rcases h.2.2.2.2.2.2 t ht with q | ⟨a, q1, q2, -, -, -, -, q5, q6, -⟩ | ⟨a, b, q1, q2, q3, q4, -, -, -, -, q5, q6, -⟩
    · rcases q.1 with ⟨-, e1, e2, -⟩ | ⟨-, e1, e2, -⟩ | ⟨-, e1, e2, -⟩ | ⟨-, e1, e2, -⟩ <;> rw [e1, e2] <;> simp only [mm_tt0, mm_tt1] <;> omega
    · have i := ih a q2 q1
      have j1 := f_under_z i.1.1 (by omega)
      have j2 := f_under_z i.2.1 (by omega)
      rw [q5, q6]
      omega
    · have i := ih a q2 q1
      have i2 := ih b q4 q3
      have ha8 := vd_lt q1 h.1.2 h.2.1.2
      have hb8 := vd_lt q3 h.1.2 h.2.1.2
      have k1 := f_most_r (lo := 0) (hi := t) ⟨i.1.1, by omega⟩ ⟨i2.1.1, by omega⟩
      have k2 := f_most_r (lo := 0) (hi := t) ⟨i.2.1, by omega⟩ ⟨i2.2.1, by omega⟩
      have j1 := f_under_z k1.1.1 (by omega)
      have j2 := f_under_z k2.1.1 (by omega)
      rw [q5, q6]
      omega
theorem wthn_5 {NB TY t a : Nat} {w : mm_P} {l : Int32} (h : TS w NB TY) (ht : vd NB TY t) (h5 : w 177 t = 5) (ha : w 178 t = nI a) (hva : a < 2 ^ 31) : wthn w t l ↔ wthn w a l := by
  have hN := h.1.2
  have hT := h.2.1.2
  rcases h.2.2.2.2.2.2 t ht with q | ⟨b, q1, q2, q3⟩ | ⟨a, b, q1, q2, q3, q4, q5⟩
  · exact absurd h5 (bs_45 q).2
  · have hb8 := vd_lt q1 hN hT
    have e : b = a := nI_ij (by omega) hva (q3.2.1.symm.trans ha)
    subst e
    have i := DT h b q1
    unfold wthn
    rw [q3.2.2.2.2.1, q3.2.2.2.2.2.1, (f_under_z i.1.1 (by omega)).1, (f_under_z i.2.1 (by omega)).1]
  · have := q5.1
    rw [h5] at this
    exact absurd this (by decide)
theorem wthn_4 {NB TY t a b : Nat} {w : mm_P} {l : Int32} (h : TS w NB TY) (ht : vd NB TY t) (h4 : w 177 t = 4) (ha : w 178 t = nI a) (hva : a < 2 ^ 31) (hb : w 179 t = nI b) (hvb : b < 2 ^ 31) : wthn w t l ↔ wthn w a l ∧ wthn w b l := by
  have hN := h.1.2
  have hT := h.2.1.2
  rcases h.2.2.2.2.2.2 t ht with q | ⟨b, q1, q2, q3⟩ | ⟨a', b', q1, q2, q3, q4, q5⟩
  · exact absurd h4 (bs_45 q).1
  · have := q3.1
    rw [h4] at this
    exact absurd this (by decide)
  · have ha8 := vd_lt q1 hN hT
    have hb8 := vd_lt q3 hN hT
    have e : a' = a := nI_ij (by omega) hva (q5.2.1.symm.trans ha)
    have e2 : b' = b := nI_ij (by omega) hvb (q5.2.2.1.symm.trans hb)
    subst e e2
    have i := DT h a' q1
    have i2 := DT h b' q3
    have k1 := f_most_r (lo := 0) (hi := 8001) ⟨i.1.1, by omega⟩ ⟨i2.1.1, by omega⟩
    have k2 := f_most_r (lo := 0) (hi := 8001) ⟨i.2.1, by omega⟩ ⟨i2.2.1, by omega⟩
    unfold wthn
    rw [q5.2.2.2.2.1, q5.2.2.2.2.2.1, (f_under_z k1.1.1 (by omega)).1, (f_under_z k2.1.1 (by omega)).1, f_most_z i.1.1 i2.1.1, f_most_z i.2.1 i2.2.1]
    constructor
    · rintro ⟨q, r⟩
      exact ⟨⟨q.imp_left And.left, r.imp_left And.left⟩, ⟨q.imp_left And.right, r.imp_left And.right⟩⟩
    · rintro ⟨⟨q, r⟩, ⟨s, u⟩⟩
      refine ⟨?_, ?_⟩
      · rcases q with q | q
        · rcases s with s | s
          · exact .inl ⟨q, s⟩
          · exact .inr s
        · exact .inr q
      · rcases r with q | q
        · rcases u with s | s
          · exact .inl ⟨q, s⟩
          · exact .inr s
        · exact .inr q
theorem wthn_0 {NB TY t : Nat} {w : mm_P} {l : Int32} (h : TS w NB TY) (ht : vd NB TY t) (h0 : w 177 t = 0 ∨ w 177 t = 1) : wthn w t l := by
  rcases h.2.2.2.2.2.2 t ht with q | ⟨b, q1, q2, q3⟩ | ⟨a', b', q1, q2, q3, q4, q5⟩
  · rcases q.1 with ⟨e, e1, e2, -⟩ | ⟨e, e1, e2, -⟩ | ⟨e, e1, e2, -⟩ | ⟨e, e1, e2, -⟩
    · exact ⟨.inl e1, .inl e2⟩
    · exact ⟨.inl e1, .inl e2⟩
    · rw [e] at h0
      exact absurd h0 (by decide)
    · rw [e] at h0
      exact absurd h0 (by decide)
  · have := q3.1
    rw [this] at h0
    exact absurd h0 (by decide)
  · have := q5.1
    rw [this] at h0
    exact absurd h0 (by decide)
theorem wthn_A {NB TY t : Nat} {w : mm_P} {l : Int32} (h : TS w NB TY) (ht : vd NB TY t) (h2 : w 177 t = 2) (hw : wthn w t l) : 0 < l.toInt := by
  rcases h.2.2.2.2.2.2 t ht with q | ⟨b, q1, q2, q3⟩ | ⟨a', b', q1, q2, q3, q4, q5⟩
  · rcases q.1 with ⟨e, e1, e2, -⟩ | ⟨e, e1, e2, -⟩ | ⟨e, e1, e2, -⟩ | ⟨e, e1, e2, -⟩
    · rw [e] at h2; exact absurd h2 (by decide)
    · rw [e] at h2; exact absurd h2 (by decide)
    · rcases hw.1 with z | z
      · rw [e1] at z; exact absurd z (by decide)
      · exact z
    · rw [e] at h2; exact absurd h2 (by decide)
  · have := q3.1
    rw [this] at h2
    exact absurd h2 (by decide)
  · have := q5.1
    rw [this] at h2
    exact absurd h2 (by decide)
theorem wthn_B {NB TY t : Nat} {w : mm_P} {l : Int32} (h : TS w NB TY) (ht : vd NB TY t) (h2 : w 177 t = 3) (hw : wthn w t l) : 1 < l.toInt := by
  rcases h.2.2.2.2.2.2 t ht with q | ⟨b, q1, q2, q3⟩ | ⟨a', b', q1, q2, q3, q4, q5⟩
  · rcases q.1 with ⟨e, e1, e2, -⟩ | ⟨e, e1, e2, -⟩ | ⟨e, e1, e2, -⟩ | ⟨e, e1, e2, -⟩
    · rw [e] at h2; exact absurd h2 (by decide)
    · rw [e] at h2; exact absurd h2 (by decide)
    · rw [e] at h2; exact absurd h2 (by decide)
    · rcases hw.2 with z | z
      · rw [e2] at z; exact absurd z (by decide)
      · exact z
  · have := q3.1
    rw [this] at h2
    exact absurd h2 (by decide)
  · have := q5.1
    rw [this] at h2
    exact absurd h2 (by decide)
theorem SB_w {NB TY : Nat} {w : mm_P} {fa fb lg lf : Int32} (h : TS w NB TY) (hA : 0 < lg.toInt → ∃ t, t < NB ∧ fa = nI t ∧ wthn w t lf) (hB : 1 < lg.toInt → ∃ t, t < NB ∧ fb = nI t ∧ wthn w t lf) : ∀ (k : Nat) {x r : Nat}, x < NB → vd NB TY r → SB NB TY w fa fb k x r → wthn w x lg → wthn w r lf := by
  have hN := h.1.2
  have hT := h.2.1.2
  have base : ∀ {x r : Nat}, x < NB → vd NB TY r → ((w 181 x + w 182 x = 0 ∧ r = x) ∨ (¬ w 181 x + w 182 x = 0 ∧ w 177 x = 2 ∧ nI r = fa) ∨ (¬ w 181 x + w 182 x = 0 ∧ w 177 x = 3 ∧ nI r = fb)) → wthn w x lg → wthn w r lf := by
    intro x r hx hr hs hw
    have hr8 := vd_lt hr hN hT
    rcases hs with ⟨q1, q2⟩ | ⟨-, q1, q2⟩ | ⟨-, q1, q2⟩
    · subst q2
      have i := DT h r (.inl hx)
      have e := mm_addI (x := w 181 r) (y := w 182 r) (by omega) (by omega)
      rw [q1, mm_tt0] at e
      exact ⟨.inl (Int32.toInt_inj.mp (by rw [mm_tt0]; omega)), .inl (Int32.toInt_inj.mp (by rw [mm_tt0]; omega))⟩
    · obtain ⟨t, t1, t2, t3⟩ := hA (wthn_A h (.inl hx) q1 hw)
      have e : r = t := nI_ij (by omega) (by omega) (q2.trans t2)
      subst e
      exact t3
    · obtain ⟨t, t1, t2, t3⟩ := hB (wthn_B h (.inl hx) q1 hw)
      have e : r = t := nI_ij (by omega) (by omega) (q2.trans t2)
      subst e
      exact t3
  intro k
  induction k with
  | zero =>
    intro x r hx hr hs hw
    unfold SB at hs
    exact base hx hr hs hw
  | succ k ih =>
    intro x r hx hr hs hw
    unfold SB at hs
    rcases hs with q | ⟨-, q2, a, r1, q3, q4, q5, q6, q7, q8⟩ | ⟨-, q2, a, b, r1, r2, q3, q4, q5, q6, q7, q8, q9, q10, q11, q12, q13⟩
    · exact base hx hr q hw
    · have h5 := vd_lt q5 hN hT
      refine (wthn_5 h hr q6 q7 (by omega)).mpr (ih (by omega) q5 q8 ((wthn_5 h (.inl hx) q2 q4 (by omega)).mp hw))
    · have h7 := vd_lt q7 hN hT
      have h8 := vd_lt q8 hN hT
      have hp := (wthn_4 h (.inl hx) q2 q5 (by omega) q6 (by omega)).mp hw
      exact (wthn_4 h hr q9 q10 (by omega) q11 (by omega)).mpr ⟨ih (by omega) q7 q12 hp.1, ih (by omega) q8 q13 hp.2⟩
theorem NTy_w {NB ND NF TY f n r : Nat} {w : mm_P} {va vb vc : Int32} (hI : IM w NB ND NF) (h : TS w NB TY) (hf : f < NF) (hr : vd NB TY r) (ha : ∀ a, va = nI a → a < 2 ^ 31 → wthn w a (w 194 f)) (hb : ∀ a, vb = nI a → a < 2 ^ 31 → wthn w a (w 194 f)) (hva : ∀ a, vd NB TY a → a < 2 ^ 31) (hn : NTy NB NF TY w f n va vb vc r) (h6 : w 188 n = 6 → (∃ a, vd NB TY a ∧ va = nI a) ∧ ∃ a, vd NB TY a ∧ vb = nI a) : wthn w r (w 194 f) := by
  obtain ⟨i1, i2, i3, i4, i5, i6, i7, i8, i9, i10⟩ := hI
  have hN := h.1
  have h00 : wthn w 0 (w 194 f) := wthn_0 h (.inl (by omega)) (.inl i7)
  have h01 : wthn w 1 (w 194 f) := wthn_0 h (.inl (by omega)) (.inr i8)
  rcases hn with ⟨-, q⟩ | ⟨-, q⟩ | ⟨-, q⟩ | ⟨-, -, -, q⟩ | ⟨-, -, -, q⟩ | ⟨-, -, -, q⟩ | ⟨q, a4, a5, a6⟩ | ⟨q, a, a1, a2, a3, a4⟩ | ⟨q, a, a1, a2, a3, a4⟩ | ⟨q, qa, qb, t, t1, t2, t3⟩ | ⟨-, q, -⟩ | ⟨-, q, -⟩ | ⟨q, a, a1, a2, a3, a4⟩ | ⟨-, q, -⟩ | ⟨q, g, g1, g2, g2x, g3, g4, x, y, ra, ex, ey, g5, g6, g7, g8, g9, g10⟩
  · subst q; exact h00
  · subst q; exact h01
  · obtain ⟨o1, ⟨x, o2, o3, o4⟩, o5⟩ := i6 f hf
    have e : r = x := nI_ij (hva r hr) (hva x (.inl o2)) (q.symm.trans o3)
    subst e
    exact o4
  · subst q; exact h00
  · subst q; exact h01
  · exact hb r q (hva r hr)
  · obtain ⟨⟨a, b1, b2⟩, ⟨b, b3, b4⟩⟩ := h6 q
    exact (wthn_4 h hr a4 (a5.trans b2) (hva a b1) (a6.trans b4) (hva b b3)).mpr ⟨ha a b2 (hva a b1), hb b b4 (hva b b3)⟩
  · obtain ⟨u, v, u1, v1, u2, v2⟩ := TS_parts4 h a2 a3
    have e : r = u := nI_ij (hva r hr) (hva u u1) (a4.symm.trans u2)
    subst e
    exact ((wthn_4 h a2 a3 a4 (hva r hr) v2 (hva v v1)).mp (ha a a1 (hva a a2))).1
  · obtain ⟨u, v, u1, v1, u2, v2⟩ := TS_parts4 h a2 a3
    exact ((wthn_4 h a2 a3 u2 (hva u u1) a4 (hva r hr)).mp (ha a a1 (hva a a2))).2
  · exact (wthn_5 h hr qa (qb.trans t2) (hva t (.inl t1))).mpr t3
  · exact hb r q (hva r hr)
  · subst q; exact h01
  · exact (wthn_5 h a2 a3 a4 (hva r hr)).mp (ha a a1 (hva a a2))
  · exact ha r q (hva r hr)
  · obtain ⟨o1, -, ⟨z, o2, o3, o4⟩, o5⟩ := i6 g g1
    have e : z = y := nI_ij (hva z (.inl o2)) (hva y (.inl ey)) (o3.symm.trans g6)
    subst e
    exact SB_w h g3 g4 4 ey hr g10 o4
/-- what goThrough() finds is within the letters of its function -/
theorem GT_w {NB ND NF TY f : Nat} {w : mm_P} (hI : IM w NB ND NF) (h : TS w NB TY) (hf : f < NF) (ht : ∀ j, j < ND → tyd NB NF TY w f j) : ∀ j r, j < ND → w 198 j = nI r → vd NB TY r → wthn w r (w 194 f) := by
  have hN := h.1.2
  have hT := h.2.1.2
  have hva : ∀ a, vd NB TY a → a < 2 ^ 31 := fun a q => by
    have := vd_lt q hN hT
    omega
  intro j
  induction j using Nat.strongRecOn with
  | _ j ih =>
    intro r hj hr hv
    have hpart : ∀ i : Int32, 0 ≤ i.toInt → ∀ a, tpv w j i = nI a → a < 2 ^ 31 → wthn w a (w 194 f) ∧ vd NB TY a := fun i i0 a ha ha31 => by
      by_cases hi : i.toInt < (f_parts (w 188 j)).toInt
      · obtain ⟨p, p1, p2, -⟩ := f_part_r (hI.2.2.2.2.1 j hj) i0 hi
        rw [tpv_1 hi, p2, nI_clamp (by have := hI.1.2.1; omega)] at ha
        rcases ht p (by omega) with q | ⟨r', q1, q2, -⟩
        · rw [q] at ha
          have := congrArg Int32.toInt ha
          rw [mm_tI ha31] at this
          have e : (-1 : Int32).toInt = -1 := rfl
          omega
        · have e : a = r' := nI_ij ha31 (hva r' q2) (ha.symm.trans q1)
          subst e
          exact ⟨ih p p1 a (by omega) ha q2, q2⟩
      · rw [tpv_0 (by omega)] at ha
        have := congrArg Int32.toInt ha
        rw [mm_tI ha31] at this
        have e : (-1 : Int32).toInt = -1 := rfl
        omega
    rcases ht j hj with q | ⟨r', q1, q2, q3, q4, q5, q6, q7⟩
    · rw [q] at hr
      have := congrArg Int32.toInt hr
      rw [mm_tI (hva r hv)] at this
      have e : (-1 : Int32).toInt = -1 := rfl
      omega
    · have e : r = r' := nI_ij (hva r hv) (hva r' q2) (hr.symm.trans q1)
      subst e
      refine NTy_w hI h hf hv (fun a a1 a2 => (hpart 0 (by decide) a a1 a2).1) (fun a a1 a2 => (hpart 1 (by decide) a a1 a2).1) hva q7 (fun hk => ?_)
      have hp2 : (f_parts (w 188 j)).toInt = 2 := by rw [hk]; rfl
      have hone : ∀ i : Int32, 0 ≤ i.toInt → i.toInt < 2 → ¬ tpv w j i = -1 → ∃ a, vd NB TY a ∧ tpv w j i = nI a := fun i i0 i1 i2 => by
        have hi : i.toInt < (f_parts (w 188 j)).toInt := by omega
        obtain ⟨p, p1, p2, -⟩ := f_part_r (hI.2.2.2.2.1 j hj) i0 hi
        rw [tpv_1 hi, p2, nI_clamp (by have := hI.1.2.1; omega)] at i2 ⊢
        rcases ht p (by omega) with q | ⟨r', z1, z2, -⟩
        · exact absurd q i2
        · exact ⟨r', z2, z1⟩
      exact ⟨hone 0 (by decide) (by decide) (fun q => q4 ⟨by omega, q⟩), hone 1 (by decide) (by decide) (fun q => q5 ⟨by omega, q⟩)⟩
