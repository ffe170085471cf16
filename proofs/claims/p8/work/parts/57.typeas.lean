/-! ===== typeAs() of the model ===== -/
def vv (NB TY : Nat) (v : Int32) : Prop := ∃ a, vd NB TY a ∧ v = nI a
/-- what the type r of node n in function f rests on, its parts' types being va, vb, vc -/
def NTy (NB NF TY : Nat) (w : mm_P) (f n : Nat) (va vb vc : Int32) (r : Nat) : Prop :=
  (w 188 n = 0 ∧ r = 0) ∨ (w 188 n = 1 ∧ r = 1) ∨ (w 188 n = 2 ∧ w 195 f = nI r) ∨ (w 188 n = 3 ∧ va = 0 ∧ vb = 0 ∧ r = 0) ∨ (w 188 n = 4 ∧ va = 0 ∧ vb = 0 ∧ r = 1) ∨ (w 188 n = 5 ∧ va = 1 ∧ vb = vc ∧ vb = nI r) ∨ (w 188 n = 6 ∧ w 177 r = 4 ∧ w 178 r = va ∧ w 179 r = vb) ∨ (w 188 n = 7 ∧ ∃ a, va = nI a ∧ vd NB TY a ∧ w 177 a = 4 ∧ w 178 a = nI r) ∨ (w 188 n = 8 ∧ ∃ a, va = nI a ∧ vd NB TY a ∧ w 177 a = 4 ∧ w 179 a = nI r) ∨ (w 188 n = 9 ∧ w 177 r = 5 ∧ w 178 r = w 189 n ∧ ∃ t, t < NB ∧ w 189 n = nI t ∧ wthn w t (w 194 f)) ∨ (w 188 n = 10 ∧ vb = nI r ∧ w 177 r = 5 ∧ w 178 r = va) ∨ (w 188 n = 11 ∧ r = 1 ∧ ∃ a, va = nI a ∧ vd NB TY a ∧ w 177 a = 5) ∨ (w 188 n = 12 ∧ ∃ a, va = nI a ∧ vd NB TY a ∧ w 177 a = 5 ∧ w 178 a = nI r) ∨ (w 188 n = 13 ∧ va = nI r ∧ w 177 r = 5) ∨ (w 188 n = 14 ∧ CT NB NF TY w f n r)
theorem TS_parts4 {m : mm_P} {NB TY t : Nat} (h : TS m NB TY) (ht : vd NB TY t) (h4 : m 177 t = 4) : ∃ a b, vd NB TY a ∧ vd NB TY b ∧ m 178 t = nI a ∧ m 179 t = nI b := by
  rcases h.2.2.2.2.2.2 t ht with q | ⟨a, -, -, q3⟩ | ⟨a, b, q1, q2, q3, q4, q5⟩
  · exact absurd h4 (bs_45 q).1
  · have := q3.1
    rw [h4] at this
    exact absurd this (by decide)
  · exact ⟨a, b, q1, q3, q5.2.1, q5.2.2.1⟩
theorem TS_parts5 {m : mm_P} {NB TY t : Nat} (h : TS m NB TY) (ht : vd NB TY t) (h5 : m 177 t = 5) : ∃ a, vd NB TY a ∧ m 178 t = nI a := by
  rcases h.2.2.2.2.2.2 t ht with q | ⟨a, q1, -, q3⟩ | ⟨a, b, q1, q2, q3, q4, q5⟩
  · exact absurd h5 (bs_45 q).2
  · exact ⟨a, q1, q3.2.1⟩
  · have := q5.1
    rw [h5] at this
    exact absurd this (by decide)
theorem f_parts_v : f_parts 3 = 2 ∧ f_parts 4 = 2 ∧ f_parts 5 = 3 ∧ f_parts 6 = 2 ∧ f_parts 7 = 1 ∧ f_parts 8 = 1 ∧ f_parts 9 = 0 ∧ f_parts 10 = 2 ∧ f_parts 11 = 1 ∧ f_parts 12 = 1 ∧ f_parts 13 = 1 ∧ f_parts 14 = 1 := by decide
section MMT
variable {L : Nat} {xs : Nat → Int32} {d : Nat} {Q : mm_QQ} {mi : mm_P} {ml : mm_G} {lim : Nat × Nat}
theorem sp_typeAs {f n NB ND NF TY : Nat} {va vb vc : Int32} (hI : IM mi NB ND NF) (hT : TS mi NB TY) (hf : f < NF) (hn : n < ND) (hb : TY ≤ 7970) (ha1 : 1 ≤ (f_parts (mi 188 n)).toInt → vv NB TY va) (ha2 : 2 ≤ (f_parts (mi 188 n)).toInt → vv NB TY vb) (ha3 : 3 ≤ (f_parts (mi 188 n)).toInt → vv NB TY vc) (hQ : ∀ w v TZ, TS w NB TZ → TY ≤ TZ → TZ ≤ TY + 30 → MKP TY mi w → (v = -1 ∨ ∃ r, v = nI r ∧ vd NB TZ r ∧ NTy NB NF TZ w f n va vb vc r) → Q (some (mm_I v)) w ml) : mm_cq (mm_call mm_ms (mm_tb L xs) (d + 7)) 193 [mm_R 176, mm_I (nI f), mm_I (nI n), mm_I va, mm_I vb, mm_I vc] mi ml Q := by
  obtain ⟨⟨⟨i1, i2⟩, i3, i4⟩, i5, i6, i7, i8, i9, i10⟩ := id hI
  obtain ⟨b1, b2, b3, b4, b5⟩ := i8 n hn
  obtain ⟨o1, ⟨x, o2, o3, o4⟩, o5, o6⟩ := i9 f hf
  obtain ⟨t1, ⟨t2, t3⟩, -⟩ := id hT
  obtain ⟨p3, p4, p5, p6, p7, p8, p9, p10, p11, p12, p13, p14⟩ := f_parts_v
  have vn : vp_in (nI n) 200 := vp_in_nI (by omega) (by decide)
  have en : (nI n).toNatClampNeg = n := nI_clamp (by omega)
  have efc : (nI f).toNatClampNeg = f := nI_clamp (by omega)
  have vf : vp_in (nI f) 12 := vp_in_nI (by omega) (by decide)
  have hno : Q (some (mm_I (-1))) mi ml := hQ mi (-1) TY hT (Nat.le_refl _) (by omega) MKP_r (.inl rfl)
  have hok : ∀ r, vd NB TY r → NTy NB NF TY mi f n va vb vc r → Q (some (mm_I (nI r))) mi ml := fun r hr hN => hQ mi (nI r) TY hT (Nat.le_refl _) (by omega) MKP_r (.inr ⟨r, rfl, hr, hN⟩)
  have v0 : vd NB TY 0 := .inl (by omega)
  have v1 : vd NB TY 1 := .inl (by omega)
  have g1 : ∀ {k : Int32} {c : Int32}, mi 188 n = k → f_parts k = c → 1 ≤ c.toInt → ∃ a, vd NB TY a ∧ va = nI a ∧ a < 8000 ∧ (nI a).toNatClampNeg = a := fun e1 e2 h1 => by
    obtain ⟨a, q1, q2⟩ := ha1 (by rw [e1, e2]; exact h1)
    have := vd_lt q1 i2 t3
    exact ⟨a, q1, q2, this, nI_clamp (by omega)⟩
  have g2 : ∀ {k : Int32} {c : Int32}, mi 188 n = k → f_parts k = c → 2 ≤ c.toInt → ∃ a, vd NB TY a ∧ vb = nI a ∧ a < 8000 ∧ (nI a).toNatClampNeg = a := fun e1 e2 h1 => by
    obtain ⟨a, q1, q2⟩ := ha2 (by rw [e1, e2]; exact h1)
    have := vd_lt q1 i2 t3
    exact ⟨a, q1, q2, this, nI_clamp (by omega)⟩
  refine en_X12_typeAs (bk_X12_typeAs_0 (mm_call_m _) vn ?_ ?_ ?_ ?_ ?_ ?_ ?_ ?_ ?_ ?_ ?_ ?_ ?_ ?_ ?_ ?_ ?_ ?_ ?_ ?_ ?_ ?_ ?_ ?_ ?_ ?_ ?_ ?_ ?_ ?_ ?_ ?_ ?_ ?_ ?_ ?_ ?_ ?_ ?_ ?_ ?_) <;> rw [en]
  · exact fun k => hok 0 v0 (.inl ⟨k, rfl⟩)
  · exact fun k => hok 1 v1 (.inr (.inl ⟨k, rfl⟩))
  · exact fun _ => vf
  · intro k
    rw [efc, o3]
    exact hok x (.inl o2) (.inr (.inr (.inl ⟨k, o3⟩)))
  · exact fun _ _ => bk_X12_typeAs_100 (mm_call_m _) hno
  · exact fun _ _ _ => bk_X12_typeAs_100 (mm_call_m _) hno
  · exact fun k c1 c2 => hok 0 v0 (.inr (.inr (.inr (.inl ⟨k, c1, c2, rfl⟩))))
  · exact fun _ _ => bk_X12_typeAs_115 (mm_call_m _) hno
  · exact fun _ _ _ => bk_X12_typeAs_115 (mm_call_m _) hno
  · exact fun k c1 c2 => hok 1 v1 (.inr (.inr (.inr (.inr (.inl ⟨k, c1, c2, rfl⟩)))))
  · exact fun _ _ => bk_X12_typeAs_134 (mm_call_m _) hno
  · exact fun _ _ _ => bk_X12_typeAs_134 (mm_call_m _) hno
  · intro k c1 c2
    obtain ⟨b, q1, q2, -⟩ := g2 k p5 (by decide)
    rw [q2]
    exact hok b q1 (.inr (.inr (.inr (.inr (.inr (.inl ⟨k, c1, c2, q2⟩))))))
  · intro k
    obtain ⟨a, a1, a2, -⟩ := g1 k p6 (by decide)
    obtain ⟨b, q1, q2, -⟩ := g2 k p6 (by decide)
    rw [a2, q2]
    refine sp_made4 hT (by omega) a1 q1 (fun w t TZ w1 w2 w3 w4 w5 w6 w7 w8 w9 => bk_X12_typeAs_144 (mm_call_m _) (hQ w (nI t) TZ w1 w3 (by omega) (MKP_k MKP_r (Nat.le_refl _) w2) (.inr ⟨t, rfl, w6, .inr (.inr (.inr (.inr (.inr (.inr (.inl ⟨?_, w7, ?_, ?_⟩))))))⟩)))
    · exact (MKP_h (MKP_k MKP_r (Nat.le_refl _) w2) (by decide)).trans k
    · exact w8.trans a2.symm
    · exact w9.trans q2.symm
  · intro k
    obtain ⟨a, a1, a2, a3, a4⟩ := g1 k p7 (by decide)
    rw [a2]
    exact vp_in_nI a3 (by decide)
  · exact fun _ _ => hno
  · intro k _
    obtain ⟨a, a1, a2, a3, a4⟩ := g1 k p7 (by decide)
    rw [a2]
    exact vp_in_nI a3 (by decide)
  · intro k c
    obtain ⟨a, a1, a2, a3, a4⟩ := g1 k p7 (by decide)
    rw [a2, a4] at c ⊢
    obtain ⟨u, v, u1, v1', u2, v2⟩ := TS_parts4 hT a1 c
    rw [u2]
    exact hok u u1 (.inr (.inr (.inr (.inr (.inr (.inr (.inr (.inl ⟨k, a, a2, a1, c, u2⟩))))))))
  · intro k
    obtain ⟨a, a1, a2, a3, a4⟩ := g1 k p8 (by decide)
    rw [a2]
    exact vp_in_nI a3 (by decide)
  · exact fun _ _ => hno
  · intro k _
    obtain ⟨a, a1, a2, a3, a4⟩ := g1 k p8 (by decide)
    rw [a2]
    exact vp_in_nI a3 (by decide)
  · intro k c
    obtain ⟨a, a1, a2, a3, a4⟩ := g1 k p8 (by decide)
    rw [a2, a4] at c ⊢
    obtain ⟨u, v, u1, v1', u2, v2⟩ := TS_parts4 hT a1 c
    rw [v2]
    exact hok v v1' (.inr (.inr (.inr (.inr (.inr (.inr (.inr (.inr (.inl ⟨k, a, a2, a1, c, v2⟩)))))))))
  · exact fun _ => vn
  · exact fun _ => vf
  · intro k
    obtain ⟨t, q1, q2⟩ := b4 k
    rw [efc, q2]
    refine sp_X12_isWithin (by omega) (fun hW => bk_X12_typeAs_203 (s0 := 1) (mm_call_m _) (fun z => absurd z (by decide)) (fun _ => vn) (fun _ => ?_)) (fun _ => bk_X12_typeAs_203 (s0 := 0) (mm_call_m _) (fun _ => hno) (fun z => absurd rfl z) (fun z => absurd rfl z))
    rw [en, q2]
    refine sp_made5 hT (by omega) (.inl q1) (fun w t' TZ w1 w2 w3 w4 w5 w6 w7 w8 => bk_X12_typeAs_218 (mm_call_m _) (hQ w (nI t') TZ w1 w3 (by omega) (MKP_k MKP_r (Nat.le_refl _) w2) (.inr ⟨t', rfl, w6, .inr (.inr (.inr (.inr (.inr (.inr (.inr (.inr (.inr (.inl ⟨?_, w7, ?_, t, q1, ?_, ?_⟩)))))))))⟩)))
    · exact (MKP_h (MKP_k MKP_r (Nat.le_refl _) w2) (by decide)).trans k
    · rw [MKP_h (MKP_k MKP_r (Nat.le_refl _) w2) (c := 189) (by decide), q2]
      exact w8
    · exact (MKP_h (MKP_k MKP_r (Nat.le_refl _) w2) (by decide)).trans q2
    · unfold wthn
      have hm2 := MKP_k (MKP_r (TY := TY)) (Nat.le_refl _) w2
      rw [MKP_h hm2 (c := 194) (by decide), MKP_v hm2 i2 t2 (.inl q1) (c := 181) (by decide) (by decide), MKP_v hm2 i2 t2 (.inl q1) (c := 182) (by decide) (by decide)]
      exact hW
  · intro k
    obtain ⟨b, q1, q2, q3, q4⟩ := g2 k p10 (by decide)
    rw [q2]
    exact vp_in_nI q3 (by decide)
  · exact fun _ _ => bk_X12_typeAs_250 (mm_call_m _) hno
  · intro k _
    obtain ⟨b, q1, q2, q3, q4⟩ := g2 k p10 (by decide)
    rw [q2]
    exact vp_in_nI q3 (by decide)
  · exact fun _ _ _ => bk_X12_typeAs_250 (mm_call_m _) hno
  · intro k c1 c2
    obtain ⟨b, q1, q2, q3, q4⟩ := g2 k p10 (by decide)
    rw [q2, q4] at c1 c2
    rw [q2]
    exact hok b q1 (.inr (.inr (.inr (.inr (.inr (.inr (.inr (.inr (.inr (.inr (.inl ⟨k, q2, c1, c2⟩)))))))))))
  · intro k
    obtain ⟨a, a1, a2, a3, a4⟩ := g1 k p11 (by decide)
    rw [a2]
    exact vp_in_nI a3 (by decide)
  · exact fun _ _ => hno
  · intro k c
    obtain ⟨a, a1, a2, a3, a4⟩ := g1 k p11 (by decide)
    rw [a2, a4] at c
    exact hok 1 v1 (.inr (.inr (.inr (.inr (.inr (.inr (.inr (.inr (.inr (.inr (.inr (.inl ⟨k, rfl, a, a2, a1, c⟩))))))))))))
  · intro k
    obtain ⟨a, a1, a2, a3, a4⟩ := g1 k p12 (by decide)
    rw [a2]
    exact vp_in_nI a3 (by decide)
  · exact fun _ _ => hno
  · intro k _
    obtain ⟨a, a1, a2, a3, a4⟩ := g1 k p12 (by decide)
    rw [a2]
    exact vp_in_nI a3 (by decide)
  · intro k c
    obtain ⟨a, a1, a2, a3, a4⟩ := g1 k p12 (by decide)
    rw [a2, a4] at c ⊢
    obtain ⟨u, u1, u2⟩ := TS_parts5 hT a1 c
    rw [u2]
    exact hok u u1 (.inr (.inr (.inr (.inr (.inr (.inr (.inr (.inr (.inr (.inr (.inr (.inr (.inl ⟨k, a, a2, a1, c, u2⟩)))))))))))))
  · intro k
    obtain ⟨a, a1, a2, a3, a4⟩ := g1 k p13 (by decide)
    rw [a2]
    exact vp_in_nI a3 (by decide)
  · exact fun _ _ => hno
  · intro k c
    obtain ⟨a, a1, a2, a3, a4⟩ := g1 k p13 (by decide)
    rw [a2, a4] at c
    rw [a2]
    exact hok a a1 (.inr (.inr (.inr (.inr (.inr (.inr (.inr (.inr (.inr (.inr (.inr (.inr (.inr (.inl ⟨k, a2, c⟩))))))))))))))
  · intro k0 k1 k2 k3 k4 k5 k6 k7 k8 k9 k10 k11 k12 k13
    have k14 : mi 188 n = 14 := by
      rcases (show (mi 188 n).toInt < 15 ∧ 0 ≤ (mi 188 n).toInt by omega) with ⟨q1, q2⟩
      obtain ⟨j, ej, j1, j2, -⟩ := mm_of q2 q1
      rw [ej] at k0 k1 k2 k3 k4 k5 k6 k7 k8 k9 k10 k11 k12 k13 ⊢
      have : j = 14 := by
        rcases (show j = 0 ∨ j = 1 ∨ j = 2 ∨ j = 3 ∨ j = 4 ∨ j = 5 ∨ j = 6 ∨ j = 7 ∨ j = 8 ∨ j = 9 ∨ j = 10 ∨ j = 11 ∨ j = 12 ∨ j = 13 ∨ j = 14 by omega) with rfl | rfl | rfl | rfl | rfl | rfl | rfl | rfl | rfl | rfl | rfl | rfl | rfl | rfl | rfl
        · exact absurd rfl k0
        · exact absurd rfl k1
        · exact absurd rfl k2
        · exact absurd rfl k3
        · exact absurd rfl k4
        · exact absurd rfl k5
        · exact absurd rfl k6
        · exact absurd rfl k7
        · exact absurd rfl k8
        · exact absurd rfl k9
        · exact absurd rfl k10
        · exact absurd rfl k11
        · exact absurd rfl k12
        · exact absurd rfl k13
        · rfl
      subst this
      rfl
    refine sp_callType hI hT hf hn k14 hb (fun w v TZ w1 w2 w3 w4 w5 => bk_X12_typeAs_311 (mm_call_m _) (hQ w v TZ w1 w2 w3 w4 ?_))
    rcases w5 with q | ⟨r, q1, q2, q3⟩
    · exact .inl q
    · exact .inr ⟨r, q1, q2, .inr (.inr (.inr (.inr (.inr (.inr (.inr (.inr (.inr (.inr (.inr (.inr (.inr (.inr ⟨(MKP_h w4 (by decide)).trans k14, q3⟩)))))))))))))⟩
end MMT
