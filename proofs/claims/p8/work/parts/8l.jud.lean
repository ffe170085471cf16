/-! ===== typeAs() of the model: what it finds ===== -/
/-- a part with a type v of shape x -/
def tv (NB TY : Nat) (w : mm_P) (v : Int32) (x : Int64) : Prop := ∃ a, vd NB TY a ∧ v = nI a ∧ (w 180 a).toInt ≤ 5 ∧ SHV w a = x
section MTA
variable {NB TY : Nat} {w : mm_P}
theorem tv_iff {v u : Int32} {x y : Int64} (hW : WTY NB TY w) (hU : TU NB TY w) (h : tv NB TY w v x) (h2 : tv NB TY w u y) : x = y ↔ v = u := by
  obtain ⟨a, a1, a2, a3, a4⟩ := h
  obtain ⟨b, b1, b2, b3, b4⟩ := h2
  rw [← a4, ← b4, a2, b2]
  exact SHV_iff hW hU a1 b1 a3
theorem SHV_k4 {a : Nat} (hW : WTY NB TY w) (ha : vd NB TY a) (hd : (w 180 a).toInt ≤ 5) (h4 : w 177 a = 4) : ∃ u v, vd NB TY u ∧ vd NB TY v ∧ w 178 a = nI u ∧ w 179 a = nI v ∧ f_fs (SHV w a) = SHV w u ∧ f_sc (SHV w a) = SHV w v := by
  obtain ⟨k1, ⟨b, -, -⟩ | ⟨c, -, -, c3, -⟩ | ⟨c, e, c1, c2, e1, e2, c3, c4, e4, -⟩⟩ := SHV_k hW ha hd
  · exact absurd h4 (bs_45 b).1
  · have := c3.1
    rw [h4] at this
    exact absurd this (by decide)
  · exact ⟨c, e, c2, e2, c3.2.1, c3.2.2.1, c4, e4⟩
theorem SHV_k5 {a : Nat} (hW : WTY NB TY w) (ha : vd NB TY a) (hd : (w 180 a).toInt ≤ 5) (h5 : w 177 a = 5) : ∃ u, vd NB TY u ∧ w 178 a = nI u ∧ f_fs (SHV w a) = SHV w u := by
  obtain ⟨k1, ⟨b, -, -⟩ | ⟨c, c1, c2, c3, c4, -⟩ | ⟨c, e, -, -, -, -, c3, -⟩⟩ := SHV_k hW ha hd
  · exact absurd h5 (bs_45 b).2
  · exact ⟨c, c2, c3.2.1, c4⟩
  · have := c3.1
    rw [h5] at this
    exact absurd this (by decide)
/-- b is the LIST of a -/
theorem SHV_link {a b : Nat} (hW : WTY NB TY w) (hU : TU NB TY w) (ha : vd NB TY a) (da : (w 180 a).toInt ≤ 5) (hb : vd NB TY b) (db : (w 180 b).toInt ≤ 5) : SHV w b = f_ls (SHV w a) ↔ (w 177 b = 5 ∧ w 178 b = nI a) := by
  constructor
  · intro e
    have h0 := (SHV_r hW hb db).1
    have ra := (SHV_r hW ha da).1
    have hlt : (SHV w a).toInt < 390624 := by
      by_cases c : (SHV w a).toInt < 390624
      · exact c
      · have := f_ls_no (x := SHV w a) ⟨by omega, ra.2⟩
        rw [e, this, mm_lln] at h0
        omega
    obtain ⟨x1, x2, x3, x4, x5⟩ := f_ls_ok ⟨ra.1, hlt⟩
    have k7 : w 177 b = 5 := by rw [← (SHV_k hW hb db).1, e]; exact x2
    obtain ⟨u, u1, u2, u3⟩ := SHV_k5 hW hb db k7
    refine ⟨k7, ?_⟩
    rw [u2]
    rw [e, x3] at u3
    exact ((SHV_iff hW hU ha u1 da).mp u3).symm
  · exact fun e => SHV_of5 hW hb ha e.1 e.2
end MTA
section MMT
variable {L : Nat} {xs : Nat → Int32} {d : Nat} {Q : mm_QQ} {mi : mm_P} {ml : mm_G} {lim : Nat × Nat}
theorem sx_typeAs {f n NB ND NF TY : Nat} {va vb vc : Int32} {A B C : Int64} (hI : IM mi NB ND NF) (hT : TX mi NB TY) (hC : TC NB mi ml) (hf : f < NF) (hn : n < ND) (hb : TY ≤ 7970) (ha1 : 1 ≤ (f_parts (mi 188 n)).toInt → tv NB TY mi va A) (ha2 : 2 ≤ (f_parts (mi 188 n)).toInt → tv NB TY mi vb B) (ha3 : 3 ≤ (f_parts (mi 188 n)).toInt → tv NB TY mi vc C) (hva : mi 188 n = 14 → va = mi 198 (mi 190 n).toNatClampNeg) (hQ : ∀ w v TZ, TX w NB TZ → TY ≤ TZ → TZ ≤ TY + 30 → MKP TY mi w → ((v = -1 ∧ FSH NF mi ml f n A B C = -1) ∨ ∃ r, v = nI r ∧ vd NB TZ r ∧ SHV w r = FSH NF mi ml f n A B C) → Q (some (mm_I v)) w ml) : mm_cq (mm_call mm_ms (mm_tb L xs) (d + 7)) 193 [mm_R 176, mm_I (nI f), mm_I (nI n), mm_I va, mm_I vb, mm_I vc] mi ml Q := by
  obtain ⟨⟨⟨i1, i2⟩, i3, i4⟩, i5, i6, i7, i8, i9, i10⟩ := id hI
  obtain ⟨b1, b2, b3, b4, b5⟩ := i8 n hn
  obtain ⟨o1, ⟨x, o2, o3, o4⟩, o5, o6⟩ := i9 f hf
  obtain ⟨t1, ⟨t2, t3⟩, -⟩ := id hT.1
  have hW := TX_W hT
  have hU := hT.2.2
  obtain ⟨s0, s1⟩ := SHV_01 hI hW
  obtain ⟨p3, p4, p5, p6, p7, p8, p9, p10, p11, p12, p13, p14⟩ := f_parts_v
  have vn : vp_in (nI n) 200 := vp_in_nI (by omega) (by decide)
  have en : (nI n).toNatClampNeg = n := nI_clamp (by omega)
  have efc : (nI f).toNatClampNeg = f := nI_clamp (by omega)
  have vf : vp_in (nI f) 12 := vp_in_nI (by omega) (by decide)
  have hno : FSH NF mi ml f n A B C = -1 → Q (some (mm_I (-1))) mi ml := fun e => hQ mi (-1) TY hT (Nat.le_refl _) (by omega) MKP_r (.inl ⟨rfl, e⟩)
  have hok : ∀ r, vd NB TY r → SHV mi r = FSH NF mi ml f n A B C → Q (some (mm_I (nI r))) mi ml := fun r hr hN => hQ mi (nI r) TY hT (Nat.le_refl _) (by omega) MKP_r (.inr ⟨r, rfl, hr, hN⟩)
  have v0 : vd NB TY 0 := .inl (by omega)
  have v1 : vd NB TY 1 := .inl (by omega)
  have d0 : (mi 180 0).toInt ≤ 5 := (i7 0 (by omega)).1.2
  have d1 : (mi 180 1).toInt ≤ 5 := (i7 1 (by omega)).1.2
  have y0 : tv NB TY mi 0 0 := ⟨0, v0, rfl, d0, s0⟩
  have y1 : tv NB TY mi 1 1 := ⟨1, v1, rfl, d1, s1⟩
  have g1 : ∀ {k : Int32} {c : Int32}, mi 188 n = k → f_parts k = c → 1 ≤ c.toInt → tv NB TY mi va A := fun e1 e2 h1 => ha1 (by rw [e1, e2]; exact h1)
  have g2 : ∀ {k : Int32} {c : Int32}, mi 188 n = k → f_parts k = c → 2 ≤ c.toInt → tv NB TY mi vb B := fun e1 e2 h1 => ha2 (by rw [e1, e2]; exact h1)
  have g3 : ∀ {k : Int32} {c : Int32}, mi 188 n = k → f_parts k = c → 3 ≤ c.toInt → tv NB TY mi vc C := fun e1 e2 h1 => ha3 (by rw [e1, e2]; exact h1)
  have g8 : ∀ {v : Int32} {y : Int64}, tv NB TY mi v y → ∃ a, vd NB TY a ∧ v = nI a ∧ (mi 180 a).toInt ≤ 5 ∧ SHV mi a = y ∧ a < 8000 ∧ (nI a).toNatClampNeg = a := fun h => by
    obtain ⟨a, q1, q2, q3, q4⟩ := h
    have := vd_lt q1 i2 t3
    exact ⟨a, q1, q2, q3, q4, this, nI_clamp (by omega)⟩
  have hvp : ∀ {v : Int32} {y : Int64}, tv NB TY mi v y → vp_in v 8000 := fun h => by
    obtain ⟨a, a1, a2, a3, a4, a5, a6⟩ := g8 h
    rw [a2]
    exact vp_in_nI a5 (by decide)
  have hkd : ∀ {v : Int32} {y : Int64}, tv NB TY mi v y → f_kd y = mi 177 v.toNatClampNeg := fun h => by
    obtain ⟨a, a1, a2, a3, a4, a5, a6⟩ := g8 h
    rw [a2, a6, ← a4]
    exact (SHV_k hW a1 a3).1
  refine en_X12_typeAs (bk_X12_typeAs_0 (mm_call_m _) vn ?_ ?_ ?_ ?_ ?_ ?_ ?_ ?_ ?_ ?_ ?_ ?_ ?_ ?_ ?_ ?_ ?_ ?_ ?_ ?_ ?_ ?_ ?_ ?_ ?_ ?_ ?_ ?_ ?_ ?_ ?_ ?_ ?_ ?_ ?_ ?_ ?_ ?_ ?_ ?_ ?_) <;> rw [en]
  · exact fun k => hok 0 v0 (by rw [FSH_0 k]; exact s0)
  · exact fun k => hok 1 v1 (by rw [FSH_1 k]; exact s1)
  · exact fun _ => vf
  · intro k
    have e := FSH_2 (NF := NF) (ml := ml) (f := f) (a := A) (b := B) (c := C) k
    rw [o3, nI_clamp (by omega)] at e
    rw [efc, o3]
    exact hok x (.inl o2) (by rw [e]; exact SHV_ml hW hC o2)
  · exact fun k c => bk_X12_typeAs_100 (mm_call_m _) (hno (by rw [FSH_3 k, if_neg (fun z => c ((tv_iff hW hU (g1 k p3 (by decide)) y0).mp z.1))]))
  · exact fun k _ c => bk_X12_typeAs_100 (mm_call_m _) (hno (by rw [FSH_3 k, if_neg (fun z => c ((tv_iff hW hU (g2 k p3 (by decide)) y0).mp z.2))]))
  · exact fun k c1 c2 => hok 0 v0 (by rw [FSH_3 k, if_pos ⟨(tv_iff hW hU (g1 k p3 (by decide)) y0).mpr c1, (tv_iff hW hU (g2 k p3 (by decide)) y0).mpr c2⟩]; exact s0)
  · exact fun k c => bk_X12_typeAs_115 (mm_call_m _) (hno (by rw [FSH_4 k, if_neg (fun z => c ((tv_iff hW hU (g1 k p4 (by decide)) y0).mp z.1))]))
  · exact fun k _ c => bk_X12_typeAs_115 (mm_call_m _) (hno (by rw [FSH_4 k, if_neg (fun z => c ((tv_iff hW hU (g2 k p4 (by decide)) y0).mp z.2))]))
  · exact fun k c1 c2 => hok 1 v1 (by rw [FSH_4 k, if_pos ⟨(tv_iff hW hU (g1 k p4 (by decide)) y0).mpr c1, (tv_iff hW hU (g2 k p4 (by decide)) y0).mpr c2⟩]; exact s1)
  · exact fun k c => bk_X12_typeAs_134 (mm_call_m _) (hno (by rw [FSH_5 k, if_neg (fun z => c ((tv_iff hW hU (g1 k p5 (by decide)) y1).mp z.1))]))
  · exact fun k _ c => bk_X12_typeAs_134 (mm_call_m _) (hno (by rw [FSH_5 k, if_neg (fun z => c ((tv_iff hW hU (g2 k p5 (by decide)) (g3 k p5 (by decide))).mp z.2))]))
  · intro k c1 c2
    have hB := g2 k p5 (by decide)
    have e : FSH NF mi ml f n A B C = B := by rw [FSH_5 k, if_pos ⟨(tv_iff hW hU (g1 k p5 (by decide)) y1).mpr c1, (tv_iff hW hU hB (g3 k p5 (by decide))).mpr c2⟩]
    obtain ⟨b, q1, q2, q3, q4, -⟩ := g8 hB
    rw [q2]
    exact hok b q1 (q4.trans e.symm)
  · intro k
    obtain ⟨a, a1, a2, a3, a4, -⟩ := g8 (g1 k p6 (by decide))
    obtain ⟨b, q1, q2, q3, q4, -⟩ := g8 (g2 k p6 (by decide))
    rw [a2, q2]
    refine sx_made4 hT (by omega) a1 q1 (fun w t TZ w1 w2 w3 w4 w5 w6 w7 w8 w9 => bk_X12_typeAs_144 (mm_call_m _) (hQ w (nI t) TZ w1 w3 (by omega) (MKP_k MKP_r (Nat.le_refl _) w2) (.inr ⟨t, rfl, w6, ?_⟩)))
    have hv : ∀ t, vd NB TY t → ∀ c, 177 ≤ c → c ≤ 183 → w c t = mi c t := fun t ht c h1 h2 => MKP_v (MKP_k MKP_r (Nat.le_refl _) w2) i2 t2 ht h1 h2
    rw [FSH_6 k, SHV_of4 (TX_W w1) w6 (vd_le a1 w3) (vd_le q1 w3) w7 w8 w9, SHV_c hW hv a1, SHV_c hW hv q1, a4, q4]
  · exact fun k => hvp (g1 k p7 (by decide))
  · exact fun k c => hno (by rw [FSH_7 k, if_neg (fun z => c ((hkd (g1 k p7 (by decide))).symm.trans z))])
  · exact fun k _ => hvp (g1 k p7 (by decide))
  · intro k c
    have hA := g1 k p7 (by decide)
    have e : FSH NF mi ml f n A B C = f_fs A := by rw [FSH_7 k, if_pos ((hkd hA).trans c)]
    obtain ⟨a, a1, a2, a3, a4, a5, a6⟩ := g8 hA
    rw [a2, a6] at c ⊢
    obtain ⟨u, v, u1, v1', u2, v2, u3, v3⟩ := SHV_k4 hW a1 a3 c
    rw [u2]
    exact hok u u1 (by rw [e, ← a4]; exact u3.symm)
  · exact fun k => hvp (g1 k p8 (by decide))
  · exact fun k c => hno (by rw [FSH_8 k, if_neg (fun z => c ((hkd (g1 k p8 (by decide))).symm.trans z))])
  · exact fun k _ => hvp (g1 k p8 (by decide))
  · intro k c
    have hA := g1 k p8 (by decide)
    have e : FSH NF mi ml f n A B C = f_sc A := by rw [FSH_8 k, if_pos ((hkd hA).trans c)]
    obtain ⟨a, a1, a2, a3, a4, a5, a6⟩ := g8 hA
    rw [a2, a6] at c ⊢
    obtain ⟨u, v, u1, v1', u2, v2, u3, v3⟩ := SHV_k4 hW a1 a3 c
    rw [v2]
    exact hok v v1' (by rw [e, ← a4]; exact v3.symm)
  · exact fun _ => vn
  · exact fun _ => vf
  · intro k
    obtain ⟨t, q1, q2⟩ := b4 k
    have et : (mi 189 n).toNatClampNeg = t := by rw [q2, nI_clamp (by omega)]
    have e9 := FSH_9 (NF := NF) (ml := ml) (f := f) (a := A) (b := B) (c := C) k
    rw [et] at e9
    rw [efc, q2]
    refine sp_X12_isWithin (by omega) (fun hWt => bk_X12_typeAs_203 (s0 := 1) (mm_call_m _) (fun z => absurd z (by decide)) (fun _ => vn) (fun _ => ?_)) (fun hWt => bk_X12_typeAs_203 (s0 := 0) (mm_call_m _) (fun _ => hno (by rw [e9, pik_f hWt])) (fun z => absurd rfl z) (fun z => absurd rfl z))
    rw [en, q2]
    refine sx_made5 hT (by omega) (.inl q1) (fun w t' TZ w1 w2 w3 w4 w5 w6 w7 w8 => bk_X12_typeAs_218 (mm_call_m _) (hQ w (nI t') TZ w1 w3 (by omega) (MKP_k MKP_r (Nat.le_refl _) w2) (.inr ⟨t', rfl, w6, ?_⟩)))
    have hv : ∀ t, vd NB TY t → ∀ c, 177 ≤ c → c ≤ 183 → w c t = mi c t := fun t ht c h1 h2 => MKP_v (MKP_k MKP_r (Nat.le_refl _) w2) i2 t2 ht h1 h2
    rw [e9, pik_t hWt, SHV_of5 (TX_W w1) w6 (.inl q1) w7 w8, SHV_c hW hv (.inl q1), SHV_ml hW hC q1]
  · exact fun k => hvp (g2 k p10 (by decide))
  · intro k c
    obtain ⟨a, a1, a2, a3, a4, a5, a6⟩ := g8 (g1 k p10 (by decide))
    obtain ⟨b, q1, q2, q3, q4, q5, q6⟩ := g8 (g2 k p10 (by decide))
    rw [q2, q6] at c
    refine bk_X12_typeAs_250 (mm_call_m _) (hno ?_)
    rw [FSH_10 k, if_neg (fun z => c ((SHV_link hW hU a1 a3 q1 q3).mp (by rw [a4, q4]; exact z)).1)]
  · exact fun k _ => hvp (g2 k p10 (by decide))
  · intro k c1 c2
    obtain ⟨a, a1, a2, a3, a4, a5, a6⟩ := g8 (g1 k p10 (by decide))
    obtain ⟨b, q1, q2, q3, q4, q5, q6⟩ := g8 (g2 k p10 (by decide))
    rw [q2, q6, a2] at c2
    refine bk_X12_typeAs_250 (mm_call_m _) (hno ?_)
    rw [FSH_10 k, if_neg (fun z => c2 ((SHV_link hW hU a1 a3 q1 q3).mp (by rw [a4, q4]; exact z)).2)]
  · intro k c1 c2
    obtain ⟨a, a1, a2, a3, a4, a5, a6⟩ := g8 (g1 k p10 (by decide))
    obtain ⟨b, q1, q2, q3, q4, q5, q6⟩ := g8 (g2 k p10 (by decide))
    rw [q2, q6] at c1 c2
    rw [a2] at c2
    have z := (SHV_link hW hU a1 a3 q1 q3).mpr ⟨c1, c2⟩
    rw [q2]
    exact hok b q1 (by rw [FSH_10 k, if_pos (by rw [← a4, ← q4]; exact z)]; exact q4)
  · exact fun k => hvp (g1 k p11 (by decide))
  · exact fun k c => hno (by rw [FSH_11 k, if_neg (fun z => c ((hkd (g1 k p11 (by decide))).symm.trans z))])
  · exact fun k c => hok 1 v1 (by rw [FSH_11 k, if_pos ((hkd (g1 k p11 (by decide))).trans c)]; exact s1)
  · exact fun k => hvp (g1 k p12 (by decide))
  · exact fun k c => hno (by rw [FSH_12 k, if_neg (fun z => c ((hkd (g1 k p12 (by decide))).symm.trans z))])
  · exact fun k _ => hvp (g1 k p12 (by decide))
  · intro k c
    have hA := g1 k p12 (by decide)
    have e : FSH NF mi ml f n A B C = f_fs A := by rw [FSH_12 k, if_pos ((hkd hA).trans c)]
    obtain ⟨a, a1, a2, a3, a4, a5, a6⟩ := g8 hA
    rw [a2, a6] at c ⊢
    obtain ⟨u, u1, u2, u3⟩ := SHV_k5 hW a1 a3 c
    rw [u2]
    exact hok u u1 (by rw [e, ← a4]; exact u3.symm)
  · exact fun k => hvp (g1 k p13 (by decide))
  · exact fun k c => hno (by rw [FSH_13 k, if_neg (fun z => c ((hkd (g1 k p13 (by decide))).symm.trans z))])
  · intro k c
    have hA := g1 k p13 (by decide)
    have e : FSH NF mi ml f n A B C = A := by rw [FSH_13 k, if_pos ((hkd hA).trans c)]
    obtain ⟨a, a1, a2, a3, a4, a5, a6⟩ := g8 hA
    rw [a2]
    exact hok a a1 (a4.trans e.symm)
  · intro k0 k1 k2 k3 k4 k5 k6 k7 k8 k9 k10 k11 k12 k13
    have k14 : mi 188 n = 14 := by
      rcases (show (mi 188 n).toInt < 15 ∧ 0 ≤ (mi 188 n).toInt by omega) with ⟨q1, q2⟩
      obtain ⟨j, ej, j1, j2, -⟩ := mm_of q2 q1
      rw [ej] at k0 k1 k2 k3 k4 k5 k6 k7 k8 k9 k10 k11 k12 k13 ⊢
      have : j = 14 := by
        rcases (show j = 0 ∨ j = 1 ∨ j = 2 ∨ j = 3 ∨ j = 4 ∨ j = 5 ∨ j = 6 ∨ j = 7 ∨ j = 8 ∨ j = 9 ∨ j = 10 ∨ j = 11 ∨ j = 12 ∨ j = 13 ∨ j = 14 by omega) with rfl | rfl | rfl | rfl | rfl | rfl | rfl | rfl | rfl | rfl | rfl | rfl | rfl | rfl | rfl
        · exact absurd rfl k0
        · exact absurd rfl k1
        · exact absurd rfl k2
        · exact absurd rfl k3
        · exact absurd rfl k4
        · exact absurd rfl k5
        · exact absurd rfl k6
        · exact absurd rfl k7
        · exact absurd rfl k8
        · exact absurd rfl k9
        · exact absurd rfl k10
        · exact absurd rfl k11
        · exact absurd rfl k12
        · exact absurd rfl k13
        · rfl
      subst this
      rfl
    obtain ⟨a, a1, a2, a3, a4, a5, a6⟩ := g8 (g1 k14 p14 (by decide))
    have e := FSH_14 (NF := NF) (ml := ml) (f := f) (a := A) (b := B) (c := C) k14
    refine sx_callType hI hT hC hf hn k14 a1 a3 ((hva k14).symm.trans a2) hb (fun w v TZ w1 w2 w3 w4 w5 => bk_X12_typeAs_311 (mm_call_m _) (hQ w v TZ w1 w2 w3 w4 ?_))
    rw [a4] at w5
    rw [e]
    exact w5
end MMT
