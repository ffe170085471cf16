/-! ===== copies() and copy() ===== -/
section MWI
variable {NB TY : Nat} {w : mm_P}
theorem TF_5 {t : Nat} (h : TF w t) (hd : (w 180 t).toInt ≤ 5) : (0 ≤ (w 181 t).toInt ∧ (w 181 t).toInt ≤ 5) ∧ (0 ≤ (w 182 t).toInt ∧ (w 182 t).toInt ≤ 5) := ⟨⟨h.2.2.1.1, by have := h.2.2.1.2; omega⟩, ⟨h.2.2.2.1.1, by have := h.2.2.2.1.2; omega⟩⟩
theorem SHV_lo (hW : WTY NB TY w) : ∀ (k t : Nat), vd NB TY t → (w 180 t).toInt ≤ 5 → (w 180 t).toInt ≤ k → f_lo k (SHV w t) = f_LT (w 181 t) (w 182 t) := by
  intro k
  induction k with
  | zero =>
    intro t ht h5 hk
    have := (SHV_1 hW ht).1
    omega
  | succ k ih =>
    intro t ht h5 hk
    obtain ⟨k1, k2⟩ := SHV_k hW ht h5
    unfold f_lo
    rw [k1]
    rcases k2 with ⟨q, -, -⟩ | ⟨a, q1, q2, q3, q4, q5, q6⟩ | ⟨a, b, q1, q2, q3, q4, q5, q6, q7, q8, q9⟩
    · rcases q.1 with ⟨s1, s2, s3, -⟩ | ⟨s1, s2, s3, -⟩ | ⟨s1, s2, s3, -⟩ | ⟨s1, s2, s3, -⟩ <;> rw [s1, s2, s3]
      · rw [if_neg (by decide), if_neg (by decide), if_neg (by decide), if_neg (by decide)]; decide
      · rw [if_neg (by decide), if_neg (by decide), if_neg (by decide), if_neg (by decide)]; decide
      · rw [if_pos rfl]; decide
      · rw [if_neg (by decide), if_pos rfl]; decide
    · have fa := TF_v hW q2 (by omega)
      have ha := (SHV_1 hW q2).1
      have ek : (w 180 t).toInt = 1 + (w 180 a).toInt := by rw [q3.2.2.2.1, mm_1p (by omega) (by omega)]
      rw [q3.1, if_neg (by decide), if_neg (by decide), if_neg (by decide), if_pos rfl, q4, ih a q2 (by omega) (by omega), q3.2.2.2.2.1, q3.2.2.2.2.2.1, f_LT_u (TF_5 fa (by omega)).1 (TF_5 fa (by omega)).2]
    · have fa := TF_v hW q2 (by omega)
      have fb := TF_v hW q4 (by omega)
      have ha := (SHV_1 hW q2).1
      have hb := (SHV_1 hW q4).1
      have hm := f_most_r (x := w 180 a) (y := w 180 b) (lo := 1) (hi := 4) ⟨ha, q8⟩ ⟨hb, q9⟩
      have ek : (w 180 t).toInt = 1 + (f_most (w 180 a) (w 180 b)).toInt := by rw [q5.2.2.2.1, mm_1p (by omega) (by omega)]
      have x1 := f_most_r (x := w 181 a) (y := w 181 b) (lo := 0) (hi := 5) (TF_5 fa (by omega)).1 (TF_5 fb (by omega)).1
      have x2 := f_most_r (x := w 182 a) (y := w 182 b) (lo := 0) (hi := 5) (TF_5 fa (by omega)).2 (TF_5 fb (by omega)).2
      rw [q5.1, if_neg (by decide), if_neg (by decide), if_pos rfl, q6, q7, ih a q2 (by omega) (by omega), ih b q4 (by omega) (by omega), q5.2.2.2.2.1, q5.2.2.2.2.2.1, f_LT_u x1.1 x2.1, f_LT_m fa.2.2.1.1 fa.2.2.2.1.1 fb.2.2.1.1 fb.2.2.2.1.1]
theorem SHV_lv (hW : WTY NB TY w) : ∀ (k t : Nat), vd NB TY t → (w 180 t).toInt ≤ 5 → (w 180 t).toInt ≤ k → w 181 t = 0 → w 182 t = 0 → f_lv k (SHV w t) = w 183 t := by
  intro k
  induction k with
  | zero =>
    intro t ht h5 hk
    have := (SHV_1 hW ht).1
    omega
  | succ k ih =>
    intro t ht h5 hk hc1 hc2
    have ft := TF_v hW ht h5
    obtain ⟨k1, k2⟩ := SHV_k hW ht h5
    have hs : w 181 t + w 182 t ≤ 0 := (sum_le (TF_5 ft (by omega)).1 (TF_5 ft (by omega)).2).mpr ⟨hc1, hc2⟩
    unfold f_lv
    rw [k1]
    rcases k2 with ⟨q, -, -⟩ | ⟨a, q1, q2, q3, q4, q5, q6⟩ | ⟨a, b, q1, q2, q3, q4, q5, q6, q7, q8, q9⟩
    · rw [if_neg (bs_45 q).1]
      rcases q.1 with ⟨s1, s2, s3, s4⟩ | ⟨s1, s2, s3, s4⟩ | ⟨s1, s2, s3, s4⟩ | ⟨s1, s2, s3, s4⟩
      · rw [s4]
      · rw [s4]
      · rw [s2] at hc1
        exact absurd hc1 (by decide)
      · rw [s3] at hc2
        exact absurd hc2 (by decide)
    · rw [q3.1, if_neg (by decide), q3.2.2.2.2.2.2, if_pos hs]
    · have fa := TF_v hW q2 (by omega)
      have fb := TF_v hW q4 (by omega)
      have ha := (SHV_1 hW q2).1
      have hb := (SHV_1 hW q4).1
      have hm := f_most_r (x := w 180 a) (y := w 180 b) (lo := 1) (hi := 4) ⟨ha, q8⟩ ⟨hb, q9⟩
      have ek : (w 180 t).toInt = 1 + (f_most (w 180 a) (w 180 b)).toInt := by rw [q5.2.2.2.1, mm_1p (by omega) (by omega)]
      have x1 := f_most_r (x := w 181 a) (y := w 181 b) (lo := 0) (hi := 5) (TF_5 fa (by omega)).1 (TF_5 fb (by omega)).1
      have x2 := f_most_r (x := w 182 a) (y := w 182 b) (lo := 0) (hi := 5) (TF_5 fa (by omega)).2 (TF_5 fb (by omega)).2
      obtain ⟨c1, c3⟩ := most_z fa.2.2.1.1 fb.2.2.1.1 (under_z x1.1.1 x1.1.2 (q5.2.2.2.2.1.symm.trans hc1))
      obtain ⟨c2, c4⟩ := most_z fa.2.2.2.1.1 fb.2.2.2.1.1 (under_z x2.1.1 x2.1.2 (q5.2.2.2.2.2.1.symm.trans hc2))
      rw [q5.1, if_pos rfl, q5.2.2.2.2.2.2, if_pos hs, q6, q7, ih a q2 (by omega) (by omega) c1 c2, ih b q4 (by omega) (by omega) c3 c4]
/-- WIDTH of a type of the model, as the class finds it -/
theorem SHV_W {t : Nat} (hW : WTY NB TY w) (ht : vd NB TY t) (hd : (w 180 t).toInt ≤ 5) : f_width (SHV w t) = w 183 t := by
  have h1 := (SHV_1 hW ht).1
  have ft := TF_v hW ht hd
  unfold f_width f_letters f_leaves
  rw [(SHV_r hW ht hd).2, if_neg (by omega), SHV_lo hW 7 t ht hd (by omega)]
  by_cases hc : w 181 t = 0 ∧ w 182 t = 0
  · rw [hc.1, hc.2, if_pos (by decide)]
    exact SHV_lv hW 7 t ht hd (by omega) hc.1 hc.2
  · have hn : ¬ f_LT (w 181 t) (w 182 t) = 0 := by
      unfold f_LT
      by_cases a0 : w 181 t = 0
      · rw [if_pos a0, if_neg (fun q => hc ⟨a0, q⟩)]
        decide
      · rw [if_neg a0]
        split <;> decide
    rw [if_neg hn]
    have hs : ¬ w 181 t + w 182 t ≤ 0 := fun q => hc ((sum_le (TF_5 ft (by omega)).1 (TF_5 ft (by omega)).2).mp q)
    obtain ⟨-, k2⟩ := SHV_k hW ht hd
    rcases k2 with ⟨q, -, -⟩ | ⟨a, q1, q2, q3, q4, q5, q6⟩ | ⟨a, b, q1, q2, q3, q4, q5, q6, q7, q8, q9⟩
    · rcases q.1 with ⟨s1, s2, s3, s4⟩ | ⟨s1, s2, s3, s4⟩ | ⟨s1, s2, s3, s4⟩ | ⟨s1, s2, s3, s4⟩
      · exact absurd ⟨s2, s3⟩ hc
      · exact absurd ⟨s2, s3⟩ hc
      · rw [s4]
      · rw [s4]
    · rw [q3.2.2.2.2.2.2, if_neg hs]
    · rw [q5.2.2.2.2.2.2, if_neg hs]
end MWI
/-- the number that is told of shape A -/
def TLV (NB : Nat) (ml : mm_G) (A : Int64) (v : Int32) : Prop := (A.toInt < 0 ∧ v = -1) ∨ (0 ≤ A.toInt ∧ ∃ t, t < NB ∧ ml 2 t = A ∧ v = nI t) ∨ (0 ≤ A.toInt ∧ (∀ t, t < NB → ¬ ml 2 t = A) ∧ v = -5)
theorem TLV_u {NB : Nat} {m : mm_P} {ml : mm_G} {A : Int64} {v u : Int32} (hT : TC NB m ml) (h : TLV NB ml A v) (h2 : TLV NB ml A u) : v = u := by
  rcases h with ⟨a, b⟩ | ⟨a, t, t1, t2, b⟩ | ⟨a, t, b⟩ <;> rcases h2 with ⟨a', b'⟩ | ⟨a', t', t1', t2', b'⟩ | ⟨a', t', b'⟩
  · rw [b, b']
  · omega
  · omega
  · omega
  · rw [b, b', hT.2.2 t t' t1 t1' (t2.trans t2'.symm)]
  · exact absurd t2 (t' t t1)
  · omega
  · exact absurd t2' (t t' t1')
  · rw [b, b']
/-- what copy() says of a copy -/
def VAL (NB : Nat) (ml : mm_G) (t : CTy) (x : Int32) (v : Int32) : Prop := (x = nI 0 → v = nI t.1) ∧ (x = nI 1 → TLV NB ml t.2.1 v) ∧ (x = nI 2 → TLV NB ml t.2.2 v) ∧ (x = nI 3 → v = f_width (f_with (ml 13 t.1) t.2.1 t.2.2)) ∧ (x = nI 4 → v = f_width (f_with (ml 14 t.1) t.2.1 t.2.2)) ∧ (x = nI 5 → TLV NB ml (f_with (ml 13 t.1) t.2.1 t.2.2) v)
theorem VAL_k {NB : Nat} {ml : mm_G} {t : CTy} {x v : Int32} {k : Nat} (hx : x = nI k) (hk : k < 6) (h : (k = 0 → v = nI t.1) ∧ (k = 1 → TLV NB ml t.2.1 v) ∧ (k = 2 → TLV NB ml t.2.2 v) ∧ (k = 3 → v = f_width (f_with (ml 13 t.1) t.2.1 t.2.2)) ∧ (k = 4 → v = f_width (f_with (ml 14 t.1) t.2.1 t.2.2)) ∧ (k = 5 → TLV NB ml (f_with (ml 13 t.1) t.2.1 t.2.2) v)) : VAL NB ml t x v := by
  have e : ∀ j, j < 6 → x = nI j → k = j := fun j hj q => nI_inj (by omega) (by omega) (hx.symm.trans q)
  exact ⟨fun q => h.1 (e 0 (by decide) q), fun q => h.2.1 (e 1 (by decide) q), fun q => h.2.2.1 (e 2 (by decide) q), fun q => h.2.2.2.1 (e 3 (by decide) q), fun q => h.2.2.2.2.1 (e 4 (by decide) q), fun q => h.2.2.2.2.2 (e 5 (by decide) q)⟩
section MMT
variable {L : Nat} {xs : Nat → Int32} {d : Nat} {Q : mm_QQ} {mi : mm_P} {ml : mm_G} {lim : Nat × Nat} {NB ND NF TY : Nat}
theorem tl_V {A : Int64} (h11 : mi 1 1 = nI NB) (hNB : NB ≤ 200) (hQ : ∀ v, TLV NB ml A v → Q (some (mm_I v)) mi ml) : mm_cq (mm_call mm_ms (mm_tb L xs) (d + 1)) 113 [mm_R 1, mm_L A] mi ml Q :=
  sx_tell h11 hNB (fun q => hQ _ (.inl ⟨q, rfl⟩)) (fun q t t1 t2 => hQ _ (.inr (.inl ⟨q, t, t1, t2, rfl⟩))) (fun q t => hQ _ (.inr (.inr ⟨q, t, rfl⟩)))
theorem nm_V {A : Int64} {x s : Int32} (hW : WTY NB TY mi) (hU : TU NB TY mi) (hT : TC NB mi ml) (hx : TYV NB TY mi x A) (hs : s = 0 ↔ x = -1) (hQ : ∀ v, TLV NB ml A v → Q (some (mm_I v)) mi ml) : mm_cq (mm_call mm_ms (mm_tb L xs) (d + 1)) 182 [mm_R 176, mm_I x, mm_I s] mi ml Q := by
  have e200 : (200 : Int32).toInt = 200 := rfl
  refine en_X12_named (bk_X12_named_0 (mm_call_m _) (fun y z => hQ _ ?_) (fun y z => hQ _ ?_) (fun y => hQ _ ?_))
  · rcases hx with ⟨q, -⟩ | ⟨t, t1, t2, t3, t4⟩
    · exact absurd (hs.mpr q) y
    · have ht8 := vd_lt t2 hW.1 hW.2.1
      have hN := hW.1
      have hr := (SHV_r hW t2 t3).1.1
      rw [t4] at hr
      have z' := mm_leI z
      rw [t1, mm_tI (by omega), e200] at z'
      refine .inr (.inr ⟨hr, fun u hu q => ?_, rfl⟩)
      have e : SHV mi t = SHV mi u := by rw [t4, SHV_ml hW hT hu, q]
      have : t = u := nI_inj (by omega) (by omega) ((SHV_iff hW hU t2 (.inl hu) t3).mp e)
      omega
  · rcases hx with ⟨q, -⟩ | ⟨t, t1, t2, t3, t4⟩
    · exact absurd (hs.mpr q) y
    · have ht8 := vd_lt t2 hW.1 hW.2.1
      have hr := (SHV_r hW t2 t3).1.1
      rw [t4] at hr
      have z' := mm_nleI z
      rw [t1, mm_tI (by omega), e200] at z'
      have htN : t < NB := by
        rcases t2 with q | q
        · exact q
        · omega
      exact .inr (.inl ⟨hr, t, htN, (SHV_ml hW hT htN).symm.trans t4, t1⟩)
  · rcases hx with ⟨-, q⟩ | ⟨t, t1, t2, t3, t4⟩
    · exact .inl ⟨by rw [q, mm_lln]; omega, rfl⟩
    · have ht8 := vd_lt t2 hW.1 hW.2.1
      exact absurd (t1.symm.trans (hs.mp y)) (nI_ne (by omega))
/-- how many copies there are, in the class and in the reference -/
theorem VC_v {w : mm_P} {v : Int32} (hCV : CV mi ml) (hv : (∃ u, VP mi ml u ∧ ¬ u = 0 ∧ v = -3) ∨ (VP mi ml 0 ∧ CC mi ml = none ∧ v = -4) ∨ (VP mi ml 0 ∧ ∃ C TY, CC mi ml = some C ∧ FY NB ND NF TY mi ml w C ∧ v = nI C.length)) : mi 0 10 = v := by
  have hV := hCV.1.2.2
  rcases hv with ⟨u, u1, u2, u3⟩ | ⟨u1, u2, u3⟩ | ⟨u1, C, TY, u2, u3, u4⟩
  · rw [u3]
    exact hCV.2.1 (fun q => u2 ((VP_u u1 hV).trans q))
  · rcases hCV.2.2 (VP_u hV u1) with q | ⟨C, q, -⟩
    · rw [u3]
      exact q.2
    · rw [u2] at q
      cases q
  · rcases hCV.2.2 (VP_u hV u1) with ⟨q, -⟩ | ⟨C', q1, q2, -⟩
    · rw [u2] at q
      cases q
    · rw [u2] at q1
      rw [u4, q2, Option.some.inj q1]
theorem lv_copies {Q' : Int32 → Int32 → mm_P → mm_G → Prop} (hCV : CV mi ml) (hQ : ∀ v n m2, CV n m2 → Q' v v n m2) : mm_cq (mm_call mm_ms (mm_tb L xs) (d + 20)) 154 [mm_R 0] mi ml (fun o n1 n2 => ∃ v, o = some (mm_I v) ∧ mm_cq (mm_call mm_ms (mm_tb L xs) (d + 20)) 209 [mm_R 176] n1 n2 (fun o2 n3 n4 => ∃ v2, o2 = some (mm_I v2) ∧ Q' v v2 n3 n4)) := by
  obtain ⟨NB, ND, NF, hI, -⟩ := CK_WJ hCV.1
  refine en_X11_copies (bk_X11_copies_0 (mm_call_m _) ⟨_, rfl, ?_⟩)
  refine en_X12_copies (bk_X12_copies_0 (mm_call_m _) (sx_findCopies (d := d + 9) hCV.1.1 hI (fun w v hp hv => bk_X12_copies_4 (mm_call_m _) ⟨v, rfl, ?_⟩)))
  rw [← VC_v hCV hv]
  exact hQ _ _ _ (CV_p hCV hp)
/-- copy() of the class -/
theorem cx_copy {x1 x2 : Int32} (hCV : CV mi ml) (hT : TC NB mi ml) (hNB : NB ≤ 200) (h2 : ¬ (0 ≤ x2.toInt ∧ x2.toInt ≤ 5) → Q (some (mm_I (-2))) mi ml) (h1 : ∀ k, k < 6 → x2 = nI k → ¬ (0 ≤ x1.toInt ∧ x1.toInt < (mi 0 10).toInt) → Q (some (mm_I (-1))) mi ml) (h0 : ∀ k i C v, k < 6 → x2 = nI k → x1 = nI i → i < C.length → C.length ≤ 60 → mi 0 9 = 0 → CC mi ml = some C → PRC mi ml mi ml C i → VAL NB ml (C.getD i k_c0) x2 v → Q (some (mm_I v)) mi ml) : mm_cq (mm_call mm_ms (mm_tb L xs) (d + 20)) 155 [mm_R 0, mm_I x1, mm_I x2] mi ml Q := by
  have e5 : (5 : Int32).toInt = 5 := rfl
  have hk : ¬ x2 < 0 → x2 ≤ 5 → ∃ k, k < 6 ∧ x2 = nI k := fun a b => by
    have a' := mm_nltI a
    have b' := mm_leI b
    rw [mm_tt0] at a'
    rw [e5] at b'
    obtain ⟨k, k1, k2, -⟩ := mm_of (n := 6) a' (by omega)
    exact ⟨k, by omega, k1⟩
  have h9 : ¬ (0 ≤ x2.toInt ∧ x2.toInt ≤ 5) → mm_WQ (mm_call mm_ms (mm_tb L xs) (d + 19)) (mm_tb L xs) mm_m155 (mm_li mm_m155) Q 9 [some (mm_R 0), some (mm_I x1), some (mm_I x2)] [] mi ml := fun q => bk_X11_copy_9 (mm_call_m _) (h2 q)
  have h24 : ¬ x2 < 0 → x2 ≤ 5 → ¬ (0 ≤ x1.toInt ∧ x1.toInt < (mi 0 10).toInt) → mm_WQ (mm_call mm_ms (mm_tb L xs) (d + 19)) (mm_tb L xs) mm_m155 (mm_li mm_m155) Q 24 [some (mm_R 0), some (mm_I x1), some (mm_I x2)] [] mi ml := fun a b q => by
    obtain ⟨k, k1, k2⟩ := hk a b
    exact bk_X11_copy_24 (mm_call_m _) (h1 k k1 k2 q)
  refine en_X11_copy (bk_X11_copy_0 (mm_call_m _) (fun z => h9 (fun q => ?_)) (fun z z2 z3 => h24 z z2 (fun q => ?_)) (fun z z2 z3 z4 => ?_) (fun z z2 z3 z4 => h24 z z2 (fun q => ?_)) (fun z z2 => h9 (fun q => ?_)))
  · have := mm_ltI z
    rw [mm_tt0] at this
    omega
  · have := mm_ltI z3
    rw [mm_tt0] at this
    omega
  · obtain ⟨k, k1, k2⟩ := hk z z2
    have a' := mm_nltI z3
    have b' := mm_ltI z4
    rw [mm_tt0] at a'
    have hn : ∀ y : Int32, y.toInt < 0 → ¬ mi 0 10 = y := fun y hy q => by
      rw [q] at b'
      omega
    have h09 : mi 0 9 = 0 := by
      by_cases q : mi 0 9 = 0
      · exact q
      · exact absurd (hCV.2.1 q) (hn _ (by decide))
    rcases hCV.2.2 h09 with ⟨-, q⟩ | ⟨C, c1, c2, c3, c4, c5⟩
    · exact absurd q (hn _ (by decide))
    have h60 := c3.2.1
    rw [c2, mm_tI (by omega)] at b'
    obtain ⟨i, i1, i2, -⟩ := mm_of a' b'
    have hi : i < C.length := by omega
    obtain ⟨r0, r1, r2, r3⟩ := c3.2.2 i hi
    obtain ⟨p1, p2, p3, p4, p5, -⟩ := id (c5 i hi)
    have vi : vp_in (nI i) 60 := vp_in_nI (by omega) (by decide)
    have ei : (nI i).toNatClampNeg = i := nI_clamp (by omega)
    have hfin : ∀ v, VAL NB ml (C.getD i k_c0) x2 v → mm_WQ (mm_call mm_ms (mm_tb L xs) (d + 19)) (mm_tb L xs) mm_m155 (mm_li mm_m155) Q 35 [some (mm_R 0), some (mm_I x1), some (mm_I x2)] [mm_I v] mi ml := fun v hv => bk_X11_copy_35 (mm_call_m _) (h0 k i C v k1 k2 i1 hi h60 h09 c1 (c5 i hi) hv)
    have hno : ∀ {a b : Nat} {P : Prop}, a < 6 → b < 6 → ¬ a = b → x2 = nI a → x2 = nI b → P := fun ha hb hab q1 q2 => absurd (nI_inj (by omega) (by omega) (q1.symm.trans q2)) hab
    rw [i1]
    rw [i1] at hfin
    refine en_X0_factOf (bk_X0_factOf_0 (mm_call_m _) (sp_X0_has (fun _ _ _ => bk_X0_factOf_5 (s0 := 1) (mm_call_m _) (fun _ _ => vi) (fun _ q => ?_) (fun _ _ => vi) (fun _ q => ?_) (fun _ _ => vi) (fun _ q => ?_) (fun _ _ => vi) (fun _ q => ?_) (fun _ _ => vi) (fun _ q => ?_) (fun _ _ => vi) (fun _ q => ?_) (fun _ q0 q1 q2 q3 q4 q5 => ?_) (fun y => absurd y (by decide))) (fun y => absurd ⟨?_, ?_, ?_⟩ y)))
    · rw [ei]
      exact hfin _ ⟨fun _ => r1, fun y => hno (by decide) (by decide) (by decide) q y, fun y => hno (by decide) (by decide) (by decide) q y, fun y => hno (by decide) (by decide) (by decide) q y, fun y => hno (by decide) (by decide) (by decide) q y, fun y => hno (by decide) (by decide) (by decide) q y⟩
    · rw [ei, r2]
      exact tl_V hT.1 hNB (fun v hv => bk_X0_factOf_68 (mm_call_m _) (hfin v ⟨fun y => hno (by decide) (by decide) (by decide) q y, fun _ => hv, fun y => hno (by decide) (by decide) (by decide) q y, fun y => hno (by decide) (by decide) (by decide) q y, fun y => hno (by decide) (by decide) (by decide) q y, fun y => hno (by decide) (by decide) (by decide) q y⟩))
    · rw [ei, r3]
      exact tl_V hT.1 hNB (fun v hv => bk_X0_factOf_82 (mm_call_m _) (hfin v ⟨fun y => hno (by decide) (by decide) (by decide) q y, fun y => hno (by decide) (by decide) (by decide) q y, fun _ => hv, fun y => hno (by decide) (by decide) (by decide) q y, fun y => hno (by decide) (by decide) (by decide) q y, fun y => hno (by decide) (by decide) (by decide) q y⟩))
    · rw [ei, p4]
      exact hfin _ ⟨fun y => hno (by decide) (by decide) (by decide) q y, fun y => hno (by decide) (by decide) (by decide) q y, fun y => hno (by decide) (by decide) (by decide) q y, fun _ => rfl, fun y => hno (by decide) (by decide) (by decide) q y, fun y => hno (by decide) (by decide) (by decide) q y⟩
    · rw [ei, p5]
      exact hfin _ ⟨fun y => hno (by decide) (by decide) (by decide) q y, fun y => hno (by decide) (by decide) (by decide) q y, fun y => hno (by decide) (by decide) (by decide) q y, fun y => hno (by decide) (by decide) (by decide) q y, fun _ => rfl, fun y => hno (by decide) (by decide) (by decide) q y⟩
    · rw [ei, p1]
      exact tl_V hT.1 hNB (fun v hv => bk_X0_factOf_110 (mm_call_m _) (hfin v ⟨fun y => hno (by decide) (by decide) (by decide) q y, fun y => hno (by decide) (by decide) (by decide) q y, fun y => hno (by decide) (by decide) (by decide) q y, fun y => hno (by decide) (by decide) (by decide) q y, fun y => hno (by decide) (by decide) (by decide) q y, fun _ => hv⟩))
    · exfalso
      rcases (show k = 0 ∨ k = 1 ∨ k = 2 ∨ k = 3 ∨ k = 4 ∨ k = 5 by omega) with rfl | rfl | rfl | rfl | rfl | rfl
      · exact q0 k2
      · exact q1 k2
      · exact q2 k2
      · exact q3 k2
      · exact q4 k2
      · exact q5 k2
    · rw [mm_tI (by omega)]
      omega
    · rw [c3.1, mm_tI (by omega), mm_tI (by omega)]
      omega
    · rw [mm_tI (by omega)]
      omega
  · refine z4 ?_
    rw [Int32.lt_iff_toInt_lt]
    exact q.2
  · have := mm_nleI z2
    rw [e5] at this
    omega
/-- copy() of the reference -/
theorem mx_copy {x1 x2 v : Int32} {Q2 : Int32 → mm_P → mm_G → Prop} (hCV : CV mi ml) (hI : IM mi NB ND NF) (hT : TC NB mi ml) (hW : WJ NB ND NF mi) (hQ : ∀ n, CV n ml → Q2 v n ml) (hv : (¬ (0 ≤ x2.toInt ∧ x2.toInt ≤ 5) ∧ v = -2) ∨ (∃ k, k < 6 ∧ x2 = nI k ∧ ((¬ (0 ≤ x1.toInt ∧ x1.toInt < (mi 0 10).toInt) ∧ v = -1) ∨ ∃ i C, x1 = nI i ∧ i < C.length ∧ C.length ≤ 60 ∧ mi 0 9 = 0 ∧ CC mi ml = some C ∧ PRC mi ml mi ml C i ∧ VAL NB ml (C.getD i k_c0) x2 v))) : mm_cq (mm_call mm_ms (mm_tb L xs) (d + 20)) 210 [mm_R 176, mm_I x1, mm_I x2] mi ml (fun o2 n3 n4 => ∃ v2, o2 = some (mm_I v2) ∧ Q2 v2 n3 n4) := by
  have hNB := hI.1.1
  have e5 : (5 : Int32).toInt = 5 := rfl
  refine en_X12_copy (bk_X12_copy_0 (mm_call_m _) (sp_in (fun a b => bk_X12_copy_6 (s0 := 1) (mm_call_m _) (fun _ => ?_) (fun z => absurd z (by decide))) (fun q => bk_X12_copy_6 (s0 := 0) (mm_call_m _) (fun z => absurd rfl z) (fun _ => ⟨-2, rfl, ?_⟩))))
  · rw [mm_tt0] at a
    rw [e5] at b
    rcases hv with ⟨q, -⟩ | ⟨k, k1, k2, hv⟩
    · exact absurd ⟨a, b⟩ q
    refine sx_findCopies (d := d + 9) hCV.1.1 hI (fun w u hp hu => ?_)
    have h010 := VC_v hCV hu
    have hCVw := CV_p hCV hp
    have h33 : v = -1 → mm_WQ (mm_call mm_ms (mm_tb L xs) (d + 19)) (mm_tb L xs) mm_m210 (mm_li mm_m210) (fun o2 n3 n4 => ∃ v2, o2 = some (mm_I v2) ∧ Q2 v2 n3 n4) 33 [some (mm_R 176), some (mm_I x1), some (mm_I x2), none] [] w ml := fun q => bk_X12_copy_33 (mm_call_m _) ⟨-1, rfl, by rw [← q]; exact hQ w hCVw⟩
    have hneg : u.toInt < 0 → v = -1 := fun q => by
      rcases hv with hv | ⟨i, C, i1, i2, i3, i4, i5, i6, i7⟩
      · exact hv.2
      · exfalso
        rcases hCV.2.2 i4 with ⟨y, -⟩ | ⟨C', y, y2, -⟩
        · rw [i5] at y
          cases y
        · rw [i5] at y
          rw [← h010, y2, ← Option.some.inj y, mm_tI (by omega)] at q
          omega
    refine bk_X12_copy_16 (mm_call_m _) (fun z => h33 (hneg (by have := mm_ltI z; rw [mm_tt0] at this; exact this))) (fun z => ?_)
    have z0 := mm_nltI z
    rw [mm_tt0] at z0
    obtain ⟨hV0, C, TY, hCC, hF, hC4⟩ : VP mi ml 0 ∧ ∃ C TY, CC mi ml = some C ∧ FY NB ND NF TY mi ml w C ∧ u = nI C.length := by
      rcases hu with ⟨u', -, -, q⟩ | ⟨-, -, q⟩ | q
      · rw [q] at z0
        exact absurd z0 (by decide)
      · rw [q] at z0
        exact absurd z0 (by decide)
      · exact q
    obtain ⟨hTX, hC, hTY, hNQ, hUC⟩ := id hF
    have hC60 := hC.2.1
    have e31 : (w 176 31).toInt = C.length := by rw [hC.1]; exact mm_tI (by omega)
    have e010 : (mi 0 10).toInt = C.length := by rw [h010, hC4]; exact mm_tI (by omega)
    refine sp_in (fun a2 b2 => ?_) (fun q => bk_X12_copy_30 (s0 := 0) (mm_call_m _) (fun z => absurd rfl z) (fun z => absurd rfl z) (fun z => absurd rfl z) (fun z => absurd rfl z) (fun z => absurd rfl z) (fun z => absurd rfl z) (fun z => absurd rfl z) (fun z => absurd rfl z) (fun z => absurd rfl z) (fun z => absurd rfl z) (fun z => absurd rfl z) (fun z => absurd rfl z) (fun z => absurd rfl z) (fun z => absurd rfl z) (fun z => absurd rfl z) (fun z => absurd rfl z) (fun z => absurd rfl z) (fun z => absurd rfl z) (fun z => absurd rfl z) (fun z => absurd rfl z) (fun z => absurd rfl z) (fun z => absurd rfl z) (fun _ => h33 ?_))
    · rw [mm_sub1 (by omega), e31] at b2
      rw [mm_tt0] at a2
      rcases hv with ⟨hv, -⟩ | ⟨i, C', i1, i2, i3, i4, i5, i6, i7⟩
      · exact absurd ⟨a2, by rw [e010]; omega⟩ hv
      have eC : C' = C := Option.some.inj (i5.symm.trans hCC)
      subst eC
      subst i1
      have hV2 : ¬ V2 mi := VP_00 hV0
      obtain ⟨c1, c2, c3, c4, c5, c6⟩ := hC.2.2 i i2
      have hU := hUC _ (mem_getD.mpr ⟨i, i2, rfl⟩)
      obtain ⟨p1, p2, p3, p4, p5, -⟩ := i6
      generalize hct : C'.getD i k_c0 = t at c1 c2 c3 c4 c5 c6 hU i7 p1 p2 p3 p4 p5
      obtain ⟨f, A, B⟩ := t
      replace c1 : f < 12 := c1
      replace c2 : w 204 i = nI f := c2
      replace c3 : TYV NB TY w (w 205 i) A := c3
      replace c4 : TYV NB TY w (w 206 i) B := c4
      replace c5 : 0 < (mi 194 f).toInt → ¬ A = -1 := c5
      replace c6 : 1 < (mi 194 f).toInt → ¬ B = -1 := c6
      replace p2 : ¬ f_with (ml 13 f) A B = -1 := p2
      replace p3 : ¬ f_with (ml 14 f) A B = -1 := p3
      obtain ⟨v0, v1, v2', v3, v4, v5⟩ := i7
      replace v0 : x2 = nI 0 → v = nI f := v0
      replace v1 : x2 = nI 1 → TLV NB ml A v := v1
      replace v2' : x2 = nI 2 → TLV NB ml B v := v2'
      replace v3 : x2 = nI 3 → v = f_width (f_with (ml 13 f) A B) := v3
      replace v4 : x2 = nI 4 → v = f_width (f_with (ml 14 f) A B) := v4
      replace v5 : x2 = nI 5 → TLV NB ml (f_with (ml 13 f) A B) v := v5
      obtain ⟨hIw, hTCw, hNw, hFw, -⟩ := CJ_at hCV.1.1 hI hp
      obtain ⟨-, -, hNm, hFm, -⟩ := CJ_at hCV.1.1 hI (PR_r (m := mi))
      obtain ⟨hfN, b0, b1', b2'⟩ := UR_b hW hV2 c1 hU
      obtain ⟨o1, ⟨x, o2, o3, o4⟩, ⟨y, o5, o6, o7⟩, o8⟩ := hI.2.2.2.2.2.1 f hfN
      have hWw := TX_W hTX
      have vi : vp_in (nI i) 60 := vp_in_nI (by omega) (by decide)
      have ei : (nI i).toNatClampNeg = i := nI_clamp (by omega)
      have vf : vp_in (nI f) 12 := vp_in_nI c1 (by decide)
      have ef : (nI f).toNatClampNeg = f := nI_clamp (by omega)
      have s13 : ml 13 f = ml 2 x := by rw [(hFm.2 f hfN).2.2.2.2.1, o3, nI_clamp (by omega)]
      have s14 : ml 14 f = ml 2 y := by rw [(hFm.2 f hfN).2.2.2.2.2, o6, nI_clamp (by omega)]
      have e195 : w 195 f = nI x := (hp 195 f (pg_nod (by decide) (by decide))).trans o3
      have e196 : w 196 f = nI y := (hp 196 f (pg_nod (by decide) (by decide))).trans o6
      have hfin : ∀ u n, CV n ml → u = v → ∃ v2, some (mm_I u) = some (mm_I v2) ∧ Q2 v2 n ml := fun u n hn q => ⟨u, rfl, by rw [q]; exact hQ n hn⟩
      have hput : ∀ (Q' : mm_QQ) (z : Nat), z < NB → wthn mi z (mi 194 f) → ¬ f_with (ml 2 z) A B = -1 → (∀ n r TZ, CV n ml → TX n NB TZ → TC NB n ml → vd NB TZ r → r < 8000 → (n 180 r).toInt ≤ 5 → SHV n r = f_with (ml 2 z) A B → Q' (some (mm_I (nI r))) n ml) → mm_cq (mm_call mm_ms (mm_tb L xs) (d + 19)) 181 [mm_R 176, mm_I (nI z), mm_I (w 205 i), mm_I (w 206 i)] w ml Q' := fun Q' z hz hw hne hq => by
        refine sx_letter (d := d + 14) hTX hIw.2.2.2.1 hTCw hz (wthn_p (by omega) hp hw) c3 c4 c5 c6 (by omega) (fun n r TZ a1 a2 a3 a4 a5 a6 a7 => ?_)
        have hpn := PR_t hp (PR_mkp a6 hTX.1.2.1.1)
        obtain ⟨-, hTCn, -⟩ := CJ_at hCV.1.1 hI hpn
        refine hq n r TZ (CV_p hCV hpn) a1 hTCn a4 (vd_lt a4 hNB.2 a1.1.2.1.2) ?_ a7
        by_cases c : (n 180 r).toInt ≤ 5
        · exact c
        · exact absurd (a7.symm.trans (SHV_n (TX_W a1) a4 c)) hne
      have n1 : ∀ {P : Prop}, (1 : Int32) = 0 → P := fun z => absurd z (by decide)
      refine bk_X12_copy_30 (s0 := 1) (mm_call_m _) (fun _ => vi) (fun _ q => ?_) (fun _ _ => vi) (fun _ _ => vi) (fun _ q z => ?_) (fun _ q z => ?_) (fun _ _ => vi) (fun _ _ => vi) (fun _ q z => ?_) (fun _ q z => ?_) (fun _ _ => ?_) (fun _ _ => vi) (fun _ _ => vi) (fun _ q => ?_) (fun _ _ => ?_) (fun _ _ => vi) (fun _ _ => vi) (fun _ q => ?_) (fun _ _ _ _ _ _ => ?_) (fun _ _ _ _ _ _ => vi) (fun _ _ _ _ _ _ => vi) (fun _ q0 q1 q2 q3 q4 => ?_) (fun z => n1 z) <;> (try rw [ei] at z) <;> rw [ei]
      · rw [c2]
        exact hfin _ w hCVw (v0 q).symm
      · exact nm_V hWw hTX.2.2 hTCw c3 ⟨fun _ => z, fun _ => rfl⟩ (fun u hu => bk_X12_copy_103 (mm_call_m _) (hfin u w hCVw (TLV_u hTCw hu (v1 q))))
      · exact nm_V hWw hTX.2.2 hTCw c3 ⟨fun y => n1 y, fun y => absurd y z⟩ (fun u hu => bk_X12_copy_103 (mm_call_m _) (hfin u w hCVw (TLV_u hTCw hu (v1 q))))
      · exact nm_V hWw hTX.2.2 hTCw c4 ⟨fun _ => z, fun _ => rfl⟩ (fun u hu => bk_X12_copy_129 (mm_call_m _) (hfin u w hCVw (TLV_u hTCw hu (v2' q))))
      · exact nm_V hWw hTX.2.2 hTCw c4 ⟨fun y => n1 y, fun y => absurd y z⟩ (fun u hu => bk_X12_copy_129 (mm_call_m _) (hfin u w hCVw (TLV_u hTCw hu (v2' q))))
      · rw [c2]
        exact vf
      · rw [c2, ef, e195]
        refine hput _ x o2 o4 (by rw [← s13]; exact p2) (fun n r TZ g1 g2 g3 g4 g5 g6 g7 => bk_X12_copy_156 (mm_call_m _) (vp_in_nI g5 (by decide)) ?_)
        rw [nI_clamp (by omega)]
        refine hfin _ n g1 ?_
        rw [← SHV_W (TX_W g2) g4 g6, g7, ← s13]
        exact (v3 q).symm
      · rw [c2]
        exact vf
      · rw [c2, ef, e196]
        refine hput _ y o5 o7 (by rw [← s14]; exact p3) (fun n r TZ g1 g2 g3 g4 g5 g6 g7 => bk_X12_copy_184 (mm_call_m _) (vp_in_nI g5 (by decide)) ?_)
        rw [nI_clamp (by omega)]
        refine hfin _ n g1 ?_
        rw [← SHV_W (TX_W g2) g4 g6, g7, ← s14]
        exact (v4 q).symm
      · rw [c2]
        exact vf
      · have hq5 : x2 = nI 5 := by
          rcases (show k = 0 ∨ k = 1 ∨ k = 2 ∨ k = 3 ∨ k = 4 ∨ k = 5 by omega) with rfl | rfl | rfl | rfl | rfl | rfl
          · exact absurd k2 q0
          · exact absurd k2 q1
          · exact absurd k2 q2
          · exact absurd k2 q3
          · exact absurd k2 q4
          · exact k2
        rw [c2, ef, e195]
        refine hput _ x o2 o4 (by rw [← s13]; exact p2) (fun n r TZ g1 g2 g3 g4 g5 g6 g7 => bk_X12_copy_209 (mm_call_m _) ?_)
        refine nm_V (TX_W g2) g2.2.2 g3 (.inr ⟨r, rfl, g4, g6, g7⟩) ⟨fun y => n1 y, fun y => absurd y (nI_ne (by omega))⟩ (fun u hu => bk_X12_copy_213 (mm_call_m _) (hfin u n g1 (TLV_u g3 hu ?_)))
        rw [← s13]
        exact v5 hq5
    · rcases hv with hv | ⟨i, C', i1, i2, i3, i4, i5, i6, i7⟩
      · exact hv.2
      · exfalso
        have eC : C' = C := Option.some.inj (i5.symm.trans hCC)
        subst eC
        refine q ⟨?_, ?_⟩
        · rw [mm_tt0, i1, mm_tI (by omega)]
          omega
        · rw [mm_sub1 (by omega), e31, i1, mm_tI (by omega)]
          omega
  · rw [mm_tt0, e5] at q
    rcases hv with ⟨-, e⟩ | ⟨k, k1, k2, -⟩
    · rw [← e]
      exact hQ mi hCV
    · exfalso
      refine q ⟨?_, ?_⟩ <;> (rw [k2, mm_tI (by omega)]; omega)
theorem lv_copy {x1 x2 : Int32} {Q' : Int32 → Int32 → mm_P → mm_G → Prop} (hCV : CV mi ml) (hQ : ∀ v n m2, CV n m2 → Q' v v n m2) : mm_cq (mm_call mm_ms (mm_tb L xs) (d + 20)) 155 [mm_R 0, mm_I x1, mm_I x2] mi ml (fun o n1 n2 => ∃ v, o = some (mm_I v) ∧ mm_cq (mm_call mm_ms (mm_tb L xs) (d + 20)) 210 [mm_R 176, mm_I x1, mm_I x2] n1 n2 (fun o2 n3 n4 => ∃ v2, o2 = some (mm_I v2) ∧ Q' v v2 n3 n4)) := by
  obtain ⟨NB, ND, NF, hI, hT, hN, hF, hW⟩ := CK_WJ hCV.1
  exact cx_copy hCV hT hI.1.1.2 (fun q => ⟨-2, rfl, mx_copy (Q2 := Q' (-2)) hCV hI hT hW (fun n h => hQ _ n ml h) (.inl ⟨q, rfl⟩)⟩) (fun k k1 k2 q => ⟨-1, rfl, mx_copy (Q2 := Q' (-1)) hCV hI hT hW (fun n h => hQ _ n ml h) (.inr ⟨k, k1, k2, .inl ⟨q, rfl⟩⟩)⟩) (fun k i C v k1 k2 i1 i2 i3 i4 i5 i6 i7 => ⟨v, rfl, mx_copy (Q2 := Q' v) hCV hI hT hW (fun n h => hQ _ n ml h) (.inr ⟨k, k1, k2, .inr ⟨i, C, i1, i2, i3, i4, i5, i6, i7⟩⟩)⟩)
end MMT
