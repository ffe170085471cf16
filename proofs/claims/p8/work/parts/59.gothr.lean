/-! ===== goThrough() of the model: its loops ===== -/
theorem f_parts_in (k : Int32) : f_parts k = 0 ∨ f_parts k = 1 ∨ f_parts k = 2 ∨ f_parts k = 3 := by
  unfold f_parts
  split
  · exact .inl rfl
  · split
    · exact .inl rfl
    · split
      · exact .inr (.inr (.inr rfl))
      · split
        · exact .inr (.inr (.inl rfl))
        · exact .inr (.inl rfl)
theorem tpv_0 {w : mm_P} {n : Nat} {i : Int32} (h : (f_parts (w 188 n)).toInt ≤ i.toInt) : tpv w n i = -1 := by
  unfold tpv
  rw [if_neg (by omega)]
theorem tpv_1 {w : mm_P} {n : Nat} {i : Int32} (h : i.toInt < (f_parts (w 188 n)).toInt) : tpv w n i = w 198 (f_part w n i).toNatClampNeg := by
  unfold tpv
  rw [if_pos h]
theorem tpv_v {NB ND NF TY n f : Nat} {w0 w : mm_P} {i : Int32} (hI : IM w NB ND NF) (hG : GT NB NF w0 w f n TY) (hn : n < ND) (h0 : 0 ≤ i.toInt) (h1 : i.toInt < (f_parts (w 188 n)).toInt) (h2 : ¬ tpv w n i = -1) : vv NB TY (tpv w n i) := by
  obtain ⟨p, p1, p2, -⟩ := f_part_r (hI.2.2.2.2.1 n hn) h0 h1
  have e := tpv_1 h1
  rw [p2, nI_clamp (by have := hI.1.2.1; omega)] at e
  rcases hG.2.2.2.1 p p1 with q | ⟨r, q1, q2, -⟩
  · exact absurd (e.trans q) h2
  · exact ⟨r, q2, e.trans q1⟩
section MMT
variable {L : Nat} {xs : Nat → Int32} {d : Nat} {Q : mm_QQ} {mi : mm_P} {ml : mm_G} {lim : Nat × Nat}
theorem go_ty {f n NB ND NF TY : Nat} {w0 : mm_P} {va vb vc x3 x4 : Int32} {x8 : Option mm_V} (ea : va = tpv mi n 0) (eb : vb = tpv mi n 1) (ec : vc = tpv mi n 2) (hI : IM mi NB ND NF) (hG : GT NB NF w0 mi f n TY) (hf : f < NF) (hn : n < ND) (k1 : 1 ≤ (f_parts (mi 188 n)).toInt → ¬ va = -1) (k2 : 2 ≤ (f_parts (mi 188 n)).toInt → ¬ vb = -1) (k3 : 3 ≤ (f_parts (mi 188 n)).toInt → ¬ vc = -1) (hK : ∀ w TZ x3 x4 x5 x6 x7 x8, GT NB NF w0 w f (n + 1) TZ → mm_WQ (mm_call mm_ms (mm_tb L xs) (d + 7)) (mm_tb L xs) mm_m194 (mm_li mm_m194) Q 6 [some (mm_R 176), some (mm_I (nI f)), some (mm_I (nI n + 1)), x3, x4, x5, x6, x7, x8] [] w ml) : mm_cq (mm_call mm_ms (mm_tb L xs) (d + 7)) 193 [mm_R 176, mm_I (nI f), mm_I (nI n), mm_I va, mm_I vb, mm_I vc] mi ml (fun o n1 n2 => mm_WQ (mm_call mm_ms (mm_tb L xs) (d + 7)) (mm_tb L xs) mm_m194 (mm_li mm_m194) Q 153 [some (mm_R 176), some (mm_I (nI f)), some (mm_I (nI n)), some (mm_I x3), some (mm_I x4), some (mm_I va), some (mm_I vb), some (mm_I vc), x8] (o.toList ++ []) n1 n2) := by
  subst ea eb ec
  have hND := hI.1.2.1
  have vn : vp_in (nI n) 200 := vp_in_nI (by omega) (by decide)
  have en : (nI n).toNatClampNeg = n := nI_clamp (by omega)
  have hb := hG.2.2.1
  refine sp_typeAs hI hG.2.1 hf hn (by omega) (fun z => tpv_v hI hG hn (by decide) (by rw [mm_tt0]; omega) (k1 z)) (fun z => tpv_v hI hG hn (by decide) (by rw [mm_tt1]; omega) (k2 z)) (fun z => tpv_v hI hG hn (by decide) (by rw [mm_tt2]; omega) (k3 z)) (fun w v TZ w1 w2 w3 w4 w5 => ?_)
  refine bk_X12_goThrough_153 (mm_call_m _) (fun _ => vn) (fun z => ?_) (fun z => ?_) (fun _ _ => vn) (fun z z2 => ?_) (fun _ _ => vn) (fun _ _ => ?_)
  · rw [en]
    exact hK _ TZ _ _ _ _ _ _ (GT_st hI hG hn w4 w1 w2 w3 (.inl z))
  · rcases w5 with q | ⟨r, q1, q2, q3⟩
    · exact absurd q z
    · have := vd_lt q2 hI.1.1.2 w1.2.1.2
      rw [q1]
      exact vp_in_nI this (by decide)
  · rw [en]
    refine hK _ TZ _ _ _ _ _ _ (GT_st hI hG hn w4 w1 w2 w3 ?_)
    rcases w5 with q | ⟨r, q1, q2, q3⟩
    · exact absurd q z
    · have := vd_lt q2 hI.1.1.2 w1.2.1.2
      rw [q1, nI_clamp (by omega), Int32.le_iff_toInt_le, mm_tt5] at z2
      exact .inr ⟨r, q1, q2, z2, fun y => k1 y.1 y.2, fun y => k2 y.1 y.2, fun y => k3 y.1 y.2, q3⟩
  · rw [en]
    exact hK _ TZ _ _ _ _ _ _ (GT_st hI hG hn w4 w1 w2 w3 (.inl rfl))
theorem go_130 {f n NB ND NF TY : Nat} {w0 : mm_P} {va vb x3 x4 : Int32} {x7 x8 : Option mm_V} (hp : f_parts (mi 188 n) = 3) (ea : va = tpv mi n 0) (eb : vb = tpv mi n 1) (hI : IM mi NB ND NF) (hG : GT NB NF w0 mi f n TY) (hf : f < NF) (hn : n < ND) (hx : ¬ x3 = 0 → ∀ i : Int32, 0 ≤ i.toInt → i.toInt < (f_parts (mi 188 n)).toInt → ¬ tpv mi n i = -1) (hK : ∀ w TZ x3 x4 x5 x6 x7 x8, GT NB NF w0 w f (n + 1) TZ → mm_WQ (mm_call mm_ms (mm_tb L xs) (d + 7)) (mm_tb L xs) mm_m194 (mm_li mm_m194) Q 6 [some (mm_R 176), some (mm_I (nI f)), some (mm_I (nI n + 1)), x3, x4, x5, x6, x7, x8] [] w ml) : mm_cq (mm_call mm_ms (mm_tb L xs) (d + 7)) 186 [mm_R 176, mm_I (nI n), mm_I 2] mi ml (fun o n1 n2 => mm_WQ (mm_call mm_ms (mm_tb L xs) (d + 7)) (mm_tb L xs) mm_m194 (mm_li mm_m194) Q 130 [some (mm_R 176), some (mm_I (nI f)), some (mm_I (nI n)), some (mm_I x3), some (mm_I x4), some (mm_I va), some (mm_I vb), x7, x8] (o.toList ++ [mm_R 198]) n1 n2) := by
  have hND := hI.1.2.1
  have vn : vp_in (nI n) 200 := vp_in_nI (by omega) (by decide)
  have en : (nI n).toNatClampNeg = n := nI_clamp (by omega)
  have hpi : (f_parts (mi 188 n)).toInt = 3 := by rw [hp]; rfl
  have ec : mi 198 (f_part mi n 2).toNatClampNeg = tpv mi n 2 := (tpv_1 (by rw [hpi]; decide)).symm
  obtain ⟨p, p1, p2, -⟩ := f_part_r (i := 2) (hI.2.2.2.2.1 n hn) (by decide) (by rw [hpi]; decide)
  refine sp_X12_partOf (by omega) (bk_X12_goThrough_130 (mm_call_m _) ?_ (fun _ _ => vn) (fun _ _ => ?_) (fun _ z => absurd rfl z) (fun _ z => absurd rfl z) (fun _ z => absurd rfl z) (fun _ z => absurd rfl z) (fun _ z => absurd rfl z) (fun z => ?_))
  · rw [p2]
    exact vp_in_nI (by omega) (by decide)
  · rw [en]
    exact hK _ TY _ _ _ _ _ _ (GT_st hI hG hn MKP_r hG.2.1 (Nat.le_refl _) (by omega) (.inl rfl))
  · refine go_ty ea eb ec hI hG hf hn (fun _ => ?_) (fun _ => ?_) (fun _ => ?_) hK
    · rw [ea]; exact hx z 0 (by decide) (by rw [hpi]; decide)
    · rw [eb]; exact hx z 1 (by decide) (by rw [hpi]; decide)
    · rw [ec]; exact hx z 2 (by decide) (by rw [hpi]; decide)
theorem go_107 {f n NB ND NF TY : Nat} {w0 : mm_P} {va x3 x4 : Int32} {x6 x7 x8 : Option mm_V} (hp : f_parts (mi 188 n) = 2 ∨ f_parts (mi 188 n) = 3) (e4 : x4 = f_parts (mi 188 n)) (ea : va = tpv mi n 0) (hI : IM mi NB ND NF) (hG : GT NB NF w0 mi f n TY) (hf : f < NF) (hn : n < ND) (hx : ¬ x3 = 0 → ∀ i : Int32, 0 ≤ i.toInt → i.toInt < (f_parts (mi 188 n)).toInt → ¬ tpv mi n i = -1) (hK : ∀ w TZ x3 x4 x5 x6 x7 x8, GT NB NF w0 w f (n + 1) TZ → mm_WQ (mm_call mm_ms (mm_tb L xs) (d + 7)) (mm_tb L xs) mm_m194 (mm_li mm_m194) Q 6 [some (mm_R 176), some (mm_I (nI f)), some (mm_I (nI n + 1)), x3, x4, x5, x6, x7, x8] [] w ml) : mm_cq (mm_call mm_ms (mm_tb L xs) (d + 7)) 186 [mm_R 176, mm_I (nI n), mm_I 1] mi ml (fun o n1 n2 => mm_WQ (mm_call mm_ms (mm_tb L xs) (d + 7)) (mm_tb L xs) mm_m194 (mm_li mm_m194) Q 107 [some (mm_R 176), some (mm_I (nI f)), some (mm_I (nI n)), some (mm_I x3), some (mm_I x4), some (mm_I va), x6, x7, x8] (o.toList ++ [mm_R 198]) n1 n2) := by
  have hND := hI.1.2.1
  have vn : vp_in (nI n) 200 := vp_in_nI (by omega) (by decide)
  have en : (nI n).toNatClampNeg = n := nI_clamp (by omega)
  have hpi : 2 ≤ (f_parts (mi 188 n)).toInt := by rcases hp with hp | hp <;> (rw [hp]; decide)
  have eb : mi 198 (f_part mi n 1).toNatClampNeg = tpv mi n 1 := (tpv_1 (by rw [mm_tt1]; omega)).symm
  obtain ⟨p, p1, p2, -⟩ := f_part_r (i := 1) (hI.2.2.2.2.1 n hn) (by decide) (by rw [mm_tt1]; omega)
  refine sp_X12_partOf (by omega) (bk_X12_goThrough_107 (mm_call_m _) ?_ (fun _ _ _ => vn) (fun _ _ _ => ?_) (fun _ _ z => absurd rfl z) (fun _ _ z => absurd rfl z) (fun _ _ z => absurd rfl z) (fun _ _ z => absurd rfl z) (fun _ _ z => absurd rfl z) (fun y z => ?_) (fun y => ?_))
  · rw [p2]
    exact vp_in_nI (by omega) (by decide)
  · rw [en]
    exact hK _ TY _ _ _ _ _ _ (GT_st hI hG hn MKP_r hG.2.1 (Nat.le_refl _) (by omega) (.inl rfl))
  · have hp2 : f_parts (mi 188 n) = 2 := by
      rcases hp with hp | hp
      · exact hp
      · rw [e4, hp] at y
        exact absurd y (by decide)
    have hpi2 : (f_parts (mi 188 n)).toInt = 2 := by rw [hp2]; rfl
    refine go_ty ea eb (tpv_0 (by rw [hpi2]; decide)).symm hI hG hf hn (fun _ => ?_) (fun _ => ?_) (fun q => ?_) hK
    · rw [ea]; exact hx z 0 (by decide) (by rw [hpi2]; decide)
    · rw [eb]; exact hx z 1 (by decide) (by rw [hpi2]; decide)
    · omega
  · refine go_130 ?_ ea eb hI hG hf hn hx hK
    rcases hp with hp | hp
    · rw [e4, hp] at y
      exact absurd (by decide) y
    · exact hp
theorem go_84 {f n NB ND NF TY : Nat} {w0 : mm_P} {x3 x4 : Int32} {x5 : Int32} {x6 x7 x8 : Option mm_V} (hp : f_parts (mi 188 n) = 1 ∨ f_parts (mi 188 n) = 2 ∨ f_parts (mi 188 n) = 3) (e4 : x4 = f_parts (mi 188 n)) (hI : IM mi NB ND NF) (hG : GT NB NF w0 mi f n TY) (hf : f < NF) (hn : n < ND) (hx : ¬ x3 = 0 → ∀ i : Int32, 0 ≤ i.toInt → i.toInt < (f_parts (mi 188 n)).toInt → ¬ tpv mi n i = -1) (hK : ∀ w TZ x3 x4 x5 x6 x7 x8, GT NB NF w0 w f (n + 1) TZ → mm_WQ (mm_call mm_ms (mm_tb L xs) (d + 7)) (mm_tb L xs) mm_m194 (mm_li mm_m194) Q 6 [some (mm_R 176), some (mm_I (nI f)), some (mm_I (nI n + 1)), x3, x4, x5, x6, x7, x8] [] w ml) : mm_cq (mm_call mm_ms (mm_tb L xs) (d + 7)) 186 [mm_R 176, mm_I (nI n), mm_I 0] mi ml (fun o n1 n2 => mm_WQ (mm_call mm_ms (mm_tb L xs) (d + 7)) (mm_tb L xs) mm_m194 (mm_li mm_m194) Q 84 [some (mm_R 176), some (mm_I (nI f)), some (mm_I (nI n)), some (mm_I x3), some (mm_I x4), some (mm_I x5), x6, x7, x8] (o.toList ++ [mm_R 198]) n1 n2) := by
  have hND := hI.1.2.1
  have vn : vp_in (nI n) 200 := vp_in_nI (by omega) (by decide)
  have en : (nI n).toNatClampNeg = n := nI_clamp (by omega)
  have hpi : 1 ≤ (f_parts (mi 188 n)).toInt := by rcases hp with hp | hp | hp <;> (rw [hp]; decide)
  have ea : mi 198 (f_part mi n 0).toNatClampNeg = tpv mi n 0 := (tpv_1 (by rw [mm_tt0]; omega)).symm
  obtain ⟨p, p1, p2, -⟩ := f_part_r (i := 0) (hI.2.2.2.2.1 n hn) (by decide) (by rw [mm_tt0]; omega)
  refine sp_X12_partOf (by omega) (bk_X12_goThrough_84 (mm_call_m _) ?_ (fun _ _ _ _ => vn) (fun _ _ _ _ => ?_) (fun _ _ _ z => absurd rfl z) (fun _ _ _ z => absurd rfl z) (fun _ _ _ z => absurd rfl z) (fun _ _ _ z => absurd rfl z) (fun _ _ _ z => absurd rfl z) (fun y _ z => ?_) (fun y z => ?_) (fun y => ?_))
  · rw [p2]
    exact vp_in_nI (by omega) (by decide)
  · rw [en]
    exact hK _ TY _ _ _ _ _ _ (GT_st hI hG hn MKP_r hG.2.1 (Nat.le_refl _) (by omega) (.inl rfl))
  · have hp2 : f_parts (mi 188 n) = 1 := by
      rcases hp with hp | hp | hp
      · exact hp
      · rw [e4, hp] at y
        exact absurd y (by decide)
      · rw [e4, hp] at y
        exact absurd y (by decide)
    have hpi2 : (f_parts (mi 188 n)).toInt = 1 := by rw [hp2]; rfl
    refine go_ty ea (tpv_0 (by rw [hpi2]; decide)).symm (tpv_0 (by rw [hpi2]; decide)).symm hI hG hf hn (fun _ => ?_) (fun q => ?_) (fun q => ?_) hK
    · rw [ea]; exact hx z 0 (by decide) (by rw [hpi2]; decide)
    · omega
    · omega
  · rcases hp with hp | hp | hp
    · rw [e4, hp] at z
      exact absurd (by decide) z
    · rw [e4, hp] at y
      exact absurd y (by decide)
    · rw [e4, hp] at y
      exact absurd y (by decide)
  · refine go_107 ?_ e4 ea hI hG hf hn hx hK
    rcases hp with hp | hp
    · rw [e4, hp] at y
      exact absurd (by decide) y
    · exact hp
/-- behind the inner loop -/
theorem go_end {f n NB ND NF TY : Nat} {w0 : mm_P} {x3 x4 x5 : Int32} {x6 x7 x8 : Option mm_V} (e4 : x4 = f_parts (mi 188 n)) (hle : x4 ≤ x5) (hI : IM mi NB ND NF) (hG : GT NB NF w0 mi f n TY) (hf : f < NF) (hn : n < ND) (hx : ¬ x3 = 0 → ∀ i : Int32, 0 ≤ i.toInt → i.toInt < (f_parts (mi 188 n)).toInt → ¬ tpv mi n i = -1) (hK : ∀ w TZ x3 x4 x5 x6 x7 x8, GT NB NF w0 w f (n + 1) TZ → mm_WQ (mm_call mm_ms (mm_tb L xs) (d + 7)) (mm_tb L xs) mm_m194 (mm_li mm_m194) Q 6 [some (mm_R 176), some (mm_I (nI f)), some (mm_I (nI n + 1)), x3, x4, x5, x6, x7, x8] [] w ml) : mm_WQ (mm_call mm_ms (mm_tb L xs) (d + 7)) (mm_tb L xs) mm_m194 (mm_li mm_m194) Q 30 [some (mm_R 176), some (mm_I (nI f)), some (mm_I (nI n)), some (mm_I x3), some (mm_I x4), some (mm_I x5), x6, x7, x8] [] mi ml := by
  have hND := hI.1.2.1
  have vn : vp_in (nI n) 200 := vp_in_nI (by omega) (by decide)
  have en : (nI n).toNatClampNeg = n := nI_clamp (by omega)
  have hm : GT NB NF w0 (mm_u mi 198 n (-1)) f (n + 1) TY := GT_st hI hG hn MKP_r hG.2.1 (Nat.le_refl _) (by omega) (.inl rfl)
  have hp := f_parts_in (mi 188 n)
  refine bk_X12_goThrough_30 (mm_call_m _) (fun _ _ _ _ _ _ => vn) (fun _ _ _ _ _ _ => ?_) (fun _ _ _ _ _ z => absurd rfl z) (fun _ _ _ _ _ z => absurd rfl z) (fun _ _ _ _ _ z => absurd rfl z) (fun _ _ _ _ _ z => absurd rfl z) (fun _ _ _ _ _ z => absurd rfl z) (fun _ y _ _ z => ?_) (fun _ y _ z => ?_) (fun _ y z => ?_) (fun _ y => ?_) (fun z => absurd hle z) (fun z => absurd hle z)
  · rw [en]
    exact hK _ TY _ _ _ _ _ _ hm
  · have hp0 : f_parts (mi 188 n) = 0 := by
      rcases hp with hp | hp | hp | hp
      · exact hp
      · rw [e4, hp] at y
        exact absurd y (by decide)
      · rw [e4, hp] at y
        exact absurd y (by decide)
      · rw [e4, hp] at y
        exact absurd y (by decide)
    have hpi : (f_parts (mi 188 n)).toInt = 0 := by rw [hp0]; rfl
    exact go_ty (tpv_0 (by rw [hpi]; decide)).symm (tpv_0 (by rw [hpi]; decide)).symm (tpv_0 (by rw [hpi]; decide)).symm hI hG hf hn (fun q => by omega) (fun q => by omega) (fun q => by omega) hK
  · exfalso
    rcases hp with hp | hp | hp | hp <;> rw [e4, hp] at y z
    · exact z (by decide)
    · exact absurd y (by decide)
    · exact absurd y (by decide)
    · exact absurd y (by decide)
  · exfalso
    rcases hp with hp | hp | hp | hp <;> rw [e4, hp] at y z
    · exact z (by decide)
    · exact absurd y (by decide)
    · exact absurd y (by decide)
    · exact absurd y (by decide)
  · refine go_84 ?_ e4 hI hG hf hn hx hK
    rcases hp with hp | hp
    · rw [e4, hp] at y
      exact absurd (by decide) y
    · exact hp
/-- the inner loop: it looks at each part -/
theorem go_30 {f n NB ND NF TY : Nat} {w0 : mm_P} (hI : IM mi NB ND NF) (hG : GT NB NF w0 mi f n TY) (hf : f < NF) (hn : n < ND) (hK : ∀ w TZ x3 x4 x5 x6 x7 x8, GT NB NF w0 w f (n + 1) TZ → mm_WQ (mm_call mm_ms (mm_tb L xs) (d + 7)) (mm_tb L xs) mm_m194 (mm_li mm_m194) Q 6 [some (mm_R 176), some (mm_I (nI f)), some (mm_I (nI n + 1)), x3, x4, x5, x6, x7, x8] [] w ml) : ∀ (j i : Nat) {x3 : Int32} {x6 x7 x8 : Option mm_V}, 4 ≤ i + j → i ≤ 4 → (¬ x3 = 0 → ∀ k : Int32, 0 ≤ k.toInt → k.toInt < (f_parts (mi 188 n)).toInt → k.toInt < i → ¬ tpv mi n k = -1) → mm_WQ (mm_call mm_ms (mm_tb L xs) (d + 7)) (mm_tb L xs) mm_m194 (mm_li mm_m194) Q 30 [some (mm_R 176), some (mm_I (nI f)), some (mm_I (nI n)), some (mm_I x3), some (mm_I (f_parts (mi 188 n))), some (mm_I (nI i)), x6, x7, x8] [] mi ml := by
  have hND := hI.1.2.1
  have vn : vp_in (nI n) 200 := vp_in_nI (by omega) (by decide)
  have en : (nI n).toNatClampNeg = n := nI_clamp (by omega)
  have hp := f_parts_in (mi 188 n)
  have hp3 : (f_parts (mi 188 n)).toInt ≤ 3 := by rcases hp with hp | hp | hp | hp <;> (rw [hp]; decide)
  intro j
  induction j with
  | zero =>
    intro i x3 x6 x7 x8 h1 h2 hx
    have ei : (nI i).toInt = i := mm_tI (by omega)
    exact go_end rfl (by rw [Int32.le_iff_toInt_le, ei]; omega) hI hG hf hn (fun z k k0 k1 => hx z k k0 k1 (by omega)) hK
  | succ j ih =>
    intro i x3 x6 x7 x8 h1 h2 hx
    have ei : (nI i).toInt = i := mm_tI (by omega)
    by_cases hle : f_parts (mi 188 n) ≤ nI i
    · have hle2 := hle
      rw [Int32.le_iff_toInt_le, ei] at hle2
      exact go_end rfl hle hI hG hf hn (fun z k k0 k1 => hx z k k0 k1 (by omega)) hK
    · have hle2 := hle
      rw [Int32.le_iff_toInt_le, ei] at hle2
      have es : nI i + 1 = nI (i + 1) := (nI_succ i).symm
      have h61 : ∀ {y3 : Int32} {y6 y7 y8 : Option mm_V}, mm_WQ (mm_call mm_ms (mm_tb L xs) (d + 7)) (mm_tb L xs) mm_m194 (mm_li mm_m194) Q 61 [some (mm_R 176), some (mm_I (nI f)), some (mm_I (nI n)), some (mm_I y3), some (mm_I (f_parts (mi 188 n))), some (mm_I (nI i)), y6, y7, y8] [] mi ml := by
        intro y3 y6 y7 y8
        refine bk_X12_goThrough_61 (mm_call_m _) ?_
        rw [es]
        exact ih (i + 1) (by omega) (by omega) (fun z => absurd rfl z)
      have hn' : ∀ {P : Prop}, f_parts (mi 188 n) ≤ nI i → P := fun z => absurd z hle
      refine bk_X12_goThrough_30 (mm_call_m _) (fun z => hn' z) (fun z => hn' z) (fun z => hn' z) (fun z => hn' z) (fun z => hn' z) (fun z => hn' z) (fun z => hn' z) (fun z => hn' z) (fun z => hn' z) (fun z => hn' z) (fun z => hn' z) (fun _ _ => h61) (fun _ z3 => ?_)
      have h0 : (0 : Int) ≤ (nI i).toInt := by omega
      have h1' : (nI i).toInt < (f_parts (mi 188 n)).toInt := by omega
      obtain ⟨p, p1, p2, -⟩ := f_part_r (hI.2.2.2.2.1 n hn) h0 h1'
      refine sp_X12_partOf (by omega) (bk_X12_goThrough_52 (mm_call_m _) ?_ (fun _ => h61) (fun z => ?_))
      · rw [p2]
        exact vp_in_nI (by omega) (by decide)
      · rw [es]
        refine ih (i + 1) (by omega) (by omega) (fun _ k k0 k1 k2 => ?_)
        by_cases hk : k = nI i
        · rw [hk, tpv_1 h1']
          exact z
        · exact hx z3 k k0 k1 (by
            have : ¬ k.toInt = (nI i).toInt := fun q => hk (Int32.toInt_inj.mp q)
            omega)
theorem go_6 {f NB ND NF : Nat} {w0 : mm_P} (hf : f < NF) (hI : IM w0 NB ND NF) (hQ : ∀ n TY, GT NB NF w0 n f ND TY → Q none n ml) : ∀ (j i TY : Nat) (w : mm_P) {x3 x4 x5 x6 x7 x8 : Option mm_V}, i + j = ND → GT NB NF w0 w f i TY → mm_WQ (mm_call mm_ms (mm_tb L xs) (d + 7)) (mm_tb L xs) mm_m194 (mm_li mm_m194) Q 6 [some (mm_R 176), some (mm_I (nI f)), some (mm_I (nI i)), x3, x4, x5, x6, x7, x8] [] w ml := by
  have hND := hI.1.2.1
  intro j
  induction j with
  | zero =>
    intro i TY w x3 x4 x5 x6 x7 x8 h hG
    have hi : i = ND := by omega
    subst hi
    have hIw := IM_c hI hG.1
    refine bk_X12_goThrough_6 (mm_call_m _) (fun _ => hQ w TY hG) (fun z => ?_) (fun z => ?_) <;> exact absurd (by rw [hIw.2.1.2.1]; exact Int32.le_refl _) z
  | succ j ih =>
    intro i TY w x3 x4 x5 x6 x7 x8 h hG
    have hIw := IM_c hI hG.1
    have hlt : ¬ w 176 13 ≤ nI i := by
      rw [hIw.2.1.2.1, Int32.le_iff_toInt_le, mm_tI (by omega), mm_tI (by omega)]
      omega
    refine bk_X12_goThrough_6 (mm_call_m _) (fun z => absurd z hlt) (fun _ => vp_in_nI (by omega) (by decide)) (fun _ => ?_)
    rw [nI_clamp (by omega)]
    refine sp_X12_partsOf (bk_X12_goThrough_25 (mm_call_m _) (go_30 hIw hG hf (by omega) (fun w' TZ y3 y4 y5 y6 y7 y8 hG' => ?_) 4 0 (by omega) (by omega) (fun _ k k0 _ k1 => ?_)))
    · rw [show nI i + 1 = nI (i + 1) from (nI_succ i).symm]
      exact ih (i + 1) TZ w' (by omega) hG'
    · omega
theorem TS_fg {NB ND NF : Nat} {m n : mm_P} (hI : IM m NB ND NF) (h : mm_fg m n NB) : TS n NB 200 ∧ PR m n := by
  obtain ⟨h1, h2, h3, h4⟩ := h
  have hp : PR m n := fun c i q => h1 c i (fun z => by
      subst z
      have : pg 184 i = false := rfl
      rw [this] at q
      cases q) (fun z => by
      obtain ⟨rfl, rfl⟩ := z
      exact absurd q (by decide))
  have hI' := IM_c hI hp
  obtain ⟨i1, ⟨i2, i3, i4⟩, i5, i6⟩ := hI'
  refine ⟨⟨i1.1, ⟨Nat.le_refl _, by decide⟩, i2, h2, fun k hk hk0 => ?_, by omega, fun t ht => ?_⟩, hp⟩
  · obtain ⟨q1, q2⟩ := h4 k hk hk0
    obtain ⟨a, a1, a2, a3, a4⟩ := mm_of (x := n 184 k) (n := NB + 1) (by omega) (by omega)
    rw [a1, mm_tI a3] at q1
    refine ⟨a - 1, .inl (by omega), ?_⟩
    rw [a1]
    congr 1
    omega
  · exact i5 t (by unfold vd at ht; omega)
theorem sp_goThrough {f NB ND NF : Nat} (hf : f < NF) (hI : IM mi NB ND NF) (hQ : ∀ n TY, GT NB NF mi n f ND TY → Q none n ml) : mm_cq (mm_call mm_ms (mm_tb L xs) (d + 8)) 194 [mm_R 176, mm_I (nI f)] mi ml Q := by
  have hNB := hI.1.1
  refine en_X12_goThrough (bk_X12_goThrough_0 (mm_call_m _) (sp_forgets (N := NB) ?_ hNB.2 (fun n hfg => bk_X12_goThrough_4 (mm_call_m _) ?_)))
  · rw [hI.2.1.1]
    exact mm_tI (by omega)
  · obtain ⟨t1, t2⟩ := TS_fg hI hfg
    exact go_6 hf hI hQ ND 0 200 n (by omega) ⟨t2, t1, by omega, fun j hj => absurd hj (Nat.not_lt_zero _), fun c i a b e => hfg.1 c i (by omega) e⟩
end MMT
