/-! ===== goThrough() of the model: what it finds ===== -/
/-- the shape of part i of node j, by the shapes S of nodes -/
def psh (S : Nat → Int64) (w : mm_P) (j : Nat) (i : Int32) : Int64 := if i.toInt < (f_parts (w 188 j)).toInt then S (f_part w j i).toNatClampNeg else -1
def tydx (S : Nat → Int64) (NB TY : Nat) (w : mm_P) (j : Nat) : Prop := (w 198 j = -1 ∧ S j = -1) ∨ ∃ r, w 198 j = nI r ∧ vd NB TY r ∧ (w 180 r).toInt ≤ 5 ∧ SHV w r = S j
def GX (S : Nat → Int64) (NB NF : Nat) (w0 w : mm_P) (f i TY : Nat) : Prop := PR w0 w ∧ TX w NB TY ∧ TY ≤ 200 + 30 * i ∧ (∀ j, j < i → tydx S NB TY w j) ∧ GF w0 w
/-- S are the shapes that the class finds in function f -/
def XS (NB ND NF : Nat) (S : Nat → Int64) (w0 : mm_P) (ml : mm_G) (f : Nat) : Prop := IM w0 NB ND NF ∧ TC NB w0 ml ∧ f < NF ∧ ∀ j, j < ND → S j = FSH NF w0 ml f j (psh S w0 j 0) (psh S w0 j 1) (psh S w0 j 2)
section MFC
variable {NB ND NF f j : Nat} {m n : mm_P} {ml n2 : mm_G} {a b c : Int64}
theorem CSH_c (hI : IM m NB ND NF) (hf : f < NF) (hj : j < ND) (k : m 188 j = 14) (hn : ∀ c, 188 ≤ c → c ≤ 192 → n c j = m c j) (hF : ∀ g, g < NF → ∀ c, 194 ≤ c → c ≤ 196 → n c g = m c g) (hr : ∀ t, t < NB → n 181 t = m 181 t ∧ n 182 t = m 182 t) (hl : ∀ t, t < NB → n2 2 t = ml 2 t) : CSH NF n n2 f j a = CSH NF m ml f j a := by
  obtain ⟨⟨⟨i1, i2⟩, i3, i4⟩, i5, i6, i7, i8, i9, -⟩ := id hI
  obtain ⟨c1, c2, c3, c4, c5⟩ := (i8 j hj).2.2.2.2 k
  by_cases hg : (m 189 j).toInt < (NF : Int)
  · obtain ⟨g, eg, g1, g2, g3⟩ := mm_of c1.1 hg
    have hg' : g < NF := by omega
    obtain ⟨-, ⟨x, x1, x2, -⟩, ⟨y, y1, y2, -⟩, -⟩ := i9 g hg'
    have hS : ∀ {v : Int32}, (v = -1 ∨ tyN NB v) → SHO n2 v = SHO ml v := fun {v} hv => by
      rcases hv with h | ⟨t, t1, t2⟩
      · unfold SHO
        rw [if_pos h, if_pos h]
      · rw [SHO_t (by omega) t2, SHO_t (by omega) t2]
        exact hl t t1
    have hw : ∀ {v l : Int32}, (v = -1 ∨ tyN NB v) → ((v = -1 ∨ wthn n v.toNatClampNeg l) ↔ (v = -1 ∨ wthn m v.toNatClampNeg l)) := fun {v l} hv => by
      rcases hv with h | ⟨t, t1, t2⟩
      · exact ⟨fun _ => .inl h, fun _ => .inl h⟩
      · unfold wthn
        rw [t2, nI_clamp (by omega), (hr t t1).1, (hr t t1).2]
    have hnl : nlt n j = nlt m j := by
      unfold nlt
      rw [hn 191 (by decide) (by decide), hn 192 (by decide) (by decide)]
    have hK : CSK NF n n2 f j a ↔ CSK NF m ml f j a := by
      unfold CSK
      rw [hnl, hn 189 (by decide) (by decide), hn 191 (by decide) (by decide), hn 192 (by decide) (by decide), g3, hF g hg' 194 (by decide) (by decide), hF g hg' 195 (by decide) (by decide), hF f hf 194 (by decide) (by decide), x2, nI_clamp (by omega), hl x x1, hS c3, hS c4, hw c3, hw c4]
    unfold CSH
    by_cases h : CSK NF m ml f j a
    · rw [pik_t h, pik_t (hK.mpr h), hn 189 (by decide) (by decide), hn 191 (by decide) (by decide), hn 192 (by decide) (by decide), g3, hF g hg' 196 (by decide) (by decide), y2, nI_clamp (by omega), hl y y1, hS c3, hS c4]
    · rw [pik_f h, pik_f (fun z => h (hK.mp z))]
  · unfold CSH
    rw [pik_f (P := CSK NF n n2 f j a) (fun z => hg (by have := z.1.1; rw [hn 189 (by decide) (by decide)] at this; exact this)), pik_f (P := CSK NF m ml f j a) (fun z => hg z.1.1)]
/-- what is found speaks of the program alone -/
theorem FSH_c (hI : IM m NB ND NF) (hf : f < NF) (hj : j < ND) (hn : ∀ c, 188 ≤ c → c ≤ 192 → n c j = m c j) (hF : ∀ g, g < NF → ∀ c, 194 ≤ c → c ≤ 196 → n c g = m c g) (hr : ∀ t, t < NB → n 181 t = m 181 t ∧ n 182 t = m 182 t) (hl : ∀ t, t < NB → n2 2 t = ml 2 t) : FSH NF n n2 f j a b c = FSH NF m ml f j a b c := by
  obtain ⟨⟨⟨i1, i2⟩, i3, i4⟩, i5, i6, i7, i8, i9, -⟩ := id hI
  obtain ⟨b1, b2, b3, b4, b5⟩ := i8 j hj
  have e8 := hn 188 (by decide) (by decide)
  obtain ⟨i, ei, j1, j2, -⟩ := mm_of (n := 15) b1.1 (by omega)
  have hcase : i = 0 ∨ i = 1 ∨ i = 2 ∨ i = 3 ∨ i = 4 ∨ i = 5 ∨ i = 6 ∨ i = 7 ∨ i = 8 ∨ i = 9 ∨ i = 10 ∨ i = 11 ∨ i = 12 ∨ i = 13 ∨ i = 14 := by omega
  rcases hcase with rfl | rfl | rfl | rfl | rfl | rfl | rfl | rfl | rfl | rfl | rfl | rfl | rfl | rfl | rfl
  · rw [FSH_0 ei, FSH_0 (e8.trans ei)]
  · rw [FSH_1 ei, FSH_1 (e8.trans ei)]
  · obtain ⟨-, ⟨x, x1, x2, -⟩, -⟩ := i9 f hf
    rw [FSH_2 ei, FSH_2 (e8.trans ei), hF f hf 195 (by decide) (by decide), x2, nI_clamp (by omega)]
    exact hl x x1
  · rw [FSH_3 ei, FSH_3 (e8.trans ei)]
  · rw [FSH_4 ei, FSH_4 (e8.trans ei)]
  · rw [FSH_5 ei, FSH_5 (e8.trans ei)]
  · rw [FSH_6 ei, FSH_6 (e8.trans ei)]
  · rw [FSH_7 ei, FSH_7 (e8.trans ei)]
  · rw [FSH_8 ei, FSH_8 (e8.trans ei)]
  · obtain ⟨t, t1, t2⟩ := b4 ei
    have hw : wthn n t (m 194 f) ↔ wthn m t (m 194 f) := by
      unfold wthn
      rw [(hr t t1).1, (hr t t1).2]
    rw [FSH_9 ei, FSH_9 (e8.trans ei), hn 189 (by decide) (by decide), hF f hf 194 (by decide) (by decide), t2, nI_clamp (by omega), hl t t1]
    by_cases h : wthn m t (m 194 f)
    · rw [pik_t h, pik_t (hw.mpr h)]
    · rw [pik_f h, pik_f (fun z => h (hw.mp z))]
  · rw [FSH_10 ei, FSH_10 (e8.trans ei)]
  · rw [FSH_11 ei, FSH_11 (e8.trans ei)]
  · rw [FSH_12 ei, FSH_12 (e8.trans ei)]
  · rw [FSH_13 ei, FSH_13 (e8.trans ei)]
  · rw [FSH_14 ei, FSH_14 (e8.trans ei)]
    exact CSH_c hI hf hj ei hn hF hr hl
end MFC
theorem XS_w {S : Nat → Int64} {NB ND NF TY f n i : Nat} {w0 w : mm_P} {ml : mm_G} (hX : XS NB ND NF S w0 ml f) (hG : GX S NB NF w0 w f i TY) (hn : n < ND) : S n = FSH NF w ml f n (psh S w n 0) (psh S w n 1) (psh S w n 2) ∧ TC NB w ml := by
  obtain ⟨hI, hC, hf, hS⟩ := hX
  have hp := hG.1
  have hN := hI.1.1.2
  have h8 : ∀ c i, 188 ≤ c → c ≤ 197 → w c i = w0 c i := fun c i a b => hp c i (pg_nod a b)
  have hps : ∀ i, psh S w n i = psh S w0 n i := fun i => by
    unfold psh
    rw [h8 188 n (by decide) (by decide), f_part_c h8]
  refine ⟨?_, TC_c hC (hp 1 1 rfl) (fun t ht c a b => hp c t (pg_row a b (by omega))) (fun _ _ => rfl)⟩
  rw [hps, hps, hps, hS n hn]
  exact (FSH_c hI hf hn (fun c a b => h8 c n a (by omega)) (fun g _ c a b => h8 c g (by omega) (by omega)) (fun t ht => ⟨hp 181 t (pg_row (by decide) (by decide) (by omega)), hp 182 t (pg_row (by decide) (by decide) (by omega))⟩) (fun _ _ => rfl)).symm
theorem psh_1 {S : Nat → Int64} {w : mm_P} {n : Nat} {i : Int32} (h : i.toInt < (f_parts (w 188 n)).toInt) : psh S w n i = S (f_part w n i).toNatClampNeg := by
  unfold psh
  rw [if_pos h]
theorem tpx_v {S : Nat → Int64} {NB ND NF TY n f : Nat} {w0 w : mm_P} {i : Int32} (hI : IM w NB ND NF) (hG : GX S NB NF w0 w f n TY) (hn : n < ND) (h0 : 0 ≤ i.toInt) (h1 : i.toInt < (f_parts (w 188 n)).toInt) (h2 : ¬ tpv w n i = -1) : tv NB TY w (tpv w n i) (psh S w n i) := by
  obtain ⟨p, p1, p2, -⟩ := f_part_r (hI.2.2.2.2.1 n hn) h0 h1
  have e := tpv_1 h1
  have e' := psh_1 (S := S) h1
  rw [p2, nI_clamp (by have := hI.1.2.1; omega)] at e e'
  rcases hG.2.2.2.1 p p1 with q | ⟨r, q1, q2, q3, q4⟩
  · exact absurd (e.trans q.1) h2
  · exact ⟨r, q2, e.trans q1, q3, q4.trans e'.symm⟩
theorem tpx_n {S : Nat → Int64} {NB ND NF TY n f : Nat} {w0 w : mm_P} {ml : mm_G} {i : Int32} (hI : IM w NB ND NF) (hX : XS NB ND NF S w0 ml f) (hG : GX S NB NF w0 w f n TY) (hn : n < ND) (h0 : 0 ≤ i.toInt) (h1 : i.toInt < (f_parts (w 188 n)).toInt) (h2 : tpv w n i = -1) : S n = -1 := by
  obtain ⟨p, p1, p2, -⟩ := f_part_r (hI.2.2.2.2.1 n hn) h0 h1
  have e := tpv_1 h1
  have e' := psh_1 (S := S) h1
  rw [p2, nI_clamp (by have := hI.1.2.1; omega)] at e e'
  have hs : psh S w n i = -1 := by
    rcases hG.2.2.2.1 p p1 with q | ⟨r, q1, q2, q3, q4⟩
    · exact e'.trans q.2
    · have := vd_lt q2 hI.1.1.2 hG.2.1.1.2.1.2
      exact absurd ((e.trans q1).symm.trans h2) (nI_ne (by omega))
  have hp := f_parts_in (w 188 n)
  have hp3 : (f_parts (w 188 n)).toInt ≤ 3 := by rcases hp with hp | hp | hp | hp <;> (rw [hp]; decide)
  rw [(XS_w hX hG hn).1]
  refine FSH_n (hI.2.2.2.2.1 n hn).1 ?_
  obtain ⟨k, ek, k1, k2, -⟩ := mm_of h0 (show i.toInt < 3 by omega)
  have hk : (nI k).toInt = k := mm_tI (by omega)
  rw [ek] at h1 hs
  rcases (show k = 0 ∨ k = 1 ∨ k = 2 by omega) with rfl | rfl | rfl
  · exact .inl ⟨by omega, hs⟩
  · exact .inr (.inl ⟨by omega, hs⟩)
  · exact .inr (.inr ⟨by omega, hs⟩)
theorem GX_st {S : Nat → Int64} {NB ND NF TY TZ n f : Nat} {w0 w w' : mm_P} {v : Int32} (hI : IM w NB ND NF) (h : GX S NB NF w0 w f n TY) (hn : n < ND) (hm : MKP TY w w') (hT : TX w' NB TZ) (hl : TY ≤ TZ) (hl2 : TZ ≤ TY + 30) (hv : (v = -1 ∧ S n = -1) ∨ ∃ r, v = nI r ∧ vd NB TZ r ∧ (w' 180 r).toInt ≤ 5 ∧ SHV w' r = S n) : GX S NB NF w0 (mm_u w' 198 n v) f (n + 1) TZ := by
  obtain ⟨h1, h2, h3, h4, h5⟩ := h
  have hT0 := h2.1.2.1.1
  have hw : ∀ c i, 188 ≤ c → c ≤ 198 → w' c i = w c i := fun c i q _ => MKP_h hm q
  have hu : ∀ c i, 177 ≤ c → c ≤ 184 → mm_u w' 198 n v c i = w' c i := fun c i _ _ => mm_u_e (by omega)
  refine ⟨PR_u (PR_t h1 (PR_mkp hm hT0)) (show pg 198 n = false from rfl), TX_c hT (mm_u_e (by decide)) (mm_u_e (by decide)) hu, by omega, fun j hj => ?_, GF_u (GF_mkp h5 hm)⟩
  have hsv : ∀ r, vd NB TZ r → SHV (mm_u w' 198 n v) r = SHV w' r := fun r hr => SHV_c (TX_W hT) (fun t _ c a b => hu c t a (by omega)) hr
  by_cases hjn : j = n
  · subst hjn
    rcases hv with ⟨q, q'⟩ | ⟨r, q1, q2, q3, q4⟩
    · exact .inl ⟨mm_u_s.trans q, q'⟩
    · refine .inr ⟨r, mm_u_s.trans q1, q2, ?_, (hsv r q2).trans q4⟩
      rw [mm_u_e (by decide)]
      exact q3
  · have hj' : j < n := by omega
    have hv' : ∀ t, vd NB TY t → ∀ c, 177 ≤ c → c ≤ 183 → w' c t = w c t := fun t ht c a b => MKP_v hm hI.1.1.2 hT0 ht a b
    rcases h4 j hj' with ⟨q, q'⟩ | ⟨r, q1, q2, q3, q4⟩
    · exact .inl ⟨(mm_u_f hjn).trans ((hw 198 j (by decide) (by decide)).trans q), q'⟩
    · refine .inr ⟨r, (mm_u_f hjn).trans ((hw 198 j (by decide) (by decide)).trans q1), vd_le q2 hl, ?_, ?_⟩
      · rw [mm_u_e (by decide), hv' r q2 180 (by decide) (by decide)]
        exact q3
      · rw [hsv r (vd_le q2 hl), SHV_c (TX_W h2) hv' q2]
        exact q4
section MMT
variable {L : Nat} {xs : Nat → Int32} {d : Nat} {Q : mm_QQ} {mi : mm_P} {ml : mm_G} {lim : Nat × Nat}
theorem gx_ty {f n NB ND NF TY : Nat} {S : Nat → Int64} {w0 : mm_P} {va vb vc x3 x4 : Int32} {x8 : Option mm_V} (ea : va = tpv mi n 0) (eb : vb = tpv mi n 1) (ec : vc = tpv mi n 2) (hI : IM mi NB ND NF) (hG : GX S NB NF w0 mi f n TY) (hX : XS NB ND NF S w0 ml f) (hf : f < NF) (hn : n < ND) (k1 : 1 ≤ (f_parts (mi 188 n)).toInt → ¬ va = -1) (k2 : 2 ≤ (f_parts (mi 188 n)).toInt → ¬ vb = -1) (k3 : 3 ≤ (f_parts (mi 188 n)).toInt → ¬ vc = -1) (hK : ∀ w TZ x3 x4 x5 x6 x7 x8, GX S NB NF w0 w f (n + 1) TZ → mm_WQ (mm_call mm_ms (mm_tb L xs) (d + 7)) (mm_tb L xs) mm_m194 (mm_li mm_m194) Q 6 [some (mm_R 176), some (mm_I (nI f)), some (mm_I (nI n + 1)), x3, x4, x5, x6, x7, x8] [] w ml) : mm_cq (mm_call mm_ms (mm_tb L xs) (d + 7)) 193 [mm_R 176, mm_I (nI f), mm_I (nI n), mm_I va, mm_I vb, mm_I vc] mi ml (fun o n1 n2 => mm_WQ (mm_call mm_ms (mm_tb L xs) (d + 7)) (mm_tb L xs) mm_m194 (mm_li mm_m194) Q 153 [some (mm_R 176), some (mm_I (nI f)), some (mm_I (nI n)), some (mm_I x3), some (mm_I x4), some (mm_I va), some (mm_I vb), some (mm_I vc), x8] (o.toList ++ []) n1 n2) := by
  subst ea eb ec
  have hND := hI.1.2.1
  have vn : vp_in (nI n) 200 := vp_in_nI (by omega) (by decide)
  have en : (nI n).toNatClampNeg = n := nI_clamp (by omega)
  have hb := hG.2.2.1
  obtain ⟨hS, hC⟩ := XS_w hX hG hn
  refine sx_typeAs hI hG.2.1 hC hf hn (by omega) (fun z => tpx_v hI hG hn (by decide) (by rw [mm_tt0]; omega) (k1 z)) (fun z => tpx_v hI hG hn (by decide) (by rw [mm_tt1]; omega) (k2 z)) (fun z => tpx_v hI hG hn (by decide) (by rw [mm_tt2]; omega) (k3 z)) (fun z => ?_) (fun w v TZ w1 w2 w3 w4 w5 => ?_)
  · rw [tpv_1 (by rw [z]; decide)]
    unfold f_part
    rw [if_pos z]
  rw [← hS] at w5
  refine bk_X12_goThrough_153 (mm_call_m _) (fun _ => vn) (fun z => ?_) (fun z => ?_) (fun _ _ => vn) (fun z z2 => ?_) (fun _ _ => vn) (fun z z2 => ?_)
  · rw [en]
    refine hK _ TZ _ _ _ _ _ _ (GX_st hI hG hn w4 w1 w2 w3 (.inl ⟨z, ?_⟩))
    rcases w5 with q | ⟨r, q1, q2, q3⟩
    · exact q.2
    · have := vd_lt q2 hI.1.1.2 w1.1.2.1.2
      exact absurd (q1.symm.trans z) (nI_ne (by omega))
  · rcases w5 with q | ⟨r, q1, q2, q3⟩
    · exact absurd q.1 z
    · have := vd_lt q2 hI.1.1.2 w1.1.2.1.2
      rw [q1]
      exact vp_in_nI this (by decide)
  · rw [en]
    refine hK _ TZ _ _ _ _ _ _ (GX_st hI hG hn w4 w1 w2 w3 ?_)
    rcases w5 with q | ⟨r, q1, q2, q3⟩
    · exact absurd q.1 z
    · have := vd_lt q2 hI.1.1.2 w1.1.2.1.2
      rw [q1, nI_clamp (by omega), Int32.le_iff_toInt_le, mm_tt5] at z2
      exact .inr ⟨r, q1, q2, z2, q3⟩
  · rw [en]
    refine hK _ TZ _ _ _ _ _ _ (GX_st hI hG hn w4 w1 w2 w3 (.inl ⟨rfl, ?_⟩))
    rcases w5 with q | ⟨r, q1, q2, q3⟩
    · exact q.2
    · have := vd_lt q2 hI.1.1.2 w1.1.2.1.2
      rw [q1, nI_clamp (by omega), Int32.le_iff_toInt_le, mm_tt5] at z2
      rw [← q3]
      exact SHV_n (TX_W w1) q2 z2
theorem gx_130 {f n NB ND NF TY : Nat} {S : Nat → Int64} {w0 : mm_P} {va vb x3 x4 : Int32} {x7 x8 : Option mm_V} (hp : f_parts (mi 188 n) = 3) (ea : va = tpv mi n 0) (eb : vb = tpv mi n 1) (hI : IM mi NB ND NF) (hG : GX S NB NF w0 mi f n TY) (hX : XS NB ND NF S w0 ml f) (hf : f < NF) (hn : n < ND) (hx : ¬ x3 = 0 → ∀ i : Int32, 0 ≤ i.toInt → i.toInt < (f_parts (mi 188 n)).toInt → ¬ tpv mi n i = -1) (hz : x3 = 0 → S n = -1) (hK : ∀ w TZ x3 x4 x5 x6 x7 x8, GX S NB NF w0 w f (n + 1) TZ → mm_WQ (mm_call mm_ms (mm_tb L xs) (d + 7)) (mm_tb L xs) mm_m194 (mm_li mm_m194) Q 6 [some (mm_R 176), some (mm_I (nI f)), some (mm_I (nI n + 1)), x3, x4, x5, x6, x7, x8] [] w ml) : mm_cq (mm_call mm_ms (mm_tb L xs) (d + 7)) 186 [mm_R 176, mm_I (nI n), mm_I 2] mi ml (fun o n1 n2 => mm_WQ (mm_call mm_ms (mm_tb L xs) (d + 7)) (mm_tb L xs) mm_m194 (mm_li mm_m194) Q 130 [some (mm_R 176), some (mm_I (nI f)), some (mm_I (nI n)), some (mm_I x3), some (mm_I x4), some (mm_I va), some (mm_I vb), x7, x8] (o.toList ++ [mm_R 198]) n1 n2) := by
  have hND := hI.1.2.1
  have vn : vp_in (nI n) 200 := vp_in_nI (by omega) (by decide)
  have en : (nI n).toNatClampNeg = n := nI_clamp (by omega)
  have hpi : (f_parts (mi 188 n)).toInt = 3 := by rw [hp]; rfl
  have ec : mi 198 (f_part mi n 2).toNatClampNeg = tpv mi n 2 := (tpv_1 (by rw [hpi]; decide)).symm
  obtain ⟨p, p1, p2, -⟩ := f_part_r (i := 2) (hI.2.2.2.2.1 n hn) (by decide) (by rw [hpi]; decide)
  refine sp_X12_partOf (by omega) (bk_X12_goThrough_130 (mm_call_m _) ?_ (fun _ _ => vn) (fun q0 _ => ?_) (fun _ z => absurd rfl z) (fun _ z => absurd rfl z) (fun _ z => absurd rfl z) (fun _ z => absurd rfl z) (fun _ z => absurd rfl z) (fun z => ?_))
  · rw [p2]
    exact vp_in_nI (by omega) (by decide)
  · rw [en]
    exact hK _ TY _ _ _ _ _ _ (GX_st hI hG hn MKP_r hG.2.1 (Nat.le_refl _) (by omega) (.inl ⟨rfl, hz q0⟩))
  · refine gx_ty ea eb ec hI hG hX hf hn (fun _ => ?_) (fun _ => ?_) (fun _ => ?_) hK
    · rw [ea]; exact hx z 0 (by decide) (by rw [hpi]; decide)
    · rw [eb]; exact hx z 1 (by decide) (by rw [hpi]; decide)
    · rw [ec]; exact hx z 2 (by decide) (by rw [hpi]; decide)
theorem gx_107 {f n NB ND NF TY : Nat} {S : Nat → Int64} {w0 : mm_P} {va x3 x4 : Int32} {x6 x7 x8 : Option mm_V} (hp : f_parts (mi 188 n) = 2 ∨ f_parts (mi 188 n) = 3) (e4 : x4 = f_parts (mi 188 n)) (ea : va = tpv mi n 0) (hI : IM mi NB ND NF) (hG : GX S NB NF w0 mi f n TY) (hX : XS NB ND NF S w0 ml f) (hf : f < NF) (hn : n < ND) (hx : ¬ x3 = 0 → ∀ i : Int32, 0 ≤ i.toInt → i.toInt < (f_parts (mi 188 n)).toInt → ¬ tpv mi n i = -1) (hz : x3 = 0 → S n = -1) (hK : ∀ w TZ x3 x4 x5 x6 x7 x8, GX S NB NF w0 w f (n + 1) TZ → mm_WQ (mm_call mm_ms (mm_tb L xs) (d + 7)) (mm_tb L xs) mm_m194 (mm_li mm_m194) Q 6 [some (mm_R 176), some (mm_I (nI f)), some (mm_I (nI n + 1)), x3, x4, x5, x6, x7, x8] [] w ml) : mm_cq (mm_call mm_ms (mm_tb L xs) (d + 7)) 186 [mm_R 176, mm_I (nI n), mm_I 1] mi ml (fun o n1 n2 => mm_WQ (mm_call mm_ms (mm_tb L xs) (d + 7)) (mm_tb L xs) mm_m194 (mm_li mm_m194) Q 107 [some (mm_R 176), some (mm_I (nI f)), some (mm_I (nI n)), some (mm_I x3), some (mm_I x4), some (mm_I va), x6, x7, x8] (o.toList ++ [mm_R 198]) n1 n2) := by
  have hND := hI.1.2.1
  have vn : vp_in (nI n) 200 := vp_in_nI (by omega) (by decide)
  have en : (nI n).toNatClampNeg = n := nI_clamp (by omega)
  have hpi : 2 ≤ (f_parts (mi 188 n)).toInt := by rcases hp with hp | hp <;> (rw [hp]; decide)
  have eb : mi 198 (f_part mi n 1).toNatClampNeg = tpv mi n 1 := (tpv_1 (by rw [mm_tt1]; omega)).symm
  obtain ⟨p, p1, p2, -⟩ := f_part_r (i := 1) (hI.2.2.2.2.1 n hn) (by decide) (by rw [mm_tt1]; omega)
  refine sp_X12_partOf (by omega) (bk_X12_goThrough_107 (mm_call_m _) ?_ (fun _ _ _ => vn) (fun _ q0 _ => ?_) (fun _ _ z => absurd rfl z) (fun _ _ z => absurd rfl z) (fun _ _ z => absurd rfl z) (fun _ _ z => absurd rfl z) (fun _ _ z => absurd rfl z) (fun y z => ?_) (fun y => ?_))
  · rw [p2]
    exact vp_in_nI (by omega) (by decide)
  · rw [en]
    exact hK _ TY _ _ _ _ _ _ (GX_st hI hG hn MKP_r hG.2.1 (Nat.le_refl _) (by omega) (.inl ⟨rfl, hz q0⟩))
  · have hp2 : f_parts (mi 188 n) = 2 := by
      rcases hp with hp | hp
      · exact hp
      · rw [e4, hp] at y
        exact absurd y (by decide)
    have hpi2 : (f_parts (mi 188 n)).toInt = 2 := by rw [hp2]; rfl
    refine gx_ty ea eb (tpv_0 (by rw [hpi2]; decide)).symm hI hG hX hf hn (fun _ => ?_) (fun _ => ?_) (fun q => ?_) hK
    · rw [ea]; exact hx z 0 (by decide) (by rw [hpi2]; decide)
    · rw [eb]; exact hx z 1 (by decide) (by rw [hpi2]; decide)
    · omega
  · refine gx_130 ?_ ea eb hI hG hX hf hn hx hz hK
    rcases hp with hp | hp
    · rw [e4, hp] at y
      exact absurd (by decide) y
    · exact hp
theorem gx_84 {f n NB ND NF TY : Nat} {S : Nat → Int64} {w0 : mm_P} {x3 x4 : Int32} {x5 : Int32} {x6 x7 x8 : Option mm_V} (hp : f_parts (mi 188 n) = 1 ∨ f_parts (mi 188 n) = 2 ∨ f_parts (mi 188 n) = 3) (e4 : x4 = f_parts (mi 188 n)) (hI : IM mi NB ND NF) (hG : GX S NB NF w0 mi f n TY) (hX : XS NB ND NF S w0 ml f) (hf : f < NF) (hn : n < ND) (hx : ¬ x3 = 0 → ∀ i : Int32, 0 ≤ i.toInt → i.toInt < (f_parts (mi 188 n)).toInt → ¬ tpv mi n i = -1) (hz : x3 = 0 → S n = -1) (hK : ∀ w TZ x3 x4 x5 x6 x7 x8, GX S NB NF w0 w f (n + 1) TZ → mm_WQ (mm_call mm_ms (mm_tb L xs) (d + 7)) (mm_tb L xs) mm_m194 (mm_li mm_m194) Q 6 [some (mm_R 176), some (mm_I (nI f)), some (mm_I (nI n + 1)), x3, x4, x5, x6, x7, x8] [] w ml) : mm_cq (mm_call mm_ms (mm_tb L xs) (d + 7)) 186 [mm_R 176, mm_I (nI n), mm_I 0] mi ml (fun o n1 n2 => mm_WQ (mm_call mm_ms (mm_tb L xs) (d + 7)) (mm_tb L xs) mm_m194 (mm_li mm_m194) Q 84 [some (mm_R 176), some (mm_I (nI f)), some (mm_I (nI n)), some (mm_I x3), some (mm_I x4), some (mm_I x5), x6, x7, x8] (o.toList ++ [mm_R 198]) n1 n2) := by
  have hND := hI.1.2.1
  have vn : vp_in (nI n) 200 := vp_in_nI (by omega) (by decide)
  have en : (nI n).toNatClampNeg = n := nI_clamp (by omega)
  have hpi : 1 ≤ (f_parts (mi 188 n)).toInt := by rcases hp with hp | hp | hp <;> (rw [hp]; decide)
  have ea : mi 198 (f_part mi n 0).toNatClampNeg = tpv mi n 0 := (tpv_1 (by rw [mm_tt0]; omega)).symm
  obtain ⟨p, p1, p2, -⟩ := f_part_r (i := 0) (hI.2.2.2.2.1 n hn) (by decide) (by rw [mm_tt0]; omega)
  refine sp_X12_partOf (by omega) (bk_X12_goThrough_84 (mm_call_m _) ?_ (fun _ _ _ _ => vn) (fun _ _ q0 _ => ?_) (fun _ _ _ z => absurd rfl z) (fun _ _ _ z => absurd rfl z) (fun _ _ _ z => absurd rfl z) (fun _ _ _ z => absurd rfl z) (fun _ _ _ z => absurd rfl z) (fun y _ z => ?_) (fun y z => ?_) (fun y => ?_))
  · rw [p2]
    exact vp_in_nI (by omega) (by decide)
  · rw [en]
    exact hK _ TY _ _ _ _ _ _ (GX_st hI hG hn MKP_r hG.2.1 (Nat.le_refl _) (by omega) (.inl ⟨rfl, hz q0⟩))
  · have hp2 : f_parts (mi 188 n) = 1 := by
      rcases hp with hp | hp | hp
      · exact hp
      · rw [e4, hp] at y
        exact absurd y (by decide)
      · rw [e4, hp] at y
        exact absurd y (by decide)
    have hpi2 : (f_parts (mi 188 n)).toInt = 1 := by rw [hp2]; rfl
    refine gx_ty ea (tpv_0 (by rw [hpi2]; decide)).symm (tpv_0 (by rw [hpi2]; decide)).symm hI hG hX hf hn (fun _ => ?_) (fun q => ?_) (fun q => ?_) hK
    · rw [ea]; exact hx z 0 (by decide) (by rw [hpi2]; decide)
    · omega
    · omega
  · rcases hp with hp | hp | hp
    · rw [e4, hp] at z
      exact absurd (by decide) z
    · rw [e4, hp] at y
      exact absurd y (by decide)
    · rw [e4, hp] at y
      exact absurd y (by decide)
  · refine gx_107 ?_ e4 ea hI hG hX hf hn hx hz hK
    rcases hp with hp | hp
    · rw [e4, hp] at y
      exact absurd (by decide) y
    · exact hp
/-- behind the inner loop -/
theorem gx_end {f n NB ND NF TY : Nat} {S : Nat → Int64} {w0 : mm_P} {x3 x4 x5 : Int32} {x6 x7 x8 : Option mm_V} (e4 : x4 = f_parts (mi 188 n)) (hle : x4 ≤ x5) (hI : IM mi NB ND NF) (hG : GX S NB NF w0 mi f n TY) (hX : XS NB ND NF S w0 ml f) (hf : f < NF) (hn : n < ND) (hx : ¬ x3 = 0 → ∀ i : Int32, 0 ≤ i.toInt → i.toInt < (f_parts (mi 188 n)).toInt → ¬ tpv mi n i = -1) (hz : x3 = 0 → S n = -1) (hK : ∀ w TZ x3 x4 x5 x6 x7 x8, GX S NB NF w0 w f (n + 1) TZ → mm_WQ (mm_call mm_ms (mm_tb L xs) (d + 7)) (mm_tb L xs) mm_m194 (mm_li mm_m194) Q 6 [some (mm_R 176), some (mm_I (nI f)), some (mm_I (nI n + 1)), x3, x4, x5, x6, x7, x8] [] w ml) : mm_WQ (mm_call mm_ms (mm_tb L xs) (d + 7)) (mm_tb L xs) mm_m194 (mm_li mm_m194) Q 30 [some (mm_R 176), some (mm_I (nI f)), some (mm_I (nI n)), some (mm_I x3), some (mm_I x4), some (mm_I x5), x6, x7, x8] [] mi ml := by
  have hND := hI.1.2.1
  have vn : vp_in (nI n) 200 := vp_in_nI (by omega) (by decide)
  have en : (nI n).toNatClampNeg = n := nI_clamp (by omega)
  have hm : x3 = 0 → GX S NB NF w0 (mm_u mi 198 n (-1)) f (n + 1) TY := fun q0 => GX_st hI hG hn MKP_r hG.2.1 (Nat.le_refl _) (by omega) (.inl ⟨rfl, hz q0⟩)
  have hp := f_parts_in (mi 188 n)
  refine bk_X12_goThrough_30 (mm_call_m _) (fun _ _ _ _ _ _ => vn) (fun _ _ _ _ q0 _ => ?_) (fun _ _ _ _ _ z => absurd rfl z) (fun _ _ _ _ _ z => absurd rfl z) (fun _ _ _ _ _ z => absurd rfl z) (fun _ _ _ _ _ z => absurd rfl z) (fun _ _ _ _ _ z => absurd rfl z) (fun _ y _ _ z => ?_) (fun _ y _ z => ?_) (fun _ y z => ?_) (fun _ y => ?_) (fun z => absurd hle z) (fun z => absurd hle z)
  · rw [en]
    exact hK _ TY _ _ _ _ _ _ (hm q0)
  · have hp0 : f_parts (mi 188 n) = 0 := by
      rcases hp with hp | hp | hp | hp
      · exact hp
      · rw [e4, hp] at y
        exact absurd y (by decide)
      · rw [e4, hp] at y
        exact absurd y (by decide)
      · rw [e4, hp] at y
        exact absurd y (by decide)
    have hpi : (f_parts (mi 188 n)).toInt = 0 := by rw [hp0]; rfl
    exact gx_ty (tpv_0 (by rw [hpi]; decide)).symm (tpv_0 (by rw [hpi]; decide)).symm (tpv_0 (by rw [hpi]; decide)).symm hI hG hX hf hn (fun q => by omega) (fun q => by omega) (fun q => by omega) hK
  · exfalso
    rcases hp with hp | hp | hp | hp <;> rw [e4, hp] at y z
    · exact z (by decide)
    · exact absurd y (by decide)
    · exact absurd y (by decide)
    · exact absurd y (by decide)
  · exfalso
    rcases hp with hp | hp | hp | hp <;> rw [e4, hp] at y z
    · exact z (by decide)
    · exact absurd y (by decide)
    · exact absurd y (by decide)
    · exact absurd y (by decide)
  · refine gx_84 ?_ e4 hI hG hX hf hn hx hz hK
    rcases hp with hp | hp
    · rw [e4, hp] at y
      exact absurd (by decide) y
    · exact hp
/-- the inner loop: it looks at each part -/
theorem gx_30 {f n NB ND NF TY : Nat} {S : Nat → Int64} {w0 : mm_P} (hI : IM mi NB ND NF) (hG : GX S NB NF w0 mi f n TY) (hX : XS NB ND NF S w0 ml f) (hf : f < NF) (hn : n < ND) (hK : ∀ w TZ x3 x4 x5 x6 x7 x8, GX S NB NF w0 w f (n + 1) TZ → mm_WQ (mm_call mm_ms (mm_tb L xs) (d + 7)) (mm_tb L xs) mm_m194 (mm_li mm_m194) Q 6 [some (mm_R 176), some (mm_I (nI f)), some (mm_I (nI n + 1)), x3, x4, x5, x6, x7, x8] [] w ml) : ∀ (j i : Nat) {x3 : Int32} {x6 x7 x8 : Option mm_V}, 4 ≤ i + j → i ≤ 4 → (¬ x3 = 0 → ∀ k : Int32, 0 ≤ k.toInt → k.toInt < (f_parts (mi 188 n)).toInt → k.toInt < i → ¬ tpv mi n k = -1) → (x3 = 0 → S n = -1) → mm_WQ (mm_call mm_ms (mm_tb L xs) (d + 7)) (mm_tb L xs) mm_m194 (mm_li mm_m194) Q 30 [some (mm_R 176), some (mm_I (nI f)), some (mm_I (nI n)), some (mm_I x3), some (mm_I (f_parts (mi 188 n))), some (mm_I (nI i)), x6, x7, x8] [] mi ml := by
  have hND := hI.1.2.1
  have vn : vp_in (nI n) 200 := vp_in_nI (by omega) (by decide)
  have en : (nI n).toNatClampNeg = n := nI_clamp (by omega)
  have hp := f_parts_in (mi 188 n)
  have hp3 : (f_parts (mi 188 n)).toInt ≤ 3 := by rcases hp with hp | hp | hp | hp <;> (rw [hp]; decide)
  intro j
  induction j with
  | zero =>
    intro i x3 x6 x7 x8 h1 h2 hx hz
    have ei : (nI i).toInt = i := mm_tI (by omega)
    exact gx_end rfl (by rw [Int32.le_iff_toInt_le, ei]; omega) hI hG hX hf hn (fun z k k0 k1 => hx z k k0 k1 (by omega)) hz hK
  | succ j ih =>
    intro i x3 x6 x7 x8 h1 h2 hx hz
    have ei : (nI i).toInt = i := mm_tI (by omega)
    by_cases hle : f_parts (mi 188 n) ≤ nI i
    · have hle2 := hle
      rw [Int32.le_iff_toInt_le, ei] at hle2
      exact gx_end rfl hle hI hG hX hf hn (fun z k k0 k1 => hx z k k0 k1 (by omega)) hz hK
    · have hle2 := hle
      rw [Int32.le_iff_toInt_le, ei] at hle2
      have es : nI i + 1 = nI (i + 1) := (nI_succ i).symm
      have h61 : S n = -1 → ∀ {y3 : Int32} {y6 y7 y8 : Option mm_V}, mm_WQ (mm_call mm_ms (mm_tb L xs) (d + 7)) (mm_tb L xs) mm_m194 (mm_li mm_m194) Q 61 [some (mm_R 176), some (mm_I (nI f)), some (mm_I (nI n)), some (mm_I y3), some (mm_I (f_parts (mi 188 n))), some (mm_I (nI i)), y6, y7, y8] [] mi ml := by
        intro hs y3 y6 y7 y8
        refine bk_X12_goThrough_61 (mm_call_m _) ?_
        rw [es]
        exact ih (i + 1) (by omega) (by omega) (fun z => absurd rfl z) (fun _ => hs)
      have hn' : ∀ {P : Prop}, f_parts (mi 188 n) ≤ nI i → P := fun z => absurd z hle
      refine bk_X12_goThrough_30 (mm_call_m _) (fun z => hn' z) (fun z => hn' z) (fun z => hn' z) (fun z => hn' z) (fun z => hn' z) (fun z => hn' z) (fun z => hn' z) (fun z => hn' z) (fun z => hn' z) (fun z => hn' z) (fun z => hn' z) (fun _ z0 => h61 (hz z0)) (fun _ z3 => ?_)
      have h0 : (0 : Int) ≤ (nI i).toInt := by omega
      have h1' : (nI i).toInt < (f_parts (mi 188 n)).toInt := by omega
      obtain ⟨p, p1, p2, -⟩ := f_part_r (hI.2.2.2.2.1 n hn) h0 h1'
      refine sp_X12_partOf (by omega) (bk_X12_goThrough_52 (mm_call_m _) ?_ (fun z0 => h61 (tpx_n hI hX hG hn h0 h1' ((tpv_1 h1').trans z0))) (fun z => ?_))
      · rw [p2]
        exact vp_in_nI (by omega) (by decide)
      · rw [es]
        refine ih (i + 1) (by omega) (by omega) (fun _ k k0 k1 k2 => ?_) (fun q => absurd q (by decide))
        by_cases hk : k = nI i
        · rw [hk, tpv_1 h1']
          exact z
        · exact hx z3 k k0 k1 (by
            have : ¬ k.toInt = (nI i).toInt := fun q => hk (Int32.toInt_inj.mp q)
            omega)
theorem gx_6 {f NB ND NF : Nat} {S : Nat → Int64} {w0 : mm_P} (hf : f < NF) (hI : IM w0 NB ND NF) (hX : XS NB ND NF S w0 ml f) (hQ : ∀ n TY, GX S NB NF w0 n f ND TY → Q none n ml) : ∀ (j i TY : Nat) (w : mm_P) {x3 x4 x5 x6 x7 x8 : Option mm_V}, i + j = ND → GX S NB NF w0 w f i TY → mm_WQ (mm_call mm_ms (mm_tb L xs) (d + 7)) (mm_tb L xs) mm_m194 (mm_li mm_m194) Q 6 [some (mm_R 176), some (mm_I (nI f)), some (mm_I (nI i)), x3, x4, x5, x6, x7, x8] [] w ml := by
  have hND := hI.1.2.1
  intro j
  induction j with
  | zero =>
    intro i TY w x3 x4 x5 x6 x7 x8 h hG
    have hi : i = ND := by omega
    subst hi
    have hIw := IM_c hI hG.1
    refine bk_X12_goThrough_6 (mm_call_m _) (fun _ => hQ w TY hG) (fun z => ?_) (fun z => ?_) <;> exact absurd (by rw [hIw.2.1.2.1]; exact Int32.le_refl _) z
  | succ j ih =>
    intro i TY w x3 x4 x5 x6 x7 x8 h hG
    have hIw := IM_c hI hG.1
    have hlt : ¬ w 176 13 ≤ nI i := by
      rw [hIw.2.1.2.1, Int32.le_iff_toInt_le, mm_tI (by omega), mm_tI (by omega)]
      omega
    refine bk_X12_goThrough_6 (mm_call_m _) (fun z => absurd z hlt) (fun _ => vp_in_nI (by omega) (by decide)) (fun _ => ?_)
    rw [nI_clamp (by omega)]
    refine sp_X12_partsOf (bk_X12_goThrough_25 (mm_call_m _) (gx_30 hIw hG hX hf (by omega) (fun w' TZ y3 y4 y5 y6 y7 y8 hG' => ?_) 4 0 (by omega) (by omega) (fun _ k k0 _ k1 => ?_) (fun q => absurd q (by decide))))
    · rw [show nI i + 1 = nI (i + 1) from (nI_succ i).symm]
      exact ih (i + 1) TZ w' (by omega) hG'
    · omega
/-- numbered types: each once -/
theorem TC_TU {m : mm_P} {ml : mm_G} {NB : Nat} (hW : WTY NB 200 m) (hT : TC NB m ml) : TU NB 200 m := fun t u ht hu e1 e2 e3 => by
  have ht' : t < NB := by
    unfold vd at ht
    omega
  have hu' : u < NB := by
    unfold vd at hu
    omega
  refine hT.2.2 t u ht' hu' ?_
  rw [← SHV_ml hW hT ht', ← SHV_ml hW hT hu']
  unfold SHV
  rw [shv_e hW (t + 1) (t + u + 1) t (by omega) (by omega) ht, shv_e hW (u + 1) (t + u + 1) u (by omega) (by omega) hu]
  refine shv_s.trans (Eq.trans ?_ shv_s.symm)
  rw [e1, e2, e3]
theorem sx_goThrough {f NB ND NF : Nat} {S : Nat → Int64} (hX : XS NB ND NF S mi ml f) (hQ : ∀ n TY, GX S NB NF mi n f ND TY → Q none n ml) : mm_cq (mm_call mm_ms (mm_tb L xs) (d + 8)) 194 [mm_R 176, mm_I (nI f)] mi ml Q := by
  obtain ⟨hI, hC, hf, hS⟩ := id hX
  have hNB := hI.1.1
  refine en_X12_goThrough (bk_X12_goThrough_0 (mm_call_m _) (sx_forgets (N := NB) ?_ hNB.2 (fun n hfg hint => bk_X12_goThrough_4 (mm_call_m _) ?_)))
  · rw [hI.2.1.1]
    exact mm_tI (by omega)
  · obtain ⟨t1, t2⟩ := TS_fg hI hfg
    have hC' : TC NB n ml := TC_c hC (t2 1 1 rfl) (fun t ht c a b => t2 c t (pg_row a b (by omega))) (fun _ _ => rfl)
    have hW : WTY NB 200 n := ⟨hNB.2, by decide, t1.2.2.2.2.2.2⟩
    have hTX : TX n NB 200 := ⟨t1, fun t ht => hint t (by unfold vd at ht; omega), TC_TU hW hC'⟩
    exact gx_6 hf hI hX hQ ND 0 200 n (by omega) ⟨t2, hTX, by omega, fun j hj => absurd hj (Nat.not_lt_zero _), fun c i a b e => hfg.1 c i (by omega) e⟩
end MMT
