/-! ===== copies of the model: calls of a body, deepIn(), copied() ===== -/
/-- nodes of a well typed body have types -/
theorem typed_IB {NB ND NF TY f b n : Nat} {m w : mm_P} (hI : IM m NB ND NF) (hp : PR m w) (hb : b < ND) (hbf : m 197 f = nI b) (ht : ∀ j, j < ND → tyd NB NF TY w f j) (hw : ¬ w 198 b = -1) (hn : IB ND m f n) : n < ND ∧ ¬ w 198 n = -1 := by
  have hIw := IM_c hI hp
  have hND := hI.1.2.1
  refine hn (fun n => n < ND ∧ ¬ w 198 n = -1) (fun c c1 c2 => ?_) (fun j j1 j2 i i0 i1 => ?_)
  · have e : c = b := nI_ij (by omega) (by omega) (c2.symm.trans hbf)
    subst e
    exact ⟨c1, hw⟩
  · obtain ⟨p, p1, p2, -⟩ := f_part_r (hI.2.2.2.2.1 j j1) i0 i1
    have hfp : f_part w j i = f_part m j i := f_part_c (fun c i h1 h2 => hp c i (pg_nod h1 h2))
    have ek : w 188 j = m 188 j := hp 188 j (pg_nod (by decide) (by decide))
    have hti : tpv w j i = w 198 p := by
      rw [tpv_1 (by rw [ek]; exact i1), hfp, p2, nI_clamp (by omega)]
    rw [p2, nI_clamp (by omega)]
    refine ⟨by omega, fun q => ?_⟩
    rcases ht j j1 with z | ⟨r, z1, z2, z3, z4, z5, z6, z7⟩
    · exact j2.2 z
    · rw [ek] at z4 z5 z6
      have hc := f_parts_in (m 188 j)
      have hp3 : (f_parts (m 188 j)).toInt ≤ 3 := by rcases hc with h | h | h | h <;> (rw [h]; decide)
      rw [q] at hti
      rcases (show i.toInt = 0 ∨ i.toInt = 1 ∨ i.toInt = 2 by omega) with h | h | h
      · have e : i = 0 := Int32.toInt_inj.mp h
        subst e
        exact z4 ⟨by omega, hti⟩
      · have e : i = 1 := Int32.toInt_inj.mp h
        subst e
        exact z5 ⟨by omega, hti⟩
      · have e : i = 2 := Int32.toInt_inj.mp h
        subst e
        exact z6 ⟨by omega, hti⟩
/-- a call in a well typed body -/
theorem WTy_call {NB ND NF f n : Nat} {m : mm_P} (hI : IM m NB ND NF) (hW : WTy NB ND NF m f) (hn : IB ND m f n) (hk : m 188 n = 14) : ∃ g, g < NF ∧ m 189 n = nI g ∧ ((¬ m 191 n = -1 → 0 < (m 194 g).toInt) ∧ (¬ m 192 n = -1 → 1 < (m 194 g).toInt)) ∧ (0 < (m 194 g).toInt → ∃ t, t < NB ∧ m 191 n = nI t ∧ wthn m t (m 194 f)) ∧ (1 < (m 194 g).toInt → ∃ t, t < NB ∧ m 192 n = nI t ∧ wthn m t (m 194 f)) := by
  obtain ⟨hf, b, w, TY, h1, h2, h3, h4, h5, h6⟩ := hW
  have hND := hI.1.2.1
  have hNB := hI.1.1.2
  obtain ⟨o1, o2, ⟨y, o3, o4, o5⟩, o6⟩ := hI.2.2.2.2.2.1 f hf
  have hb : ¬ w 198 b = -1 := fun q => by
    rw [h6, o4] at q
    have := congrArg Int32.toInt q
    rw [mm_tI (by omega)] at this
    have e : (-1 : Int32).toInt = -1 := rfl
    omega
  obtain ⟨n1, n2⟩ := typed_IB hI h3 h1 h2 h5 hb hn
  have hp : ∀ c i, 188 ≤ c → c ≤ 197 → w c i = m c i := fun c i a b => h3 c i (pg_nod a b)
  rcases h5 n n1 with z | ⟨r, z1, z2, z3, z4, z5, z6, z7⟩
  · exact absurd z n2
  · have hk' : w 188 n = 14 := (hp 188 n (by decide) (by decide)).trans hk
    unfold NTy at z7
    rw [hk'] at z7
    rcases z7 with q | q | q | q | q | q | q | q | q | q | q | q | q | q | ⟨-, g, g1, g2, g2x, g3, g4, -⟩
    iterate 14 exact absurd q.1 (by decide)
    have hw : ∀ t, t < NB → ∀ l, wthn w t l → wthn m t l := fun t t1 l q => by
      unfold wthn at q ⊢
      rw [h3 181 t (pg_row (by decide) (by decide) (by omega)), h3 182 t (pg_row (by decide) (by decide) (by omega))] at q
      exact q
    rw [hp 189 n (by decide) (by decide)] at g2
    rw [hp 194 g (by decide) (by decide), hp 191 n (by decide) (by decide), hp 192 n (by decide) (by decide)] at g2x
    rw [hp 194 g (by decide) (by decide), hp 194 f (by decide) (by decide), hp 191 n (by decide) (by decide)] at g3
    rw [hp 194 g (by decide) (by decide), hp 194 f (by decide) (by decide), hp 192 n (by decide) (by decide)] at g4
    refine ⟨g, g1, g2, g2x, fun z => ?_, fun z => ?_⟩
    · obtain ⟨t, t1, t2, t3⟩ := g3 z
      exact ⟨t, t1, t2, hw t t1 _ t3⟩
    · obtain ⟨t, t1, t2, t3⟩ := g4 z
      exact ⟨t, t1, t2, hw t t1 _ t3⟩
/-- a copy's row -/
def CRo (NB TY : Nat) (w : mm_P) (c : Nat) : Prop := ∃ f, f < 12 ∧ used w f ∧ w 204 c = nI f ∧ (w 205 c = -1 ∨ vv NB TY (w 205 c)) ∧ (w 206 c = -1 ∨ vv NB TY (w 206 c)) ∧ (0 < (w 194 f).toInt → vv NB TY (w 205 c)) ∧ (1 < (w 194 f).toInt → vv NB TY (w 206 c))
def CR (NB TY C : Nat) (w : mm_P) : Prop := w 176 31 = nI C ∧ C ≤ 60 ∧ ∀ c, c < C → CRo NB TY w c
theorem vv_le {NB TY TZ : Nat} {v : Int32} (h : vv NB TY v) (hl : TY ≤ TZ) : vv NB TZ v := by
  obtain ⟨a, a1, a2⟩ := h
  exact ⟨a, vd_le a1 hl, a2⟩
theorem CRo_c {NB TY TZ c : Nat} {w w' : mm_P} (hl : TY ≤ TZ) (h200 : ∀ i, w' 200 i = w 200 i) (h194 : ∀ i, w' 194 i = w 194 i) (h204 : w' 204 c = w 204 c) (h205 : w' 205 c = w 205 c) (h206 : w' 206 c = w 206 c) (h : CRo NB TY w c) : CRo NB TZ w' c := by
  obtain ⟨f, f1, f2, f3, f4, f5, f6, f7⟩ := h
  refine ⟨f, f1, (used_c h200).mpr f2, h204.trans f3, ?_, ?_, fun z => ?_, fun z => ?_⟩
  · rw [h205]
    exact f4.imp_right (fun q => vv_le q hl)
  · rw [h206]
    exact f5.imp_right (fun q => vv_le q hl)
  · rw [h205]
    rw [h194] at z
    exact vv_le (f6 z) hl
  · rw [h206]
    rw [h194] at z
    exact vv_le (f7 z) hl
section MMT
variable {L : Nat} {xs : Nat → Int32} {d : Nat} {Q : mm_QQ} {mi : mm_P} {ml : mm_G} {lim : Nat × Nat}
theorem sp_deepIn {c NB TY : Nat} {x1 x2 x3 : Int32} (hT : TS mi NB TY) (hc : c < 60) (h2 : ¬ x2 ≤ 0 → vv NB TY (mi 205 c)) (h3 : ¬ x3 ≤ 0 → vv NB TY (mi 206 c)) (hQ : ∀ v, Q (some (mm_I v)) mi ml) : mm_cq (mm_call mm_ms (mm_tb L xs) (d + 2)) 204 [mm_R 176, mm_I x1, mm_I x2, mm_I x3, mm_I (nI c)] mi ml Q := by
  have vc : vp_in (nI c) 60 := vp_in_nI hc (by decide)
  have ec : (nI c).toNatClampNeg = c := nI_clamp (by omega)
  have hv : ∀ {v : Int32}, vv NB TY v → vp_in v 8000 := fun h => by
    obtain ⟨a, a1, a2⟩ := h
    have := vd_lt a1 hT.1.2 hT.2.1.2
    rw [a2]
    exact vp_in_nI this (by decide)
  refine en_X12_deepIn (bk_X12_deepIn_0 (mm_call_m _) (fun _ _ => hQ _) (fun _ _ => vc) (fun _ z => ?_) (fun _ _ => sp_most (bk_X12_deepIn_60 (mm_call_m _) (hQ _))) (fun _ => vc) (fun z => ?_) (fun _ => sp_most (bk_X12_deepIn_28 (mm_call_m _) (fun _ => hQ _) (fun _ => vc) (fun z => ?_) (fun _ => sp_most (bk_X12_deepIn_60 (mm_call_m _) (hQ _)))))) <;> rw [ec]
  · exact hv (h3 z)
  · exact hv (h2 z)
  · exact hv (h3 z)
theorem sp_isTooDeep {t c NB TY : Nat} (hT : TS mi NB TY) (ht : t < 8000) (hc : c < 60) (h2 : ¬ mi 181 t ≤ 0 → vv NB TY (mi 205 c)) (h3 : ¬ mi 182 t ≤ 0 → vv NB TY (mi 206 c)) (h1 : Q (some (mm_I 1)) mi ml) (h0 : Q (some (mm_I 0)) mi ml) : mm_cq (mm_call mm_ms (mm_tb L xs) (d + 3)) 205 [mm_R 176, mm_I (nI t), mm_I (nI c)] mi ml Q := by
  have vt : vp_in (nI t) 8000 := vp_in_nI ht (by decide)
  have et : (nI t).toNatClampNeg = t := nI_clamp (by omega)
  refine en_X12_isTooDeep (bk_X12_isTooDeep_0 (mm_call_m _) vt vt vt ?_)
  rw [et]
  exact sp_deepIn hT hc h2 h3 (fun v => bk_X12_isTooDeep_23 (mm_call_m _) (fun _ => h0) (fun _ => h1))
theorem copied_3 {C : Nat} {x1 x2 x3 : Int32} (hC : mi 176 31 = nI C) (hC2 : C ≤ 60) (hv2 : x2 = -1 ∨ vp_in x2 8000) (hv3 : x3 = -1 ∨ vp_in x3 8000) (hF : ∀ c, c < C → mi 204 c = x1 → mi 205 c = x2 → mi 206 c = x3 → Q (some (mm_I 1)) mi ml) (h0 : Q (some (mm_I 0)) mi ml) (hN : C < 60 → Q (some (mm_I 1)) (mm_u (mm_u (mm_u (mm_u mi 204 C x1) 205 C x2) 206 C x3) 176 31 (nI (C + 1))) ml) : ∀ (j i : Nat), i + j = C → mm_WQ (mm_call mm_ms (mm_tb L xs) d) (mm_tb L xs) mm_m206 lim Q 3 [some (mm_R 176), some (mm_I x1), some (mm_I x2), some (mm_I x3), some (mm_I (nI i))] [] mi ml := by
  intro j
  induction j with
  | zero =>
    intro i h
    have hi : i = C := by omega
    subst hi
    have hle : mi 176 31 ≤ nI i := by rw [hC]; exact Int32.le_refl _
    have ei : (nI i).toNatClampNeg = i := nI_clamp (by omega)
    have h92 : mm_WQ (mm_call mm_ms (mm_tb L xs) d) (mm_tb L xs) mm_m206 lim Q 92 [some (mm_R 176), some (mm_I x1), some (mm_I x2), some (mm_I x3), some (mm_I (nI i))] [] mi ml := bk_X12_copied_92 (mm_call_m _) h0
    have h94 : ¬ mi 176 31 = 60 → mm_WQ (mm_call mm_ms (mm_tb L xs) d) (mm_tb L xs) mm_m206 lim Q 94 [some (mm_R 176), some (mm_I x1), some (mm_I x2), some (mm_I x3), some (mm_I (nI i))] [] mi ml := fun z => by
      have hi60 : i < 60 := by
        rw [hC] at z
        by_cases h : i = 60
        · subst h
          exact absurd rfl z
        · omega
      have vi : vp_in (mi 176 31) 60 := by
        rw [hC]
        exact vp_in_nI hi60 (by decide)
      refine bk_X12_copied_94 (mm_call_m _) vi vi vi ?_
      rw [hC, ei, show nI i + 1 = nI (i + 1) from (nI_succ i).symm]
      exact hN hi60
    have h77 : ¬ mi 176 31 = 60 → mm_WQ (mm_call mm_ms (mm_tb L xs) d) (mm_tb L xs) mm_m206 lim Q 77 [some (mm_R 176), some (mm_I x1), some (mm_I x2), some (mm_I x3), some (mm_I (nI i))] [] mi ml := fun z => bk_X12_copied_77 (mm_call_m _) (fun _ => h94 z) (fun q => hv3.resolve_left q) (fun _ _ => h94 z) (fun _ _ => h92)
    exact bk_X12_copied_3 (mm_call_m _) (fun _ _ => h92) (fun _ z _ => h77 z) (fun _ _ q => hv2.resolve_left q) (fun _ _ _ _ => h92) (fun _ z _ _ => h77 z) (fun z => absurd hle z) (fun z => absurd hle z) (fun z => absurd hle z) (fun z => absurd hle z) (fun z => absurd hle z) (fun z => absurd hle z) (fun z => absurd hle z)
  | succ j ih =>
    intro i h
    have hlt : ¬ mi 176 31 ≤ nI i := by
      rw [hC, Int32.le_iff_toInt_le, mm_tI (by omega), mm_tI (by omega)]
      omega
    have ei : (nI i).toNatClampNeg = i := nI_clamp (by omega)
    have vi : vp_in (nI i) 60 := vp_in_nI (by omega) (by decide)
    have h47 : mm_WQ (mm_call mm_ms (mm_tb L xs) d) (mm_tb L xs) mm_m206 lim Q 47 [some (mm_R 176), some (mm_I x1), some (mm_I x2), some (mm_I x3), some (mm_I (nI i))] [] mi ml := by
      refine bk_X12_copied_47 (mm_call_m _) ?_
      rw [show nI i + 1 = nI (i + 1) from (nI_succ i).symm]
      exact ih (i + 1) (by omega)
    refine bk_X12_copied_3 (mm_call_m _) (fun z => absurd z hlt) (fun z => absurd z hlt) (fun z => absurd z hlt) (fun z => absurd z hlt) (fun z => absurd z hlt) (fun _ => vi) (fun _ _ => h47) (fun _ _ => vi) (fun _ _ _ => h47) (fun _ _ _ => vi) (fun _ _ _ _ => h47) (fun _ a b c => ?_)
    rw [ei] at a b c
    exact hF i (by omega) a b c
theorem sp_copied {C : Nat} {x1 x2 x3 : Int32} (hC : mi 176 31 = nI C) (hC2 : C ≤ 60) (hv2 : x2 = -1 ∨ vp_in x2 8000) (hv3 : x3 = -1 ∨ vp_in x3 8000) (hF : ∀ c, c < C → mi 204 c = x1 → mi 205 c = x2 → mi 206 c = x3 → Q (some (mm_I 1)) mi ml) (h0 : Q (some (mm_I 0)) mi ml) (hN : C < 60 → Q (some (mm_I 1)) (mm_u (mm_u (mm_u (mm_u mi 204 C x1) 205 C x2) 206 C x3) 176 31 (nI (C + 1))) ml) : mm_cq (mm_call mm_ms (mm_tb L xs) (d + 1)) 206 [mm_R 176, mm_I x1, mm_I x2, mm_I x3] mi ml Q :=
  en_X12_copied (bk_X12_copied_0 (mm_call_m _) (copied_3 hC hC2 hv2 hv3 hF h0 hN C 0 (by omega)))
end MMT
