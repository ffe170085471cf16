/-! ===== run() in both ===== -/
section MMT
variable {L : Nat} {xs : Nat → Int32} {d : Nat} {mi : mm_P} {ml : mm_G}
theorem lr_run {Q' : Int32 → Int32 → mm_P → mm_G → Prop} (hCR : CKR mi ml) (hQ : ∀ v n m2, CKR n m2 → Q' v v n m2) : mm_cq (mm_call mm_ms (mm_tb L xs) (d + 20)) 158 [mm_R 0] mi ml (fun o n1 n2 => ∃ v, o = some (mm_I v) ∧ mm_cq (mm_call mm_ms (mm_tb L xs) (d + 20)) 229 [mm_R 176] n1 n2 (fun o2 n3 n4 => ∃ v2, o2 = some (mm_I v2) ∧ Q' v v2 n3 n4)) := by
  obtain ⟨hCV, hTR, hru, hr0, hr1⟩ := id hCR
  obtain ⟨hIC, ⟨NB, ND, NF, hI, hT, hN, hF⟩, -⟩ := id hCV.1.1.1
  have hNB := hI.1.1.2
  have hND := hI.1.2.1
  have hNF := hI.1.2.2
  have hIC' : mm_IC (mm_u mi 0 11 (mi 0 11 + 1)) := mm_IC_n hIC (by decide) (by decide) (by decide) (by decide) (by decide)
  have hfw : mm_fw mm_w_X11_run mi ml (mm_u mi 0 11 (mi 0 11 + 1)) ml := mm_fw_f mm_fw_r (by decide +kernel)
  have hCK' : CK (mm_u mi 0 11 (mi 0 11 + 1)) ml := CK_f hCV.1 (by decide +kernel) (by decide +kernel) (by decide +kernel) hIC' hfw
  generalize hm' : mm_u mi 0 11 (mi 0 11 + 1) = mi' at hIC' hfw hCK'
  have e' : ∀ c i, ¬ (c = 0 ∧ i = 11) → mi' c i = mi c i := fun c i z => by rw [← hm', mm_u_o z]
  have hTR' : TRN mi' := TRN_e hTR (e' 3 5 (by omega)) (fun i => e' 4 i (by omega)) (fun i => e' 6 i (by omega))
  have hI' : IM mi' NB ND NF := IM_h hI (fun c i q => e' c i (by omega))
  have hV' : mi 0 9 = 0 → VP mi' ml 0 := fun z => by
    have h := hCK'.2.2
    rw [e' 0 9 (by omega), z] at h
    exact h
  have hKW : KW NB ND NF mi' := ⟨⟨(e' 1 1 (by omega)).trans hT.1, (e' 3 5 (by omega)).trans hN.1, (e' 9 7 (by omega)).trans hF.1⟩, hNB, hND, hNF⟩
  -- the class
  have c1 : mm_cq (mm_call mm_ms (mm_tb L xs) (d + 20)) 158 [mm_R 0] mi ml (fun o n1 n2 => (¬ mi 0 9 = 0 ∧ o = some (mm_I (-3)) ∧ n1 0 11 = mi 0 11) ∨ (mi 0 9 = 0 ∧ ¬ mi 0 11 < 160 ∧ o = some (mm_I (-4)) ∧ n1 0 11 = mi 0 11) ∨ (mi 0 9 = 0 ∧ mi 0 11 < 160 ∧ o = some (mm_I (OUT mi' (fun _ => 0) (fun _ => 0))) ∧ n1 0 11 = mi 0 11 + 1)) := by
    refine en_X11_run (bk_X11_run_0 (mm_call_m _) (fun z z2 => ?_) (fun z z2 => .inr (.inl ⟨z, z2, rfl, rfl⟩)) (fun z => .inl ⟨z, rfl, rfl⟩))
    rw [hm']
    obtain ⟨w, hp, hJ⟩ := JO_ex hCK'.1 hI' (hV' z)
    refine sx_argShape (d := d + 17) (f := 0) hKW hJ.1 (bk_X11_run_45 (mm_call_m _) (sx_resShape (d := d + 17) (f := 0) hKW hJ.1 (bk_X11_run_53 (mm_call_m _) ?_)))
    have w1 := cl_work (L := L) (xs := xs) (d := d + 6) (fun _ => 0) (fun _ => 0) hCK' (hV' z) hTR'
    have w2 : mm_cq (mm_call mm_ms (mm_tb L xs) (d + 19)) 66 [mm_R 164, mm_L (ml 13 0), mm_L (ml 14 0)] mi' ml (fun _ n1 n2 => mm_fw mm_w_X6_work_L mi' ml n1 n2) := sc_X6_work_L (d := d + 8) hIC' (fun v n1 n2 _ b => b)
    refine mm_cq_m (mm_call_m _) (mm_cq_a w1 w2) (fun o n1 n2 ⟨h1, h2⟩ => ?_)
    subst h1
    exact bk_X11_run_56 (mm_call_m _) (.inr (.inr ⟨z, z2, rfl, (h2 0 11 (by decide +kernel)).1.trans (by rw [← hm', mm_u_s])⟩))
  have c2 : mm_cq (mm_call mm_ms (mm_tb L xs) (d + 20)) 158 [mm_R 0] mi ml (fun _ n1 n2 => mm_IC n1 ∧ mm_fw mm_w_X11_run mi ml n1 n2) := sc_X11_run (d := d + 8) hIC (fun v n1 n2 a b => ⟨a, b⟩)
  refine mm_cq_m (mm_call_m _) (mm_cq_a c1 c2) (fun o n1 n2 ⟨hc, hi, hf⟩ => ?_)
  have hCV1 : CV n1 n2 := CV_f hCV (by decide +kernel) (by decide +kernel) (by decide +kernel) (by decide +kernel) hi hf
  have hhi : ∀ c i, 176 ≤ c → n1 c i = mi c i := fun c i q => (hf c i (mm_hi_f (by decide +kernel) q)).1
  have hI1 : IM n1 NB ND NF := IM_h hI hhi
  have hTR1 : TRN n1 := TRN_e hTR (hf 3 5 (by decide +kernel)).1 (fun i => (hf 4 i (mm_avC_s (by decide +kernel))).1) (fun i => (hf 6 i (mm_avC_s (by decide +kernel))).1)
  have h46 : n1 176 46 = mi 0 11 := (hhi 176 46 (by decide)).trans hru.symm
  have h09 : n1 0 9 = mi 0 9 := (hf 0 9 (by decide +kernel)).1
  have hV1 : VP n1 n2 (n1 0 9) := hCV1.1.2.2
  have hin1 := CO_in hCV1.1.1.1
  have hR : ∀ w, CV w n2 → (∀ c i, c < 176 → w c i = n1 c i) → w 176 46 = n1 0 11 → 0 ≤ (n1 0 11).toInt ∧ (n1 0 11).toInt ≤ 160 → CKR w n2 := fun w a b c e => ⟨a, TRN_e hTR1 (b 3 5 (by decide)) (fun i => b 4 i (by decide)) (fun i => b 6 i (by decide)), (b 0 11 (by decide)).trans c.symm, by rw [b 0 11 (by decide)]; exact e⟩
  obtain ⟨r, er, r1, -, -⟩ := mm_of (n := 161) hr0 (by omega)
  have t160 : (160 : Int32).toInt = 160 := rfl
  have k1 : mi 0 11 < 160 → r < 160 := fun z => by
    rw [er] at z
    have := mm_ltI z
    rw [mm_tI (by omega), t160] at this
    omega
  have k2 : ¬ mi 0 11 < 160 → mi 0 11 = 160 := fun z => by
    have e : r = 160 := by
      by_cases q : r = 160
      · exact q
      · exfalso
        refine z ?_
        rw [er, Int32.lt_iff_toInt_lt, mm_tI (by omega), t160]
        omega
    rw [er, e]
    rfl
  rcases hc with ⟨z, eo, e11⟩ | ⟨z, z2, eo, e11⟩ | ⟨z, z2, eo, e11⟩
  · have hno : ∀ {P : Prop}, VP n1 n2 0 → P := fun hv => absurd (h09.symm.trans (VP_u hV1 hv)) z
    exact ⟨-3, eo, sx_mrun (d := d + 10) hCV1.1.1 hI1 hin1 (fun w v hp _ _ => ⟨-3, rfl, hQ _ _ _ (hR w (CV_p hCV1 hp) (fun c i q => hp c i (pg_low q)) ((hp 176 46 rfl).trans (h46.trans e11.symm)) (by rw [e11]; exact ⟨hr0, hr1⟩))⟩) (fun w hp hv _ => hno hv) (fun w w' v r A B hp hv _ _ _ _ _ _ _ => hno hv)⟩
  · have h0 : n1 0 9 = 0 := h09.trans z
    have e160 := k2 z2
    exact ⟨-4, eo, sx_mrun (d := d + 10) hCV1.1.1 hI1 hin1 (fun w v hp hv hne => absurd ((VP_u hV1 hv).symm.trans h0) hne) (fun w hp _ _ => ⟨-4, rfl, hQ _ _ _ (hR w (CV_p hCV1 hp) (fun c i q => hp c i (pg_low q)) ((hp 176 46 rfl).trans (h46.trans e11.symm)) (by rw [e11]; exact ⟨hr0, hr1⟩))⟩) (fun w w' v r A B hp _ _ hne _ _ _ _ _ => absurd ((hp 176 46 rfl).trans (h46.trans e160)) hne)⟩
  · have h0 : n1 0 9 = 0 := h09.trans z
    have r2 := k1 z2
    have e12 : n1 0 11 = nI (r + 1) := by
      rw [e11, er]
      exact (nI_succ r).symm
    have hne : ¬ mi 0 11 = 160 := fun q => by
      rw [q] at z2
      exact absurd z2 (by decide)
    refine ⟨_, eo, sx_mrun (d := d + 10) hCV1.1.1 hI1 hin1 (fun w v hp hv hne => absurd ((VP_u hV1 hv).symm.trans h0) hne) (fun w hp _ e => absurd (h46.symm.trans ((hp 176 46 rfl).symm.trans e)) hne) (fun w w' v r' A B hp _ hNF0 _ hr e46 h51 hr2 ev => ⟨v, rfl, ?_⟩)⟩
    have e1 : OUT w A B = OUT n1 A B := OUT_p hI1 hNF0 hp
    have e2 : OUT n1 A B = OUT mi' A B := OUT_c hI' hNF0 (fun c t a _ _ => (hhi c t (by omega)).trans (e' c t (by omega)).symm) (fun c i a _ => (hhi c i (by omega)).trans (e' c i (by omega)).symm) ((hhi 176 41 (by decide)).trans (e' 176 41 (by omega)).symm) (fun i => (hhi 211 i (by decide)).trans (e' 211 i (by omega)).symm)
    have e3 : OUT mi' A B = OUT mi' (fun _ => 0) (fun _ => 0) := OUT_i A B _ _ hCK' (hV' z) hTR'
    rw [ev, e1, e2, e3]
    refine hQ _ _ _ (hR w' (CV_rf hCV1 hp hr h51 hr2) (fun c i q => (hr.1 c i (by omega) (by omega)).trans (hp c i (pg_low q))) ?_ ?_)
    · rw [e46, hp 176 46 rfl, h46, e11]
    · rw [e12, mm_tI (by omega)]
      omega
end MMT
