/-! ===== run(), runCopies(), result() in both, with what is told ===== -/
theorem TLD_z {m : mm_P} {A B : HF} (h : ¬ OUT m A B = 0) : TLD m A B = [] := by
  unfold OUT at h
  unfold TLD
  generalize rd m 5 (m 195 0).toNatClampNeg A B 0 0 = R at h ⊢
  obtain ⟨v, A', B', h', e'⟩ := R
  have h2 : ¬ (ev m 360 v (m 197 0).toNatClampNeg A' B' h' 0 0 1).1 = 0 := h
  show TLX m (m 196 0).toNatClampNeg (ev m 360 v (m 197 0).toNatClampNeg A' B' h' 0 0 1) = []
  unfold TLX
  exact if_neg h2
theorem RR_p {m n : mm_P} (h : RRw m) (hp : PR m n) : RRw n := RR_e h (hp 162 1 (pg_low (by decide))) (fun i => hp 163 i (pg_low (by decide))) (hp 176 47 rfl) (hp 176 51 rfl) (fun i => hp 214 i rfl)
theorem RR_w {m : mm_P} {v : Int32} {l l' : List Int32} (h47 : m 176 47 = v) (h1 : RWl (m 162 1) (m 163) l) (h2 : RWl (m 176 51) (m 214) l') (e : EQl l l') (hz : ¬ v = 0 → l = []) : RRw m := by
  refine ⟨fun z => ?_, fun _ => ?_⟩
  · rw [h47] at z
    rw [hz z] at h1
    exact h1.1
  · have h3 := RWl_t h1 e
    have h4 : (min 100 l'.length) < 2 ^ 31 := by omega
    refine ⟨h3.1.trans h2.1.symm, fun i hi => ?_⟩
    rw [h2.1, mm_tI h4] at hi
    exact (h3.2 i (by omega)).trans (h2.2 i (by omega)).symm
theorem EQl_r {l : List Int32} : EQl l l := ⟨rfl, fun _ _ => rfl⟩
section MMT
variable {L : Nat} {xs : Nat → Int32} {d : Nat} {mi : mm_P} {ml : mm_G}
theorem TLD_i {w0 : mm_P} (A B A' B' : HF) (hCK : CK w0 ml) (hV : VP w0 ml 0) (hTR : TRN w0) : EQl (TLD w0 A B) (TLD w0 A' B') :=
  mm_cq_k (mm_cq_m (mm_call_m _) (mm_cq_a (cl_workr (L := 0) (xs := fun _ => 0) (d := 0) A B hCK hV hTR) (cl_workr (L := 0) (xs := fun _ => 0) (d := 0) A' B' hCK hV hTR)) (fun o n1 n2 ⟨h1, h2⟩ => RWl_e h1.2 h2.2))
theorem lr_run {Q' : Int32 → Int32 → mm_P → mm_G → Prop} (hCR : CKR mi ml) (hQ : ∀ v n m2, CKR n m2 → Q' v v n m2) : mm_cq (mm_call mm_ms (mm_tb L xs) (d + 20)) 158 [mm_R 0] mi ml (fun o n1 n2 => ∃ v, o = some (mm_I v) ∧ mm_cq (mm_call mm_ms (mm_tb L xs) (d + 20)) 229 [mm_R 176] n1 n2 (fun o2 n3 n4 => ∃ v2, o2 = some (mm_I v2) ∧ Q' v v2 n3 n4)) := by
  obtain ⟨hCV, hTR, ⟨hru, hr0, hr1⟩, hRR⟩ := id hCR
  obtain ⟨hIC, ⟨NB, ND, NF, hI, hT, hN, hF⟩, -⟩ := id hCV.1.1.1
  have hNB := hI.1.1.2
  have hND := hI.1.2.1
  have hNF := hI.1.2.2
  have hIC' : mm_IC (mm_u mi 0 11 (mi 0 11 + 1)) := mm_IC_n hIC (by decide) (by decide) (by decide) (by decide) (by decide)
  have hfw : mm_fw mm_w_X11_run mi ml (mm_u mi 0 11 (mi 0 11 + 1)) ml := mm_fw_f mm_fw_r (by decide +kernel)
  have hCK' : CK (mm_u mi 0 11 (mi 0 11 + 1)) ml := CK_f hCV.1 (by decide +kernel) (by decide +kernel) (by decide +kernel) hIC' hfw
  generalize hm' : mm_u mi 0 11 (mi 0 11 + 1) = mi' at hIC' hfw hCK'
  have e' : ∀ c i, ¬ (c = 0 ∧ i = 11) → mi' c i = mi c i := fun c i z => by rw [← hm', mm_u_o z]
  have hTR' : TRN mi' := TRN_e hTR (e' 3 5 (by omega)) (fun i => e' 4 i (by omega)) (fun i => e' 6 i (by omega))
  have hI' : IM mi' NB ND NF := IM_h hI (fun c i q => e' c i (by omega))
  have hV' : mi 0 9 = 0 → VP mi' ml 0 := fun z => by
    have h := hCK'.2.2
    rw [e' 0 9 (by omega), z] at h
    exact h
  have hKW : KW NB ND NF mi' := ⟨⟨(e' 1 1 (by omega)).trans hT.1, (e' 3 5 (by omega)).trans hN.1, (e' 9 7 (by omega)).trans hF.1⟩, hNB, hND, hNF⟩
  -- the class
  have c1 : mm_cq (mm_call mm_ms (mm_tb L xs) (d + 20)) 158 [mm_R 0] mi ml (fun o n1 n2 => (¬ mi 0 9 = 0 ∧ o = some (mm_I (-3)) ∧ n1 = mi) ∨ (mi 0 9 = 0 ∧ ¬ mi 0 11 < 160 ∧ o = some (mm_I (-4)) ∧ n1 = mi) ∨ (mi 0 9 = 0 ∧ mi 0 11 < 160 ∧ o = some (mm_I (OUT mi' (fun _ => 0) (fun _ => 0))) ∧ n1 0 11 = mi 0 11 + 1 ∧ RWl (n1 162 1) (n1 163) (TLD mi' (fun _ => 0) (fun _ => 0)))) := by
    refine en_X11_run (bk_X11_run_0 (mm_call_m _) (fun z z2 => ?_) (fun z z2 => .inr (.inl ⟨z, z2, rfl, rfl⟩)) (fun z => .inl ⟨z, rfl, rfl⟩))
    rw [hm']
    obtain ⟨w, hp, hJ⟩ := JO_ex hCK'.1 hI' (hV' z)
    refine sx_argShape (d := d + 17) (f := 0) hKW hJ.1 (bk_X11_run_45 (mm_call_m _) (sx_resShape (d := d + 17) (f := 0) hKW hJ.1 (bk_X11_run_53 (mm_call_m _) ?_)))
    have w1 := cl_workr (L := L) (xs := xs) (d := d + 6) (fun _ => 0) (fun _ => 0) hCK' (hV' z) hTR'
    have w2 : mm_cq (mm_call mm_ms (mm_tb L xs) (d + 19)) 66 [mm_R 164, mm_L (ml 13 0), mm_L (ml 14 0)] mi' ml (fun _ n1 n2 => mm_fw mm_w_X6_work_L mi' ml n1 n2) := sc_X6_work_L (d := d + 8) hIC' (fun v n1 n2 _ b => b)
    refine mm_cq_m (mm_call_m _) (mm_cq_a w1 w2) (fun o n1 n2 ⟨⟨h1, hrow⟩, h2⟩ => ?_)
    subst h1
    exact bk_X11_run_56 (mm_call_m _) (.inr (.inr ⟨z, z2, rfl, (h2 0 11 (by decide +kernel)).1.trans (by rw [← hm', mm_u_s]), hrow⟩))
  have c2 : mm_cq (mm_call mm_ms (mm_tb L xs) (d + 20)) 158 [mm_R 0] mi ml (fun _ n1 n2 => mm_IC n1 ∧ mm_fw mm_w_X11_run mi ml n1 n2) := sc_X11_run (d := d + 8) hIC (fun v n1 n2 a b => ⟨a, b⟩)
  refine mm_cq_m (mm_call_m _) (mm_cq_a c1 c2) (fun o n1 n2 ⟨hc, hi, hf⟩ => ?_)
  have hCV1 : CV n1 n2 := CV_f hCV (by decide +kernel) (by decide +kernel) (by decide +kernel) (by decide +kernel) hi hf
  have hhi : ∀ c i, 176 ≤ c → n1 c i = mi c i := fun c i q => (hf c i (mm_hi_f (by decide +kernel) q)).1
  have hI1 : IM n1 NB ND NF := IM_h hI hhi
  have hTR1 : TRN n1 := TRN_e hTR (hf 3 5 (by decide +kernel)).1 (fun i => (hf 4 i (mm_avC_s (by decide +kernel))).1) (fun i => (hf 6 i (mm_avC_s (by decide +kernel))).1)
  have h46 : n1 176 46 = mi 0 11 := (hhi 176 46 (by decide)).trans hru.symm
  have h09 : n1 0 9 = mi 0 9 := (hf 0 9 (by decide +kernel)).1
  have hV1 : VP n1 n2 (n1 0 9) := hCV1.1.2.2
  have hin1 := CO_in hCV1.1.1.1
  have hR : ∀ w, CV w n2 → (∀ c i, c < 176 → w c i = n1 c i) → w 176 46 = n1 0 11 → 0 ≤ (n1 0 11).toInt ∧ (n1 0 11).toInt ≤ 160 → RRw w → CKR w n2 := fun w a b c e r => ⟨a, TRN_e hTR1 (b 3 5 (by decide)) (fun i => b 4 i (by decide)) (fun i => b 6 i (by decide)), ⟨(b 0 11 (by decide)).trans c.symm, by rw [b 0 11 (by decide)]; exact e⟩, r⟩
  obtain ⟨r, er, r1, -, -⟩ := mm_of (n := 161) hr0 (by omega)
  have t160 : (160 : Int32).toInt = 160 := rfl
  have k1 : mi 0 11 < 160 → r < 160 := fun z => by
    rw [er] at z
    have := mm_ltI z
    rw [mm_tI (by omega), t160] at this
    omega
  have k2 : ¬ mi 0 11 < 160 → mi 0 11 = 160 := fun z => by
    have e : r = 160 := by
      by_cases q : r = 160
      · exact q
      · exfalso
        refine z ?_
        rw [er, Int32.lt_iff_toInt_lt, mm_tI (by omega), t160]
        omega
    rw [er, e]
    rfl
  rcases hc with ⟨z, eo, en⟩ | ⟨z, z2, eo, en⟩ | ⟨z, z2, eo, e11, hrow⟩
  · have hno : ∀ {P : Prop}, VP n1 n2 0 → P := fun hv => absurd (h09.symm.trans (VP_u hV1 hv)) z
    have e11 : n1 0 11 = mi 0 11 := by rw [en]
    have hRR1 : RRw n1 := by rw [en]; exact hRR
    exact ⟨-3, eo, sx_mrunr (d := d + 10) hCV1.1.1 hI1 hin1 (fun w v hp _ _ => ⟨-3, rfl, hQ _ _ _ (hR w (CV_p hCV1 hp) (fun c i q => hp c i (pg_low q)) ((hp 176 46 rfl).trans (h46.trans e11.symm)) (by rw [e11]; exact ⟨hr0, hr1⟩) (RR_p hRR1 hp))⟩) (fun w hp hv _ => hno hv) (fun w w' v A B hp hv _ _ _ _ _ _ _ => hno hv)⟩
  · have h0 : n1 0 9 = 0 := h09.trans z
    have e160 := k2 z2
    have e11 : n1 0 11 = mi 0 11 := by rw [en]
    have hRR1 : RRw n1 := by rw [en]; exact hRR
    exact ⟨-4, eo, sx_mrunr (d := d + 10) hCV1.1.1 hI1 hin1 (fun w v hp hv hne => absurd ((VP_u hV1 hv).symm.trans h0) hne) (fun w hp _ _ => ⟨-4, rfl, hQ _ _ _ (hR w (CV_p hCV1 hp) (fun c i q => hp c i (pg_low q)) ((hp 176 46 rfl).trans (h46.trans e11.symm)) (by rw [e11]; exact ⟨hr0, hr1⟩) (RR_p hRR1 hp))⟩) (fun w w' v A B hp _ _ hne _ _ _ _ _ => absurd ((hp 176 46 rfl).trans (h46.trans e160)) hne)⟩
  · have h0 : n1 0 9 = 0 := h09.trans z
    have r2 := k1 z2
    have e12 : n1 0 11 = nI (r + 1) := by
      rw [e11, er]
      exact (nI_succ r).symm
    have hne : ¬ mi 0 11 = 160 := fun q => by
      rw [q] at z2
      exact absurd z2 (by decide)
    refine ⟨_, eo, sx_mrunr (d := d + 10) hCV1.1.1 hI1 hin1 (fun w v hp hv hne => absurd ((VP_u hV1 hv).symm.trans h0) hne) (fun w hp _ e => absurd (h46.symm.trans ((hp 176 46 rfl).symm.trans e)) hne) (fun w w' v A B hp _ hNF0 _ hr e46 ev k5 k6 => ⟨v, rfl, ?_⟩)⟩
    have e1 : OUT w A B = OUT n1 A B := OUT_p hI1 hNF0 hp
    have e2 : OUT n1 A B = OUT mi' A B := OUT_c hI' hNF0 (fun c t a _ _ => (hhi c t (by omega)).trans (e' c t (by omega)).symm) (fun c i a _ => (hhi c i (by omega)).trans (e' c i (by omega)).symm) ((hhi 176 41 (by decide)).trans (e' 176 41 (by omega)).symm) (fun i => (hhi 211 i (by decide)).trans (e' 211 i (by omega)).symm)
    have e3 : OUT mi' A B = OUT mi' (fun _ => 0) (fun _ => 0) := OUT_i A B _ _ hCK' (hV' z) hTR'
    have t1 : TLD w A B = TLD n1 A B := TLD_p hI1 hNF0 hp
    have t2 : TLD n1 A B = TLD mi' A B := TLD_c hI' hNF0 (fun c t a _ _ => (hhi c t (by omega)).trans (e' c t (by omega)).symm) (fun c i a _ => (hhi c i (by omega)).trans (e' c i (by omega)).symm) ((hhi 176 41 (by decide)).trans (e' 176 41 (by omega)).symm) (fun i => (hhi 211 i (by decide)).trans (e' 211 i (by omega)).symm)
    have ev' : v = OUT mi' (fun _ => 0) (fun _ => 0) := ev.trans (e1.trans (e2.trans e3))
    have hlow : ∀ c i, c < 176 → w' c i = n1 c i := fun c i q => (hr.1 c i (by omega) (by omega)).trans (hp c i (pg_low q))
    rw [t1, t2] at k6
    rw [← ev']
    refine hQ _ _ _ (hR w' (CV_rf hCV1 hp hr k6.1 (Nat.min_le_left _ _)) hlow ?_ ?_ (RR_w k5 (l := TLD mi' (fun _ => 0) (fun _ => 0)) ?_ k6 (TLD_i _ _ A B hCK' (hV' z) hTR') (fun q => TLD_z (by rw [← ev']; exact q))))
    · rw [e46, hp 176 46 rfl, h46, e11]
    · rw [e12, mm_tI (by omega)]
      omega
    · rw [hlow 162 1 (by decide), show w' 163 = n1 163 from funext fun i => hlow 163 i (by decide)]
      exact hrow
theorem lr_runCopies {Q' : Int32 → Int32 → mm_P → mm_G → Prop} (hCR : CKR mi ml) (hQ : ∀ v n m2, CKR n m2 → Q' v v n m2) : mm_cq (mm_call mm_ms (mm_tb L xs) (d + 22)) 159 [mm_R 0] mi ml (fun o n1 n2 => ∃ v, o = some (mm_I v) ∧ mm_cq (mm_call mm_ms (mm_tb L xs) (d + 22)) 230 [mm_R 176] n1 n2 (fun o2 n3 n4 => ∃ v2, o2 = some (mm_I v2) ∧ Q' v v2 n3 n4)) := by
  obtain ⟨hCV, hTR, hRU, hRR⟩ := id hCR
  obtain ⟨hIC, ⟨NB, ND, NF, hI, hT, hN, hF⟩, -⟩ := id hCV.1.1.1
  have hNB := hI.1.1.2
  have hND := hI.1.2.1
  have hNF := hI.1.2.2
  have hKW : KW NB ND NF mi := ⟨⟨hT.1, hN.1, hF.1⟩, hNB, hND, hNF⟩
  -- the copies, where there are some
  have hcop : 0 ≤ mi 0 10 → mi 0 9 = 0 ∧ ∃ C, CC mi ml = some C ∧ CRw mi ml C ∧ (∀ s, s ∈ C → s.1 < 12 ∧ UR mi s.1) ∧ ∀ i, i < C.length → PRC mi ml mi ml C i := fun z => by
    have h09 : mi 0 9 = 0 := by
      by_cases c : mi 0 9 = 0
      · exact c
      · rw [hCV.2.1 c] at z
        exact absurd z (by decide)
    refine ⟨h09, ?_⟩
    rcases hCV.2.2 h09 with ⟨-, q⟩ | ⟨C, a, -, b, e, f⟩
    · rw [q] at z
      exact absurd z (by decide)
    · exact ⟨C, a, b, e, f⟩
  have hOi : 0 ≤ mi 0 10 → ∀ A B, OUT mi A B = OUT mi (fun _ => 0) (fun _ => 0) ∧ EQl (TLD mi (fun _ => 0) (fun _ => 0)) (TLD mi A B) := fun z A B => by
    obtain ⟨h09, C, b1, b2, b3, b4⟩ := hcop z
    refine mm_cq_k (mm_cq_m (mm_call_m _) (mm_cq_a (cc_workr (L := 0) (xs := fun _ => 0) (d := 0) A B hCV hTR h09 b1 b2 b3 b4) (cc_workr (L := 0) (xs := fun _ => 0) (d := 0) (fun _ => 0) (fun _ => 0) hCV hTR h09 b1 b2 b3 b4)) (fun o n1 n2 ⟨h1, h2⟩ => ⟨?_, RWl_e h2.2 h1.2⟩))
    have h3 := h1.1.symm.trans h2.1
    injection h3 with h4
    injection h4
  -- the class
  have c1 : mm_cq (mm_call mm_ms (mm_tb L xs) (d + 22)) 159 [mm_R 0] mi ml (fun o n1 _ => (¬ 0 ≤ mi 0 10 ∧ o = some (mm_I (mi 0 10)) ∧ n1 = mi) ∨ (0 ≤ mi 0 10 ∧ o = some (mm_I (OUT mi (fun _ => 0) (fun _ => 0))) ∧ RWl (n1 162 1) (n1 163) (TLD mi (fun _ => 0) (fun _ => 0)))) := by
    refine en_X11_runCopies (bk_X11_runCopies_0 (mm_call_m _) (fun z => ?_) (fun z => .inl ⟨z, rfl, rfl⟩))
    obtain ⟨h09, C, b1, b2, b3, b4⟩ := hcop z
    obtain ⟨NB', ND', NF', hI', hT', hF', hNF0, -⟩ := CPG_of hCV h09 b1 b2 b3 b4
    have eNF : NF' = NF := nI_ij (by have := hI'.1.2.2; omega) (by omega) (hF'.1.symm.trans hF.1)
    rw [eNF] at hNF0
    refine sx_argShape (d := d + 19) (f := 0) hKW hNF0 (bk_X11_runCopies_24 (mm_call_m _) (sx_resShape (d := d + 19) (f := 0) hKW hNF0 (bk_X11_runCopies_32 (mm_call_m _) ?_)))
    refine mm_cq_m (mm_call_m _) (cc_workr (d := d) (fun _ => 0) (fun _ => 0) hCV hTR h09 b1 b2 b3 b4) (fun o n1 n2 ⟨h1, hrow⟩ => ?_)
    subst h1
    exact bk_X11_runCopies_35 (mm_call_m _) (.inr ⟨z, rfl, hrow⟩)
  have c2 : mm_cq (mm_call mm_ms (mm_tb L xs) (d + 22)) 159 [mm_R 0] mi ml (fun _ n1 n2 => mm_IC n1 ∧ mm_fw mm_w_X11_runCopies mi ml n1 n2) := sc_X11_runCopies (d := d + 2) hIC (fun v n1 n2 a b => ⟨a, b⟩)
  refine mm_cq_m (mm_call_m _) (mm_cq_a c1 c2) (fun o n1 n2 ⟨hc, hi, hf⟩ => ?_)
  have hCV1 : CV n1 n2 := CV_f hCV (by decide +kernel) (by decide +kernel) (by decide +kernel) (by decide +kernel) hi hf
  have hhi : ∀ c i, 176 ≤ c → n1 c i = mi c i := fun c i q => (hf c i (mm_hi_f (by decide +kernel) q)).1
  have hI1 : IM n1 NB ND NF := IM_h hI hhi
  have hTR1 : TRN n1 := TRN_e hTR (hf 3 5 (by decide +kernel)).1 (fun i => (hf 4 i (mm_avC_s (by decide +kernel))).1) (fun i => (hf 6 i (mm_avC_s (by decide +kernel))).1)
  have hRU1 : RU n1 := RU_e hRU (hf 0 11 (by decide +kernel)).1 (hhi 176 46 (by decide))
  have h010 : n1 0 10 = mi 0 10 := (hf 0 10 (by decide +kernel)).1
  have hin1 := CO_in hCV1.1.1.1
  rcases hc with ⟨z, eo, en⟩ | ⟨z, eo, hrow⟩
  · refine ⟨_, eo, sx_mrunCr (d := d + 11) hCV1 hI1 hin1 (fun _ w hp => ⟨_, rfl, ?_⟩) (fun y => absurd (by rw [← h010]; exact y) z)⟩
    have hRR1 : RRw n1 := by rw [en]; exact hRR
    rw [h010]
    exact hQ _ _ _ (CKR_p ⟨hCV1, hTR1, hRU1, hRR1⟩ hp)
  · refine ⟨_, eo, sx_mrunCr (d := d + 11) hCV1 hI1 hin1 (fun y => absurd (by rw [h010]; exact z) y) (fun _ w w' v A B hp hNF0 hr ev k5 k6 => ⟨v, rfl, ?_⟩)⟩
    have e1 : OUT w A B = OUT n1 A B := OUT_p hI1 hNF0 hp
    have e2 : OUT n1 A B = OUT mi A B := OUT_c hI hNF0 (fun c t a _ _ => hhi c t (by omega)) (fun c i a _ => hhi c i (by omega)) (hhi 176 41 (by decide)) (fun i => hhi 211 i (by decide))
    have t1 : TLD w A B = TLD n1 A B := TLD_p hI1 hNF0 hp
    have t2 : TLD n1 A B = TLD mi A B := TLD_c hI hNF0 (fun c t a _ _ => hhi c t (by omega)) (fun c i a _ => hhi c i (by omega)) (hhi 176 41 (by decide)) (fun i => hhi 211 i (by decide))
    obtain ⟨o1, o2⟩ := hOi z A B
    have ev' : v = OUT mi (fun _ => 0) (fun _ => 0) := ev.trans (e1.trans (e2.trans o1))
    have hlow : ∀ c i, c < 176 → w' c i = n1 c i := fun c i q => (hr.1 c i (by omega) (by omega)).trans (hp c i (pg_low q))
    rw [t1, t2] at k6
    rw [← ev']
    refine hQ _ _ _ ⟨CV_rf hCV1 hp (RG_RF hr) k6.1 (Nat.min_le_left _ _), TRN_e hTR1 (hlow 3 5 (by decide)) (fun i => hlow 4 i (by decide)) (fun i => hlow 6 i (by decide)), RU_e hRU1 (hlow 0 11 (by decide)) ((hr.2 46 (by omega)).trans (hp 176 46 rfl)), RR_w k5 (l := TLD mi (fun _ => 0) (fun _ => 0)) ?_ k6 o2 (fun q => TLD_z (by rw [← ev']; exact q))⟩
    rw [hlow 162 1 (by decide), show w' 163 = n1 163 from funext fun i => hlow 163 i (by decide)]
    exact hrow
theorem lr_result {x1 : Int32} {Q' : Int32 → Int32 → mm_P → mm_G → Prop} (hCR : CKR mi ml) (hQ : ∀ v n m2, CKR n m2 → Q' v v n m2) : mm_cq (mm_call mm_ms (mm_tb L xs) (d + 20)) 160 [mm_R 0, mm_I x1] mi ml (fun o n1 n2 => ∃ v, o = some (mm_I v) ∧ mm_cq (mm_call mm_ms (mm_tb L xs) (d + 20)) 231 [mm_R 176, mm_I x1] n1 n2 (fun o2 n3 n4 => ∃ v2, o2 = some (mm_I v2) ∧ Q' v v2 n3 n4)) := by
  obtain ⟨hCV, hTR, hRU, hR0, hR1⟩ := id hCR
  have h51 := hCV.1.1.1.2.2.1
  have hsz : ¬ mi 162 1 ≤ x1 → 0 ≤ x1.toInt → mi 176 47 = 0 ∧ x1.toInt < (mi 176 51).toInt ∧ mi 163 x1.toNatClampNeg = mi 214 x1.toNatClampNeg := fun z y => by
    have z' := mm_nleI z
    have e47 : mi 176 47 = 0 := by
      by_cases c : mi 176 47 = 0
      · exact c
      · exfalso
        rw [hR0 c, mm_tt0] at z'
        omega
    obtain ⟨a, b⟩ := hR1 e47
    rw [a] at z'
    obtain ⟨k, k1, k2, -, -⟩ := mm_of (n := 100) y (by omega)
    subst k1
    rw [mm_tI (by omega)] at z'
    refine ⟨e47, by rw [mm_tI (by omega)]; exact z', ?_⟩
    rw [nI_clamp (by omega)]
    exact b k z'
  have c1 : mm_cq (mm_call mm_ms (mm_tb L xs) (d + 20)) 160 [mm_R 0, mm_I x1] mi ml (fun o n1 n2 => mi = n1 ∧ ml = n2 ∧ ((o = some (mm_I 0) ∧ (x1.toInt < 0 ∨ mi 162 1 ≤ x1)) ∨ (o = some (mm_I (mi 163 x1.toNatClampNeg)) ∧ 0 ≤ x1.toInt ∧ ¬ mi 162 1 ≤ x1))) := by
    have h27 : (x1.toInt < 0 ∨ mi 162 1 ≤ x1) → mm_WQ (mm_call mm_ms (mm_tb L xs) (d + 18)) (mm_tb L xs) mm_m126 (mm_li mm_m126) (fun o n1 n2 => mm_WQ (mm_call mm_ms (mm_tb L xs) (d + 19)) (mm_tb L xs) mm_m160 (mm_li mm_m160) (fun o n1 n2 => mi = n1 ∧ ml = n2 ∧ ((o = some (mm_I 0) ∧ (x1.toInt < 0 ∨ mi 162 1 ≤ x1)) ∨ (o = some (mm_I (mi 163 x1.toNatClampNeg)) ∧ 0 ≤ x1.toInt ∧ ¬ mi 162 1 ≤ x1))) 8 [some (mm_R 0), some (mm_I x1)] (o.toList ++ []) n1 n2) 27 [some (mm_R 162), some (mm_I x1)] [] mi ml := fun q => bk_X9_entry_27 (mm_call_m _) (bk_X11_result_8 (mm_call_m _) ⟨rfl, rfl, .inl ⟨rfl, q⟩⟩)
    refine en_X11_result (bk_X11_result_0 (mm_call_m _) (en_X9_entry (bk_X9_entry_0 (mm_call_m _) (fun z => h27 (.inl ?_)) (fun z z2 => h27 (.inr z2)) (fun z z2 z3 => ?_) (fun z z2 z3 => ?_) (fun z z2 z3 => bk_X11_result_8 (mm_call_m _) ⟨rfl, rfl, .inr ⟨rfl, ?_, z2⟩⟩))))
    · have := mm_ltI z
      rw [mm_tt0] at this
      exact this
    · exfalso
      have y := mm_nltI z
      rw [mm_tt0] at y
      have y3 := mm_leI z3
      rw [mm_tt100] at y3
      obtain ⟨-, q, -⟩ := hsz z2 y
      omega
    · have y := mm_nltI z
      rw [mm_tt0] at y
      have y3 := mm_nleI z3
      rw [mm_tt100] at y3
      exact mm_vpr ⟨y, by omega⟩
    · have y := mm_nltI z
      rw [mm_tt0] at y
      exact y
  refine mm_cq_m (mm_call_m _) c1 (fun o n1 n2 ⟨e1, e2, hc⟩ => ?_)
  subst e1 e2
  have h30 : ∀ {Q : mm_QQ}, Q (some (mm_I 0)) mi ml → mm_WQ (mm_call mm_ms (mm_tb L xs) (d + 19)) (mm_tb L xs) mm_m231 (mm_li mm_m231) Q 30 [some (mm_R 176), some (mm_I x1)] [] mi ml := fun q => bk_X12_result_30 (mm_call_m _) q
  have hb : ∀ {b : Int32}, b = mi 176 51 - 1 → b.toInt = (mi 176 51).toInt - 1 := fun e => by rw [e, mm_sub1 h51.1]
  rcases hc with ⟨eo, q⟩ | ⟨eo, y, q⟩
  · have hz : mi 176 47 = 0 → ¬ ((0 : Int32).toInt ≤ x1.toInt ∧ x1.toInt ≤ (mi 176 51 - 1).toInt) := fun e47 ⟨a, b⟩ => by
      rw [mm_tt0] at a
      rw [mm_sub1 h51.1] at b
      rcases q with q | q
      · omega
      · have q' := mm_leI q
        rw [(hR1 e47).1] at q'
        omega
    refine ⟨0, eo, en_X12_result (bk_X12_result_0 (mm_call_m _) (fun _ => h30 ⟨0, rfl, hQ _ _ _ hCR⟩) (fun e47 => sp_in (fun a b => absurd ⟨a, b⟩ (hz e47)) (fun _ => bk_X12_result_18 (s0 := 0) (mm_call_m _) (fun _ => h30 ⟨0, rfl, hQ _ _ _ hCR⟩) (fun z => absurd rfl z) (fun z => absurd rfl z))))⟩
  · obtain ⟨e47, y2, y3⟩ := hsz q y
    refine ⟨_, eo, en_X12_result (bk_X12_result_0 (mm_call_m _) (fun z => absurd e47 z) (fun _ => sp_in (fun a b => bk_X12_result_18 (s0 := 1) (mm_call_m _) (fun z => absurd z (by decide)) (fun _ => mm_vpr ⟨y, by omega⟩) (fun _ => ⟨_, rfl, ?_⟩)) (fun z => absurd ⟨by rw [mm_tt0]; exact y, by rw [mm_sub1 h51.1]; omega⟩ z)))⟩
    rw [← y3]
    exact hQ _ _ _ hCR
end MMT
