/-! ===== runCopies() in both ===== -/
section MMT
variable {L : Nat} {xs : Nat → Int32} {d : Nat} {mi : mm_P} {ml : mm_G}
theorem sx_mrunC {NB ND NF : Nat} {Q : mm_QQ} (hCV : CV mi ml) (hI : IM mi NB ND NF) (hin : (mi 176 41).toInt ≤ 16) (hQ0 : ¬ 0 ≤ mi 0 10 → ∀ w, PR mi w → Q (some (mm_I (mi 0 10))) w ml) (hQ : 0 ≤ mi 0 10 → ∀ w w' v r A B, PR mi w → 0 < NF → RG w w' → w' 176 51 = nI r → r ≤ 100 → v = OUT w A B → Q (some (mm_I v)) w' ml) : mm_cq (mm_call mm_ms (mm_tb L xs) (d + 11)) 230 [mm_R 176] mi ml Q := by
  have g1 : mm_cq (mm_call mm_ms (mm_tb L xs) (d + 10)) 208 [mm_R 176] mi ml (fun o n1 n2 => ml = n2 ∧ o = some (mm_I (mi 0 10))) := sx_findCopies hCV.1.1 hI (fun w v _ hv => ⟨rfl, by rw [← VC_v hCV hv]⟩)
  have g2 : mm_cq (mm_call mm_ms (mm_tb L xs) (d + 10)) 208 [mm_R 176] mi ml (fun o n1 n2 => ∃ v, o = some (mm_I v) ∧ PR mi n1 ∧ (v.toInt < 0 ∨ ∃ TY C, FI NB ND NF TY C n1 ∧ v = nI C)) := sp_findCopies hI (fun w v a b => ⟨v, rfl, a, b⟩)
  refine en_X12_runCopies (bk_X12_runCopies_0 (mm_call_m _) (mm_cq_m (mm_call_m _) (mm_cq_a g1 g2) (fun o n1 n2 ⟨⟨e0, e2⟩, ⟨v', e3, a3, a4⟩⟩ => ?_)))
  subst e0 e2
  have ev : mi 0 10 = v' := by
    injection e3 with e4
    injection e4
  subst ev
  refine bk_X12_runCopies_4 (mm_call_m _) (fun z => ?_) (fun z => bk_X12_runCopies_17 (mm_call_m _) (hQ0 z n1 a3))
  have z' := mm_leI z
  rw [mm_tt0] at z'
  obtain ⟨TY, C, hF, -⟩ := a4.resolve_left (by omega)
  exact sx_runs (d := d + 6) RG_r hF.1 hF.2.1 (by rw [a3 176 41 rfl]; exact hin) (fun w' v r k1 k2 k3 k4 => bk_X12_runCopies_17 (mm_call_m _) (hQ z n1 w' v r _ _ a3 hF.2.1.1 k1 k2 k3 k4))
theorem lr_runCopies {Q' : Int32 → Int32 → mm_P → mm_G → Prop} (hCR : CKR mi ml) (hQ : ∀ v n m2, CKR n m2 → Q' v v n m2) : mm_cq (mm_call mm_ms (mm_tb L xs) (d + 22)) 159 [mm_R 0] mi ml (fun o n1 n2 => ∃ v, o = some (mm_I v) ∧ mm_cq (mm_call mm_ms (mm_tb L xs) (d + 22)) 230 [mm_R 176] n1 n2 (fun o2 n3 n4 => ∃ v2, o2 = some (mm_I v2) ∧ Q' v v2 n3 n4)) := by
  obtain ⟨hCV, hTR, hru, hr0, hr1⟩ := id hCR
  obtain ⟨hIC, ⟨NB, ND, NF, hI, hT, hN, hF⟩, -⟩ := id hCV.1.1.1
  have hNB := hI.1.1.2
  have hND := hI.1.2.1
  have hNF := hI.1.2.2
  have hKW : KW NB ND NF mi := ⟨⟨hT.1, hN.1, hF.1⟩, hNB, hND, hNF⟩
  -- the copies, where there are some
  have hcop : 0 ≤ mi 0 10 → mi 0 9 = 0 ∧ ∃ C, CC mi ml = some C ∧ CRw mi ml C ∧ (∀ s, s ∈ C → s.1 < 12 ∧ UR mi s.1) ∧ ∀ i, i < C.length → PRC mi ml mi ml C i := fun z => by
    have h09 : mi 0 9 = 0 := by
      by_cases c : mi 0 9 = 0
      · exact c
      · rw [hCV.2.1 c] at z
        exact absurd z (by decide)
    refine ⟨h09, ?_⟩
    rcases hCV.2.2 h09 with ⟨-, q⟩ | ⟨C, a, -, b, e, f⟩
    · rw [q] at z
      exact absurd z (by decide)
    · exact ⟨C, a, b, e, f⟩
  have hOi : 0 ≤ mi 0 10 → ∀ A B, OUT mi A B = OUT mi (fun _ => 0) (fun _ => 0) := fun z A B => by
    obtain ⟨h09, C, b1, b2, b3, b4⟩ := hcop z
    refine mm_cq_k (mm_cq_m (mm_call_m _) (mm_cq_a (cc_work (L := 0) (xs := fun _ => 0) (d := 0) A B hCV hTR h09 b1 b2 b3 b4) (cc_work (L := 0) (xs := fun _ => 0) (d := 0) (fun _ => 0) (fun _ => 0) hCV hTR h09 b1 b2 b3 b4)) (fun o n1 n2 ⟨h1, h2⟩ => ?_))
    have h3 := h1.symm.trans h2
    injection h3 with h4
    injection h4
  -- the class
  have c1 : mm_cq (mm_call mm_ms (mm_tb L xs) (d + 22)) 159 [mm_R 0] mi ml (fun o _ _ => (¬ 0 ≤ mi 0 10 ∧ o = some (mm_I (mi 0 10))) ∨ (0 ≤ mi 0 10 ∧ o = some (mm_I (OUT mi (fun _ => 0) (fun _ => 0))))) := by
    refine en_X11_runCopies (bk_X11_runCopies_0 (mm_call_m _) (fun z => ?_) (fun z => .inl ⟨z, rfl⟩))
    obtain ⟨h09, C, b1, b2, b3, b4⟩ := hcop z
    obtain ⟨NB', ND', NF', hI', hT', hF', hNF0, -⟩ := CPG_of hCV h09 b1 b2 b3 b4
    have eNF : NF' = NF := nI_ij (by have := hI'.1.2.2; omega) (by omega) (hF'.1.symm.trans hF.1)
    rw [eNF] at hNF0
    refine sx_argShape (d := d + 19) (f := 0) hKW hNF0 (bk_X11_runCopies_24 (mm_call_m _) (sx_resShape (d := d + 19) (f := 0) hKW hNF0 (bk_X11_runCopies_32 (mm_call_m _) ?_)))
    refine mm_cq_m (mm_call_m _) (cc_work (d := d) (fun _ => 0) (fun _ => 0) hCV hTR h09 b1 b2 b3 b4) (fun o n1 n2 h1 => ?_)
    subst h1
    exact bk_X11_runCopies_35 (mm_call_m _) (.inr ⟨z, rfl⟩)
  have c2 : mm_cq (mm_call mm_ms (mm_tb L xs) (d + 22)) 159 [mm_R 0] mi ml (fun _ n1 n2 => mm_IC n1 ∧ mm_fw mm_w_X11_runCopies mi ml n1 n2) := sc_X11_runCopies (d := d + 2) hIC (fun v n1 n2 a b => ⟨a, b⟩)
  refine mm_cq_m (mm_call_m _) (mm_cq_a c1 c2) (fun o n1 n2 ⟨hc, hi, hf⟩ => ?_)
  have hCR1 : CKR n1 n2 := CKR_f hCR (by decide +kernel) (by decide +kernel) (by decide +kernel) (by decide +kernel) (by decide +kernel) (by decide +kernel) hi hf
  have hhi : ∀ c i, 176 ≤ c → n1 c i = mi c i := fun c i q => (hf c i (mm_hi_f (by decide +kernel) q)).1
  have hI1 : IM n1 NB ND NF := IM_h hI hhi
  have h010 : n1 0 10 = mi 0 10 := (hf 0 10 (by decide +kernel)).1
  have hin1 := CO_in hCR1.1.1.1.1
  rcases hc with ⟨z, eo⟩ | ⟨z, eo⟩
  · refine ⟨_, eo, sx_mrunC (d := d + 11) hCR1.1 hI1 hin1 (fun _ w hp => ⟨_, rfl, ?_⟩) (fun y => absurd (by rw [← h010]; exact y) z)⟩
    rw [h010]
    exact hQ _ _ _ (CKR_p hCR1 hp)
  · refine ⟨_, eo, sx_mrunC (d := d + 11) hCR1.1 hI1 hin1 (fun y => absurd (by rw [h010]; exact z) y) (fun _ w w' v r A B hp hNF0 hr h51 hr2 ev => ⟨v, rfl, ?_⟩)⟩
    have e1 : OUT w A B = OUT n1 A B := OUT_p hI1 hNF0 hp
    have e2 : OUT n1 A B = OUT mi A B := OUT_c hI hNF0 (fun c t a _ _ => hhi c t (by omega)) (fun c i a _ => hhi c i (by omega)) (hhi 176 41 (by decide)) (fun i => hhi 211 i (by decide))
    rw [ev, e1, e2, hOi z A B]
    exact hQ _ _ _ (CKR_rg hCR1 hp hr h51 hr2)
end MMT
