/-! ===== runs(), run(), runCopies() of the model ===== -/
section MMT
variable {L : Nat} {xs : Nat → Int32} {d : Nat} {Q : mm_QQ} {ml : mm_G} {lim : Nat × Nat}
theorem run_E {NB ND NF : Nat} {m : mm_P} (hI : IM m NB ND NF) (hJ : JO NB ND NF m)
    (hK0 : ∀ w x x2, RF m w → w 176 51 = 0 → ¬ x = 0 → mm_WQ (mm_call mm_ms (mm_tb L xs) (d + 3)) (mm_tb L xs) mm_m228 lim Q 187 [some (mm_R 176), some (mm_I x), x2] [] w ml)
    (hK1 : ∀ w h y x2, RF m w → h < 6000 → y < NB → m 196 0 = nI y → SVt m sAny sAny y (w 212) (w 213) h (w 224 0) → mm_WQ (mm_call mm_ms (mm_tb L xs) (d + 3)) (mm_tb L xs) mm_m228 lim Q 187 [some (mm_R 176), some (mm_I 0), x2] [] w ml) :
    ∀ (j s : Nat) {w : mm_P} {k v h op f : Nat} {wf : mm_P} {TY : Nat} {SA SB : ST} {n : Nat} {x2 : Option mm_V}, s + j = 600 → EV NB ND NF m w k v h s op f wf TY SA SB n → mm_WQ (mm_call mm_ms (mm_tb L xs) (d + 3)) (mm_tb L xs) mm_m228 lim Q 58 [some (mm_R 176), some (mm_I 0), x2] [] w ml := by
  have hND := hI.1.2.1
  intro j
  induction j with
  | zero =>
    intro s w k v h op f wf TY SA SB n x2 hj hE
    obtain ⟨hB, ⟨h62, h64⟩, ⟨h222, h223⟩, ⟨n1, n2, n3⟩, hh, hw⟩ := hE
    obtain ⟨hp, h43, ⟨h48, hs⟩, ⟨h66, hop1, hop2⟩, hAC, hm, hAR, h51⟩ := id hB
    have hv := WA_v k hw
    have hdep := (hI.2.2.2.2.1 n n1).2.1
    refine at58 h62 (by omega) h222 (fun _ => ?_) (fun z => absurd (h223.symm.trans z) (by decide)) (fun z => absurd (h223.symm.trans z) (by decide)) (fun z => absurd (h223.symm.trans z) (by decide)) (fun z => absurd h223 z)
    exact sp_begins h62 (by omega) h64 (by omega) h48 hs h66 ⟨hop1, hop2⟩ (by omega) (bk_X12_runs_129 (mm_call_m _) (bk_X12_runs_184 (mm_call_m _) (end58 (by decide) (hK0 _ _ _ hp h51 (by decide))))) (fun z => by omega) (fun z => by omega)
  | succ j ih =>
    intro s w k v h op f wf TY SA SB n x2 hj hE
    obtain ⟨hB, ⟨h62, h64⟩, ⟨h222, h223⟩, ⟨n1, n2, n3⟩, hh, hw⟩ := hE
    obtain ⟨hp, h43, ⟨h48, hs⟩, ⟨h66, hop1, hop2⟩, hAC, hm, hAR, h51⟩ := id hB
    have hv := WA_v k hw
    have hok := hI.2.2.2.2.1 n n1
    have hdep := hok.2.1
    have hrow : ∀ c, 188 ≤ c → c ≤ 197 → ∀ i, w c i = m c i := fun c a b i => hp.1 c i (by omega) (by omega)
    have ek188 := hrow 188 (by decide) (by decide) n
    refine at58 h62 (by omega) h222 (fun _ => ?_) (fun z => absurd (h223.symm.trans z) (by decide)) (fun z => absurd (h223.symm.trans z) (by decide)) (fun z => absurd (h223.symm.trans z) (by decide)) (fun z => absurd h223 z)
    refine sp_begins h62 (by omega) h64 (by omega) h48 hs h66 ⟨hop1, hop2⟩ (by omega) (bk_X12_runs_129 (mm_call_m _) (bk_X12_runs_184 (mm_call_m _) (end58 (by decide) (hK0 _ _ _ hp h51 (by decide))))) (fun z x hx => bk_X12_runs_129 (mm_call_m _) (bk_X12_runs_184 (mm_call_m _) ?_)) (fun z k0 k1 k2 k9 => bk_X12_runs_129 (mm_call_m _) (bk_X12_runs_184 (mm_call_m _) ?_))
    · -- a leaf
      have ag : AG k v h op w (Wg (mm_u w 176 48 (nI (s + 1))) v k x) := fun c i a b e f g h' j => by rw [Wg_o (by omega) (by omega) (by omega), mm_u_o (by omega)]
      have q43 : Wg (mm_u w 176 48 (nI (s + 1))) v k x 176 43 = nI h := by
        rw [Wg_o (by omega) (by omega) (by omega), mm_u_f (by decide)]
        exact h43
      have q48 : Wg (mm_u w 176 48 (nI (s + 1))) v k x 176 48 = nI (s + 1) := by
        rw [Wg_o (by omega) (by omega) (by omega), mm_u_s]
      have q66 : Wg (mm_u w 176 48 (nI (s + 1))) v k x 176 66 = nI op := by
        rw [Wg_o (by omega) (by omega) (by omega), mm_u_f (by decide)]
        exact h66
      refine run_R (s := s + 1) hI hJ hK0 hK1 (fun q => ih (s + 1) (by omega) q) k (v := v) (h := h) (op := op) (f := f) (wf := wf) (TY := TY) (SA := SA) (SB := SB) (S := NW wf SA SB (nI n)) ⟨AG_BS ag (Nat.le_refl _) (Nat.le_refl _) q43 q48 (by omega) q66 hB, ⟨Wg_v.2.2, Wg_v.2.1⟩, ?_, by omega, AG_WA ag (Nat.le_refl _) k (Nat.le_refl _) (Nat.le_refl _) (by omega) hm hw⟩
      rw [Wg_v.1]
      rw [ek188] at hx
      rcases hx with hx | ⟨hx, rfl⟩ | ⟨hx, rfl⟩
      · rw [ns_any (SA := SA) (SB := SB) hI hAC n2 (by rcases hx with q | q; exact .inl q; exact .inr (.inl q))]
        trivial
      · obtain ⟨y, y1, y2, y3⟩ := ns_2 (SA := SA) (SB := SB) hI hAC n2 hx
        obtain ⟨y', y1', y2', y3'⟩ := hAR
        have hNB := hI.1.1.2
        have e : y' = y := nI_ij (by omega) (by omega) (y2'.symm.trans y2)
        subst e
        rw [y3]
        exact HX_s (SVt_m hm.1 hm.2 _) (Nat.le_refl _) (AG_HX ag) y3'
      · obtain ⟨R, hR⟩ := ns_9 (SA := SA) (SB := SB) hI hAC n2 hx
        rw [hR]
        exact sLs_nil
    · -- its first part begins
      rw [ek188] at k0 k1 k2 k9
      have hp1 : 1 ≤ (f_parts (m 188 n)).toInt := by
        have hr := hok.1
        obtain ⟨q, eq, q2, -, -⟩ := mm_of (n := 15) hr.1 (by omega)
        rw [eq] at k0 k1 k2 k9 ⊢
        rcases (show q = 0 ∨ q = 1 ∨ q = 2 ∨ q = 3 ∨ q = 4 ∨ q = 5 ∨ q = 6 ∨ q = 7 ∨ q = 8 ∨ q = 9 ∨ q = 10 ∨ q = 11 ∨ q = 12 ∨ q = 13 ∨ q = 14 by omega) with rfl | rfl | rfl | rfl | rfl | rfl | rfl | rfl | rfl | rfl | rfl | rfl | rfl | rfl | rfl
        all_goals first
          | exact absurd rfl k0
          | exact absurd rfl k1
          | exact absurd rfl k2
          | exact absurd rfl k9
          | decide
      obtain ⟨p, p1, p2, p3⟩ := f_part_r (i := 0) hok (by decide) (by rw [mm_tt0]; omega)
      have hib := IB_part (i := 0) n2 n1 (by decide) (by rw [mm_tt0]; omega)
      rw [p2, nI_clamp (by omega)] at hib
      have ep : f_part w n 0 = nI p := (f_part_c (fun c i x y => hrow c x y i)).trans p2
      rw [ep]
      have ag : AG k v h op w (Wb (mm_u (mm_u w 176 48 (nI (s + 1))) 223 k 1) (k + 1) (nI p)) := fun c i a b e f g h' j => by rw [Wb_o (by omega) (by omega) (by omega), mm_u_o (by omega), mm_u_o (by omega)]
      have hq : ∀ c i, ¬ (c = 222 ∧ i = k + 1) → ¬ (c = 223 ∧ i = k + 1) → ¬ (c = 223 ∧ i = k) → ¬ (c = 176 ∧ (i = 48 ∨ i = 62)) → Wb (mm_u (mm_u w 176 48 (nI (s + 1))) 223 k 1) (k + 1) (nI p) c i = w c i := fun c i a b e f => by rw [Wb_o (by omega) (by omega) (by omega), mm_u_o (by omega), mm_u_o (by omega)]
      have q48 : Wb (mm_u (mm_u w 176 48 (nI (s + 1))) 223 k 1) (k + 1) (nI p) 176 48 = nI (s + 1) := by
        rw [Wb_o (by omega) (by omega) (by omega), mm_u_e (by decide), mm_u_s]
      have q223 : Wb (mm_u (mm_u w 176 48 (nI (s + 1))) 223 k 1) (k + 1) (nI p) 223 k = 1 := by
        rw [Wb_o (by omega) (by omega) (by omega), mm_u_s]
      refine ih (s + 1) (k := k + 1) (v := v) (h := h) (op := op) (f := f) (wf := wf) (TY := TY) (SA := SA) (SB := SB) (n := p) (by omega) ⟨AG_BS ag (Nat.le_refl _) (Nat.le_refl _) ((hq 176 43 (by omega) (by omega) (by omega) (by omega)).trans h43) q48 (by omega) ((hq 176 66 (by omega) (by omega) (by omega) (by omega)).trans h66) hB, ⟨Wb_v.2.2, (hq 176 64 (by omega) (by omega) (by omega) (by omega)).trans h64⟩, ⟨Wb_v.1, Wb_v.2.1⟩, ⟨by omega, hib, by omega⟩, by omega, ?_⟩
      unfold WA
      exact ⟨n, n1, (hq 222 k (by omega) (by omega) (by omega) (by omega)).trans h222, .inl ⟨n2, n3, .inl ⟨q223, hp1, by rw [p2], AG_WA ag (Nat.le_refl _) k (Nat.le_refl _) (Nat.le_refl _) (by omega) hm hw⟩⟩⟩
theorem sp_runs {NB ND NF : Nat} {m w0 : mm_P} (hp0 : RF m w0) (hI : IM m NB ND NF) (hJ : JO NB ND NF m) (hin : (m 176 41).toInt ≤ 16) (hQ : ∀ w v r, RF m w → w 176 51 = nI r → r ≤ 100 → Q (some (mm_I v)) w ml) : mm_cq (mm_call mm_ms (mm_tb L xs) (d + 4)) 228 [mm_R 176] w0 ml Q := by
  have hNF0 := hJ.1
  have hNF := hI.1.2.2
  have hNB := hI.1.1.2
  have hND := hI.1.2.1
  obtain ⟨l1, ⟨x, x1, x2, x3⟩, ⟨y, y1, y2, y3⟩, -⟩ := hI.2.2.2.2.2.1 0 hNF0
  have hl0 := hJ.2.1
  have v12 : vp_in 0 12 := vp_in_nI (n := 0) (by decide) (by decide)
  have v800 : vp_in 0 800 := vp_in_nI (n := 0) (by decide) (by decide)
  have e0 : ((0 : Int32).toNatClampNeg) = 0 := rfl
  have hcl : m 181 y = 0 ∧ m 182 y = 0 := ⟨y3.1.resolve_right (by omega), y3.2.resolve_right (by omega)⟩
  have hK0 : ∀ w x x2, RF m w → w 176 51 = 0 → ¬ x = 0 → mm_WQ (mm_call mm_ms (mm_tb L xs) (d + 3)) (mm_tb L xs) mm_m228 (mm_li mm_m228) Q 187 [some (mm_R 176), some (mm_I x), x2] [] w ml := fun w x x2 a b c => bk_X12_runs_187 (mm_call_m _) (fun _ => bk_X12_runs_212 (mm_call_m _) (hQ _ _ 0 (RF_u a (by omega)) ((mm_u_f (by decide)).trans b) (by decide))) (fun z => absurd z c) (fun z => absurd z c) (fun z => absurd z c)
  have hK1 : ∀ w h y x2, RF m w → h < 6000 → y < NB → m 196 0 = nI y → SVt m sAny sAny y (w 212) (w 213) h (w 224 0) → mm_WQ (mm_call mm_ms (mm_tb L xs) (d + 3)) (mm_tb L xs) mm_m228 (mm_li mm_m228) Q 187 [some (mm_R 176), some (mm_I 0), x2] [] w ml := fun w h z x2 a b c e f => by
    have ez : z = y := nI_ij (by omega) (by omega) (e.symm.trans y2)
    subst ez
    refine bk_X12_runs_187 (mm_call_m _) (fun q => absurd rfl q) (fun _ => v12) (fun _ => v800) (fun _ => ?_)
    rw [e0, a.1 196 0 (by decide) (by decide), y2]
    refine sp_tellsAll hI b (RF_u a (by omega)) c hcl.1 hcl.2 ?_ (fun w' r g1 g2 g3 => bk_X12_runs_212 (mm_call_m _) (hQ w' _ r g1 g2 g3))
    exact HX_s (SVt_m mST_any mST_any z) (Nat.le_refl _) (HX_e (fun _ => mm_u_e (by decide)) (fun _ => mm_u_e (by decide))) f
  refine en_X12_runs (bk_X12_runs_0 (mm_call_m _) v12 ?_)
  rw [e0, hp0.1 195 0 (by decide) (by decide), x2]
  refine sp_reads hI hin (RF_u (RF_u (RF_u (RF_u (RF_u (RF_u (RF_u (RF_u hp0 (by omega)) (by omega)) (by omega)) (by omega)) (by omega)) (by omega)) (by omega)) (by omega)) x1 ?_ (fun w h v g1 g2 g3 g4 g5 => bk_X12_runs_52 (mm_call_m _) ?_)
  · rw [mm_u_f (by decide), mm_u_f (by decide), mm_u_f (by decide), mm_u_f (by decide), mm_u_f (by decide), mm_u_f (by decide), mm_u_f (by decide), mm_u_s]
    rfl
  obtain ⟨wf, TY, hAC⟩ := AC_of hJ (f := 0) (by decide) (.inl rfl)
  obtain ⟨-, -, -, gp, gT, gt, b, b1, b2, b3⟩ := id hAC
  have i62 : w 176 62 = nI 0 := by
    rw [g4 176 62 (by omega), mm_u_f (by decide), mm_u_f (by decide), mm_u_f (by decide), mm_u_s]
    rfl
  have i66 : w 176 66 = nI 0 := by
    rw [g4 176 66 (by omega), mm_u_f (by decide), mm_u_s]
    rfl
  have i64 : w 176 64 = nI 0 := by
    rw [g4 176 64 (by omega), mm_u_f (by decide), mm_u_f (by decide), mm_u_s]
    rfl
  have i48 : w 176 48 = nI 0 := by
    rw [g4 176 48 (by omega), mm_u_f (by decide), mm_u_f (by decide), mm_u_f (by decide), mm_u_f (by decide), mm_u_f (by decide), mm_u_f (by decide), mm_u_s]
    rfl
  have i51 : w 176 51 = 0 := by
    rw [g4 176 51 (by omega), mm_u_s]
  have e197 : w 197 0 = nI b := (g1.1 197 0 (by decide) (by decide)).trans b2
  refine sp_calls (op := 0) (k := 0) (g := 0) i66 (by decide) i62 (by decide) (by decide) (fun z => absurd z (by decide)) (fun _ y' => ?_)
  rw [e197]
  refine bk_X12_runs_55 (mm_call_m _) ?_
  have hdb := (hI.2.2.2.2.1 b b1).2.1
  have hib : IB ND m 0 b := fun P h1 _ => h1 b b1 b2
  have hq : ∀ c i, ¬ (c = 222 ∧ i = 0) → ¬ (c = 223 ∧ i = 0) → ¬ (c = 225 ∧ i = 0) → ¬ (c = 176 ∧ (i = 50 ∨ i = 62 ∨ i = 66)) → Wb (mm_u (mm_u (mm_u w 225 0 v) 176 66 (nI (0 + 1))) 176 50 y') 0 (nI b) c i = w c i := fun c i a b e f => by
    rw [Wb_o (by omega) (by omega) (by omega), mm_u_o (by omega), mm_u_o (by omega), mm_u_o (by omega)]
  have q66 : Wb (mm_u (mm_u (mm_u w 225 0 v) 176 66 (nI (0 + 1))) 176 50 y') 0 (nI b) 176 66 = nI 1 := by
    rw [Wb_o (by omega) (by omega) (by omega), mm_u_o (by omega), mm_u_s]
  have q225 : Wb (mm_u (mm_u (mm_u w 225 0 v) 176 66 (nI (0 + 1))) 176 50 y') 0 (nI b) 225 0 = v := by
    rw [Wb_o (by omega) (by omega) (by omega), mm_u_o (by omega), mm_u_o (by omega), mm_u_s]
  have hRF : RF m (Wb (mm_u (mm_u (mm_u w 225 0 v) 176 66 (nI (0 + 1))) 176 50 y') 0 (nI b)) := RF_b (RF_u (RF_u (RF_u g1 (by omega)) (by omega)) (by omega))
  refine run_E hI hJ hK0 hK1 600 0 (k := 0) (v := 0) (h := h) (op := 1) (f := 0) (wf := wf) (TY := TY) (SA := sAny) (SB := sAny) (n := b) (by decide) ⟨⟨hRF, (hq 176 43 (by omega) (by omega) (by omega) (by omega)).trans g2, ⟨(hq 176 48 (by omega) (by omega) (by omega) (by omega)).trans i48, by decide⟩, ⟨q66, by decide, by decide⟩, hAC, ⟨mST_any, mST_any⟩, ⟨x, x1, x2, ?_⟩, (hq 176 51 (by omega) (by omega) (by omega) (by omega)).trans i51⟩, ⟨Wb_v.2.2, (hq 176 64 (by omega) (by omega) (by omega) (by omega)).trans i64⟩, ⟨Wb_v.1, Wb_v.2.1⟩, ⟨b1, hib, by omega⟩, by omega, ?_⟩
  · rw [show 1 - 1 = 0 from rfl, q225]
    exact HX_s (SVt_m mST_any mST_any x) (Nat.le_refl _) (HX_e (fun a => hq 212 a (by omega) (by omega) (by omega) (by omega)) (fun a => hq 213 a (by omega) (by omega) (by omega) (by omega))) g5
  · unfold WA
    refine ⟨rfl, rfl, y, y1, y2, ?_⟩
    rw [nwn (r := y) (b3.trans y2) (by omega) (by omega)]
    exact SVt_c (TW_I hI) (fun t ht c a b => AC_t hI hAC ht a b) y1
theorem sp_run {NB ND NF : Nat} {mi : mm_P} (hI : IM mi NB ND NF) (hin : (mi 176 41).toInt ≤ 16) (hQ0 : ∀ w v, PR mi w → Q (some (mm_I v)) w ml) (hQ : ∀ w w' v r, PR mi w → RF w w' → w' 176 51 = nI r → r ≤ 100 → Q (some (mm_I v)) w' ml) : mm_cq (mm_call mm_ms (mm_tb L xs) (d + 10)) 229 [mm_R 176] mi ml Q := by
  refine en_X12_run (bk_X12_run_0 (mm_call_m _) (sp_judge hI (fun w v hp hJ => bk_X12_run_4 (mm_call_m _) (fun z _ => ?_) (fun _ _ => hQ0 w _ hp) (fun _ => hQ0 w _ hp))))
  exact sp_runs (d := d + 5) (RF_u RF_r (by omega)) (IM_c hI hp) (hJ z) (by rw [hp 176 41 rfl]; exact hin) (fun w' v r g1 g2 g3 => bk_X12_run_37 (mm_call_m _) (hQ w w' v r hp g1 g2 g3))
theorem sp_runCopies {NB ND NF : Nat} {mi : mm_P} (hI : IM mi NB ND NF) (hin : (mi 176 41).toInt ≤ 16) (hQ0 : ∀ w v, PR mi w → Q (some (mm_I v)) w ml) (hQ : ∀ w w' v r, PR mi w → RF w w' → w' 176 51 = nI r → r ≤ 100 → Q (some (mm_I v)) w' ml) : mm_cq (mm_call mm_ms (mm_tb L xs) (d + 11)) 230 [mm_R 176] mi ml Q := by
  refine en_X12_runCopies (bk_X12_runCopies_0 (mm_call_m _) (sp_findCopies hI (fun w v hp hv => bk_X12_runCopies_4 (mm_call_m _) (fun z => ?_) (fun _ => bk_X12_runCopies_17 (mm_call_m _) (hQ0 w _ hp)))))
  have z' := mm_leI z
  rw [mm_tt0] at z'
  obtain ⟨TY, C, hF, -⟩ := hv.resolve_left (by omega)
  exact sp_runs (d := d + 6) RF_r hF.1 hF.2.1 (by rw [hp 176 41 rfl]; exact hin) (fun w' v r g1 g2 g3 => bk_X12_runCopies_17 (mm_call_m _) (hQ w w' v r hp g1 g2 g3))
end MMT
