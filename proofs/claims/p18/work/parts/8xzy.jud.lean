/-! ===== run(), runCopies() of the model with what is told ===== -/
section MMT
variable {L : Nat} {xs : Nat → Int32} {d : Nat} {Q : mm_QQ} {ml : mm_G} {lim : Nat × Nat}
theorem sx_runsr {NB ND NF : Nat} {m w0 : mm_P} (hp0 : RG m w0) (hI : IM m NB ND NF) (hJ : JO NB ND NF m) (hin : (m 176 41).toInt ≤ 16) (hQ : ∀ w v, RG m w → v = OUT m (w0 212) (w0 213) → w 176 47 = v → RWl (w 176 51) (w 214) (TLD m (w0 212) (w0 213)) → Q (some (mm_I v)) w ml) : mm_cq (mm_call mm_ms (mm_tb L xs) (d + 4)) 228 [mm_R 176] w0 ml Q := by
  have hNF0 := hJ.1
  have hNF := hI.1.2.2
  have hNB := hI.1.1.2
  have hND := hI.1.2.1
  obtain ⟨l1, ⟨x, x1, x2, x3⟩, ⟨y, y1, y2, y3⟩, -⟩ := hI.2.2.2.2.2.1 0 hNF0
  have hl0 := hJ.2.1
  have v12 : vp_in 0 12 := vp_in_nI (n := 0) (by decide) (by decide)
  have v800 : vp_in 0 800 := vp_in_nI (n := 0) (by decide) (by decide)
  have e0 : ((0 : Int32).toNatClampNeg) = 0 := rfl
  have hcl : m 181 y = 0 ∧ m 182 y = 0 := ⟨y3.1.resolve_right (by omega), y3.2.resolve_right (by omega)⟩
  have ey : (m 196 0).toNatClampNeg = y := by rw [y2]; exact nI_clamp (by omega)
  have hK0 : ∀ w x x2, RG m w → w 176 51 = 0 → ¬ x = 0 → x = OUT m (w0 212) (w0 213) → TLD m (w0 212) (w0 213) = [] → mm_WQ (mm_call mm_ms (mm_tb L xs) (d + 3)) (mm_tb L xs) mm_m228 (mm_li mm_m228) Q 187 [some (mm_R 176), some (mm_I x), x2] [] w ml := fun w x x2 a b c e t => bk_X12_runs_187 (mm_call_m _) (fun _ => bk_X12_runs_212 (mm_call_m _) (hQ _ _ (RG_u a (by omega)) e mm_u_s (by rw [t]; exact RWl_z ((mm_u_f (by decide)).trans b)))) (fun z => absurd z c) (fun z => absurd z c) (fun z => absurd z c)
  have hK1 : ∀ w h x2, RG m w → h < 6000 → GVt gB m bI bI y 104 (w 212) (w 213) h (w 224 0) → 0 = OUT m (w0 212) (w0 213) → TLD m (w0 212) (w0 213) = tlv m (w 212) (w 213) 5 y (w 224 0) → mm_WQ (mm_call mm_ms (mm_tb L xs) (d + 3)) (mm_tb L xs) mm_m228 (mm_li mm_m228) Q 187 [some (mm_R 176), some (mm_I 0), x2] [] w ml := fun w h x2 a b f e t => by
    refine bk_X12_runs_187 (mm_call_m _) (fun q => absurd rfl q) (fun _ => v12) (fun _ => v800) (fun _ => ?_)
    have g212 : mm_u w 176 47 0 212 = w 212 := funext fun _ => mm_u_e (by decide)
    have g213 : mm_u w 176 47 0 213 = w 213 := funext fun _ => mm_u_e (by decide)
    rw [e0, a.1 196 0 (by decide) (by decide), y2]
    refine sx_tellsAll hI b (RG_u a (by omega)) y1 hcl.1 hcl.2 (by rw [g212, g213]; exact f) mm_u_s (fun w' g1 g2 g3 => bk_X12_runs_212 (mm_call_m _) (hQ w' _ g1 e g3 ?_))
    rw [g212, g213] at g2
    rw [t]
    exact g2
  refine en_X12_runs (bk_X12_runs_0 (mm_call_m _) v12 ?_)
  rw [e0, hp0.1 195 0 (by decide) (by decide), x2]
  generalize hw1 : mm_u (mm_u (mm_u (mm_u (mm_u (mm_u (mm_u (mm_u w0 176 43 0) 176 48 0) 176 49 0) 176 50 0) 176 62 0) 176 64 0) 176 66 0) 176 51 0 = w1
  have hp1 : RG m w1 := by
    rw [← hw1]
    exact RG_u (RG_u (RG_u (RG_u (RG_u (RG_u (RG_u (RG_u hp0 (by omega)) (by omega)) (by omega)) (by omega)) (by omega)) (by omega)) (by omega)) (by omega)
  have h43 : w1 176 43 = nI 0 := by
    rw [← hw1, mm_u_f (by decide), mm_u_f (by decide), mm_u_f (by decide), mm_u_f (by decide), mm_u_f (by decide), mm_u_f (by decide), mm_u_f (by decide), mm_u_s]
    rfl
  have f212 : w1 212 = w0 212 := funext fun i => by
    rw [← hw1, mm_u_e (by decide), mm_u_e (by decide), mm_u_e (by decide), mm_u_e (by decide), mm_u_e (by decide), mm_u_e (by decide), mm_u_e (by decide), mm_u_e (by decide)]
  have f213 : w1 213 = w0 213 := funext fun i => by
    rw [← hw1, mm_u_e (by decide), mm_u_e (by decide), mm_u_e (by decide), mm_u_e (by decide), mm_u_e (by decide), mm_u_e (by decide), mm_u_e (by decide), mm_u_e (by decide)]
  have r1 : mm_cq (mm_call mm_ms (mm_tb L xs) (d + 3)) 217 [mm_R 176, mm_I (nI x)] w1 ml (fun o n1 n2 => n2 = ml ∧ ∃ v h e, o = some (mm_I v) ∧ RG m n1 ∧ n1 176 43 = nI h ∧ h ≤ 1400 ∧ (∀ c i, (219 ≤ c ∨ (c = 176 ∧ ¬ i = 42 ∧ ¬ i = 43)) → n1 c i = w1 c i) ∧ rd m 5 x (w1 212) (w1 213) 0 0 = (v, n1 212, n1 213, h, e)) := sx_reads hI hin hp1 x1 h43 (fun w' h' e' v a b c e f => ⟨rfl, v, h', e', rfl, a, b, c, e, f⟩)
  have r2 : mm_cq (mm_call mm_ms (mm_tb L xs) (d + 3)) 217 [mm_R 176, mm_I (nI x)] w1 ml (fun o n1 n2 => ∃ v h, o = some (mm_I v) ∧ n1 176 43 = nI h ∧ h ≤ 1400 ∧ SVt m sAny sAny x (n1 212) (n1 213) h v) := sp_reads hI hin hp1 x1 h43 (fun w' h' v a b c e f => ⟨v, h', rfl, b, c, f⟩)
  refine mm_cq_m (mm_call_m _) (mm_cq_a r1 r2) (fun o w n2 ⟨⟨en2, v, h, e', eo, g1, g2, g3, g4, grd⟩, ⟨v', h', eo', g2', g3', g5⟩⟩ => ?_)
  subst en2 eo
  have ev : v = v' := by
    injection eo' with e4
    injection e4
  have eh : h = h' := nI_ij (by omega) (by omega) (g2.symm.trans g2')
  subst ev eh
  rw [f212, f213] at grd
  refine bk_X12_runs_52 (mm_call_m _) ?_
  obtain ⟨wf, TY, hAC⟩ := AC_of hJ (f := 0) (by decide) (.inl rfl)
  obtain ⟨-, -, -, gp, gT, gt, b, b1, b2, b3⟩ := id hAC
  have i62 : w 176 62 = nI 0 := by
    rw [g4 176 62 (by omega), ← hw1, mm_u_f (by decide), mm_u_f (by decide), mm_u_f (by decide), mm_u_s]
    rfl
  have i66 : w 176 66 = nI 0 := by
    rw [g4 176 66 (by omega), ← hw1, mm_u_f (by decide), mm_u_s]
    rfl
  have i64 : w 176 64 = nI 0 := by
    rw [g4 176 64 (by omega), ← hw1, mm_u_f (by decide), mm_u_f (by decide), mm_u_s]
    rfl
  have i49 : w 176 49 = nI 0 := by
    rw [g4 176 49 (by omega), ← hw1, mm_u_f (by decide), mm_u_f (by decide), mm_u_f (by decide), mm_u_f (by decide), mm_u_f (by decide), mm_u_s]
    rfl
  have i48 : w 176 48 = nI 0 := by
    rw [g4 176 48 (by omega), ← hw1, mm_u_f (by decide), mm_u_f (by decide), mm_u_f (by decide), mm_u_f (by decide), mm_u_f (by decide), mm_u_f (by decide), mm_u_s]
    rfl
  have i51 : w 176 51 = 0 := by
    rw [g4 176 51 (by omega), ← hw1, mm_u_s]
  have e197 : w 197 0 = nI b := (g1.1 197 0 (by decide) (by decide)).trans b2
  have et : (m 195 0).toNatClampNeg = x := by rw [x2]; exact nI_clamp (by omega)
  have eb : (m 197 0).toNatClampNeg = b := by rw [b2]; exact nI_clamp (by omega)
  refine sp_calls (op := 0) (k := 0) (g := 0) i66 (by decide) i62 (by decide) (by decide) (fun z => absurd z (by decide)) (fun _ y' => ?_)
  rw [e197]
  refine bk_X12_runs_55 (mm_call_m _) ?_
  have hdb := (hI.2.2.2.2.1 b b1).2.1
  have hib : IB ND m 0 b := fun P h1 _ => h1 b b1 b2
  have hq : ∀ c i, ¬ (c = 222 ∧ i = 0) → ¬ (c = 223 ∧ i = 0) → ¬ (c = 225 ∧ i = 0) → ¬ (c = 176 ∧ (i = 50 ∨ i = 62 ∨ i = 66)) → Wb (mm_u (mm_u (mm_u w 225 0 v) 176 66 (nI (0 + 1))) 176 50 y') 0 (nI b) c i = w c i := fun c i a b e f => by
    rw [Wb_o (by omega) (by omega) (by omega), mm_u_o (by omega), mm_u_o (by omega), mm_u_o (by omega)]
  have q66 : Wb (mm_u (mm_u (mm_u w 225 0 v) 176 66 (nI (0 + 1))) 176 50 y') 0 (nI b) 176 66 = nI 1 := by
    rw [Wb_o (by omega) (by omega) (by omega), mm_u_o (by omega), mm_u_s]
  have q225 : Wb (mm_u (mm_u (mm_u w 225 0 v) 176 66 (nI (0 + 1))) 176 50 y') 0 (nI b) 225 0 = v := by
    rw [Wb_o (by omega) (by omega) (by omega), mm_u_o (by omega), mm_u_o (by omega), mm_u_s]
  have hRG : RG m (Wb (mm_u (mm_u (mm_u w 225 0 v) 176 66 (nI (0 + 1))) 176 50 y') 0 (nI b)) := RG_b (RG_u (RG_u (RG_u g1 (by omega)) (by omega)) (by omega))
  have hWS : WS m (Wb (mm_u (mm_u (mm_u w 225 0 v) 176 66 (nI (0 + 1))) 176 50 y') 0 (nI b)) (w 212) (w 213) h 0 0 1 := ⟨hRG, ⟨fun a => hq 212 a (by omega) (by omega) (by omega) (by omega), fun a => hq 213 a (by omega) (by omega) (by omega) (by omega)⟩, ⟨(hq 176 43 (by omega) (by omega) (by omega) (by omega)).trans g2, (hq 176 48 (by omega) (by omega) (by omega) (by omega)).trans i48, (hq 176 49 (by omega) (by omega) (by omega) (by omega)).trans i49, q66⟩, (hq 176 51 (by omega) (by omega) (by omega) (by omega)).trans i51⟩
  have eNW : NW wf sAny sAny (nI b) = SVt m sAny sAny y := by
    rw [nwn (r := y) (b3.trans y2) (by omega) (by omega)]
    exact SVt_c (TW_I hI) (fun t ht c a b => AC_t hI hAC ht a b) y1
  refine mr_ev hI hJ 360 (k := 0) (v := 0) (A := w 212) (B := w 213) (h := h) (s := 0) (l := 0) (o := 1) (f := 0) (wf := wf) (TY := TY) (SA := sAny) (SB := sAny) (n := b) (arg := v) hWS ⟨by decide, by decide⟩ ⟨by decide, by decide, by omega⟩ hAC ⟨mST_any, mST_any⟩ ⟨x, x1, x2, ?_⟩ q225 ⟨Wb_v.2.2, (hq 176 64 (by omega) (by omega) (by omega) (by omega)).trans i64⟩ ⟨Wb_v.1, Wb_v.2.1⟩ ⟨b1, hib, by omega, by decide⟩ (by omega) (fun z A' B' h2 s2 l2 o2 w2 y2' he hG hW2 hAG h62 h64 hz hty => ?_) (fun e z A' B' h2 s2 l2 o2 w2 y2' he hne hRG2 h51 => end58 hne (hK0 w2 e y2' hRG2 h51 hne (OUT_e et eb grd he).symm (by rw [TLD_e et eb ey grd he, if_neg hne])))
  · rw [show 1 - 1 = 0 from rfl, q225]
    exact HX_s (SVt_m mST_any mST_any x) (Nat.le_refl _) (HX_e (fun a => hq 212 a (by omega) (by omega) (by omega) (by omega)) (fun a => hq 213 a (by omega) (by omega) (by omega) (by omega))) g5
  · have hle : w2 176 62 ≤ 0 := by rw [h62]; decide
    obtain ⟨eA, eB⟩ := fun212 hW2.2.1
    have hbt := run_bt hI hJ x1 x2 y1 y2 eb (by omega) grd he hG.2.2.1
    rw [← eA, ← eB, ← hz] at hbt
    have hb2 := hG.2.1
    have hs2 := hG.1
    exact bk_X12_runs_58 (mm_call_m _) (fun _ => hK1 w2 h2 y2' hW2.1 (by omega) hbt (OUT_e et eb grd he).symm (by rw [TLD_e et eb ey grd he, if_pos rfl, eA, eB, hz])) (fun z => absurd hle z) (fun z => absurd hle z) (fun z => absurd hle z) (fun z => absurd hle z) (fun z => absurd hle z) (fun z => absurd hle z) (fun z => absurd hle z) (fun z => absurd hle z)
theorem sx_mrunr {NB ND NF : Nat} {mi : mm_P} (hCJ : CJ mi ml) (hI : IM mi NB ND NF) (hin : (mi 176 41).toInt ≤ 16) (hQ3 : ∀ w v, PR mi w → VP mi ml v → ¬ v = 0 → Q (some (mm_I (-3))) w ml) (hQ4 : ∀ w, PR mi w → VP mi ml 0 → w 176 46 = 160 → Q (some (mm_I (-4))) w ml)
    (hQ : ∀ w w' v A B, PR mi w → VP mi ml 0 → 0 < NF → ¬ w 176 46 = 160 → RF w w' → w' 176 46 = w 176 46 + 1 → v = OUT w A B → w' 176 47 = v → RWl (w' 176 51) (w' 214) (TLD w A B) → Q (some (mm_I v)) w' ml) : mm_cq (mm_call mm_ms (mm_tb L xs) (d + 10)) 229 [mm_R 176] mi ml Q := by
  have g1 : mm_cq (mm_call mm_ms (mm_tb L xs) (d + 9)) 202 [mm_R 176] mi ml (fun o n1 n2 => n2 = ml ∧ ∃ v, o = some (mm_I v) ∧ VP mi ml v) := sx_mjudge hCJ (fun w v _ b => ⟨rfl, v, rfl, b⟩)
  have g2 : mm_cq (mm_call mm_ms (mm_tb L xs) (d + 9)) 202 [mm_R 176] mi ml (fun o n1 n2 => ∃ v, o = some (mm_I v) ∧ PR mi n1 ∧ (v = 0 → JO NB ND NF n1)) := sp_judge hI (fun w v a b => ⟨v, rfl, a, b⟩)
  refine en_X12_run (bk_X12_run_0 (mm_call_m _) (mm_cq_m (mm_call_m _) (mm_cq_a g1 g2) (fun o n1 n2 ⟨⟨e0, v, e2, a2⟩, ⟨v', e3, a3, a4⟩⟩ => ?_)))
  subst e0 e2
  have ev : v = v' := by
    injection e3 with e4
    injection e4
  subst ev
  refine bk_X12_run_4 (mm_call_m _) (fun z z2 => ?_) (fun z z2 => ?_) (fun z => hQ3 _ _ a3 a2 z)
  · subst z
    have hJ := a4 rfl
    have hIn := IM_c hI a3
    refine sx_runsr (d := d + 5) RG_r (IM_46 hIn) (JO_46 hJ) (by rw [mm_u_f (by decide), a3 176 41 rfl]; exact hin) (fun w' v k1 k4 k5 k6 => bk_X12_run_37 (mm_call_m _) (hQ n1 w' v (mm_u n1 176 46 (n1 176 46 + 1) 212) (mm_u n1 176 46 (n1 176 46 + 1) 213) a3 a2 hJ.1 z2 (RG_u46 k1).1 (RG_u46 k1).2 (k4.trans ?_) k5 ?_))
    · exact OUT_c hIn hJ.1 (fun c t _ _ _ => mm_u_e (by omega)) (fun c i _ _ => mm_u_e (by omega)) (mm_u_f (by decide)) (fun i => mm_u_e (by decide))
    · rw [TLD_c hIn hJ.1 (fun c t _ _ _ => mm_u_e (by omega)) (fun c i _ _ => mm_u_e (by omega)) (mm_u_f (by decide)) (fun i => mm_u_e (by decide))] at k6
      exact k6
  · subst z
    exact hQ4 _ a3 a2 z2
theorem sx_mrunCr {NB ND NF : Nat} {mi : mm_P} {Q : mm_QQ} (hCV : CV mi ml) (hI : IM mi NB ND NF) (hin : (mi 176 41).toInt ≤ 16) (hQ0 : ¬ 0 ≤ mi 0 10 → ∀ w, PR mi w → Q (some (mm_I (mi 0 10))) w ml) (hQ : 0 ≤ mi 0 10 → ∀ w w' v A B, PR mi w → 0 < NF → RG w w' → v = OUT w A B → w' 176 47 = v → RWl (w' 176 51) (w' 214) (TLD w A B) → Q (some (mm_I v)) w' ml) : mm_cq (mm_call mm_ms (mm_tb L xs) (d + 11)) 230 [mm_R 176] mi ml Q := by
  have g1 : mm_cq (mm_call mm_ms (mm_tb L xs) (d + 10)) 208 [mm_R 176] mi ml (fun o n1 n2 => ml = n2 ∧ o = some (mm_I (mi 0 10))) := sx_findCopies hCV.1.1 hI (fun w v _ hv => ⟨rfl, by rw [← VC_v hCV hv]⟩)
  have g2 : mm_cq (mm_call mm_ms (mm_tb L xs) (d + 10)) 208 [mm_R 176] mi ml (fun o n1 n2 => ∃ v, o = some (mm_I v) ∧ PR mi n1 ∧ (v.toInt < 0 ∨ ∃ TY C, FI NB ND NF TY C n1 ∧ v = nI C)) := sp_findCopies hI (fun w v a b => ⟨v, rfl, a, b⟩)
  refine en_X12_runCopies (bk_X12_runCopies_0 (mm_call_m _) (mm_cq_m (mm_call_m _) (mm_cq_a g1 g2) (fun o n1 n2 ⟨⟨e0, e2⟩, ⟨v', e3, a3, a4⟩⟩ => ?_)))
  subst e0 e2
  have ev : mi 0 10 = v' := by
    injection e3 with e4
    injection e4
  subst ev
  refine bk_X12_runCopies_4 (mm_call_m _) (fun z => ?_) (fun z => bk_X12_runCopies_17 (mm_call_m _) (hQ0 z n1 a3))
  have z' := mm_leI z
  rw [mm_tt0] at z'
  obtain ⟨TY, C, hF, -⟩ := a4.resolve_left (by omega)
  exact sx_runsr (d := d + 6) RG_r hF.1 hF.2.1 (by rw [a3 176 41 rfl]; exact hin) (fun w' v k1 k4 k5 k6 => bk_X12_runCopies_17 (mm_call_m _) (hQ z n1 w' v _ _ a3 hF.2.1.1 k1 k4 k5 k6))
end MMT
