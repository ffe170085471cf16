/-! ===== runs() of the model ===== -/
section MMT
variable {L : Nat} {xs : Nat → Int32} {d : Nat} {Q : mm_QQ} {ml : mm_G} {lim : Nat × Nat}
theorem at58 {w : mm_P} {k n : Nat} {x2 : Option mm_V} (h62 : w 176 62 = nI (k + 1)) (hk : k + 1 < 400) (h222 : w 222 k = nI n)
    (h0 : w 223 k = 0 → mm_cq (mm_call mm_ms (mm_tb L xs) (d + 3)) 225 [mm_R 176, mm_I (nI n)] w ml (fun o n1 n2 => mm_WQ (mm_call mm_ms (mm_tb L xs) (d + 3)) (mm_tb L xs) mm_m228 lim Q 129 [some (mm_R 176), some (mm_I 0), some (mm_I (nI n))] (o.toList ++ []) n1 n2))
    (h1 : w 223 k = 1 → mm_cq (mm_call mm_ms (mm_tb L xs) (d + 3)) 226 [mm_R 176, mm_I (nI n)] w ml (fun o n1 n2 => mm_WQ (mm_call mm_ms (mm_tb L xs) (d + 3)) (mm_tb L xs) mm_m228 lim Q 138 [some (mm_R 176), some (mm_I 0), some (mm_I (nI n))] (o.toList ++ []) n1 n2))
    (h2 : w 223 k = 2 → mm_cq (mm_call mm_ms (mm_tb L xs) (d + 3)) 227 [mm_R 176, mm_I (nI n)] w ml (fun o n1 n2 => mm_WQ (mm_call mm_ms (mm_tb L xs) (d + 3)) (mm_tb L xs) mm_m228 lim Q 147 [some (mm_R 176), some (mm_I 0), some (mm_I (nI n))] (o.toList ++ []) n1 n2))
    (h3 : w 223 k = 3 → mm_WQ (mm_call mm_ms (mm_tb L xs) (d + 3)) (mm_tb L xs) mm_m228 lim Q 58 [some (mm_R 176), some (mm_I 0), some (mm_I (nI n))] [] (mm_u w 176 62 (nI k)) ml)
    (h4 : ¬ w 223 k = 0 → ¬ w 223 k = 1 → ¬ w 223 k = 2 → ¬ w 223 k = 3 → mm_WQ (mm_call mm_ms (mm_tb L xs) (d + 3)) (mm_tb L xs) mm_m228 lim Q 58 [some (mm_R 176), some (mm_I 0), some (mm_I (nI n))] [] (mm_u (mm_u w 176 66 (w 176 66 - 1)) 176 62 (nI k)) ml) :
    mm_WQ (mm_call mm_ms (mm_tb L xs) (d + 3)) (mm_tb L xs) mm_m228 lim Q 58 [some (mm_R 176), some (mm_I 0), x2] [] w ml := by
  have e62 : w 176 62 - 1 = nI k := by rw [h62, mm_dec' k (by omega)]
  have v62 : vp_in (w 176 62 - 1) 400 := by rw [e62]; exact vp_in_nI (by omega) (by decide)
  have ek : (nI k).toNatClampNeg = k := nI_clamp (by omega)
  have hpos : ¬ w 176 62 ≤ 0 := by
    rw [h62, Int32.le_iff_toInt_le, mm_tI (by omega), mm_tt0]
    omega
  refine bk_X12_runs_58 (mm_call_m _) (fun z => absurd z hpos) (fun _ z => absurd rfl z) (fun _ _ => v62) (fun _ _ => v62) (fun _ _ a => ?_) (fun _ _ a => ?_) (fun _ _ a => ?_) (fun _ _ a => bk_X12_runs_184 (mm_call_m _) ?_) (fun _ _ a b c e => bk_X12_runs_184 (mm_call_m _) ?_) <;> rw [e62, ek] at a <;> rw [e62, ek, h222]
  · exact h0 a
  · exact h1 a
  · exact h2 a
  · exact h3 a
  · rw [e62, ek] at b c e
    exact h4 a b c e
/-- a run ends badly -/
theorem end58 {w : mm_P} {x : Int32} {x2 : Option mm_V} (hx : ¬ x = 0) (hK : mm_WQ (mm_call mm_ms (mm_tb L xs) (d + 3)) (mm_tb L xs) mm_m228 lim Q 187 [some (mm_R 176), some (mm_I x), x2] [] w ml) : mm_WQ (mm_call mm_ms (mm_tb L xs) (d + 3)) (mm_tb L xs) mm_m228 lim Q 58 [some (mm_R 176), some (mm_I x), x2] [] w ml :=
  bk_X12_runs_58 (mm_call_m _) (fun _ => hK) (fun _ _ => hK) (fun _ z => absurd z hx) (fun _ z => absurd z hx) (fun _ z => absurd z hx) (fun _ z => absurd z hx) (fun _ z => absurd z hx) (fun _ z => absurd z hx) (fun _ z => absurd z hx)
theorem run_R {NB ND NF s : Nat} {m : mm_P} (hI : IM m NB ND NF) (hJ : JO NB ND NF m)
    (hK0 : ∀ w x x2, RF m w → w 176 51 = 0 → ¬ x = 0 → mm_WQ (mm_call mm_ms (mm_tb L xs) (d + 3)) (mm_tb L xs) mm_m228 lim Q 187 [some (mm_R 176), some (mm_I x), x2] [] w ml)
    (hK1 : ∀ w h y x2, RF m w → h < 6000 → y < NB → m 196 0 = nI y → SVt m sAny sAny y (w 212) (w 213) h (w 224 0) → mm_WQ (mm_call mm_ms (mm_tb L xs) (d + 3)) (mm_tb L xs) mm_m228 lim Q 187 [some (mm_R 176), some (mm_I 0), x2] [] w ml)
    (hE : ∀ {w : mm_P} {k v h op f : Nat} {wf : mm_P} {TY : Nat} {SA SB : ST} {n : Nat} {x2 : Option mm_V}, EV NB ND NF m w k v h s op f wf TY SA SB n → mm_WQ (mm_call mm_ms (mm_tb L xs) (d + 3)) (mm_tb L xs) mm_m228 lim Q 58 [some (mm_R 176), some (mm_I 0), x2] [] w ml) :
    ∀ (k : Nat) {w : mm_P} {v h op f : Nat} {wf : mm_P} {TY : Nat} {SA SB S : ST} {x2 : Option mm_V}, RE NB ND NF m w k v h s op f wf TY SA SB S → mm_WQ (mm_call mm_ms (mm_tb L xs) (d + 3)) (mm_tb L xs) mm_m228 lim Q 58 [some (mm_R 176), some (mm_I 0), x2] [] w ml := by
  have hND := hI.1.2.1
  have hNF := hI.1.2.2
  intro k
  induction k with
  | zero =>
    intro w v h op f wf TY SA SB S x2 hR
    obtain ⟨hB, ⟨h62, h64⟩, hS, hh, hw⟩ := hR
    unfold WA at hw
    obtain ⟨rfl, rfl, y, y1, y2, rfl⟩ := hw
    have hle : w 176 62 ≤ 0 := by rw [h62]; decide
    have hs := hB.2.2.1.2
    exact bk_X12_runs_58 (mm_call_m _) (fun _ => hK1 w h y _ hB.1 (by omega) y1 y2 hS) (fun z => absurd hle z) (fun z => absurd hle z) (fun z => absurd hle z) (fun z => absurd hle z) (fun z => absurd hle z) (fun z => absurd hle z) (fun z => absurd hle z) (fun z => absurd hle z)
  | succ k ih =>
    intro w v h op f wf TY SA SB S x2 hR
    obtain ⟨hB, ⟨h62, h64⟩, hS, hh, hw⟩ := hR
    have hv := WA_v (k + 1) hw
    unfold WA at hw
    obtain ⟨n, n1, n2, hc⟩ := hw
    obtain ⟨hp, h43, ⟨h48, hs⟩, ⟨h66, hop1, hop2⟩, hAC, hm, hAR, h51⟩ := id hB
    have hok := hI.2.2.2.2.1 n n1
    have hrow : ∀ c, 188 ≤ c → c ≤ 197 → ∀ i, w c i = m c i := fun c a b i => hp.1 c i (by omega) (by omega)
    have ek188 := hrow 188 (by decide) (by decide) n
    have hres : ∀ {w' : mm_P} {r : Int32}, mm_WQ (mm_call mm_ms (mm_tb L xs) (d + 3)) (mm_tb L xs) mm_m228 lim Q 58 [some (mm_R 176), some (mm_I r), some (mm_I (nI n))] [] w' ml → mm_WQ (mm_call mm_ms (mm_tb L xs) (d + 3)) (mm_tb L xs) mm_m228 lim Q 138 [some (mm_R 176), some (mm_I 0), some (mm_I (nI n))] [mm_I r] w' ml := fun q => bk_X12_runs_138 (mm_call_m _) (bk_X12_runs_184 (mm_call_m _) q)
    have hre2 : ∀ {w' : mm_P} {r : Int32}, mm_WQ (mm_call mm_ms (mm_tb L xs) (d + 3)) (mm_tb L xs) mm_m228 lim Q 58 [some (mm_R 176), some (mm_I r), some (mm_I (nI n))] [] w' ml → mm_WQ (mm_call mm_ms (mm_tb L xs) (d + 3)) (mm_tb L xs) mm_m228 lim Q 147 [some (mm_R 176), some (mm_I 0), some (mm_I (nI n))] [mm_I r] w' ml := fun q => bk_X12_runs_147 (mm_call_m _) (bk_X12_runs_184 (mm_call_m _) q)
    rcases hc with ⟨i1, i2, hc⟩ | ⟨i1, op', f', wf', TY', SA', SB', i2, i3, i4, i5, i6, i7, i8, i9, i10⟩
    · have hdep := hok.2.1
      have hk : k + 1 < 400 := by omega
      rcases hc with ⟨j1, j2, j3, j4⟩ | ⟨j1, j2, j3, v', j4, j5, j6⟩ | ⟨j1, j2, j3⟩
      · -- the first part came
        have hv' := WA_v k j4
        refine at58 h62 hk n2 (fun z => absurd (j1.symm.trans z) (by decide)) (fun _ => ?_) (fun z => absurd (j1.symm.trans z) (by decide)) (fun z => absurd (j1.symm.trans z) (by decide)) (fun _ z => absurd j1 z)
        have hcell : ∀ (w1 : mm_P), AG k v h op w w1 → w1 176 64 = nI v → w1 176 43 = nI h → w1 176 48 = nI s → w1 176 66 = nI op → ∀ x, NW wf SA SB (nI n) (w 212) (w 213) h x → mm_WQ (mm_call mm_ms (mm_tb L xs) (d + 3)) (mm_tb L xs) mm_m228 lim Q 58 [some (mm_R 176), some (mm_I 0), some (mm_I (nI n))] [] (Wg w1 v k x) ml := fun w1 ag a64 a43 a48 a66 x hx => by
          have ag' : AG k v h op w (Wg w1 v k x) := fun c i a b e f g h' j => (Wg_o (by omega) (by omega) (by omega)).trans (ag c i a b e f g h' j)
          have b43 : Wg w1 v k x 176 43 = nI h := (Wg_o (by omega) (by omega) (by omega)).trans a43
          have b48 : Wg w1 v k x 176 48 = nI s := (Wg_o (by omega) (by omega) (by omega)).trans a48
          have b66 : Wg w1 v k x 176 66 = nI op := (Wg_o (by omega) (by omega) (by omega)).trans a66
          refine ih (v := v) (h := h) (op := op) (f := f) (wf := wf) (TY := TY) (SA := SA) (SB := SB) (S := NW wf SA SB (nI n)) ⟨AG_BS ag' (Nat.le_refl _) (Nat.le_refl _) b43 b48 hs b66 hB, ⟨Wg_v.2.2, Wg_v.2.1⟩, ?_, by omega, AG_WA ag' (Nat.le_refl _) k (Nat.le_refl _) (Nat.le_refl _) (by omega) hm j4⟩
          rw [Wg_v.1]
          exact HX_s (NW_m hm.1 hm.2 _) (Nat.le_refl _) (AG_HX ag') hx
        have agt : AG k v h op w (mm_u w 176 64 (nI v)) := fun c i a b e f g h' j => mm_u_o (by omega)
        have hgive : ∀ x, NW wf SA SB (nI n) (w 212) (w 213) h x → mm_WQ (mm_call mm_ms (mm_tb L xs) (d + 3)) (mm_tb L xs) mm_m228 lim Q 58 [some (mm_R 176), some (mm_I 0), some (mm_I (nI n))] [] (Wg (mm_u w 176 64 (nI v)) v k x) ml := hcell _ agt mm_u_s ((mm_u_f (by decide)).trans h43) ((mm_u_f (by decide)).trans h48) ((mm_u_f (by decide)).trans h66)
        -- a node begins in the same function
        have hbeg : ∀ (w1 : mm_P) (p v1 : Nat) (st : Int32), v ≤ v1 → p < ND → IB ND m f p → (m 193 p).toInt < (m 193 n).toInt → AG k v1 h op w w1 → w1 176 62 = w 176 62 → w1 176 64 = nI v1 → w1 176 43 = nI h → w1 176 48 = nI s → w1 176 66 = nI op → w1 222 k = nI n → w1 223 k = st → (∀ w2, (∀ c i, ¬ (c = 222 ∧ i = k + 1) → ¬ (c = 223 ∧ i = k + 1) → ¬ (c = 176 ∧ i = 62) → w2 c i = w1 c i) → AG k v1 h op w w2 → WA NB ND NF m w2 h (k + 1) v1 op f wf SA SB (NW wf SA SB (nI p))) → mm_WQ (mm_call mm_ms (mm_tb L xs) (d + 3)) (mm_tb L xs) mm_m228 lim Q 58 [some (mm_R 176), some (mm_I 0), some (mm_I (nI n))] [] (Wb w1 (k + 1) (nI p)) ml := fun w1 p v1 st hv1 p1 p2 p3 ag a62 a64 a43 a48 a66 a222 a223 hwa => by
          have ag' : AG k v1 h op w (Wb w1 (k + 1) (nI p)) := fun c i a b e f g h' j => (Wb_o (by omega) (by omega) (by omega)).trans (ag c i a b e f g h' j)
          have hq : ∀ {c i}, ¬ (c = 222 ∧ i = k + 1) → ¬ (c = 223 ∧ i = k + 1) → ¬ (c = 176 ∧ i = 62) → Wb w1 (k + 1) (nI p) c i = w1 c i := fun a b c => Wb_o a b c
          exact hE (k := k + 1) (v := v1) (h := h) (op := op) (f := f) (wf := wf) (TY := TY) (SA := SA) (SB := SB) (n := p) ⟨AG_BS ag' (Nat.le_refl _) (Nat.le_refl _) ((hq (by omega) (by omega) (by omega)).trans a43) ((hq (by omega) (by omega) (by omega)).trans a48) hs ((hq (by omega) (by omega) (by omega)).trans a66) hB, ⟨Wb_v.2.2, (hq (by omega) (by omega) (by omega)).trans a64⟩, ⟨Wb_v.1, Wb_v.2.1⟩, ⟨p1, p2, by omega⟩, by omega, hwa _ (fun c i a b e => Wb_o a b e) ag'⟩
        refine sp_goesOn h62 hk h64 (by omega) h66 hop2 (by omega) (by rw [ek188]; exact hok.1) (by rw [ek188]; exact j2) (fun z => ?_) (fun z x hx => ?_) (fun z => ?_) (fun z => ?_) (fun z x => ?_) (fun z zn => ?_) (fun z zn => ?_) (hres (end58 (by decide) (hK0 _ _ _ (RF_u hp (by omega)) ((mm_u_f (by decide)).trans h51) (by decide)))) (fun z => ?_)
        · -- two parts: the second begins
          rw [ek188] at z
          have hk14 : ¬ m 188 n = 14 := fun q => by
            rw [q] at z
            exact absurd z (by decide)
          have z2 : (f_parts (m 188 n)).toInt = 2 := by rw [z]; rfl
          obtain ⟨p, p1, p2, p3⟩ := f_part_r (i := 1) hok (by decide) (by rw [z2]; decide)
          have hib := IB_part (i := 1) i1 n1 (by decide) (by rw [z2]; decide)
          rw [p2, nI_clamp (by omega)] at hib
          have e190 : f_part m n 1 = m 190 n := by
            unfold f_part
            rw [if_neg hk14, if_neg (by decide), if_pos rfl]
          have e189 : f_part m n 0 = m 189 n := by
            unfold f_part
            rw [if_neg hk14, if_pos rfl]
          have e190' : w 190 n = nI p := (hrow 190 (by decide) (by decide) n).trans (e190.symm.trans p2)
          rw [e190']
          refine hres (hbeg (mm_u w 223 k 2) p (v + 1) 2 (by omega) (by omega) hib p3 (fun c i a b e f g h' j => mm_u_o (by omega)) (mm_u_e (by decide)) ((mm_u_e (by decide)).trans h64) ((mm_u_e (by decide)).trans h43) ((mm_u_e (by decide)).trans h48) ((mm_u_e (by decide)).trans h66) ((mm_u_e (by decide)).trans n2) mm_u_s (fun w2 hw2 ag2 => ?_))
          unfold WA
          refine ⟨n, n1, (hw2 222 k (by omega) (by omega) (by omega)).trans ((mm_u_e (by decide)).trans n2), .inl ⟨i1, i2, .inr (.inl ⟨(hw2 223 k (by omega) (by omega) (by omega)).trans mm_u_s, z, ?_, v, rfl, ?_, AG_WA ag2 (Nat.le_refl _) k (Nat.le_refl _) (by omega) (by omega) hm j4⟩)⟩⟩
          · rw [← e190, p2]
          · rw [ag2 224 v (by omega) (by omega) (by omega) (by omega) (by omega) (by omega) (by omega), ← e189]
            rw [j3] at hS
            exact HX_s (NW_m hm.1 hm.2 _) (Nat.le_refl _) (AG_HX ag2) hS
        · -- IF
          rw [ek188] at z
          have h3 : (f_parts (m 188 n)).toInt = 3 := by rw [z]; rfl
          have hk14 : ¬ m 188 n = 14 := by rw [z]; decide
          obtain ⟨t1, t2⟩ := ns_5 (SA := SA) (SB := SB) hI hAC i1 z
          have hpart : ∃ p : Nat, x = nI p ∧ p < ND ∧ IB ND m f p ∧ (m 193 p).toInt < (m 193 n).toInt ∧ NW wf SA SB (nI p) = NW wf SA SB (nI n) := by
            rcases hx with hx | hx
            · obtain ⟨p, p1, p2, p3⟩ := f_part_r (i := 1) hok (by decide) (by rw [h3]; decide)
              have hib := IB_part (i := 1) i1 n1 (by decide) (by rw [h3]; decide)
              rw [p2, nI_clamp (by omega)] at hib
              have e190 : f_part m n 1 = m 190 n := by
                unfold f_part
                rw [if_neg hk14, if_neg (by decide), if_pos rfl]
              refine ⟨p, hx.trans ((hrow 190 (by decide) (by decide) n).trans (e190.symm.trans p2)), by omega, hib, p3, ?_⟩
              rw [← t1, ← e190, p2]
            · obtain ⟨p, p1, p2, p3⟩ := f_part_r (i := 2) hok (by decide) (by rw [h3]; decide)
              have hib := IB_part (i := 2) i1 n1 (by decide) (by rw [h3]; decide)
              rw [p2, nI_clamp (by omega)] at hib
              have e191 : f_part m n 2 = m 191 n := by
                unfold f_part
                rw [if_neg hk14, if_neg (by decide), if_neg (by decide)]
              refine ⟨p, hx.trans ((hrow 191 (by decide) (by decide) n).trans (e191.symm.trans p2)), by omega, hib, p3, ?_⟩
              rw [← t2, ← e191, p2]
          obtain ⟨p, rfl, p1, p2, p3, p4⟩ := hpart
          refine hres (hbeg (mm_u (mm_u w 176 64 (nI v)) 223 k 3) p v 3 (by omega) p1 p2 p3 (fun c i a b e f g h' j => by rw [mm_u_o (by omega), mm_u_o (by omega)]) (by rw [mm_u_e (by decide), mm_u_f (by decide)]) (by rw [mm_u_e (by decide), mm_u_s]) (by rw [mm_u_e (by decide), mm_u_f (by decide)]; exact h43) (by rw [mm_u_e (by decide), mm_u_f (by decide)]; exact h48) (by rw [mm_u_e (by decide), mm_u_f (by decide)]; exact h66) (by rw [mm_u_e (by decide), mm_u_e (by decide)]; exact n2) mm_u_s (fun w2 hw2 ag2 => ?_))
          unfold WA
          refine ⟨n, n1, (hw2 222 k (by omega) (by omega) (by omega)).trans (by rw [mm_u_e (by decide), mm_u_e (by decide)]; exact n2), .inl ⟨i1, i2, .inr (.inr ⟨(hw2 223 k (by omega) (by omega) (by omega)).trans mm_u_s, p4, ?_⟩)⟩⟩
          rw [p4]
          exact AG_WA ag2 (Nat.le_refl _) k (Nat.le_refl _) (Nat.le_refl _) (by omega) hm j4
        · -- FIRST
          rw [ek188] at z
          obtain ⟨R, hR⟩ := ns_7 (SA := SA) (SB := SB) hI hAC i1 z
          have e0 : f_part m n 0 = m 189 n := by
            unfold f_part
            rw [if_neg (by rw [z]; decide), if_pos rfl]
          rw [j3, e0, hR] at hS
          obtain ⟨a, a1, a2, a3, a4⟩ := hS
          exact ⟨a, by omega, a2, hres (hgive _ a3)⟩
        · rw [ek188] at z
          obtain ⟨R, hR⟩ := ns_8 (SA := SA) (SB := SB) hI hAC i1 z
          have e0 : f_part m n 0 = m 189 n := by
            unfold f_part
            rw [if_neg (by rw [z]; decide), if_pos rfl]
          rw [j3, e0, hR] at hS
          obtain ⟨a, a1, a2, a3, a4⟩ := hS
          exact ⟨a, by omega, a2, hres (hgive _ a4)⟩
        · rw [ek188] at z
          refine hres (hgive _ ?_)
          rw [ns_any (SA := SA) (SB := SB) hI hAC i1 (.inr (.inr (.inr (.inr z))))]
          trivial
        · rw [ek188] at z
          have hR := ns_12 (SA := SA) (SB := SB) hI hAC i1 z
          have e0 : f_part m n 0 = m 189 n := by
            unfold f_part
            rw [if_neg (by rw [z]; decide), if_pos rfl]
          rw [j3, e0, hR] at hS
          obtain ⟨a, a1, a2, a3, a4⟩ := (sLs_get hS).resolve_left zn
          exact ⟨a, by omega, a2, hres (hgive _ a3)⟩
        · rw [ek188] at z
          obtain ⟨hR, R, hR2⟩ := ns_13 (SA := SA) (SB := SB) hI hAC i1 z
          have e0 : f_part m n 0 = m 189 n := by
            unfold f_part
            rw [if_neg (by rw [z]; decide), if_pos rfl]
          rw [j3, e0, hR, hR2] at hS
          obtain ⟨a, a1, a2, a3, a4⟩ := (sLs_get hS).resolve_left zn
          refine ⟨a, by omega, a2, hres (hgive _ ?_)⟩
          rw [hR2]
          exact a4
        · -- CALL
          rw [ek188] at z
          obtain ⟨g, x, y, t, u, g1, g2, x1, y1, x2', y2', s1, s2⟩ := ns_14 (SA := SA) (SB := SB) hI hAC i1 z
          have e0 : f_part m n 0 = m 190 n := by
            unfold f_part
            rw [if_pos z]
          rw [j3, e0, s1] at hS
          have hug : used m g := hJ.2.2.2 f g hAC.1 hAC.2.2.1 (by omega) ⟨n, n1, i1, z, g2⟩
          obtain ⟨wg, TG, hAG⟩ := AC_of hJ (by omega) hug
          obtain ⟨-, -, -, gp, gT, gt, b, b1, b2, b3⟩ := id hAG
          refine ⟨g, by omega, (hrow 189 (by decide) (by decide) n).trans g2, fun hop30 y' => ?_, hres (end58 (by decide) (hK0 _ _ _ (RF_u (RF_u hp (by omega)) (by omega)) (by rw [mm_u_e (by decide), mm_u_f (by decide)]; exact h51) (by decide)))⟩
          have e197 : w 197 g = nI b := (hrow 197 (by decide) (by decide) g).trans b2
          rw [e197]
          have hib : IB ND m g b := fun P h1 _ => h1 b b1 b2
          have hdb := (hI.2.2.2.2.1 b b1).2.1
          have hm' : mST (SVt wf SA SB t) ∧ mST (SVt wf SA SB u) := ⟨SVt_m hm.1 hm.2 _, SVt_m hm.1 hm.2 _⟩
          have ag : AG k v h op w (Wb (mm_u (mm_u (mm_u (mm_u (mm_u w 176 64 (nI v)) 223 k 4) 225 op (w 224 v)) 176 66 (nI (op + 1))) 176 50 y') (k + 1) (nI b)) := fun c i a b e f g h' j => by
            rw [Wb_o (by omega) (by omega) (by omega), mm_u_o (by omega), mm_u_o (by omega), mm_u_o (by omega), mm_u_o (by omega), mm_u_o (by omega)]
          have hq : ∀ c i, ¬ (c = 222 ∧ i = k + 1) → ¬ (c = 223 ∧ i = k + 1) → ¬ (c = 223 ∧ i = k) → ¬ (c = 225 ∧ i = op) → ¬ (c = 176 ∧ (i = 50 ∨ i = 62 ∨ i = 64 ∨ i = 66)) → Wb (mm_u (mm_u (mm_u (mm_u (mm_u w 176 64 (nI v)) 223 k 4) 225 op (w 224 v)) 176 66 (nI (op + 1))) 176 50 y') (k + 1) (nI b) c i = w c i := fun c i a b e f g => by
            rw [Wb_o (by omega) (by omega) (by omega), mm_u_o (by omega), mm_u_o (by omega), mm_u_o (by omega), mm_u_o (by omega), mm_u_o (by omega)]
          have q64 : Wb (mm_u (mm_u (mm_u (mm_u (mm_u w 176 64 (nI v)) 223 k 4) 225 op (w 224 v)) 176 66 (nI (op + 1))) 176 50 y') (k + 1) (nI b) 176 64 = nI v := by
            rw [Wb_o (by omega) (by omega) (by omega), mm_u_o (by omega), mm_u_o (by omega), mm_u_o (by omega), mm_u_o (by omega), mm_u_s]
          have q66 : Wb (mm_u (mm_u (mm_u (mm_u (mm_u w 176 64 (nI v)) 223 k 4) 225 op (w 224 v)) 176 66 (nI (op + 1))) 176 50 y') (k + 1) (nI b) 176 66 = nI (op + 1) := by
            rw [Wb_o (by omega) (by omega) (by omega), mm_u_o (by omega), mm_u_s]
          have q225 : Wb (mm_u (mm_u (mm_u (mm_u (mm_u w 176 64 (nI v)) 223 k 4) 225 op (w 224 v)) 176 66 (nI (op + 1))) 176 50 y') (k + 1) (nI b) 225 op = w 224 v := by
            rw [Wb_o (by omega) (by omega) (by omega), mm_u_o (by omega), mm_u_o (by omega), mm_u_s]
          have q223 : Wb (mm_u (mm_u (mm_u (mm_u (mm_u w 176 64 (nI v)) 223 k 4) 225 op (w 224 v)) 176 66 (nI (op + 1))) 176 50 y') (k + 1) (nI b) 223 k = 4 := by
            rw [Wb_o (by omega) (by omega) (by omega), mm_u_o (by omega), mm_u_o (by omega), mm_u_o (by omega), mm_u_s]
          have hNB := hI.1.1.2
          have hnb : NW wg (SVt wf SA SB t) (SVt wf SA SB u) (nI b) = NW wf SA SB (nI n) := by
            rw [nwn (r := y) (b3.trans y2') (by omega) (by omega), s2]
            exact SVt_c (TW_I hI) (fun t ht c a b => AC_t hI hAG ht a b) y1
          refine hres (hE (k := k + 1) (v := v) (h := h) (op := op + 1) (f := g) (wf := wg) (TY := TG) (SA := SVt wf SA SB t) (SB := SVt wf SA SB u) (n := b) ⟨⟨AG_RF ag hp, (hq 176 43 (by omega) (by omega) (by omega) (by omega) (by omega)).trans h43, ⟨(hq 176 48 (by omega) (by omega) (by omega) (by omega) (by omega)).trans h48, hs⟩, ⟨q66, by omega, by omega⟩, hAG, hm', ⟨x, x1, x2', ?_⟩, (hq 176 51 (by omega) (by omega) (by omega) (by omega) (by omega)).trans h51⟩, ⟨Wb_v.2.2, q64⟩, ⟨Wb_v.1, Wb_v.2.1⟩, ⟨b1, hib, by omega⟩, by omega, ?_⟩)
          · rw [show op + 1 - 1 = op by omega, q225]
            exact HX_s (SVt_m hm'.1 hm'.2 x) (Nat.le_refl _) (AG_HX ag) hS
          · unfold WA
            refine ⟨n, n1, (hq 222 k (by omega) (by omega) (by omega) (by omega) (by omega)).trans n2, .inr ⟨q223, op, f, wf, TY, SA, SB, rfl, hop1, hAC, hm, AG_AR ag (Nat.le_refl _) hop1 (Nat.le_refl _) hm hAR, i1, i2, hnb, ?_⟩⟩
            rw [hnb]
            exact AG_WA ag (Nat.le_refl _) k (Nat.le_refl _) (Nat.le_refl _) (by omega) hm j4
      · -- both parts came
        subst j4
        have hv' := WA_v k j6
        refine at58 h62 hk n2 (fun z => absurd (j1.symm.trans z) (by decide)) (fun z => absurd (j1.symm.trans z) (by decide)) (fun _ => ?_) (fun z => absurd (j1.symm.trans z) (by decide)) (fun _ _ z => absurd j1 z)
        have ag0 : AG k v' h op w (mm_u (mm_u w 176 64 (nI (v' + 1))) 176 64 (nI v')) := fun c i a b e f g h' j => by rw [mm_u_o (by omega), mm_u_o (by omega)]
        have hfin : ∀ (w1 : mm_P) (x : Int32) (h1 : Nat), h ≤ h1 → h1 ≤ h + 1 → AG k v' h op w w1 → w1 176 43 = nI h1 → w1 176 48 = nI s → w1 176 66 = nI op → NW wf SA SB (nI n) (w1 212) (w1 213) h1 x → mm_WQ (mm_call mm_ms (mm_tb L xs) (d + 3)) (mm_tb L xs) mm_m228 lim Q 58 [some (mm_R 176), some (mm_I 0), some (mm_I (nI n))] [] (Wg w1 v' k x) ml := fun w1 x h1 l1 l2 ag a43 a48 a66 hx => by
          have ag' : AG k v' h op w (Wg w1 v' k x) := fun c i a b e f g h' j => (Wg_o (by omega) (by omega) (by omega)).trans (ag c i a b e f g h' j)
          refine ih (v := v') (h := h1) (op := op) (f := f) (wf := wf) (TY := TY) (SA := SA) (SB := SB) (S := NW wf SA SB (nI n)) ⟨AG_BS ag' l1 (Nat.le_refl _) ((Wg_o (by omega) (by omega) (by omega)).trans a43) ((Wg_o (by omega) (by omega) (by omega)).trans a48) hs ((Wg_o (by omega) (by omega) (by omega)).trans a66) hB, ⟨Wg_v.2.2, Wg_v.2.1⟩, ?_, by omega, AG_WA ag' l1 k (Nat.le_refl _) (Nat.le_refl _) (by omega) hm j6⟩
          rw [Wg_v.1]
          exact HX_s (NW_m hm.1 hm.2 _) (Nat.le_refl _) (HX_e (fun _ => Wg_o (by omega) (by omega) (by omega)) (fun _ => Wg_o (by omega) (by omega) (by omega))) hx
        refine sp_both h62 hk h64 (by omega) h43 (by omega) (by omega) (fun z x => ?_) (fun z3 z4 w3 hw3 => ?_) (hre2 (end58 (by decide) (hK0 _ _ _ (AG_RF ag0 hp) ((ag0 176 51 (by omega) (by omega) (by omega) (by omega) (by omega) (by omega) (by omega)).trans h51) (by decide))))
        · rw [ek188] at z
          refine hre2 (hfin _ x h (Nat.le_refl _) (by omega) ag0 (by rw [mm_u_f (by decide), mm_u_f (by decide)]; exact h43) (by rw [mm_u_f (by decide), mm_u_f (by decide)]; exact h48) (by rw [mm_u_f (by decide), mm_u_f (by decide)]; exact h66) ?_)
          rw [ns_any (SA := SA) (SB := SB) hI hAC i1 (by rcases z with z | z; exact .inr (.inr (.inl z)); exact .inr (.inr (.inr (.inl z))))]
          trivial
        · rw [ek188] at z3 z4
          have e3 : ∀ c i, ¬ (c = 176 ∧ (i = 64 ∨ i = 49)) → w3 c i = w c i := fun c i q => by
            rcases hw3 with rfl | ⟨y, rfl⟩
            · rw [mm_u_o (by omega), mm_u_o (by omega)]
            · rw [mm_u_o (by omega), mm_u_o (by omega), mm_u_o (by omega)]
          have ag1 : AG k v' h op w (Wc w3 h (w 224 v') (w 224 (v' + 1))) := fun c i a b e f g h' j => (Wc_o (by omega) (by omega) (by omega)).trans (e3 c i (by omega))
          refine hre2 (hfin _ (nI h) (h + 1) (by omega) (by omega) ag1 Wc_v.2.2 ((Wc_o (by omega) (by omega) (by omega)).trans ((e3 176 48 (by omega)).trans h48)) ((Wc_o (by omega) (by omega) (by omega)).trans ((e3 176 66 (by omega)).trans h66)) ?_)
          have x1 : NW wf SA SB (m 189 n) (Wc w3 h (w 224 v') (w 224 (v' + 1)) 212) (Wc w3 h (w 224 v') (w 224 (v' + 1)) 213) (h + 1) (w 224 v') := HX_s (NW_m hm.1 hm.2 _) (by omega) (AG_HX ag1) j5
          rw [j3] at hS
          have x2 : NW wf SA SB (m 190 n) (Wc w3 h (w 224 v') (w 224 (v' + 1)) 212) (Wc w3 h (w 224 v') (w 224 (v' + 1)) 213) (h + 1) (w 224 (v' + 1)) := HX_s (NW_m hm.1 hm.2 _) (by omega) (AG_HX ag1) hS
          have hk6 : m 188 n = 6 ∨ m 188 n = 10 := by
            have hr := hok.1
            obtain ⟨q, eq, q2, -, -⟩ := mm_of (n := 15) hr.1 (by omega)
            rw [eq] at j2 z3 z4 ⊢
            rcases (show q = 0 ∨ q = 1 ∨ q = 2 ∨ q = 3 ∨ q = 4 ∨ q = 5 ∨ q = 6 ∨ q = 7 ∨ q = 8 ∨ q = 9 ∨ q = 10 ∨ q = 11 ∨ q = 12 ∨ q = 13 ∨ q = 14 by omega) with rfl | rfl | rfl | rfl | rfl | rfl | rfl | rfl | rfl | rfl | rfl | rfl | rfl | rfl | rfl
            all_goals first
              | exact .inl rfl
              | exact .inr rfl
              | exact absurd rfl z3
              | exact absurd rfl z4
              | exact absurd j2 (by decide)
          rcases hk6 with k6 | k10
          · rw [ns_6 (SA := SA) (SB := SB) hI hAC i1 k6]
            refine ⟨h, by omega, rfl, ?_, ?_⟩
            · rw [Wc_v.1]
              exact x1
            · rw [Wc_v.2.1]
              exact x2
          · obtain ⟨s1, s2⟩ := ns_10 (SA := SA) (SB := SB) hI hAC i1 k10
            rw [s2, s1] at x2
            rw [s1]
            refine sLs_link (by omega) ?_ ?_
            · rw [Wc_v.1]
              exact x1
            · rw [Wc_v.2.1]
              exact x2
      · -- the branch of an IF came
        refine at58 h62 hk n2 (fun z => absurd (j1.symm.trans z) (by decide)) (fun z => absurd (j1.symm.trans z) (by decide)) (fun z => absurd (j1.symm.trans z) (by decide)) (fun _ => ?_) (fun _ _ _ z => absurd j1 z)
        have ag : AG (k + 1) (v + 1) h op w (mm_u w 176 62 (nI k)) := fun c i a b e f g h' j => mm_u_o (by omega)
        exact ih (v := v) (h := h) (op := op) (f := f) (wf := wf) (TY := TY) (SA := SA) (SB := SB) (S := S) ⟨AG_BS ag (Nat.le_refl _) (Nat.le_refl _) ((mm_u_f (by decide)).trans h43) ((mm_u_f (by decide)).trans h48) hs ((mm_u_f (by decide)).trans h66) hB, ⟨mm_u_s, (mm_u_f (by decide)).trans h64⟩, hS, by omega, AG_WA ag (Nat.le_refl _) k (by omega) (by omega) (by omega) hm j3⟩
    · -- a called function is done
      subst i2
      have hdep := hok.2.1
      have hk : k + 1 < 400 := by omega
      refine at58 h62 hk n2 (fun z => absurd (i1.symm.trans z) (by decide)) (fun z => absurd (i1.symm.trans z) (by decide)) (fun z => absurd (i1.symm.trans z) (by decide)) (fun z => absurd (i1.symm.trans z) (by decide)) (fun _ _ _ _ => ?_)
      rw [h66, mm_dec' op' (by omega)]
      have ag : AG (k + 1) (v + 1) h op' w (mm_u (mm_u w 176 66 (nI op')) 176 62 (nI k)) := fun c i a b e f g h' j => by rw [mm_u_o (by omega), mm_u_o (by omega)]
      exact ih (v := v) (h := h) (op := op') (f := f') (wf := wf') (TY := TY') (SA := SA') (SB := SB') (S := S) ⟨⟨AG_RF ag hp, by rw [mm_u_f (by decide), mm_u_f (by decide)]; exact h43, ⟨by rw [mm_u_f (by decide), mm_u_f (by decide)]; exact h48, hs⟩, ⟨by rw [mm_u_f (by decide), mm_u_s], i3, by omega⟩, i4, i5, AG_AR ag (Nat.le_refl _) i3 (Nat.le_refl _) i5 i6, by rw [mm_u_f (by decide), mm_u_f (by decide)]; exact h51⟩, ⟨mm_u_s, by rw [mm_u_f (by decide), mm_u_f (by decide)]; exact h64⟩, hS, by omega, AG_WA ag (Nat.le_refl _) k (by omega) (by omega) (by omega) i5 i10⟩
end MMT
