/-! ===== the machine with letters is the evaluator: the walk ===== -/
section MMT
variable {L : Nat} {xs : Nat → Int32} {d : Nat} {ml : mm_G} {NB ND NF : Nat} {m : mm_P} {C : Nat → mm_P → Prop}
theorem cl_ev (hturn : ∀ T w k, T < 100000 → k < 600 → w 164 10 = nI (k + 1) → w 162 5 = 0 → mm_cq (mm_call mm_ms (mm_tb L xs) (d + 7)) 69 [mm_R 164] w ml (fun o a b => o = none ∧ b = ml ∧ C (T + 1) a) → C T w) (hI : IM m NB ND NF) (hT1 : m 1 1 = nI NB) (hN : NC ND m) (hF : FC NF m ml) (hJ : JO NB ND NF m) (hTR : ∀ n, n < ND → m 188 n = 1 → m 189 n = 0 ∨ m 189 n = 1) : ∀ j, CLS C NB ND NF m j := by
  have hND := hI.1.2.1
  have hNF := hI.1.2.2
  have hNB := hI.1.1.2
  have hKW : ∀ (w1 : mm_P), (∀ c i, c < 160 → w1 c i = m c i) → KW NB ND NF w1 := fun w1 h => ⟨⟨(h 1 1 (by decide)).trans hT1, (h 3 5 (by decide)).trans hN.1, (h 9 7 (by decide)).trans hF.1⟩, hNB, hND, hNF⟩
  have hOK : ∀ (w1 : mm_P) n, n < ND → (∀ c i, c < 160 → w1 c i = m c i) → okK NB w1 n := fun w1 n hn h => okK_e (okK_of hI hN hn) (fun c i q => h c i (by omega))
  have hKP : ∀ (w1 : mm_P) n i, (∀ c i, c < 160 → w1 c i = m c i) → k_part w1 n i = k_part m n i := fun w1 n i h => by
    unfold k_part
    rw [h 4 n (by decide), h 6 _ (by decide), h 6 _ (by decide)]
  intro j
  induction j with
  | zero =>
    intro w k t o s l T A B h φ K f wf TY SA SB n arg hW h166 h167 hpre hK1 hK0
    obtain ⟨-, -, -, -, -, -, ⟨n1, -⟩, hj⟩ := hpre
    have := (hI.2.2.2.2.1 n n1).2.1
    omega
  | succ j ih =>
    intro w k t o s l T A B h φ K f wf TY SA SB n arg hW h166 h167 hpre hK1 hK0
    obtain ⟨ho, ⟨hs, hl, hh, hT⟩, hLP, hAC, hm, hARG, ⟨n1, hib, hd, htk⟩, hj⟩ := hpre
    obtain ⟨q1, q2, ⟨q3, q4, q5, q6⟩, q7, q8, q9, q10⟩ := id hW
    have hok := hI.2.2.2.2.1 n n1
    have hdep := hok.2.1
    have k4 : m 4 n = m 188 n := (hN.2 n n1).1
    have w4 : w 4 n = m 188 n := (q1 4 n (by decide)).trans k4
    obtain ⟨o', eo⟩ : ∃ o', o = o' + 1 := ⟨o - 1, by omega⟩
    have hs6 : ¬ s = 600 := by omega
    have ht4 : t < 4096 := by omega
    -- turns of this node
    have hW1 : ∀ (v : Int32), WC m (mm_u w 167 k v) K t (4096 + 2 * h) (k + 1) o (s + 1) l := fun v => ⟨fun c i q => (mm_u_e (by omega)).trans (q1 c i q), fun i => (mm_u_e (by decide)).trans (q2 i), ⟨(mm_u_e (by decide)).trans q3, (mm_u_e (by decide)).trans q4, (mm_u_e (by decide)).trans q5, (mm_u_e (by decide)).trans q6⟩, (mm_u_e (by decide)).trans q7, (mm_u_e (by decide)).trans q8, (mm_u_e (by decide)).trans q9, (mm_u_e (by decide)).trans q10⟩
    have hCG1 : ∀ (v : Int32), CG k t (4096 + 2 * h) o w (mm_u w 167 k v) := fun v c i a1 a2 a3 a4 a5 a6 a7 => mm_u_o (by omega)
    have hlow : ∀ (v : Int32) c i, c < 160 → mm_u w 167 k v c i = m c i := fun v => (hW1 v).1
    -- the first part
    have hfirst : ∀ (D : Nat), 1 ≤ (f_parts (m 188 n)).toInt → (∀ x A2 B2 h2 s2 l2 K2 φ2 w3 T2, ev m (j + 1) arg n A B h s l o = ev2 m (ev m j) arg n x A2 B2 h2 s2 l2 o → ZG A B h (s + 1) o A2 B2 h2 s2 l2 o → WC m w3 K2 (t + 1) (4096 + 2 * h2) (k + 1) o s2 l2 → CG k t (4096 + 2 * h) o w w3 → w3 166 k = nI n → w3 167 k = nI 1 → LE A B h K φ A2 B2 h2 K2 φ2 → LHP h2 (4096 + 2 * h2) φ2 → NG gL wf SA SB (f_part m n 0) A2 B2 h2 K2 φ2 x (K2 t) → T2 ≤ T + 1 + 4 * (s2 - (s + 1)) → C T2 w3) → mm_cq (mm_call mm_ms (mm_tb L xs) (D + 2)) 68 [mm_R 164, mm_I (k_part m n 0)] (mm_u w 167 k (nI (0 + 1))) ml (fun o a b => o = none ∧ b = ml ∧ C (T + 1) a) := fun D hp1 hK => by
      have h0 : ¬ m 188 n = 0 := fun q => by rw [q] at hp1; exact absurd hp1 (by decide)
      have h1 : ¬ m 188 n = 1 := fun q => by rw [q] at hp1; exact absurd hp1 (by decide)
      have h2 : ¬ m 188 n = 2 := fun q => by rw [q] at hp1; exact absurd hp1 (by decide)
      have h9 : ¬ m 188 n = 9 := fun q => by rw [q] at hp1; exact absurd hp1 (by decide)
      obtain ⟨p, p1, p2, p3⟩ := f_part_r (i := 0) hok (by decide) (by rw [mm_tt0]; omega)
      have hibp := IB_part (i := 0) hib n1 (by decide) (by rw [mm_tt0]; omega)
      rw [p2, nI_clamp (by omega)] at hibp
      have epm : (f_part m n 0).toNatClampNeg = p := by rw [p2]; exact nI_clamp (by omega)
      have hdp := (hI.2.2.2.2.1 p (by omega)).2.1
      rw [show k_part m n 0 = nI p from (kp_fp hN n1 (by decide) (by omega)).trans p2]
      refine cl_bg (d := D) (f := f) (wf := wf) (TY := TY) (SA := SA) (SB := SB) (φ := φ) (A := A) (B := B) (arg := arg) hI ih (hW1 (nI (0 + 1))) (by omega) (by omega) (fun h6 w2 e169 => ?_) (by omega) (by omega) (by omega) (fun h6 w2 hCG2 => ?_) ?_
      · obtain ⟨x, b, x1, x2, x3, x4, x5⟩ := hARG
        exact ⟨ho, ⟨h6, hl, by omega, by omega⟩, hLP, hAC, hm, ⟨x, b, x1, x2, e169.trans ((mm_u_e (by decide)).trans x3), x4, x5⟩, ⟨by omega, hibp, by omega, by omega⟩, by omega⟩
      · intro x A2 B2 h2' s2 l2 o2 K2 φ2 w3 T2 he hG hW3 hCG3 hLE hLP2 hty hT2
        have ho2 : o2 = o := hG.2.2.2.1
        subst ho2
        have cg13 := CG_t hCG2 hCG3 (Nat.le_refl _) (Nat.le_refl _) (Nat.le_refl _) (Nat.le_refl _)
        refine hK x A2 B2 h2' s2 l2 K2 φ2 w3 T2 ?_ hG hW3 (CG_t (hCG1 _) cg13 (by omega) (Nat.le_refl _) (Nat.le_refl _) (Nat.le_refl _)) ((cg13 166 k (by omega) (by omega) (by omega) (by omega) (by omega) (by decide) (by decide)).trans ((mm_u_e (by decide)).trans h166)) ((cg13 167 k (by omega) (by omega) (by omega) (by omega) (by omega) (by decide) (by decide)).trans mm_u_s) hLE hLP2 ?_ hT2
        · rw [← epm] at he
          rw [ev_n hs6 h0 h1 h2 h9 he, if_pos rfl]
        · rw [p2]
          exact hty
      · intro e x A2 B2 h2' s2 l2 o2 w3 T2 he hne e0 e5 e1 hT2
        refine hK0 e x A2 B2 h2' s2 l2 o2 w3 T2 ?_ hne e0 e5 e1 hT2
        rw [← epm] at he
        rw [ev_n hs6 h0 h1 h2 h9 he, if_neg hne]
    have hQ : ∀ {D c : Nat} {As : List mm_V} {w1 : mm_P} {T1 : Nat}, mm_cq (mm_call mm_ms (mm_tb L xs) D) c As w1 ml (fun o a b => o = none ∧ b = ml ∧ C T1 a) → mm_cq (mm_call mm_ms (mm_tb L xs) D) c As w1 ml (fun o a b => o = none ∧ ((none : Option mm_V) = none ∧ b = ml ∧ C T1 a)) := fun {D c As w1 T1} hq => mm_cq_m (mm_call_m _) hq (fun o a b ⟨e1, e2, e3⟩ => ⟨e1, rfl, e2, e3⟩)
    have hQ2 : ∀ {D c : Nat} {As : List mm_V} {w1 : mm_P} {T1 : Nat}, mm_cq (mm_call mm_ms (mm_tb L xs) D) c As w1 ml (fun o a b => o = none ∧ b = ml ∧ C T1 a) → mm_cq (mm_call mm_ms (mm_tb L xs) D) c As w1 ml (fun o a b => o = none ∧ ((none : Option mm_V) = none ∧ ((none : Option mm_V) = none ∧ b = ml ∧ C T1 a))) := fun {D c As w1 T1} hq => mm_cq_m (mm_call_m _) hq (fun o a b ⟨e1, e2, e3⟩ => ⟨e1, rfl, rfl, e2, e3⟩)
    refine hturn T w k (by omega) (by omega) q5 q9 (tn_turn (d := d) (τ := 0) (hKW w q1) (hOK w n n1 q1) n1 q5 (by omega) h166 h167 (by decide) (fun z => ?_) (fun z => ?_) (fun z5 z14 zp => ?_) (fun z5 z14 zp => ?_))
    · -- IF
      rw [w4] at z
      refine tn_if (d := d) (t := 0) (k := 0) (hKW _ (hlow _)) (hOK _ n n1 (hlow _)) n1 ((hlow _ 4 n (by decide)).trans (k4.trans z)) (by decide) (fun _ => ?_) (fun y => absurd y (by decide)) (fun y => absurd y (by decide))
      rw [hKP _ n 0 (hlow _)]
      refine hQ2 (hfirst (d + 3) (by rw [z]; decide) (fun x A2 B2 h2 s2 l2 K2 φ2 w3 T2 hev hG hW3 hCG3 e166 e167 hLE hLP2 hty hT2 => ?_))
      obtain ⟨r1, r2, ⟨r3, r4, r5, r6⟩, r7, r8, r9, r10⟩ := id hW3
      obtain ⟨⟨g1, g2⟩, ⟨g3, g4⟩, g5, -, g7⟩ := id hG
      have e0 : f_part m n 0 = m 189 n := by
        unfold f_part
        rw [if_neg (by rw [z]; decide), if_pos rfl]
      rw [e0, ng_5c (G := gL) (SA := SA) (SB := SB) hI hAC hib z] at hty
      replace hty : K2 t = x ∧ (x = 0 ∨ x = 1) := hty
      obtain ⟨t1, t2⟩ := ng_5 (G := gL) (SA := SA) (SB := SB) hI hAC hib z
      refine hturn T2 w3 k (by omega) (by omega) r5 r9 (tn_turn (d := d) (τ := 1) (hKW w3 r1) (hOK w3 n n1 r1) n1 r5 (by omega) e166 e167 (by decide) (fun _ => ?_) (fun y => absurd (((r1 4 n (by decide)).trans (k4.trans z)).symm.trans y) (by decide)) (fun y _ _ => absurd ((r1 4 n (by decide)).trans (k4.trans z)) y) (fun y _ _ => absurd ((r1 4 n (by decide)).trans (k4.trans z)) y))
      have lo3 : ∀ c i, c < 160 → mm_u w3 167 k (nI (1 + 1)) c i = m c i := fun c i q => (mm_u_e (by omega)).trans (r1 c i q)
      -- a branch
      have hbr : ∀ (i : Nat), i < 3 → 1 ≤ i → (if x = 1 then m 190 n else m 191 n) = f_part m n (nI i) → NG gL wf SA SB (f_part m n (nI i)) = NG gL wf SA SB (nI n) → mm_cq (mm_call mm_ms (mm_tb L xs) (d + 5)) 68 [mm_R 164, mm_I (k_part m n i)] (mm_u (mm_u w3 167 k (nI (1 + 1))) 164 8 (nI t)) ml (fun o a b => o = none ∧ b = ml ∧ C (T2 + 1) a) := fun i i3 i1 hsel hng => by
        have hp3 : (i : Int) < (f_parts (m 188 n)).toInt := by
          have : (f_parts (m 188 n)).toInt = 3 := by rw [z]; rfl
          omega
        obtain ⟨q, y1, y2, y3⟩ := f_part_r (i := nI i) hok (by rw [mm_tI (by omega)]; omega) (by rw [mm_tI (by omega)]; exact hp3)
        have hibq := IB_part (i := nI i) hib n1 (by rw [mm_tI (by omega)]; omega) (by rw [mm_tI (by omega)]; exact hp3)
        rw [y2, nI_clamp (by omega)] at hibq
        have hdq := (hI.2.2.2.2.1 q (by omega)).2.1
        have eqm : (if x = 1 then m 190 n else m 191 n).toNatClampNeg = q := by rw [hsel, y2]; exact nI_clamp (by omega)
        rw [y2] at hng
        rw [show k_part m n i = nI q from (kp_fp hN n1 i3 hp3).trans y2]
        have hW4 : WC m (mm_u (mm_u w3 167 k (nI (1 + 1))) 164 8 (nI t)) K2 t (4096 + 2 * h2) (k + 1) o s2 l2 := ⟨fun c i q => (mm_u_e (by omega)).trans (lo3 c i q), fun i => by rw [mm_u_e (by decide), mm_u_e (by decide)]; exact r2 i, ⟨mm_u_s, by rw [mm_u_f (by decide), mm_u_e (by decide)]; exact r4, by rw [mm_u_f (by decide), mm_u_e (by decide)]; exact r5, by rw [mm_u_f (by decide), mm_u_e (by decide)]; exact r6⟩, by rw [mm_u_e (by decide), mm_u_e (by decide)]; exact r7, by rw [mm_u_e (by decide), mm_u_e (by decide)]; exact r8, by rw [mm_u_e (by decide), mm_u_e (by decide)]; exact r9, by rw [mm_u_e (by decide), mm_u_e (by decide)]; exact r10⟩
        have cg4 : CG k t (4096 + 2 * h2) o w3 (mm_u (mm_u w3 167 k (nI (1 + 1))) 164 8 (nI t)) := fun c i a1 a2 a3 a4 a5 a6 a7 => by rw [mm_u_o (by omega), mm_u_o (by omega)]
        have cgw : CG k t (4096 + 2 * h) o w (mm_u (mm_u w3 167 k (nI (1 + 1))) 164 8 (nI t)) := CG_t hCG3 cg4 (Nat.le_refl _) (Nat.le_refl _) (by omega) (Nat.le_refl _)
        refine cl_bg (d := d + 3) (f := f) (wf := wf) (TY := TY) (SA := SA) (SB := SB) (φ := φ2) (A := A2) (B := B2) (arg := arg) hI ih hW4 g2 (by omega) (fun h6 w5 e169 => ?_) (by omega) (by omega) (by omega) (fun h6 w5 hCG5 => ?_) ?_
        · obtain ⟨x0, b, x1, x2, x3, x4, x5⟩ := hARG
          have hKb : K2 b = K b := by
            rw [← r2, ← q2]
            exact hCG3 165 b (by omega) (by omega) (by omega) (by omega) (by omega) (by decide) (by decide)
          have e169' : w3 169 (o - 1) = nI b := (hCG3 169 (o - 1) (by omega) (by omega) (by omega) (by omega) (by omega) (by decide) (by decide)).trans x3
          refine ⟨ho, ⟨h6, g5, by omega, by omega⟩, hLP2, hAC, hm, ⟨x0, b, x1, x2, e169.trans (by rw [mm_u_e (by decide), mm_u_e (by decide)]; exact e169'), x4, ?_⟩, ⟨by omega, hibq, by omega, by omega⟩, by omega⟩
          rw [hKb]
          exact GVt_m hm.1 hm.2 x0 _ _ _ _ _ _ _ _ _ _ hLE _ _ x5
        · intro u A4 B4 h4 s4 l4 o4 K4 φ4 w6 T4 he hG4 hW6 hCG6 hLE4 hLP4 hty4 hT4
          have ho4 : o4 = o := hG4.2.2.2.1
          subst ho4
          obtain ⟨⟨f1, f2⟩, ⟨f3, f4⟩, f5, -, f7⟩ := id hG4
          obtain ⟨v1, v2, ⟨v3, v4, v5, v6⟩, v7, v8, v9, v10⟩ := id hW6
          have cg56 := CG_t hCG5 hCG6 (Nat.le_refl _) (Nat.le_refl _) (Nat.le_refl _) (Nat.le_refl _)
          have e166' : w6 166 k = nI n := (cg56 166 k (by omega) (by omega) (by omega) (by omega) (by omega) (by decide) (by decide)).trans (by rw [mm_u_e (by decide), mm_u_e (by decide)]; exact e166)
          have e167' : w6 167 k = nI 2 := (cg56 167 k (by omega) (by omega) (by omega) (by omega) (by omega) (by decide) (by decide)).trans (by rw [mm_u_e (by decide), mm_u_s])
          refine hturn T4 w6 k (by omega) (by omega) v5 v9 (tn_turn (d := d) (τ := 2) (hKW w6 v1) (hOK w6 n n1 v1) n1 v5 (by omega) e166' e167' (by decide) (fun _ => ?_) (fun y => absurd (((v1 4 n (by decide)).trans (k4.trans z)).symm.trans y) (by decide)) (fun y _ _ => absurd ((v1 4 n (by decide)).trans (k4.trans z)) y) (fun y _ _ => absurd ((v1 4 n (by decide)).trans (k4.trans z)) y))
          have lo6 : ∀ c i, c < 160 → mm_u w6 167 k (nI (2 + 1)) c i = m c i := fun c i q => (mm_u_e (by omega)).trans (v1 c i q)
          refine tn_if (d := d) (t := 0) (k := 0) (hKW _ lo6) (hOK _ n n1 lo6) n1 ((lo6 4 n (by decide)).trans (k4.trans z)) (by decide) (fun y => absurd y (by decide)) (fun y => absurd y (by decide)) (fun _ => ⟨rfl, rfl, rfl, ?_⟩)
          have e10 : mm_u w6 167 k (nI (2 + 1)) 164 10 - 1 = nI k := by rw [mm_u_e (by decide), v5, mm_dec' k (by omega)]
          rw [e10]
          refine hK1 u A4 B4 h4 s4 l4 o4 K4 φ4 _ (T4 + 1) (hev.trans ((ev2_5 z).trans (by rw [eqm]; exact he))) (ZG_t (ZG_p hG) hG4) ⟨fun c i q => (mm_u_e (by omega)).trans (lo6 c i q), fun i => by rw [mm_u_e (by decide), mm_u_e (by decide)]; exact v2 i, ⟨by rw [mm_u_f (by decide), mm_u_e (by decide)]; exact v3, by rw [mm_u_f (by decide), mm_u_e (by decide)]; exact v4, mm_u_s, by rw [mm_u_f (by decide), mm_u_e (by decide)]; exact v6⟩, by rw [mm_u_e (by decide), mm_u_e (by decide)]; exact v7, by rw [mm_u_e (by decide), mm_u_e (by decide)]; exact v8, by rw [mm_u_e (by decide), mm_u_e (by decide)]; exact v9, by rw [mm_u_e (by decide), mm_u_e (by decide)]; exact v10⟩ (CG_t (CG_t cgw cg56 (by omega) (Nat.le_refl _) (by omega) (Nat.le_refl _)) (show CG k t (4096 + 2 * h) o4 w6 _ from fun c i a1 a2 a3 a4 a5 a6 a7 => by rw [mm_u_o (by omega), mm_u_o (by omega)]) (Nat.le_refl _) (Nat.le_refl _) (Nat.le_refl _) (Nat.le_refl _)) (LE_t hLE hLE4) hLP4 (by rw [← hng]; exact hty4) (by omega)
        · intro e u A4 B4 h4 s4 l4 o4 w6 T4 he hne a0 a5 a1 hT4
          exact hK0 e u A4 B4 h4 s4 l4 o4 w6 T4 (hev.trans ((ev2_5 z).trans (by rw [eqm]; exact he))) hne a0 a5 a1 hT4
      refine tn_if (d := d) (t := 0) (k := 0) (hKW _ lo3) (hOK _ n n1 lo3) n1 ((lo3 4 n (by decide)).trans (k4.trans z)) (by decide) (fun y => absurd y (by decide)) (fun _ => ⟨t, (mm_u_e (by decide)).trans r3, by omega, fun y => ?_, fun y => ?_⟩) (fun y => absurd y (by decide))
      · rw [hKP _ n 2 lo3]
        rw [mm_u_e (by decide), r2] at y
        have hx : ¬ x = 1 := fun q => by
          rw [hty.1, q] at y
          exact absurd y (by decide)
        have e2 : f_part m n (nI 2) = m 191 n := by
          unfold f_part
          rw [if_neg (by rw [z]; decide), if_neg (by decide), if_neg (by decide)]
        exact hQ2 (hbr 2 (by decide) (by decide) (by rw [if_neg hx, e2]) (by rw [e2]; exact t2))
      · rw [hKP _ n 1 lo3]
        rw [mm_u_e (by decide), r2] at y
        have hx : x = 1 := hty.2.resolve_left (fun q => y (by rw [hty.1, q]))
        have e1 : f_part m n (nI 1) = m 190 n := by
          unfold f_part
          rw [if_neg (by rw [z]; decide), if_neg (by decide), if_pos (show nI 1 = 1 from rfl)]
        exact hQ2 (hbr 1 (by decide) (by decide) (by rw [if_pos hx, e1]) (by rw [e1]; exact t1))
    · -- CALL
      rw [w4] at z
      obtain ⟨g, x0, y0, ta, tb, g1, g2, x1, y1, x2', y2', s1, s2'⟩ := ng_14 (G := gL) (SA := SA) (SB := SB) hI hAC hib z
      have e0 : f_part m n 0 = m 190 n := by
        unfold f_part
        rw [if_pos z]
      have e6 : m 6 (4 * n) = nI g := ((hN.2 n n1).2.2.1 (by rw [z]; decide)).trans g2
      have hug : used m g := hJ.2.2.2 f g hAC.1 hAC.2.2.1 (by omega) ⟨n, n1, hib, z, g2⟩
      obtain ⟨wg, TG, hAG⟩ := AC_of hJ (by omega) hug
      obtain ⟨-, -, -, gp, gT, gt, b, b1, b2, b3⟩ := id hAG
      have e15 : m 15 g = nI b := (hF.2 g g1).2.2.2.1.trans b2
      have hibb : IB ND m g b := fun P q1 _ => q1 b b1 b2
      have hdb := (hI.2.2.2.2.1 b b1).2.1
      have ebm : (m 197 (m 189 n).toNatClampNeg).toNatClampNeg = b := by rw [g2, nI_clamp (by omega), b2]; exact nI_clamp (by omega)
      have hm' : mLR (GVt gL wf SA SB ta) ∧ mLR (GVt gL wf SA SB tb) := ⟨GVt_m hm.1 hm.2 _, GVt_m hm.1 hm.2 _⟩
      have hnb : NG gL wg (GVt gL wf SA SB ta) (GVt gL wf SA SB tb) (nI b) = NG gL wf SA SB (nI n) := by
        rw [ngn (r := y0) (b3.trans y2') (by omega) (by omega), s2']
        exact GVt_c (TW_I hI) (fun t ht c a b => AC_t hI hAG ht a b) y1
      have e4 : ∀ (w1 : mm_P), (∀ c i, c < 160 → w1 c i = m c i) → w1 4 n = 14 := fun w1 hw => (hw 4 n (by decide)).trans (k4.trans z)
      have n5 : ∀ {P : Prop} (w1 : mm_P), (∀ c i, c < 160 → w1 c i = m c i) → w1 4 n = 5 → P := fun w1 hw y => absurd ((e4 w1 hw).symm.trans y) (by decide)
      refine tn_call (d := d) (k := 0) (g := g) (hKW _ (hlow _)) (hOK _ n n1 (hlow _)) n1 (e4 _ (hlow _)) (by decide) g1 ((hlow _ 6 _ (by decide)).trans e6) (fun _ => ?_) (fun y => absurd y (by decide)) (fun y => absurd y (by decide))
      rw [hKP _ n 0 (hlow _)]
      refine hQ2 (hfirst (d + 3) (by rw [z]; decide) (fun x A2 B2 h2 s2 l2 K2 φ2 w3 T2 hev hG hW3 hCG3 e166 e167 hLE hLP2 hty hT2 => ?_))
      obtain ⟨r1, r2, ⟨r3, r4, r5, r6⟩, r7, r8, r9, r10⟩ := id hW3
      obtain ⟨⟨f1, f2⟩, ⟨f3, f4⟩, f5, -, f7⟩ := id hG
      rw [e0, s1] at hty
      refine hturn T2 w3 k (by omega) (by omega) r5 r9 (tn_turn (d := d) (τ := 1) (hKW w3 r1) (hOK w3 n n1 r1) n1 r5 (by omega) e166 e167 (by decide) (fun y => n5 w3 r1 y) (fun _ => ?_) (fun _ y _ => absurd (e4 w3 r1) y) (fun _ y _ => absurd (e4 w3 r1) y))
      have lo3 : ∀ c i, c < 160 → mm_u w3 167 k (nI (1 + 1)) c i = m c i := fun c i q => (mm_u_e (by omega)).trans (r1 c i q)
      refine tn_call (d := d) (k := 0) (g := g) (hKW _ lo3) (hOK _ n n1 lo3) n1 (e4 _ lo3) (by decide) g1 ((lo3 6 _ (by decide)).trans e6) (fun y => absurd y (by decide)) (fun _ => ⟨o, t, ho.1, ho.2, (mm_u_e (by decide)).trans r6, (mm_u_e (by decide)).trans r3, by omega, (mm_u_e (by decide)).trans r9, fun o30 => ⟨rfl, rfl, rfl, ?_⟩, fun o30 y => ?_⟩) (fun y => absurd y (by decide))
      · subst o30
        exact hK0 3 0 A2 B2 h2 s2 l2 30 _ (T2 + 1) (hev.trans (ev2_30 z)) (by decide) (fun c i q => (mm_u_e (by omega)).trans (lo3 c i q)) mm_u_s (by rw [mm_u_f (by decide), mm_u_e (by decide)]; exact r10) (by omega)
      · rw [lo3 15 g (by decide), e15]
        generalize hw4 : mm_u (mm_u (mm_u (mm_u (mm_u w3 167 k (nI (1 + 1))) 168 o (nI g)) 169 o (nI t)) 164 11 (nI (o + 1))) 162 4 y = w4'
        have hq4 : ∀ c i, ¬ (c = 167 ∧ i = k) → ¬ (c = 168 ∧ i = o) → ¬ (c = 169 ∧ i = o) → ¬ (c = 164 ∧ i = 11) → ¬ (c = 162 ∧ i = 4) → w4' c i = w3 c i := fun c i a b e f g => by rw [← hw4, mm_u_o g, mm_u_o f, mm_u_o e, mm_u_o b, mm_u_o a]
        have e169 : w4' 169 o = nI t := by rw [← hw4, mm_u_e (by decide), mm_u_e (by decide), mm_u_s]
        have e411 : w4' 164 11 = nI (o + 1) := by rw [← hw4, mm_u_e (by decide), mm_u_s]
        have e4167 : w4' 167 k = nI 2 := by rw [← hw4, mm_u_e (by decide), mm_u_e (by decide), mm_u_e (by decide), mm_u_e (by decide), mm_u_s]
        have hW4 : WC m w4' K2 (t + 1) (4096 + 2 * h2) (k + 1) (o + 1) s2 l2 := ⟨fun c i q => (hq4 c i (by omega) (by omega) (by omega) (by omega) (by omega)).trans (r1 c i q), fun i => (hq4 165 i (by omega) (by omega) (by omega) (by omega) (by omega)).trans (r2 i), ⟨(hq4 164 8 (by omega) (by omega) (by omega) (by omega) (by omega)).trans r3, (hq4 164 9 (by omega) (by omega) (by omega) (by omega) (by omega)).trans r4, (hq4 164 10 (by omega) (by omega) (by omega) (by omega) (by omega)).trans r5, e411⟩, (hq4 162 2 (by omega) (by omega) (by omega) (by omega) (by omega)).trans r7, (hq4 162 3 (by omega) (by omega) (by omega) (by omega) (by omega)).trans r8, (hq4 162 5 (by omega) (by omega) (by omega) (by omega) (by omega)).trans r9, (hq4 162 1 (by omega) (by omega) (by omega) (by omega) (by omega)).trans r10⟩
        have cg4 : CG k t (4096 + 2 * h2) o w3 w4' := fun c i a1 a2 a3 a4 a5 a6 a7 => hq4 c i (by omega) (by omega) (by omega) (by omega) (by omega)
        have cgw : CG k t (4096 + 2 * h) o w w4' := CG_t hCG3 cg4 (Nat.le_refl _) (Nat.le_refl _) (by omega) (Nat.le_refl _)
        refine hQ2 (cl_bg (d := d + 3) (f := g) (wf := wg) (TY := TG) (SA := GVt gL wf SA SB ta) (SB := GVt gL wf SA SB tb) (φ := φ2) (A := A2) (B := B2) (arg := x) hI ih hW4 f2 (by omega) (fun h6 w5 e169' => ?_) (by omega) (by omega) (by omega) (fun h6 w5 hCG5 => ?_) ?_)
        · refine ⟨⟨by omega, by omega⟩, ⟨h6, f5, by omega, by omega⟩, hLP2, hAG, hm', ⟨x0, t, x1, x2', e169'.trans ?_, by omega, hty⟩, ⟨b1, hibb, by omega, by omega⟩, by omega⟩
          rw [show o + 1 - 1 = o by omega]
          exact e169
        · intro u A4 B4 h4 s4 l4 o4 K4 φ4 w6 T4 he hG4 hW6 hCG6 hLE4 hLP4 hty4 hT4
          have ho4 : o4 = o + 1 := hG4.2.2.2.1
          subst ho4
          obtain ⟨⟨u1, u2⟩, ⟨u3, u4⟩, u5, -, u7⟩ := id hG4
          obtain ⟨v1, v2, ⟨v3, v4, v5, v6⟩, v7, v8, v9, v10⟩ := id hW6
          have cg56 := CG_t hCG5 hCG6 (Nat.le_refl _) (Nat.le_refl _) (Nat.le_refl _) (Nat.le_refl _)
          have e166' : w6 166 k = nI n := (cg56 166 k (by omega) (by omega) (by omega) (by omega) (by omega) (by decide) (by decide)).trans ((hq4 166 k (by omega) (by omega) (by omega) (by omega) (by omega)).trans e166)
          have e167' : w6 167 k = nI 2 := (cg56 167 k (by omega) (by omega) (by omega) (by omega) (by omega) (by decide) (by decide)).trans e4167
          refine hturn T4 w6 k (by omega) (by omega) v5 v9 (tn_turn (d := d) (τ := 2) (hKW w6 v1) (hOK w6 n n1 v1) n1 v5 (by omega) e166' e167' (by decide) (fun y => n5 w6 v1 y) (fun _ => ?_) (fun _ y _ => absurd (e4 w6 v1) y) (fun _ y _ => absurd (e4 w6 v1) y))
          have lo6 : ∀ c i, c < 160 → mm_u w6 167 k (nI (2 + 1)) c i = m c i := fun c i q => (mm_u_e (by omega)).trans (v1 c i q)
          refine tn_call (d := d) (k := 0) (g := g) (hKW _ lo6) (hOK _ n n1 lo6) n1 (e4 _ lo6) (by decide) g1 ((lo6 6 _ (by decide)).trans e6) (fun y => absurd y (by decide)) (fun y => absurd y (by decide)) (fun _ => ⟨o, t, (mm_u_e (by decide)).trans v6, by omega, (mm_u_e (by decide)).trans v3, by omega, rfl, rfl, rfl, ?_⟩)
          rw [show mm_u w6 167 k (nI (2 + 1)) 164 10 - 1 = nI k by rw [mm_u_e (by decide), v5, mm_dec' k (by omega)]]
          generalize hw7 : mm_u (mm_u (mm_u (mm_u (mm_u w6 167 k (nI (2 + 1))) 165 t (mm_u w6 167 k (nI (2 + 1)) 165 (t + 1))) 164 8 (nI (t + 1))) 164 11 (nI o)) 164 10 (nI k) = w7
          have hq7 : ∀ c i, ¬ (c = 167 ∧ i = k) → ¬ (c = 165 ∧ i = t) → ¬ (c = 164 ∧ (i = 8 ∨ i = 11 ∨ i = 10)) → w7 c i = w6 c i := fun c i a b e => by rw [← hw7, mm_u_o (by omega), mm_u_o (by omega), mm_u_o (by omega), mm_u_o b, mm_u_o a]
          have eKt : w7 165 t = K4 (t + 1) := by
            rw [← hw7, mm_u_e (by decide), mm_u_e (by decide), mm_u_e (by decide), mm_u_s, mm_u_e (by decide)]
            exact v2 (t + 1)
          have hLE7 : LE A4 B4 h4 K4 φ4 A4 B4 h4 (w7 165) φ4 := LE_k hLP4 (fun i a b => (hq7 165 i (by omega) (by omega) (by omega)).trans (v2 i))
          have cg7 : CG k t (4096 + 2 * h) o w w7 := CG_t cgw (CG_t (show CG k t (4096 + 2 * h) o w4' w6 from fun c i a1 a2 a3 a4 a5 a6 a7 => cg56 c i (by omega) (by omega) (by omega) (by omega) (by omega) a6 a7) (show CG k t (4096 + 2 * h) o w6 w7 from fun c i a1 a2 a3 a4 a5 a6 a7 => hq7 c i (by omega) (by omega) (by omega)) (Nat.le_refl _) (Nat.le_refl _) (Nat.le_refl _) (Nat.le_refl _)) (Nat.le_refl _) (Nat.le_refl _) (Nat.le_refl _) (Nat.le_refl _)
          refine hK1 u A4 B4 h4 s4 l4 o (w7 165) φ4 w7 (T4 + 1) (hev.trans (ev2_14 z (by omega) (by rw [ebm]; exact he))) (ZG_t (ZG_p hG) (ZG_o hG4)) ⟨fun c i q => (hq7 c i (by omega) (by omega) (by omega)).trans (v1 c i q), fun _ => rfl, ⟨by rw [← hw7, mm_u_f (by decide), mm_u_f (by decide), mm_u_s], (hq7 164 9 (by omega) (by omega) (by omega)).trans v4, by rw [← hw7, mm_u_s], by rw [← hw7, mm_u_f (by decide), mm_u_s]⟩, (hq7 162 2 (by omega) (by omega) (by omega)).trans v7, (hq7 162 3 (by omega) (by omega) (by omega)).trans v8, (hq7 162 5 (by omega) (by omega) (by omega)).trans v9, (hq7 162 1 (by omega) (by omega) (by omega)).trans v10⟩ cg7 (LE_t (LE_t hLE hLE4) hLE7) hLP4 ?_ (by omega)
          rw [eKt]
          rw [hnb] at hty4
          exact NG_m hm.1 hm.2 _ _ _ _ _ _ _ _ _ _ _ hLE7 _ _ hty4
        · intro e u A4 B4 h4 s4 l4 o4 w6 T4 he hne a0 a5 a1 hT4
          exact hK0 e u A4 B4 h4 s4 l4 o w6 T4 (hev.trans (ev2_14 z (by omega) (by rw [ebm]; exact he))) hne a0 a5 a1 hT4
    · -- parts
      rw [w4] at z5 z14 zp
      have hp1 : 1 ≤ (f_parts (m 188 n)).toInt := by omega
      have e0 : f_part m n 0 = m 189 n := by
        unfold f_part
        rw [if_neg z14, if_pos rfl]
      rw [hKP w n 0 q1]
      refine hQ (hfirst (d + 4) hp1 (fun x A2 B2 h2 s2 l2 K2 φ2 w3 T2 hev hG hW3 hCG3 e166 e167 hLE hLP2 hty hT2 => ?_))
      obtain ⟨r1, r2, ⟨r3, r4, r5, r6⟩, r7, r8, r9, r10⟩ := id hW3
      obtain ⟨⟨g1, g2⟩, ⟨g3, g4⟩, g5, -, g7⟩ := id hG
      rw [e0] at hty
      have w34 : w3 4 n = m 188 n := (r1 4 n (by decide)).trans k4
      refine hturn T2 w3 k (by omega) (by omega) r5 r9 (tn_turn (d := d) (τ := 1) (hKW w3 r1) (hOK w3 n n1 r1) n1 r5 (by omega) e166 e167 (by decide) (fun y => absurd (w34.symm.trans y) z5) (fun y => absurd (w34.symm.trans y) z14) (fun _ _ zq => ?_) (fun _ _ zq => ?_)) <;> rw [w34] at zq
      · -- the second part
        have zz : (f_parts (m 188 n)).toInt = 2 := by
          have := f_parts_in (m 188 n)
          rcases this with q | q | q | q
          · rw [q] at zq; exact absurd zq (by decide)
          · rw [q] at zq; exact absurd zq (by decide)
          · rw [q]; rfl
          · exfalso
            refine z5 ?_
            by_cases c : m 188 n = 5
            · exact c
            · exfalso
              unfold f_parts at q
              rw [if_neg c] at q
              split at q
              · exact absurd q (by decide)
              · split at q
                · exact absurd q (by decide)
                · split at q <;> exact absurd q (by decide)
        have z2 : f_parts (m 188 n) = 2 := Int32.toInt_inj.mp (by rw [zz]; rfl)
        obtain ⟨q, y1, y2, y3⟩ := f_part_r (i := 1) hok (by decide) (by rw [zz]; decide)
        have hibq := IB_part (i := 1) hib n1 (by decide) (by rw [zz]; decide)
        rw [y2, nI_clamp (by omega)] at hibq
        have hdq := (hI.2.2.2.2.1 q (by omega)).2.1
        have e190 : f_part m n 1 = m 190 n := by
          unfold f_part
          rw [if_neg z14, if_neg (by decide), if_pos rfl]
        have em190 : m 190 n = nI q := e190.symm.trans y2
        have eqm : (m 190 n).toNatClampNeg = q := by rw [em190]; exact nI_clamp (by omega)
        have ekp : k_part w3 n 1 = nI q := (hKP w3 n 1 r1).trans ((kp_fp hN n1 (by decide) (by omega)).trans y2)
        rw [ekp]
        have hW4 : WC m (mm_u w3 167 k (nI (1 + 1))) K2 (t + 1) (4096 + 2 * h2) (k + 1) o s2 l2 := ⟨fun c i q => (mm_u_e (by omega)).trans (r1 c i q), fun i => (mm_u_e (by decide)).trans (r2 i), ⟨(mm_u_e (by decide)).trans r3, (mm_u_e (by decide)).trans r4, (mm_u_e (by decide)).trans r5, (mm_u_e (by decide)).trans r6⟩, (mm_u_e (by decide)).trans r7, (mm_u_e (by decide)).trans r8, (mm_u_e (by decide)).trans r9, (mm_u_e (by decide)).trans r10⟩
        have cg4 : CG k t (4096 + 2 * h2) o w3 (mm_u w3 167 k (nI (1 + 1))) := fun c i a1 a2 a3 a4 a5 a6 a7 => mm_u_o (by omega)
        have cgw : CG k t (4096 + 2 * h) o w (mm_u w3 167 k (nI (1 + 1))) := CG_t hCG3 cg4 (Nat.le_refl _) (Nat.le_refl _) (by omega) (Nat.le_refl _)
        refine hQ (cl_bg (d := d + 4) (f := f) (wf := wf) (TY := TY) (SA := SA) (SB := SB) (φ := φ2) (A := A2) (B := B2) (arg := arg) hI ih hW4 g2 (by omega) (fun h6 w5 e169 => ?_) (by omega) (by omega) (by omega) (fun h6 w5 hCG5 => ?_) ?_)
        · obtain ⟨x0, b, x1, x2, x3, x4, x5⟩ := hARG
          have hKb : K2 b = K b := by
            rw [← r2, ← q2]
            exact hCG3 165 b (by omega) (by omega) (by omega) (by omega) (by omega) (by decide) (by decide)
          have e169' : w3 169 (o - 1) = nI b := (hCG3 169 (o - 1) (by omega) (by omega) (by omega) (by omega) (by omega) (by decide) (by decide)).trans x3
          refine ⟨ho, ⟨h6, g5, by omega, by omega⟩, hLP2, hAC, hm, ⟨x0, b, x1, x2, e169.trans ((mm_u_e (by decide)).trans e169'), by omega, ?_⟩, ⟨by omega, hibq, by omega, by omega⟩, by omega⟩
          rw [hKb]
          exact GVt_m hm.1 hm.2 x0 _ _ _ _ _ _ _ _ _ _ hLE _ _ x5
        · intro u A4 B4 h4 s4 l4 o4 K4 φ4 w6 T4 he hG4 hW6 hCG6 hLE4 hLP4 hty4 hT4
          have ho4 : o4 = o := hG4.2.2.2.1
          subst ho4
          obtain ⟨⟨f1, f2⟩, ⟨f3, f4⟩, f5, -, f7⟩ := id hG4
          obtain ⟨v1, v2, ⟨v3, v4, v5, v6⟩, v7, v8, v9, v10⟩ := id hW6
          have cg56 := CG_t hCG5 hCG6 (Nat.le_refl _) (Nat.le_refl _) (Nat.le_refl _) (Nat.le_refl _)
          have e166' : w6 166 k = nI n := (cg56 166 k (by omega) (by omega) (by omega) (by omega) (by omega) (by decide) (by decide)).trans ((mm_u_e (by decide)).trans e166)
          have e167' : w6 167 k = nI 2 := (cg56 167 k (by omega) (by omega) (by omega) (by omega) (by omega) (by decide) (by decide)).trans mm_u_s
          have eKt : K4 t = K2 t := by
            rw [← v2, ← r2]
            exact (cg56 165 t (by omega) (by omega) (by omega) (by omega) (by omega) (by decide) (by decide)).trans (mm_u_e (by decide))
          have w64 : w6 4 n = m 188 n := (v1 4 n (by decide)).trans k4
          have hev3 : ev m (j + 1) arg n A B h s l o4 = ev3 m n x u A4 B4 h4 s4 l4 o4 := by
            rw [← eqm] at he
            rw [hev, ev2_2 z2 he, if_pos rfl]
          have ty1 : NG gL wf SA SB (m 189 n) A4 B4 h4 K4 φ4 x (K4 t) := by
            rw [eKt]
            exact NG_m hm.1 hm.2 _ _ _ _ _ _ _ _ _ _ _ hLE4 _ _ hty
          have ty2 : NG gL wf SA SB (m 190 n) A4 B4 h4 K4 φ4 u (K4 (t + 1)) := by
            rw [em190]
            exact hty4
          refine hturn T4 w6 k (by omega) (by omega) v5 v9 (tn_turn (d := d) (τ := 2) (hKW w6 v1) (hOK w6 n n1 v1) n1 v5 (by omega) e166' e167' (by decide) (fun y => absurd (w64.symm.trans y) z5) (fun y => absurd (w64.symm.trans y) z14) (fun _ _ y => absurd (by rw [w64, zz] at y; exact y) (by decide)) (fun _ _ _ => ?_))
          obtain ⟨kq, ek, hkq⟩ := kd_two hok.1 z2
          rw [w64, ek]
          generalize hw7 : mm_u (mm_u w6 167 k (nI (2 + 1))) 164 10 (nI k) = w7
          have h1c : ∀ c i, ¬ (c = 167 ∧ i = k) → ¬ (c = 164 ∧ (i = 10 ∨ i = 8)) → w7 c i = w6 c i := fun c i a b => by rw [← hw7, mm_u_o (by omega), mm_u_o a]
          have h710 : w7 164 10 = nI k := by rw [← hw7, mm_u_s]
          have h78 : w7 164 8 = nI (t + 2) := by rw [← hw7, mm_u_f (by decide), mm_u_e (by decide)]; exact v3
          have lo7 : ∀ c i, c < 160 → w7 c i = m c i := fun c i q => (h1c c i (by omega) (by omega)).trans (v1 c i q)
          have w7K : ∀ i, w7 165 i = K4 i := fun i => (h1c 165 i (by omega) (by omega)).trans (v2 i)
          have h73 : w7 162 3 = nI l4 := (h1c 162 3 (by omega) (by omega)).trans v8
          have cg6 : CG k t (4096 + 2 * h) o4 w w6 := CG_t cgw cg56 (by omega) (by omega) (by omega) (Nat.le_refl _)
          have hG2 : ZG A B h s o4 A4 B4 h4 s4 l4 o4 := ZG_t (ZG_p hG) hG4
          have hG3 : ZG A B h (s + 1) o4 A4 B4 h4 s4 l4 o4 := ZG_t hG hG4
          refine tn_2 (d := d) (t := t) (p := 4096 + 2 * h4) (o := o') (l := l4) (hKW w7 lo7) (hOK w7 n n1 lo7) n1 h78 (by omega) ((h1c 164 9 (by omega) (by omega)).trans v4) ⟨by omega, by omega⟩ ((h1c 164 11 (by omega) (by omega)).trans (v6.trans (by rw [eo]))) (by omega) h73 f5 hkq (fun _ => by rw [lo7 4 n (by decide), k4]; exact hp1) (fun y w' hy hR h3 => ⟨rfl, rfl, rfl, ?_⟩) (fun w' hR hcl => ⟨rfl, rfl, rfl, ?_⟩) (fun k10 l100 => ⟨rfl, rfl, rfl, ?_⟩)
          · obtain ⟨c1, c2, c3, c4⟩ := RP_c hW6 (by omega) h1c h710 hR h3
            have hLE7 : LE A4 B4 h4 K4 φ4 A4 B4 h4 (w' 165) φ4 := LE_k hLP4 (fun i a b => c3 i (by omega))
            rw [w7K, w7K] at hy
            have hv : ∃ xr, ev3 m n x u A4 B4 h4 s4 l4 o4 = (0, xr, A4, B4, h4, s4, l4, o4) ∧ NG gL wf SA SB (nI n) A4 B4 h4 (w' 165) φ4 xr y := by
              rcases hy with ⟨hk, hy⟩ | ⟨hk, hy⟩
              · subst hk
                obtain ⟨i1, i2⟩ := ng_34 (G := gL) (SA := SA) (SB := SB) hI hAC hib (.inl ek)
                rw [i1] at ty1
                rw [i2] at ty2
                replace ty1 : K4 t = x := ty1
                replace ty2 : K4 (t + 1) = u := ty2
                refine ⟨x + u, ev3_3 ek, ?_⟩
                rw [ng_z (G := gL) (SA := SA) (SB := SB) hI hAC hib (.inr ek)]
                show y = x + u
                rw [hy, ty1, ty2]
              · subst hk
                obtain ⟨i1, i2⟩ := ng_34 (G := gL) (SA := SA) (SB := SB) hI hAC hib (.inr ek)
                rw [i1] at ty1
                rw [i2] at ty2
                replace ty1 : K4 t = x := ty1
                replace ty2 : K4 (t + 1) = u := ty2
                refine ⟨if u ≤ x then 0 else 1, ev3_4 ek, ?_⟩
                rw [ng_o (G := gL) (SA := SA) (SB := SB) hI hAC hib (.inr (.inl ek))]
                show y = (if u ≤ x then 0 else 1) ∧ ((if u ≤ x then (0 : Int32) else 1) = 0 ∨ (if u ≤ x then (0 : Int32) else 1) = 1)
                rw [hy, ty1, ty2]
                refine ⟨rfl, ?_⟩
                split
                · exact .inl rfl
                · exact .inr rfl
            obtain ⟨xr, hx, hrel⟩ := hv
            exact hK1 xr A4 B4 h4 s4 l4 o4 (w' 165) φ4 w' (T4 + 1) (hev3.trans hx) hG2 c1 (CG_t cg6 c2 (Nat.le_refl _) (Nat.le_refl _) (by omega) (Nat.le_refl _)) (LE_t (LE_t hLE hLE4) hLE7) hLP4 (by rw [c4]; exact hrel) (by omega)
          · -- a cell
            have hl5 : ∃ l5, w' 162 3 = nI l5 ∧ l5 ≤ 100 ∧ ev3 m n x u A4 B4 h4 s4 l4 o4 = (0, nI h4, fu A4 h4 x, fu B4 h4 u, h4 + 1, s4, l5, o4) := by
              rcases hcl with ⟨hk, e3, -⟩ | ⟨hk, hlt, e3, -⟩
              · subst hk
                exact ⟨l4, e3, f5, ev3_6 ek⟩
              · subst hk
                exact ⟨l4 + 1, e3, by omega, ev3_n (by rw [ek]; decide) (by rw [ek]; decide) (by rw [ek]; decide) (by omega)⟩
            obtain ⟨l5, e3, hl5, hx⟩ := hl5
            obtain ⟨c1, c2, c3, c4⟩ := RP_c hW6 (by omega) h1c h710 hR e3
            have hLE7 : LE A4 B4 h4 K4 φ4 (fu A4 h4 x) (fu B4 h4 u) (h4 + 1) (w' 165) (fφ φ4 h4 (4096 + 2 * h4)) := LE_n hLP4 (fun i a b => c3 i (by omega))
            have tx1 := NG_m (wf := wf) hm.1 hm.2 (m 189 n) _ _ _ _ _ _ _ _ _ _ hLE7 _ _ ty1
            have tx2 := NG_m (wf := wf) hm.1 hm.2 (m 190 n) _ _ _ _ _ _ _ _ _ _ hLE7 _ _ ty2
            have hLP5 : LHP (h4 + 1) (4096 + 2 * (h4 + 1)) (fφ φ4 h4 (4096 + 2 * h4)) := by
              have g5 := LHP_n (p := 4096 + 2 * h4) hLP4 (by omega)
              rw [show 4096 + 2 * (h4 + 1) = 4096 + 2 * h4 + 2 by omega]
              exact g5
            have hrel : NG gL wf SA SB (nI n) (fu A4 h4 x) (fu B4 h4 u) (h4 + 1) (w' 165) (fφ φ4 h4 (4096 + 2 * h4)) (nI h4) (nI (4096 + 2 * h4)) := by
              rcases hcl with ⟨hk, -, y1, y2⟩ | ⟨hk, -, -, y1, y2⟩
              · subst hk
                rw [w7K] at y1 y2
                rw [ng_6 (G := gL) (SA := SA) (SB := SB) hI hAC hib ek]
                refine ⟨h4, by omega, rfl, by rw [fφ_s], ?_, ?_⟩
                · rw [fu_s, fφ_s, y1]
                  exact tx1
                · rw [fu_s, fφ_s, y2]
                  exact tx2
              · subst hk
                rw [w7K] at y1 y2
                obtain ⟨s1, s2'⟩ := ng_10 (G := gL) (SA := SA) (SB := SB) hI hAC hib ek
                rw [s2', s1] at tx2
                rw [s1]
                have := lL_link (P := NG gL wf SA SB (m 189 n)) (A := fu A4 h4 x) (B := fu B4 h4 u) (K := w' 165) (h := h4 + 1) (a := h4) (φ := fφ φ4 h4 (4096 + 2 * h4)) (by omega) (by rw [fu_s, fφ_s, y2]; exact tx1) (by rw [fu_s, fφ_s, y1]; exact tx2)
                rw [fφ_s] at this
                exact this
            exact hK1 (nI h4) (fu A4 h4 x) (fu B4 h4 u) (h4 + 1) s4 l5 o4 (w' 165) _ w' (T4 + 1) (hev3.trans hx) (ZG_c hG3 hl5) (by rw [show 4096 + 2 * (h4 + 1) = 4096 + 2 * h4 + 2 by omega]; exact c1) (CG_t cg6 c2 (Nat.le_refl _) (Nat.le_refl _) (by omega) (Nat.le_refl _)) (LE_t (LE_t hLE hLE4) hLE7) hLP5 (by rw [c4]; exact hrel) (by omega)
          · subst l100
            subst k10
            exact hK0 4 0 A4 B4 h4 s4 100 o4 _ (T4 + 1) (hev3.trans (ev3_100 (by rw [ek]; decide) (by rw [ek]; decide) (by rw [ek]; decide))) (by decide) (fun c i q => by rw [mm_u_e (by omega), mm_u_e (by omega)]; exact lo7 c i q) mm_u_s (by rw [mm_u_f (by decide), mm_u_f (by decide)]; exact (h1c 162 1 (by omega) (by omega)).trans v10) (by omega)
        · intro e u A4 B4 h4 s4 l4 o4 w6 T4 he hne a0 a5 a1 hT4
          refine hK0 e u A4 B4 h4 s4 l4 o4 w6 T4 (hev.trans ?_) hne a0 a5 a1 hT4
          rw [← eqm] at he
          rw [ev2_2 z2 he, if_neg hne]
      · -- one part
        have z1 : f_parts (m 188 n) = 1 := Int32.toInt_inj.mp (by rw [show (1 : Int32).toInt = 1 from rfl]; omega)
        obtain ⟨kq, ek, hkq⟩ := kd_one hok.1 z14 z1
        rw [w34, ek]
        generalize hw7 : mm_u (mm_u w3 167 k (nI (1 + 1))) 164 10 (nI k) = w7
        have h1c : ∀ c i, ¬ (c = 167 ∧ i = k) → ¬ (c = 164 ∧ (i = 10 ∨ i = 8)) → w7 c i = w3 c i := fun c i a b => by rw [← hw7, mm_u_o (by omega), mm_u_o a]
        have h710 : w7 164 10 = nI k := by rw [← hw7, mm_u_s]
        have h78 : w7 164 8 = nI (t + 1) := by rw [← hw7, mm_u_f (by decide), mm_u_e (by decide)]; exact r3
        have lo7 : ∀ c i, c < 160 → w7 c i = m c i := fun c i q => (h1c c i (by omega) (by omega)).trans (r1 c i q)
        have w7K : ∀ i, w7 165 i = K2 i := fun i => (h1c 165 i (by omega) (by omega)).trans (r2 i)
        have hpos : ∀ a, a < h2 → 0 < φ2 a ∧ φ2 a + 1 < 8192 := fun a ha => by
          obtain ⟨a1, a2⟩ := hLP2 a ha
          exact ⟨by omega, by omega⟩
        have hne0 : ∀ a, a < h2 → ¬ nI (φ2 a) = 0 := fun a ha q => by
          have := congrArg Int32.toInt q
          rw [mm_tI (by have := (hpos a ha).2; omega), mm_tt0] at this
          have := (hpos a ha).1
          omega
        have hfin : ∀ xr y w', ev2 m (ev m j) arg n x A2 B2 h2 s2 l2 o = (0, xr, A2, B2, h2, s2, l2, o) → NG gL wf SA SB (nI n) A2 B2 h2 K2 φ2 xr y → RP w7 w' t (4096 + 2 * h2) y (4096 + 2 * h2) → w' 162 3 = w7 162 3 → C (T2 + 1) w' := fun xr y w' hx hrel hR h3 => by
          obtain ⟨c1, c2, c3, c4⟩ := RP_c hW3 ht4 h1c h710 hR (h3.trans ((h1c 162 3 (by omega) (by omega)).trans r8))
          have hLE7 : LE A2 B2 h2 K2 φ2 A2 B2 h2 (w' 165) φ2 := LE_k hLP2 (fun i a b => c3 i (by omega))
          exact hK1 xr A2 B2 h2 s2 l2 o (w' 165) φ2 w' (T2 + 1) (hev.trans hx) (ZG_p hG) c1 (CG_t hCG3 c2 (Nat.le_refl _) (Nat.le_refl _) (by omega) (Nat.le_refl _)) (LE_t hLE hLE7) hLP2 (by rw [c4]; exact NG_m hm.1 hm.2 _ _ _ _ _ _ _ _ _ _ _ hLE7 _ _ hrel) (by omega)
        refine tn_1 (d := d) (n := n) (t := t) (p := 4096 + 2 * h2) (o := o') h78 ht4 ((h1c 164 9 (by omega) (by omega)).trans r4) ((h1c 164 11 (by omega) (by omega)).trans (r6.trans (by rw [eo]))) (by omega) hkq (fun k11 => ?_) (fun y w' hy hR h3 => ⟨rfl, rfl, rfl, ?_⟩) (fun hk hz => ⟨rfl, rfl, rfl, ?_⟩)
        · rw [w7K]
          rcases hkq with rfl | rfl | rfl | rfl | rfl
          · obtain ⟨R, hR⟩ := ng_7 (G := gL) (SA := SA) (SB := SB) hI hAC hib ek
            rw [hR] at hty
            obtain ⟨a, a1, a2, a3, a4, a5⟩ := hty
            exact .inr ⟨φ2 a, a3, (hpos a a1).1, (hpos a a1).2⟩
          · obtain ⟨R, hR⟩ := ng_8 (G := gL) (SA := SA) (SB := SB) hI hAC hib ek
            rw [hR] at hty
            obtain ⟨a, a1, a2, a3, a4, a5⟩ := hty
            exact .inr ⟨φ2 a, a3, (hpos a a1).1, (hpos a a1).2⟩
          · exact absurd rfl k11
          · have hR := ng_12 (G := gL) (SA := SA) (SB := SB) hI hAC hib ek
            rw [hR] at hty
            rcases lL_get hty with ⟨-, q⟩ | ⟨a, a1, a2, a3, a4, a5⟩
            · exact .inl ⟨q, .inl rfl⟩
            · exact .inr ⟨φ2 a, a3, (hpos a a1).1, (hpos a a1).2⟩
          · obtain ⟨hR, R, hR2⟩ := ng_13 (G := gL) (SA := SA) (SB := SB) hI hAC hib ek
            rw [hR, hR2] at hty
            rcases lL_get hty with ⟨-, q⟩ | ⟨a, a1, a2, a3, a4, a5⟩
            · exact .inl ⟨q, .inr rfl⟩
            · exact .inr ⟨φ2 a, a3, (hpos a a1).1, (hpos a a1).2⟩
        · simp only [w7K] at hy
          rcases hy with ⟨hk, hy⟩ | ⟨hk, hy⟩ | ⟨hk, hy⟩ | ⟨hk, hz, hy⟩ | ⟨hk, hz, hy⟩ <;> subst hk
          · obtain ⟨R, hR'⟩ := ng_7 (G := gL) (SA := SA) (SB := SB) hI hAC hib ek
            rw [hR'] at hty
            obtain ⟨a, a1, a2, a3, a4, a5⟩ := hty
            refine hfin (A2 a) y w' (by rw [ev2_7 ek, a2, nI_clamp (by omega)]) ?_ hR h3
            rw [hy, a3, nI_clamp (by have := (hpos a a1).2; omega)]
            exact a4
          · obtain ⟨R, hR'⟩ := ng_8 (G := gL) (SA := SA) (SB := SB) hI hAC hib ek
            rw [hR'] at hty
            obtain ⟨a, a1, a2, a3, a4, a5⟩ := hty
            refine hfin (B2 a) y w' (by rw [ev2_8 ek, a2, nI_clamp (by omega)]) ?_ hR h3
            rw [hy, a3, nI_clamp (by have := (hpos a a1).2; omega)]
            exact a5
          · obtain ⟨R, hR'⟩ := ng_11 (G := gL) (SA := SA) (SB := SB) hI hAC hib ek
            rw [hR'] at hty
            refine hfin (if x = -1 then 1 else 0) y w' (ev2_11 ek) ?_ hR h3
            rw [ng_o (G := gL) (SA := SA) (SB := SB) hI hAC hib (.inr (.inr ek))]
            show y = (if x = -1 then 1 else 0) ∧ ((if x = -1 then (1 : Int32) else 0) = 0 ∨ (if x = -1 then (1 : Int32) else 0) = 1)
            rcases lL_get hty with ⟨b1, b2⟩ | ⟨a, a1, a2, a3, a4, a5⟩
            · rw [hy, if_pos b2, if_pos b1]
              exact ⟨rfl, .inr rfl⟩
            · have hx : ¬ x = -1 := fun q => nI_ne (t := a) (by omega) (a2.symm.trans q)
              rw [hy, if_neg (by rw [a3]; exact hne0 a a1), if_neg hx]
              exact ⟨rfl, .inl rfl⟩
          · have hR' := ng_12 (G := gL) (SA := SA) (SB := SB) hI hAC hib ek
            rw [hR'] at hty
            rcases lL_get hty with ⟨-, b2⟩ | ⟨a, a1, a2, a3, a4, a5⟩
            · exact absurd b2 hz
            · have hx : ¬ x = -1 := fun q => nI_ne (t := a) (by omega) (a2.symm.trans q)
              refine hfin (A2 a) y w' (by rw [ev2_12 ek, if_neg hx, a2, nI_clamp (by omega)]) ?_ hR h3
              rw [hy, a3, nI_clamp (by have := (hpos a a1).2; omega)]
              exact a4
          · obtain ⟨hR', R, hR2⟩ := ng_13 (G := gL) (SA := SA) (SB := SB) hI hAC hib ek
            rw [hR', hR2] at hty
            rcases lL_get hty with ⟨-, b2⟩ | ⟨a, a1, a2, a3, a4, a5⟩
            · exact absurd b2 hz
            · have hx : ¬ x = -1 := fun q => nI_ne (t := a) (by omega) (a2.symm.trans q)
              refine hfin (B2 a) y w' (by rw [ev2_13 ek, if_neg hx, a2, nI_clamp (by omega)]) ?_ hR h3
              rw [hy, a3, nI_clamp (by have := (hpos a a1).2; omega), hR2]
              exact a5
        · rw [w7K] at hz
          have hx : x = -1 := by
            rcases hk with rfl | rfl
            · have hR' := ng_12 (G := gL) (SA := SA) (SB := SB) hI hAC hib ek
              rw [hR'] at hty
              rcases lL_get hty with ⟨b1, -⟩ | ⟨a, a1, a2, a3, a4, a5⟩
              · exact b1
              · exact absurd (a3.symm.trans hz) (hne0 a a1)
            · obtain ⟨hR', R, hR2⟩ := ng_13 (G := gL) (SA := SA) (SB := SB) hI hAC hib ek
              rw [hR', hR2] at hty
              rcases lL_get hty with ⟨b1, -⟩ | ⟨a, a1, a2, a3, a4, a5⟩
              · exact b1
              · exact absurd (a3.symm.trans hz) (hne0 a a1)
          refine hK0 1 0 A2 B2 h2 s2 l2 o _ (T2 + 1) (hev.trans ?_) (by decide) (fun c i q => by rw [mm_u_e (by omega), mm_u_e (by omega)]; exact lo7 c i q) mm_u_s (by rw [mm_u_f (by decide), mm_u_e (by decide)]; exact (h1c 162 1 (by omega) (by omega)).trans r10) (by omega)
          rcases hk with rfl | rfl
          · rw [ev2_12 ek, if_pos hx]
          · rw [ev2_13 ek, if_pos hx]
    · -- a leaf
      rw [w4] at z5 z14 zp
      obtain ⟨kq, ek, hkq⟩ := kd_leaf hok.1 z5 z14 zp
      rw [w4, ek]
      have lo2 : ∀ c i, c < 160 → mm_u (mm_u w 167 k (nI (0 + 1))) 164 10 (nI k) c i = m c i := fun c i q => (mm_u_e (by omega)).trans (hlow _ c i q)
      have h1c : ∀ c i, ¬ (c = 167 ∧ i = k) → ¬ (c = 164 ∧ (i = 10 ∨ i = 8)) → mm_u (mm_u w 167 k (nI (0 + 1))) 164 10 (nI k) c i = w c i := fun c i a b => by rw [mm_u_o (by omega), mm_u_o a]
      obtain ⟨x, b, x1, x2, x3, x4, x5⟩ := hARG
      refine tn_0 (d := d) (t := t) (p := 4096 + 2 * h) (o := o') (b := b) (hKW _ lo2) n1 ((mm_u_f (by decide)).trans ((mm_u_e (by decide)).trans q3)) ht4 ((mm_u_f (by decide)).trans ((mm_u_e (by decide)).trans q4)) hkq (fun _ => ?_) (fun y w' hy hR h3 => ⟨rfl, rfl, rfl, ?_⟩)
      · refine ⟨(h1c 164 11 (by omega) (by omega)).trans (q6.trans (by rw [eo])), by omega, (h1c 169 o' (by omega) (by omega)).trans ?_, by omega⟩
        rw [show o' = o - 1 by omega]
        exact x3
      · have h3' : w' 162 3 = nI l := h3.trans ((h1c 162 3 (by omega) (by omega)).trans q8)
        obtain ⟨c1, c2, c3, c4⟩ := RP_c hW ht4 h1c mm_u_s hR h3'
        have hLE : LE A B h K φ A B h (w' 165) φ := LE_k hLP (fun i a b => c3 i (by omega))
        have hv : ∃ x, (((m 188 n = 0 ∨ m 188 n = 1) ∧ x = m 189 n) ∨ (m 188 n = 2 ∧ x = arg) ∨ (m 188 n = 9 ∧ x = -1)) ∧ NG gL wf SA SB (nI n) A B h (w' 165) φ x y := by
          rcases hy with ⟨hk, hy⟩ | ⟨hk, hy⟩ | ⟨hk, hy⟩
          · have ey : y = m 189 n := hy.trans ((lo2 6 _ (by decide)).trans ((hN.2 n n1).2.2.1 (by rw [ek]; rcases hk with rfl | rfl <;> decide)))
            rcases hk with rfl | rfl
            · refine ⟨m 189 n, .inl ⟨.inl ek, rfl⟩, ?_⟩
              rw [ng_z (G := gL) (SA := SA) (SB := SB) hI hAC hib (.inl ek)]
              exact ey
            · refine ⟨m 189 n, .inl ⟨.inr ek, rfl⟩, ?_⟩
              rw [ng_o (G := gL) (SA := SA) (SB := SB) hI hAC hib (.inl ek)]
              exact ⟨ey, hTR n n1 ek⟩
          · subst hk
            obtain ⟨R, hR9⟩ := ng_9 (G := gL) (SA := SA) (SB := SB) hI hAC hib ek
            refine ⟨-1, .inr (.inr ⟨ek, rfl⟩), ?_⟩
            rw [hR9, hy]
            exact lL_nil
          · subst hk
            obtain ⟨x', y1, y2, y3⟩ := ng_2 (G := gL) (SA := SA) (SB := SB) hI hAC hib ek
            have exx : x = x' := nI_inj (by omega) (by omega) (x2.symm.trans y2)
            subst exx
            refine ⟨arg, .inr (.inl ⟨ek, rfl⟩), ?_⟩
            rw [y3, hy, h1c 165 b (by omega) (by omega), q2]
            exact GVt_m hm.1 hm.2 x _ _ _ _ _ _ _ _ _ _ hLE _ _ x5
        obtain ⟨xr, hx, hrel⟩ := hv
        exact hK1 xr A B h (s + 1) l o (w' 165) φ w' (T + 1) (ev_v hs6 hx) (ZG_1 hs hl) c1 c2 hLE hLP (by rw [c4]; exact hrel) (by omega)
end MMT
