/-! ===== the machine of copies is the evaluator ===== -/
section MMT
variable {L : Nat} {xs : Nat → Int32} {d : Nat} {ml : mm_G} {NB ND NF : Nat} {m : mm_P} {C : Nat → mm_P → Prop} {Cl : List CTy}
theorem cc_ev (hturn : ∀ T w k, T < 100000 → k < 600 → w 170 10 = nI (k + 1) → w 162 5 = 0 → mm_cq (mm_call mm_ms (mm_tb L xs) (d + 7)) 69 [mm_R 170] w ml (fun o a b => o = none ∧ b = ml ∧ C (T + 1) a) → C T w) (hI : IM m NB ND NF) (hP : CPG NB ND NF m ml Cl) (hTR : ∀ n, n < ND → m 188 n = 1 → m 189 n = 0 ∨ m 189 n = 1) : ∀ j, CLSc C ND m ml Cl j := by
  obtain ⟨hPG, hN, ⟨h31, h60⟩, hC⟩ := id hP
  have hND := hI.1.2.1
  have hNF := hI.1.2.2
  have hKW0 := hPG.1.1
  have hKW : ∀ (w1 : mm_P), (∀ c i, c < 160 → w1 c i = m c i) → KW NB ND NF w1 := fun w1 h => ⟨⟨(h 1 1 (by decide)).trans hKW0.1.1, (h 3 5 (by decide)).trans hKW0.1.2.1, (h 9 7 (by decide)).trans hKW0.1.2.2⟩, hKW0.2⟩
  have hOK : ∀ (w1 : mm_P) n, n < ND → (∀ c i, c < 160 → w1 c i = m c i) → okK NB w1 n := fun w1 n hn h => okK_e (hPG.1.2.1 n hn) (fun c i q => h c i (by omega))
  have hKP : ∀ (w1 : mm_P) n i, (∀ c i, c < 160 → w1 c i = m c i) → k_part w1 n i = k_part m n i := fun w1 n i h => by
    unfold k_part
    rw [h 4 n (by decide), h 6 _ (by decide), h 6 _ (by decide)]
  intro j
  induction j with
  | zero =>
    intro w k t p o s l T A B h φ K ci n arg hW h172 h173 hpre hK1 hK0
    obtain ⟨-, -, -, -, -, ⟨bo, n1, -⟩, hj⟩ := hpre
    have := (hI.2.2.2.2.1 n n1).2.1
    omega
  | succ j ih =>
    intro w k t p o s l T A B h φ K ci n arg hW h172 h173 hpre hK1 hK0
    obtain ⟨ho, ⟨hs, hl, hh, hT⟩, ⟨hp4, hpl⟩, hci, hARG, ⟨bo, n1, hbo, hbN, hBL, hd, htk⟩, hj⟩ := hpre
    obtain ⟨q1, q2, ⟨q3, q4, q5, q6⟩, q7, q8, q9, q10⟩ := id hW
    have hok := hI.2.2.2.2.1 n n1
    have hdep := hok.2.1
    have k4 : m 4 n = m 188 n := (hN.2 n n1).1
    have w4 : w 4 n = m 188 n := (q1 4 n (by decide)).trans k4
    obtain ⟨o', eo⟩ : ∃ o', o = o' + 1 := ⟨o - 1, by omega⟩
    have hs6 : ¬ s = 600 := by omega
    obtain ⟨hOT, h32, ⟨hAS, hRS, h36, h37⟩, b', b'1, b'2, b'5, b'3, hnode⟩ := hC ci hci
    have ebo : b' = bo := nI_ij (by omega) (by omega) (b'2.symm.trans hbo)
    subst ebo
    obtain ⟨hsn, hwn, hcn⟩ := hnode n hBL
    have hcl : CLs (sgm ml (Cl.getD ci k_c0) n) := (sg_n hPG hOT n1 hsn).2
    have w16 := wd_16 hcl
    -- parts
    have hpt : ∀ i : Nat, i < 3 → (i : Int) < (f_parts (m 188 n)).toInt → (kpt m n i < ND ∧ k_part m n i = nI (kpt m n i) ∧ f_part m n (nI i) = nI (kpt m n i)) ∧ BL m b' (kpt m n i) ∧ ((m 193 (kpt m n i)).toInt < (m 193 n).toInt ∧ 1 ≤ (m 193 (kpt m n i)).toInt) ∧ NDC m ml Cl ci (kpt m n i) ∧ CLs (sgm ml (Cl.getD ci k_c0) (kpt m n i)) := fun i i3 hi => by
      obtain ⟨r1, r2⟩ := kpt_r hPG n1 (i := i) (by rw [k4]; exact hi)
      have e1 : f_part m n (nI i) = nI (kpt m n i) := (kp_fp hN n1 i3 hi).symm.trans r2
      obtain ⟨q, y1, y2, y3⟩ := f_part_r (i := nI i) hok (by rw [mm_tI (by omega)]; omega) (by rw [mm_tI (by omega)]; exact hi)
      have eq : q = kpt m n i := nI_ij (by omega) (by omega) (y2.symm.trans e1)
      rw [eq] at y3
      have hb := BL_t hBL (BL_p (i := i) (by rw [k4]; exact hi) (by rw [r2, nI_clamp (by omega)]; exact BL_r))
      have nd := hnode _ hb
      have dq := (hI.2.2.2.2.1 (kpt m n i) (by omega)).2.1
      exact ⟨⟨by omega, r2, e1⟩, hb, ⟨by omega, dq.1⟩, nd, (sg_n hPG hOT (by omega) nd.1).2⟩
    -- turns of this node
    have hW1 : ∀ (v : Int32), WCc m (mm_u w 173 k v) K t p (k + 1) o (s + 1) l := fun v => ⟨fun c i q => (mm_u_e (by omega)).trans (q1 c i q), fun i => (mm_u_e (by decide)).trans (q2 i), ⟨(mm_u_e (by decide)).trans q3, (mm_u_e (by decide)).trans q4, (mm_u_e (by decide)).trans q5, (mm_u_e (by decide)).trans q6⟩, (mm_u_e (by decide)).trans q7, (mm_u_e (by decide)).trans q8, (mm_u_e (by decide)).trans q9, (mm_u_e (by decide)).trans q10⟩
    have hCG1 : ∀ (v : Int32), CGc k t p o w (mm_u w 173 k v) := fun v c i a1 a2 a3 a4 a5 a6 a7 => mm_u_o (by omega)
    have hlow : ∀ (v : Int32) c i, c < 160 → mm_u w 173 k v c i = m c i := fun v => (hW1 v).1
    have hQ : ∀ {D c : Nat} {As : List mm_V} {w1 : mm_P} {T1 : Nat}, mm_cq (mm_call mm_ms (mm_tb L xs) D) c As w1 ml (fun o a b => o = none ∧ b = ml ∧ C T1 a) → mm_cq (mm_call mm_ms (mm_tb L xs) D) c As w1 ml (fun o a b => o = none ∧ ((none : Option mm_V) = none ∧ b = ml ∧ C T1 a)) := fun {D c As w1 T1} hq => mm_cq_m (mm_call_m _) hq (fun o a b ⟨e1, e2, e3⟩ => ⟨e1, rfl, e2, e3⟩)
    have hQ2 : ∀ {D c : Nat} {As : List mm_V} {w1 : mm_P} {T1 : Nat}, mm_cq (mm_call mm_ms (mm_tb L xs) D) c As w1 ml (fun o a b => o = none ∧ b = ml ∧ C T1 a) → mm_cq (mm_call mm_ms (mm_tb L xs) D) c As w1 ml (fun o a b => o = none ∧ ((none : Option mm_V) = none ∧ ((none : Option mm_V) = none ∧ b = ml ∧ C T1 a))) := fun {D c As w1 T1} hq => mm_cq_m (mm_call_m _) hq (fun o a b ⟨e1, e2, e3⟩ => ⟨e1, rfl, rfl, e2, e3⟩)
    -- the argument stands later too
    have hARGm : ∀ {w3 : mm_P} {K2 A2 B2 : HF} {h2 p2 : Nat} {φ2 : Nat → Nat}, w3 174 (o - 1) = w 174 (o - 1) → w3 175 (o - 1) = w 175 (o - 1) → (∀ i, i < t → K2 i = K i) → FE 4096 A B h p K φ A2 B2 h2 p2 K2 φ2 → ∀ t2, t ≤ t2 → ∃ b, w3 174 (o - 1) = nI ci ∧ w3 175 (o - 1) = nI b ∧ b + wd (cAS ml (Cl.getD ci k_c0)) ≤ t2 ∧ (qV 4096 (cAS ml (Cl.getD ci k_c0))).1 A2 B2 h2 p2 K2 φ2 arg (fun i => K2 (b + i)) := fun {w3 K2 A2 B2 h2 p2 φ2} e1 e2 hK hE t2 ht2 => by
      obtain ⟨b, x1, x2, x3, x4⟩ := hARG
      exact ⟨b, e1.trans x1, e2.trans x2, by omega, qV_m hAS hE (fun i hi => hK _ (by omega)) x4⟩
    -- the first part
    have hfirst : ∀ (D : Nat), 1 ≤ (f_parts (m 188 n)).toInt → (∀ x A2 B2 h2 s2 l2 p2 K2 φ2 w3 T2, ev m (j + 1) arg n A B h s l o = ev2 m (ev m j) arg n x A2 B2 h2 s2 l2 o → ZG A B h (s + 1) o A2 B2 h2 s2 l2 o → WCc m w3 K2 (t + wd (sgm ml (Cl.getD ci k_c0) (kpt m n 0))) p2 (k + 1) o s2 l2 → (4096 ≤ p2 ∧ p2 ≤ 5000 + 9 * l2) → CGc k t p o w w3 → w3 172 k = nI n → w3 173 k = nI 1 → FE 4096 A B h p K φ A2 B2 h2 p2 K2 φ2 → (qV 4096 (sgm ml (Cl.getD ci k_c0) (kpt m n 0))).1 A2 B2 h2 p2 K2 φ2 x (fun i => K2 (t + i)) → T2 ≤ T + 1 + 4 * (s2 - (s + 1)) → C T2 w3) → mm_cq (mm_call mm_ms (mm_tb L xs) (D + 2)) 68 [mm_R 170, mm_I (k_part m n 0)] (mm_u w 173 k (nI (0 + 1))) ml (fun o a b => o = none ∧ b = ml ∧ C (T + 1) a) := fun D hp1 hK => by
      have h0 : ¬ m 188 n = 0 := fun q => by rw [q] at hp1; exact absurd hp1 (by decide)
      have h1 : ¬ m 188 n = 1 := fun q => by rw [q] at hp1; exact absurd hp1 (by decide)
      have h2 : ¬ m 188 n = 2 := fun q => by rw [q] at hp1; exact absurd hp1 (by decide)
      have h9 : ¬ m 188 n = 9 := fun q => by rw [q] at hp1; exact absurd hp1 (by decide)
      obtain ⟨⟨p1, p2, p3⟩, hb0, ⟨d1, d2⟩, nd0, cl0⟩ := hpt 0 (by decide) (by omega)
      have epm : (f_part m n 0).toNatClampNeg = kpt m n 0 := by
        rw [show f_part m n 0 = nI (kpt m n 0) from p3]
        exact nI_clamp (by omega)
      rw [p2]
      refine cc_bg (d := D) (ci := ci) (φ := φ) (A := A) (B := B) (h := h) (arg := arg) ih rfl (hW1 (nI (0 + 1))) (by omega) (by omega) (fun h6 w2 e174 e175 => ?_) (by omega) (by omega) (fun h6 w2 hCG2 => ?_) ?_
      · exact ⟨ho, ⟨h6, hl, by omega, by omega⟩, ⟨hp4, hpl⟩, hci, hARGm (e174.trans (mm_u_e (by decide))) (e175.trans (mm_u_e (by decide))) (fun _ _ => rfl) FE_r t (Nat.le_refl _), ⟨b', p1, hbo, hbN, hb0, by omega, by omega⟩, by omega⟩
      · intro x A2 B2 h2' s2 l2 o2 p2' K2 φ2 w3 T2 he hG hW3 hb3 hCG3 hE hty hT2
        have ho2 : o2 = o := hG.2.2.2.1
        subst ho2
        have cg13 := CGc_t hCG2 hCG3 (Nat.le_refl _) (Nat.le_refl _) (Nat.le_refl _) (Nat.le_refl _)
        refine hK x A2 B2 h2' s2 l2 p2' K2 φ2 w3 T2 ?_ hG hW3 hb3 (CGc_t (hCG1 _) cg13 (by omega) (Nat.le_refl _) (Nat.le_refl _) (Nat.le_refl _)) ((cg13 172 k (by omega) (by omega) (by omega) (by omega) (by omega) (by decide) (by decide)).trans ((mm_u_e (by decide)).trans h172)) ((cg13 173 k (by omega) (by omega) (by omega) (by omega) (by omega) (by decide) (by decide)).trans mm_u_s) hE hty hT2
        rw [← epm] at he
        rw [ev_n hs6 h0 h1 h2 h9 he, if_pos rfl]
      · intro e x A2 B2 h2' s2 l2 o2 w3 T2 he hne e0 e5 e1 hT2
        refine hK0 e x A2 B2 h2' s2 l2 o2 w3 T2 ?_ hne e0 e5 e1 hT2
        rw [← epm] at he
        rw [ev_n hs6 h0 h1 h2 h9 he, if_neg hne]
    refine hturn T w k (by omega) (by omega) q5 q9 (tm_turn (d := d) (τ := 0) (hKW w q1) (hOK w n n1 q1) n1 q5 (by omega) h172 h173 (by decide) (fun z => ?_) (fun z => ?_) (fun z5 z14 zp => ?_) (fun z5 z14 zp => ?_))
    · -- IF
      rw [w4] at z
      obtain ⟨s5a, s5b, s5c⟩ := sg_k5 hPG hOT n1 hsn (k4.trans z)
      refine tm_if (d := d) (t := 0) (k := 0) (hKW _ (hlow _)) (hOK _ n n1 (hlow _)) n1 ((hlow _ 4 n (by decide)).trans (k4.trans z)) (by decide) (fun _ => ?_) (fun y => absurd y (by decide)) (fun y => absurd y (by decide))
      rw [hKP _ n 0 (hlow _)]
      refine hQ2 (hfirst (d + 3) (by rw [z]; decide) (fun x A2 B2 h2 s2 l2 p2 K2 φ2 w3 T2 hev hG hW3 hb3 hCG3 e172 e173 hE hty hT2 => ?_))
      obtain ⟨r1, r2, ⟨r3, r4, r5, r6⟩, r7, r8, r9, r10⟩ := id hW3
      obtain ⟨⟨g1, g2⟩, ⟨g3, g4⟩, g5, -, g7⟩ := id hG
      rw [s5a, wd_01.2] at r3
      rw [s5a, qV_1] at hty
      replace hty : K2 t = x ∧ (x = 0 ∨ x = 1) := hty
      have hK2t : ∀ i, i < t → K2 i = K i := fun i hi => by
        rw [← r2, ← q2]
        exact hCG3 171 i (by omega) (by omega) (by omega) (by omega) (by omega) (by decide) (by decide)
      refine hturn T2 w3 k (by omega) (by omega) r5 r9 (tm_turn (d := d) (τ := 1) (hKW w3 r1) (hOK w3 n n1 r1) n1 r5 (by omega) e172 e173 (by decide) (fun _ => ?_) (fun y => absurd (((r1 4 n (by decide)).trans (k4.trans z)).symm.trans y) (by decide)) (fun y _ _ => absurd ((r1 4 n (by decide)).trans (k4.trans z)) y) (fun y _ _ => absurd ((r1 4 n (by decide)).trans (k4.trans z)) y))
      have lo3 : ∀ c i, c < 160 → mm_u w3 173 k (nI (1 + 1)) c i = m c i := fun c i q => (mm_u_e (by omega)).trans (r1 c i q)
      -- a branch
      have hbr : ∀ (i : Nat), i < 3 → 1 ≤ i → (if x = 1 then m 190 n else m 191 n) = f_part m n (nI i) → sgm ml (Cl.getD ci k_c0) (kpt m n i) = sgm ml (Cl.getD ci k_c0) n → mm_cq (mm_call mm_ms (mm_tb L xs) (d + 5)) 68 [mm_R 170, mm_I (k_part m n i)] (mm_u (mm_u w3 173 k (nI (1 + 1))) 170 8 (nI t)) ml (fun o a b => o = none ∧ b = ml ∧ C (T2 + 1) a) := fun i i3 i1 hsel hsg => by
        have hp3 : (i : Int) < (f_parts (m 188 n)).toInt := by
          have : (f_parts (m 188 n)).toInt = 3 := by rw [z]; rfl
          omega
        obtain ⟨⟨p1, p2i, p3⟩, hbi, ⟨d1, d2⟩, ndi, cli⟩ := hpt i i3 hp3
        have eqm : (if x = 1 then m 190 n else m 191 n).toNatClampNeg = kpt m n i := by rw [hsel, p3]; exact nI_clamp (by omega)
        rw [p2i]
        have hW4 : WCc m (mm_u (mm_u w3 173 k (nI (1 + 1))) 170 8 (nI t)) K2 t p2 (k + 1) o s2 l2 := ⟨fun c i q => (mm_u_e (by omega)).trans (lo3 c i q), fun i => by rw [mm_u_e (by decide), mm_u_e (by decide)]; exact r2 i, ⟨mm_u_s, by rw [mm_u_f (by decide), mm_u_e (by decide)]; exact r4, by rw [mm_u_f (by decide), mm_u_e (by decide)]; exact r5, by rw [mm_u_f (by decide), mm_u_e (by decide)]; exact r6⟩, by rw [mm_u_e (by decide), mm_u_e (by decide)]; exact r7, by rw [mm_u_e (by decide), mm_u_e (by decide)]; exact r8, by rw [mm_u_e (by decide), mm_u_e (by decide)]; exact r9, by rw [mm_u_e (by decide), mm_u_e (by decide)]; exact r10⟩
        have cg4 : CGc k t p2 o w3 (mm_u (mm_u w3 173 k (nI (1 + 1))) 170 8 (nI t)) := fun c i a1 a2 a3 a4 a5 a6 a7 => by rw [mm_u_o (by omega), mm_u_o (by omega)]
        have hpp := hE.1.2
        have cgw : CGc k t p o w (mm_u (mm_u w3 173 k (nI (1 + 1))) 170 8 (nI t)) := CGc_t hCG3 cg4 (Nat.le_refl _) (Nat.le_refl _) hpp (Nat.le_refl _)
        refine cc_bg (d := d + 3) (ci := ci) (φ := φ2) (A := A2) (B := B2) (h := h2) (arg := arg) ih hsg.symm hW4 g2 (by omega) (fun h6 w5 e174 e175 => ?_) (by omega) (by omega) (fun h6 w5 hCG5 => ?_) ?_
        · refine ⟨ho, ⟨h6, g5, by omega, by omega⟩, hb3, hci, hARGm (e174.trans ?_) (e175.trans ?_) hK2t hE t (Nat.le_refl _), ⟨b', p1, hbo, hbN, hbi, by omega, by omega⟩, by omega⟩
          · exact cgw 174 (o - 1) (by omega) (by omega) (by omega) (by omega) (by omega) (by decide) (by decide)
          · exact cgw 175 (o - 1) (by omega) (by omega) (by omega) (by omega) (by omega) (by decide) (by decide)
        · intro u A4 B4 h4 s4 l4 o4 p4 K4 φ4 w6 T4 he hG4 hW6 hb6 hCG6 hE4 hty4 hT4
          have ho4 : o4 = o := hG4.2.2.2.1
          subst ho4
          obtain ⟨⟨f1, f2⟩, ⟨f3, f4⟩, f5, -, f7⟩ := id hG4
          obtain ⟨v1, v2, ⟨v3, v4, v5, v6⟩, v7, v8, v9, v10⟩ := id hW6
          have cg56 := CGc_t hCG5 hCG6 (Nat.le_refl _) (Nat.le_refl _) (Nat.le_refl _) (Nat.le_refl _)
          have e172' : w6 172 k = nI n := (cg56 172 k (by omega) (by omega) (by omega) (by omega) (by omega) (by decide) (by decide)).trans (by rw [mm_u_e (by decide), mm_u_e (by decide)]; exact e172)
          have e173' : w6 173 k = nI 2 := (cg56 173 k (by omega) (by omega) (by omega) (by omega) (by omega) (by decide) (by decide)).trans (by rw [mm_u_e (by decide), mm_u_s])
          refine hturn T4 w6 k (by omega) (by omega) v5 v9 (tm_turn (d := d) (τ := 2) (hKW w6 v1) (hOK w6 n n1 v1) n1 v5 (by omega) e172' e173' (by decide) (fun _ => ?_) (fun y => absurd (((v1 4 n (by decide)).trans (k4.trans z)).symm.trans y) (by decide)) (fun y _ _ => absurd ((v1 4 n (by decide)).trans (k4.trans z)) y) (fun y _ _ => absurd ((v1 4 n (by decide)).trans (k4.trans z)) y))
          have lo6 : ∀ c i, c < 160 → mm_u w6 173 k (nI (2 + 1)) c i = m c i := fun c i q => (mm_u_e (by omega)).trans (v1 c i q)
          refine tm_if (d := d) (t := 0) (k := 0) (hKW _ lo6) (hOK _ n n1 lo6) n1 ((lo6 4 n (by decide)).trans (k4.trans z)) (by decide) (fun y => absurd y (by decide)) (fun y => absurd y (by decide)) (fun _ => ⟨rfl, rfl, rfl, ?_⟩)
          have e10 : mm_u w6 173 k (nI (2 + 1)) 170 10 - 1 = nI k := by rw [mm_u_e (by decide), v5, mm_dec' k (by omega)]
          rw [e10]
          have cg6 : CGc k t p o4 w w6 := CGc_t cgw cg56 (by omega) (Nat.le_refl _) hpp (Nat.le_refl _)
          refine hK1 u A4 B4 h4 s4 l4 o4 p4 K4 φ4 _ (T4 + 1) (hev.trans ((ev2_5 z).trans (by rw [eqm]; exact he))) (ZG_t (ZG_p hG) hG4) ⟨fun c i q => (mm_u_e (by omega)).trans (lo6 c i q), fun i => by rw [mm_u_e (by decide), mm_u_e (by decide)]; exact v2 i, ⟨by rw [mm_u_f (by decide), mm_u_e (by decide)]; exact v3, by rw [mm_u_f (by decide), mm_u_e (by decide)]; exact v4, mm_u_s, by rw [mm_u_f (by decide), mm_u_e (by decide)]; exact v6⟩, by rw [mm_u_e (by decide), mm_u_e (by decide)]; exact v7, by rw [mm_u_e (by decide), mm_u_e (by decide)]; exact v8, by rw [mm_u_e (by decide), mm_u_e (by decide)]; exact v9, by rw [mm_u_e (by decide), mm_u_e (by decide)]; exact v10⟩ hb6 (fun c i a1 a2 a3 a4 a5 a6 a7 => ?_) (FE_t hE hE4) hty4 (by omega)
          rw [mm_u_o (by omega), mm_u_o (by omega)]
          exact cg6 c i a1 a2 a3 a4 a5 a6 a7
        · intro e u A4 B4 h4 s4 l4 o4 w6 T4 he hne a0 a5 a1 hT4
          exact hK0 e u A4 B4 h4 s4 l4 o4 w6 T4 (hev.trans ((ev2_5 z).trans (by rw [eqm]; exact he))) hne a0 a5 a1 hT4
      refine tm_if (d := d) (t := 0) (k := 0) (hKW _ lo3) (hOK _ n n1 lo3) n1 ((lo3 4 n (by decide)).trans (k4.trans z)) (by decide) (fun y => absurd y (by decide)) (fun _ => ⟨t, (mm_u_e (by decide)).trans r3, by omega, fun y => ?_, fun y => ?_⟩) (fun y => absurd y (by decide))
      · rw [hKP _ n 2 lo3]
        rw [mm_u_e (by decide), r2] at y
        have hx : ¬ x = 1 := fun q => by
          rw [hty.1, q] at y
          exact absurd y (by decide)
        have e2 : f_part m n (nI 2) = m 191 n := by
          unfold f_part
          rw [if_neg (by rw [z]; decide), if_neg (by decide), if_neg (by decide)]
        exact hQ2 (hbr 2 (by decide) (by decide) (by rw [if_neg hx, e2]) s5c)
      · rw [hKP _ n 1 lo3]
        rw [mm_u_e (by decide), r2] at y
        have hx : x = 1 := hty.2.resolve_left (fun q => y (by rw [hty.1, q]))
        have e1 : f_part m n (nI 1) = m 190 n := by
          unfold f_part
          rw [if_neg (by rw [z]; decide), if_neg (by decide), if_pos (show nI 1 = 1 from rfl)]
        exact hQ2 (hbr 1 (by decide) (by decide) (by rw [if_pos hx, e1]) s5b)
    · -- CALL
      rw [w4] at z
      obtain ⟨hg, e6, hOTg, sA, sR⟩ := sg_k14 hPG hOT n1 hsn (k4.trans z)
      obtain ⟨cj, hcj, ecj, e100⟩ := hcn (k4.trans z)
      obtain ⟨hOTj, h32j, ⟨hASj, hRSj, h36j, h37j⟩, bj, bj1, bj2, bj5, bj3, hnodej⟩ := hC cj hcj
      have eg : (Cl.getD cj k_c0).1 = k_cg m n := by
        rw [ecj]
        rfl
      have eAS : cAS ml (Cl.getD cj k_c0) = sgm ml (Cl.getD ci k_c0) (kpt m n 0) := by
        rw [ecj, sA]
        rfl
      have eRS : cRS ml (Cl.getD cj k_c0) = sgm ml (Cl.getD ci k_c0) n := by
        rw [ecj, sR]
        rfl
      have e189 : m 189 n = nI (k_cg m n) := ((hN.2 n n1).2.2.1 (by rw [z]; decide)).symm.trans e6
      have ebm : (m 197 (m 189 n).toNatClampNeg).toNatClampNeg = bj := by
        rw [e189, nI_clamp (by omega), ← eg, bj5]
        exact nI_clamp (by omega)
      have hdb := (hI.2.2.2.2.1 bj bj1).2.1
      have e4 : ∀ (w1 : mm_P), (∀ c i, c < 160 → w1 c i = m c i) → w1 4 n = 14 := fun w1 hw => (hw 4 n (by decide)).trans (k4.trans z)
      have n5 : ∀ {P : Prop} (w1 : mm_P), (∀ c i, c < 160 → w1 c i = m c i) → w1 4 n = 5 → P := fun w1 hw y => absurd ((e4 w1 hw).symm.trans y) (by decide)
      refine tm_call (d := d) (N := Cl.length) (hKW _ (hlow _)) (hOK _ n n1 (hlow _)) n1 (e4 _ (hlow _)) (by decide) ((hlow _ 31 12 (by decide)).trans h31) h60 (fun _ => ?_) (fun y => absurd y (by decide)) (fun y => absurd y (by decide))
      rw [hKP _ n 0 (hlow _)]
      refine hQ2 (hfirst (d + 3) (by rw [z]; decide) (fun x A2 B2 h2 s2 l2 p2 K2 φ2 w3 T2 hev hG hW3 hb3 hCG3 e172 e173 hE hty hT2 => ?_))
      rw [← eAS] at hty hW3
      obtain ⟨r1, r2, ⟨r3, r4, r5, r6⟩, r7, r8, r9, r10⟩ := id hW3
      obtain ⟨⟨f1, f2⟩, ⟨f3, f4⟩, f5, -, f7⟩ := id hG
      have wA := wd_16 hASj
      have wR := wd_16 hRSj
      obtain ⟨b0, x1, x2, x3, x4⟩ := hARG
      have e174w : w3 174 (o - 1) = nI ci := (hCG3 174 (o - 1) (by omega) (by omega) (by omega) (by omega) (by omega) (by decide) (by decide)).trans x1
      refine hturn T2 w3 k (by omega) (by omega) r5 r9 (tm_turn (d := d) (τ := 1) (hKW w3 r1) (hOK w3 n n1 r1) n1 r5 (by omega) e172 e173 (by decide) (fun y => n5 w3 r1 y) (fun _ => ?_) (fun _ y _ => absurd (e4 w3 r1) y) (fun _ y _ => absurd (e4 w3 r1) y))
      have lo3 : ∀ c i, c < 160 → mm_u w3 173 k (nI (1 + 1)) c i = m c i := fun c i q => (mm_u_e (by omega)).trans (r1 c i q)
      refine tm_call (d := d) (N := Cl.length) (hKW _ lo3) (hOK _ n n1 lo3) n1 (e4 _ lo3) (by decide) ((lo3 31 12 (by decide)).trans h31) h60 (fun y => absurd y (by decide)) (fun _ => ⟨o, t, wd (cAS ml (Cl.getD cj k_c0)), ci, cj, k_cg m n, ⟨ho.1, ho.2, (mm_u_e (by decide)).trans r6, (mm_u_e (by decide)).trans r3, by omega, (mm_u_e (by decide)).trans r9⟩, ⟨hci, hcj, hg⟩, ⟨(mm_u_e (by decide)).trans e174w, (lo3 (100 + ci) n (by omega)).trans e100, (lo3 36 cj (by decide)).trans h36j, (lo3 32 cj (by decide)).trans (h32j.trans (by rw [eg]))⟩, fun o30 => ⟨rfl, rfl, rfl, ?_⟩, fun o30 y => ?_⟩) (fun y => absurd y (by decide))
      · subst o30
        exact hK0 3 0 A2 B2 h2 s2 l2 30 _ (T2 + 1) (hev.trans (ev2_30 z)) (by decide) (fun c i q => (mm_u_e (by omega)).trans (lo3 c i q)) mm_u_s (by rw [mm_u_f (by decide), mm_u_e (by decide)]; exact r10) (by omega)
      · rw [lo3 15 (k_cg m n) (by decide), ← eg, bj2]
        generalize hw4 : mm_u (mm_u (mm_u (mm_u (mm_u w3 173 k (nI (1 + 1))) 174 o (nI cj)) 175 o (nI t)) 170 11 (nI (o + 1))) 162 4 y = w4'
        have hq4 : ∀ c i, ¬ (c = 173 ∧ i = k) → ¬ (c = 174 ∧ i = o) → ¬ (c = 175 ∧ i = o) → ¬ (c = 170 ∧ i = 11) → ¬ (c = 162 ∧ i = 4) → w4' c i = w3 c i := fun c i a b e f g => by rw [← hw4, mm_u_o g, mm_u_o f, mm_u_o e, mm_u_o b, mm_u_o a]
        have e174 : w4' 174 o = nI cj := by rw [← hw4, mm_u_e (by decide), mm_u_e (by decide), mm_u_e (by decide), mm_u_s]
        have e175 : w4' 175 o = nI t := by rw [← hw4, mm_u_e (by decide), mm_u_e (by decide), mm_u_s]
        have e411 : w4' 170 11 = nI (o + 1) := by rw [← hw4, mm_u_e (by decide), mm_u_s]
        have e4173 : w4' 173 k = nI 2 := by rw [← hw4, mm_u_e (by decide), mm_u_e (by decide), mm_u_e (by decide), mm_u_e (by decide), mm_u_s]
        have hW4 : WCc m w4' K2 (t + wd (cAS ml (Cl.getD cj k_c0))) p2 (k + 1) (o + 1) s2 l2 := ⟨fun c i q => (hq4 c i (by omega) (by omega) (by omega) (by omega) (by omega)).trans (r1 c i q), fun i => (hq4 171 i (by omega) (by omega) (by omega) (by omega) (by omega)).trans (r2 i), ⟨(hq4 170 8 (by omega) (by omega) (by omega) (by omega) (by omega)).trans r3, (hq4 170 9 (by omega) (by omega) (by omega) (by omega) (by omega)).trans r4, (hq4 170 10 (by omega) (by omega) (by omega) (by omega) (by omega)).trans r5, e411⟩, (hq4 162 2 (by omega) (by omega) (by omega) (by omega) (by omega)).trans r7, (hq4 162 3 (by omega) (by omega) (by omega) (by omega) (by omega)).trans r8, (hq4 162 5 (by omega) (by omega) (by omega) (by omega) (by omega)).trans r9, (hq4 162 1 (by omega) (by omega) (by omega) (by omega) (by omega)).trans r10⟩
        have cg4 : CGc k t p2 o w3 w4' := fun c i a1 a2 a3 a4 a5 a6 a7 => hq4 c i (by omega) (by omega) (by omega) (by omega) (by omega)
        have hpp := hE.1.2
        have cgw : CGc k t p o w w4' := CGc_t hCG3 cg4 (Nat.le_refl _) (Nat.le_refl _) hpp (Nat.le_refl _)
        refine hQ2 (cc_bg (d := d + 3) (ci := cj) (φ := φ2) (A := A2) (B := B2) (h := h2) (arg := x) (T := T2 + 1) ih bj3.symm hW4 f2 (by omega) (fun h6 w5 d174 d175 => ?_) (by omega) (by omega) (fun h6 w5 hCG5 => ?_) ?_)
        · exact ⟨⟨by omega, by omega⟩, ⟨h6, f5, by omega, by omega⟩, hb3, hcj, ⟨t, d174.trans e174, d175.trans e175, Nat.le_refl _, hty⟩, ⟨bj, bj1, bj2, bj1, BL_r, by omega, by omega⟩, by omega⟩
        · intro u A4 B4 h4 s4 l4 o4 p4 K4 φ4 w6 T4 he hG4 hW6 hb6 hCG6 hE4 hty4 hT4
          have ho4 : o4 = o + 1 := hG4.2.2.2.1
          subst ho4
          obtain ⟨⟨f1', f2'⟩, ⟨f3', f4'⟩, f5', -, f7'⟩ := id hG4
          obtain ⟨v1, v2, ⟨v3, v4, v5, v6⟩, v7, v8, v9, v10⟩ := id hW6
          have cg56 := CGc_t hCG5 hCG6 (Nat.le_refl _) (Nat.le_refl _) (Nat.le_refl _) (Nat.le_refl _)
          have e172' : w6 172 k = nI n := (cg56 172 k (by omega) (by omega) (by omega) (by omega) (by omega) (by decide) (by decide)).trans ((hq4 172 k (by omega) (by omega) (by omega) (by omega) (by omega)).trans e172)
          have e173' : w6 173 k = nI 2 := (cg56 173 k (by omega) (by omega) (by omega) (by omega) (by omega) (by decide) (by decide)).trans e4173
          have e174' : w6 174 o = nI cj := (cg56 174 o (by omega) (by omega) (by omega) (by omega) (by omega) (by decide) (by decide)).trans e174
          have lo6 : ∀ c i, c < 160 → mm_u w6 173 k (nI (2 + 1)) c i = m c i := fun c i q => (mm_u_e (by omega)).trans (v1 c i q)
          refine hturn T4 w6 k (by omega) (by omega) v5 v9 (tm_turn (d := d) (τ := 2) (hKW w6 v1) (hOK w6 n n1 v1) n1 v5 (by omega) e172' e173' (by decide) (fun y => n5 w6 v1 y) (fun _ => ?_) (fun _ y _ => absurd (e4 w6 v1) y) (fun _ y _ => absurd (e4 w6 v1) y))
          refine tm_call (d := d) (N := Cl.length) (hKW _ lo6) (hOK _ n n1 lo6) n1 (e4 _ lo6) (by decide) ((lo6 31 12 (by decide)).trans h31) h60 (fun y => absurd y (by decide)) (fun y => absurd y (by decide)) (fun _ => ⟨o, t, wd (cAS ml (Cl.getD cj k_c0)), wd (cRS ml (Cl.getD cj k_c0)), cj, ⟨(mm_u_e (by decide)).trans v6, o30, (mm_u_e (by decide)).trans e174', hcj, (lo6 36 cj (by decide)).trans h36j, (lo6 37 cj (by decide)).trans h37j, (mm_u_e (by decide)).trans (v3.trans (by rw [Nat.add_assoc])), by omega⟩, fun w7 y1 y2 y3 y4 => ⟨rfl, rfl, rfl, ?_⟩⟩)
          have e10 : w7 170 10 - 1 = nI k := by rw [y1 170 10 (by omega) (by omega), mm_u_e (by decide), v5, mm_dec' k (by omega)]
          rw [e10]
          generalize hw8 : mm_u w7 170 10 (nI k) = w8
          have z1 : ∀ c i, ¬ (c = 171 ∧ t ≤ i ∧ i < t + wd (cRS ml (Cl.getD cj k_c0))) → ¬ (c = 170 ∧ (i = 8 ∨ i = 11 ∨ i = 10)) → ¬ (c = 173 ∧ i = k) → w8 c i = w6 c i := fun c i a b e => by rw [← hw8, mm_u_o (by omega), y1 c i a (by omega), mm_u_o e]
          have z2 : ∀ i, i < wd (cRS ml (Cl.getD cj k_c0)) → w8 171 (t + i) = K4 (t + wd (cAS ml (Cl.getD cj k_c0)) + i) := fun i hi => by rw [← hw8, mm_u_e (by decide), y2 i hi, mm_u_e (by decide), v2]
          have z8 : w8 170 8 = nI (t + wd (cRS ml (Cl.getD cj k_c0))) := by rw [← hw8, mm_u_f (by decide)]; exact y3
          have z11 : w8 170 11 = nI o := by rw [← hw8, mm_u_f (by decide)]; exact y4
          have z10 : w8 170 10 = nI k := by rw [← hw8, mm_u_s]
          have hE8 : FE 4096 A4 B4 h4 p4 K4 φ4 A4 B4 h4 p4 (w8 171) φ4 := ⟨⟨Nat.le_refl _, Nat.le_refl _⟩, fun _ _ => ⟨rfl, rfl, rfl⟩, fun i i1 i2 => (z1 171 i (by omega) (by omega) (by omega)).trans (v2 i)⟩
          have cg6 : CGc k t p o w w6 := CGc_t cgw cg56 (by omega) (by omega) hpp (by omega)
          refine hK1 u A4 B4 h4 s4 l4 o p4 (w8 171) φ4 w8 (T4 + 1) (hev.trans (ev2_14 z (by omega) (by rw [ebm]; exact he))) (ZG_t (ZG_p hG) (ZG_o hG4)) ⟨fun c i q => (z1 c i (by omega) (by omega) (by omega)).trans (v1 c i q), fun _ => rfl, ⟨by rw [← eRS]; exact z8, (z1 170 9 (by omega) (by omega) (by omega)).trans v4, z10, z11⟩, (z1 162 2 (by omega) (by omega) (by omega)).trans v7, (z1 162 3 (by omega) (by omega) (by omega)).trans v8, (z1 162 5 (by omega) (by omega) (by omega)).trans v9, (z1 162 1 (by omega) (by omega) (by omega)).trans v10⟩ hb6 (fun c i a1 a2 a3 a4 a5 a6 a7 => (z1 c i (by omega) (by omega) (by omega)).trans (cg6 c i a1 a2 a3 a4 a5 a6 a7)) (FE_t (FE_t hE hE4) hE8) ?_ (by omega)
          rw [← eRS]
          exact qV_m hRSj hE8 z2 hty4
        · intro e u A4 B4 h4 s4 l4 o4 w6 T4 he hne a0 a5 a1 hT4
          exact hK0 e u A4 B4 h4 s4 l4 o w6 T4 (hev.trans (ev2_14 z (by omega) (by rw [ebm]; exact he))) hne a0 a5 a1 hT4
    · -- parts
      rw [w4] at z5 z14 zp
      have hp1 : 1 ≤ (f_parts (m 188 n)).toInt := by omega
      obtain ⟨⟨u1, u2, u3⟩, hb0, ⟨du1, du2⟩, nd0, cl0⟩ := hpt 0 (by decide) (by omega)
      have w0b := wd_16 cl0
      rw [hKP w n 0 q1]
      refine hQ (hfirst (d + 4) hp1 (fun x A2 B2 h2 s2 l2 p2 K2 φ2 w3 T2 hev hG hW3 hb3 hCG3 e172 e173 hE hty hT2 => ?_))
      obtain ⟨r1, r2, ⟨r3, r4, r5, r6⟩, r7, r8, r9, r10⟩ := id hW3
      obtain ⟨⟨g1, g2⟩, ⟨g3, g4⟩, g5, -, g7⟩ := id hG
      have hpp := hE.1.2
      have w34 : w3 4 n = m 188 n := (r1 4 n (by decide)).trans k4
      have hK2t : ∀ i, i < t → K2 i = K i := fun i hi => by
        rw [← r2, ← q2]
        exact hCG3 171 i (by omega) (by omega) (by omega) (by omega) (by omega) (by decide) (by decide)
      refine hturn T2 w3 k (by omega) (by omega) r5 r9 (tm_turn (d := d) (τ := 1) (hKW w3 r1) (hOK w3 n n1 r1) n1 r5 (by omega) e172 e173 (by decide) (fun y => absurd (w34.symm.trans y) z5) (fun y => absurd (w34.symm.trans y) z14) (fun _ _ zq => ?_) (fun _ _ zq => ?_)) <;> rw [w34] at zq
      · -- the second part
        have zz : (f_parts (m 188 n)).toInt = 2 := by
          have := f_parts_in (m 188 n)
          rcases this with q | q | q | q
          · rw [q] at zq; exact absurd zq (by decide)
          · rw [q] at zq; exact absurd zq (by decide)
          · rw [q]; rfl
          · exfalso
            refine z5 ?_
            by_cases c : m 188 n = 5
            · exact c
            · exfalso
              unfold f_parts at q
              rw [if_neg c] at q
              split at q
              · exact absurd q (by decide)
              · split at q
                · exact absurd q (by decide)
                · split at q <;> exact absurd q (by decide)
        have z2 : f_parts (m 188 n) = 2 := Int32.toInt_inj.mp (by rw [zz]; rfl)
        obtain ⟨kq, ek, hkq⟩ := kd_two hok.1 z2
        obtain ⟨⟨t1, t2, t3⟩, hb1, ⟨dt1, dt2⟩, nd1, cl1⟩ := hpt 1 (by decide) (by rw [zz]; decide)
        have w1b := wd_16 cl1
        have w08 : wd (sgm ml (Cl.getD ci k_c0) (kpt m n 0)) ≤ 8 := by
          rcases hkq with rfl | rfl | rfl | rfl
          · rw [(sg_k3 hPG hOT n1 hsn (k4.trans ek)).1, wd_01.1]
            decide
          · rw [(sg_k4 hPG hOT n1 hsn (k4.trans ek)).1, wd_01.1]
            decide
          · obtain ⟨c1, -, c3, -⟩ := sg_k6 hPG hOT n1 hsn (k4.trans ek)
            exact (wd_8 c1 c3).2
          · obtain ⟨c1, c3, -⟩ := sg_k10 hPG hOT n1 hsn (k4.trans ek)
            exact (wd_8 c1 c3).2
        have e190 : f_part m n 1 = m 190 n := by
          unfold f_part
          rw [if_neg z14, if_neg (by decide), if_pos rfl]
        have em190 : m 190 n = nI (kpt m n 1) := e190.symm.trans t3
        have eqm : (m 190 n).toNatClampNeg = kpt m n 1 := by rw [em190]; exact nI_clamp (by omega)
        have ekp : k_part w3 n 1 = nI (kpt m n 1) := (hKP w3 n 1 r1).trans t2
        rw [ekp]
        have hW4 : WCc m (mm_u w3 173 k (nI (1 + 1))) K2 (t + wd (sgm ml (Cl.getD ci k_c0) (kpt m n 0))) p2 (k + 1) o s2 l2 := ⟨fun c i q => (mm_u_e (by omega)).trans (r1 c i q), fun i => (mm_u_e (by decide)).trans (r2 i), ⟨(mm_u_e (by decide)).trans r3, (mm_u_e (by decide)).trans r4, (mm_u_e (by decide)).trans r5, (mm_u_e (by decide)).trans r6⟩, (mm_u_e (by decide)).trans r7, (mm_u_e (by decide)).trans r8, (mm_u_e (by decide)).trans r9, (mm_u_e (by decide)).trans r10⟩
        have cg4 : CGc k t p2 o w3 (mm_u w3 173 k (nI (1 + 1))) := fun c i a1 a2 a3 a4 a5 a6 a7 => mm_u_o (by omega)
        have cgw : CGc k t p o w (mm_u w3 173 k (nI (1 + 1))) := CGc_t hCG3 cg4 (Nat.le_refl _) (Nat.le_refl _) hpp (Nat.le_refl _)
        refine hQ (cc_bg (d := d + 4) (ci := ci) (φ := φ2) (A := A2) (B := B2) (h := h2) (arg := arg) (T := T2 + 1) ih rfl hW4 g2 (by omega) (fun h6 w5 d174 d175 => ?_) (by omega) (by omega) (fun h6 w5 hCG5 => ?_) ?_)
        · refine ⟨ho, ⟨h6, g5, by omega, by omega⟩, hb3, hci, hARGm (d174.trans ?_) (d175.trans ?_) hK2t hE _ (by omega), ⟨b', t1, hbo, hbN, hb1, by omega, by omega⟩, by omega⟩
          · exact cgw 174 (o - 1) (by omega) (by omega) (by omega) (by omega) (by omega) (by decide) (by decide)
          · exact cgw 175 (o - 1) (by omega) (by omega) (by omega) (by omega) (by omega) (by decide) (by decide)
        · intro u A4 B4 h4 s4 l4 o4 p4 K4 φ4 w6 T4 he hG4 hW6 hb6 hCG6 hE4 hty4 hT4
          have ho4 : o4 = o := hG4.2.2.2.1
          subst ho4
          obtain ⟨⟨f1, f2⟩, ⟨f3, f4⟩, f5, -, f7⟩ := id hG4
          obtain ⟨v1, v2, ⟨v3, v4, v5, v6⟩, v7, v8, v9, v10⟩ := id hW6
          have cg56 := CGc_t hCG5 hCG6 (Nat.le_refl _) (Nat.le_refl _) (Nat.le_refl _) (Nat.le_refl _)
          have e172' : w6 172 k = nI n := (cg56 172 k (by omega) (by omega) (by omega) (by omega) (by omega) (by decide) (by decide)).trans ((mm_u_e (by decide)).trans e172)
          have e173' : w6 173 k = nI 2 := (cg56 173 k (by omega) (by omega) (by omega) (by omega) (by omega) (by decide) (by decide)).trans mm_u_s
          have eKt : ∀ i, i < t + wd (sgm ml (Cl.getD ci k_c0) (kpt m n 0)) → K4 i = K2 i := fun i hi => by
            rw [← v2, ← r2]
            exact (cg56 171 i (by omega) (by omega) (by omega) (by omega) (by omega) (by decide) (by decide)).trans (mm_u_e (by decide))
          have w64 : w6 4 n = m 188 n := (v1 4 n (by decide)).trans k4
          have hev3 : ev m (j + 1) arg n A B h s l o4 = ev3 m n x u A4 B4 h4 s4 l4 o4 := by
            rw [← eqm] at he
            rw [hev, ev2_2 z2 he, if_pos rfl]
          have ty1 := qV_m cl0 hE4 (c' := fun i => K4 (t + i)) (fun i hi => eKt _ (by omega)) hty
          refine hturn T4 w6 k (by omega) (by omega) v5 v9 (tm_turn (d := d) (τ := 2) (hKW w6 v1) (hOK w6 n n1 v1) n1 v5 (by omega) e172' e173' (by decide) (fun y => absurd (w64.symm.trans y) z5) (fun y => absurd (w64.symm.trans y) z14) (fun _ _ y => absurd (by rw [w64, zz] at y; exact y) (by decide)) (fun _ _ _ => ?_))
          rw [w64, ek]
          generalize hw7 : mm_u (mm_u w6 173 k (nI (2 + 1))) 170 10 (nI k) = w7
          have h1c : ∀ c i, ¬ (c = 173 ∧ i = k) → ¬ (c = 170 ∧ (i = 10 ∨ i = 8)) → w7 c i = w6 c i := fun c i a b => by rw [← hw7, mm_u_o (by omega), mm_u_o a]
          have h710 : w7 170 10 = nI k := by rw [← hw7, mm_u_s]
          have h78 : w7 170 8 = nI (t + wd (sgm ml (Cl.getD ci k_c0) (kpt m n 0)) + wd (sgm ml (Cl.getD ci k_c0) (kpt m n 1))) := by rw [← hw7, mm_u_f (by decide), mm_u_e (by decide)]; exact v3
          have lo7 : ∀ c i, c < 160 → w7 c i = m c i := fun c i q => (h1c c i (by omega) (by omega)).trans (v1 c i q)
          have w7K : ∀ i, w7 171 i = K4 i := fun i => (h1c 171 i (by omega) (by omega)).trans (v2 i)
          have h73 : w7 162 3 = nI l4 := (h1c 162 3 (by omega) (by omega)).trans v8
          have h79 : w7 170 9 = nI p4 := (h1c 170 9 (by omega) (by omega)).trans v4
          have h711 : w7 170 11 = nI (o' + 1) := (h1c 170 11 (by omega) (by omega)).trans (v6.trans (by rw [eo]))
          have hpp4 := hE4.1.2
          have cg6 : CGc k t p o4 w w6 := CGc_t cgw cg56 (by omega) (by omega) (by omega) (Nat.le_refl _)
          have hG2 : ZG A B h s o4 A4 B4 h4 s4 l4 o4 := ZG_t (ZG_p hG) hG4
          have hG3 : ZG A B h (s + 1) o4 A4 B4 h4 s4 l4 o4 := ZG_t hG hG4
          have hfin : ∀ (wv p5 : Nat) (xr : Int32) (A5 B5 : HF) (h5 l5 : Nat) (φ5 : Nat → Nat) (w' : mm_P), ev3 m n x u A4 B4 h4 s4 l4 o4 = (0, xr, A5, B5, h5, s4, l5, o4) → ZG A B h s o4 A5 B5 h5 s4 l5 o4 → wv = wd (sgm ml (Cl.getD ci k_c0) n) → (p4 ≤ p5 ∧ p5 ≤ 5000 + 9 * l5) → RPf w7 w' t wv p4 p5 → w' 162 3 = nI l5 → ((∀ i, 4096 ≤ i → i < p4 → w' 171 i = K4 i) → FE 4096 A4 B4 h4 p4 K4 φ4 A5 B5 h5 p5 (w' 171) φ5) → (FE 4096 A4 B4 h4 p4 K4 φ4 A5 B5 h5 p5 (w' 171) φ5 → (qV 4096 (sgm ml (Cl.getD ci k_c0) n)).1 A5 B5 h5 p5 (w' 171) φ5 xr (fun i => w' 171 (t + i))) → C (T4 + 1) w' := fun wv p5 xr A5 B5 h5 l5 φ5 w' hx hZ hwv hb5 hR h3 hE5 hrel => by
            subst hwv
            obtain ⟨c1, c2, c3⟩ := RPf_c hW6 (by omega) hb6.1 h1c h710 hR h3
            have hE6 := hE5 (fun i i1 i2 => c3 i (by omega))
            exact hK1 xr A5 B5 h5 s4 l5 o4 p5 (w' 171) φ5 w' (T4 + 1) (hev3.trans hx) hZ c1 ⟨by omega, hb5.2⟩ (CGc_t cg6 c2 (Nat.le_refl _) (Nat.le_refl _) (by omega) (Nat.le_refl _)) (FE_t (FE_t hE hE4) hE6) (hrel hE6) (by omega)
          have hE0 : ∀ w' : mm_P, (∀ i, 4096 ≤ i → i < p4 → w' 171 i = K4 i) → FE 4096 A4 B4 h4 p4 K4 φ4 A4 B4 h4 p4 (w' 171) φ4 := fun w' q => ⟨⟨Nat.le_refl _, Nat.le_refl _⟩, fun _ _ => ⟨rfl, rfl, rfl⟩, q⟩
          rcases hkq with rfl | rfl | rfl | rfl
          · obtain ⟨i1, i2, i3⟩ := sg_k3 hPG hOT n1 hsn (k4.trans ek)
            rw [i1, wd_01.1] at h78 hty4
            rw [i2, qV_0] at hty4
            rw [i1, qV_0] at ty1
            rw [i2, wd_01.1] at h78
            replace ty1 : K4 t = x := ty1
            replace hty4 : K4 (t + 1) = u := hty4
            refine tf_34 (d := d) (t := t) (p := p4) (.inl rfl) h78 (by omega) h79 (fun y w' hy hR h0 h3 => ⟨rfl, rfl, rfl, hfin 1 p4 (x + u) A4 B4 h4 l4 φ4 w' (ev3_3 ek) hG2 (by rw [i3]; exact wd_01.1.symm) ⟨Nat.le_refl _, hb6.2⟩ hR (h3.trans h73) (hE0 w') (fun _ => ?_)⟩)
            rw [i3, qV_0]
            rcases hy with ⟨-, hy⟩ | ⟨hk, -⟩
            · rw [w7K, w7K, ty1, hty4] at hy
              exact h0.trans hy
            · exact absurd hk (by decide)
          · obtain ⟨i1, i2, i3⟩ := sg_k4 hPG hOT n1 hsn (k4.trans ek)
            rw [i1, wd_01.1] at h78 hty4
            rw [i2, qV_0] at hty4
            rw [i1, qV_0] at ty1
            rw [i2, wd_01.1] at h78
            replace ty1 : K4 t = x := ty1
            replace hty4 : K4 (t + 1) = u := hty4
            refine tf_34 (d := d) (t := t) (p := p4) (.inr rfl) h78 (by omega) h79 (fun y w' hy hR h0 h3 => ⟨rfl, rfl, rfl, hfin 1 p4 (if u ≤ x then 0 else 1) A4 B4 h4 l4 φ4 w' (ev3_4 ek) hG2 (by rw [i3]; exact wd_01.2.symm) ⟨Nat.le_refl _, hb6.2⟩ hR (h3.trans h73) (hE0 w') (fun _ => ?_)⟩)
            rw [i3, qV_1]
            rcases hy with ⟨hk, -⟩ | ⟨-, hy⟩
            · exact absurd hk (by decide)
            · rw [w7K, w7K, ty1, hty4] at hy
              refine ⟨h0.trans hy, ?_⟩
              split
              · exact .inl rfl
              · exact .inr rfl
          · obtain ⟨i1, i2, i3, i4, i5⟩ := sg_k6 hPG hOT n1 hsn (k4.trans ek)
            have ew : wd (sgm ml (Cl.getD ci k_c0) n) = wd (sgm ml (Cl.getD ci k_c0) (kpt m n 0)) + wd (sgm ml (Cl.getD ci k_c0) (kpt m n 1)) := by rw [i5]; exact wd_pr i1 i2 i3 i4
            refine tf_6 (d := d) ⟨rfl, rfl, rfl, hfin _ p4 (nI h4) (fu A4 h4 x) (fu B4 h4 u) (h4 + 1) l4 φ4 w7 (ev3_6 ek) (ZG_c hG3 f5) ew.symm ⟨Nat.le_refl _, hb6.2⟩ ⟨fun _ _ _ _ _ => rfl, by rw [h78, Nat.add_assoc], h79⟩ h73 (fun q => ⟨⟨Nat.le_succ _, Nat.le_refl _⟩, fun a ha => ⟨fu_o (by omega), fu_o (by omega), rfl⟩, q⟩) (fun hE6 => ?_)⟩
            have e2 := (qV_w 4096 _ i1).1
            rw [i5, qV_pr i1 i2 i3 i4]
            refine ⟨h4, Nat.lt_succ_self _, rfl, ?_, ?_⟩
            · rw [fu_s]
              exact qV_m i1 hE6 (fun i hi => w7K _) ty1
            · rw [fu_s, e2]
              refine qV_m i2 hE6 (fun i hi => ?_) hty4
              show w7 171 (t + (wd (sgm ml (Cl.getD ci k_c0) (kpt m n 0)) + i)) = K4 (t + wd (sgm ml (Cl.getD ci k_c0) (kpt m n 0)) + i)
              rw [w7K, Nat.add_assoc]
          · obtain ⟨i1, i2, i3, i4⟩ := sg_k10 hPG hOT n1 hsn (k4.trans ek)
            have ew1 : wd (sgm ml (Cl.getD ci k_c0) n) = 1 := by rw [i3]; exact wd_ls i1 i2
            rw [i4] at h78 hty4
            rw [ew1] at h78
            refine tf_10 (d := d) (t := t) (p := p4) (wh := wd (sgm ml (Cl.getD ci k_c0) (kpt m n 0))) (N := Cl.length) (ci := ci) (p0 := kpt m n 0) (o := o') (l := l4) (hKW w7 lo7) (hOK w7 n n1 lo7) n1 (by rw [lo7 4 n (by decide), k4, zz]; decide) ((hKP w7 n 0 lo7).trans u2) u1 ((lo7 31 12 (by decide)).trans h31) h60 hci ((lo7 (39 + ci) _ (by omega)).trans nd0.2.1) h78 (by omega) h79 ⟨hb6.1, by omega⟩ h711 (by omega) ((h1c 174 o' (by omega) (by omega)).trans ?_) h73 f5 (fun hl5 w' hR e0 e1 e2 e3 => ⟨rfl, rfl, rfl, ?_⟩) (fun l100 => ⟨rfl, rfl, rfl, ?_⟩)
            · obtain ⟨b0, x1, -⟩ := hARG
              have := (cg6 174 (o4 - 1) (by omega) (by omega) (by omega) (by omega) (by omega) (by decide) (by decide)).trans x1
              rw [show o4 - 1 = o' by omega] at this
              exact this
            · refine hfin 1 (p4 + (1 + wd (sgm ml (Cl.getD ci k_c0) (kpt m n 0)))) (nI h4) (fu A4 h4 x) (fu B4 h4 u) (h4 + 1) (l4 + 1) (fφ φ4 h4 p4) w' (ev3_n (by rw [ek]; decide) (by rw [ek]; decide) (by rw [ek]; decide) (by omega)) (ZG_c hG3 (by omega)) ew1.symm ⟨by omega, by omega⟩ hR e3 (fun q => ⟨⟨Nat.le_succ _, by omega⟩, fun a ha => ⟨fu_o (by omega), fu_o (by omega), fφ_o (by omega)⟩, q⟩) (fun hE6 => ?_)
              have ew0 := (qV_w 4096 _ i1).1
              rw [i3, qV_ls i1 i2] at hty4 ⊢
              refine qL_link (Nat.lt_succ_self _) (by rw [fφ_s]; exact e0) (by rw [fφ_s, ew0]; exact ⟨hb6.1, by omega⟩) ?_ ?_
              · rw [fu_s, fφ_s]
                exact qV_m i1 hE6 (fun i hi => (e2 i hi).trans (w7K _)) ty1
              · rw [fu_s, fφ_s]
                exact (oFR_L (qV_w 4096 _ i1).2) _ _ _ _ _ _ _ _ _ _ _ _ hE6 _ _ _ (fun i hi => by
                  have : i = 0 := Nat.lt_one_iff.mp hi
                  subst this
                  exact e1.trans (w7K _)) hty4
            · subst l100
              exact hK0 4 0 A4 B4 h4 s4 100 o4 _ (T4 + 1) (hev3.trans (ev3_100 (by rw [ek]; decide) (by rw [ek]; decide) (by rw [ek]; decide))) (by decide) (fun c i q => by rw [mm_u_e (by omega), mm_u_e (by omega)]; exact lo7 c i q) mm_u_s (by rw [mm_u_f (by decide), mm_u_f (by decide)]; exact (h1c 162 1 (by omega) (by omega)).trans v10) (by omega)
        · intro e u A4 B4 h4 s4 l4 o4 w6 T4 he hne a0 a5 a1 hT4
          refine hK0 e u A4 B4 h4 s4 l4 o4 w6 T4 (hev.trans ?_) hne a0 a5 a1 hT4
          rw [← eqm] at he
          rw [ev2_2 z2 he, if_neg hne]
      · -- one part
        have z1 : f_parts (m 188 n) = 1 := Int32.toInt_inj.mp (by rw [show (1 : Int32).toInt = 1 from rfl]; omega)
        obtain ⟨kq, ek, hkq⟩ := kd_one hok.1 z14 z1
        rw [w34, ek]
        generalize hw7 : mm_u (mm_u w3 173 k (nI (1 + 1))) 170 10 (nI k) = w7
        have h1c : ∀ c i, ¬ (c = 173 ∧ i = k) → ¬ (c = 170 ∧ (i = 10 ∨ i = 8)) → w7 c i = w3 c i := fun c i a b => by rw [← hw7, mm_u_o (by omega), mm_u_o a]
        have h710 : w7 170 10 = nI k := by rw [← hw7, mm_u_s]
        have h78 : w7 170 8 = nI (t + wd (sgm ml (Cl.getD ci k_c0) (kpt m n 0))) := by rw [← hw7, mm_u_f (by decide), mm_u_e (by decide)]; exact r3
        have lo7 : ∀ c i, c < 160 → w7 c i = m c i := fun c i q => (h1c c i (by omega) (by omega)).trans (r1 c i q)
        have w7K : ∀ i, w7 171 i = K2 i := fun i => (h1c 171 i (by omega) (by omega)).trans (r2 i)
        have h73 : w7 162 3 = nI l2 := (h1c 162 3 (by omega) (by omega)).trans r8
        have h79 : w7 170 9 = nI p2 := (h1c 170 9 (by omega) (by omega)).trans r4
        have h711 : w7 170 11 = nI (o' + 1) := (h1c 170 11 (by omega) (by omega)).trans (r6.trans (by rw [eo]))
        have h174 : w7 174 o' = nI ci := by
          obtain ⟨b0, x1, -⟩ := hARG
          have := (hCG3 174 (o - 1) (by omega) (by omega) (by omega) (by omega) (by omega) (by decide) (by decide)).trans x1
          rw [show o - 1 = o' by omega] at this
          exact (h1c 174 o' (by omega) (by omega)).trans this
        have hfin : ∀ (wv : Nat) (xr : Int32) (w' : mm_P), ev2 m (ev m j) arg n x A2 B2 h2 s2 l2 o = (0, xr, A2, B2, h2, s2, l2, o) → wv = wd (sgm ml (Cl.getD ci k_c0) n) → RPf w7 w' t wv p2 p2 → w' 162 3 = w7 162 3 → (FE 4096 A2 B2 h2 p2 K2 φ2 A2 B2 h2 p2 (w' 171) φ2 → (qV 4096 (sgm ml (Cl.getD ci k_c0) n)).1 A2 B2 h2 p2 (w' 171) φ2 xr (fun i => w' 171 (t + i))) → C (T2 + 1) w' := fun wv xr w' hx hwv hR h3 hrel => by
          subst hwv
          obtain ⟨c1, c2, c3⟩ := RPf_c hW3 (by omega) hb3.1 h1c h710 hR (h3.trans h73)
          have hE6 : FE 4096 A2 B2 h2 p2 K2 φ2 A2 B2 h2 p2 (w' 171) φ2 := ⟨⟨Nat.le_refl _, Nat.le_refl _⟩, fun _ _ => ⟨rfl, rfl, rfl⟩, fun i i1 i2 => c3 i (by omega)⟩
          exact hK1 xr A2 B2 h2 s2 l2 o p2 (w' 171) φ2 w' (T2 + 1) (hev.trans hx) (ZG_p hG) c1 hb3 (CGc_t hCG3 c2 (Nat.le_refl _) (Nat.le_refl _) (by omega) (Nat.le_refl _)) (FE_t hE hE6) (hrel hE6) (by omega)
        have hend : ∀ w' : mm_P, ev2 m (ev m j) arg n x A2 B2 h2 s2 l2 o = (1, 0, A2, B2, h2, s2, l2, o) → C (T2 + 1) (mm_u (mm_u w7 170 8 (nI t)) 162 5 1) := fun _ hx => hK0 1 0 A2 B2 h2 s2 l2 o _ (T2 + 1) (hev.trans hx) (by decide) (fun c i q => by rw [mm_u_e (by omega), mm_u_e (by omega)]; exact lo7 c i q) mm_u_s (by rw [mm_u_f (by decide), mm_u_e (by decide)]; exact (h1c 162 1 (by omega) (by omega)).trans r10) (by omega)
        have hne0 : ∀ a, 4096 ≤ a → a < 8192 → ¬ nI a = 0 := fun a a1 a2 q => by
          have := congrArg Int32.toInt q
          rw [mm_tI (by omega), mm_tt0] at this
          omega
        have hp7 : (0 : Int) < (f_parts (w7 4 n)).toInt := by rw [lo7 4 n (by decide), k4]; exact zp
        rcases hkq with rfl | rfl | rfl | rfl | rfl
        · obtain ⟨X, Y, hX, hY, dX, dY, eP, e7, -⟩ := sg_k78 hPG hOT n1 hsn nd0.1 (.inl (k4.trans ek))
          have en := e7 (k4.trans ek)
          have ewp := wd_pr hX hY dX dY
          have ewX := (qV_w 4096 _ hX).1
          rw [eP, qV_pr hX hY dX dY] at hty
          obtain ⟨a, a1, a2, a3, a4⟩ := hty
          have ea : x.toNatClampNeg = a := by rw [a2]; exact nI_clamp (by omega)
          refine tf_78 (d := d) (t := t) (p := p2) (wh := wd (sgm ml (Cl.getD ci k_c0) (kpt m n 0))) (wv := wd (sgm ml (Cl.getD ci k_c0) n)) (N := Cl.length) (ci := ci) (p0 := kpt m n 0) (o := o') (.inl rfl) (hKW w7 lo7) (hOK w7 n n1 lo7) n1 hp7 ((hKP w7 n 0 lo7).trans u2) u1 ((lo7 31 12 (by decide)).trans h31) h60 hci ((lo7 (39 + ci) _ (by omega)).trans nd0.2.1) ((lo7 (39 + ci) _ (by omega)).trans hwn) (by rw [eP, en, ewp]; omega) h78 (by omega) h79 h711 (by omega) h174 (fun w' hR hc _ h3 => ⟨rfl, rfl, rfl, hfin _ (A2 a) w' ((ev2_7 ek).trans (by rw [ea])) rfl hR h3 (fun hE6 => ?_)⟩)
          rw [en] at hc ⊢
          exact qV_m hX hE6 (fun i hi => (hc rfl i hi).trans (w7K _)) a3
        · obtain ⟨X, Y, hX, hY, dX, dY, eP, -, e8⟩ := sg_k78 hPG hOT n1 hsn nd0.1 (.inr (k4.trans ek))
          have en := e8 (k4.trans ek)
          have ewp := wd_pr hX hY dX dY
          have ewX := (qV_w 4096 _ hX).1
          rw [eP, qV_pr hX hY dX dY] at hty
          obtain ⟨a, a1, a2, a3, a4⟩ := hty
          have ea : x.toNatClampNeg = a := by rw [a2]; exact nI_clamp (by omega)
          refine tf_78 (d := d) (t := t) (p := p2) (wh := wd (sgm ml (Cl.getD ci k_c0) (kpt m n 0))) (wv := wd (sgm ml (Cl.getD ci k_c0) n)) (N := Cl.length) (ci := ci) (p0 := kpt m n 0) (o := o') (.inr rfl) (hKW w7 lo7) (hOK w7 n n1 lo7) n1 hp7 ((hKP w7 n 0 lo7).trans u2) u1 ((lo7 31 12 (by decide)).trans h31) h60 hci ((lo7 (39 + ci) _ (by omega)).trans nd0.2.1) ((lo7 (39 + ci) _ (by omega)).trans hwn) (by rw [eP, en, ewp]; omega) h78 (by omega) h79 h711 (by omega) h174 (fun w' hR _ hc h3 => ⟨rfl, rfl, rfl, hfin _ (B2 a) w' ((ev2_8 ek).trans (by rw [ea])) rfl hR h3 (fun hE6 => ?_)⟩)
          rw [eP, en, ewp, Nat.add_sub_cancel] at hc
          rw [en]
          refine qV_m hY hE6 (fun i hi => ?_) a4
          show w' 171 (t + i) = K2 (t + ((qV 4096 X).2 + i))
          rw [hc rfl i hi, w7K, ewX, Nat.add_assoc]
        · obtain ⟨X, hX, dX, eP, e11, -⟩ := sg_kl hPG hOT n1 hsn nd0.1 (.inl (k4.trans ek))
          have en := e11 (k4.trans ek)
          rw [eP, qV_ls hX dX] at hty
          rw [eP, wd_ls hX dX] at h78
          refine tf_11 (d := d) (t := t) (p := p2) h78 (by omega) h79 (fun y w' hy hR h0 h3 => ⟨rfl, rfl, rfl, hfin 1 (if x = -1 then 1 else 0) w' (ev2_11 ek) (by rw [en]; exact wd_01.2.symm) hR h3 (fun hE6 => ?_)⟩)
          rw [en, qV_1]
          rw [w7K] at hy
          rcases qL_get hty with ⟨c1, c2⟩ | ⟨a, a1, a2, a3, ⟨a4, a5⟩, -, -⟩
          · replace c2 : K2 t = 0 := c2
            rw [c1, if_pos rfl]
            rw [c2, if_pos rfl] at hy
            exact ⟨h0.trans hy, .inr rfl⟩
          · replace a3 : K2 t = nI (φ2 a) := a3
            have hx1 : ¬ x = -1 := fun q => by
              rw [a2] at q
              have := congrArg Int32.toInt q
              rw [mm_tI (by omega)] at this
              have : (-1 : Int32).toInt = -1 := rfl
              omega
            rw [if_neg hx1]
            rw [a3, if_neg (hne0 _ a4 (by omega))] at hy
            exact ⟨h0.trans hy, .inl rfl⟩
        · obtain ⟨X, hX, dX, eP, -, e12, -⟩ := sg_kl hPG hOT n1 hsn nd0.1 (.inr (.inl (k4.trans ek)))
          have en := e12 (k4.trans ek)
          have ewX := (qV_w 4096 _ hX).1
          rw [eP, qV_ls hX dX] at hty
          rw [eP, wd_ls hX dX] at h78
          rcases qL_get hty with ⟨c1, c2⟩ | ⟨a, a1, a2, a3, ⟨a4, a5⟩, a6, -⟩
          · replace c2 : K2 t = 0 := c2
            refine tf_12 (d := d) (t := t) (p := p2) (a := 0) (wv := wd (sgm ml (Cl.getD ci k_c0) n)) (N := Cl.length) (ci := ci) (o := o') (hKW w7 lo7) n1 h78 (by omega) h79 h711 (by omega) h174 ((lo7 31 12 (by decide)).trans h31) h60 hci ((lo7 (39 + ci) _ (by omega)).trans hwn) w16.2 (fun q => absurd ((w7K t).trans c2) q) (fun _ => ⟨rfl, rfl, rfl, hend w7 ((ev2_12 ek).trans (if_pos c1))⟩) (fun w' q _ _ _ => absurd ((w7K t).trans c2) q)
          · replace a3 : K2 t = nI (φ2 a) := a3
            have hx1 : ¬ x = -1 := fun q => by
              rw [a2] at q
              have := congrArg Int32.toInt q
              rw [mm_tI (by omega)] at this
              have : (-1 : Int32).toInt = -1 := rfl
              omega
            have ea : x.toNatClampNeg = a := by rw [a2]; exact nI_clamp (by omega)
            have hz : ¬ w7 171 t = 0 := by rw [w7K, a3]; exact hne0 _ a4 (by omega)
            rw [ewX] at a5
            refine tf_12 (d := d) (t := t) (p := p2) (a := φ2 a) (wv := wd (sgm ml (Cl.getD ci k_c0) n)) (N := Cl.length) (ci := ci) (o := o') (hKW w7 lo7) n1 h78 (by omega) h79 h711 (by omega) h174 ((lo7 31 12 (by decide)).trans h31) h60 hci ((lo7 (39 + ci) _ (by omega)).trans hwn) w16.2 (fun _ => ⟨(w7K t).trans a3, a4, by rw [en]; omega⟩) (fun q => absurd q hz) (fun w' _ hR hc h3 => ⟨rfl, rfl, rfl, hfin _ (A2 a) w' ((ev2_12 ek).trans ((if_neg hx1).trans (by rw [ea]))) rfl hR h3 (fun hE6 => ?_)⟩)
            rw [en] at hc ⊢
            exact qV_m hX hE6 (fun i hi => (hc i hi).trans (w7K _)) a6
        · obtain ⟨X, hX, dX, eP, -, -, e13⟩ := sg_kl hPG hOT n1 hsn nd0.1 (.inr (.inr (k4.trans ek)))
          have en := e13 (k4.trans ek)
          rw [eP, qV_ls hX dX] at hty
          rw [eP, wd_ls hX dX] at h78
          rcases qL_get hty with ⟨c1, c2⟩ | ⟨a, a1, a2, a3, ⟨a4, a5⟩, -, a7⟩
          · replace c2 : K2 t = 0 := c2
            exact tf_13 (d := d) (t := t) (p := p2) (a := 0) h78 (by omega) h79 (fun q => absurd ((w7K t).trans c2) q) (fun _ => ⟨rfl, rfl, rfl, hend w7 ((ev2_13 ek).trans (if_pos c1))⟩) (fun w' q _ _ _ => absurd ((w7K t).trans c2) q)
          · replace a3 : K2 t = nI (φ2 a) := a3
            have hx1 : ¬ x = -1 := fun q => by
              rw [a2] at q
              have := congrArg Int32.toInt q
              rw [mm_tI (by omega)] at this
              have : (-1 : Int32).toInt = -1 := rfl
              omega
            have ea : x.toNatClampNeg = a := by rw [a2]; exact nI_clamp (by omega)
            have hz : ¬ w7 171 t = 0 := by rw [w7K, a3]; exact hne0 _ a4 (by omega)
            refine tf_13 (d := d) (t := t) (p := p2) (a := φ2 a) h78 (by omega) h79 (fun _ => ⟨(w7K t).trans a3, by omega⟩) (fun q => absurd q hz) (fun w' _ hR hc h3 => ⟨rfl, rfl, rfl, hfin 1 (B2 a) w' ((ev2_13 ek).trans ((if_neg hx1).trans (by rw [ea]))) (by rw [en]; exact (wd_ls hX dX).symm) hR h3 (fun hE6 => ?_)⟩)
            rw [en, qV_ls hX dX]
            exact (oFR_L (qV_w 4096 _ hX).2) _ _ _ _ _ _ _ _ _ _ _ _ hE6 _ _ _ (fun i hi => by
              have : i = 0 := Nat.lt_one_iff.mp hi
              subst this
              exact hc.trans (w7K _)) a7
    · -- a leaf
      rw [w4] at z5 z14 zp
      obtain ⟨kq, ek, hkq⟩ := kd_leaf hok.1 z5 z14 zp
      rw [w4, ek]
      generalize hw1 : mm_u (mm_u w 173 k (nI (0 + 1))) 170 10 (nI k) = w1
      have h1c : ∀ c i, ¬ (c = 173 ∧ i = k) → ¬ (c = 170 ∧ (i = 10 ∨ i = 8)) → w1 c i = w c i := fun c i a b => by rw [← hw1, mm_u_o (by omega), mm_u_o a]
      have h110 : w1 170 10 = nI k := by rw [← hw1, mm_u_s]
      have h18 : w1 170 8 = nI t := by rw [← hw1, mm_u_f (by decide), mm_u_e (by decide)]; exact q3
      have lo1 : ∀ c i, c < 160 → w1 c i = m c i := fun c i q => (h1c c i (by omega) (by omega)).trans (q1 c i q)
      have h19 : w1 170 9 = nI p := (h1c 170 9 (by omega) (by omega)).trans q4
      have hfin : ∀ (wv : Nat) xr w', (((m 188 n = 0 ∨ m 188 n = 1) ∧ xr = m 189 n) ∨ (m 188 n = 2 ∧ xr = arg) ∨ (m 188 n = 9 ∧ xr = -1)) → wv = wd (sgm ml (Cl.getD ci k_c0) n) → RPf w1 w' t wv p p → w' 162 3 = w1 162 3 → (∀ (hE : FE 4096 A B h p K φ A B h p (w' 171) φ), (qV 4096 (sgm ml (Cl.getD ci k_c0) n)).1 A B h p (w' 171) φ xr (fun i => w' 171 (t + i))) → C (T + 1) w' := fun wv xr w' hx hwv hR h3 hrel => by
        subst hwv
        obtain ⟨c1, c2, c3⟩ := RPf_c hW (by omega) hp4 h1c h110 hR (h3.trans ((h1c 162 3 (by omega) (by omega)).trans q8))
        have hE : FE 4096 A B h p K φ A B h p (w' 171) φ := ⟨⟨Nat.le_refl _, Nat.le_refl _⟩, fun _ _ => ⟨rfl, rfl, rfl⟩, fun i i1 i2 => c3 i (by omega)⟩
        exact hK1 xr A B h (s + 1) l o p (w' 171) φ w' (T + 1) (ev_v hs6 hx) (ZG_1 hs hl) c1 ⟨hp4, hpl⟩ c2 hE (hrel hE) (by omega)
      rcases hkq with rfl | rfl | rfl | rfl
      · have e := sg_k0 hPG hOT n1 (k4.trans ek)
        refine tf_0 (d := d) (t := t) (p := p) (hKW w1 lo1) n1 h18 (by omega) h19 (.inl rfl) (fun y w' hy hR h0 h3 => ⟨rfl, rfl, rfl, hfin 1 (m 189 n) w' (.inl ⟨.inl ek, rfl⟩) (by rw [e]; exact wd_01.1.symm) hR h3 (fun hE => ?_)⟩)
        rw [e, qV_0]
        have ey : y = m 189 n := by
          rcases hy with ⟨-, hy⟩ | ⟨hk, -⟩
          · exact hy.trans ((lo1 6 _ (by decide)).trans ((hN.2 n n1).2.2.1 (by rw [ek]; decide)))
          · exact absurd hk (by decide)
        exact h0.trans ey
      · have e := sg_k1 hPG hOT n1 (k4.trans ek)
        refine tf_0 (d := d) (t := t) (p := p) (hKW w1 lo1) n1 h18 (by omega) h19 (.inr (.inl rfl)) (fun y w' hy hR h0 h3 => ⟨rfl, rfl, rfl, hfin 1 (m 189 n) w' (.inl ⟨.inr ek, rfl⟩) (by rw [e]; exact wd_01.2.symm) hR h3 (fun hE => ?_)⟩)
        rw [e, qV_1]
        have ey : y = m 189 n := by
          rcases hy with ⟨-, hy⟩ | ⟨hk, -⟩
          · exact hy.trans ((lo1 6 _ (by decide)).trans ((hN.2 n n1).2.2.1 (by rw [ek]; decide)))
          · exact absurd hk (by decide)
        exact ⟨h0.trans ey, hTR n n1 ek⟩
      · obtain ⟨X, hX, dX, e⟩ := sg_k9 hPG hOT n1 hsn (k4.trans ek)
        refine tf_0 (d := d) (t := t) (p := p) (hKW w1 lo1) n1 h18 (by omega) h19 (.inr (.inr rfl)) (fun y w' hy hR h0 h3 => ⟨rfl, rfl, rfl, hfin 1 (-1) w' (.inr (.inr ⟨ek, rfl⟩)) (by rw [e]; exact (wd_ls hX dX).symm) hR h3 (fun hE => ?_)⟩)
        rw [e, qV_ls hX dX]
        have ey : y = 0 := by
          rcases hy with ⟨hk, -⟩ | ⟨-, hy⟩
          · rcases hk with hk | hk <;> exact absurd hk (by decide)
          · exact hy
        exact qL_nil (h0.trans ey)
      · have e : sgm ml (Cl.getD ci k_c0) n = cAS ml (Cl.getD ci k_c0) := sg_k2 hPG hOT n1 (k4.trans ek)
        obtain ⟨b0, x1, x2, x3, x4⟩ := hARG
        have wA := wd_16 hAS
        refine tf_arg (d := d) (n := n) (t := t) (p := p) (o := o') (b := b0) (wa := wd (cAS ml (Cl.getD ci k_c0))) (N := Cl.length) (ci := ci) h18 (by omega) h19 ((h1c 170 11 (by omega) (by omega)).trans (q6.trans (by rw [eo]))) (by omega) ((h1c 175 o' (by omega) (by omega)).trans ?_) ((h1c 174 o' (by omega) (by omega)).trans ?_) ((lo1 31 12 (by decide)).trans h31) h60 hci ((lo1 36 ci (by decide)).trans h36) x3 (fun w' hR h0 h3 => ⟨rfl, rfl, rfl, hfin _ arg w' (.inr (.inl ⟨ek, rfl⟩)) (by rw [e]) hR h3 (fun hE => ?_)⟩)
        · rw [show o' = o - 1 by omega]
          exact x2
        · rw [show o' = o - 1 by omega]
          exact x1
        · rw [e]
          exact qV_m hAS hE (fun i hi => (h0 i hi).trans ((h1c 171 _ (by omega) (by omega)).trans (q2 _))) x4
end MMT
