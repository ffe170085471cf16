/-! ===== reading: the machine of copies, the walk ===== -/
theorem CLs_4 {S : Int64} (h : CLs S) : f_kd S = 4 → ∃ x y, CLs x ∧ CLs y ∧ dpn x ≤ 4 ∧ dpn y ≤ 4 ∧ S = f_pr x y := by
  refine CLs_ind (P := fun S => f_kd S = 4 → ∃ x y, CLs x ∧ CLs y ∧ dpn x ≤ 4 ∧ dpn y ≤ 4 ∧ S = f_pr x y) (fun k => ?_) (fun k => ?_) (fun x y hx hy d1 d2 _ _ _ => ⟨x, y, hx, hy, d1, d2, rfl⟩) (fun x hx d1 _ k => ?_) S h
  · rw [kd_l.1] at k
    exact absurd k (by decide)
  · rw [kd_l.2.1] at k
    exact absurd k (by decide)
  · rw [(ls_V (CLs_V hx) d1).2.1] at k
    exact absurd k (by decide)
theorem CLs_5 {S : Int64} (h : CLs S) : f_kd S = 5 → ∃ x, CLs x ∧ dpn x ≤ 4 ∧ S = f_ls x := by
  refine CLs_ind (P := fun S => f_kd S = 5 → ∃ x, CLs x ∧ dpn x ≤ 4 ∧ S = f_ls x) (fun k => ?_) (fun k => ?_) (fun x y hx hy d1 d2 _ _ k => ?_) (fun x hx d1 _ k => ⟨x, hx, d1, rfl⟩) S h
  · rw [kd_l.1] at k
    exact absurd k (by decide)
  · rw [kd_l.2.1] at k
    exact absurd k (by decide)
  · rw [(pr_V (CLs_V hx) (CLs_V hy) d1 d2).2.1] at k
    exact absurd k (by decide)
theorem CLs_01 {S : Int64} (h : CLs S) : (f_kd S = 0 → S = 0) ∧ (f_kd S = 1 → S = 1) := by
  refine CLs_ind (P := fun S => (f_kd S = 0 → S = 0) ∧ (f_kd S = 1 → S = 1)) ⟨fun _ => rfl, fun k => ?_⟩ ⟨fun k => ?_, fun _ => rfl⟩ (fun x y hx hy d1 d2 _ _ => ?_) (fun x hx d1 _ => ?_) S h
  · rw [kd_l.1] at k
    exact absurd k (by decide)
  · rw [kd_l.2.1] at k
    exact absurd k (by decide)
  · rw [(pr_V (CLs_V hx) (CLs_V hy) d1 d2).2.1]
    exact ⟨fun k => absurd k (by decide), fun k => absurd k (by decide)⟩
  · rw [(ls_V (CLs_V hx) d1).2.1]
    exact ⟨fun k => absurd k (by decide), fun k => absurd k (by decide)⟩
section MMT
variable {L : Nat} {xs : Nat → Int32} {d : Nat} {ml : mm_G} {m : mm_P} {N NB ND NF : Nat}
theorem cc_read (hI : IM m NB ND NF) (hT : TC NB m ml) (hN : m 176 41 = nI N) (h16 : N ≤ 16) : ∀ (k : Nat) {ty st p h e : Nat} {w : mm_P} {A B : HF} {φ : Nat → Nat} {Q : mm_QQ}, ty < NB → CLs (ml 2 ty) → dpn (ml 2 ty) ≤ k → w 160 1 = nI N → (∀ i, i < N → w 161 i = m 211 i) → st + wd (ml 2 ty) + 16 * k ≤ 4096 → w 170 8 = nI st → w 170 9 = nI p → 4096 ≤ p → p + cf k ≤ 8192 → w 160 2 = nI (min e N) → e + en k < 10000 → (∀ w', RVc w w' N (ml 2 ty) k st p h e A B φ (rd m k ty A B h e) → Q none w' ml) → mm_cq (mm_call mm_ms (mm_tb L xs) (d + k + 13)) 80 [mm_R 170, mm_L (ml 2 ty)] w ml Q := by
  have hNB := hI.1.1
  have hTW := TW_I hI
  have hD := hI.2.2.2.1
  intro k
  induction k with
  | zero =>
    intro ty st p h e w A B φ Q hty hcl hk
    have := (dpn_r (CLs_V hcl)).1
    omega
  | succ k ih =>
    intro ty st p h e w A B φ Q hty hcl hk h160 h161 hst h8 h9 hp4 hp hin he hQ
    have ecn : cn (k + 1) = 4 * cn k + 4 := rfl
    have een : en (k + 1) = 4 * en k + 4 := rfl
    have w16 := wd_16 hcl
    obtain ⟨ekd, hc⟩ := SH_k hD hT hty
    -- a leaf
    have hlf : ∀ (w1 : mm_P) (y : Int32), (∀ c i, ¬ (c = 160 ∧ i = 2) → w1 c i = w c i) → w1 160 2 = nI (min (e + 1) N) → rd m (k + 1) ty A B h e = (y, A, B, h, e + 1) → wd (ml 2 ty) = 1 → (∀ K c, c 0 = y → (qV p (ml 2 ty)).1 A B h p K φ y c) → Q none (mm_u (mm_u w1 171 st y) 170 8 (nI (st + 1))) ml := fun w1 y f1 f2 f3 fw f4 => by
      refine hQ _ ⟨y, A, B, h, e + 1, φ, p, f3, ⟨?_, ?_, Nat.le_refl _, by omega, Nat.le_refl _, by omega⟩, ⟨?_, by omega, by omega⟩, fun c i z1 z2 z3 => ?_, fun i hi => ?_, fun i i1 i2 => ?_, fun _ _ => ⟨rfl, rfl, rfl⟩, f4 _ _ ?_⟩
      · rw [fw]
        exact mm_u_s
      · rw [mm_u_f (by decide), mm_u_e (by decide), f1 170 9 (by omega)]
        exact h9
      · rw [mm_u_e (by decide), mm_u_e (by decide)]
        exact f2
      · rw [mm_u_o (by omega), mm_u_o (by omega)]
        exact f1 c i z3
      · rw [mm_u_e (by decide), mm_u_f (by omega)]
        exact f1 171 i (by omega)
      · rw [mm_u_e (by decide), mm_u_f (by omega)]
        exact f1 171 i (by omega)
      · show mm_u (mm_u w1 171 st y) 170 8 (nI (st + 1)) 171 st = y
        rw [mm_u_e (by decide), mm_u_s]
    have hkind := kd_cl (ml 2 ty) hcl
    rw [ekd] at hkind
    have w8 : ∀ (w1 : mm_P), (∀ c i, ¬ (c = 160 ∧ i = 2) → w1 c i = w c i) → w1 170 8 = nI st := fun w1 f => (f 170 8 (by omega)).trans h8
    show mm_cq (mm_call mm_ms (mm_tb L xs) (d + k + 13 + 1)) 80 [mm_R 170, mm_L (ml 2 ty)] w ml Q
    refine en_X6_readValue_C (bk_X6_readValue_C_0 (mm_call_m _) (sp_X10_kindOf (bk_X6_readValue_C_4 (mm_call_m _) (fun z => ?_) (fun z => ?_) (fun z => ?_) (fun z => ?_) (fun z => ?_) (fun z1 z2 z3 z4 z5 => ?_))))
    · -- TRUTH
      have e1 : ml 2 ty = 1 := (CLs_01 hcl).2 (z.trans (show nI 1 = (1 : Int32) from rfl))
      have z' : m 177 ty = 1 := ekd.symm.trans (z.trans (show nI 1 = (1 : Int32) from rfl))
      refine cl_next hN h16 h160 h161 hin (by omega) (fun w1 f1 f2 => bk_X6_readValue_C_48 (mm_call_m _) (fun y => ?_) (fun y => ?_))
      · refine sm_push_C (w8 w1 f1) (by omega) (bk_X6_readValue_C_59 (mm_call_m _) (bk_X6_readValue_C_191 (mm_call_m _) (hlf w1 0 f1 f2 ?_ (by rw [e1]; exact wd_01.2) (fun K c hc0 => ?_))))
        · rw [rd_1 z', if_pos y]
        · rw [e1, qV_1]
          exact ⟨hc0, .inl rfl⟩
      · refine sm_push_C (w8 w1 f1) (by omega) (bk_X6_readValue_C_59 (mm_call_m _) (bk_X6_readValue_C_191 (mm_call_m _) (hlf w1 1 f1 f2 ?_ (by rw [e1]; exact wd_01.2) (fun K c hc0 => ?_))))
        · rw [rd_1 z', if_neg y]
        · rw [e1, qV_1]
          exact ⟨hc0, .inr rfl⟩
    · have z' := ekd.symm.trans z
      rw [z'] at hkind
      exact absurd hkind (by decide)
    · have z' := ekd.symm.trans z
      rw [z'] at hkind
      exact absurd hkind (by decide)
    · -- PAIR
      have z4 : f_kd (ml 2 ty) = 4 := z.trans (show nI 4 = (4 : Int32) from rfl)
      have z' : m 177 ty = 4 := ekd.symm.trans z4
      obtain ⟨x, y, hx, hy, dx, dy, exy⟩ := CLs_4 hcl z4
      obtain ⟨v1, v2, v3, v4, v5⟩ := pr_V (CLs_V hx) (CLs_V hy) dx dy
      obtain ⟨a, b, -, -, la, lb, ea, eb, eG, hen⟩ := SVt_4 (SA := sAny) (SB := sAny) hTW (.inl hty) z'
      obtain ⟨efs, esc⟩ : f_fs (ml 2 ty) = ml 2 a ∧ f_sc (ml 2 ty) = ml 2 b := by
        rcases hc with ⟨q, -⟩ | ⟨a', -, -, q, -⟩ | ⟨a', b', la', -, lb', -, q, q1, q2, -⟩
        · exact absurd z' q
        · have := q.1
          rw [z'] at this
          exact absurd this (by decide)
        · have e1 : a' = a := nI_ij (by omega) (by omega) (q.2.1.symm.trans ea)
          have e2 : b' = b := nI_ij (by omega) (by omega) (q.2.2.1.symm.trans eb)
          subst e1 e2
          exact ⟨q1, q2⟩
      have ex : ml 2 a = x := by rw [← efs, exy, v3]
      have ey : ml 2 b = y := by rw [← esc, exy, v4]
      rw [exy] at hst hk
      have ewp := wd_pr hx hy dx dy
      have wx := wd_16 hx
      have wy := wd_16 hy
      rw [ewp] at hst
      obtain ⟨k', rfl⟩ : ∃ k', k = k' + 1 := ⟨k - 1, by have := dpn_r (CLs_V hx); omega⟩
      have ecf : cf (k' + 1 + 1) = 4 * (cf (k' + 1) + 1 + 2 ^ k') := cf_s k'
      generalize 2 ^ k' = z2 at ecf
      refine sp_X10_firstOf (bk_X6_readValue_C_67 (mm_call_m _) ?_)
      rw [efs]
      refine ih (h := h) (e := e) (A := A) (B := B) (φ := φ) (by omega) (by rw [ex]; exact hx) (by rw [ex]; omega) h160 h161 (by rw [ex]; omega) h8 h9 hp4 (by omega) hin (by omega) (fun w1 hV => bk_X6_readValue_C_70 (mm_call_m _) (sp_X10_secondOf (bk_X6_readValue_C_75 (mm_call_m _) ?_)))
      rw [esc]
      obtain ⟨v, A1, B1, h1', e1, φ1, p1, r1, ⟨r2, r3, r4, r4', r5, r6⟩, ⟨r7, r8, r9⟩, r10, r11, r12, r13, r16⟩ := hV
      rw [ex] at r2 r16
      refine ih (h := h1') (e := e1) (A := A1) (B := B1) (φ := φ1) (by omega) (by rw [ey]; exact hy) (by rw [ey]; omega) ((r10 160 1 (by decide) (by omega) (by omega)).trans h160) (fun i hi => (r10 161 i (by decide) (by omega) (by omega)).trans (h161 i hi)) (by rw [ey]; omega) r2 r3 (by omega) (by omega) r7 (by omega) (fun w2 hV2 => bk_X6_readValue_C_78 (mm_call_m _) (en_X1_join (bk_X1_join_0 (mm_call_m _) (bk_X6_readValue_C_82 (mm_call_m _) (bk_X6_readValue_C_191 (mm_call_m _) ?_)))))
      obtain ⟨u, A2, B2, h2', e2, φ2, p2, t1, ⟨t2, t3, t4, t4', t5, t6⟩, ⟨t7, t8, t9⟩, t10, t11, t12, t13, t16⟩ := hV2
      rw [ey] at t2 t16
      have hE1 : FE p A1 B1 h1' p1 (w1 171) φ1 A2 B2 h2' p2 (w2 171) φ2 := ⟨⟨t5, t4⟩, t13, fun i i1 i2 => t12 i (by omega) i2⟩
      have hE2 : FE p A2 B2 h2' p2 (w2 171) φ2 (fu A2 h2' v) (fu B2 h2' u) (h2' + 1) p2 (w2 171) φ2 := ⟨⟨Nat.le_succ _, Nat.le_refl _⟩, fun c hc' => ⟨fu_o (by omega), fu_o (by omega), rfl⟩, fun _ _ _ => rfl⟩
      refine hQ w2 ⟨nI h2', fu A2 h2' v, fu B2 h2' u, h2' + 1, e2, φ2, p2, rd_4 z' ea eb (by omega) (by omega) r1 t1, ⟨by rw [exy, ewp, ← Nat.add_assoc]; exact t2, t3, by omega, by omega, by omega, by omega⟩, ⟨t7, by omega, by omega⟩, FRc_t r10 t10, fun i hi => (t11 i (by omega)).trans (r11 i hi), fun i i1 i2 => (t12 i i1 (by omega)).trans (r12 i i1 i2), fun b' hb => ?_, ?_⟩
      · obtain ⟨x1, x2, x3⟩ := r13 b' hb
        obtain ⟨y1, y2, y3⟩ := t13 b' (by omega)
        exact ⟨(fu_o (by omega)).trans (y1.trans x1), (fu_o (by omega)).trans (y2.trans x2), y3.trans x3⟩
      · rw [exy, qV_pr hx hy dx dy]
        refine ⟨h2', Nat.lt_succ_self _, rfl, ?_, ?_⟩
        · rw [fu_s]
          exact qV_m hx (FE_t hE1 hE2) (fun i hi => t11 _ (by omega)) r16
        · rw [fu_s, (qV_w p x hx).1]
          exact qV_m hy hE2 (fun i hi => by rw [Nat.add_assoc]) (qV_lo r4 y hy _ _ _ _ _ _ _ _ t16)
    · -- LIST
      have z5 : f_kd (ml 2 ty) = 5 := z.trans (show nI 5 = (5 : Int32) from rfl)
      have z' : m 177 ty = 5 := ekd.symm.trans z5
      obtain ⟨x, hx, dx, exy⟩ := CLs_5 hcl z5
      obtain ⟨v1, v2, v3, v5⟩ := ls_V (CLs_V hx) dx
      obtain ⟨a, -, la, ea, eG, hen⟩ := SVt_5 (SA := sAny) (SB := sAny) hTW (.inl hty) z'
      have efs : f_fs (ml 2 ty) = ml 2 a := by
        rcases hc with ⟨-, q, -⟩ | ⟨a', la', -, q, q1, -⟩ | ⟨a', b', -, -, -, -, q, -⟩
        · exact absurd z' q
        · have e1 : a' = a := nI_ij (by omega) (by omega) (q.2.1.symm.trans ea)
          subst e1
          exact q1
        · have := q.1
          rw [z'] at this
          exact absurd this (by decide)
      have ex : ml 2 a = x := by rw [← efs, exy, v3]
      rw [exy] at hst hk
      have ewl := wd_ls hx dx
      rw [ewl] at hst
      have wx := wd_16 hx
      obtain ⟨k', rfl⟩ : ∃ k', k = k' + 1 := ⟨k - 1, by have := dpn_r (CLs_V hx); omega⟩
      have ecf : cf (k' + 1 + 1) = 4 * (cf (k' + 1) + 1 + 2 ^ k') := cf_s k'
      have wxk : wd x ≤ 2 ^ k' := Nat.le_trans (wd_b x hx).2 (Nat.pow_le_pow_right (by decide) (by omega))
      refine cl_next hN h16 h160 h161 hin (by omega) (fun w1 f1 f2 => bk_X6_readValue_C_94 (mm_call_m _) (sp_X10_firstOf ?_))
      rw [efs, ex]
      have e3 := mn_rmy (x := inp m e)
      rw [e3]
      have hn4 := rmy_4 (x := inp m e)
      generalize hn : rmy (inp m e) = n at hn4 ⊢
      have hm0 : n * (cf (k' + 1) + 1 + wd x) ≤ 4 * (cf (k' + 1) + 1 + wd x) := Nat.mul_le_mul_right _ hn4
      have hm1 : n * cn (k' + 1) ≤ 4 * cn (k' + 1) := Nat.mul_le_mul_right _ hn4
      have hm2 : n * en (k' + 1) ≤ 4 * en (k' + 1) := Nat.mul_le_mul_right _ hn4
      have s160 : ∀ (w2 : mm_P), FRc w1 w2 → w2 160 1 = nI N := fun w2 f => (f 160 1 (by decide) (by omega) (by omega)).trans ((f1 160 1 (by omega)).trans h160)
      have s161 : ∀ (w2 : mm_P), FRc w1 w2 → ∀ i, i < N → w2 161 i = m 211 i := fun w2 f i hi => (f 161 i (by decide) (by omega) (by omega)).trans ((f1 161 i (by omega)).trans (h161 i hi))
      refine bk_X6_readValue_C_105 (mm_call_m _) (cc_rloop (d := d + (k' + 1)) (m := m) (N := N) hx (w0 := w1) (k := k' + 1) (a := a) (st := st) (p0 := p) (h0 := h) (e0 := e + 1) (n := n) (A0 := A) (B0 := B) (φ0 := φ) (by omega) hp4 hn4 (by omega) (by omega) (fun w2 h' e' p' A' B' φ' Q' a1 a2 a3 a4 a5 a6 a7 a8 => ?_) (fun w2 l vs A1 B1 h1' e1 p1 φ1 hR => ?_) n 0 w1 (fun _ => 0) (fun _ => 0) A B h (e + 1) p φ (by omega) ⟨rfl, ⟨(w8 w1 f1), (f1 170 9 (by omega)).trans h9, Nat.le_refl _, by omega, Nat.le_refl _, by omega⟩, ⟨f2, Nat.le_refl _, by omega⟩, fun _ _ _ _ _ => rfl, fun _ _ => rfl, fun _ _ _ => rfl, fun _ _ => ⟨rfl, rfl, rfl⟩, fun j hj => absurd hj (Nat.not_lt_zero _), fun j j' _ hj => absurd hj (Nat.not_lt_zero _)⟩ rfl (fun j hj => absurd hj (by omega)))
      · have g := ih (ty := a) (st := st) (p := p') (h := h') (e := e') (w := w2) (A := A') (B := B') (φ := φ') (Q := Q') (by omega) (by rw [ex]; exact hx) (by rw [ex]; omega) (s160 w2 a1) (s161 w2 a1) (by rw [ex]; omega) a2 a3 a4 a5 a6 a7
        rw [ex] at g
        exact g a8
      obtain ⟨q1, ⟨q2, q3, q4, q4', q5, q6⟩, ⟨q7, q8, q9⟩, q10, q11, q12, q13, q16, q17⟩ := hR
      generalize hw3 : mm_u (mm_u w2 171 st (if 0 < n then nI (l 0) else 0)) 170 8 (nI (st + 1)) = w3
      have g4 : ∀ c, ¬ c = st → w3 171 c = w2 171 c := fun c y => by rw [← hw3, mm_u_e (by decide), mm_u_f y]
      have g5 : w3 171 st = if 0 < n then nI (l 0) else 0 := by rw [← hw3, mm_u_e (by decide), mm_u_s]
      have g1 : ∀ c i, ¬ c = 171 → ¬ (c = 170 ∧ i = 8) → w3 c i = w2 c i := fun c i y1 y2 => by rw [← hw3, mm_u_o (by omega), mm_u_o (by omega)]
      obtain ⟨v, A2, B2, h2', g⟩ : ∃ v A2 B2 h2', lsC vs n A1 B1 h1' (-1) = (v, A2, B2, h2') := ⟨_, _, _, _, rfl⟩
      obtain ⟨φ2, b1, b4, b5⟩ := lc_lsC (K := w3 171) (l := l) (n := n) (lo := p) (p := p1) hx (fun i hi => (q16 i hi).1) (fun i hi => (g4 (l i) (by have := (q16 i hi).1; omega)).trans (q16 i hi).2.1) n (Nat.le_refl _) g (fun i hi => by
        obtain ⟨⟨y0, y1⟩, y2, q, y3, y4, y5⟩ := q16 i hi
        exact qV_lo y3 x hx _ _ _ _ _ _ _ _ (qV_m hx ⟨⟨Nat.le_refl _, by omega⟩, fun _ _ => ⟨rfl, rfl, rfl⟩, fun c c1 c2 => g4 c (by omega)⟩ (fun r hr => g4 _ (by omega)) y5)) (qL_nil (if_neg (by omega)))
      refine hQ w3 ⟨v, A2, B2, h2', e1, φ2, p1, rd_5 z' ea (by omega) hn.symm q1 g, ⟨by rw [exy, ewl, ← hw3, mm_u_s], (g1 170 9 (by decide) (by omega)).trans q3, q4, by omega, by omega, by omega⟩, ⟨(g1 160 2 (by decide) (by omega)).trans q7, by omega, by omega⟩, fun c i y1 y2 y3 => ?_, fun i hi => ?_, fun i i1 i2 => ?_, fun b hb => ?_, ?_⟩
      · rw [g1 c i y1 (by omega), q10 c i y1 y2 y3, f1 c i y3]
      · rw [g4 i (by omega), q11 i hi, f1 171 i (by omega)]
      · rw [g4 i (by omega), q12 i i1 i2, f1 171 i (by omega)]
      · obtain ⟨x1, x2, x3⟩ := b1 b (by omega)
        obtain ⟨y1, y2, y3⟩ := q13 b hb
        exact ⟨x1.trans y1, x2.trans y2, x3.trans y3⟩
      · rw [exy, qV_ls hx dx]
        exact (oFR_L (qV_w p x hx).2) _ _ _ _ _ _ _ _ _ _ _ _ FE_r _ _ _ (fun i hi => by
          have : i = 0 := Nat.lt_one_iff.mp hi
          subst this
          exact g5) b5
    · -- a number
      rw [ekd] at z1 z4 z5
      have z' : m 177 ty = 0 := by
        rcases hkind with q | q | q | q
        · exact q
        · exact absurd q z1
        · exact absurd q z4
        · exact absurd q z5
      have e0 : ml 2 ty = 0 := (CLs_01 hcl).1 (ekd.trans z')
      refine cl_next hN h16 h160 h161 hin (by omega) (fun w1 f1 f2 => bk_X6_readValue_C_188 (mm_call_m _) (sm_push_C (w8 w1 f1) (by omega) (bk_X6_readValue_C_191 (mm_call_m _) (hlf w1 (inp m e) f1 f2 (rd_0 z') (by rw [e0]; exact wd_01.1) (fun K c hc0 => ?_)))))
      rw [e0, qV_0]
      exact hc0
end MMT
