/-! ===== readValue() of the machine with letters is rd ===== -/
theorem mn_rmy {x : Int32} : (if (0 : Int32) < (if x < 4 then x else 4) then (if x < 4 then x else 4) else 0) = nI (rmy x) := by
  unfold rmy
  by_cases a : 0 ≤ x
  · by_cases b : x ≤ 4
    · rw [if_pos a, if_pos b]
      have a' := mm_leI a
      have b' := mm_leI b
      rw [mm_tt0] at a'
      rw [mm_tt4] at b'
      obtain ⟨k, k1, k2, k3, k4⟩ := mm_of (n := 5) a' (by omega)
      subst k1
      rw [nI_clamp (by omega)]
      rcases (show k = 0 ∨ k = 1 ∨ k = 2 ∨ k = 3 ∨ k = 4 by omega) with rfl | rfl | rfl | rfl | rfl <;> decide
    · rw [if_pos a, if_neg b, if_neg (fun z => b (Int32.le_of_lt z))]
      decide
  · have a' := mm_nleI a
    rw [mm_tt0] at a'
    have h4 : x < 4 := by
      rw [Int32.lt_iff_toInt_lt, mm_tt4]
      omega
    rw [if_neg a, if_pos h4, if_neg (fun z => by
      have := mm_ltI z
      rw [mm_tt0] at this
      omega)]
    rfl
section MMT
variable {L : Nat} {xs : Nat → Int32} {d : Nat} {ml : mm_G} {m : mm_P} {N NB ND NF : Nat} {SA SB : LR}
theorem cl_read (hI : IM m NB ND NF) (hT : TC NB m ml) (hN : m 176 41 = nI N) (h16 : N ≤ 16) (hA : mLR SA) (hB : mLR SB) : ∀ (k : Nat) {ty st p h e : Nat} {w : mm_P} {A B : HF} {φ : Nat → Nat} {Q : mm_QQ}, ty < NB → m 181 ty = 0 → m 182 ty = 0 → (m 180 ty).toInt ≤ k → w 160 1 = nI N → (∀ i, i < N → w 161 i = m 211 i) → st + k ≤ 4096 → w 164 8 = nI st → w 164 9 = nI p → 4096 ≤ p → p + 2 * cn k ≤ 8192 → w 160 2 = nI (min e N) → e + en k < 10000 → LHP h p φ → (∀ w', RV w w' N (GVt gL m SA SB ty) k st p h e A B φ (rd m k ty A B h e) → Q none w' ml) → mm_cq (mm_call mm_ms (mm_tb L xs) (d + k + 3)) 80 [mm_R 164, mm_L (ml 2 ty)] w ml Q := by
  have hNB := hI.1.1
  have hTW := TW_I hI
  have hD := hI.2.2.2.1
  intro k
  induction k with
  | zero =>
    intro ty st p h e w A B φ Q hty _ _ hk
    have := hD ty hty
    omega
  | succ k ih =>
    intro ty st p h e w A B φ Q hty h1 h2 hk h160 h161 hst h8 h9 hp4 hp hin he hLP hQ
    have ecn : cn (k + 1) = 4 * cn k + 4 := rfl
    have een : en (k + 1) = 4 * en k + 4 := rfl
    obtain ⟨ekd, hc⟩ := SH_k hD hT hty
    -- a leaf
    have hlf : ∀ (w1 : mm_P) (y : Int32), (∀ c i, ¬ (c = 160 ∧ i = 2) → w1 c i = w c i) → w1 160 2 = nI (min (e + 1) N) → rd m (k + 1) ty A B h e = (y, A, B, h, e + 1) → (∀ K, GVt gL m SA SB ty A B h K φ y y) → Q none (mm_u (mm_u w1 165 st y) 164 8 (nI (st + 1))) ml := fun w1 y f1 f2 f3 f4 => by
      refine hQ _ ⟨y, A, B, h, e + 1, φ, p, f3, ⟨mm_u_s, ?_, rfl, Nat.le_refl _, by omega⟩, ⟨?_, by omega, by omega⟩, fun c i z1 z2 z3 => ?_, fun i hi => ?_, fun i i1 i2 => ?_, fun _ _ => ⟨rfl, rfl, rfl⟩, fun b b1 b2 => absurd b2 (by omega), hLP, ?_⟩
      · rw [mm_u_f (by decide), mm_u_e (by decide), f1 164 9 (by omega)]
        exact h9
      · rw [mm_u_e (by decide), mm_u_e (by decide)]
        exact f2
      · rw [mm_u_o (by omega), mm_u_o (by omega)]
        exact f1 c i z3
      · rw [mm_u_e (by decide), mm_u_f (by omega)]
        exact f1 165 i (by omega)
      · rw [mm_u_e (by decide), mm_u_f (by omega)]
        exact f1 165 i (by omega)
      · rw [show mm_u (mm_u w1 165 st y) 164 8 (nI (st + 1)) 165 st = y by rw [mm_u_e (by decide), mm_u_s]]
        exact f4 _
    have hkind : m 177 ty = 0 ∨ m 177 ty = 1 ∨ m 177 ty = 4 ∨ m 177 ty = 5 := by
      rcases hc with ⟨-, -, -, -, -, -, q⟩ | ⟨a, -, -, q, -⟩ | ⟨a, b, -, -, -, -, q, -⟩
      · rcases bs_cl q h1 h2 with e | e
        · exact .inl e
        · exact .inr (.inl e)
      · exact .inr (.inr (.inr q.1))
      · exact .inr (.inr (.inl q.1))
    have w8 : ∀ (w1 : mm_P), (∀ c i, ¬ (c = 160 ∧ i = 2) → w1 c i = w c i) → w1 164 8 = nI st := fun w1 f => (f 164 8 (by omega)).trans h8
    show mm_cq (mm_call mm_ms (mm_tb L xs) (d + k + 3 + 1)) 80 [mm_R 164, mm_L (ml 2 ty)] w ml Q
    refine en_X6_readValue_L (bk_X6_readValue_L_0 (mm_call_m _) (sp_X10_kindOf (bk_X6_readValue_L_4 (mm_call_m _) (fun z => ?_) (fun z => ?_) (fun z => ?_) (fun z => ?_) (fun z => ?_) (fun z1 z2 z3 z4 z5 => ?_))))
    · -- TRUTH
      have z' : m 177 ty = 1 := ekd.symm.trans (z.trans (show nI 1 = (1 : Int32) from rfl))
      refine cl_next hN h16 h160 h161 hin (by omega) (fun w1 f1 f2 => bk_X6_readValue_L_48 (mm_call_m _) (fun y => ?_) (fun y => ?_))
      · refine sm_push_L (w8 w1 f1) (by omega) (bk_X6_readValue_L_59 (mm_call_m _) (bk_X6_readValue_L_191 (mm_call_m _) (hlf w1 0 f1 f2 ?_ (fun K => ?_))))
        · rw [rd_1 z', if_pos y]
        · rw [GVt_1 z']
          exact ⟨rfl, .inl rfl⟩
      · refine sm_push_L (w8 w1 f1) (by omega) (bk_X6_readValue_L_59 (mm_call_m _) (bk_X6_readValue_L_191 (mm_call_m _) (hlf w1 1 f1 f2 ?_ (fun K => ?_))))
        · rw [rd_1 z', if_neg y]
        · rw [GVt_1 z']
          exact ⟨rfl, .inr rfl⟩
    · have z' := ekd.symm.trans z
      rw [z'] at hkind
      exact absurd hkind (by decide)
    · have z' := ekd.symm.trans z
      rw [z'] at hkind
      exact absurd hkind (by decide)
    · -- PAIR
      have z' : m 177 ty = 4 := ekd.symm.trans (z.trans (show nI 4 = (4 : Int32) from rfl))
      obtain ⟨a, b, -, -, la, lb, ea, eb, eG, hen⟩ := GVt_4 (G := gL) (SA := SA) (SB := SB) hTW (.inl hty) z'
      obtain ⟨efs, esc⟩ : f_fs (ml 2 ty) = ml 2 a ∧ f_sc (ml 2 ty) = ml 2 b := by
        rcases hc with ⟨q, -⟩ | ⟨a', -, -, q, -⟩ | ⟨a', b', la', -, lb', -, q, q1, q2, -⟩
        · exact absurd z' q
        · have := q.1
          rw [z'] at this
          exact absurd this (by decide)
        · have e1 : a' = a := nI_ij (by omega) (by omega) (q.2.1.symm.trans ea)
          have e2 : b' = b := nI_ij (by omega) (by omega) (q.2.2.1.symm.trans eb)
          subst e1 e2
          exact ⟨q1, q2⟩
      obtain ⟨⟨c1, c2⟩, c3, c4⟩ := cl_4 hD (by omega) (by omega) hen h1 h2
      have da := hD a (by omega)
      have db := hD b (by omega)
      have hm' := f_most_r (x := m 180 a) (y := m 180 b) (lo := 1) (hi := 5) da.1 db.1
      have hd' : (m 180 a).toInt ≤ k ∧ (m 180 b).toInt ≤ k := by
        rw [hen.2.2.2.1, mm_1p (by omega) (by omega)] at hk
        omega
      refine sp_X10_firstOf (bk_X6_readValue_L_67 (mm_call_m _) ?_)
      rw [efs]
      refine ih (A := A) (B := B) (by omega) c1 c2 hd'.1 h160 h161 (by omega) h8 h9 hp4 (by omega) hin (by omega) hLP (fun w1 hV => bk_X6_readValue_L_70 (mm_call_m _) (sp_X10_secondOf (bk_X6_readValue_L_75 (mm_call_m _) ?_)))
      rw [esc]
      obtain ⟨v, A1, B1, h1', e1, φ1, p1, r1, ⟨r2, r3, r4, r5, r6⟩, ⟨r7, r8, r9⟩, r10, r11, r12, r13, r14, r15, r16⟩ := hV
      refine ih (A := A1) (B := B1) (by omega) c3 c4 hd'.2 ((r10 160 1 (by decide) (by omega) (by omega)).trans h160) (fun i hi => (r10 161 i (by decide) (by omega) (by omega)).trans (h161 i hi)) (by omega) r2 r3 (by omega) (by omega) r7 (by omega) r15 (fun w2 hV2 => bk_X6_readValue_L_78 (mm_call_m _) ?_)
      obtain ⟨u, A2, B2, h2', e2, φ2, p2, t1, ⟨t2, t3, t4, t5, t6⟩, ⟨t7, t8, t9⟩, t10, t11, t12, t13, t14, t15, t16⟩ := hV2
      refine sm_join t2 (by omega) t3 (by omega) (bk_X6_readValue_L_82 (mm_call_m _) (bk_X6_readValue_L_191 (mm_call_m _) ?_))
      generalize hw3 : mm_u (mm_u (mm_u (mm_u (mm_u (mm_u (mm_u w2 164 8 (nI (st + 1))) 164 8 (nI st)) 164 9 (nI (p2 + 2))) 165 p2 (w2 165 st)) 165 (p2 + 1) (w2 165 (st + 1))) 165 st (nI p2)) 164 8 (nI (st + 1)) = w3
      have g1 : ∀ c i, ¬ c = 165 → ¬ (c = 164 ∧ (i = 8 ∨ i = 9)) → w3 c i = w2 c i := fun c i z1 z2 => by
        rw [← hw3, mm_u_o (by omega), mm_u_o (by omega), mm_u_o (by omega), mm_u_o (by omega), mm_u_o (by omega), mm_u_o (by omega), mm_u_o (by omega)]
      have g2 : w3 164 8 = nI (st + 1) := by rw [← hw3, mm_u_s]
      have g3 : w3 164 9 = nI (p2 + 2) := by rw [← hw3, mm_u_f (by decide), mm_u_e (by decide), mm_u_e (by decide), mm_u_e (by decide), mm_u_s]
      have g4 : ∀ c, ¬ c = st → ¬ c = p2 → ¬ c = p2 + 1 → w3 165 c = w2 165 c := fun c z1 z2 z3 => by
        rw [← hw3, mm_u_e (by decide), mm_u_f z1, mm_u_f z3, mm_u_f z2, mm_u_e (by decide), mm_u_e (by decide), mm_u_e (by decide)]
      have g5 : w3 165 st = nI p2 := by rw [← hw3, mm_u_e (by decide), mm_u_s]
      have g6 : w3 165 p2 = w2 165 st := by rw [← hw3, mm_u_e (by decide), mm_u_f (by omega), mm_u_f (by omega), mm_u_s]
      have g7 : w3 165 (p2 + 1) = w2 165 (st + 1) := by rw [← hw3, mm_u_e (by decide), mm_u_f (by omega), mm_u_s]
      have hLE1 : LE A1 B1 h1' (w1 165) φ1 A2 B2 h2' (w2 165) φ2 := LE_v r15 t5 t12 t13
      have hLE2 : LE A2 B2 h2' (w2 165) φ2 (fu A2 h2' v) (fu B2 h2' u) (h2' + 1) (w3 165) (fφ φ2 h2' p2) := LE_n t15 (fun i i1 i2 => g4 i (by omega) (by omega) (by omega))
      have e11 : w2 165 st = w1 165 st := t11 st (by omega)
      refine hQ w3 ⟨nI h2', fu A2 h2' v, fu B2 h2' u, h2' + 1, e2, fφ φ2 h2' p2, p2 + 2, rd_4 z' ea eb (by omega) (by omega) r1 t1, ⟨g2, g3, by omega, by omega, by omega⟩, ⟨(g1 160 2 (by decide) (by omega)).trans t7, by omega, by omega⟩, FRR_t r10 (FRR_t t10 (fun c i y1 y2 _ => g1 c i y1 y2)), fun i hi => ?_, fun i i1 i2 => ?_, fun b' hb => ?_, fun b' b1 b2 => ?_, LHP_n t15 (by omega), ?_⟩
      · rw [g4 i (by omega) (by omega) (by omega), t11 i (by omega), r11 i hi]
      · rw [g4 i (by omega) (by omega) (by omega), t12 i i1 (by omega), r12 i i1 i2]
      · obtain ⟨x1, x2, x3⟩ := r13 b' hb
        obtain ⟨y1, y2, y3⟩ := t13 b' (by omega)
        refine ⟨?_, ?_, ?_⟩
        · rw [fu_o (by omega), y1, x1]
        · rw [fu_o (by omega), y2, x2]
        · rw [fφ_o (by omega), y3, x3]
      · by_cases q : b' = h2'
        · rw [q, fφ_s]
          omega
        · rw [fφ_o q]
          by_cases q1 : b' < h1'
          · rw [(t13 b' q1).2.2]
            exact r14 b' b1 q1
          · have := t14 b' (by omega) (by omega)
            omega
      · rw [eG]
        refine ⟨h2', Nat.lt_succ_self _, rfl, ?_, ?_, ?_⟩
        · rw [fφ_s, g5]
        · rw [fu_s, fφ_s, g6, e11]
          exact GVt_m hA hB a _ _ _ _ _ _ _ _ _ _ (LE_t hLE1 hLE2) _ _ r16
        · rw [fu_s, fφ_s, g7]
          exact GVt_m hA hB b _ _ _ _ _ _ _ _ _ _ hLE2 _ _ t16
    · -- LIST
      have z' : m 177 ty = 5 := ekd.symm.trans (z.trans (show nI 5 = (5 : Int32) from rfl))
      obtain ⟨a, -, la, ea, eG, hen⟩ := GVt_5 (G := gL) (SA := SA) (SB := SB) hTW (.inl hty) z'
      have efs : f_fs (ml 2 ty) = ml 2 a := by
        rcases hc with ⟨-, q, -⟩ | ⟨a', la', -, q, q1, -⟩ | ⟨a', b', -, -, -, -, q, -⟩
        · exact absurd z' q
        · have e1 : a' = a := nI_ij (by omega) (by omega) (q.2.1.symm.trans ea)
          subst e1
          exact q1
        · have := q.1
          rw [z'] at this
          exact absurd this (by decide)
      obtain ⟨c1, c2⟩ := cl_5 hD (by omega) hen h1 h2
      have da := hD a (by omega)
      have hd' : (m 180 a).toInt ≤ k := by
        rw [hen.2.2.2.1, mm_1p (by omega) (by omega)] at hk
        omega
      refine cl_next hN h16 h160 h161 hin (by omega) (fun w1 f1 f2 => bk_X6_readValue_L_94 (mm_call_m _) (sp_X10_firstOf ?_))
      rw [efs]
      have e3 := mn_rmy (x := inp m e)
      rw [e3]
      have hn4 := rmy_4 (x := inp m e)
      generalize hn : rmy (inp m e) = n at hn4 ⊢
      have hm1 : n * cn k ≤ 4 * cn k := Nat.mul_le_mul_right _ hn4
      have hm2 : n * en k ≤ 4 * en k := Nat.mul_le_mul_right _ hn4
      have hP : mLR (GVt gL m SA SB a) := GVt_m hA hB a
      have s160 : ∀ (w2 : mm_P), FRR w1 w2 → w2 160 1 = nI N := fun w2 f => (f 160 1 (by decide) (by omega) (by omega)).trans ((f1 160 1 (by omega)).trans h160)
      have s161 : ∀ (w2 : mm_P), FRR w1 w2 → ∀ i, i < N → w2 161 i = m 211 i := fun w2 f i hi => (f 161 i (by decide) (by omega) (by omega)).trans ((f1 161 i (by omega)).trans (h161 i hi))
      refine bk_X6_readValue_L_105 (mm_call_m _) (cl_rloop (d := d + k) (m := m) (N := N) (P := GVt gL m SA SB a) hP (w0 := w1) (k := k) (a := a) (st := st) (p0 := p) (h0 := h) (e0 := e + 1) (n := n) (A0 := A) (B0 := B) (φ0 := φ) (by omega) hp4 hn4 (by omega) (by omega) (fun w2 h' e' p' A' B' φ' Q' a1 a2 a3 a4 a5 a6 a7 a8 a9 => ih (by omega) c1 c2 hd' (s160 w2 a1) (s161 w2 a1) (by omega) a2 a3 a4 a5 a6 a7 a8 a9) (fun w2 l vs A1 B1 h1' e1 p1 φ1 hR => ?_) n 0 w1 (fun _ => 0) (fun _ => 0) A B h (e + 1) p φ (by omega) ⟨rfl, ⟨(w8 w1 f1), (f1 164 9 (by omega)).trans h9, by omega, Nat.le_refl _, by omega⟩, ⟨f2, Nat.le_refl _, by omega⟩, fun _ _ _ _ _ => rfl, fun _ _ => rfl, fun _ _ _ => rfl, fun _ _ => ⟨rfl, rfl, rfl⟩, fun b b1 b2 => absurd b2 (by omega), hLP, fun j hj => absurd hj (Nat.not_lt_zero _), fun j j' _ hj => absurd hj (Nat.not_lt_zero _), fun j hj => absurd hj (by omega)⟩ rfl (fun j hj => absurd hj (by omega)))
      obtain ⟨q1, ⟨q2, q3, q4, q5, q6⟩, ⟨q7, q8, q9⟩, q10, q11, q12, q13, q14, q15, q16, q17, q18⟩ := hR
      generalize hw3 : mm_u (mm_u w2 165 st (if 0 < n then nI (l 0) else 0)) 164 8 (nI (st + 1)) = w3
      have g4 : ∀ c, ¬ c = st → w3 165 c = w2 165 c := fun c y => by rw [← hw3, mm_u_e (by decide), mm_u_f y]
      have g5 : w3 165 st = if 0 < n then nI (l 0) else 0 := by rw [← hw3, mm_u_e (by decide), mm_u_s]
      have g1 : ∀ c i, ¬ c = 165 → ¬ (c = 164 ∧ i = 8) → w3 c i = w2 c i := fun c i y1 y2 => by rw [← hw3, mm_u_o (by omega), mm_u_o (by omega)]
      have hLE : LE A1 B1 h1' (w2 165) φ1 A1 B1 h1' (w3 165) φ1 := LE_k q15 (fun i i1 i2 => g4 i (by omega))
      obtain ⟨v, A2, B2, h2', g⟩ : ∃ v A2 B2 h2', lsC vs n A1 B1 h1' (-1) = (v, A2, B2, h2') := ⟨_, _, _, _, rfl⟩
      obtain ⟨φ2, b1, b2, b3, b4, b5⟩ := lk_lsC (K := w3 165) (l := l) (n := n) (p := p1) hP (fun i hi => ⟨by have := (q16 i hi).1; omega, (q16 i hi).1.2⟩) (fun i hi => (g4 (l i) (by have := (q16 i hi).1; omega)).trans (q16 i hi).2.1) n (Nat.le_refl _) g q15 (fun i hi => by
        rw [g4 (l i + 1) (by have := (q16 i hi).1; omega)]
        exact hP _ _ _ _ _ _ _ _ _ _ hLE _ _ (q16 i hi).2.2) (by rw [if_neg (by omega)]; exact lL_nil)
      refine hQ w3 ⟨v, A2, B2, h2', e1, φ2, p1, rd_5 z' ea (by omega) hn.symm q1 g, ⟨by rw [← hw3, mm_u_s], (g1 164 9 (by decide) (by omega)).trans q3, by omega, by omega, by omega⟩, ⟨(g1 160 2 (by decide) (by omega)).trans q7, by omega, by omega⟩, fun c i y1 y2 y3 => ?_, fun i hi => ?_, fun i i1 i2 => ?_, fun b hb => ?_, fun b c1 c2 => ?_, b2, ?_⟩
      · rw [g1 c i y1 (by omega), q10 c i y1 y2 y3, f1 c i y3]
      · rw [g4 i (by omega), q11 i hi, f1 165 i (by omega)]
      · rw [g4 i (by omega), q12 i i1 i2, f1 165 i (by omega)]
      · obtain ⟨x1, x2, x3, -, -⟩ := b1.2 b (by omega)
        obtain ⟨y1, y2, y3⟩ := q13 b hb
        exact ⟨x1.trans y1, x2.trans y2, x3.trans y3⟩
      · by_cases y : b < h1'
        · rw [(b1.2 b y).2.2.1]
          exact q14 b c1 y
        · obtain ⟨i, i1, i2⟩ := b3 b (by omega) c2
          rw [i2]
          exact (q16 i i1).1.1
      · rw [eG, g5]
        exact b5
    · -- a number
      rw [ekd] at z1 z4 z5
      have z' : m 177 ty = 0 := by
        rcases hkind with q | q | q | q
        · exact q
        · exact absurd q z1
        · exact absurd q z4
        · exact absurd q z5
      refine cl_next hN h16 h160 h161 hin (by omega) (fun w1 f1 f2 => bk_X6_readValue_L_188 (mm_call_m _) (sm_push_L (w8 w1 f1) (by omega) (bk_X6_readValue_L_191 (mm_call_m _) (hlf w1 (inp m e) f1 f2 (rd_0 z') (fun K => ?_)))))
      rw [GVt_0 z']
      rfl
end MMT
