/-! ===== reading: the machine with letters, the loop and the walk ===== -/
theorem rl_step {m w0 w w1 w3 : mm_P} {N : Nat} {P : LR} {k a st p0 h0 e0 i : Nat} {A0 B0 : HF} {φ0 : Nat → Nat} {l : Nat → Nat} {vs A B : HF} {h e p : Nat} {φ : Nat → Nat} {v : Int32} {A1 B1 : HF} {h1 e1 p1 : Nat} {φ1 : Nat → Nat} (hP : mLR P) (hst : st < 4096) (hp0 : 4096 ≤ p0) (hR : RLI m w0 w N P k a st p0 h0 e0 A0 B0 φ0 i l vs A B h e p φ)
  (r1 : rd m k a A B h e = (v, A1, B1, h1, e1)) (r2 : w1 164 8 = nI (st + 1) ∧ w1 164 9 = nI p1 ∧ p1 + 2 * h = p + 2 * h1 ∧ h ≤ h1 ∧ h1 ≤ h + cn k) (r3 : w1 160 2 = nI (min e1 N) ∧ e ≤ e1 ∧ e1 ≤ e + en k) (r4 : FRR w w1) (r5 : ∀ i, i < st → w1 165 i = w 165 i) (r6 : ∀ i, 4096 ≤ i → i < p → w1 165 i = w 165 i) (r7 : ∀ a, a < h → A1 a = A a ∧ B1 a = B a ∧ φ1 a = φ a) (r8 : ∀ a, h ≤ a → a < h1 → p ≤ φ1 a) (r9 : LHP h1 p1 φ1) (r10 : P A1 B1 h1 (w1 165) φ1 v (w1 165 st))
  (g1 : ∀ c i', ¬ c = 165 → ¬ (c = 164 ∧ (i' = 8 ∨ i' = 9)) → w3 c i' = w1 c i') (g2 : w3 164 8 = nI st) (g3 : w3 164 9 = nI (p1 + 2)) (ga : ∀ c, c < st → w3 165 c = w1 165 c) (gb : w3 165 p1 = 0) (gc : w3 165 (p1 + 1) = w1 165 st) (gd : ∀ j, j + 1 = i → w3 165 (l j) = nI p1) (ge : ∀ c, 4096 ≤ c → c < p1 → (∀ j, j + 1 = i → ¬ c = l j) → w3 165 c = w1 165 c) : RLI m w0 w3 N P k a st p0 h0 e0 A0 B0 φ0 (i + 1) (fφ l i p1) (fu vs i v) A1 B1 h1 e1 (p1 + 2) φ1 := by
  obtain ⟨q1, ⟨q2, q3, q4, q5, q6⟩, ⟨q7, q8, q9⟩, q10, q11, q12, q13, q14, q15, q16, q17, q18⟩ := hR
  obtain ⟨s1, s2, s3, s4, s5⟩ := r2
  obtain ⟨t1, t2, t3⟩ := r3
  have hpp : p0 ≤ p := by omega
  have hpp1 : p ≤ p1 := by omega
  have hlp : ∀ j, j + 1 = i → p0 ≤ l j ∧ l j + 2 ≤ p := fun j q => (q16 j (by omega)).1
  -- below p, but for the last link, the cells are as they were
  have hK : ∀ c, 4096 ≤ c → c < p → (∀ j, j + 1 = i → ¬ c = l j) → w3 165 c = w 165 c := fun c c1 c2 c3 => (ge c c1 (by omega) c3).trans (r6 c c1 c2)
  have hLE : LE A B h (w 165) φ A1 B1 h1 (w3 165) φ1 := ⟨s4, fun b hb => by
    obtain ⟨b1, b2, b3⟩ := r7 b hb
    obtain ⟨b4, b5⟩ := q15 b hb
    refine ⟨b1, b2, b3, hK _ b4 (by omega) (fun j hj z => ?_), hK _ (by omega) (by omega) (fun j hj z => ?_)⟩ <;> have := q18 j hj b hb <;> omega⟩
  have hLE1 : LE A1 B1 h1 (w1 165) φ1 A1 B1 h1 (w3 165) φ1 := ⟨Nat.le_refl _, fun b hb => by
    obtain ⟨b4, b5⟩ := r9 b hb
    have hsep : ∀ j, j + 1 = i → φ1 b + 2 ≤ l j ∨ l j + 2 ≤ φ1 b := fun j hj => by
      by_cases z : b < h
      · rw [(r7 b z).2.2]
        exact q18 j hj b z
      · have z1 := r8 b (by omega) hb
        have z2 := hlp j hj
        omega
    refine ⟨rfl, rfl, rfl, ge _ b4 (by omega) (fun j hj z => ?_), ge _ (by omega) (by omega) (fun j hj z => ?_)⟩ <;> have := hsep j hj <;> omega⟩
  refine ⟨rdN_s q1 r1, ⟨g2, g3, by omega, by omega, ?_⟩, ⟨(g1 160 2 (by decide) (by omega)).trans t1, by omega, ?_⟩, FRR_t q10 (FRR_t r4 (fun c i' z1 z2 _ => g1 c i' z1 z2)), fun c hc => (ga c hc).trans ((r5 c hc).trans (q11 c hc)), fun c c1 c2 => (hK c c1 (by omega) (fun j hj z => ?_)).trans (q12 c c1 c2), fun b hb => ?_, fun b b1 b2 => ?_, fun b hb => ?_, fun j hj => ?_, fun j j' z1 z2 => ?_, fun j hj b hb => ?_⟩
  · rw [Nat.add_mul, Nat.one_mul]
    omega
  · rw [Nat.add_mul, Nat.one_mul]
    omega
  · have := hlp j hj
    omega
  · obtain ⟨x1, x2, x3⟩ := r7 b (by omega)
    obtain ⟨y1, y2, y3⟩ := q13 b hb
    exact ⟨x1.trans y1, x2.trans y2, x3.trans y3⟩
  · by_cases z : b < h
    · rw [(r7 b z).2.2]
      exact q14 b b1 z
    · have := r8 b (by omega) b2
      omega
  · obtain ⟨x1, x2⟩ := r9 b hb
    exact ⟨x1, by omega⟩
  · by_cases z : j = i
    · subst z
      rw [fφ_s, fu_s, if_neg (by omega), gc]
      exact ⟨⟨by omega, Nat.le_refl _⟩, gb, hP _ _ _ _ _ _ _ _ _ _ hLE1 _ _ r10⟩
    · obtain ⟨⟨x1, x2⟩, x3, x4⟩ := q16 j (by omega)
      rw [fφ_o z, fu_o z, if_pos (by omega)]
      refine ⟨⟨x1, by omega⟩, ?_, ?_⟩
      · by_cases y : j + 1 = i
        · rw [y, fφ_s]
          exact gd j y
        · rw [fφ_o y, hK (l j) (by omega) (by omega) (fun j' hj' q => ?_), x3, if_pos (by omega)]
          have := q17 j j' (by omega) (by omega)
          omega
      · rw [hK (l j + 1) (by omega) (by omega) (fun j' hj' q => ?_)]
        · exact hP _ _ _ _ _ _ _ _ _ _ hLE _ _ x4
        · by_cases y : j = j'
          · subst y
            omega
          · have := q17 j j' (by omega) (by omega)
            omega
  · by_cases z : j' = i
    · subst z
      have := (q16 j (by omega)).1
      rw [fφ_s, fφ_o (by omega)]
      omega
    · rw [fφ_o (by omega), fφ_o z]
      exact q17 j j' z1 (by omega)
  · have z : j = i := by omega
    subst z
    rw [fφ_s]
    exact .inl (r9 b hb).2
section MMT
variable {L : Nat} {xs : Nat → Int32} {d : Nat} {ml : mm_G} {lim : Nat × Nat} {m : mm_P} {N : Nat}
theorem cl_rloop {P : LR} (hP : mLR P) {w0 : mm_P} {k a st p0 h0 e0 n : Nat} {A0 B0 : HF} {φ0 : Nat → Nat} {x1 x4 : Int64} {Q : mm_QQ} (hst : st < 4096) (hp0 : 4096 ≤ p0) (hn4 : n ≤ 4) (hpe : p0 + 2 * (n * cn k + n) ≤ 8192) (hee : e0 + n * en k < 10000)
  (ih : ∀ (w : mm_P) (h e p : Nat) (A B : HF) (φ : Nat → Nat) (Q' : mm_QQ), FRR w0 w → w 164 8 = nI st → w 164 9 = nI p → 4096 ≤ p → p + 2 * cn k ≤ 8192 → w 160 2 = nI (min e N) → e + en k < 10000 → LHP h p φ → (∀ w', RV w w' N P k st p h e A B φ (rd m k a A B h e) → Q' none w' ml) → mm_cq (mm_call mm_ms (mm_tb L xs) (d + 3)) 80 [mm_R 164, mm_L x4] w ml Q')
  (hK : ∀ (w : mm_P) (l : Nat → Nat) (vs A B : HF) (h e p : Nat) (φ : Nat → Nat), RLI m w0 w N P k a st p0 h0 e0 A0 B0 φ0 n l vs A B h e p φ → Q none (mm_u (mm_u w 165 st (if 0 < n then nI (l 0) else 0)) 164 8 (nI (st + 1))) ml) :
  ∀ (j i : Nat) (w : mm_P) (l : Nat → Nat) (vs A B : HF) (h e p : Nat) (φ : Nat → Nat) {x6 x7 : Int32} {x9 : Option mm_V}, i + j = n → RLI m w0 w N P k a st p0 h0 e0 A0 B0 φ0 i l vs A B h e p φ → x6 = (if 0 < i then nI (l 0) else 0) → (∀ j, j + 1 = i → x7 = nI (l j)) → mm_WQ (mm_call mm_ms (mm_tb L xs) (d + 3)) (mm_tb L xs) mm_m80 lim Q 116 [some (mm_R 164), some (mm_L x1), none, some (mm_I (nI n)), some (mm_L x4), none, some (mm_I x6), some (mm_I x7), some (mm_I (nI i)), x9] [] w ml := by
  intro j
  induction j with
  | zero =>
    intro i w l vs A B h e p φ x6 x7 x9 hj hR h6 h7
    have hi : i = n := by omega
    subst hi
    have hR' := hR
    obtain ⟨-, ⟨q2, -⟩, -⟩ := hR
    refine bk_X6_readValue_L_116 (mm_call_m _) (fun _ => ?_) (fun z => absurd (Int32.le_refl _) z)
    rw [h6]
    exact sm_push_L q2 (by omega) (bk_X6_readValue_L_177 (mm_call_m _) (bk_X6_readValue_L_191 (mm_call_m _) (hK w l vs A B h e p φ hR')))
  | succ j ihj =>
    intro i w l vs A B h e p φ x6 x7 x9 hj hR h6 h7
    have hR' := hR
    obtain ⟨q1, ⟨q2, q3, q4, q5, q6⟩, ⟨q7, q8, q9⟩, q10, q11, q12, q13, q14, q15, q16, q17, q18⟩ := hR
    have hm1 : (i + 1) * cn k ≤ n * cn k := Nat.mul_le_mul_right _ (by omega)
    have hm2 : (i + 1) * en k ≤ n * en k := Nat.mul_le_mul_right _ (by omega)
    rw [Nat.add_mul, Nat.one_mul] at hm1 hm2
    have hlt : ¬ nI n ≤ nI i := fun z => by
      have := mm_leI z
      rw [mm_tI (by omega), mm_tI (by omega)] at this
      omega
    refine bk_X6_readValue_L_116 (mm_call_m _) (fun z => absurd z hlt) (fun _ => ?_)
    refine ih w h e p A B φ _ q10 q2 q3 (by omega) (by omega) q7 (by omega) q15 (fun w1 hV => ?_)
    obtain ⟨v, A1, B1, h1, e1, φ1, p1, r1, r2, r3, r4, r5, r6, r7, r8, r9, r10⟩ := hV
    have r2' := r2
    obtain ⟨s1, s2, s3, s4, s5⟩ := r2
    refine bk_X6_readValue_L_128 (mm_call_m _) (en_X5_shapeWidth (bk_X5_shapeWidth_0 (mm_call_m _) (bk_X6_readValue_L_135 (mm_call_m _) (sm_link s1 (by omega) s2 (by omega) (by omega) ?_))))
    generalize hw2 : mm_u (mm_u (mm_u (mm_u w1 164 9 (nI (p1 + 2))) 165 p1 0) 165 (p1 + 1) (w1 165 st)) 164 8 (nI st) = w2
    have u1 : ∀ c i', ¬ c = 165 → ¬ (c = 164 ∧ (i' = 8 ∨ i' = 9)) → w2 c i' = w1 c i' := fun c i' z1 z2 => by
      rw [← hw2, mm_u_o (by omega), mm_u_o (by omega), mm_u_o (by omega), mm_u_o (by omega)]
    have u2 : w2 164 8 = nI st := by rw [← hw2, mm_u_s]
    have u3 : w2 164 9 = nI (p1 + 2) := by rw [← hw2, mm_u_f (by decide), mm_u_e (by decide), mm_u_e (by decide), mm_u_s]
    have u4 : ∀ c, ¬ c = p1 → ¬ c = p1 + 1 → w2 165 c = w1 165 c := fun c z1 z2 => by
      rw [← hw2, mm_u_e (by decide), mm_u_f z2, mm_u_f z1, mm_u_e (by decide)]
    have u5 : w2 165 p1 = 0 := by rw [← hw2, mm_u_e (by decide), mm_u_f (by omega), mm_u_s]
    have u6 : w2 165 (p1 + 1) = w1 165 st := by rw [← hw2, mm_u_e (by decide), mm_u_s]
    refine bk_X6_readValue_L_139 (mm_call_m _) (fun z => ?_) (fun z => ?_)
    · have hi0 : 0 < i := by
        by_cases q : 0 < i
        · exact q
        · exact absurd (show nI i = 0 by rw [show i = 0 by omega]; rfl) z
      obtain ⟨j', hj'⟩ : ∃ j', j' + 1 = i := ⟨i - 1, by omega⟩
      have hl := (q16 j' (by omega)).1
      rw [h7 j' hj']
      refine sm_set_L (by omega) (bk_X6_readValue_L_161 (mm_call_m _) ?_)
      rw [show nI i + 1 = nI (i + 1) from (nI_succ i).symm]
      refine ihj (i + 1) _ (fφ l i p1) (fu vs i v) A1 B1 h1 e1 (p1 + 2) φ1 (by omega) (rl_step hP hst hp0 hR' r1 r2' r3 r4 r5 r6 r7 r8 r9 r10 (fun c i' z1 z2 => (mm_u_e (by omega)).trans (u1 c i' z1 z2)) ((mm_u_e (by decide)).trans u2) ((mm_u_e (by decide)).trans u3) (fun c hc => (mm_u_f (by omega)).trans (u4 c (by omega) (by omega))) ((mm_u_f (by omega)).trans u5) ((mm_u_f (by omega)).trans u6) (fun j hj => ?_) (fun c c1 c2 c3 => (mm_u_f (c3 j' hj')).trans (u4 c (by omega) (by omega)))) ?_ (fun j hj => ?_)
      · rw [show j = j' by omega, mm_u_s]
      · rw [if_pos (by omega), fφ_o (by omega), h6, if_pos hi0]
      · rw [show j = i by omega, fφ_s]
    · have hi0 : i = 0 := nI_ij (by omega) (by decide) (z.trans (show (0 : Int32) = nI 0 from rfl))
      refine bk_X6_readValue_L_161 (mm_call_m _) ?_
      rw [show nI i + 1 = nI (i + 1) from (nI_succ i).symm]
      refine ihj (i + 1) _ (fφ l i p1) (fu vs i v) A1 B1 h1 e1 (p1 + 2) φ1 (by omega) (rl_step hP hst hp0 hR' r1 r2' r3 r4 r5 r6 r7 r8 r9 r10 u1 u2 u3 (fun c hc => u4 c (by omega) (by omega)) u5 u6 (fun j hj => absurd hj (by omega)) (fun c c1 c2 c3 => u4 c (by omega) (by omega))) ?_ (fun j hj => ?_)
      · rw [if_pos (by omega), hi0, fφ_s]
      · rw [show j = i by omega, fφ_s]
end MMT
