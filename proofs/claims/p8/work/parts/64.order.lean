/-! ===== findOrder() of the model ===== -/
theorem hz_le {f : Nat → Int32} : ∀ {n : Nat}, hz f n ≤ n
  | 0 => Nat.le_refl _
  | n + 1 => by
    unfold hz
    have := hz_le (f := f) (n := n)
    split <;> omega
theorem hz_set {f g : Nat → Int32} {i : Nat} (h0 : f i = 0) (h1 : ¬ g i = 0) (h : ∀ k, ¬ k = i → g k = f k) : ∀ {n : Nat}, i < n → hz g n = hz f n + 1
  | 0, hi => absurd hi (Nat.not_lt_zero _)
  | n + 1, hi => by
    unfold hz
    by_cases hn : n = i
    · subst hn
      rw [hz_eq (f := f) (g := g) (n := n) (fun k hk => h k (by omega)), if_neg h1, if_pos h0]
    · rw [h n hn, hz_set h0 h1 h (n := n) (by omega)]
      omega
/-- what is still to do at the places below D -/
def smq (f : Nat → Int32) : Nat → Nat
  | 0 => 0
  | n + 1 => smq f n + (4 - (f n).toNatClampNeg)
theorem smq_eq {f g : Nat → Int32} : ∀ {n : Nat}, (∀ k, k < n → g k = f k) → smq g n = smq f n
  | 0, _ => rfl
  | n + 1, h => by
    unfold smq
    rw [smq_eq (n := n) (fun k hk => h k (by omega)), h n (by omega)]
def OF (m w : mm_P) : Prop := ∀ c i, ¬ (207 ≤ c ∧ c ≤ 210) → ¬ (c = 176 ∧ i = 36) → w c i = m c i
theorem OF_u {c i : Nat} {x : Int32} {m w : mm_P} (h : OF m w) (h1 : 207 ≤ c) (h2 : c ≤ 210) : OF m (mm_u w c i x) := fun a b p q => (mm_u_e (by omega)).trans (h a b p q)
theorem OF_v {x : Int32} {m w : mm_P} (h : OF m w) : OF m (mm_u w 176 36 x) := fun a b p q => by
  by_cases ha : a = 176
  · subst ha
    exact (mm_u_f (fun z => q ⟨rfl, z⟩)).trans (h 176 b p q)
  · exact (mm_u_e ha).trans (h a b p q)
theorem PR_of {m w : mm_P} (h : OF m w) : PR m w := fun c i q => h c i (fun z => by
  have e : ∀ c, c = 207 ∨ c = 208 ∨ c = 209 ∨ c = 210 → pg c i = false := by
    rintro c (rfl | rfl | rfl | rfl) <;> rfl
  rw [e c (by omega)] at q
  cases q) (fun z => by
  obtain ⟨rfl, rfl⟩ := z
  exact absurd q (by decide))
/-- nodes in order, parts ahead of what has them -/
def OR (ND : Nat) (m w : mm_P) (f o : Nat) : Prop := w 176 36 = nI o ∧ o ≤ ND ∧ ∀ i, i < o → ∃ n, n < ND ∧ w 207 i = nI n ∧ IB ND m f n
def OV (ND : Nat) (m w : mm_P) (f D F : Nat) : Prop := OF m w ∧ (∀ i, i < D → ∃ p q : Nat, w 208 i = nI p ∧ p < ND ∧ IB ND m f p ∧ (m 193 p).toInt + i ≤ 12 ∧ w 209 i = nI q ∧ q ≤ 3) ∧ (∃ o, OR ND m w f o ∧ o + D ≤ hz (w 210) ND) ∧ 6 * (ND - hz (w 210) ND) + smq (w 209) D ≤ F
section MMT
variable {L : Nat} {xs : Nat → Int32} {d : Nat} {Q : mm_QQ} {mi : mm_P} {ml : mm_G} {lim : Nat × Nat}
theorem order_61 {f NB ND NF : Nat} {m : mm_P} {x1 : Int32} (hI : IM m NB ND NF) (hQ : ∀ w o, OF m w → OR ND m w f o → Q none w ml) : ∀ (F D : Nat) (w : mm_P) (x2 : Int32) {x3 x4 : Option mm_V}, x2.toInt = (D : Int) - 1 → OV ND m w f D F → mm_WQ (mm_call mm_ms (mm_tb L xs) (d + 1)) (mm_tb L xs) mm_m203 (mm_li mm_m203) Q 61 [some (mm_R 176), some (mm_I x1), some (mm_I x2), x3, x4] [] w ml := by
  have hND := hI.1.2.1
  intro F
  induction F with
  | zero =>
    intro D w x2 x3 x4 h2 hV
    obtain ⟨v1, v2, ⟨o, v3, v4⟩, v5⟩ := hV
    cases D with
    | zero =>
      refine bk_X12_findOrder_61 (mm_call_m _) (fun _ => hQ w o v1 v3) (fun z => absurd ?_ z) (fun z => absurd ?_ z) (fun z => absurd ?_ z) (fun z => absurd ?_ z) <;> rw [Int32.lt_iff_toInt_lt, mm_tt0] <;> omega
    | succ D =>
      exfalso
      obtain ⟨p, q, p1, p2, p3, p4, p5, p6⟩ := v2 D (by omega)
      unfold smq at v5
      rw [p5, nI_clamp (by omega)] at v5
      omega
  | succ F ih =>
    intro D w x2 x3 x4 h2 hV
    obtain ⟨v1, v2, ⟨o, v3, v4⟩, v5⟩ := hV
    cases D with
    | zero =>
      refine bk_X12_findOrder_61 (mm_call_m _) (fun _ => hQ w o v1 v3) (fun z => absurd ?_ z) (fun z => absurd ?_ z) (fun z => absurd ?_ z) (fun z => absurd ?_ z) <;> rw [Int32.lt_iff_toInt_lt, mm_tt0] <;> omega
    | succ D =>
      have e2 : x2 = nI D := Int32.toInt_inj.mp (by
        have := Int32.toInt_lt x2
        rw [mm_tI (by omega)]
        omega)
      subst e2
      obtain ⟨p, q, p1, p2, p3, p4, p5, p6⟩ := v2 D (by omega)
      have hIw := IM_c hI (PR_of v1)
      have hp193 := (hI.2.2.2.2.1 p p2).2.1
      have hD : D ≤ 11 := by omega
      have vd16 : vp_in (nI D) 16 := vp_in_nI (by omega) (by decide)
      have eD : (nI D).toNatClampNeg = D := nI_clamp (by omega)
      have ep : (nI p).toNatClampNeg = p := nI_clamp (by omega)
      have eq : (nI q).toNatClampNeg = q := nI_clamp (by omega)
      have hs : smq (w 209) (D + 1) = smq (w 209) D + (4 - q) := by
        show smq (w 209) D + (4 - (w 209 D).toNatClampNeg) = _
        rw [p5, eq]
      rw [hs] at v5
      have hn : ∀ {P : Prop}, (nI D) < 0 → P := fun z => by
        rw [Int32.lt_iff_toInt_lt, mm_tt0, mm_tI (by omega)] at z
        omega
      have hhz := hz_le (f := w 210) (n := ND)
      refine bk_X12_findOrder_61 (mm_call_m _) (fun z => hn z) (fun _ => vd16) (fun _ => vd16) (fun _ => ?_) (fun _ => ?_) <;> rw [eD, p1]
      · exact vp_in_nI (by omega) (by decide)
      rw [p5, ep]
      have ek : w 188 p = m 188 p := PR_of v1 188 p (pg_nod (by decide) (by decide))
      have hpar := f_parts_in (w 188 p)
      have hp3 : (f_parts (w 188 p)).toInt ≤ 3 := by rcases hpar with h | h | h | h <;> (rw [h]; decide)
      have eqi : (nI q).toInt = q := mm_tI (by omega)
      obtain ⟨o1, o2, o3⟩ := v3
      have eo : (nI o).toNatClampNeg = o := nI_clamp (by omega)
      refine sp_X12_partsOf (bk_X12_findOrder_87 (mm_call_m _) (fun _ => ?_) (fun _ => ?_) (fun _ => vd16) (fun z => ?_))
      · rw [o1]
        exact vp_in_nI (by omega) (by decide)
      · rw [o1, eo]
        refine bk_X12_findOrder_175 (mm_call_m _) (ih D _ _ ?_ ⟨OF_v (OF_u v1 (by decide) (by decide)), fun i hi => ?_, ⟨o + 1, ⟨?_, by omega, fun i hi => ?_⟩, ?_⟩, ?_⟩)
        · rw [Int32.toInt_add, mm_tI (by omega), show (-1 : Int32).toInt = -1 from rfl, Int.bmod_eq_of_le] <;> omega
        · obtain ⟨a, b, a1, a2⟩ := v2 i (by omega)
          refine ⟨a, b, ?_⟩
          rw [mm_u_e (by decide), mm_u_e (by decide), mm_u_e (by decide), mm_u_e (by decide)]
          exact ⟨a1, a2⟩
        · rw [mm_u_s]
          exact (nI_succ o).symm
        · rw [mm_u_e (by decide)]
          by_cases ho : i = o
          · subst ho
            exact ⟨p, p2, mm_u_s, p3⟩
          · rw [mm_u_f ho]
            exact o3 i (by omega)
        · rw [hz_eq (f := w 210) (fun k _ => by rw [mm_u_e (by decide), mm_u_e (by decide)])]
          omega
        · rw [hz_eq (f := w 210) (fun k _ => by rw [mm_u_e (by decide), mm_u_e (by decide)]), smq_eq (f := w 209) (fun k _ => by rw [mm_u_e (by decide), mm_u_e (by decide)])]
          omega
      · rw [Int32.le_iff_toInt_le, eqi] at z
        rw [eD, p5]
        have hfp : f_part w p (nI q) = f_part m p (nI q) := f_part_c (fun c i h1 h2 => PR_of v1 c i (pg_nod h1 h2))
        obtain ⟨r, r1, r2, r3⟩ := f_part_r (i := nI q) (hI.2.2.2.2.1 p p2) (by omega) (by rw [← ek]; omega)
        rw [← hfp] at r2
        have er : (nI r).toNatClampNeg = r := nI_clamp (by omega)
        have vr : vp_in (nI r) 200 := vp_in_nI (by omega) (by decide)
        have hIr : IB ND m f r := fun P h1 h2 => by
          have := h2 p p2 (p3 P h1 h2) (nI q) (by omega) (by rw [← ek]; omega)
          rw [← hfp, r2, er] at this
          exact this
        have es : nI q + 1 = nI (q + 1) := (nI_succ q).symm
        have h9 : ∀ i, ¬ i = D → mm_u w 209 D (nI (q + 1)) 209 i = w 209 i := fun i hi => mm_u_f hi
        refine sp_X12_partOf (by omega) ?_
        rw [r2]
        refine bk_X12_findOrder_101 (mm_call_m _) vd16 vd16 vr (fun zm => ?_) (fun _ => vr) (fun _ => ?_) (fun _ => ?_) (fun zm => ?_)
        · rw [eD, p5, es]
          refine bk_X12_findOrder_149 (mm_call_m _) (bk_X12_findOrder_175 (mm_call_m _) (ih (D + 1) _ _ h2 ⟨OF_u v1 (by decide) (by decide), fun i hi => ?_, ⟨o, ⟨?_, o2, fun i hi => ?_⟩, ?_⟩, ?_⟩))
          · rw [mm_u_e (show ¬ 208 = 209 by decide)]
            by_cases hiD : i = D
            · subst hiD
              exact ⟨p, q + 1, p1, p2, p3, p4, mm_u_s, by omega⟩
            · rw [h9 i hiD]
              exact v2 i hi
          · rw [mm_u_e (by decide)]
            exact o1
          · rw [mm_u_e (by decide)]
            exact o3 i hi
          · rw [hz_eq (f := w 210) (fun k _ => by rw [mm_u_e (by decide)])]
            exact v4
          · rw [hz_eq (f := w 210) (fun k _ => by rw [mm_u_e (by decide)])]
            show _ + (smq _ D + (4 - (mm_u w 209 D (nI (q + 1)) 209 D).toNatClampNeg)) ≤ F
            rw [mm_u_s, nI_clamp (by omega), smq_eq (f := w 209) (fun k hk => h9 k (by omega))]
            omega
        · rw [show nI D + 1 = nI (D + 1) from (nI_succ D).symm]
          exact vp_in_nI (by omega) (by decide)
        · rw [show nI D + 1 = nI (D + 1) from (nI_succ D).symm]
          exact vp_in_nI (by omega) (by decide)
        · rw [er] at zm
          rw [eD, p5, es, er, mm_nb1, show nI D + 1 = nI (D + 1) from (nI_succ D).symm, nI_clamp (show D + 1 < 2 ^ 31 by omega)]
          have e210 : ∀ k, mm_u (mm_u (mm_u (mm_u w 209 D (nI (q + 1))) 210 r 1) 208 (D + 1) (nI r)) 209 (D + 1) 0 210 k = mm_u w 210 r 1 210 k := fun k => by
            rw [mm_u_e (by decide), mm_u_e (by decide)]
            unfold mm_u
            simp only [if_pos, show ¬ (210 : Nat) = 209 by decide, if_false]
          have hh : hz (mm_u (mm_u (mm_u (mm_u w 209 D (nI (q + 1))) 210 r 1) 208 (D + 1) (nI r)) 209 (D + 1) 0 210) ND = hz (w 210) ND + 1 := by
            rw [hz_eq (fun k _ => e210 k)]
            exact hz_set zm (by rw [mm_u_s]; decide) (fun k hk => mm_u_f hk) (by omega)
          have hh2 := hz_le (f := mm_u (mm_u (mm_u (mm_u w 209 D (nI (q + 1))) 210 r 1) 208 (D + 1) (nI r)) 209 (D + 1) 0 210) (n := ND)
          have e209 : ∀ k, mm_u (mm_u (mm_u (mm_u w 209 D (nI (q + 1))) 210 r 1) 208 (D + 1) (nI r)) 209 (D + 1) 0 209 k = if k = D + 1 then 0 else if k = D then nI (q + 1) else w 209 k := fun k => by
            unfold mm_u
            simp only [if_pos, show ¬ (209 : Nat) = 208 by decide, show ¬ (209 : Nat) = 210 by decide, if_false]
          refine bk_X12_findOrder_149 (mm_call_m _) (bk_X12_findOrder_175 (mm_call_m _) (ih (D + 2) _ _ ?_ ⟨OF_u (OF_u (OF_u (OF_u v1 (by decide) (by decide)) (by decide) (by decide)) (by decide) (by decide)) (by decide) (by decide), fun i hi => ?_, ⟨o, ⟨?_, o2, fun i hi => ?_⟩, ?_⟩, ?_⟩))
          · rw [mm_tI (by omega)]
            omega
          · rw [e209, mm_u_e (show ¬ 208 = 209 by decide)]
            by_cases hi1 : i = D + 1
            · subst hi1
              rw [if_pos rfl, mm_u_s]
              exact ⟨r, 0, rfl, by omega, hIr, by omega, rfl, by omega⟩
            · rw [if_neg hi1, mm_u_f hi1, mm_u_e (by decide), mm_u_e (by decide)]
              by_cases hiD : i = D
              · subst hiD
                rw [if_pos rfl]
                exact ⟨p, q + 1, p1, p2, p3, p4, rfl, by omega⟩
              · rw [if_neg hiD]
                exact v2 i (by omega)
          · rw [mm_u_e (by decide), mm_u_e (by decide), mm_u_e (by decide), mm_u_e (by decide)]
            exact o1
          · rw [mm_u_e (by decide), mm_u_e (by decide), mm_u_e (by decide), mm_u_e (by decide)]
            exact o3 i hi
          · rw [hh]
            omega
          · rw [hh]
            rw [hh] at hh2
            show _ + (smq _ D + (4 - _) + (4 - _)) ≤ F
            rw [e209, e209, if_pos rfl, if_neg (by omega), if_pos rfl, nI_clamp (show q + 1 < 2 ^ 31 by omega), smq_eq (f := w 209) (fun k hk => by rw [e209, if_neg (by omega), if_neg (by omega)]), show ((0 : Int32).toNatClampNeg) = 0 from rfl]
            omega
theorem order_7 {f NB ND NF b : Nat} {m : mm_P} (hI : IM m NB ND NF) (hf : f < NF) (hb : b < ND) (hbf : m 197 f = nI b) (hQ : ∀ w o, OF m w → OR ND m w f o → Q none w ml) : ∀ (j i : Nat) (w : mm_P), i + j = ND → OF m w → w 176 36 = 0 → (∀ k, k < i → w 210 k = 0) → mm_WQ (mm_call mm_ms (mm_tb L xs) (d + 1)) (mm_tb L xs) mm_m203 (mm_li mm_m203) Q 7 [some (mm_R 176), some (mm_I (nI f)), some (mm_I (nI i)), none, none] [] w ml := by
  have hND := hI.1.2.1
  have hNF := hI.1.2.2
  have ef : (nI f).toNatClampNeg = f := nI_clamp (by omega)
  have vf : vp_in (nI f) 12 := vp_in_nI (by omega) (by decide)
  have v0 : vp_in 0 16 := vp_in_nI (n := 0) (by decide) (by decide)
  have e0 : ((0 : Int32).toNatClampNeg) = 0 := rfl
  intro j
  induction j with
  | zero =>
    intro i w h hM h36 hz0
    have hi : i = ND := by omega
    subst hi
    have hIw := IM_c hI (PR_of hM)
    have hle : w 176 13 ≤ nI i := by rw [hIw.2.1.2.1]; exact Int32.le_refl _
    have hbw : w 197 f = nI b := (PR_of hM 197 f (pg_nod (by decide) (by decide))).trans hbf
    have eb : (nI b).toNatClampNeg = b := nI_clamp (by omega)
    refine bk_X12_findOrder_7 (mm_call_m _) (fun _ => vf) (fun _ => v0) (fun _ => v0) (fun _ => vf) (fun _ => ?_) (fun _ => ?_) (fun z => absurd hle z) (fun z => absurd hle z) <;> rw [ef, hbw]
    · exact vp_in_nI (by omega) (by decide)
    · rw [e0, eb, mm_nb1]
      have hp193 := hI.2.2.2.2.1 b hb
      have hh : hz (mm_u (mm_u (mm_u w 208 0 (nI b)) 209 0 0) 210 b 1 210) i = 1 := by
        rw [hz_set (f := w 210) (hz0 b hb) (by rw [mm_u_s]; decide) (fun k hk => by rw [mm_u_f hk, mm_u_e (by decide), mm_u_e (by decide)]) hb, hz_zero hz0]
      refine order_61 hI hQ (6 * i + 4) 1 _ _ (by decide) ⟨OF_u (OF_u (OF_u hM (by decide) (by decide)) (by decide) (by decide)) (by decide) (by decide), fun k hk => ?_, ⟨0, ⟨?_, by omega, fun k hk => absurd hk (Nat.not_lt_zero _)⟩, ?_⟩, ?_⟩
      · have : k = 0 := by omega
        subst this
        refine ⟨b, 0, ?_, hb, fun P h1 h2 => h1 b hb hbf, ?_, ?_, by omega⟩
        · rw [mm_u_e (by decide), mm_u_e (by decide), mm_u_s]
        · have := hp193.2.1
          omega
        · rw [mm_u_e (by decide), mm_u_s]
          rfl
      · rw [mm_u_e (by decide), mm_u_e (by decide), mm_u_e (by decide)]
        exact h36
      · rw [hh]
        exact Nat.le_refl _
      · rw [hh]
        show 6 * (i - 1) + (0 + (4 - _)) ≤ _
        omega
  | succ j ih =>
    intro i w h hM h36 hz0
    have hIw := IM_c hI (PR_of hM)
    have hlt : ¬ w 176 13 ≤ nI i := by
      rw [(hIw).2.1.2.1, Int32.le_iff_toInt_le, mm_tI (by omega), mm_tI (by omega)]
      omega
    refine bk_X12_findOrder_7 (mm_call_m _) (fun z => absurd z hlt) (fun z => absurd z hlt) (fun z => absurd z hlt) (fun z => absurd z hlt) (fun z => absurd z hlt) (fun z => absurd z hlt) (fun _ => vp_in_nI (by omega) (by decide)) (fun _ => ?_)
    rw [show nI i + 1 = nI (i + 1) from (nI_succ i).symm, nI_clamp (by omega), mm_nb0]
    refine ih (i + 1) _ (by omega) (OF_u hM (by decide) (by decide)) ((mm_u_e (by decide)).trans h36) (fun k hk => ?_)
    by_cases hki : k = i
    · subst hki
      exact mm_u_s
    · rw [mm_u_f hki]
      exact hz0 k (by omega)
theorem sp_findOrder {f NB ND NF b : Nat} (hI : IM mi NB ND NF) (hf : f < NF) (hb : b < ND) (hbf : mi 197 f = nI b) (hQ : ∀ w o, OF mi w → OR ND mi w f o → Q none w ml) : mm_cq (mm_call mm_ms (mm_tb L xs) (d + 2)) 203 [mm_R 176, mm_I (nI f)] mi ml Q := by
  have hND := hI.1.2.1
  exact en_X12_findOrder (bk_X12_findOrder_0 (mm_call_m _) (order_7 hI hf hb hbf hQ ND 0 _ (by omega) (OF_v (fun _ _ _ _ => rfl)) mm_u_s (fun k hk => absurd hk (Nat.not_lt_zero _))))
end MMT
