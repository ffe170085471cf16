/-! ===== findOrder() of the model: the same order ===== -/
def OL (w : mm_P) (l : List Nat) : Prop := w 176 36 = nI l.length ∧ ∀ i, i < l.length → w 207 i = nI (l.getD i 0)
section MMT
variable {L : Nat} {xs : Nat → Int32} {d : Nat} {Q : mm_QQ} {mi : mm_P} {ml : mm_G} {lim : Nat × Nat}
theorem fo_k {NB ND NF : Nat} {m : mm_P} {x1 : Int32} (hI : IM m NB ND NF) (hN : NC ND m) : ∀ (k n D : Nat), n < ND → (m 193 n).toInt ≤ (k : Int) + 1 → D + k ≤ 12 → ∀ (j i : Nat) (l : List Nat) (w : mm_P) (x2 : Int32) {x3 x4 : Option mm_V}, i + j = (f_parts (m 188 n)).toInt.toNat → x2.toInt = D → OF m w → w 208 D = nI n → w 209 D = nI i → OL w l → (∀ p, p < n → (¬ w 210 p = 0 ↔ p ∈ l)) → ¬ w 210 n = 0 → l.length + D + 1 ≤ hz (w 210) ND → (∀ w' x2' x3 x4, x2'.toInt = (D : Int) - 1 → OF m w' → OL w' (k_pfo (fun i l => k_po m k (k_part m n i).toNatClampNeg l) i j l ++ [n]) → (∀ p, p < n → (¬ w' 210 p = 0 ↔ p ∈ k_pfo (fun i l => k_po m k (k_part m n i).toNatClampNeg l) i j l)) → ¬ w' 210 n = 0 → (∀ p, n < p → w' 210 p = w 210 p) → (∀ e, e < D → w' 208 e = w 208 e ∧ w' 209 e = w 209 e) → (k_pfo (fun i l => k_po m k (k_part m n i).toNatClampNeg l) i j l ++ [n]).length + hz (w 210) ND = l.length + hz (w' 210) ND + 1 → mm_WQ (mm_call mm_ms (mm_tb L xs) (d + 1)) (mm_tb L xs) mm_m203 lim Q 61 [some (mm_R 176), some (mm_I x1), some (mm_I x2'), x3, x4] [] w' ml) → mm_WQ (mm_call mm_ms (mm_tb L xs) (d + 1)) (mm_tb L xs) mm_m203 lim Q 61 [some (mm_R 176), some (mm_I x1), some (mm_I x2), x3, x4] [] w ml := by
  have hND := hI.1.2.1
  have hok := fun q hq => okK_of hI hN (n := q) hq
  intro k
  induction k with
  | zero =>
    -- a node of depth 1 has no parts that are deeper than 0
    intro n D hn hd hD j
    have ok := hI.2.2.2.2.1 n hn
    induction j with
    | zero =>
      intro i l w x2 x3 x4 h h2 hM e8 e9 hL hS hni hct hK
      have e2 : x2 = nI D := Int32.toInt_inj.mp (by rw [mm_tI (by omega)]; omega)
      subst e2
      have eD : (nI D).toNatClampNeg = D := nI_clamp (by omega)
      have en : (nI n).toNatClampNeg = n := nI_clamp (by omega)
      have vD : vp_in (nI D) 16 := vp_in_nI (by omega) (by decide)
      have hlt : ¬ nI D < 0 := by rw [Int32.lt_iff_toInt_lt, mm_tI (by omega), mm_tt0]; omega
      have hle := hz_le (f := w 210) (n := ND)
      obtain ⟨pn1, pn3⟩ := f_parts_n (m 188 n)
      have hk8 : w 188 n = m 188 n := PR_of hM 188 n (pg_nod (by decide) (by decide))
      refine bk_X12_findOrder_61 (mm_call_m _) (fun z => absurd z hlt) (fun _ => vD) (fun _ => vD) (fun _ => ?_) (fun _ => ?_) <;> rw [eD, e8]
      · exact vp_in_nI (by omega) (by decide)
      · rw [en, e9, hk8]
        refine sp_X12_partsOf (bk_X12_findOrder_87 (mm_call_m _) (fun _ => ?_) (fun _ => bk_X12_findOrder_175 (mm_call_m _) ?_) (fun z => absurd ?_ z) (fun z => absurd ?_ z))
        · rw [hL.1]
          exact vp_in_nI (by omega) (by decide)
        · rw [hL.1, nI_clamp (by omega), show nI l.length + 1 = nI (l.length + 1) from (nI_succ l.length).symm]
          have e210 : ∀ p, mm_u (mm_u w 207 l.length (nI n)) 176 36 (nI (l.length + 1)) 210 p = w 210 p := fun p => by rw [mm_u_e (by decide), mm_u_e (by decide)]
          have e210' : mm_u (mm_u w 207 l.length (nI n)) 176 36 (nI (l.length + 1)) 210 = w 210 := funext e210
          refine hK _ _ _ _ ?_ (OF_v (OF_u hM (by decide) (by decide))) ⟨?_, fun e he => ?_⟩ (fun p hp => ?_) ?_ (fun p _ => e210 p) (fun e _ => ⟨?_, ?_⟩) ?_
          · rw [Int32.toInt_add, mm_tI (by omega), mm_tn1, Int.bmod_eq_of_le] <;> omega
          · show mm_u (mm_u w 207 l.length (nI n)) 176 36 (nI (l.length + 1)) 176 36 = nI (l ++ [n]).length
            rw [mm_u_s, List.length_append]
            rfl
          · have he' : e < l.length + 1 := by
              have : e < (l ++ [n]).length := he
              rw [List.length_append] at this
              exact this
            show mm_u (mm_u w 207 l.length (nI n)) 176 36 (nI (l.length + 1)) 207 e = nI ((l ++ [n]).getD e 0)
            rw [mm_u_e (by decide)]
            by_cases hec : e = l.length
            · rw [hec, mm_u_s, getD_last]
            · rw [mm_u_f hec, getD_app (by omega)]
              exact hL.2 e (by omega)
          · rw [e210]
            exact hS p hp
          · rw [e210]
            exact hni
          · rw [mm_u_e (by decide), mm_u_e (by decide)]
          · rw [mm_u_e (by decide), mm_u_e (by decide)]
          · rw [e210']
            show (l ++ [n]).length + hz (w 210) ND = l.length + hz (w 210) ND + 1
            rw [List.length_append]
            show l.length + 1 + _ = _
            omega
        · rw [Int32.le_iff_toInt_le, mm_tI (by omega)]
          omega
        · rw [Int32.le_iff_toInt_le, mm_tI (by omega)]
          omega
    | succ j ihj =>
      intro i l w x2 x3 x4 h
      exfalso
      obtain ⟨pn1, pn3⟩ := f_parts_n (m 188 n)
      have hi : (nI i).toInt = i := mm_tI (by omega)
      obtain ⟨p, p1, p2, p3⟩ := f_part_r (i := nI i) ok (by omega) (by omega)
      have := (hI.2.2.2.2.1 p (by omega)).2.1.1
      omega
  | succ k ih =>
    intro n D hn hd hD j
    have ok := hI.2.2.2.2.1 n hn
    obtain ⟨pn1, pn3⟩ := f_parts_n (m 188 n)
    induction j with
    | zero =>
      intro i l w x2 x3 x4 h h2 hM e8 e9 hL hS hni hct hK
      have e2 : x2 = nI D := Int32.toInt_inj.mp (by rw [mm_tI (by omega)]; omega)
      subst e2
      have eD : (nI D).toNatClampNeg = D := nI_clamp (by omega)
      have en : (nI n).toNatClampNeg = n := nI_clamp (by omega)
      have vD : vp_in (nI D) 16 := vp_in_nI (by omega) (by decide)
      have hlt : ¬ nI D < 0 := by rw [Int32.lt_iff_toInt_lt, mm_tI (by omega), mm_tt0]; omega
      have hle := hz_le (f := w 210) (n := ND)
      have hk8 : w 188 n = m 188 n := PR_of hM 188 n (pg_nod (by decide) (by decide))
      refine bk_X12_findOrder_61 (mm_call_m _) (fun z => absurd z hlt) (fun _ => vD) (fun _ => vD) (fun _ => ?_) (fun _ => ?_) <;> rw [eD, e8]
      · exact vp_in_nI (by omega) (by decide)
      · rw [en, e9, hk8]
        refine sp_X12_partsOf (bk_X12_findOrder_87 (mm_call_m _) (fun _ => ?_) (fun _ => bk_X12_findOrder_175 (mm_call_m _) ?_) (fun z => absurd ?_ z) (fun z => absurd ?_ z))
        · rw [hL.1]
          exact vp_in_nI (by omega) (by decide)
        · rw [hL.1, nI_clamp (by omega), show nI l.length + 1 = nI (l.length + 1) from (nI_succ l.length).symm]
          have e210 : ∀ p, mm_u (mm_u w 207 l.length (nI n)) 176 36 (nI (l.length + 1)) 210 p = w 210 p := fun p => by rw [mm_u_e (by decide), mm_u_e (by decide)]
          have e210' : mm_u (mm_u w 207 l.length (nI n)) 176 36 (nI (l.length + 1)) 210 = w 210 := funext e210
          refine hK _ _ _ _ ?_ (OF_v (OF_u hM (by decide) (by decide))) ⟨?_, fun e he => ?_⟩ (fun p hp => ?_) ?_ (fun p _ => e210 p) (fun e _ => ⟨?_, ?_⟩) ?_
          · rw [Int32.toInt_add, mm_tI (by omega), mm_tn1, Int.bmod_eq_of_le] <;> omega
          · show mm_u (mm_u w 207 l.length (nI n)) 176 36 (nI (l.length + 1)) 176 36 = nI (l ++ [n]).length
            rw [mm_u_s, List.length_append]
            rfl
          · have he' : e < l.length + 1 := by
              have : e < (l ++ [n]).length := he
              rw [List.length_append] at this
              exact this
            show mm_u (mm_u w 207 l.length (nI n)) 176 36 (nI (l.length + 1)) 207 e = nI ((l ++ [n]).getD e 0)
            rw [mm_u_e (by decide)]
            by_cases hec : e = l.length
            · rw [hec, mm_u_s, getD_last]
            · rw [mm_u_f hec, getD_app (by omega)]
              exact hL.2 e (by omega)
          · rw [e210]
            exact hS p hp
          · rw [e210]
            exact hni
          · rw [mm_u_e (by decide), mm_u_e (by decide)]
          · rw [mm_u_e (by decide), mm_u_e (by decide)]
          · rw [e210']
            show (l ++ [n]).length + hz (w 210) ND = l.length + hz (w 210) ND + 1
            rw [List.length_append]
            show l.length + 1 + _ = _
            omega
        · rw [Int32.le_iff_toInt_le, mm_tI (by omega)]
          omega
        · rw [Int32.le_iff_toInt_le, mm_tI (by omega)]
          omega
    | succ j ihj =>
      intro i l w x2 x3 x4 h h2 hM e8 e9 hL hS hni hct hK
      have e2 : x2 = nI D := Int32.toInt_inj.mp (by rw [mm_tI (by omega)]; omega)
      subst e2
      have eD : (nI D).toNatClampNeg = D := nI_clamp (by omega)
      have en : (nI n).toNatClampNeg = n := nI_clamp (by omega)
      have vD : vp_in (nI D) 16 := vp_in_nI (by omega) (by decide)
      have hlt : ¬ nI D < 0 := by rw [Int32.lt_iff_toInt_lt, mm_tI (by omega), mm_tt0]; omega
      have hle := hz_le (f := w 210) (n := ND)
      have hk8 : w 188 n = m 188 n := PR_of hM 188 n (pg_nod (by decide) (by decide))
      have hi : (nI i).toInt = i := mm_tI (by omega)
      obtain ⟨p, p1, p2, p3⟩ := f_part_r (i := nI i) ok (by omega) (by omega)
      have hfp : f_part w n (nI i) = nI p := (f_part_c (fun c i a b => PR_of hM c i (pg_nod a b))).trans p2
      have hkp : (k_part m n i).toNatClampNeg = p := by
        rw [kf_part hI hN hn (by omega), p2, nI_clamp (by omega)]
      have ep : (nI p).toNatClampNeg = p := nI_clamp (by omega)
      have hd1 := (hI.2.2.2.2.1 p (by omega)).2.1.1
      have es : nI i + 1 = nI (i + 1) := (nI_succ i).symm
      have hstep : k_pfo (fun i l => k_po m (k + 1) (k_part m n i).toNatClampNeg l) i (j + 1) l = k_pfo (fun i l => k_po m (k + 1) (k_part m n i).toNatClampNeg l) (i + 1) j (k_po m (k + 1) p l) := by
        show k_pfo _ (i + 1) j (k_po m (k + 1) (k_part m n i).toNatClampNeg l) = _
        rw [hkp]
      rw [hstep] at hK
      refine bk_X12_findOrder_61 (mm_call_m _) (fun z => absurd z hlt) (fun _ => vD) (fun _ => vD) (fun _ => ?_) (fun _ => ?_) <;> rw [eD, e8]
      · exact vp_in_nI (by omega) (by decide)
      · rw [en, e9, hk8]
        refine sp_X12_partsOf (bk_X12_findOrder_87 (mm_call_m _) (fun z => ?_) (fun z => ?_) (fun _ => vD) (fun _ => ?_))
        · have := mm_leI z
          rw [mm_tI (by omega)] at this
          omega
        · have := mm_leI z
          rw [mm_tI (by omega)] at this
          omega
        · rw [eD, e9]
          refine sp_X12_partOf (by omega) (bk_X12_findOrder_101 (mm_call_m _) vD vD ?_ (fun z => bk_X12_findOrder_149 (mm_call_m _) (bk_X12_findOrder_175 (mm_call_m _) ?_)) (fun z => ?_) (fun z => ?_) (fun z => ?_) (fun z => bk_X12_findOrder_149 (mm_call_m _) (bk_X12_findOrder_175 (mm_call_m _) ?_)))
          · rw [hfp]
            exact vp_in_nI (by omega) (by decide)
          · rw [hfp, ep] at z
            have hpl : p ∈ l := (hS p p1).mp z
            rw [po_in hpl] at hK
            rw [eD, e9, es]
            have e1 : ∀ c e, ¬ c = 209 → mm_u w 209 D (nI (i + 1)) c e = w c e := fun c e q => mm_u_e q
            have e210 : mm_u w 209 D (nI (i + 1)) 210 = w 210 := funext fun e => e1 210 e (by decide)
            refine ihj (i + 1) l _ (nI D) (by omega) h2 (OF_u hM (by decide) (by decide)) ((e1 208 D (by decide)).trans e8) mm_u_s ⟨(e1 176 36 (by decide)).trans hL.1, fun e he => (e1 207 e (by decide)).trans (hL.2 e he)⟩ (fun q hq => by rw [e1 210 q (by decide)]; exact hS q hq) (by rw [e1 210 n (by decide)]; exact hni) (by rw [e210]; exact hct) (fun w' x2' x3 x4 c1 c2 c3 c4 c5 c6 c7 c8 => hK w' x2' x3 x4 c1 c2 c3 c4 c5 (fun q hq => (c6 q hq).trans (e1 210 q (by decide))) (fun e he => ⟨(c7 e he).1.trans (e1 208 e (by decide)), (c7 e he).2.trans (mm_u_f (by omega))⟩) (by rw [e210] at c8; exact c8))
          · rw [hfp]
            exact vp_in_nI (by omega) (by decide)
          · rw [show nI D + 1 = nI (D + 1) from (nI_succ D).symm]
            exact vp_in_nI (by omega) (by decide)
          · rw [show nI D + 1 = nI (D + 1) from (nI_succ D).symm]
            exact vp_in_nI (by omega) (by decide)
          · rw [hfp, ep] at z
            have hpl : ¬ p ∈ l := fun y => (hS p p1).mpr y z
            rw [hfp, ep, eD, e9, es, show nI D + 1 = nI (D + 1) from (nI_succ D).symm, nI_clamp (show D + 1 < 2 ^ 31 by omega), mm_nb1]
            generalize hw1 : mm_u (mm_u (mm_u (mm_u w 209 D (nI (i + 1))) 210 p 1) 208 (D + 1) (nI p)) 209 (D + 1) 0 = w1
            have g207 : ∀ e, w1 207 e = w 207 e := fun e => by rw [← hw1, mm_u_e (by decide), mm_u_e (by decide), mm_u_e (by decide), mm_u_e (by decide)]
            have g36 : w1 176 36 = w 176 36 := by rw [← hw1, mm_u_e (by decide), mm_u_e (by decide), mm_u_e (by decide), mm_u_e (by decide)]
            have g210p : w1 210 p = 1 := by rw [← hw1, mm_u_e (by decide), mm_u_e (by decide), mm_u_s]
            have g210 : ∀ q, ¬ q = p → w1 210 q = w 210 q := fun q hq => by rw [← hw1, mm_u_e (by decide), mm_u_e (by decide), mm_u_f hq, mm_u_e (by decide)]
            have g208 : ∀ e, e < D + 1 → w1 208 e = w 208 e := fun e he => by rw [← hw1, mm_u_e (by decide), mm_u_f (by omega), mm_u_e (by decide), mm_u_e (by decide)]
            have g208' : w1 208 (D + 1) = nI p := by rw [← hw1, mm_u_e (by decide), mm_u_s]
            have g209 : ∀ e, e < D → w1 209 e = w 209 e := fun e he => by rw [← hw1, mm_u_f (by omega), mm_u_e (by decide), mm_u_e (by decide), mm_u_f (by omega)]
            have g209D : w1 209 D = nI (i + 1) := by rw [← hw1, mm_u_f (by omega), mm_u_e (by decide), mm_u_e (by decide), mm_u_s]
            have g209' : w1 209 (D + 1) = nI 0 := by rw [← hw1, mm_u_s]; rfl
            have hM1 : OF m w1 := by
              rw [← hw1]
              exact OF_u (OF_u (OF_u (OF_u hM (by decide) (by decide)) (by decide) (by decide)) (by decide) (by decide)) (by decide) (by decide)
            have hz1 : hz (w1 210) ND = hz (w 210) ND + 1 := hz_set z (by rw [g210p]; decide) (fun q hq => g210 q hq) (by omega)
            have hpo := po_out (m := m) (k := k) hpl
            have h4p : m 4 p = m 188 p := (hN.2 p (by omega)).1
            rw [h4p] at hpo
            refine ih p (D + 1) (by omega) (by omega) (by omega) (f_parts (m 188 p)).toInt.toNat 0 l w1 (nI (D + 1)) (by omega) (by rw [mm_tI (by omega)]) hM1 g208' g209' ⟨g36.trans hL.1, fun e he => (g207 e).trans (hL.2 e he)⟩ (fun q hq => by rw [g210 q (by omega)]; exact hS q (by omega)) (by rw [g210p]; decide) (by omega) (fun w' x2' y3 y4 c1 c2 c3 c4 c5 c6 c7 c8 => ?_)
            rw [← hpo] at c3 c8
            generalize hl1 : k_po m (k + 1) p l = l1 at c3 c8 hK
            refine ihj (i + 1) l1 w' x2' (by omega) (by omega) c2 ((c7 D (by omega)).1.trans ((g208 D (by omega)).trans e8)) ((c7 D (by omega)).2.trans g209D) c3 (fun q hq => ?_) (by rw [c6 n p1, g210 n (by omega)]; exact hni) (by omega) (fun w2 x2'' z3 z4 b1 b2 b3 b4 b5 b6 b7 b8 => hK w2 x2'' z3 z4 b1 b2 b3 b4 b5 (fun q hq => (b6 q hq).trans ((c6 q (by omega)).trans (g210 q (by omega)))) (fun e he => ⟨(b7 e he).1.trans ((c7 e (by omega)).1.trans (g208 e (by omega))), (b7 e he).2.trans ((c7 e (by omega)).2.trans (g209 e he))⟩) (by omega))
            -- what is marked is what is met
            rw [← hl1]
            by_cases hqp : q < p
            · rw [c4 q hqp, hpo, List.mem_append, List.mem_singleton]
              exact ⟨fun y => .inl y, fun y => y.elim id (fun y => by omega)⟩
            · by_cases hqe : q = p
              · subst hqe
                exact ⟨fun _ => po_self, fun _ => c5⟩
              · rw [c6 q (by omega), g210 q hqe, hS q hq]
                refine ⟨fun y => po_sub (k + 1) p l q y, fun y => ?_⟩
                rcases po_new (k + 1) p l q y with y | y
                · exact y
                · have := BL_le hND hok (show p < ND by omega) y
                  omega
theorem fo_7 {f NB ND NF b : Nat} {m : mm_P} (hI : IM m NB ND NF) (hN : NC ND m) (hf : f < NF) (hb : b < ND) (hbf : m 197 f = nI b) (hQ : ∀ w, OF m w → OL w (k_po m 12 b []) → (k_po m 12 b []).length ≤ 200 → Q none w ml) : ∀ (j i : Nat) (w : mm_P), i + j = ND → OF m w → w 176 36 = 0 → (∀ k, k < i → w 210 k = 0) → mm_WQ (mm_call mm_ms (mm_tb L xs) (d + 1)) (mm_tb L xs) mm_m203 (mm_li mm_m203) Q 7 [some (mm_R 176), some (mm_I (nI f)), some (mm_I (nI i)), none, none] [] w ml := by
  have hND := hI.1.2.1
  have hNF := hI.1.2.2
  have ef : (nI f).toNatClampNeg = f := nI_clamp (by omega)
  have vf : vp_in (nI f) 12 := vp_in_nI (by omega) (by decide)
  have v0 : vp_in 0 16 := vp_in_nI (n := 0) (by decide) (by decide)
  have e0 : ((0 : Int32).toNatClampNeg) = 0 := rfl
  intro j
  induction j with
  | zero =>
    intro i w h hM h36 hz0
    have hi : i = ND := by omega
    subst hi
    have hIw := IM_c hI (PR_of hM)
    have hle : w 176 13 ≤ nI i := by rw [hIw.2.1.2.1]; exact Int32.le_refl _
    have hbw : w 197 f = nI b := (PR_of hM 197 f (pg_nod (by decide) (by decide))).trans hbf
    have eb : (nI b).toNatClampNeg = b := nI_clamp (by omega)
    refine bk_X12_findOrder_7 (mm_call_m _) (fun _ => vf) (fun _ => v0) (fun _ => v0) (fun _ => vf) (fun _ => ?_) (fun _ => ?_) (fun z => absurd hle z) (fun z => absurd hle z) <;> rw [ef, hbw]
    · exact vp_in_nI (by omega) (by decide)
    · rw [e0, eb, mm_nb1]
      have hp193 := hI.2.2.2.2.1 b hb
      have hh : hz (mm_u (mm_u (mm_u w 208 0 (nI b)) 209 0 0) 210 b 1 210) i = 1 := by
        rw [hz_set (f := w 210) (hz0 b hb) (by rw [mm_u_s]; decide) (fun k hk => by rw [mm_u_f hk, mm_u_e (by decide), mm_u_e (by decide)]) hb, hz_zero hz0]
      have h4b : m 4 b = m 188 b := (hN.2 b hb).1
      have hpo : k_po m 12 b [] = k_pfo (fun i l => k_po m 11 (k_part m b i).toNatClampNeg l) 0 (f_parts (m 188 b)).toInt.toNat [] ++ [b] := by
        rw [← h4b]
        exact po_out (k := 11) List.not_mem_nil
      refine fo_k hI hN 11 b 0 hb (by have := hp193.2.1; omega) (by decide) (f_parts (m 188 b)).toInt.toNat 0 [] _ 0 (by omega) rfl (OF_u (OF_u (OF_u hM (by decide) (by decide)) (by decide) (by decide)) (by decide) (by decide)) ?_ ?_ ⟨?_, fun e he => absurd he (Nat.not_lt_zero _)⟩ (fun p hp => ⟨fun q => absurd ?_ q, fun q => absurd q List.not_mem_nil⟩) (by rw [mm_u_s]; decide) (by rw [hh]; decide) (fun w' x2' x3 x4 c1 c2 c3 c4 c5 c6 c7 c8 => ?_)
      · rw [mm_u_e (by decide), mm_u_e (by decide), mm_u_s]
      · rw [mm_u_e (by decide), mm_u_s]
        rfl
      · rw [mm_u_e (by decide), mm_u_e (by decide), mm_u_e (by decide)]
        exact h36
      · rw [mm_u_f (by omega), mm_u_e (by decide), mm_u_e (by decide)]
        exact hz0 p (by omega)
      · rw [← hpo] at c3 c8
        have hle2 := hz_le (f := w' 210) (n := i)
        rw [hh] at c8
        have c8' : (k_po m 12 b []).length + 1 = 0 + hz (w' 210) i + 1 := c8
        have hlt : x2' < 0 := by
          rw [Int32.lt_iff_toInt_lt, c1, mm_tt0]
          omega
        exact bk_X12_findOrder_61 (mm_call_m _) (fun _ => hQ w' c2 c3 (by omega)) (fun z => absurd hlt z) (fun z => absurd hlt z) (fun z => absurd hlt z) (fun z => absurd hlt z)
  | succ j ih =>
    intro i w h hM h36 hz0
    have hIw := IM_c hI (PR_of hM)
    have hlt : ¬ w 176 13 ≤ nI i := by
      rw [(hIw).2.1.2.1, Int32.le_iff_toInt_le, mm_tI (by omega), mm_tI (by omega)]
      omega
    refine bk_X12_findOrder_7 (mm_call_m _) (fun z => absurd z hlt) (fun z => absurd z hlt) (fun z => absurd z hlt) (fun z => absurd z hlt) (fun z => absurd z hlt) (fun z => absurd z hlt) (fun _ => vp_in_nI (by omega) (by decide)) (fun _ => ?_)
    rw [show nI i + 1 = nI (i + 1) from (nI_succ i).symm, nI_clamp (by omega), mm_nb0]
    refine ih (i + 1) _ (by omega) (OF_u hM (by decide) (by decide)) ((mm_u_e (by decide)).trans h36) (fun k hk => ?_)
    by_cases hki : k = i
    · subst hki
      exact mm_u_s
    · rw [mm_u_f hki]
      exact hz0 k (by omega)
/-- findOrder(): the nodes of a body in the order in which the class meets them -/
theorem sx_findOrder {f NB ND NF b : Nat} (hI : IM mi NB ND NF) (hN : NC ND mi) (hf : f < NF) (hb : b < ND) (hbf : mi 197 f = nI b) (hQ : ∀ w, OF mi w → OL w (k_po mi 12 b []) → (k_po mi 12 b []).length ≤ 200 → Q none w ml) : mm_cq (mm_call mm_ms (mm_tb L xs) (d + 2)) 203 [mm_R 176, mm_I (nI f)] mi ml Q :=
  en_X12_findOrder (bk_X12_findOrder_0 (mm_call_m _) (fo_7 hI hN hf hb hbf hQ ND 0 _ (by omega) (OF_v (fun _ _ _ _ => rfl)) mm_u_s (fun k hk => absurd hk (Nat.not_lt_zero _))))
end MMT
