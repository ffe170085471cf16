/-! ===== what lies under a node; meet() of the class ===== -/
def blw (m : mm_P) : Nat → Nat → Nat → Prop
  | 0, n, p => p = n
  | k + 1, n, p => p = n ∨ ∃ i : Nat, (i : Int) < (f_parts (m 4 n)).toInt ∧ blw m k (k_part m n i).toNatClampNeg p
/-- p lies under n, or is n -/
def BL (m : mm_P) (n p : Nat) : Prop := ∃ k, blw m k n p
section MBL
variable {m w : mm_P} {n p q NB : Nat}
theorem BL_r : BL m n n := ⟨0, rfl⟩
theorem BL_p {i : Nat} (hi : (i : Int) < (f_parts (m 4 n)).toInt) (h : BL m (k_part m n i).toNatClampNeg p) : BL m n p := by
  obtain ⟨k, h⟩ := h
  exact ⟨k + 1, .inr ⟨i, hi, h⟩⟩
theorem BL_e : BL m n p ↔ (p = n ∨ ∃ i : Nat, (i : Int) < (f_parts (m 4 n)).toInt ∧ BL m (k_part m n i).toNatClampNeg p) := by
  constructor
  · rintro ⟨k, h⟩
    cases k with
    | zero => exact .inl h
    | succ k =>
      rcases h with h | ⟨i, i1, h⟩
      · exact .inl h
      · exact .inr ⟨i, i1, k, h⟩
  · rintro (h | ⟨i, i1, h⟩)
    · rw [h]
      exact BL_r
    · exact BL_p i1 h
theorem blw_t : ∀ (k n : Nat), blw m k n p → BL m p q → BL m n q := by
  intro k
  induction k with
  | zero =>
    intro n h h2
    have h' : p = n := h
    rw [← h']
    exact h2
  | succ k ih =>
    intro n h h2
    rcases h with h | ⟨i, i1, h⟩
    · rw [← h]
      exact h2
    · exact BL_p i1 (ih _ h h2)
theorem BL_t (h : BL m n p) (h2 : BL m p q) : BL m n q := by
  obtain ⟨k, h⟩ := h
  exact blw_t k n h h2
theorem blw_c (h4 : ∀ i, w 4 i = m 4 i) (h6 : ∀ i, w 6 i = m 6 i) : ∀ (k n : Nat), blw w k n p → blw m k n p := by
  intro k
  induction k with
  | zero => exact fun n h => h
  | succ k ih =>
    intro n h
    rcases h with h | ⟨i, i1, h⟩
    · exact .inl h
    · refine .inr ⟨i, by rw [← h4]; exact i1, ?_⟩
      have e : k_part w n i = k_part m n i := by
        unfold k_part
        rw [h4, h6, h6]
      rw [e] at h
      exact ih _ h
theorem BL_c (h4 : ∀ i, w 4 i = m 4 i) (h6 : ∀ i, w 6 i = m 6 i) : BL w n p ↔ BL m n p :=
  ⟨fun ⟨k, h⟩ => ⟨k, blw_c h4 h6 k n h⟩, fun ⟨k, h⟩ => ⟨k, blw_c (fun i => (h4 i).symm) (fun i => (h6 i).symm) k n h⟩⟩
theorem blw_le {ND : Nat} (hND : ND ≤ 200) (hok : ∀ q, q < ND → okK NB m q) : ∀ (k n : Nat), n < ND → blw m k n p → p ≤ n := by
  intro k
  induction k with
  | zero =>
    intro n _ h
    have h' : p = n := h
    omega
  | succ k ih =>
    intro n hn h
    rcases h with h | ⟨i, i1, h⟩
    · omega
    · obtain ⟨r, r1, r2⟩ := k_part_r (hok n hn) i1
      rw [r2, nI_clamp (by omega)] at h
      have := ih r (by omega) h
      omega
theorem BL_le {ND : Nat} (hND : ND ≤ 200) (hok : ∀ q, q < ND → okK NB m q) (hn : n < ND) (h : BL m n p) : p ≤ n := by
  obtain ⟨k, h⟩ := h
  exact blw_le hND hok k n hn h
end MBL
def MW (m0 w : mm_P) : Prop := ∀ c i, ¬ c = 7 → ¬ c = 8 → ¬ (c = 3 ∧ i = 6) → w c i = m0 c i
/-- what meet() adds: nodes of P that weren't seen -/
def MA (P : Nat → Prop) (w w' : mm_P) (c c' : Nat) : Prop := w' 3 6 = nI c' ∧ c ≤ c' ∧ (∀ i, i < c → w' 8 i = w 8 i) ∧ (∀ p, ¬ w' 7 p = 0 ↔ (¬ w 7 p = 0 ∨ P p)) ∧ (∀ i, c ≤ i → i < c' → ∃ p, w' 8 i = nI p ∧ P p ∧ w 7 p = 0) ∧ (∀ p, P p → w 7 p = 0 → ∃ i, c ≤ i ∧ i < c' ∧ w' 8 i = nI p) ∧ c' + hz (w 7) 200 = c + hz (w' 7) 200
def CL (m0 : mm_P) (n : Nat) (w : mm_P) : Prop := ∀ q, q ≤ n → ¬ w 7 q = 0 → ∀ p, BL m0 q p → ¬ w 7 p = 0
theorem MA_r {P : Nat → Prop} {w : mm_P} {c : Nat} (h36 : w 3 6 = nI c) (hP : ∀ p, P p → ¬ w 7 p = 0) : MA P w w c c :=
  ⟨h36, Nat.le_refl _, fun _ _ => rfl, fun p => ⟨fun h => .inl h, fun h => h.elim id (hP p)⟩, fun i a b => absurd a (by omega), fun p h z => absurd z (hP p h), rfl⟩
theorem MA_t {P R S : Nat → Prop} {w w1 w2 : mm_P} {c c1 c2 : Nat} (hS : ∀ p, S p ↔ (P p ∨ R p)) (h : MA P w w1 c c1) (h2 : MA R w1 w2 c1 c2) : MA S w w2 c c2 := by
  obtain ⟨a1, a2, a3, a4, a5, a6, a7⟩ := h
  obtain ⟨b1, b2, b3, b4, b5, b6, b7⟩ := h2
  refine ⟨b1, by omega, fun i hi => (b3 i (by omega)).trans (a3 i hi), fun p => ?_, fun i i1 i2 => ?_, fun p hp hz => ?_, by omega⟩
  · rw [b4 p, a4 p, hS p]
    constructor
    · rintro ((h | h) | h)
      · exact .inl h
      · exact .inr (.inl h)
      · exact .inr (.inr h)
    · rintro (h | h | h)
      · exact .inl (.inl h)
      · exact .inl (.inr h)
      · exact .inr h
  · by_cases hi : i < c1
    · obtain ⟨p, p1, p2, p3⟩ := a5 i i1 hi
      exact ⟨p, (b3 i hi).trans p1, (hS p).mpr (.inl p2), p3⟩
    · obtain ⟨p, p1, p2, p3⟩ := b5 i (by omega) i2
      refine ⟨p, p1, (hS p).mpr (.inr p2), ?_⟩
      by_cases z : w 7 p = 0
      · exact z
      · exact absurd p3 ((a4 p).mpr (.inl z))
  · by_cases z : w1 7 p = 0
    · rcases (hS p).mp hp with q | q
      · exact absurd z ((a4 p).mpr (.inr q))
      · obtain ⟨i, i1, i2, i3⟩ := b6 p q z
        exact ⟨i, by omega, i2, i3⟩
    · rcases (a4 p).mp z with q | q
      · exact absurd hz q
      · obtain ⟨i, i1, i2, i3⟩ := a6 p q hz
        exact ⟨i, i1, by omega, (b3 i i2).trans i3⟩
section MMM
variable {L : Nat} {xs : Nat → Int32} {d : Nat} {ml : mm_G} {NB ND NF : Nat} {m0 : mm_P}
theorem KW_mw {w : mm_P} (hK : KW NB ND NF m0) (h : MW m0 w) : KW NB ND NF w := ⟨⟨(h 1 1 (by decide) (by decide) (by decide)).trans hK.1.1, (h 3 5 (by decide) (by decide) (by decide)).trans hK.1.2.1, (h 9 7 (by decide) (by decide) (by decide)).trans hK.1.2.2⟩, hK.2⟩
theorem okK_mw {w : mm_P} {n : Nat} (hK : okK NB m0 n) (h : MW m0 w) : okK NB w n := by
  have h4 : w 4 n = m0 4 n := h 4 n (by decide) (by decide) (by omega)
  have h6 : ∀ i, w 6 i = m0 6 i := fun i => h 6 i (by decide) (by decide) (by omega)
  unfold okK
  rw [h4, h6, h6, h6, h6]
  refine ⟨hK.1, fun q i hi => ?_, hK.2.2.1, hK.2.2.2⟩
  rw [h6]
  exact hK.2.1 q i hi
theorem meet_k (hK : KW NB ND NF m0) (hok : ∀ q, q < ND → okK NB m0 q) (hdep : ∀ q, q < ND → 1 ≤ (m0 5 q).toInt ∧ ∀ i : Nat, (i : Int) < (f_parts (m0 4 q)).toInt → (m0 5 (k_part m0 q i).toNatClampNeg).toInt < (m0 5 q).toInt) : ∀ (k n lev c : Nat) (w : mm_P) {Q : mm_QQ}, n < ND → (m0 5 n).toInt ≤ k → 1 ≤ lev → lev + k ≤ 13 → MW m0 w → w 3 6 = nI c → CL m0 n w → c + lev ≤ hz (w 7) 200 + 1 → (∀ w' c', MW m0 w' → MA (BL m0 n) w w' c c' → Q none w' ml) → mm_cq (mm_call mm_ms (mm_tb L xs) (d + k + 2)) 104 [mm_R 3, mm_I (nI n), mm_I (nI lev)] w ml Q := by
  obtain ⟨⟨k1, k2, k3⟩, n1, n2, n3⟩ := id hK
  have z1 : ∀ {P : Prop}, (1 : Int32) = 0 → P := fun z => absurd z (by decide)
  have e12 : (12 : Int32).toInt = 12 := rfl
  have e200 : (200 : Int32).toInt = 200 := rfl
  intro k
  induction k with
  | zero =>
    intro n lev c w Q hn hd
    have := (hdep n hn).1
    omega
  | succ k ih =>
    intro n lev c w Q hn hd hl1 hl hM h36 hCL hcnt hQ
    have ok := hok n hn
    have en : (nI n).toNatClampNeg = n := nI_clamp (by omega)
    have vn : vp_in (nI n) 200 := vp_in_nI (by omega) (by decide)
    have hKw := KW_mw hK hM
    have hle : hz (w 7) 200 ≤ 200 := hz_le
    have e4 : w 4 n = m0 4 n := hM 4 n (by decide) (by decide) (by omega)
    show mm_cq (mm_call mm_ms (mm_tb L xs) ((d + k + 2) + 1)) 104 [mm_R 3, mm_I (nI n), mm_I (nI lev)] w ml Q
    refine en_X7_meet (bk_X7_meet_0 (mm_call_m _) (sx_has7 (d := d + k + 1) hKw.1.2.1 n2 (fun t t1 t2 => bk_X7_meet_5 (s0 := 1) (mm_call_m _) z1 (fun _ z => ?_) (fun _ _ => vn) (fun _ _ _ => vn) (fun _ _ _ => vn) (fun _ _ z => ?_) (fun _ _ z => bk_X7_meet_23 (mm_call_m _) (hQ w c hM (MA_r h36 ?_)))) (fun q => absurd ⟨n, hn, rfl⟩ q)))
    · have := mm_ltI z
      rw [e12, mm_tI (by omega)] at this
      omega
    · rw [en] at z ⊢
      rw [e4]
      have hM1 : MW m0 (mm_u w 7 n 1) := fun c i a b e => (mm_u_e a).trans (hM c i a b e)
      have hs7 : hz (mm_u w 7 n 1 7) 200 = hz (w 7) 200 + 1 := hz_set z (by rw [mm_u_s]; decide) (fun i hi => mm_u_f hi) (by omega)
      have hp := f_parts_in (m0 4 n)
      have hp3 : (f_parts (m0 4 n)).toInt ≤ 3 := by rcases hp with hp | hp | hp | hp <;> (rw [hp]; decide)
      have hp0 : 0 ≤ (f_parts (m0 4 n)).toInt := by rcases hp with hp | hp | hp | hp <;> (rw [hp]; decide)
      obtain ⟨pn, epn, hpn, -, -⟩ := mm_of hp0 (show (f_parts (m0 4 n)).toInt < 4 by omega)
      have hpi : (f_parts (m0 4 n)).toInt = pn := by rw [epn, mm_tI (by omega)]
      refine sx_parts7 (d := d + k + 1) ok.1 (bk_X7_meet_41 (mm_call_m _) ?_)
      have hloop : ∀ (j i ci : Nat) (wi : mm_P), i + j = pn → MW m0 wi → MA (fun p => ∃ e : Nat, e < i ∧ BL m0 (k_part m0 n e).toNatClampNeg p) (mm_u w 7 n 1) wi c ci → mm_WQ (mm_call mm_ms (mm_tb L xs) (d + k + 2)) (mm_tb L xs) mm_m104 (mm_li mm_m104) Q 45 [some (mm_R 3), some (mm_I (nI n)), some (mm_I (nI lev)), some (mm_I (f_parts (m0 4 n))), some (mm_I (nI i))] [] wi ml := by
        intro j
        induction j with
        | zero =>
          intro i ci wi h hMi hA
          have hi : i = pn := by omega
          subst hi
          obtain ⟨a1, a2, a3, a4, a5, a6, a7⟩ := hA
          have hle2 : hz (wi 7) 200 ≤ 200 := hz_le
          have hci : ci < 200 := by omega
          have eci : (nI ci).toNatClampNeg = ci := nI_clamp (by omega)
          refine bk_X7_meet_45 (mm_call_m _) (fun _ z2 => ?_) (fun _ _ => ?_) (fun _ _ => bk_X7_meet_98 (mm_call_m _) ?_) (fun z2 => absurd ?_ z2)
          · have := mm_leI z2
            rw [a1, e200, mm_tI (by omega)] at this
            omega
          · rw [a1]
            exact vp_in_nI hci (by decide)
          · rw [a1, eci, show nI ci + 1 = nI (ci + 1) from (nI_succ ci).symm]
            have h7 : ∀ p, mm_u (mm_u wi 3 6 (nI (ci + 1))) 8 ci (nI n) 7 p = wi 7 p := fun p => by rw [mm_u_e (by decide), mm_u_e (by decide)]
            have h77 : mm_u (mm_u wi 3 6 (nI (ci + 1))) 8 ci (nI n) 7 = wi 7 := funext h7
            refine hQ _ (ci + 1) (fun c i a b e => ?_) ⟨?_, by omega, fun i hi => ?_, fun p => ?_, fun i i1 i2 => ?_, fun p p1 p2 => ?_, ?_⟩
            · rw [mm_u_e b, mm_u_o e]
              exact hMi c i a b e
            · rw [mm_u_e (by decide), mm_u_s]
            · rw [mm_u_f (by omega), mm_u_e (by decide), a3 i hi, mm_u_e (by decide)]
            · rw [h7, a4 p, BL_e (m := m0) (n := n) (p := p)]
              constructor
              · rintro (q | ⟨e, e1, e2⟩)
                · by_cases hpn' : p = n
                  · exact .inr (.inl hpn')
                  · rw [mm_u_f hpn'] at q
                    exact .inl q
                · exact .inr (.inr ⟨e, by omega, e2⟩)
              · rintro (q | q | ⟨e, e1, e2⟩)
                · refine .inl ?_
                  by_cases hpn' : p = n
                  · rw [hpn', mm_u_s]
                    decide
                  · rw [mm_u_f hpn']
                    exact q
                · refine .inl ?_
                  rw [q, mm_u_s]
                  decide
                · exact .inr ⟨e, by omega, e2⟩
            · by_cases hic : i = ci
              · subst hic
                exact ⟨n, mm_u_s, BL_r, z⟩
              · obtain ⟨p, p1, ⟨e, e1, e2⟩, p3⟩ := a5 i i1 (by omega)
                refine ⟨p, ?_, BL_p (by omega) e2, ?_⟩
                · rw [mm_u_f hic, mm_u_e (by decide)]
                  exact p1
                · by_cases hpn' : p = n
                  · rw [hpn']
                    exact z
                  · rw [mm_u_f hpn'] at p3
                    exact p3
            · by_cases hpn' : p = n
              · exact ⟨ci, a2, by omega, by rw [mm_u_s, hpn']⟩
              · rcases BL_e.mp p1 with q | ⟨e, e1, e2⟩
                · exact absurd q hpn'
                · obtain ⟨i, i1, i2, i3⟩ := a6 p ⟨e, by omega, e2⟩ (by rw [mm_u_f hpn']; exact p2)
                  refine ⟨i, i1, by omega, ?_⟩
                  rw [mm_u_f (by omega), mm_u_e (by decide)]
                  exact i3
            · rw [h77]
              omega
          · rw [Int32.le_iff_toInt_le, hpi, mm_tI (by omega)]
            omega
        | succ j ihj =>
          intro i ci wi h hMi hA
          have hnle : ∀ {P : Prop}, f_parts (m0 4 n) ≤ nI i → P := fun y => by
            have := mm_leI y
            rw [hpi, mm_tI (by omega)] at this
            omega
          have hi : (i : Int) < (f_parts (m0 4 n)).toInt := by omega
          obtain ⟨r, r1, r2⟩ := k_part_r ok hi
          have er : (k_part m0 n i).toNatClampNeg = r := by rw [r2, nI_clamp (by omega)]
          have hkp : k_part wi n i = k_part m0 n i := by
            unfold k_part
            rw [hMi 4 n (by decide) (by decide) (by omega), hMi 6 _ (by decide) (by decide) (by omega), hMi 6 _ (by decide) (by decide) (by omega)]
          have hdr := (hdep n hn).2 i hi
          rw [er] at hdr
          obtain ⟨a1, a2, a3, a4, a5, a6, a7⟩ := id hA
          refine bk_X7_meet_45 (mm_call_m _) (fun y => hnle y) (fun y => hnle y) (fun y => hnle y) (fun _ => sx_partOf7 (d := d + k) (KW_mw hK hMi) hn (by omega) (okK_mw ok hMi) (fun _ => bk_X7_meet_59 (mm_call_m _) ?_) (fun y => absurd (by rw [hMi 4 n (by decide) (by decide) (by omega)]; exact hi) y))
          rw [hkp, r2, show nI lev + 1 = nI (lev + 1) from (nI_succ lev).symm]
          refine ih r (lev + 1) ci wi (by omega) (by omega) (by omega) (by omega) hMi a1 (fun q hq hs p hbl => ?_) (by omega) (fun w' c' hM' hA' => bk_X7_meet_65 (mm_call_m _) ?_)
          · refine (a4 p).mpr ?_
            rcases (a4 q).mp hs with y | ⟨e, e1, e2⟩
            · have hqn : ¬ q = n := by omega
              rw [mm_u_f hqn] at y
              have := hCL q (by omega) y p hbl
              refine .inl ?_
              by_cases hpn' : p = n
              · rw [hpn', mm_u_s]
                decide
              · rw [mm_u_f hpn']
                exact this
            · exact .inr ⟨e, e1, BL_t e2 hbl⟩
          · rw [show nI i + 1 = nI (i + 1) from (nI_succ i).symm]
            refine ihj (i + 1) c' w' (by omega) hM' (MA_t (fun p => ?_) hA hA')
            constructor
            · rintro ⟨e, e1, e2⟩
              by_cases hei : e = i
              · rw [hei, er] at e2
                exact .inr e2
              · exact .inl ⟨e, by omega, e2⟩
            · rintro (⟨e, e1, e2⟩ | e2)
              · exact ⟨e, by omega, e2⟩
              · exact ⟨i, by omega, by rw [er]; exact e2⟩
      refine hloop pn 0 c (mm_u w 7 n 1) (by omega) hM1 (MA_r ((mm_u_e (by decide)).trans h36) (fun p ⟨e, e1, _⟩ => absurd e1 (Nat.not_lt_zero _)))
    · rw [en] at z
      exact fun p hp => hCL n (Nat.le_refl _) z p hp
/-- Arrays.fill(seen, 0) -/
theorem fill_5 {w0 : mm_P} {Q : mm_QQ} (hQ : ∀ w', (∀ c k, ¬ c = 7 → w' c k = w0 c k) → (∀ k, k < 200 → w' 7 k = 0) → Q none w' ml) : ∀ (j i : Nat) (w : mm_P), i + j = 200 → (∀ c k, ¬ c = 7 → w c k = w0 c k) → (∀ k, k < i → w 7 k = 0) → mm_WQ (mm_call mm_ms (mm_tb L xs) d) (mm_tb L xs) mm_m236 (mm_li mm_m236) Q 5 [some (mm_R 7), some (mm_I 0), some (mm_I (nI i)), some (mm_I (nI 200))] [] w ml := by
  intro j
  induction j with
  | zero =>
    intro i w h hF hZ
    have hi : i = 200 := by omega
    subst hi
    refine bk_J7_fill_53178_5 (mm_call_m _) (fun _ => hQ w hF hZ) (fun z => ?_) (fun z => ?_) <;> exact absurd (Int32.le_refl _) z
  | succ j ih =>
    intro i w h hF hZ
    refine bk_J7_fill_53178_5 (mm_call_m _) (fun z => ?_) (fun _ => vp_in_nI (by omega) (by decide)) (fun _ => ?_)
    · have := mm_leI z
      rw [mm_tI (by decide), mm_tI (by omega)] at this
      omega
    · rw [nI_clamp (by omega), show nI i + 1 = nI (i + 1) from (nI_succ i).symm]
      refine ih (i + 1) _ (by omega) (fun c k q => (mm_u_e q).trans (hF c k q)) (fun k hk => ?_)
      by_cases hki : k = i
      · rw [hki, mm_u_s]
      · rw [mm_u_f hki]
        exact hZ k (by omega)
theorem sx_fill {w : mm_P} {Q : mm_QQ} (hQ : ∀ w', (∀ c k, ¬ c = 7 → w' c k = w c k) → (∀ k, k < 200 → w' 7 k = 0) → Q none w' ml) : mm_cq (mm_call mm_ms (mm_tb L xs) (d + 1)) 236 [mm_R 7, mm_I 0] w ml Q :=
  en_J7_fill_53178 (bk_J7_fill_53178_0 (mm_call_m _) (fill_5 hQ 200 0 w (by omega) (fun _ _ _ => rfl) (fun k hk => absurd hk (Nat.not_lt_zero _))))
/-- meetUnder(): met are the nodes under n, each once -/
theorem sx_meetUnder {n : Nat} {Q : mm_QQ} (hK : KW NB ND NF m0) (hok : ∀ q, q < ND → okK NB m0 q) (hdep : ∀ q, q < ND → (1 ≤ (m0 5 q).toInt ∧ (m0 5 q).toInt ≤ 12) ∧ ∀ i : Nat, (i : Int) < (f_parts (m0 4 q)).toInt → (m0 5 (k_part m0 q i).toNatClampNeg).toInt < (m0 5 q).toInt) (hn : n < ND) (hQ : ∀ w c, MW m0 w → w 3 6 = nI c → c ≤ 200 → (∀ i, i < c → ∃ p, w 8 i = nI p ∧ BL m0 n p) → (∀ p, BL m0 n p → ∃ i, i < c ∧ w 8 i = nI p) → Q none w ml) : mm_cq (mm_call mm_ms (mm_tb L xs) (d + 15)) 103 [mm_R 3, mm_I (nI n)] m0 ml Q := by
  have hND := hK.2.2.1
  refine en_X7_meetUnder (bk_X7_meetUnder_0 (mm_call_m _) (sx_fill (d := d + 13) (fun w' f1 f2 => bk_X7_meetUnder_8 (mm_call_m _) ?_)))
  have h7 : ∀ p, p < 200 → mm_u w' 3 6 0 7 p = 0 := fun p hp => (mm_u_e (by decide)).trans (f2 p hp)
  refine meet_k (d := d) hK hok (fun q hq => ⟨(hdep q hq).1.1, (hdep q hq).2⟩) 12 n 1 0 (mm_u w' 3 6 0) hn (hdep n hn).1.2 (by decide) (by decide) (fun c i a b e => (mm_u_o e).trans (f1 c i a)) mm_u_s (fun q hq hs => absurd (h7 q (by omega)) hs) (by omega) (fun w c' hM hA => bk_X7_meetUnder_19 (mm_call_m _) ?_)
  obtain ⟨a1, a2, a3, a4, a5, a6, a7⟩ := hA
  have hz0 : hz (mm_u w' 3 6 0 7) 200 = 0 := hz_zero (fun p hp => h7 p hp)
  have hle : hz (w 7) 200 ≤ 200 := hz_le
  refine hQ w c' hM a1 (by omega) (fun i hi => ?_) (fun p hp => ?_)
  · obtain ⟨p, p1, p2, -⟩ := a5 i (Nat.zero_le _) hi
    exact ⟨p, p1, p2⟩
  · have := BL_le hND hok hn hp
    obtain ⟨i, -, i2, i3⟩ := a6 p hp (h7 p (by omega))
    exact ⟨i, i2, i3⟩
end MMM
