/-! ===== the table of types is complete behind forgets() ===== -/
def hsh (m : mm_P) (t : Nat) : Nat := (f_mx (m 177 t) (m 178 t) (m 179 t)).toNatClampNeg
/-- type t is in the table where it is looked for -/
def INT (m : mm_P) (t : Nat) : Prop := ∃ j, j < 16384 ∧ m 184 ((hsh m t + j) % 16384) = nI (t + 1) ∧ ∀ i, i < j → ¬ m 184 ((hsh m t + i) % 16384) = 0
theorem hsh_c {m n : mm_P} {t : Nat} (h : ∀ c, 177 ≤ c → c ≤ 179 → n c t = m c t) : hsh n t = hsh m t := by
  unfold hsh
  rw [h 177 (by decide) (by decide), h 178 (by decide) (by decide), h 179 (by decide) (by decide)]
theorem INT_u {n : mm_P} {k t : Nat} {x : Int32} (h : INT n t) (ht : t < 8000) (hk : n 184 k = 0) (hx : ¬ x = 0) : INT (mm_u n 184 k x) t := by
  obtain ⟨j, j1, j2, j3⟩ := h
  have e : hsh (mm_u n 184 k x) t = hsh n t := hsh_c (fun c _ _ => mm_u_e (by omega))
  refine ⟨j, j1, ?_, fun i hi q => ?_⟩
  · rw [e]
    by_cases hp : (hsh n t + j) % 16384 = k
    · rw [hp, hk] at j2
      have := congrArg Int32.toInt j2
      rw [mm_tI (by omega), mm_tt0] at this
      omega
    · rw [mm_u_f hp]
      exact j2
  · rw [e] at q
    by_cases hp : (hsh n t + i) % 16384 = k
    · rw [hp, mm_u_s] at q
      exact hx q
    · rw [mm_u_f hp] at q
      exact j3 i hi q
theorem hsh_lt (m : mm_P) (t : Nat) : hsh m t < 16384 := by
  obtain ⟨r0, r1⟩ := f_mx_r (m 177 t) (m 178 t) (m 179 t)
  obtain ⟨a, ea, ha, -, e2⟩ := mm_of r0 r1
  unfold hsh
  rw [e2]
  omega
section MMH
variable {L : Nat} {xs : Nat → Int32} {d : Nat} {Q : mm_QQ} {mi : mm_P} {ml : mm_G} {lim : Nat × Nat}
theorem notes_loop2 {t : Int32} {s : Nat} (hQ : ∀ j, j < 16384 → mi 184 ((s + j) % 16384) = 0 → (∀ i, i < j → ¬ mi 184 ((s + i) % 16384) = 0) → Q none (mm_u mi 184 ((s + j) % 16384) (t + 1)) ml) : ∀ (z j : Nat), j + z < 16384 → mi 184 ((s + (j + z)) % 16384) = 0 → (∀ i, i < j → ¬ mi 184 ((s + i) % 16384) = 0) → mm_WQ (mm_call mm_ms (mm_tb L xs) d) (mm_tb L xs) mm_m168 lim Q 22 [some (mm_R 176), some (mm_I t), some (mm_I (nI ((s + j) % 16384)))] [] mi ml
  | z, j, hz, h0, hall => by
    have ha : (s + j) % 16384 < 16384 := Nat.mod_lt _ (by decide)
    have hv : vp_in (nI ((s + j) % 16384)) 16384 := vp_in_nI ha (by decide)
    have hc : (nI ((s + j) % 16384)).toNatClampNeg = (s + j) % 16384 := nI_clamp (by omega)
    refine bk_X12_notes_22 (mm_call_m _) hv (fun _ => hv) (fun q => ?_) (fun q => ?_)
    · rw [hc] at q ⊢
      exact hQ j (by omega) q hall
    · rw [hc] at q
      rw [mm_nxt ha]
      match z, hz, h0 with
      | 0, hz, h0 => exact absurd h0 q
      | z + 1, hz, h0 =>
        rw [show ((s + j) % 16384 + 1) % 16384 = (s + (j + 1)) % 16384 by omega]
        refine notes_loop2 hQ z (j + 1) (by omega) ?_ (fun i hi => ?_)
        · rw [show s + (j + 1 + z) = s + (j + (z + 1)) by omega]
          exact h0
        · by_cases hij : i = j
          · subst hij
            exact q
          · exact hall i (by omega)
theorem sx_notes {t : Nat} (ht : t < 8000) (hn : hz (mi 184) 16384 < 16384) (hQ : ∀ k, k < 16384 → mi 184 k = 0 → INT (mm_u mi 184 k (nI (t + 1))) t → Q none (mm_u mi 184 k (nI (t + 1))) ml) : mm_cq (mm_call mm_ms (mm_tb L xs) (d + 2)) 168 [mm_R 176, mm_I (nI t)] mi ml Q := by
  have hv : vp_in (nI t) 8000 := vp_in_nI ht (by decide)
  have et : (nI t).toNatClampNeg = t := nI_clamp (by omega)
  refine en_X12_notes (bk_X12_notes_0 (mm_call_m _) hv hv hv (sp_mixed (bk_X12_notes_21 (mm_call_m _) ?_)))
  rw [et]
  obtain ⟨r0, r1⟩ := f_mx_r (mi 177 t) (mi 178 t) (mi 179 t)
  obtain ⟨a, ea, ha, -, e2⟩ := mm_of r0 r1
  have eh : hsh mi t = a := e2
  obtain ⟨z, hz1, hz2⟩ := hz_ex hn
  rw [ea]
  have e0 : nI a = nI ((a + 0) % 16384) := by rw [show (a + 0) % 16384 = a by omega]
  rw [e0]
  refine notes_loop2 (s := a) (fun j j1 j2 j3 => ?_) ((z + 16384 - a) % 16384) 0 (by omega) ?_ (fun i hi => absurd hi (Nat.not_lt_zero _))
  · rw [show nI t + 1 = nI (t + 1) from (nI_succ t).symm]
    refine hQ _ (Nat.mod_lt _ (by decide)) j2 ⟨j, j1, ?_, fun i hi q => ?_⟩
    · rw [hsh_c (m := mi) (fun c _ _ => mm_u_e (by omega)), eh, mm_u_s]
    · rw [hsh_c (m := mi) (fun c _ _ => mm_u_e (by omega)), eh] at q
      rw [mm_u_f (fun p => j3 i hi (by rw [p]; exact j2))] at q
      exact j3 i hi q
  · rw [show (a + (0 + (z + 16384 - a) % 16384)) % 16384 = z by omega]
    exact hz2
theorem forgets2_2 {N : Nat} {m0 : mm_P} (hN : (m0 176 0).toInt = N) (hN2 : N ≤ 200) (hQ : ∀ n, mm_fg m0 n N → (∀ t, t < N → INT n t) → Q none n ml) : ∀ (j i : Nat) (n : mm_P), i + j = N → mm_fg m0 n i → (∀ t, t < i → INT n t) → mm_WQ (mm_call mm_ms (mm_tb L xs) (d + 2)) (mm_tb L xs) mm_m167 lim Q 31 [some (mm_R 176), some (mm_I (nI i))] [] n ml
  | j, i, n, hj, hf, hin => by
    have hn0 : n 176 0 = m0 176 0 := hf.1 176 0 (by decide) (by decide)
    have hi : (nI i).toInt = i := mm_tI (by omega)
    refine bk_X12_forgets_31 (mm_call_m _) (fun z => ?_) (fun z => ?_)
    · rw [hn0, Int32.le_iff_toInt_le, hN, hi] at z
      have : i = N := by omega
      subst this
      exact hQ n hf hin
    · rw [hn0, Int32.le_iff_toInt_le, hN, hi] at z
      match j, hj with
      | 0, hj => omega
      | j + 1, hj =>
        refine sx_notes (by omega) (by have := hf.2.2.1; omega) (fun k hk hk0 hI => bk_X12_forgets_44 (mm_call_m _) ?_)
        rw [show nI i + 1 = nI (i + 1) from (nI_succ i).symm]
        have hfg := fg_note hf (by omega) hk
        rw [show nI i + 1 = nI (i + 1) from (nI_succ i).symm] at hfg
        refine forgets2_2 hN hN2 hQ j (i + 1) _ (by omega) hfg (fun t ht => ?_)
        by_cases hti : t = i
        · subst hti
          exact hI
        · refine INT_u (hin t (by omega)) (by omega) hk0 (fun q => ?_)
          have := congrArg Int32.toInt q
          rw [mm_tI (by omega), mm_tt0] at this
          omega
theorem sx_forgets {N : Nat} (hN : (mi 176 0).toInt = N) (hN2 : N ≤ 200) (hQ : ∀ n, mm_fg mi n N → (∀ t, t < N → INT n t) → Q none n ml) : mm_cq (mm_call mm_ms (mm_tb L xs) (d + 3)) 167 [mm_R 176] mi ml Q := by
  refine en_X12_forgets (bk_X12_forgets_0 (mm_call_m _) (forgets_1 (m0 := mi) (fun n hf => forgets2_2 hN hN2 hQ N 0 n (by omega) hf (fun t ht => absurd ht (Nat.not_lt_zero _))) 16384 0 _ (by omega) (fun a b q1 q2 => mm_u_o q2) mm_u_s (fun k hk => absurd hk (Nat.not_lt_zero _))))
/-- known(): a type that is there is found -/
theorem known_loop2 {s a b : Int32} {j0 t0 st : Nat} (ht0 : t0 < 8000) (hT : tbR mi 8000) (hj0 : mi 184 ((st + j0) % 16384) = nI (t0 + 1)) (hb : ∀ i, i < j0 → ¬ mi 184 ((st + i) % 16384) = 0) (hm : mi 177 t0 = s ∧ mi 178 t0 = a ∧ mi 179 t0 = b) (h1 : ∀ k, k < 16384 → ¬ mi 184 k = 0 → mi 177 (mi 184 k - 1).toNatClampNeg = s → mi 178 (mi 184 k - 1).toNatClampNeg = a → mi 179 (mi 184 k - 1).toNatClampNeg = b → Q (some (mm_I (mi 184 k - 1))) mi ml) : ∀ (z j : Nat) {x5 : Option mm_V}, j + z = j0 → mm_WQ (mm_call mm_ms (mm_tb L xs) d) (mm_tb L xs) mm_m169 lim Q 8 [some (mm_R 176), some (mm_I s), some (mm_I a), some (mm_I b), some (mm_I (nI ((st + j) % 16384))), x5] [] mi ml
  | z, j, x5, hz => by
    have hi : (st + j) % 16384 < 16384 := Nat.mod_lt _ (by decide)
    have hv : vp_in (nI ((st + j) % 16384)) 16384 := vp_in_nI hi (by decide)
    have hc : (nI ((st + j) % 16384)).toNatClampNeg = (st + j) % 16384 := nI_clamp (by omega)
    have e1 : nI (t0 + 1) - 1 = nI t0 := mm_dec' t0 (by omega)
    have hne : ¬ nI (t0 + 1) = 0 := fun q => by
      have := congrArg Int32.toInt q
      rw [mm_tI (by omega), mm_tt0] at this
      omega
    have hnz : ¬ mi 184 ((st + j) % 16384) = 0 := by
      by_cases q : j = j0
      · subst q
        rw [hj0]
        exact hne
      · exact hb j (by omega)
    have hgo : (mi 177 (mi 184 ((st + j) % 16384) - 1).toNatClampNeg = s → mi 178 (mi 184 ((st + j) % 16384) - 1).toNatClampNeg = a → ¬ mi 179 (mi 184 ((st + j) % 16384) - 1).toNatClampNeg = b) → ∀ {y : Int32}, mm_WQ (mm_call mm_ms (mm_tb L xs) d) (mm_tb L xs) mm_m169 lim Q 65 [some (mm_R 176), some (mm_I s), some (mm_I a), some (mm_I b), some (mm_I (nI ((st + j) % 16384))), some (mm_I y)] [] mi ml := by
      intro hno y
      refine bk_X12_known_65 (mm_call_m _) ?_
      rw [mm_nxt hi]
      match z, hz with
      | 0, hz =>
        have q : j = j0 := by omega
        subst q
        rw [hj0, e1, nI_clamp (by omega)] at hno
        exact absurd hm.2.2 (hno hm.1 hm.2.1)
      | z + 1, hz =>
        rw [show ((st + j) % 16384 + 1) % 16384 = (st + (j + 1)) % 16384 by omega]
        exact known_loop2 ht0 hT hj0 hb hm h1 z (j + 1) (by omega)
    have hv8 : vp_in (mi 184 ((st + j) % 16384) - 1) 8000 := by
      have := hT _ hi hnz
      refine mm_vpr ?_
      rw [mm_sub1 (by omega)]
      omega
    refine bk_X12_known_8 (mm_call_m _) hv ?_ ?_ ?_ ?_ ?_ ?_ ?_ ?_ ?_ <;> rw [hc]
    · exact fun q => absurd q hnz
    · exact fun _ => hv
    · exact fun _ => hv8
    · exact fun _ c1 => hgo (fun q _ => absurd q c1)
    · exact fun _ _ => hv8
    · exact fun _ c1 c2 => hgo (fun _ q => absurd q c2)
    · exact fun _ _ _ => hv8
    · exact fun _ c1 c2 c3 => hgo (fun _ _ => c3)
    · exact fun _ c1 c2 c3 => h1 _ hi hnz c1 c2 c3
/-- known() behind forgets() -/
theorem sx_known {NB : Nat} {s a b : Int32} (h : TS mi NB 200) (hin : ∀ t, t < NB → INT mi t) (h0 : (∀ t, t < NB → ¬ (mi 177 t = s ∧ mi 178 t = a ∧ mi 179 t = b)) → Q (some (mm_I (-1))) mi ml) (h1 : ∀ t, t < NB → mi 177 t = s → mi 178 t = a → mi 179 t = b → Q (some (mm_I (nI t))) mi ml) : mm_cq (mm_call mm_ms (mm_tb L xs) (d + 2)) 169 [mm_R 176, mm_I s, mm_I a, mm_I b] mi ml Q := by
  have hvd : ∀ t, vd NB 200 t → t < NB := fun t q => by
    unfold vd at q
    omega
  by_cases hex : ∃ t, t < NB ∧ mi 177 t = s ∧ mi 178 t = a ∧ mi 179 t = b
  · obtain ⟨t0, t1, t2⟩ := hex
    obtain ⟨a1, a2, a3, a4, a5, a6, a7⟩ := id h
    have hT : tbR mi 8000 := fun k hk hk0 => by
      obtain ⟨t, q1, q2⟩ := a5 k hk hk0
      have := vd_lt q1 a1.2 a2.2
      rw [q2, mm_tI (by omega)]
      omega
    obtain ⟨j0, j1, j2, j3⟩ := hin t0 t1
    refine en_X12_known (bk_X12_known_0 (mm_call_m _) (sp_mixed (bk_X12_known_6 (mm_call_m _) ?_)))
    obtain ⟨r0, r1⟩ := f_mx_r s a b
    obtain ⟨i, ei, hi, -, e2⟩ := mm_of r0 r1
    have eh : hsh mi t0 = i := by
      unfold hsh
      rw [t2.1, t2.2.1, t2.2.2]
      exact e2
    rw [eh] at j2 j3
    rw [ei, show nI i = nI ((i + 0) % 16384) by rw [show (i + 0) % 16384 = i by omega]]
    refine known_loop2 (t0 := t0) (by omega) hT j2 j3 t2 (fun k hk hk0 c1 c2 c3 => ?_) j0 0 (by omega)
    obtain ⟨t, q1, q2⟩ := a5 k hk hk0
    have ht := vd_lt q1 a1.2 a2.2
    have e : mi 184 k - 1 = nI t := by rw [q2, mm_dec' t (by omega)]
    have ec : (nI t).toNatClampNeg = t := nI_clamp (by omega)
    rw [e, ec] at c1 c2 c3
    rw [e]
    exact h1 t (hvd t q1) c1 c2 c3
  · exact TS_known h (h0 (fun t ht q => hex ⟨t, ht, q⟩)) (fun t ht => h1 t (hvd t ht))
end MMH
