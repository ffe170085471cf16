/-! ===== types made since forgets(): each once, all in the table ===== -/
section MMH
variable {L : Nat} {xs : Nat → Int32} {d : Nat} {Q : mm_QQ} {mi : mm_P} {ml : mm_G} {lim : Nat × Nat}
/-- the end of lays(): widthOf, notes() -/
theorem lays_149x {t : Nat} {x2 x3 x4 x5 s2 w : Int32} (ht : t < 8000) (hn : hz (mi 184) 16384 < 16384) (h3 : ¬ x5 = 0 → vp_in x3 8000 ∧ vp_in x4 8000) (hw : w = (if mi 181 t + s2 ≤ 0 then (if x5 = 0 then 1 else mi 183 x3.toNatClampNeg + mi 183 x4.toNatClampNeg) else -1)) (hQ : ∀ k, k < 16384 → mi 184 k = 0 → INT (mm_u (mm_u (mm_u mi 182 t s2) 183 t w) 184 k (nI (t + 1))) t → Q none (mm_u (mm_u (mm_u mi 182 t s2) 183 t w) 184 k (nI (t + 1))) ml) : mm_WQ (mm_call mm_ms (mm_tb L xs) (d + 2)) (mm_tb L xs) mm_m172 lim Q 149 [some (mm_R 176), some (mm_I (nI t)), some (mm_I x2), some (mm_I x3), some (mm_I x4), some (mm_I x5), none] [mm_I s2, mm_I (nI t), mm_R 182] mi ml := by
  have hv : vp_in (nI t) 8000 := vp_in_nI ht (by decide)
  have hc : (nI t).toNatClampNeg = t := nI_clamp (by omega)
  have ht2 : 0 ≤ (nI t).toInt ∧ (nI t).toInt < 8000 := by rw [mm_tI (by omega)]; omega
  have hgo : ∀ (y : Int32) {x6 : Int32}, y = w → mm_cq (mm_call mm_ms (mm_tb L xs) (d + 2)) 168 [mm_R 176, mm_I (nI t)] (mm_u (mm_u mi 182 t s2) 183 t y) ml (fun o n1 n2 => mm_WQ (mm_call mm_ms (mm_tb L xs) (d + 2)) (mm_tb L xs) mm_m172 lim Q 216 [some (mm_R 176), some (mm_I (nI t)), some (mm_I x2), some (mm_I x3), some (mm_I x4), some (mm_I x5), some (mm_I x6)] (o.toList ++ []) n1 n2) := by
    intro y x6 hy
    rw [hy]
    have hn' : hz ((mm_u (mm_u mi 182 t s2) 183 t w) 184) 16384 < 16384 := by
      rw [hz_eq (f := mi 184) (fun k _ => by rw [mm_u_e (by decide), mm_u_e (by decide)])]
      exact hn
    refine sx_notes ht hn' (fun k hk hk0 hint => bk_X12_lays_216 (mm_call_m _) ?_)
    rw [mm_u_e (by decide), mm_u_e (by decide)] at hk0
    exact hQ k hk hk0 hint
  refine bk_X12_lays_149 (mm_call_m _) hv hv hv ?_ ?_ ?_ ?_ ?_ ?_ ?_ ?_ ?_ ?_ ?_ ?_ ?_ ?_ ?_ ?_ <;> rw [hc] <;> rw [mm_u_s]
  · exact fun _ _ _ => hv
  · exact fun c _ e => hgo _ (by rw [hw, if_pos c, if_pos e])
  · exact fun _ _ e => (h3 e).1
  · exact fun _ _ e => (h3 e).2
  · exact fun _ _ _ => hv
  · exact fun c _ e => hgo _ (by rw [hw, if_pos c, if_neg e])
  · exact fun _ e => absurd rfl e
  · exact fun _ e => absurd rfl e
  · exact fun _ e => absurd e (by decide)
  · exact fun _ e => absurd e (by decide)
  · exact fun _ e => absurd e (by decide)
  · exact fun _ e => absurd e (by decide)
  · exact fun _ e => absurd e (by decide)
  · exact fun _ e => absurd e (by decide)
  · exact fun _ _ => hv
  · exact fun c _ => hgo _ (by rw [hw, if_neg c])
theorem sx_lays4 {t a b : Nat} (ht : t < 8000) (ha : a < t) (hb : b < t) (hn : hz (mi 184) 16384 < 16384) (hQ : ∀ n k, k < 16384 → mi 184 k = 0 → LYf mi n t → en4 mi n t a b → INT (mm_u n 184 k (nI (t + 1))) t → Q none (mm_u n 184 k (nI (t + 1))) ml) : mm_cq (mm_call mm_ms (mm_tb L xs) (d + 3)) 172 [mm_R 176, mm_I (nI t), mm_I 4, mm_I (nI a), mm_I (nI b)] mi ml Q := by
  have hv : vp_in (nI t) 8000 := vp_in_nI ht (by decide)
  have hva : vp_in (nI a) 8000 := vp_in_nI (by omega) (by decide)
  have hvb : vp_in (nI b) 8000 := vp_in_nI (by omega) (by decide)
  have hc : (nI t).toNatClampNeg = t := nI_clamp (by omega)
  have hca : (nI a).toNatClampNeg = a := nI_clamp (by omega)
  have hcb : (nI b).toNatClampNeg = b := nI_clamp (by omega)
  have hat : ¬ a = t := by omega
  have hbt : ¬ b = t := by omega
  refine en_X12_lays (bk_X12_lays_0 (mm_call_m _) hv hv hv (fun z => absurd rfl z) (fun z => absurd rfl z) (fun z => absurd rfl z) (fun z => absurd rfl z) (fun z => absurd rfl z) (fun z => absurd rfl z) (fun z => absurd rfl z) (fun z => absurd rfl z) (fun z => absurd rfl z) (fun z => absurd rfl z) (fun _ z => absurd z (by decide)) (fun _ z => absurd z (by decide)) (fun _ z => absurd z (by decide)) (fun _ z => absurd z (by decide)) (fun _ z => absurd z (by decide)) (fun _ z => absurd z (by decide)) (fun _ z => absurd z (by decide)) (fun _ _ => hva) (fun _ _ => hvb) (fun _ _ => sp_most ?_))
  rw [hc, hca, hcb]
  refine bk_X12_lays_61 (s1 := nI t) (s2 := 1) (mm_call_m _) hv (fun z => absurd z (by decide)) (fun z => absurd z (by decide)) (fun _ => hva) (fun _ => hvb) (fun _ => sp_most (bk_X12_lays_98 (s1 := nI t) (mm_call_m _) (sp_under (bk_X12_lays_110 (s1 := nI t) (mm_call_m _) hv (fun z => absurd z (by decide)) (fun z => absurd z (by decide)) (fun _ => hva) (fun _ => hvb) (fun _ => sp_most (bk_X12_lays_137 (s1 := nI t) (mm_call_m _) (sp_under ?_)))))))
  rw [hc, hca, hcb]
  refine lays_149x (w := _) ht ?_ (fun _ => ⟨hva, hvb⟩) rfl (fun k hk hk0 hint => ?_)
  · rw [hz_eq (f := mi 184) (fun k _ => by rw [mm_u_e (by decide), mm_u_e (by decide), mm_u_e (by decide), mm_u_e (by decide), mm_u_e (by decide)])]
    exact hn
  · rw [mm_u_e (by decide), mm_u_e (by decide), mm_u_e (by decide), mm_u_e (by decide), mm_u_e (by decide)] at hk0
    refine hQ _ k hk hk0 ?_ ?_ hint
    · exact LYf_u (LYf_u (LYf_u (LYf_u (LYf_u (LYf_u (LYf_u LYf_r (by decide) (by decide)) (by decide) (by decide)) (by decide) (by decide)) (by decide) (by decide)) (by decide) (by decide)) (by decide) (by decide)) (by decide) (by decide)
    · rw [hca, hcb]
      refine ⟨?_, ?_, ?_, ?_, ?_, ?_, ?_⟩ <;> simp [mm_u]
theorem sx_lays5 {t a : Nat} (ht : t < 8000) (ha : a < t) (hn : hz (mi 184) 16384 < 16384) (hQ : ∀ n k, k < 16384 → mi 184 k = 0 → LYf mi n t → en5 mi n t a → INT (mm_u n 184 k (nI (t + 1))) t → Q none (mm_u n 184 k (nI (t + 1))) ml) : mm_cq (mm_call mm_ms (mm_tb L xs) (d + 3)) 172 [mm_R 176, mm_I (nI t), mm_I 5, mm_I (nI a), mm_I (-1)] mi ml Q := by
  have hv : vp_in (nI t) 8000 := vp_in_nI ht (by decide)
  have hva : vp_in (nI a) 8000 := vp_in_nI (by omega) (by decide)
  have hc : (nI t).toNatClampNeg = t := nI_clamp (by omega)
  have hca : (nI a).toNatClampNeg = a := nI_clamp (by omega)
  have hat : ¬ a = t := by omega
  refine en_X12_lays (bk_X12_lays_0 (mm_call_m _) hv hv hv (fun _ _ => hva) (fun _ _ => hv) (fun _ _ _ => hva) (fun _ _ _ => sp_under ?_) (fun _ _ z => absurd rfl z) (fun _ _ z => absurd rfl z) (fun _ _ z => absurd rfl z) (fun _ z => absurd rfl z) (fun _ z => absurd rfl z) (fun _ z => absurd rfl z) (fun z => absurd z (by decide)) (fun z => absurd z (by decide)) (fun z => absurd z (by decide)) (fun z => absurd z (by decide)) (fun z => absurd z (by decide)) (fun z => absurd z (by decide)) (fun z => absurd z (by decide)) (fun z => absurd z (by decide)) (fun z => absurd z (by decide)) (fun z => absurd z (by decide)))
  rw [hc, hca]
  refine bk_X12_lays_110 (s1 := nI t) (mm_call_m _) hv (fun _ => hva) (fun _ => sp_under ?_) (fun z => absurd rfl z) (fun z => absurd rfl z) (fun z => absurd rfl z)
  rw [hc, hca]
  refine lays_149x (w := _) ht ?_ (fun z => absurd rfl z) rfl (fun k hk hk0 hint => ?_)
  · rw [hz_eq (f := mi 184) (fun k _ => by rw [mm_u_e (by decide), mm_u_e (by decide), mm_u_e (by decide), mm_u_e (by decide), mm_u_e (by decide)])]
    exact hn
  · rw [mm_u_e (by decide), mm_u_e (by decide), mm_u_e (by decide), mm_u_e (by decide), mm_u_e (by decide)] at hk0
    refine hQ _ k hk hk0 ?_ ?_ hint
    · exact LYf_u (LYf_u (LYf_u (LYf_u (LYf_u (LYf_u (LYf_u LYf_r (by decide) (by decide)) (by decide) (by decide)) (by decide) (by decide)) (by decide) (by decide)) (by decide) (by decide)) (by decide) (by decide)) (by decide) (by decide)
    · refine ⟨?_, ?_, ?_, ?_, ?_, ?_, ?_⟩ <;> simp [mm_u]
end MMH
def TU (NB TY : Nat) (m : mm_P) : Prop := ∀ t u, vd NB TY t → vd NB TY u → m 177 t = m 177 u → m 178 t = m 178 u → m 179 t = m 179 u → t = u
def TX (m : mm_P) (NB TY : Nat) : Prop := TS m NB TY ∧ (∀ t, vd NB TY t → INT m t) ∧ TU NB TY m
theorem INT_c {m n : mm_P} {t : Nat} (h : INT m t) (hr : ∀ c, 177 ≤ c → c ≤ 179 → n c t = m c t) (h184 : ∀ k, n 184 k = m 184 k) : INT n t := by
  obtain ⟨j, j1, j2, j3⟩ := h
  refine ⟨j, j1, ?_, fun i hi => ?_⟩
  · rw [hsh_c hr, h184]
    exact j2
  · rw [hsh_c hr, h184]
    exact j3 i hi
theorem TX_c {m n : mm_P} {NB TY : Nat} (h : TX m NB TY) (h0 : n 176 0 = m 176 0) (h1 : n 176 1 = m 176 1) (hr : ∀ c i, 177 ≤ c → c ≤ 184 → n c i = m c i) : TX n NB TY := by
  refine ⟨TS_c h.1 h0 h1 hr, fun t ht => INT_c (h.2.1 t ht) (fun c a b => hr c t a (by omega)) (fun k => hr 184 k (by decide) (by decide)), fun t u ht hu e1 e2 e3 => h.2.2 t u ht hu ?_ ?_ ?_⟩
  · rw [hr 177 t (by decide) (by decide), hr 177 u (by decide) (by decide)] at e1
    exact e1
  · rw [hr 178 t (by decide) (by decide), hr 178 u (by decide) (by decide)] at e2
    exact e2
  · rw [hr 179 t (by decide) (by decide), hr 179 u (by decide) (by decide)] at e3
    exact e3
/-- one type more, with a triple of its own -/
theorem TX_add {m n : mm_P} {NB TY k : Nat} (h : TX m NB TY) (hT : TY < 8000) (hk : k < 16384) (hk0 : m 184 k = 0) (hn : ∀ c i, 177 ≤ c → c ≤ 183 → ¬ i = TY → n c i = m c i) (hw : wT NB (TY + 1) n TY) (h1 : n 176 1 = nI (TY + 1)) (h0 : n 176 0 = m 176 0) (h184 : ∀ i, n 184 i = m 184 i) (hint : INT (mm_u n 184 k (nI (TY + 1))) TY) (hno : ∀ t, vd NB TY t → ¬ (m 177 t = n 177 TY ∧ m 178 t = n 178 TY ∧ m 179 t = n 179 TY)) : TX (mm_u n 184 k (nI (TY + 1))) NB (TY + 1) := by
  have hTS := TS_add h.1 hT hk hn hw h1 h0 h184
  rw [show nI TY + 1 = nI (TY + 1) from (nI_succ TY).symm] at hTS
  have h1' := h.1.1
  have h2' := h.1.2.1
  have hold : ∀ t, vd NB TY t → ¬ t = TY := fun t ht q => by
    unfold vd at ht
    omega
  have hvd : ∀ t, vd NB (TY + 1) t → ¬ t = TY → vd NB TY t := fun t ht q => by
    unfold vd at ht ⊢
    omega
  have hu : ∀ t c, 177 ≤ c → c ≤ 183 → mm_u n 184 k (nI (TY + 1)) c t = n c t := fun t c _ _ => mm_u_e (by omega)
  refine ⟨hTS, fun t ht => ?_, fun t u ht hu' e1 e2 e3 => ?_⟩
  · by_cases q : t = TY
    · rw [q]
      exact hint
    · have ht' := hvd t ht q
      have ht8 := vd_lt ht' h1'.2 h2'.2
      refine INT_u (INT_c (h.2.1 t ht') (fun c a b => hn c t a (by omega) q) h184) ht8 ((h184 k).trans hk0) (fun z => ?_)
      have := congrArg Int32.toInt z
      rw [mm_tI (by omega), mm_tt0] at this
      omega
  · rw [hu t 177 (by decide) (by decide), hu u 177 (by decide) (by decide)] at e1
    rw [hu t 178 (by decide) (by decide), hu u 178 (by decide) (by decide)] at e2
    rw [hu t 179 (by decide) (by decide), hu u 179 (by decide) (by decide)] at e3
    by_cases q : t = TY
    · by_cases q2 : u = TY
      · omega
      · exfalso
        have hu2 := hvd u hu' q2
        subst q
        rw [hn 177 u (by decide) (by decide) q2] at e1
        rw [hn 178 u (by decide) (by decide) q2] at e2
        rw [hn 179 u (by decide) (by decide) q2] at e3
        exact hno u hu2 ⟨e1.symm, e2.symm, e3.symm⟩
    · by_cases q2 : u = TY
      · exfalso
        have ht2 := hvd t ht q
        subst q2
        rw [hn 177 t (by decide) (by decide) q] at e1
        rw [hn 178 t (by decide) (by decide) q] at e2
        rw [hn 179 t (by decide) (by decide) q] at e3
        exact hno t ht2 ⟨e1, e2, e3⟩
      · rw [hn 177 t (by decide) (by decide) q, hn 177 u (by decide) (by decide) q2] at e1
        rw [hn 178 t (by decide) (by decide) q, hn 178 u (by decide) (by decide) q2] at e2
        rw [hn 179 t (by decide) (by decide) q, hn 179 u (by decide) (by decide) q2] at e3
        exact h.2.2 t u (hvd t ht q) (hvd u hu' q2) e1 e2 e3
section MMT
variable {L : Nat} {xs : Nat → Int32} {d : Nat} {Q : mm_QQ} {mi : mm_P} {ml : mm_G} {lim : Nat × Nat} {NB TY : Nat}
theorem sx_knownT {s a b : Int32} (h : TX mi NB TY) (h0 : (∀ t, vd NB TY t → ¬ (mi 177 t = s ∧ mi 178 t = a ∧ mi 179 t = b)) → Q (some (mm_I (-1))) mi ml) (h1 : ∀ t, vd NB TY t → mi 177 t = s → mi 178 t = a → mi 179 t = b → Q (some (mm_I (nI t))) mi ml) : mm_cq (mm_call mm_ms (mm_tb L xs) (d + 2)) 169 [mm_R 176, mm_I s, mm_I a, mm_I b] mi ml Q := by
  by_cases hex : ∃ t, vd NB TY t ∧ mi 177 t = s ∧ mi 178 t = a ∧ mi 179 t = b
  · obtain ⟨t0, t1, t2⟩ := hex
    obtain ⟨a1, a2, a3, a4, a5, a6, a7⟩ := id h.1
    have ht08 := vd_lt t1 a1.2 a2.2
    have hT : tbR mi 8000 := fun k hk hk0 => by
      obtain ⟨t, q1, q2⟩ := a5 k hk hk0
      have := vd_lt q1 a1.2 a2.2
      rw [q2, mm_tI (by omega)]
      omega
    obtain ⟨j0, j1, j2, j3⟩ := h.2.1 t0 t1
    refine en_X12_known (bk_X12_known_0 (mm_call_m _) (sp_mixed (bk_X12_known_6 (mm_call_m _) ?_)))
    obtain ⟨r0, r1⟩ := f_mx_r s a b
    obtain ⟨i, ei, hi, -, e2⟩ := mm_of r0 r1
    have eh : hsh mi t0 = i := by
      unfold hsh
      rw [t2.1, t2.2.1, t2.2.2]
      exact e2
    rw [eh] at j2 j3
    rw [ei, show nI i = nI ((i + 0) % 16384) by rw [show (i + 0) % 16384 = i by omega]]
    refine known_loop2 (t0 := t0) ht08 hT j2 j3 t2 (fun k hk hk0 c1 c2 c3 => ?_) j0 0 (by omega)
    obtain ⟨t, q1, q2⟩ := a5 k hk hk0
    have ht := vd_lt q1 a1.2 a2.2
    have e : mi 184 k - 1 = nI t := by rw [q2, mm_dec' t (by omega)]
    have ec : (nI t).toNatClampNeg = t := nI_clamp (by omega)
    rw [e, ec] at c1 c2 c3
    rw [e]
    exact h1 t q1 c1 c2 c3
  · exact TS_known h.1 (h0 (fun t ht q => hex ⟨t, ht, q⟩)) (fun t ht => h1 t ht)
/-- made() of a LIST -/
theorem sx_made5 {a : Nat} (h : TX mi NB TY) (hT : TY < 8000) (ha : vd NB TY a) (hQ : ∀ n t TY', TX n NB TY' → MK TY mi n → TY ≤ TY' → TY' ≤ TY + 1 → (vd NB TY t → n = mi ∧ TY' = TY) → vd NB TY' t → n 177 t = 5 → n 178 t = nI a → Q (some (mm_I (nI t))) n ml) : mm_cq (mm_call mm_ms (mm_tb L xs) (d + 4)) 173 [mm_R 176, mm_I 5, mm_I (nI a), mm_I (-1)] mi ml Q := by
  obtain ⟨a1, a2, a3, a4, a5, a6, a7⟩ := id h.1
  have ha8 := vd_lt ha a1.2 a2.2
  have haT : a < TY := by
    unfold vd at ha
    omega
  refine en_X12_made (bk_X12_made_0 (mm_call_m _) (sx_knownT h (fun hnone => bk_X12_made_7 (s0 := -1) (mm_call_m _) (fun z => absurd rfl z) (fun _ => ?_)) (fun t ht c1 c2 c3 => bk_X12_made_7 (s0 := nI t) (mm_call_m _) (fun _ => bk_X12_made_40 (mm_call_m _) (hQ mi t TY h MK_r (Nat.le_refl _) (by omega) (fun _ => ⟨rfl, rfl⟩) ht c1 c2)) (fun z => absurd z (nI_ne (by have := vd_lt ht a1.2 a2.2; omega))))))
  rw [a4, show nI TY + 1 = nI (TY + 1) from (nI_succ TY).symm]
  refine sx_lays5 hT haT ?_ (fun n k hk hk0 hl he hint => bk_X12_made_40 (mm_call_m _) (hQ _ TY (TY + 1) ?_ ?_ (by omega) (Nat.le_refl _) (fun q => ?_) (.inr ⟨by omega, by omega⟩) ?_ ?_))
  · rw [hz_eq (f := mi 184) (fun k _ => mm_u_e (by decide))]
    omega
  · have hr : ∀ c i, 177 ≤ c → c ≤ 184 → ¬ (c ≤ 183 ∧ i = TY) → n c i = mi c i := fun c i x y q => by
      rw [hl c i (fun w => q ⟨w.2.1, w.2.2⟩), mm_u_e (by omega)]
    rw [mm_u_e (by decide)] at hk0
    refine TX_add h hT hk hk0 (fun c i x y q => hr c i x (by omega) (fun w => q w.2)) (.inr (.inl ⟨a, vd_up ha, haT, en5_s he (fun c x y => by rw [hl c a (fun w => absurd w.2.2 (by omega))])⟩)) ?_ ?_ (fun i => hr 184 i (by decide) (by decide) (fun w => absurd w.1 (by decide))) hint (fun t ht q => hnone t ht ?_)
    · rw [hl 176 1 (by omega), mm_u_s]
    · rw [hl 176 0 (by omega), mm_u_f (by decide)]
    · rw [he.1, he.2.1, he.2.2.1] at q
      exact q
  · intro c i q1 q2 q3
    rw [mm_u_e q2, hl c i (fun w => q1 ⟨w.1, w.2.1, by omega⟩)]
    by_cases hc : c = 176
    · subst hc
      exact mm_u_f (fun w => q3 ⟨rfl, w⟩)
    · exact mm_u_e hc
  · unfold vd at q
    omega
  · rw [mm_u_e (by decide)]
    exact he.1
  · rw [mm_u_e (by decide)]
    exact he.2.1
/-- made() of a PAIR -/
theorem sx_made4 {a b : Nat} (h : TX mi NB TY) (hT : TY < 8000) (ha : vd NB TY a) (hb : vd NB TY b) (hQ : ∀ n t TY', TX n NB TY' → MK TY mi n → TY ≤ TY' → TY' ≤ TY + 1 → (vd NB TY t → n = mi ∧ TY' = TY) → vd NB TY' t → n 177 t = 4 → n 178 t = nI a → n 179 t = nI b → Q (some (mm_I (nI t))) n ml) : mm_cq (mm_call mm_ms (mm_tb L xs) (d + 4)) 173 [mm_R 176, mm_I 4, mm_I (nI a), mm_I (nI b)] mi ml Q := by
  obtain ⟨a1, a2, a3, a4, a5, a6, a7⟩ := id h.1
  have ha8 := vd_lt ha a1.2 a2.2
  have haT : a < TY := by
    unfold vd at ha
    omega
  have hbT : b < TY := by
    unfold vd at hb
    omega
  refine en_X12_made (bk_X12_made_0 (mm_call_m _) (sx_knownT h (fun hnone => bk_X12_made_7 (s0 := -1) (mm_call_m _) (fun z => absurd rfl z) (fun _ => ?_)) (fun t ht c1 c2 c3 => bk_X12_made_7 (s0 := nI t) (mm_call_m _) (fun _ => bk_X12_made_40 (mm_call_m _) (hQ mi t TY h MK_r (Nat.le_refl _) (by omega) (fun _ => ⟨rfl, rfl⟩) ht c1 c2 c3)) (fun z => absurd z (nI_ne (by have := vd_lt ht a1.2 a2.2; omega))))))
  rw [a4, show nI TY + 1 = nI (TY + 1) from (nI_succ TY).symm]
  refine sx_lays4 hT haT hbT ?_ (fun n k hk hk0 hl he hint => bk_X12_made_40 (mm_call_m _) (hQ _ TY (TY + 1) ?_ ?_ (by omega) (Nat.le_refl _) (fun q => ?_) (.inr ⟨by omega, by omega⟩) ?_ ?_ ?_))
  · rw [hz_eq (f := mi 184) (fun k _ => mm_u_e (by decide))]
    omega
  · have hr : ∀ c i, 177 ≤ c → c ≤ 184 → ¬ (c ≤ 183 ∧ i = TY) → n c i = mi c i := fun c i x y q => by
      rw [hl c i (fun w => q ⟨w.2.1, w.2.2⟩), mm_u_e (by omega)]
    rw [mm_u_e (by decide)] at hk0
    refine TX_add h hT hk hk0 (fun c i x y q => hr c i x (by omega) (fun w => q w.2)) (.inr (.inr ⟨a, b, vd_up ha, haT, vd_up hb, hbT, en4_s he (fun c x y => by rw [hl c a (fun w => absurd w.2.2 (by omega))]) (fun c x y => by rw [hl c b (fun w => absurd w.2.2 (by omega))])⟩)) ?_ ?_ (fun i => hr 184 i (by decide) (by decide) (fun w => absurd w.1 (by decide))) hint (fun t ht q => hnone t ht ?_)
    · rw [hl 176 1 (by omega), mm_u_s]
    · rw [hl 176 0 (by omega), mm_u_f (by decide)]
    · rw [he.1, he.2.1, he.2.2.1] at q
      exact q
  · intro c i q1 q2 q3
    rw [mm_u_e q2, hl c i (fun w => q1 ⟨w.1, w.2.1, by omega⟩)]
    by_cases hc : c = 176
    · subst hc
      exact mm_u_f (fun w => q3 ⟨rfl, w⟩)
    · exact mm_u_e hc
  · unfold vd at q
    omega
  · rw [mm_u_e (by decide)]
    exact he.1
  · rw [mm_u_e (by decide)]
    exact he.2.1
  · rw [mm_u_e (by decide)]
    exact he.2.2.1
end MMT
