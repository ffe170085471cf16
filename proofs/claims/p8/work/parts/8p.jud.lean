/-! ===== the class's shapes stay what findShape() finds ===== -/
section MFP
variable {NB ND NF f k : Nat} {m n : mm_P} {ml n2 : mm_G}
theorem ksh_c {S S' : Nat → Int64} {i : Nat} (ok : okK NB m k) (hi : i < 3) (h4 : n 4 k = m 4 k) (h6 : ∀ i, i < 4 → n 6 (4 * k + i) = m 6 (4 * k + i)) (hS : ∀ p, p < k → S' p = S p) (hk : k < 2 ^ 31) : ksh S' n k i = ksh S m k i := by
  unfold ksh
  rw [h4]
  by_cases q : (i : Int) < (f_parts (m 4 k)).toInt
  · rw [if_pos q, if_pos q]
    have e : k_part n k i = k_part m k i := by
      unfold k_part
      rw [h4, h6 1 (by decide), h6 i (by omega)]
    obtain ⟨p, p1, p2⟩ := k_part_r ok q
    rw [e, p2, nI_clamp (by omega)]
    exact hS p p1
  · rw [if_neg q, if_neg q]
theorem FSK_c {a b c : Int64} (ok : okK NB m k) (hNB : NB ≤ 200) (h4 : n 4 k = m 4 k) (h6 : ∀ i, i < 4 → n 6 (4 * k + i) = m 6 (4 * k + i)) (h10 : n 10 = m 10) (h2 : ∀ t, t < NB → n2 2 t = ml 2 t) (h13 : n2 13 = ml 13) (h14 : n2 14 = ml 14) : FSK NF n n2 f k a b c = FSK NF m ml f k a b c := by
  have hS : ∀ {v : Int32}, (v = -1 ∨ tyN NB v) → SHO n2 v = SHO ml v := fun {v} hv => by
    rcases hv with h | ⟨t, t1, t2⟩
    · unfold SHO
      rw [if_pos h, if_pos h]
    · rw [SHO_t (by omega) t2, SHO_t (by omega) t2]
      exact h2 t t1
  have e0 : n 6 (4 * k) = m 6 (4 * k) := h6 0 (by decide)
  have h9 : m 4 k = 9 → SHO n2 (m 6 (4 * k)) = SHO ml (m 6 (4 * k)) := fun q => hS (.inr (ok.2.2.1 q))
  by_cases k14 : m 4 k = 14
  · obtain ⟨c1, c2, c3, c4⟩ := ok.2.2.2 k14
    rw [FSK_14 k14, FSK_14 (h4.trans k14)]
    have hKL : KLT n n2 k = KLT m ml k := by
      unfold KLT
      rw [h6 2 (by decide), h6 3 (by decide), hS c3, hS c4]
    have hKK : KCK NF n n2 f k a = KCK NF m ml f k a := by
      unfold KCK
      rw [hKL, e0, h6 2 (by decide), h6 3 (by decide), hS c3, hS c4, h10, h13]
    unfold KCH
    rw [e0, h6 2 (by decide), h6 3 (by decide), hS c3, hS c4, h14]
    by_cases q : KCK NF m ml f k a
    · rw [pik_t q, pik_t (by rw [hKK]; exact q)]
    · rw [pik_f q, pik_f (by rw [hKK]; exact q)]
  · by_cases k9 : m 4 k = 9
    · rw [FSK_9 k9, FSK_9 (h4.trans k9), e0, h9 k9, h10]
    · obtain ⟨i, ei, j1, j2, -⟩ := mm_of (n := 15) ok.1.1 (by have := ok.1.2; omega)
      have hcase : i = 0 ∨ i = 1 ∨ i = 2 ∨ i = 3 ∨ i = 4 ∨ i = 5 ∨ i = 6 ∨ i = 7 ∨ i = 8 ∨ i = 9 ∨ i = 10 ∨ i = 11 ∨ i = 12 ∨ i = 13 ∨ i = 14 := by omega
      rcases hcase with rfl | rfl | rfl | rfl | rfl | rfl | rfl | rfl | rfl | rfl | rfl | rfl | rfl | rfl | rfl
      · rw [FSK_0 ei, FSK_0 (h4.trans ei)]
      · rw [FSK_1 ei, FSK_1 (h4.trans ei)]
      · rw [FSK_2 ei, FSK_2 (h4.trans ei), h13]
      · rw [FSK_3 ei, FSK_3 (h4.trans ei)]
      · rw [FSK_4 ei, FSK_4 (h4.trans ei)]
      · rw [FSK_5 ei, FSK_5 (h4.trans ei)]
      · rw [FSK_6 ei, FSK_6 (h4.trans ei)]
      · rw [FSK_7 ei, FSK_7 (h4.trans ei)]
      · rw [FSK_8 ei, FSK_8 (h4.trans ei)]
      · exact absurd ei k9
      · rw [FSK_10 ei, FSK_10 (h4.trans ei)]
      · rw [FSK_11 ei, FSK_11 (h4.trans ei)]
      · rw [FSK_12 ei, FSK_12 (h4.trans ei)]
      · rw [FSK_13 ei, FSK_13 (h4.trans ei)]
      · exact absurd ei k14
/-- rows of nodes and functions as they were, types at least those -/
theorem JT_c (hok : ∀ k, k < ND → okK NB m k) (hNB : NB ≤ 200) (hND : ND ≤ 200) (hJ : JT ND NF m ml) (h4 : ∀ k, k < ND → n 4 k = m 4 k) (h6 : ∀ i, i < 4 * ND → n 6 i = m 6 i) (h10 : n 10 = m 10) (h2 : ∀ t, t < NB → n2 2 t = ml 2 t) (h13 : n2 13 = ml 13) (h14 : n2 14 = ml 14) (hl : ∀ f, f < NF → ∀ k, k < ND → n2 (19 + f) k = ml (19 + f) k) : JT ND NF n n2 := fun f hf k hk => by
  have h6' : ∀ i, i < 4 → n 6 (4 * k + i) = m 6 (4 * k + i) := fun i hi => h6 _ (by omega)
  have hS : ∀ p, p < k → n2 (19 + f) p = ml (19 + f) p := fun p hp => hl f hf p (by omega)
  rw [ksh_c (hok k hk) (by decide) (h4 k hk) h6' hS (by omega), ksh_c (hok k hk) (by decide) (h4 k hk) h6' hS (by omega), ksh_c (hok k hk) (by decide) (h4 k hk) h6' hS (by omega), FSK_c (hok k hk) hNB (h4 k hk) h6' h10 h2 h13 h14, hl f hf k hk]
  exact hJ f hf k hk
theorem CJ_c (h : CJ m ml) (hC : CO n n2) (h35 : n 3 5 = m 3 5) (h97 : n 9 7 = m 9 7) (hc : ∀ c i, (c = 4 ∨ c = 6 ∨ c = 10) → n c i = m c i) (hl : ∀ c i, ¬ c = 2 → n2 c i = ml c i) (h2 : ∀ N t, m 1 1 = nI N → N ≤ 200 → t < N → n2 2 t = ml 2 t) : CJ n n2 := by
  refine ⟨hC, fun ND NF e1 e2 e3 e4 => ?_⟩
  rw [h35] at e1
  rw [h97] at e2
  obtain ⟨hIC, ⟨NB, ND', NF', hI, hT, hN, hF⟩, -⟩ := id h.1
  have hb := hI.1
  have : ND' = ND := nI_inj (by omega) (by omega) (hN.1.symm.trans e1)
  subst this
  refine JT_c (fun k hk => okK_of hI hN hk) hb.1.2 e3 (h.2 ND' NF e1 e2 e3 e4) (fun k _ => hc 4 k (by omega)) (fun i _ => hc 6 i (by omega)) (funext fun i => hc 10 i (by omega)) (fun t ht => h2 NB t hT.1 hb.1.2 ht) (funext fun i => hl 13 i (by decide)) (funext fun i => hl 14 i (by decide)) (fun f _ k _ => hl _ k (by omega))
theorem CJ_h (h : CJ m ml) (hC : CO n ml) (hp : ∀ c i, (c = 3 ∨ c = 4 ∨ c = 6 ∨ c = 9 ∨ c = 10) → n c i = m c i) : CJ n ml := CJ_c h hC (hp 3 5 (by omega)) (hp 9 7 (by omega)) (fun c i q => hp c i (by omega)) (fun _ _ _ => rfl) (fun _ _ _ _ _ => rfl)
end MFP
