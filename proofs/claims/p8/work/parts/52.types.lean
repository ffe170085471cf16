/-! ===== the model's types: what stands in its rows; made() ===== -/
/-- numbers of types: numbered, or made since forgets() -/
def vd (NB TY t : Nat) : Prop := t < NB ∨ (200 ≤ t ∧ t < TY)
def bs (m : mm_P) (t : Nat) : Prop := ((m 177 t = 0 ∧ m 181 t = 0 ∧ m 182 t = 0 ∧ m 183 t = 1) ∨ (m 177 t = 1 ∧ m 181 t = 0 ∧ m 182 t = 0 ∧ m 183 t = 1) ∨ (m 177 t = 2 ∧ m 181 t = 1 ∧ m 182 t = 0 ∧ m 183 t = -1) ∨ (m 177 t = 3 ∧ m 181 t = 0 ∧ m 182 t = 1 ∧ m 183 t = -1)) ∧ m 180 t = 1 ∧ m 178 t = -1 ∧ m 179 t = -1
def wT (NB TY : Nat) (m : mm_P) (t : Nat) : Prop := bs m t ∨ (∃ a, vd NB TY a ∧ a < t ∧ en5 m m t a) ∨ (∃ a b, vd NB TY a ∧ a < t ∧ vd NB TY b ∧ b < t ∧ en4 m m t a b)
/-- the rows of types and the table as they stand between forgets() and the next one -/
def TS (m : mm_P) (NB TY : Nat) : Prop := (4 ≤ NB ∧ NB ≤ 200) ∧ (200 ≤ TY ∧ TY ≤ 8000) ∧ m 176 0 = nI NB ∧ m 176 1 = nI TY ∧ (∀ k, k < 16384 → ¬ m 184 k = 0 → ∃ t, vd NB TY t ∧ m 184 k = nI (t + 1)) ∧ hz (m 184) 16384 ≤ NB + (TY - 200) ∧ ∀ t, vd NB TY t → wT NB TY m t
theorem vd_lt {NB TY t : Nat} (h : vd NB TY t) (h1 : NB ≤ 200) (h2 : TY ≤ 8000) : t < 8000 := by
  unfold vd at h
  omega
theorem en5_c {m n : mm_P} {t a : Nat} (h : en5 m m t a) (ht : ∀ c, 177 ≤ c → c ≤ 183 → n c t = m c t) (ha : ∀ c, 177 ≤ c → c ≤ 183 → n c a = m c a) : en5 n n t a := by
  obtain ⟨h1, h2, h3, h4, h5, h6, h7⟩ := h
  refine ⟨?_, ?_, ?_, ?_, ?_, ?_, ?_⟩
  · rw [ht 177 (by decide) (by decide)]; exact h1
  · rw [ht 178 (by decide) (by decide)]; exact h2
  · rw [ht 179 (by decide) (by decide)]; exact h3
  · rw [ht 180 (by decide) (by decide), ha 180 (by decide) (by decide)]; exact h4
  · rw [ht 181 (by decide) (by decide), ha 181 (by decide) (by decide)]; exact h5
  · rw [ht 182 (by decide) (by decide), ha 182 (by decide) (by decide)]; exact h6
  · rw [ht 183 (by decide) (by decide), ht 181 (by decide) (by decide), ht 182 (by decide) (by decide)]; exact h7
theorem en4_c {m n : mm_P} {t a b : Nat} (h : en4 m m t a b) (ht : ∀ c, 177 ≤ c → c ≤ 183 → n c t = m c t) (ha : ∀ c, 177 ≤ c → c ≤ 183 → n c a = m c a) (hb : ∀ c, 177 ≤ c → c ≤ 183 → n c b = m c b) : en4 n n t a b := by
  obtain ⟨h1, h2, h3, h4, h5, h6, h7⟩ := h
  refine ⟨?_, ?_, ?_, ?_, ?_, ?_, ?_⟩
  · rw [ht 177 (by decide) (by decide)]; exact h1
  · rw [ht 178 (by decide) (by decide)]; exact h2
  · rw [ht 179 (by decide) (by decide)]; exact h3
  · rw [ht 180 (by decide) (by decide), ha 180 (by decide) (by decide), hb 180 (by decide) (by decide)]; exact h4
  · rw [ht 181 (by decide) (by decide), ha 181 (by decide) (by decide), hb 181 (by decide) (by decide)]; exact h5
  · rw [ht 182 (by decide) (by decide), ha 182 (by decide) (by decide), hb 182 (by decide) (by decide)]; exact h6
  · rw [ht 183 (by decide) (by decide), ht 181 (by decide) (by decide), ht 182 (by decide) (by decide), ha 183 (by decide) (by decide), hb 183 (by decide) (by decide)]; exact h7
theorem bs_c {m n : mm_P} {t : Nat} (h : bs m t) (ht : ∀ c, 177 ≤ c → c ≤ 183 → n c t = m c t) : bs n t := by
  unfold bs
  rw [ht 177 (by decide) (by decide), ht 178 (by decide) (by decide), ht 179 (by decide) (by decide), ht 180 (by decide) (by decide), ht 181 (by decide) (by decide), ht 182 (by decide) (by decide), ht 183 (by decide) (by decide)]
  exact h
theorem vd_up {NB TY t : Nat} (h : vd NB TY t) : vd NB (TY + 1) t := by
  unfold vd at h ⊢
  omega
/-- rows and table that are the same are as good -/
theorem TS_c {m n : mm_P} {NB TY : Nat} (h : TS m NB TY) (h0 : n 176 0 = m 176 0) (h1 : n 176 1 = m 176 1) (hr : ∀ c i, 177 ≤ c → c ≤ 184 → n c i = m c i) : TS n NB TY := by
  obtain ⟨a1, a2, a3, a4, a5, a6, a7⟩ := h
  refine ⟨a1, a2, h0.trans a3, h1.trans a4, fun k hk hk0 => ?_, ?_, fun t ht => ?_⟩
  · rw [hr 184 k (by decide) (by decide)] at hk0 ⊢
    exact a5 k hk hk0
  · rw [hz_eq (f := m 184) (fun k _ => hr 184 k (by decide) (by decide))]
    exact a6
  · rcases a7 t ht with q | ⟨a, q1, q2, q3⟩ | ⟨a, b, q1, q2, q3, q4, q5⟩
    · exact .inl (bs_c q (fun c x y => hr c t x (by omega)))
    · exact .inr (.inl ⟨a, q1, q2, en5_c q3 (fun c x y => hr c t x (by omega)) (fun c x y => hr c a x (by omega))⟩)
    · exact .inr (.inr ⟨a, b, q1, q2, q3, q4, en4_c q5 (fun c x y => hr c t x (by omega)) (fun c x y => hr c a x (by omega)) (fun c x y => hr c b x (by omega))⟩)
/-- one type more -/
theorem TS_add {m n : mm_P} {NB TY k : Nat} (h : TS m NB TY) (hT : TY < 8000) (hk : k < 16384) (hn : ∀ c i, 177 ≤ c → c ≤ 183 → ¬ i = TY → n c i = m c i) (hw : wT NB (TY + 1) n TY) (h1 : n 176 1 = nI (TY + 1)) (h0 : n 176 0 = m 176 0) (h184 : ∀ i, n 184 i = m 184 i) : TS (mm_u n 184 k (nI TY + 1)) NB (TY + 1) := by
  obtain ⟨a1, a2, a3, a4, a5, a6, a7⟩ := h
  have hold : ∀ t, vd NB TY t → ∀ c, 177 ≤ c → c ≤ 183 → n c t = m c t := fun t ht c x y => hn c t x y (fun q => by
    unfold vd at ht
    omega)
  refine ⟨a1, ⟨by omega, by omega⟩, ?_, ?_, fun j hj hj0 => ?_, ?_, fun t ht => ?_⟩
  · rw [mm_u_e (by decide), h0]
    exact a3
  · rw [mm_u_e (by decide)]
    exact h1
  · by_cases hjk : j = k
    · subst hjk
      refine ⟨TY, .inr ⟨by omega, by omega⟩, ?_⟩
      rw [mm_u_s]
      exact (nI_succ TY).symm
    · rw [mm_u_f hjk, h184] at hj0 ⊢
      obtain ⟨t, q1, q2⟩ := a5 j hj hj0
      exact ⟨t, vd_up q1, q2⟩
  · have := hz_up (f := m 184) (g := mm_u n 184 k (nI TY + 1) 184) (i := k) (fun j hj => by rw [mm_u_f hj, h184]) (n := 16384)
    omega
  · have hu : ∀ t c, 177 ≤ c → c ≤ 183 → mm_u n 184 k (nI TY + 1) c t = n c t := fun t c _ _ => mm_u_e (by omega)
    by_cases htT : t = TY
    · subst htT
      rcases hw with q | ⟨a, q1, q2, q3⟩ | ⟨a, b, q1, q2, q3, q4, q5⟩
      · exact .inl (bs_c q (hu t))
      · exact .inr (.inl ⟨a, q1, q2, en5_c q3 (hu t) (hu a)⟩)
      · exact .inr (.inr ⟨a, b, q1, q2, q3, q4, en4_c q5 (hu t) (hu a) (hu b)⟩)
    · have ht' : vd NB TY t := by
        unfold vd at ht ⊢
        omega
      have hut : ∀ s, vd NB TY s → ∀ c, 177 ≤ c → c ≤ 183 → mm_u n 184 k (nI TY + 1) c s = m c s := fun s hs c x y => (hu s c x y).trans (hold s hs c x y)
      rcases a7 t ht' with q | ⟨a, q1, q2, q3⟩ | ⟨a, b, q1, q2, q3, q4, q5⟩
      · exact .inl (bs_c q (hut t ht'))
      · exact .inr (.inl ⟨a, vd_up q1, q2, en5_c q3 (hut t ht') (hut a q1)⟩)
      · exact .inr (.inr ⟨a, b, vd_up q1, q2, vd_up q3, q4, en4_c q5 (hut t ht') (hut a q1) (hut b q3)⟩)
theorem en5_s {m n : mm_P} {t a : Nat} (h : en5 m n t a) (ha : ∀ c, 177 ≤ c → c ≤ 183 → n c a = m c a) : en5 n n t a := by
  obtain ⟨h1, h2, h3, h4, h5, h6, h7⟩ := h
  refine ⟨h1, h2, h3, ?_, ?_, ?_, h7⟩
  · rw [ha 180 (by decide) (by decide)]; exact h4
  · rw [ha 181 (by decide) (by decide)]; exact h5
  · rw [ha 182 (by decide) (by decide)]; exact h6
theorem en4_s {m n : mm_P} {t a b : Nat} (h : en4 m n t a b) (ha : ∀ c, 177 ≤ c → c ≤ 183 → n c a = m c a) (hb : ∀ c, 177 ≤ c → c ≤ 183 → n c b = m c b) : en4 n n t a b := by
  obtain ⟨h1, h2, h3, h4, h5, h6, h7⟩ := h
  refine ⟨h1, h2, h3, ?_, ?_, ?_, ?_⟩
  · rw [ha 180 (by decide) (by decide), hb 180 (by decide) (by decide)]; exact h4
  · rw [ha 181 (by decide) (by decide), hb 181 (by decide) (by decide)]; exact h5
  · rw [ha 182 (by decide) (by decide), hb 182 (by decide) (by decide)]; exact h6
  · rw [ha 183 (by decide) (by decide), hb 183 (by decide) (by decide)]; exact h7
/-- what a method leaves that makes types: all but rows of types from TY on, their number, the table -/
def MK (TY : Nat) (m n : mm_P) : Prop := ∀ c i, ¬ (177 ≤ c ∧ c ≤ 183 ∧ TY ≤ i) → ¬ c = 184 → ¬ (c = 176 ∧ i = 1) → n c i = m c i
theorem MK_r {TY : Nat} {m : mm_P} : MK TY m m := fun _ _ _ _ _ => rfl
theorem MK_t {TY TZ : Nat} {m n p : mm_P} (h1 : MK TY m n) (h : TY ≤ TZ) (h2 : MK TZ n p) : MK TY m p := fun c i a b e => (h2 c i (fun q => a ⟨q.1, q.2.1, by omega⟩) b e).trans (h1 c i a b e)
section MMT
variable {L : Nat} {xs : Nat → Int32} {d : Nat} {Q : mm_QQ} {mi : mm_P} {ml : mm_G} {lim : Nat × Nat}
theorem TS_known {NB TY : Nat} {s a b : Int32} (h : TS mi NB TY) (h0 : Q (some (mm_I (-1))) mi ml) (h1 : ∀ t, vd NB TY t → mi 177 t = s → mi 178 t = a → mi 179 t = b → Q (some (mm_I (nI t))) mi ml) : mm_cq (mm_call mm_ms (mm_tb L xs) (d + 2)) 169 [mm_R 176, mm_I s, mm_I a, mm_I b] mi ml Q := by
  obtain ⟨a1, a2, a3, a4, a5, a6, a7⟩ := h
  have hT : tbR mi 8000 := fun k hk hk0 => by
    obtain ⟨t, q1, q2⟩ := a5 k hk hk0
    have := vd_lt q1 a1.2 a2.2
    rw [q2, mm_tI (by omega)]
    omega
  refine sp_known (Int.le_refl _) hT (by omega) h0 (fun k hk hk0 c1 c2 c3 => ?_)
  obtain ⟨t, q1, q2⟩ := a5 k hk hk0
  have ht := vd_lt q1 a1.2 a2.2
  have e : mi 184 k - 1 = nI t := by
    rw [q2]
    refine Int32.toInt_inj.mp ?_
    rw [mm_sub1 (by rw [mm_tI (by omega)]; omega), mm_tI (by omega), mm_tI (by omega)]
    omega
  have ec : (nI t).toNatClampNeg = t := nI_clamp (by omega)
  rw [e, ec] at c1 c2 c3
  rw [e]
  exact h1 t q1 c1 c2 c3
theorem nI_ne {t : Nat} (h : t < 2 ^ 31) : ¬ nI t = -1 := fun q => by
  have := congrArg Int32.toInt q
  rw [mm_tI h, mm_tn1] at this
  omega
/-- made() of a LIST -/
theorem sp_made5 {NB TY a : Nat} (h : TS mi NB TY) (hT : TY < 8000) (ha : vd NB TY a) (hQ : ∀ n t TY', TS n NB TY' → MK TY mi n → TY ≤ TY' → TY' ≤ TY + 1 → (vd NB TY t → n = mi ∧ TY' = TY) → vd NB TY' t → n 177 t = 5 → n 178 t = nI a → Q (some (mm_I (nI t))) n ml) : mm_cq (mm_call mm_ms (mm_tb L xs) (d + 4)) 173 [mm_R 176, mm_I 5, mm_I (nI a), mm_I (-1)] mi ml Q := by
  obtain ⟨a1, a2, a3, a4, a5, a6, a7⟩ := id h
  have ha8 := vd_lt ha a1.2 a2.2
  have haT : a < TY := by
    unfold vd at ha
    omega
  refine en_X12_made (bk_X12_made_0 (mm_call_m _) (TS_known h (bk_X12_made_7 (s0 := -1) (mm_call_m _) (fun z => absurd rfl z) (fun _ => ?_)) (fun t ht c1 c2 c3 => bk_X12_made_7 (s0 := nI t) (mm_call_m _) (fun _ => bk_X12_made_40 (mm_call_m _) (hQ mi t TY h MK_r (Nat.le_refl _) (by omega) (fun _ => ⟨rfl, rfl⟩) ht c1 c2)) (fun z => absurd z (nI_ne (by have := vd_lt ht a1.2 a2.2; omega))))))
  rw [a4, show nI TY + 1 = nI (TY + 1) from (nI_succ TY).symm]
  refine sp_lays5 hT haT ?_ (fun n k hk hk0 hl he => bk_X12_made_40 (mm_call_m _) (hQ _ TY (TY + 1) ?_ ?_ (by omega) (Nat.le_refl _) (fun q => ?_) (.inr ⟨by omega, by omega⟩) ?_ ?_))
  · rw [hz_eq (f := mi 184) (fun k _ => mm_u_e (by decide))]
    omega
  · have hr : ∀ c i, 177 ≤ c → c ≤ 184 → ¬ (c ≤ 183 ∧ i = TY) → n c i = mi c i := fun c i x y q => by
      rw [hl c i (fun w => q ⟨w.2.1, w.2.2⟩), mm_u_e (by omega)]
    refine TS_add h hT hk (fun c i x y q => hr c i x (by omega) (fun w => q w.2)) (.inr (.inl ⟨a, vd_up ha, haT, en5_s he (fun c x y => by rw [hl c a (fun w => absurd w.2.2 (by omega))])⟩)) ?_ ?_ (fun i => hr 184 i (by decide) (by decide) (fun w => absurd w.1 (by decide)))
    · rw [hl 176 1 (by omega), mm_u_s]
    · rw [hl 176 0 (by omega), mm_u_f (by decide)]
  · intro c i q1 q2 q3
    rw [mm_u_e q2, hl c i (fun w => q1 ⟨w.1, w.2.1, by omega⟩)]
    by_cases hc : c = 176
    · subst hc
      exact mm_u_f (fun w => q3 ⟨rfl, w⟩)
    · exact mm_u_e hc
  · unfold vd at q
    omega
  · rw [mm_u_e (by decide)]
    exact he.1
  · rw [mm_u_e (by decide)]
    exact he.2.1
/-- made() of a PAIR -/
theorem sp_made4 {NB TY a b : Nat} (h : TS mi NB TY) (hT : TY < 8000) (ha : vd NB TY a) (hb : vd NB TY b) (hQ : ∀ n t TY', TS n NB TY' → MK TY mi n → TY ≤ TY' → TY' ≤ TY + 1 → (vd NB TY t → n = mi ∧ TY' = TY) → vd NB TY' t → n 177 t = 4 → n 178 t = nI a → n 179 t = nI b → Q (some (mm_I (nI t))) n ml) : mm_cq (mm_call mm_ms (mm_tb L xs) (d + 4)) 173 [mm_R 176, mm_I 4, mm_I (nI a), mm_I (nI b)] mi ml Q := by
  obtain ⟨a1, a2, a3, a4, a5, a6, a7⟩ := id h
  have ha8 := vd_lt ha a1.2 a2.2
  have haT : a < TY := by
    unfold vd at ha
    omega
  have hbT : b < TY := by
    unfold vd at hb
    omega
  refine en_X12_made (bk_X12_made_0 (mm_call_m _) (TS_known h (bk_X12_made_7 (s0 := -1) (mm_call_m _) (fun z => absurd rfl z) (fun _ => ?_)) (fun t ht c1 c2 c3 => bk_X12_made_7 (s0 := nI t) (mm_call_m _) (fun _ => bk_X12_made_40 (mm_call_m _) (hQ mi t TY h MK_r (Nat.le_refl _) (by omega) (fun _ => ⟨rfl, rfl⟩) ht c1 c2 c3)) (fun z => absurd z (nI_ne (by have := vd_lt ht a1.2 a2.2; omega))))))
  rw [a4, show nI TY + 1 = nI (TY + 1) from (nI_succ TY).symm]
  refine sp_lays4 hT haT hbT ?_ (fun n k hk hk0 hl he => bk_X12_made_40 (mm_call_m _) (hQ _ TY (TY + 1) ?_ ?_ (by omega) (Nat.le_refl _) (fun q => ?_) (.inr ⟨by omega, by omega⟩) ?_ ?_ ?_))
  · rw [hz_eq (f := mi 184) (fun k _ => mm_u_e (by decide))]
    omega
  · have hr : ∀ c i, 177 ≤ c → c ≤ 184 → ¬ (c ≤ 183 ∧ i = TY) → n c i = mi c i := fun c i x y q => by
      rw [hl c i (fun w => q ⟨w.2.1, w.2.2⟩), mm_u_e (by omega)]
    refine TS_add h hT hk (fun c i x y q => hr c i x (by omega) (fun w => q w.2)) (.inr (.inr ⟨a, b, vd_up ha, haT, vd_up hb, hbT, en4_s he (fun c x y => by rw [hl c a (fun w => absurd w.2.2 (by omega))]) (fun c x y => by rw [hl c b (fun w => absurd w.2.2 (by omega))])⟩)) ?_ ?_ (fun i => hr 184 i (by decide) (by decide) (fun w => absurd w.1 (by decide)))
    · rw [hl 176 1 (by omega), mm_u_s]
    · rw [hl 176 0 (by omega), mm_u_f (by decide)]
  · intro c i q1 q2 q3
    rw [mm_u_e q2, hl c i (fun w => q1 ⟨w.1, w.2.1, by omega⟩)]
    by_cases hc : c = 176
    · subst hc
      exact mm_u_f (fun w => q3 ⟨rfl, w⟩)
    · exact mm_u_e hc
  · unfold vd at q
    omega
  · rw [mm_u_e (by decide)]
    exact he.1
  · rw [mm_u_e (by decide)]
    exact he.2.1
  · rw [mm_u_e (by decide)]
    exact he.2.2.1
end MMT
