/-! ===== what is alike in both between two calls ===== -/
def NC (ND : Nat) (m : mm_P) : Prop := m 3 5 = nI ND ∧ ∀ n, n < ND → m 4 n = m 188 n ∧ m 5 n = m 193 n ∧ (¬ m 188 n = 2 → m 6 (4 * n) = m 189 n) ∧ ((2 ≤ (f_parts (m 188 n)).toInt ∨ m 188 n = 14) → m 6 (4 * n + 1) = m 190 n) ∧ ((3 ≤ (f_parts (m 188 n)).toInt ∨ m 188 n = 14) → m 6 (4 * n + 2) = m 191 n) ∧ (m 188 n = 14 → m 6 (4 * n + 3) = m 192 n)
def FC (NF : Nat) (m : mm_P) (ml : mm_G) : Prop := m 9 7 = nI NF ∧ ∀ f, f < NF → m 10 f = m 194 f ∧ m 11 f = m 195 f ∧ m 12 f = m 196 f ∧ m 15 f = m 197 f ∧ ml 13 f = ml 2 (m 195 f).toNatClampNeg ∧ ml 14 f = ml 2 (m 196 f).toNatClampNeg
def CO (m : mm_P) (ml : mm_G) : Prop := mm_IC m ∧ (∃ NB ND NF, IM m NB ND NF ∧ TC NB m ml ∧ NC ND m ∧ FC NF m ml) ∧ (0 ≤ (m 176 51).toInt ∧ (m 176 51).toInt ≤ 100) ∧ m 160 1 = m 176 41 ∧ ∀ i : Nat, (i : Int) < (m 160 1).toInt → m 161 i = m 211 i
def stC (c i : Nat) : Prop := (c = 1 ∧ i = 1) ∨ (c = 3 ∧ i = 5) ∨ c = 4 ∨ c = 5 ∨ c = 6 ∨ (c = 9 ∧ i = 7) ∨ c = 10 ∨ c = 11 ∨ c = 12 ∨ c = 15 ∨ (c = 160 ∧ i = 1) ∨ c = 161
def stM (c i : Nat) : Prop := (c = 176 ∧ (i = 0 ∨ i = 13 ∨ i = 20 ∨ i = 41)) ∨ (177 ≤ c ∧ c ≤ 183 ∧ i < 200) ∨ (188 ≤ c ∧ c ≤ 197) ∨ c = 211
theorem SHT_c {NB : Nat} {m n : mm_P} {ml n2 : mm_G} {t : Nat} (h : SHT NB m ml t) (ht : t < NB) (hr : ∀ t, t < NB → ∀ c, 177 ≤ c → c ≤ 183 → n c t = m c t) (hl : ∀ t, t < NB → n2 2 t = ml 2 t) : SHT NB n n2 t := by
  rcases h with ⟨q1, q2⟩ | ⟨a, q1, q2, q3, q4⟩ | ⟨a, b, q1, q2, q3, q4, q5, q6⟩
  · refine .inl ⟨bs_c q1 (hr t ht), ?_⟩
    rw [hl t ht, hr t ht 177 (by decide) (by decide)]
    exact q2
  · refine .inr (.inl ⟨a, q1, q2, en5_c q3 (hr t ht) (hr a q2), ?_⟩)
    rw [hl t ht, hl a q2]
    exact q4
  · refine .inr (.inr ⟨a, b, q1, q2, q3, q4, en4_c q5 (hr t ht) (hr a q2) (hr b q4), ?_⟩)
    rw [hl t ht, hl a q2, hl b q4]
    exact q6
theorem SHT_le {NB NB' : Nat} {m : mm_P} {ml : mm_G} {t : Nat} (h : SHT NB m ml t) (hl : NB ≤ NB') : SHT NB' m ml t := by
  rcases h with q | ⟨a, q1, q2, q3⟩ | ⟨a, b, q1, q2, q3, q4, q5⟩
  · exact .inl q
  · exact .inr (.inl ⟨a, q1, by omega, q3⟩)
  · exact .inr (.inr ⟨a, b, q1, by omega, q3, by omega, q5⟩)
theorem TC_c {NB : Nat} {m n : mm_P} {ml n2 : mm_G} (h : TC NB m ml) (h11 : n 1 1 = m 1 1) (hr : ∀ t, t < NB → ∀ c, 177 ≤ c → c ≤ 183 → n c t = m c t) (hl : ∀ t, t < NB → n2 2 t = ml 2 t) : TC NB n n2 := by
  refine ⟨h11.trans h.1, fun t ht => SHT_c (h.2.1 t ht) ht hr hl, fun t u ht hu e => h.2.2 t u ht hu ?_⟩
  rw [hl t ht, hl u hu] at e
  exact e
theorem TC_add {NB : Nat} {m n : mm_P} {ml n2 : mm_G} (h : TC NB m ml) (h11 : n 1 1 = nI (NB + 1)) (hr : ∀ t, t < NB → ∀ c, 177 ≤ c → c ≤ 183 → n c t = m c t) (hl : ∀ t, t < NB → n2 2 t = ml 2 t) (hnew : SHT (NB + 1) n n2 NB) (hne : ∀ t, t < NB → ¬ ml 2 t = n2 2 NB) : TC (NB + 1) n n2 := by
  refine ⟨h11, fun t ht => ?_, fun t u ht hu e => ?_⟩
  · by_cases htN : t = NB
    · rw [htN]
      exact hnew
    · exact SHT_le (SHT_c (h.2.1 t (by omega)) (by omega) hr hl) (by omega)
  · by_cases htN : t = NB
    · by_cases huN : u = NB
      · omega
      · subst htN
        rw [hl u (by omega)] at e
        exact absurd e.symm (hne u (by omega))
    · by_cases huN : u = NB
      · subst huN
        rw [hl t (by omega)] at e
        exact absurd e (hne t (by omega))
      · rw [hl t (by omega), hl u (by omega)] at e
        exact h.2.2 t u (by omega) (by omega) e
theorem NC_c {ND : Nat} {m n : mm_P} (h : NC ND m) (h35 : n 3 5 = m 3 5) (hc : ∀ c i, (c = 4 ∨ c = 5 ∨ c = 6 ∨ (188 ≤ c ∧ c ≤ 193)) → n c i = m c i) : NC ND n := by
  refine ⟨h35.trans h.1, fun k hk => ?_⟩
  rw [hc 4 k (by omega), hc 5 k (by omega), hc 188 k (by omega), hc 193 k (by omega), hc 6 _ (by omega), hc 6 _ (by omega), hc 6 _ (by omega), hc 6 _ (by omega), hc 189 k (by omega), hc 190 k (by omega), hc 191 k (by omega), hc 192 k (by omega)]
  exact h.2 k hk
theorem FC_c {NB ND NF : Nat} {m n : mm_P} {ml n2 : mm_G} (hI : IM m NB ND NF) (h : FC NF m ml) (h97 : n 9 7 = m 9 7) (hc : ∀ c i, (c = 10 ∨ c = 11 ∨ c = 12 ∨ c = 15 ∨ (194 ≤ c ∧ c ≤ 197)) → n c i = m c i) (hl : ∀ t, t < NB → n2 2 t = ml 2 t) (h13 : ∀ i, n2 13 i = ml 13 i) (h14 : ∀ i, n2 14 i = ml 14 i) : FC NF n n2 := by
  refine ⟨h97.trans h.1, fun f hf => ?_⟩
  have hNB := hI.1.1
  obtain ⟨o1, ⟨t, o2, o3, o4⟩, ⟨u, o5, o6, o7⟩, o8⟩ := hI.2.2.2.2.2.1 f hf
  have h' := h.2 f hf
  rw [hc 10 f (by omega), hc 11 f (by omega), hc 12 f (by omega), hc 15 f (by omega), hc 194 f (by omega), hc 195 f (by omega), hc 196 f (by omega), hc 197 f (by omega), h13, h14, hl _ (by rw [o3, nI_clamp (by omega)]; exact o2), hl _ (by rw [o6, nI_clamp (by omega)]; exact o5)]
  exact h'
theorem CO_c {m n : mm_P} {ml n2 : mm_G} (h : CO m ml) (hIC : mm_IC n) (hc : ∀ c i, stC c i ∨ stM c i → n c i = m c i) (h51 : 0 ≤ (n 176 51).toInt ∧ (n 176 51).toInt ≤ 100) (hl : ∀ c i, (c = 2 ∨ c = 13 ∨ c = 14) → n2 c i = ml c i) : CO n n2 := by
  obtain ⟨-, ⟨NB, ND, NF, hI, hT, hN, hF⟩, -, h41, hin⟩ := h
  have hNB := hI.1.1
  have hC : ∀ c i, stC c i → n c i = m c i := fun c i q => hc c i (.inl q)
  have hM : ∀ c i, stM c i → n c i = m c i := fun c i q => hc c i (.inr q)
  have hrow : ∀ t, t < NB → ∀ c, 177 ≤ c → c ≤ 183 → n c t = m c t := fun t ht c a b => hM c t (.inr (.inl ⟨a, b, by omega⟩))
  have hI' : IM n NB ND NF := by
    obtain ⟨a1, ⟨a2, a3, a4⟩, a5, a6, a7, a8, a9⟩ := hI
    have h8 : ∀ c i, 188 ≤ c → c ≤ 197 → n c i = m c i := fun c i a b => hM c i (.inr (.inr (.inl ⟨a, b⟩)))
    refine ⟨a1, ⟨(hM 176 0 (.inl ⟨rfl, by omega⟩)).trans a2, (hM 176 13 (.inl ⟨rfl, by omega⟩)).trans a3, (hM 176 20 (.inl ⟨rfl, by omega⟩)).trans a4⟩, fun t ht => wT_c (a5 t ht) (fun t q c x y => hrow t (by omega) c x y) (.inl ht), DN_c a6 hrow, fun j hj => okN_c (a7 j hj) (Nat.le_refl _) (fun c i x y z => h8 c i (by omega) (by omega)), fun f hf => okF_c (a8 f hf) (Nat.le_refl _) (Nat.le_refl _) (fun c x y => h8 c f (by omega) (by omega)) hrow, ?_⟩
    rw [hrow 0 (by omega) 177 (by decide) (by decide), hrow 1 (by omega) 177 (by decide) (by decide), hrow 2 (by omega) 177 (by decide) (by decide), hrow 3 (by omega) 177 (by decide) (by decide)]
    exact a9
  have e160 : n 160 1 = m 160 1 := hC 160 1 (by unfold stC; omega)
  refine ⟨hIC, ⟨NB, ND, NF, hI', TC_c hT (hC 1 1 (by unfold stC; omega)) hrow (fun t _ => hl 2 t (.inl rfl)), NC_c hN (hC 3 5 (by unfold stC; omega)) (fun c i q => hc c i (by unfold stC stM; omega)), FC_c hI hF (hC 9 7 (by unfold stC; omega)) (fun c i q => hc c i (by unfold stC stM; omega)) (fun t _ => hl 2 t (.inl rfl)) (fun i => hl 13 i (by omega)) (fun i => hl 14 i (by omega))⟩, h51, ?_, fun i hi => ?_⟩
  · rw [e160, hM 176 41 (.inl ⟨rfl, by omega⟩)]
    exact h41
  · rw [e160] at hi
    rw [hC 161 i (by unfold stC; omega), hM 211 i (by unfold stM; omega)]
    exact hin i hi
/-- a call of the class that leaves what is alike -/
def mm_avC (W : List (Nat × Nat × Nat)) (c : Nat) : Bool := W.all (fun e => match Nat.ble e.1 c, Nat.ble c e.2.1 with
  | true, true => false
  | _, _ => true)
theorem mm_avC_s {W : List (Nat × Nat × Nat)} {c i : Nat} (h : mm_avC W c = true) : mm_wr W c i = false := by
  cases hw : mm_wr W c i with
  | false => rfl
  | true =>
    obtain ⟨e, he, h1⟩ := List.any_eq_true.mp hw
    have h2 := List.all_eq_true.mp h e he
    unfold mm_wr1 at h1
    split at h1
    · rename_i q1 q2
      rw [q1, q2] at h2
      cases h2
    · cases h1
def mm_stW (W : List (Nat × Nat × Nat)) : Bool := mm_hiW W && (!(mm_wr W 1 1) && (!(mm_wr W 3 5) && (!(mm_wr W 9 7) && (!(mm_wr W 160 1) && [2, 4, 5, 6, 10, 11, 12, 13, 14, 15, 161].all (mm_avC W)))))
theorem mm_stW_s {W : List (Nat × Nat × Nat)} (h : mm_stW W = true) {c i : Nat} (hc : stC c i ∨ 176 ≤ c ∨ c = 2 ∨ c = 13 ∨ c = 14) : mm_wr W c i = false := by
  unfold mm_stW at h
  simp only [Bool.and_eq_true, Bool.not_eq_true'] at h
  obtain ⟨h1, h2, h3, h4, h5, h6⟩ := h
  have hv : ∀ c, [2, 4, 5, 6, 10, 11, 12, 13, 14, 15, 161].contains c = true → mm_wr W c i = false := fun c q => mm_avC_s (List.all_eq_true.mp h6 c (List.contains_iff_mem.mp q))
  rcases hc with q | q | q | q | q
  · unfold stC at q
    rcases q with ⟨rfl, rfl⟩ | ⟨rfl, rfl⟩ | rfl | rfl | rfl | ⟨rfl, rfl⟩ | rfl | rfl | rfl | rfl | ⟨rfl, rfl⟩ | rfl
    · exact h2
    · exact h3
    · exact hv 4 rfl
    · exact hv 5 rfl
    · exact hv 6 rfl
    · exact h4
    · exact hv 10 rfl
    · exact hv 11 rfl
    · exact hv 12 rfl
    · exact hv 15 rfl
    · exact h5
    · exact hv 161 rfl
  · exact mm_hi_f h1 q
  · rw [q]; exact hv 2 rfl
  · rw [q]; exact hv 13 rfl
  · rw [q]; exact hv 14 rfl
theorem stM_hi {c i : Nat} (h : stM c i) : 176 ≤ c := by
  unfold stM at h
  omega
theorem CO_f {W : List (Nat × Nat × Nat)} {m n1 : mm_P} {ml n2 : mm_G} (h : CO m ml) (hW : mm_stW W = true) (hIC : mm_IC n1) (hf : mm_fw W m ml n1 n2) : CO n1 n2 :=
  CO_c h hIC (fun c i q => (hf c i (mm_stW_s hW (q.imp_right (fun q => .inl (stM_hi q))))).1) (by rw [(hf 176 51 (mm_stW_s hW (.inr (.inl (by decide))))).1]; exact h.2.2.1) (fun c i q => (hf c i (mm_stW_s hW (.inr (.inr q)))).2)
theorem pg_stM {c i : Nat} (h : stM c i) : pg c i = true := by
  unfold stM at h
  rcases h with ⟨rfl, rfl | rfl | rfl | rfl⟩ | ⟨a, b, e⟩ | ⟨a, b⟩ | rfl
  · rfl
  · rfl
  · rfl
  · rfl
  · exact pg_row a b e
  · exact pg_nod a b
  · rfl
theorem stC_lo {c i : Nat} (h : stC c i) : c < 176 := by
  unfold stC at h
  omega
/-- a call of the model that leaves the program -/
theorem CO_p {m n : mm_P} {ml : mm_G} (h : CO m ml) (hp : PR m n) : CO n ml :=
  CO_c h (IC_k h.1 (fun c i q => hp c i (pg_low q))) (fun c i q => hp c i (by rcases q with q | q; exact pg_low (stC_lo q); exact pg_stM q)) (by rw [hp 176 51 rfl]; exact h.2.2.1) (fun _ _ _ => rfl)
theorem CO_rf {m n w : mm_P} {ml : mm_G} {r : Nat} (h : CO m ml) (hp : PR m n) (hr : RF n w) (h51 : w 176 51 = nI r) (hr2 : r ≤ 100) : CO w ml := by
  have h' := CO_p h hp
  refine CO_c h' (IC_k h'.1 (fun c i q => hr.1 c i (by omega) (by omega))) (fun c i q => ?_) (by rw [h51, mm_tI (by omega)]; omega) (fun _ _ _ => rfl)
  rcases q with q | q
  · have := stC_lo q
    exact hr.1 c i (by omega) (by omega)
  · unfold stM at q
    by_cases hc : c = 176
    · subst hc
      exact hr.2 i (by omega)
    · exact hr.1 c i hc (by omega)
theorem CO_in {m : mm_P} {ml : mm_G} (h : CO m ml) : (m 176 41).toInt ≤ 16 := by
  rw [← h.2.2.2.1]
  exact h.1.2.2.2.2.2.2
theorem CO_LI {m : mm_P} {ml : mm_G} (h : CO m ml) : LI m := by
  obtain ⟨h1, ⟨NB, ND, NF, hI, -⟩, h2, h3, -⟩ := h
  exact ⟨h1, ⟨NB, ND, NF, hI⟩, h2, h3⟩
