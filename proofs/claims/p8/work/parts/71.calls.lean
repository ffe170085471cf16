/-! ===== pair(), list(), node(), function(), body() of the model: their calls ===== -/
/-- the class's cells, the inputs' number, the row's length stay -/
def KO (m n : mm_P) : Prop := (∀ c i, c < 176 → n c i = m c i) ∧ n 176 41 = m 176 41 ∧ n 176 51 = m 176 51
theorem KO_r {m : mm_P} : KO m m := ⟨fun _ _ _ => rfl, rfl, rfl⟩
theorem KO_t {m n p : mm_P} (h : KO m n) (h2 : KO n p) : KO m p := ⟨fun c i q => (h2.1 c i q).trans (h.1 c i q), h2.2.1.trans h.2.1, h2.2.2.trans h.2.2⟩
theorem pg_low {c i : Nat} (h : c < 176) : pg c i = true := by
  unfold pg
  have h1 : Nat.beq c 176 = false := by
    cases hb : Nat.beq c 176 with
    | false => rfl
    | true => exact absurd (Nat.eq_of_beq_eq_true hb) (by omega)
  have h2 : Nat.ble 177 c = false := by
    cases hb : Nat.ble 177 c with
    | false => rfl
    | true => exact absurd (Nat.le_of_ble_eq_true hb) (by omega)
  have h3 : Nat.ble 188 c = false := by
    cases hb : Nat.ble 188 c with
    | false => rfl
    | true => exact absurd (Nat.le_of_ble_eq_true hb) (by omega)
  have h4 : Nat.blt c 176 = true := Nat.ble_eq_true_of_le h
  rw [h1, h2, h3]
  dsimp only
  rw [h4]
  rfl
theorem KO_p {m n : mm_P} (h : PR m n) : KO m n := ⟨fun c i q => h c i (pg_low q), h 176 41 rfl, h 176 51 rfl⟩
theorem KO_u {m n : mm_P} {c i : Nat} {x : Int32} (h : KO m n) (hc : 177 ≤ c ∨ (c = 176 ∧ ¬ i = 41 ∧ ¬ i = 51)) : KO m (mm_u n c i x) := by
  refine ⟨fun a b q => (mm_u_e (by omega)).trans (h.1 a b q), ?_, ?_⟩
  · rcases hc with hc | ⟨rfl, h1, h2⟩
    · exact (mm_u_e (by omega)).trans h.2.1
    · exact (mm_u_f (fun q => h1 q.symm)).trans h.2.1
  · rcases hc with hc | ⟨rfl, h1, h2⟩
    · exact (mm_u_e (by omega)).trans h.2.2
    · exact (mm_u_f (fun q => h2 q.symm)).trans h.2.2
theorem KO_l {m n p : mm_P} {t : Nat} (h : KO m n) (hl : LYf n p t) : KO m p := ⟨fun c i q => (hl c i (by omega)).trans (h.1 c i q), (hl 176 41 (by omega)).trans h.2.1, (hl 176 51 (by omega)).trans h.2.2⟩
theorem mm_leI {a b : Int32} (h : a ≤ b) : a.toInt ≤ b.toInt := Int32.le_iff_toInt_le.mp h
theorem mm_ne200 {N : Nat} (h : ¬ nI N = 200) (hl : N ≤ 200) : N < 200 := by
  by_cases q : N = 200
  · subst q
    exact absurd rfl h
  · omega
section MMT
variable {L : Nat} {xs : Nat → Int32} {d : Nat} {Q : mm_QQ} {mi : mm_P} {ml : mm_G} {lim : Nat × Nat}
theorem sp_numbers4 {NB ND NF a b : Nat} (hI : IM mi NB ND NF) (ha : a < NB) (hb : b < NB) (hQ : ∀ n NB' v, IM n NB' ND NF → KO mi n → Q (some (mm_I v)) n ml) : mm_cq (mm_call mm_ms (mm_tb L xs) (d + 4)) 175 [mm_R 176, mm_I 4, mm_I (nI a), mm_I (nI b)] mi ml Q := by
  have hNB := hI.1.1
  refine en_X12_numbers (bk_X12_numbers_0 (mm_call_m _) (sp_forgets (N := NB) (by rw [hI.2.1.1]; exact mm_tI (by omega)) hNB.2 (fun n hfg => bk_X12_numbers_4 (mm_call_m _) ?_)))
  obtain ⟨hT, hp⟩ := TS_fg hI hfg
  have hIn := IM_c hI hp
  have va : vp_in (nI a) 8000 := vp_in_nI (by omega) (by decide)
  have vb : vp_in (nI b) 8000 := vp_in_nI (by omega) (by decide)
  have ea : (nI a).toNatClampNeg = a := nI_clamp (by omega)
  have eb : (nI b).toNatClampNeg = b := nI_clamp (by omega)
  have h4 : ∀ {P : Prop}, ¬ (4 : Int32) = 4 → P := fun z => absurd rfl z
  refine TS_known hT (bk_X12_numbers_11 (s0 := -1) (mm_call_m _) (fun _ z => h4 z) (fun _ z => h4 z) (fun _ z => h4 z) (fun _ z => h4 z) (fun _ _ => va) (fun _ _ => vb) (fun _ _ => sp_most ?_) (fun z => absurd rfl z)) (fun t ht c1 c2 c3 => ?_)
  · rw [ea, eb]
    refine bk_X12_numbers_43 (mm_call_m _) (fun z z2 => ?_) (fun _ _ => hQ n NB _ hIn (KO_p hp)) (fun _ => hQ n NB _ hIn (KO_p hp))
    rw [hIn.2.1.1] at z2 ⊢
    have hlt := mm_ne200 z2 hNB.2
    refine sp_lays4 (by omega) ha hb (by have := hT.2.2.2.2.2.1; omega) (fun n' k hk hk0 hl he => bk_X12_numbers_84 (mm_call_m _) ?_)
    have hrow : ∀ c i, 177 ≤ c → c ≤ 183 → i < NB → n' c i = n c i := fun c i _ _ q => hl c i (by omega)
    have hu : ∀ c i, 177 ≤ c → ¬ c = 184 → mm_u (mm_u n' 184 k (nI NB + 1)) 176 0 (mm_u n' 184 k (nI NB + 1) 176 0 + 1) c i = n' c i := fun c i q q2 => by rw [mm_u_e (by omega), mm_u_e q2]
    refine hQ _ (NB + 1) _ (IM_type hIn hlt ?_ ?_ ?_ (fun c i x y q => (hu c i x (by omega)).trans (hrow c i x y q)) (fun c i x y => (hu c i (by omega) (by omega)).trans (hl c i (by omega))) (.inr (.inr ⟨a, b, .inl (by omega), ha, .inl (by omega), hb, en4_c (en4_s he (fun c x y => hrow c a x y ha) (fun c x y => hrow c b x y hb)) (fun c x y => hu c _ x (by omega)) (fun c x y => hu c _ x (by omega)) (fun c x y => hu c _ x (by omega))⟩)) ?_) (KO_u (KO_u (KO_l (KO_p hp) hl) (.inl (by decide))) (.inr ⟨rfl, by decide, by decide⟩))
    · rw [mm_u_s, mm_u_e (by decide), hl 176 0 (by omega), hIn.2.1.1]
      exact (nI_succ NB).symm
    · rw [mm_u_f (by decide), mm_u_e (by decide)]
      exact hl 176 13 (by omega)
    · rw [mm_u_f (by decide), mm_u_e (by decide)]
      exact hl 176 20 (by omega)
    · rw [hu 180 NB (by decide) (by decide), he.2.2.2.1]
      exact mm_leI z
  · have hne : ¬ nI t = -1 := nI_ne (by have := vd_lt ht hT.1.2 hT.2.1.2; omega)
    exact bk_X12_numbers_11 (mm_call_m _) (fun z => absurd z hne) (fun z => absurd z hne) (fun z => absurd z hne) (fun z => absurd z hne) (fun z => absurd z hne) (fun z => absurd z hne) (fun z => absurd z hne) (fun _ => hQ n NB _ hIn (KO_p hp))
theorem sp_numbers5 {NB ND NF a : Nat} (hI : IM mi NB ND NF) (ha : a < NB) (hQ : ∀ n NB' v, IM n NB' ND NF → KO mi n → Q (some (mm_I v)) n ml) : mm_cq (mm_call mm_ms (mm_tb L xs) (d + 4)) 175 [mm_R 176, mm_I 5, mm_I (nI a), mm_I (-1)] mi ml Q := by
  have hNB := hI.1.1
  refine en_X12_numbers (bk_X12_numbers_0 (mm_call_m _) (sp_forgets (N := NB) (by rw [hI.2.1.1]; exact mm_tI (by omega)) hNB.2 (fun n hfg => bk_X12_numbers_4 (mm_call_m _) ?_)))
  obtain ⟨hT, hp⟩ := TS_fg hI hfg
  have hIn := IM_c hI hp
  have va : vp_in (nI a) 8000 := vp_in_nI (by omega) (by decide)
  have ea : (nI a).toNatClampNeg = a := nI_clamp (by omega)
  have h4 : ∀ {P : Prop}, (5 : Int32) = 4 → P := fun z => absurd z (by decide)
  refine TS_known hT (bk_X12_numbers_11 (s0 := -1) (mm_call_m _) (fun _ _ => va) (fun _ _ z z2 => ?_) (fun _ _ _ _ => hQ n NB _ hIn (KO_p hp)) (fun _ _ _ => hQ n NB _ hIn (KO_p hp)) (fun _ z => h4 z) (fun _ z => h4 z) (fun _ z => h4 z) (fun z => absurd rfl z)) (fun t ht c1 c2 c3 => ?_)
  · rw [ea] at z
    rw [hIn.2.1.1] at z2 ⊢
    have hlt := mm_ne200 z2 hNB.2
    refine sp_lays5 (by omega) ha (by have := hT.2.2.2.2.2.1; omega) (fun n' k hk hk0 hl he => bk_X12_numbers_84 (mm_call_m _) ?_)
    have hrow : ∀ c i, 177 ≤ c → c ≤ 183 → i < NB → n' c i = n c i := fun c i _ _ q => hl c i (by omega)
    have hu : ∀ c i, 177 ≤ c → ¬ c = 184 → mm_u (mm_u n' 184 k (nI NB + 1)) 176 0 (mm_u n' 184 k (nI NB + 1) 176 0 + 1) c i = n' c i := fun c i q q2 => by rw [mm_u_e (by omega), mm_u_e q2]
    refine hQ _ (NB + 1) _ (IM_type hIn hlt ?_ ?_ ?_ (fun c i x y q => (hu c i x (by omega)).trans (hrow c i x y q)) (fun c i x y => (hu c i (by omega) (by omega)).trans (hl c i (by omega))) (.inr (.inl ⟨a, .inl (by omega), ha, en5_c (en5_s he (fun c x y => hrow c a x y ha)) (fun c x y => hu c _ x (by omega)) (fun c x y => hu c _ x (by omega))⟩)) ?_) (KO_u (KO_u (KO_l (KO_p hp) hl) (.inl (by decide))) (.inr ⟨rfl, by decide, by decide⟩))
    · rw [mm_u_s, mm_u_e (by decide), hl 176 0 (by omega), hIn.2.1.1]
      exact (nI_succ NB).symm
    · rw [mm_u_f (by decide), mm_u_e (by decide)]
      exact hl 176 13 (by omega)
    · rw [mm_u_f (by decide), mm_u_e (by decide)]
      exact hl 176 20 (by omega)
    · rw [hu 180 NB (by decide) (by decide), he.2.2.2.1]
      exact mm_leI z
  · have hne : ¬ nI t = -1 := nI_ne (by have := vd_lt ht hT.1.2 hT.2.1.2; omega)
    exact bk_X12_numbers_11 (mm_call_m _) (fun z => absurd z hne) (fun z => absurd z hne) (fun z => absurd z hne) (fun z => absurd z hne) (fun z => absurd z hne) (fun z => absurd z hne) (fun z => absurd z hne) (fun _ => hQ n NB _ hIn (KO_p hp))
theorem sp_pair {NB ND NF : Nat} {x1 x2 : Int32} (hI : IM mi NB ND NF) (hQ : ∀ n NB' v, IM n NB' ND NF → KO mi n → Q (some (mm_I v)) n ml) : mm_cq (mm_call mm_ms (mm_tb L xs) (d + 5)) 176 [mm_R 176, mm_I x1, mm_I x2] mi ml Q := by
  have h26 : mm_WQ (mm_call mm_ms (mm_tb L xs) (d + 4)) (mm_tb L xs) mm_m176 (mm_li mm_m176) Q 26 [some (mm_R 176), some (mm_I x1), some (mm_I x2)] [] mi ml := bk_X12_pair_26 (mm_call_m _) (hQ mi NB _ hI KO_r)
  refine en_X12_pair (bk_X12_pair_0 (mm_call_m _) (sp_typ hI (fun t t1 t2 => bk_X12_pair_5 (s0 := 1) (mm_call_m _) (fun z => absurd z (by decide)) (fun _ => sp_typ hI (fun u u1 u2 => bk_X12_pair_13 (s0 := 1) (mm_call_m _) (fun z => absurd z (by decide)) (fun _ => ?_)) (fun _ => bk_X12_pair_13 (s0 := 0) (mm_call_m _) (fun _ => h26) (fun z => absurd rfl z)))) (fun _ => bk_X12_pair_5 (s0 := 0) (mm_call_m _) (fun _ => h26) (fun z => absurd rfl z))))
  rw [t2, u2]
  exact sp_numbers4 hI t1 u1 (fun n NB' v a b => bk_X12_pair_23 (mm_call_m _) (hQ n NB' v a b))
theorem sp_list {NB ND NF : Nat} {x1 : Int32} (hI : IM mi NB ND NF) (hQ : ∀ n NB' v, IM n NB' ND NF → KO mi n → Q (some (mm_I v)) n ml) : mm_cq (mm_call mm_ms (mm_tb L xs) (d + 5)) 177 [mm_R 176, mm_I x1] mi ml Q := by
  refine en_X12_list (bk_X12_list_0 (mm_call_m _) (sp_typ hI (fun t t1 t2 => bk_X12_list_5 (s0 := 1) (mm_call_m _) (fun z => absurd z (by decide)) (fun _ => ?_)) (fun _ => bk_X12_list_5 (s0 := 0) (mm_call_m _) (fun _ => hQ mi NB _ hI KO_r) (fun z => absurd rfl z))))
  rw [t2]
  exact sp_numbers5 hI t1 (fun n NB' v a b => bk_X12_list_15 (mm_call_m _) (hQ n NB' v a b))
theorem sp_body {NB ND NF : Nat} {x1 x2 : Int32} (hI : IM mi NB ND NF) (hQ : ∀ n v, IM n NB ND NF → KO mi n → Q (some (mm_I v)) n ml) : mm_cq (mm_call mm_ms (mm_tb L xs) (d + 3)) 191 [mm_R 176, mm_I x1, mm_I x2] mi ml Q := by
  have hNF := hI.1.2.2
  have h16 : mm_WQ (mm_call mm_ms (mm_tb L xs) (d + 2)) (mm_tb L xs) mm_m191 (mm_li mm_m191) Q 16 [some (mm_R 176), some (mm_I x1), some (mm_I x2)] [] mi ml := bk_X12_body_16 (mm_call_m _) (hQ mi _ hI KO_r)
  refine en_X12_body (bk_X12_body_0 (mm_call_m _) (sp_fun hI (fun f f1 f2 => bk_X12_body_5 (s0 := 1) (mm_call_m _) (fun z => absurd z (by decide)) (fun _ => sp_nod hI (fun b b1 b2 => bk_X12_body_13 (s0 := 1) (mm_call_m _) (fun _ => ?_) (fun _ => ?_) (fun z => absurd z (by decide))) (fun _ => bk_X12_body_13 (s0 := 0) (mm_call_m _) (fun z => absurd rfl z) (fun z => absurd rfl z) (fun _ => h16)))) (fun _ => bk_X12_body_5 (s0 := 0) (mm_call_m _) (fun _ => h16) (fun z => absurd rfl z))))
  · rw [f2]
    exact vp_in_nI (by omega) (by decide)
  · rw [f2, b2, nI_clamp (by omega)]
    exact hQ _ _ (IM_body hI f1 b1) (KO_u KO_r (.inl (by decide)))
theorem sp_function {NB ND NF : Nat} {x1 x2 x3 : Int32} (hI : IM mi NB ND NF) (hQ : ∀ n NF' v, IM n NB ND NF' → KO mi n → Q (some (mm_I v)) n ml) : mm_cq (mm_call mm_ms (mm_tb L xs) (d + 3)) 190 [mm_R 176, mm_I x1, mm_I x2, mm_I x3] mi ml Q := by
  have hNF := hI.1.2.2
  have hNB := hI.1.1
  have h43 : mm_WQ (mm_call mm_ms (mm_tb L xs) (d + 2)) (mm_tb L xs) mm_m190 (mm_li mm_m190) Q 43 [some (mm_R 176), some (mm_I x1), some (mm_I x2), some (mm_I x3)] [] mi ml := bk_X12_function_43 (mm_call_m _) (hQ mi NF _ hI KO_r)
  have n1 : ∀ {P : Prop}, (1 : Int32) = 0 → P := fun z => absurd z (by decide)
  have n0 : ∀ {P : Prop}, ¬ (0 : Int32) = 0 → P := fun z => absurd rfl z
  refine en_X12_function (bk_X12_function_0 (mm_call_m _) (sp_in (fun l0 l2 => bk_X12_function_6 (s0 := 1) (mm_call_m _) n1 (fun _ => sp_typ hI (fun t t1 t2 => bk_X12_function_14 (s0 := 1) (mm_call_m _) n1 (fun _ => sp_typ hI (fun u u1 u2 => bk_X12_function_22 (s0 := 1) (mm_call_m _) n1 (fun _ => ?_)) (fun _ => bk_X12_function_22 (s0 := 0) (mm_call_m _) (fun _ => h43) n0))) (fun _ => bk_X12_function_14 (s0 := 0) (mm_call_m _) (fun _ => h43) n0))) (fun _ => bk_X12_function_6 (s0 := 0) (mm_call_m _) (fun _ => h43) n0)))
  subst t2 u2
  refine sp_X12_isWithin (by omega) (fun w1 => bk_X12_function_31 (s0 := 1) (mm_call_m _) n1 (fun _ => sp_X12_isWithin (by omega) (fun w2 => ?_) (fun _ => bk_X12_function_40 (s0 := 0) (mm_call_m _) n0 n0 n0 n0 n0 n0 (fun _ => h43)))) (fun _ => bk_X12_function_31 (s0 := 0) (mm_call_m _) (fun _ => h43) n0)
  have hv : ¬ mi 176 20 = 12 → NF < 12 ∧ vp_in (mi 176 20) 12 := fun z => by
    rw [hI.2.1.2.2] at z ⊢
    have : NF < 12 := by
      by_cases q : NF = 12
      · subst q
        exact absurd rfl z
      · omega
    exact ⟨this, vp_in_nI this (by decide)⟩
  refine bk_X12_function_40 (s0 := 1) (mm_call_m _) (fun _ z => (hv z).2) (fun _ z => (hv z).2) (fun _ z => (hv z).2) (fun _ z => (hv z).2) (fun _ z => ?_) (fun _ _ => hQ mi NF _ hI KO_r) n1
  have hlt := (hv z).1
  have hu : ∀ c i (y1 y2 y3 y4 y5 : Int32), ¬ (194 ≤ c ∧ c ≤ 197 ∧ i = NF) → ¬ (c = 176 ∧ i = 20) → mm_u (mm_u (mm_u (mm_u (mm_u mi 194 NF y1) 195 NF y2) 196 NF y3) 197 NF y4) 176 20 y5 c i = mi c i := fun c i y1 y2 y3 y4 y5 q q2 => by
    rw [mm_u_o q2, mm_u_o (by omega), mm_u_o (by omega), mm_u_o (by omega), mm_u_o (by omega)]
  rw [hI.2.1.2.2, nI_clamp (by omega)]
  refine hQ _ (NF + 1) _ (IM_function hI hlt ?_ (hu _ _ _ _ _ _ _ (by omega) (by omega)) (hu _ _ _ _ _ _ _ (by omega) (by omega)) (fun c i q q2 => hu _ _ _ _ _ _ _ q2 (by omega)) ?_) ⟨fun c i q => hu _ _ _ _ _ _ _ (by omega) (by omega), hu _ _ _ _ _ _ _ (by omega) (by omega), hu _ _ _ _ _ _ _ (by omega) (by omega)⟩
  · rw [mm_u_s]
    exact (nI_succ NF).symm
  · unfold okF wthn
    have e194 : mm_u (mm_u (mm_u (mm_u (mm_u mi 194 NF x1) 195 NF (nI t)) 196 NF (nI u)) 197 NF (-1)) 176 20 (nI NF + 1) 194 NF = x1 := by
      rw [mm_u_e (by decide), mm_u_e (by decide), mm_u_e (by decide), mm_u_e (by decide), mm_u_s]
    refine ⟨?_, ⟨t, t1, ?_, ?_⟩, ⟨u, u1, ?_, ?_⟩, .inl ?_⟩
    · rw [mm_u_e (by decide), mm_u_e (by decide), mm_u_e (by decide), mm_u_e (by decide), mm_u_s]
      rw [mm_tt0] at l0
      rw [mm_tt2] at l2
      exact ⟨l0, l2⟩
    · rw [mm_u_e (by decide), mm_u_e (by decide), mm_u_e (by decide), mm_u_s]
    · rw [hu 181 t _ _ _ _ _ (fun q => absurd q.1 (by decide)) (by omega), hu 182 t _ _ _ _ _ (fun q => absurd q.1 (by decide)) (by omega), e194]
      exact w1
    · rw [mm_u_e (by decide), mm_u_e (by decide), mm_u_s]
    · rw [hu 181 u _ _ _ _ _ (fun q => absurd q.1 (by decide)) (by omega), hu 182 u _ _ _ _ _ (fun q => absurd q.1 (by decide)) (by omega), e194]
      exact w2
    · rw [mm_u_e (by decide), mm_u_s]
end MMT
