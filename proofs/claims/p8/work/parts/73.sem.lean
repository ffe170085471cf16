/-! ===== what values of a type are: predicates over the heap ===== -/
abbrev ST := (Nat → Int32) → (Nat → Int32) → Nat → Int32 → Prop
def sAny : ST := fun _ _ _ _ => True
def sPr (P R : ST) : ST := fun A B h v => ∃ a, a < h ∧ v = nI a ∧ P A B h (A a) ∧ R A B h (B a)
def lsP (P : ST) : Nat → ST
  | 0 => fun _ _ _ v => v = -1
  | n + 1 => fun A B h v => v = -1 ∨ ∃ a, a < h ∧ v = nI a ∧ P A B h (A a) ∧ lsP P n A B h (B a)
def sLs (P : ST) : ST := fun A B h v => ∃ n, lsP P n A B h v
/-- it stays true as the heap grows -/
def mST (S : ST) : Prop := ∀ A B h A' B' h', h ≤ h' → (∀ a, a < h → A' a = A a ∧ B' a = B a) → ∀ v, S A B h v → S A' B' h' v
theorem mST_any : mST sAny := fun _ _ _ _ _ _ _ _ _ _ => trivial
theorem mST_pr {P R : ST} (hP : mST P) (hR : mST R) : mST (sPr P R) := fun A B h A' B' h' hl he v ⟨a, a1, a2, a3, a4⟩ => by
  obtain ⟨e1, e2⟩ := he a a1
  refine ⟨a, by omega, a2, ?_, ?_⟩
  · rw [e1]; exact hP A B h A' B' h' hl he _ a3
  · rw [e2]; exact hR A B h A' B' h' hl he _ a4
theorem mST_lsP {P : ST} (hP : mST P) : ∀ n, mST (lsP P n)
  | 0 => fun A B h A' B' h' hl he v q => q
  | n + 1 => fun A B h A' B' h' hl he v q => by
    unfold lsP at q ⊢
    rcases q with q | ⟨a, a1, a2, a3, a4⟩
    · exact .inl q
    · obtain ⟨e1, e2⟩ := he a a1
      refine .inr ⟨a, by omega, a2, ?_, ?_⟩
      · rw [e1]; exact hP A B h A' B' h' hl he _ a3
      · rw [e2]; exact mST_lsP hP n A B h A' B' h' hl he _ a4
theorem mST_ls {P : ST} (hP : mST P) : mST (sLs P) := fun A B h A' B' h' hl he v ⟨n, q⟩ => ⟨n, mST_lsP hP n A B h A' B' h' hl he v q⟩
theorem sLs_nil {P : ST} {A B : Nat → Int32} {h : Nat} : sLs P A B h (-1) := ⟨0, rfl⟩
theorem sLs_link {P : ST} {A B : Nat → Int32} {h a : Nat} (ha : a < h) (h1 : P A B h (A a)) (h2 : sLs P A B h (B a)) : sLs P A B h (nI a) := by
  obtain ⟨n, q⟩ := h2
  exact ⟨n + 1, .inr ⟨a, ha, rfl, h1, q⟩⟩
theorem sLs_get {P : ST} {A B : Nat → Int32} {h : Nat} {v : Int32} (q : sLs P A B h v) : v = -1 ∨ ∃ a, a < h ∧ v = nI a ∧ P A B h (A a) ∧ sLs P A B h (B a) := by
  obtain ⟨n, q⟩ := q
  cases n with
  | zero => exact .inl q
  | succ n =>
    unfold lsP at q
    rcases q with q | ⟨a, a1, a2, a3, a4⟩
    · exact .inl q
    · exact .inr ⟨a, a1, a2, a3, n, a4⟩
def SV (w : mm_P) (SA SB : ST) : Nat → Nat → ST
  | 0, _ => sAny
  | k + 1, t => if w 177 t = 4 then sPr (SV w SA SB k (w 178 t).toNatClampNeg) (SV w SA SB k (w 179 t).toNatClampNeg) else if w 177 t = 5 then sLs (SV w SA SB k (w 178 t).toNatClampNeg) else if w 177 t = 2 then SA else if w 177 t = 3 then SB else sAny
/-- the values of type t of the rows of w, of SA for A and SB for B -/
def SVt (w : mm_P) (SA SB : ST) (t : Nat) : ST := SV w SA SB (t + 1) t
theorem SV_m {w : mm_P} {SA SB : ST} (hA : mST SA) (hB : mST SB) : ∀ k t, mST (SV w SA SB k t)
  | 0, _ => mST_any
  | k + 1, t => by
    unfold SV
    split
    · exact mST_pr (SV_m hA hB k _) (SV_m hA hB k _)
    · split
      · exact mST_ls (SV_m hA hB k _)
      · split
        · exact hA
        · split
          · exact hB
          · exact mST_any
theorem SVt_m {w : mm_P} {SA SB : ST} (hA : mST SA) (hB : mST SB) (t : Nat) : mST (SVt w SA SB t) := SV_m hA hB _ _
/-- types whose parts are types ahead of them -/
def TW (NB TY : Nat) (w : mm_P) : Prop := NB ≤ 200 ∧ TY ≤ 8000 ∧ ∀ t, vd NB TY t → wT NB TY w t
theorem TW_S {NB TY : Nat} {w : mm_P} (h : TS w NB TY) : TW NB TY w := ⟨h.1.2, h.2.1.2, h.2.2.2.2.2.2⟩
theorem TW_I {NB ND NF : Nat} {m : mm_P} (h : IM m NB ND NF) : TW NB 200 m := ⟨h.1.1.2, by decide, fun t ht => h.2.2.1 t (by unfold vd at ht; omega)⟩
theorem TW_lt {NB TY t : Nat} {w : mm_P} (h : TW NB TY w) (ht : vd NB TY t) : t < 8000 := vd_lt ht h.1 h.2.1
theorem SV_s4 {w : mm_P} {SA SB : ST} {k t a b : Nat} (h : w 177 t = 4) (ha : w 178 t = nI a) (hb : w 179 t = nI b) (la : a < 2 ^ 31) (lb : b < 2 ^ 31) : SV w SA SB (k + 1) t = sPr (SV w SA SB k a) (SV w SA SB k b) := by
  conv => lhs; unfold SV
  rw [if_pos h, ha, hb, nI_clamp la, nI_clamp lb]
theorem SV_s5 {w : mm_P} {SA SB : ST} {k t a : Nat} (h : w 177 t = 5) (ha : w 178 t = nI a) (la : a < 2 ^ 31) : SV w SA SB (k + 1) t = sLs (SV w SA SB k a) := by
  conv => lhs; unfold SV
  rw [h, if_neg (by decide), if_pos rfl, ha, nI_clamp la]
theorem SV_s {w : mm_P} {SA SB : ST} {k t : Nat} (h4 : ¬ w 177 t = 4) (h5 : ¬ w 177 t = 5) : SV w SA SB (k + 1) t = if w 177 t = 2 then SA else if w 177 t = 3 then SB else sAny := by
  conv => lhs; unfold SV
  rw [if_neg h4, if_neg h5]
theorem SV_f {NB TY : Nat} {w : mm_P} {SA SB : ST} (hT : TW NB TY w) : ∀ (k k' t : Nat), t < k → t < k' → vd NB TY t → SV w SA SB k t = SV w SA SB k' t
  | 0, _, _, h, _, _ => absurd h (Nat.not_lt_zero _)
  | _ + 1, 0, _, _, h, _ => absurd h (Nat.not_lt_zero _)
  | k + 1, k' + 1, t, h1, h2, hv => by
    have ht8 := TW_lt hT hv
    rcases hT.2.2 t hv with q | ⟨a, q1, q2, q3⟩ | ⟨a, b, q1, q2, q3, q4, q5⟩
    · obtain ⟨e4, e5⟩ := bs_45 q
      rw [SV_s e4 e5, SV_s e4 e5]
    · rw [SV_s5 q3.1 q3.2.1 (by omega), SV_s5 q3.1 q3.2.1 (by omega), SV_f hT k k' a (by omega) (by omega) q1]
    · rw [SV_s4 q5.1 q5.2.1 q5.2.2.1 (by omega) (by omega), SV_s4 q5.1 q5.2.1 q5.2.2.1 (by omega) (by omega), SV_f hT k k' a (by omega) (by omega) q1, SV_f hT k k' b (by omega) (by omega) q3]
theorem SVt_4 {NB TY t : Nat} {w : mm_P} {SA SB : ST} (hT : TW NB TY w) (hv : vd NB TY t) (h4 : w 177 t = 4) : ∃ a b, vd NB TY a ∧ vd NB TY b ∧ a < t ∧ b < t ∧ w 178 t = nI a ∧ w 179 t = nI b ∧ SVt w SA SB t = sPr (SVt w SA SB a) (SVt w SA SB b) ∧ en4 w w t a b := by
  have ht8 := TW_lt hT hv
  rcases hT.2.2 t hv with q | ⟨a, q1, q2, q3⟩ | ⟨a, b, q1, q2, q3, q4, q5⟩
  · exact absurd h4 (bs_45 q).1
  · have := q3.1
    rw [h4] at this
    exact absurd this (by decide)
  · refine ⟨a, b, q1, q3, q2, q4, q5.2.1, q5.2.2.1, ?_, q5⟩
    unfold SVt
    rw [SV_s4 q5.1 q5.2.1 q5.2.2.1 (by omega) (by omega), SV_f hT t (a + 1) a q2 (by omega) q1, SV_f hT t (b + 1) b q4 (by omega) q3]
theorem SVt_5 {NB TY t : Nat} {w : mm_P} {SA SB : ST} (hT : TW NB TY w) (hv : vd NB TY t) (h5 : w 177 t = 5) : ∃ a, vd NB TY a ∧ a < t ∧ w 178 t = nI a ∧ SVt w SA SB t = sLs (SVt w SA SB a) ∧ en5 w w t a := by
  have ht8 := TW_lt hT hv
  rcases hT.2.2 t hv with q | ⟨a, q1, q2, q3⟩ | ⟨a, b, q1, q2, q3, q4, q5⟩
  · exact absurd h5 (bs_45 q).2
  · refine ⟨a, q1, q2, q3.2.1, ?_, q3⟩
    unfold SVt
    rw [SV_s5 q3.1 q3.2.1 (by omega), SV_f hT t (a + 1) a q2 (by omega) q1]
  · have := q5.1
    rw [h5] at this
    exact absurd this (by decide)
theorem SVt_2 {t : Nat} {w : mm_P} {SA SB : ST} (h : w 177 t = 2) : SVt w SA SB t = SA := by
  unfold SVt
  rw [SV_s (by rw [h]; decide) (by rw [h]; decide), if_pos h]
theorem SVt_3 {t : Nat} {w : mm_P} {SA SB : ST} (h : w 177 t = 3) : SVt w SA SB t = SB := by
  unfold SVt
  rw [SV_s (by rw [h]; decide) (by rw [h]; decide), if_neg (by rw [h]; decide), if_pos h]
theorem SVt_01 {t : Nat} {w : mm_P} {SA SB : ST} (h : w 177 t = 0 ∨ w 177 t = 1) : SVt w SA SB t = sAny := by
  unfold SVt
  rcases h with h | h <;> rw [SV_s (by rw [h]; decide) (by rw [h]; decide), if_neg (by rw [h]; decide), if_neg (by rw [h]; decide)]
/-- the numbered types mean the same where their rows are the same -/
theorem SV_c {NB : Nat} {m w : mm_P} {SA SB : ST} (hT : TW NB 200 m) (hr : ∀ t, t < NB → ∀ c, 177 ≤ c → c ≤ 183 → w c t = m c t) : ∀ (k t : Nat), t < NB → SV w SA SB k t = SV m SA SB k t
  | 0, _, _ => rfl
  | k + 1, t, ht => by
    have hN := hT.1
    have e7 := hr t ht 177 (by decide) (by decide)
    have e8 := hr t ht 178 (by decide) (by decide)
    have e9 := hr t ht 179 (by decide) (by decide)
    rcases hT.2.2 t (.inl ht) with q | ⟨a, q1, q2, q3⟩ | ⟨a, b, q1, q2, q3, q4, q5⟩
    · obtain ⟨e4, e5⟩ := bs_45 q
      rw [SV_s e4 e5, SV_s (by rw [e7]; exact e4) (by rw [e7]; exact e5), e7]
    · rw [SV_s5 q3.1 q3.2.1 (by omega), SV_s5 (e7.trans q3.1) (e8.trans q3.2.1) (by omega), SV_c hT hr k a (by omega)]
    · rw [SV_s4 q5.1 q5.2.1 q5.2.2.1 (by omega) (by omega), SV_s4 (e7.trans q5.1) (e8.trans q5.2.1) (e9.trans q5.2.2.1) (by omega) (by omega), SV_c hT hr k a (by omega), SV_c hT hr k b (by omega)]
theorem SVt_c {NB t : Nat} {m w : mm_P} {SA SB : ST} (hT : TW NB 200 m) (hr : ∀ t, t < NB → ∀ c, 177 ≤ c → c ≤ 183 → w c t = m c t) (ht : t < NB) : SVt w SA SB t = SVt m SA SB t := SV_c hT hr _ t ht
theorem under_z {y : Int32} (h0 : 0 ≤ y.toInt) (h1 : y.toInt ≤ 5) (h : f_under y = 0) : y = 0 := by
  by_cases q : y = 0
  · exact q
  · exact absurd h (f_under_0 h0 h1 q)
theorem most_z {x y : Int32} (hx : 0 ≤ x.toInt) (hy : 0 ≤ y.toInt) (h : f_most x y = 0) : x = 0 ∧ y = 0 := by
  by_cases q : x = 0
  · by_cases q2 : y = 0
    · exact ⟨q, q2⟩
    · exact absurd h (f_most_0 hx hy (.inr q2))
  · exact absurd h (f_most_0 hx hy (.inl q))
/-- the parts of a type without letters have none -/
theorem cl_5 {NB a t : Nat} {m n : mm_P} (hD : DN NB m) (ha : a < NB) (h : en5 m n t a) (h1 : n 181 t = 0) (h2 : n 182 t = 0) : m 181 a = 0 ∧ m 182 a = 0 := by
  have d := hD a ha
  rw [h.2.2.2.2.1] at h1
  rw [h.2.2.2.2.2.1] at h2
  exact ⟨under_z d.2.1.1 d.2.1.2 h1, under_z d.2.2.1 d.2.2.2 h2⟩
theorem cl_4 {NB a b t : Nat} {m n : mm_P} (hD : DN NB m) (ha : a < NB) (hb : b < NB) (h : en4 m n t a b) (h1 : n 181 t = 0) (h2 : n 182 t = 0) : (m 181 a = 0 ∧ m 182 a = 0) ∧ m 181 b = 0 ∧ m 182 b = 0 := by
  have d := hD a ha
  have e := hD b hb
  rw [h.2.2.2.2.1] at h1
  rw [h.2.2.2.2.2.1] at h2
  have x1 := f_most_r (x := m 181 a) (y := m 181 b) (lo := 0) (hi := 5) d.2.1 e.2.1
  have x2 := f_most_r (x := m 182 a) (y := m 182 b) (lo := 0) (hi := 5) d.2.2 e.2.2
  obtain ⟨y1, y2⟩ := most_z d.2.1.1 e.2.1.1 (under_z x1.1.1 x1.1.2 h1)
  obtain ⟨y3, y4⟩ := most_z d.2.2.1 e.2.2.1 (under_z x2.1.1 x2.1.2 h2)
  exact ⟨⟨y1, y3⟩, y2, y4⟩
/-- kinds of types without letters -/
theorem bs_cl {m : mm_P} {t : Nat} (h : bs m t) (h1 : m 181 t = 0) (h2 : m 182 t = 0) : m 177 t = 0 ∨ m 177 t = 1 := by
  rcases h.1 with ⟨s1, -, -, -⟩ | ⟨s1, -, -, -⟩ | ⟨-, s2, -, -⟩ | ⟨-, -, s3, -⟩
  · exact .inl s1
  · exact .inr s1
  · rw [s2] at h1
    exact absurd h1 (by decide)
  · rw [s3] at h2
    exact absurd h2 (by decide)
theorem SV_cl {NB : Nat} {m : mm_P} {SA SB SA' SB' : ST} (hN : NB ≤ 200) (hT : ∀ t, t < NB → ∃ TY, 200 ≤ TY ∧ wT NB TY m t) (hD : DN NB m) : ∀ (k t : Nat), t < NB → m 181 t = 0 → m 182 t = 0 → SV m SA SB k t = SV m SA' SB' k t
  | 0, _, _, _, _ => rfl
  | k + 1, t, ht, h1, h2 => by
    obtain ⟨TY, hTY, hw⟩ := hT t ht
    rcases hw with q | ⟨a, q1, q2, q3⟩ | ⟨a, b, q1, q2, q3, q4, q5⟩
    · obtain ⟨e4, e5⟩ := bs_45 q
      rw [SV_s e4 e5, SV_s e4 e5]
      rcases bs_cl q h1 h2 with e | e <;> rw [if_neg (by rw [e]; decide), if_neg (by rw [e]; decide), if_neg (by rw [e]; decide), if_neg (by rw [e]; decide)]
    · obtain ⟨c1, c2⟩ := cl_5 hD (by omega) q3 h1 h2
      rw [SV_s5 q3.1 q3.2.1 (by omega), SV_s5 q3.1 q3.2.1 (by omega), SV_cl hN hT hD k a (by omega) c1 c2]
    · obtain ⟨⟨c1, c2⟩, c3, c4⟩ := cl_4 hD (by omega) (by omega) q5 h1 h2
      rw [SV_s4 q5.1 q5.2.1 q5.2.2.1 (by omega) (by omega), SV_s4 q5.1 q5.2.1 q5.2.2.1 (by omega) (by omega), SV_cl hN hT hD k a (by omega) c1 c2, SV_cl hN hT hD k b (by omega) c3 c4]
theorem sum_z {x y : Int32} (hx : 0 ≤ x.toInt ∧ x.toInt ≤ 5) (hy : 0 ≤ y.toInt ∧ y.toInt ≤ 5) (h : x + y = 0) : x = 0 ∧ y = 0 := by
  have e := congrArg Int32.toInt h
  rw [mm_addI (by omega) (by omega), mm_tt0] at e
  exact ⟨Int32.toInt_inj.mp (by rw [mm_tt0]; omega), Int32.toInt_inj.mp (by rw [mm_tt0]; omega)⟩
/-- what put() makes of a type means what the type means with the meanings of these for its letters -/
theorem SB_sem {NB TY : Nat} {n : mm_P} {fa fb : Int32} {SA SB' : ST} (hT : TW NB TY n) (h200 : 200 ≤ TY) (hD : DN NB n) : ∀ (k x r : Nat), x < NB → vd NB TY r → SB NB TY n fa fb k x r → SVt n SA SB' r = SVt n (SVt n SA SB' fa.toNatClampNeg) (SVt n SA SB' fb.toNatClampNeg) x := by
  have hleaf : ∀ (x r : Nat), x < NB → vd NB TY r → ((n 181 x + n 182 x = 0 ∧ r = x) ∨ (¬ n 181 x + n 182 x = 0 ∧ n 177 x = 2 ∧ nI r = fa) ∨ (¬ n 181 x + n 182 x = 0 ∧ n 177 x = 3 ∧ nI r = fb)) → SVt n SA SB' r = SVt n (SVt n SA SB' fa.toNatClampNeg) (SVt n SA SB' fb.toNatClampNeg) x := fun x r hx hr h => by
    have hr8 := TW_lt hT hr
    have d := hD x hx
    rcases h with ⟨q1, q2⟩ | ⟨-, q2, q3⟩ | ⟨-, q2, q3⟩
    · subst q2
      obtain ⟨e1, e2⟩ := sum_z d.2.1 d.2.2 q1
      exact SV_cl hT.1 (fun t ht => ⟨TY, h200, hT.2.2 t (.inl ht)⟩) hD _ r hx e1 e2
    · rw [SVt_2 q2, ← q3, nI_clamp (by omega)]
    · rw [SVt_3 q2, ← q3, nI_clamp (by omega)]
  intro k
  induction k with
  | zero => exact fun x r hx hr h => hleaf x r hx hr h
  | succ k ih =>
    intro x r hx hr h
    have hN := hT.1
    unfold SB at h
    rcases h with q | ⟨-, q2, a, r1, q3, q4, q5, q6, q7, q8⟩ | ⟨-, q2, a, b, r1, r2, q3, q4, q5, q6, q7, q8, q9, q10, q11, q12, q13⟩
    · exact hleaf x r hx hr q
    · obtain ⟨a', a1, a2, a3, a4, -⟩ := SVt_5 (SA := SVt n SA SB' fa.toNatClampNeg) (SB := SVt n SA SB' fb.toNatClampNeg) hT (.inl hx) q2
      have ea : a' = a := nI_ij (by omega) (by omega) (a3.symm.trans q4)
      subst ea
      obtain ⟨b', b1, b2, b3, b4, -⟩ := SVt_5 (SA := SA) (SB := SB') hT hr q6
      have l1 := TW_lt hT b1
      have l2 := TW_lt hT q5
      have eb : b' = r1 := nI_ij (by omega) (by omega) (b3.symm.trans q7)
      subst eb
      rw [a4, b4, ih a' b' (by omega) b1 q8]
    · obtain ⟨a', c', a1, a2, a3, a4, a5, a6, a7, -⟩ := SVt_4 (SA := SVt n SA SB' fa.toNatClampNeg) (SB := SVt n SA SB' fb.toNatClampNeg) hT (.inl hx) q2
      have ea : a' = a := nI_ij (by omega) (by omega) (a5.symm.trans q5)
      have ec : c' = b := nI_ij (by omega) (by omega) (a6.symm.trans q6)
      subst ea ec
      obtain ⟨b', e', b1, b2, b3, b4, b5, b6, b7, -⟩ := SVt_4 (SA := SA) (SB := SB') hT hr q9
      have l1 := TW_lt hT b1
      have l2 := TW_lt hT q7
      have l3 := TW_lt hT b2
      have l4 := TW_lt hT q8
      have eb : b' = r1 := nI_ij (by omega) (by omega) (b5.symm.trans q10)
      have ee : e' = r2 := nI_ij (by omega) (by omega) (b6.symm.trans q11)
      subst eb ee
      rw [a7, b7, ih a' b' (by omega) b1 q12, ih c' e' (by omega) b2 q13]
