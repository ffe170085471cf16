/-! ===== findReach() of the model ===== -/
/-- nodes that are in the body of f -/
def IB (ND : Nat) (m : mm_P) (f n : Nat) : Prop := ∀ P : Nat → Prop, (∀ b, b < ND → m 197 f = nI b → P b) → (∀ j, j < ND → P j → ∀ i : Int32, 0 ≤ i.toInt → i.toInt < (f_parts (m 188 j)).toInt → P (f_part m j i).toNatClampNeg) → P n
theorem IB_mb {ND f n : Nat} {w : mm_P} (h : MB ND w f) (hi : IB ND w f n) : ¬ w 199 n = 0 := hi (fun n => ¬ w 199 n = 0) h.1 (fun j hj h1 => h.2 j (Nat.zero_le _) hj h1)
theorem IB_c {ND f n : Nat} {m w : mm_P} (h : PR m w) (hi : IB ND m f n) : IB ND w f n := fun P h1 h2 => hi P (fun b b1 b2 => h1 b b1 ((h 197 f (pg_nod (by decide) (by decide))).trans b2)) (fun j j1 j2 i i0 i1 => by
  have := h2 j j1 j2 i i0 (by rw [h 188 j (pg_nod (by decide) (by decide))]; exact i1)
  rw [f_part_c (fun c i h1 h2 => h c i (pg_nod h1 h2))] at this
  exact this)
/-- f has a call of g -/
def DR (ND : Nat) (m : mm_P) (f g : Nat) : Prop := ∃ n, n < ND ∧ IB ND m f n ∧ m 188 n = 14 ∧ m 189 n = nI g
theorem DR_c {ND f g : Nat} {m w : mm_P} (h : PR m w) (hi : DR ND m f g) : DR ND w f g := by
  obtain ⟨n, h1, h2, h3, h4⟩ := hi
  exact ⟨n, h1, IB_c h h2, (h 188 n (pg_nod (by decide) (by decide))).trans h3, (h 189 n (pg_nod (by decide) (by decide))).trans h4⟩
theorem PR_s {m n : mm_P} (h : PR m n) : PR n m := fun c i q => (h c i q).symm
/-- the table holds every call -/
def RD (ND NF : Nat) (w : mm_P) (f : Nat) : Prop := ∀ a, a < f → a < NF → ¬ w 197 a = -1 → ∀ g, g < 12 → DR ND w a g → ¬ w 200 (12 * a + g) = 0
/-- it is closed over the numbers below k -/
def RT (w : mm_P) (k : Nat) : Prop := ∀ j, j < k → ∀ a c, a < 12 → c < 12 → ¬ w 200 (12 * a + j) = 0 → ¬ w 200 (12 * j + c) = 0 → ¬ w 200 (12 * a + c) = 0
def RZ (w0 w : mm_P) (k f g : Nat) : Prop := ∀ a c, a < 12 → c < 12 → (¬ w 200 (12 * a + c) = 0 ↔ (¬ w0 200 (12 * a + c) = 0 ∨ ((a < f ∨ (a = f ∧ c < g)) ∧ ¬ w0 200 (12 * a + k) = 0 ∧ ¬ w0 200 (12 * k + c) = 0)))
theorem RT_n {w0 w : mm_P} {k : Nat} (hk : k < 12) (h : RT w0 k) (hz : RZ w0 w k 12 0) : RT w (k + 1) := by
  intro j hj a c ha hc h1 h2
  have e := fun a c ha hc => hz a c ha hc
  have i1 := (e a j ha (by omega)).mp h1
  have i2 := (e j c (by omega) hc).mp h2
  refine (e a c ha hc).mpr ?_
  by_cases hjk : j = k
  · subst hjk
    have b1 : ¬ w0 200 (12 * a + j) = 0 := by
      rcases i1 with q | q
      · exact q
      · exact q.2.1
    have b2 : ¬ w0 200 (12 * j + c) = 0 := by
      rcases i2 with q | q
      · exact q
      · exact q.2.2
    exact .inr ⟨.inl ha, b1, b2⟩
  · have hj' : j < k := by omega
    rcases i1 with q | ⟨-, q1, q2⟩ <;> rcases i2 with r | ⟨-, r1, r2⟩
    · exact .inl (h j hj' a c ha hc q r)
    · exact .inr ⟨.inl ha, h j hj' a k ha hk q r1, r2⟩
    · exact .inr ⟨.inl ha, q1, h j hj' k c hk hc q2 r⟩
    · exact .inr ⟨.inl ha, q1, r2⟩
theorem rx {f g : Nat} (hf : f < 12) (hg : g < 12) : (12 : Int32) * nI f + nI g = nI (12 * f + g) := by
  have e1 : (nI f).toInt = f := mm_tI (by omega)
  have e2 : (nI g).toInt = g := mm_tI (by omega)
  have e3 : (12 * nI f).toInt = 12 * f := by
    rw [mm_imul] <;> rw [mm_tt12, e1] <;> omega
  refine Int32.toInt_inj.mp ?_
  rw [Int32.toInt_add, e3, e2, mm_tI (by omega), Int.bmod_eq_of_le] <;> omega
theorem nz_u2 {w : mm_P} {p b : Nat} (h : ¬ w 200 b = 0) : ¬ mm_u w 200 p 1 200 b = 0 := by
  by_cases hb : b = p
  · subst hb
    rw [mm_u_s]
    decide
  · rw [mm_u_f hb]
    exact h
/-- one place of the table as the round k makes it -/
theorem RZ_n {w0 w : mm_P} {k f g : Nat} {v : Int32} (hk : k < 12) (hf : f < 12) (hg : g < 12) (h : RZ w0 w k f g) (hv : ¬ v = 0 ↔ (¬ w 200 (12 * f + g) = 0 ∨ (¬ w 200 (12 * f + k) = 0 ∧ ¬ w 200 (12 * k + g) = 0))) : RZ w0 (mm_u w 200 (12 * f + g) v) k f (g + 1) := by
  intro a c ha hc
  by_cases hac : a = f ∧ c = g
  · obtain ⟨rfl, rfl⟩ := hac
    rw [mm_u_s, hv, h a c ha hc, h a k ha hk, h k c hk hc]
    constructor
    · rintro ((q | q) | ⟨q, r⟩)
      · exact .inl q
      · exact .inr ⟨.inr ⟨rfl, by omega⟩, q.2⟩
      · refine .inr ⟨.inr ⟨rfl, by omega⟩, ?_, ?_⟩
        · rcases q with q | q
          · exact q
          · exact q.2.1
        · rcases r with q | q
          · exact q
          · exact q.2.2
    · rintro (q | q)
      · exact .inl (.inl q)
      · exact .inr ⟨.inl q.2.1, .inl q.2.2⟩
  · rw [mm_u_f (by omega), h a c ha hc]
    constructor
    · rintro (q | q)
      · exact .inl q
      · exact .inr ⟨by omega, q.2⟩
    · rintro (q | q)
      · exact .inl q
      · exact .inr ⟨by omega, q.2⟩
section MMT
variable {L : Nat} {xs : Nat → Int32} {d : Nat} {Q : mm_QQ} {mi : mm_P} {ml : mm_G} {lim : Nat × Nat}
theorem reach_134 {k f : Nat} {w0 : mm_P} (hk : k < 12) (hf : f < 12) (hK : ∀ w x3, MF 200 w0 w → RZ w0 w k (f + 1) 0 → mm_WQ (mm_call mm_ms (mm_tb L xs) d) (mm_tb L xs) mm_m198 lim Q 126 [some (mm_R 176), some (mm_I (nI k)), some (mm_I (nI (f + 1))), some (mm_I x3)] [] w ml) : ∀ (j g : Nat) (w : mm_P), g + j = 12 → MF 200 w0 w → RZ w0 w k f g → mm_WQ (mm_call mm_ms (mm_tb L xs) d) (mm_tb L xs) mm_m198 lim Q 134 [some (mm_R 176), some (mm_I (nI k)), some (mm_I (nI f)), some (mm_I (nI g))] [] w ml := by
  have ek : (nI k).toNatClampNeg = k := nI_clamp (by omega)
  intro j
  induction j with
  | zero =>
    intro g w h hM hZ
    have hg : g = 12 := by omega
    subst hg
    have hle : (12 : Int32) ≤ nI 12 := by decide
    have hn' : ∀ {P : Prop}, ¬ (12 : Int32) ≤ nI 12 → P := fun z => absurd hle z
    refine bk_X12_findReach_134 (mm_call_m _) (fun _ => ?_) (fun z => hn' z) (fun z => hn' z) (fun z => hn' z) (fun z => hn' z) (fun z => hn' z) (fun z => hn' z) (fun z => hn' z) (fun z => hn' z) (fun z => hn' z) (fun z => hn' z) (fun z => hn' z)
    rw [show nI f + 1 = nI (f + 1) from (nI_succ f).symm]
    refine hK w _ hM (fun a c ha hc => ?_)
    rw [hZ a c ha hc]
    constructor
    · rintro (q | q)
      · exact .inl q
      · exact .inr ⟨by omega, q.2⟩
    · rintro (q | q)
      · exact .inl q
      · exact .inr ⟨by omega, q.2⟩
  | succ j ih =>
    intro g w h hM hZ
    have hg : g < 12 := by omega
    have hlt : ¬ (12 : Int32) ≤ nI g := by
      rw [Int32.le_iff_toInt_le, mm_tI (by omega), mm_tt12]
      omega
    have v1 : ∀ {a b : Nat}, a < 12 → b < 12 → vp_in ((12 : Int32) * nI a + nI b) 144 := fun ha hb => by
      rw [rx ha hb]
      exact vp_in_nI (by omega) (by decide)
    have e1 : ∀ {a b : Nat}, a < 12 → b < 12 → ((12 : Int32) * nI a + nI b).toNatClampNeg = 12 * a + b := fun ha hb => by
      rw [rx ha hb]
      exact nI_clamp (by omega)
    have es : nI g + 1 = nI (g + 1) := (nI_succ g).symm
    refine bk_X12_findReach_134 (mm_call_m _) (fun z => absurd z hlt) (fun _ => v1 hf hg) (fun _ _ => v1 hf hg) (fun _ z => ?_) (fun _ _ => v1 hf hk) (fun _ _ _ => v1 hf hg) (fun _ z z2 => ?_) (fun _ _ _ => v1 hk hg) (fun _ _ _ _ => v1 hf hg) (fun _ z z2 z3 => ?_) (fun _ _ _ _ => v1 hf hg) (fun _ z z2 z3 => ?_)
    · rw [e1 hf hg] at z ⊢
      rw [es, mm_nb1]
      exact ih (g + 1) _ (by omega) (MF_u hM) (RZ_n hk hf hg hZ ⟨fun _ => .inl z, fun _ => by decide⟩)
    · rw [e1 hf hg] at z ⊢
      rw [e1 hf hk] at z2
      rw [es, mm_nb0]
      exact ih (g + 1) _ (by omega) (MF_u hM) (RZ_n hk hf hg hZ ⟨fun q => absurd rfl q, fun q => by
        rcases q with q | q
        · exact absurd z q
        · exact absurd z2 q.1⟩)
    · rw [e1 hf hg] at z ⊢
      rw [e1 hk hg] at z3
      rw [es, mm_nb0]
      exact ih (g + 1) _ (by omega) (MF_u hM) (RZ_n hk hf hg hZ ⟨fun q => absurd rfl q, fun q => by
        rcases q with q | q
        · exact absurd z q
        · exact absurd z3 q.2⟩)
    · rw [e1 hf hg]
      rw [e1 hf hk] at z2
      rw [e1 hk hg] at z3
      rw [es, mm_nb1]
      exact ih (g + 1) _ (by omega) (MF_u hM) (RZ_n hk hf hg hZ ⟨fun _ => .inr ⟨z2, z3⟩, fun _ => by decide⟩)
theorem reach_126 {k : Nat} {w0 : mm_P} (hk : k < 12) (hK : ∀ w x2 x3, MF 200 w0 w → RZ w0 w k 12 0 → mm_WQ (mm_call mm_ms (mm_tb L xs) d) (mm_tb L xs) mm_m198 lim Q 118 [some (mm_R 176), some (mm_I (nI (k + 1))), x2, x3] [] w ml) : ∀ (j f : Nat) (w : mm_P) {x3 : Option mm_V}, f + j = 12 → MF 200 w0 w → RZ w0 w k f 0 → mm_WQ (mm_call mm_ms (mm_tb L xs) d) (mm_tb L xs) mm_m198 lim Q 126 [some (mm_R 176), some (mm_I (nI k)), some (mm_I (nI f)), x3] [] w ml := by
  intro j
  induction j with
  | zero =>
    intro f w x3 h hM hZ
    have hf : f = 12 := by omega
    subst hf
    refine bk_X12_findReach_126 (mm_call_m _) (fun _ => ?_) (fun z => absurd (by decide) z)
    rw [show nI k + 1 = nI (k + 1) from (nI_succ k).symm]
    exact hK w _ _ hM hZ
  | succ j ih =>
    intro f w x3 h hM hZ
    refine bk_X12_findReach_126 (mm_call_m _) (fun z => ?_) (fun _ => reach_134 hk (by omega) (fun w' x3' g1 g2 => ih (f + 1) w' (by omega) g1 g2) 12 0 w (by omega) hM hZ)
    rw [Int32.le_iff_toInt_le, mm_tI (by omega), mm_tt12] at z
    omega
theorem reach_118 {w0 : mm_P} (hQ : ∀ w, MF 200 w0 w → (∀ i, ¬ w0 200 i = 0 → i < 144 → ¬ w 200 i = 0) → RT w 12 → Q none w ml) : ∀ (j k : Nat) (w : mm_P) {x2 x3 : Option mm_V}, k + j = 12 → MF 200 w0 w → (∀ i, ¬ w0 200 i = 0 → i < 144 → ¬ w 200 i = 0) → RT w k → mm_WQ (mm_call mm_ms (mm_tb L xs) d) (mm_tb L xs) mm_m198 lim Q 118 [some (mm_R 176), some (mm_I (nI k)), x2, x3] [] w ml := by
  intro j
  induction j with
  | zero =>
    intro k w x2 x3 h hM hU hT
    have hk : k = 12 := by omega
    subst hk
    exact bk_X12_findReach_118 (mm_call_m _) (fun _ => hQ w hM hU hT) (fun z => absurd (by decide) z)
  | succ j ih =>
    intro k w x2 x3 h hM hU hT
    refine bk_X12_findReach_118 (mm_call_m _) (fun z => ?_) (fun _ => reach_126 (by omega) (fun w' y2 y3 g1 g2 => ih (k + 1) w' (by omega) (MF_t hM g1) (fun i i1 i2 => ?_) (RT_n (by omega) hT g2)) 12 0 w (by omega) MF_r (fun a c ha hc => ?_))
    · rw [Int32.le_iff_toInt_le, mm_tI (by omega), mm_tt12] at z
      omega
    · have e : i = 12 * (i / 12) + i % 12 := by omega
      have q := hU i i1 i2
      rw [e] at q ⊢
      exact (g2 (i / 12) (i % 12) (by omega) (by omega)).mpr (.inl q)
    · constructor
      · exact fun q => .inl q
      · rintro (q | q)
        · exact q
        · omega
/-- what findReach() may change -/
def M2 (m w : mm_P) : Prop := ∀ c i, ¬ c = 199 → ¬ c = 200 → w c i = m c i
theorem M2_mf9 {m n p : mm_P} (h1 : M2 m n) (h2 : MF 199 n p) : M2 m p := fun c i a b => (h2 c i a).trans (h1 c i a b)
theorem M2_mf0 {m n p : mm_P} (h1 : M2 m n) (h2 : MF 200 n p) : M2 m p := fun c i a b => (h2 c i b).trans (h1 c i a b)
theorem PR_m2 {m n : mm_P} (h : M2 m n) : PR m n := fun c i q => by
  have e : ∀ c, c = 199 ∨ c = 200 → pg c i = false := by
    rintro c (rfl | rfl) <;> rfl
  refine h c i (fun z => ?_) (fun z => ?_)
  · rw [e c (.inl z)] at q
    cases q
  · rw [e c (.inr z)] at q
    cases q
theorem RD_u {ND NF f g : Nat} {w : mm_P} {v : Int32} (h : RD ND NF w f) (hg : g < 12) : RD ND NF (mm_u w 200 (12 * f + g) v) f := fun a a1 a2 a3 b b1 b2 => by
  rw [mm_u_f (by omega)]
  exact h a a1 a2 (fun q => a3 ((mm_u_e (by decide)).trans q)) b b1 (DR_c (PR_s (PR_u PR_r rfl)) b2)
theorem RD_9 {ND NF f : Nat} {w w' : mm_P} (h : RD ND NF w f) (hM : MF 199 w w') : RD ND NF w' f := fun a a1 a2 a3 b b1 b2 => by
  rw [hM 200 _ (by decide)]
  exact h a a1 a2 (fun q => a3 ((hM 197 a (by decide)).trans q)) b b1 (DR_c (PR_s (PR_mf hM (by omega))) b2)
/-- row f, as far as node n -/
def RN (w : mm_P) (f n : Nat) : Prop := ∀ j, j < n → ¬ w 199 j = 0 → w 188 j = 14 → ∀ g, g < 12 → w 189 j = nI g → ¬ w 200 (12 * f + g) = 0
theorem reach_59 {f NB ND NF : Nat} {m : mm_P} (hI : IM m NB ND NF) (hf : f < 12) (hK : ∀ w x2, M2 m w → RD ND NF w f → MB ND w f → RN w f ND → mm_WQ (mm_call mm_ms (mm_tb L xs) d) (mm_tb L xs) mm_m198 lim Q 110 [some (mm_R 176), some (mm_I (nI f)), some (mm_I x2), none] [] w ml) : ∀ (j n : Nat) (w : mm_P), n + j = ND → M2 m w → RD ND NF w f → MB ND w f → RN w f n → mm_WQ (mm_call mm_ms (mm_tb L xs) d) (mm_tb L xs) mm_m198 lim Q 59 [some (mm_R 176), some (mm_I (nI f)), some (mm_I (nI n)), none] [] w ml := by
  have hND := hI.1.2.1
  intro j
  induction j with
  | zero =>
    intro n w h hM hR hB hN
    have hn : n = ND := by omega
    subst hn
    have hIw := IM_c hI (PR_m2 hM)
    have hle : w 176 13 ≤ nI n := by rw [hIw.2.1.2.1]; exact Int32.le_refl _
    exact bk_X12_findReach_59 (mm_call_m _) (fun _ => hK w _ hM hR hB hN) (fun z => absurd hle z) (fun z => absurd hle z) (fun z => absurd hle z) (fun z => absurd hle z) (fun z => absurd hle z) (fun z => absurd hle z) (fun z => absurd hle z)
  | succ j ih =>
    intro n w h hM hR hB hN
    have hIw := IM_c hI (PR_m2 hM)
    have hlt : ¬ w 176 13 ≤ nI n := by
      rw [hIw.2.1.2.1, Int32.le_iff_toInt_le, mm_tI (by omega), mm_tI (by omega)]
      omega
    have vn : vp_in (nI n) 200 := vp_in_nI (by omega) (by decide)
    have en : (nI n).toNatClampNeg = n := nI_clamp (by omega)
    have es : nI n + 1 = nI (n + 1) := (nI_succ n).symm
    have h104 : ∀ w', M2 m w' → RD ND NF w' f → MB ND w' f → RN w' f (n + 1) → mm_WQ (mm_call mm_ms (mm_tb L xs) d) (mm_tb L xs) mm_m198 lim Q 104 [some (mm_R 176), some (mm_I (nI f)), some (mm_I (nI n)), none] [] w' ml := fun w' a b c e => by
      refine bk_X12_findReach_104 (mm_call_m _) ?_
      rw [es]
      exact ih (n + 1) w' (by omega) a b c e
    have hcall : w 188 n = 14 → ∃ g, g < 12 ∧ w 189 n = nI g := fun z => by
      obtain ⟨c1, c2, c3, c4, c5⟩ := hIw.2.2.2.2.1 n (by omega)
      obtain ⟨g, g1, g2, g3, g4⟩ := mm_of (c5 z).1.1 (c5 z).1.2
      exact ⟨g, by omega, g1⟩
    refine bk_X12_findReach_59 (mm_call_m _) (fun z => absurd z hlt) (fun _ => vn) (fun _ z => ?_) (fun _ _ => vn) (fun _ _ z => ?_) (fun _ _ _ => vn) (fun _ _ z => ?_) (fun _ _ z => ?_)
    · rw [en] at z
      refine h104 w hM hR hB (fun k k1 k2 k3 => ?_)
      by_cases hk : k = n
      · subst hk
        exact absurd z k2
      · exact hN k (by omega) k2 k3
    · rw [en] at z
      refine h104 w hM hR hB (fun k k1 k2 k3 => ?_)
      by_cases hk : k = n
      · subst hk
        exact absurd k3 z
      · exact hN k (by omega) k2 k3
    · rw [en] at z ⊢
      obtain ⟨g, g1, g2⟩ := hcall z
      rw [g2, rx hf g1]
      exact vp_in_nI (by omega) (by decide)
    · rw [en] at z ⊢
      obtain ⟨g, g1, g2⟩ := hcall z
      rw [g2, rx hf g1, nI_clamp (by omega), mm_nb1]
      refine h104 _ (M2_mf0 hM (MF_u MF_r)) (RD_u hR g1) ⟨fun b b1 b2 => ?_, fun k k1 k2 k3 i i0 i1 => ?_⟩ (fun k k1 k2 k3 y y1 y2 => ?_)
      · rw [mm_u_e (by decide)] at b2 ⊢
        exact hB.1 b b1 b2
      · rw [mm_u_e (by decide)] at k3 i1 ⊢
        rw [f_part_c (m := w) (fun c i h1 h2 => mm_u_e (by omega))]
        exact hB.2 k k1 k2 k3 i i0 i1
      · rw [mm_u_e (by decide)] at k2 k3 y2
        by_cases hk : k = n
        · subst hk
          have : g = y := by
            have e := g2.symm.trans y2
            have := congrArg Int32.toInt e
            rw [mm_tI (by omega), mm_tI (by omega)] at this
            omega
          subst this
          rw [mm_u_s]
          decide
        · exact nz_u2 (hN k (by omega) k2 k3 y y1 y2)
theorem reach_10 {f ND NF : Nat} {m : mm_P} (hf : f < 12) (hK : ∀ w x2, M2 m w → RD ND NF w f → mm_cq (mm_call mm_ms (mm_tb L xs) d) 184 [mm_R 176, mm_I (nI f)] w ml (fun o n1 n2 => mm_WQ (mm_call mm_ms (mm_tb L xs) d) (mm_tb L xs) mm_m198 lim Q 39 [some (mm_R 176), some (mm_I (nI f)), some (mm_I x2), none] (o.toList ++ []) n1 n2)) : ∀ (j g : Nat) (w : mm_P), g + j = 12 → M2 m w → RD ND NF w f → mm_WQ (mm_call mm_ms (mm_tb L xs) d) (mm_tb L xs) mm_m198 lim Q 10 [some (mm_R 176), some (mm_I (nI f)), some (mm_I (nI g)), none] [] w ml := by
  intro j
  induction j with
  | zero =>
    intro g w h hM hR
    have hg : g = 12 := by omega
    subst hg
    exact bk_X12_findReach_10 (mm_call_m _) (fun _ => hK w _ hM hR) (fun z => absurd (by decide) z) (fun z => absurd (by decide) z)
  | succ j ih =>
    intro g w h hM hR
    have hg : g < 12 := by omega
    have hlt : ¬ (12 : Int32) ≤ nI g := by
      rw [Int32.le_iff_toInt_le, mm_tI (by omega), mm_tt12]
      omega
    refine bk_X12_findReach_10 (mm_call_m _) (fun z => absurd z hlt) (fun _ => ?_) (fun _ => ?_) <;> rw [rx hf hg]
    · exact vp_in_nI (by omega) (by decide)
    · rw [nI_clamp (by omega), show nI g + 1 = nI (g + 1) from (nI_succ g).symm]
      exact ih (g + 1) _ (by omega) (M2_mf0 hM (MF_u MF_r)) (RD_u hR hg)
/-- what findReach() tells -/
def RC (ND NF : Nat) (w : mm_P) : Prop := RD ND NF w 12 ∧ RT w 12
theorem reach_2 {NB ND NF : Nat} {m : mm_P} (hI : IM m NB ND NF) (hQ : ∀ w, M2 m w → RC ND NF w → Q none w ml) : ∀ (j f : Nat) (w : mm_P) {x2 : Option mm_V}, f + j = 12 → M2 m w → RD ND NF w f → mm_WQ (mm_call mm_ms (mm_tb L xs) (d + 2)) (mm_tb L xs) mm_m198 lim Q 2 [some (mm_R 176), some (mm_I (nI f)), x2, none] [] w ml := by
  intro j
  induction j with
  | zero =>
    intro f w x2 h hM hR
    have hf : f = 12 := by omega
    subst hf
    refine bk_X12_findReach_2 (mm_call_m _) (fun _ => reach_118 (w0 := w) (fun w' g1 g2 g3 => hQ w' (M2_mf0 hM g1) ⟨fun a a1 a2 a3 b b1 b2 => g2 _ (hR a a1 a2 (fun q => a3 ((g1 197 a (by decide)).trans q)) b b1 (DR_c (PR_s (PR_mf g1 (by omega))) b2)) (by omega), g3⟩) 12 0 w (by omega) MF_r (fun i q _ => q) (fun j hj => absurd hj (Nat.not_lt_zero _))) (fun z => absurd (by decide) z)
  | succ j ih =>
    intro f w x2 h hM hR
    have hf : f < 12 := by omega
    refine bk_X12_findReach_2 (mm_call_m _) (fun z => ?_) (fun _ => reach_10 hf (fun w' x2' hM' hR' => ?_) 12 0 w (by omega) hM hR)
    · rw [Int32.le_iff_toInt_le, mm_tI (by omega), mm_tt12] at z
      omega
    · have hIw := IM_c hI (PR_m2 hM')
      have hNF := hI.1.2.2
      have ef : (nI f).toNatClampNeg = f := nI_clamp (by omega)
      have h110 : ∀ w' x2', M2 m w' → RD ND NF w' (f + 1) → mm_WQ (mm_call mm_ms (mm_tb L xs) (d + 2)) (mm_tb L xs) mm_m198 lim Q 110 [some (mm_R 176), some (mm_I (nI f)), some (mm_I x2'), none] [] w' ml := fun w' x2' a b => by
        refine bk_X12_findReach_110 (mm_call_m _) ?_
        rw [show nI f + 1 = nI (f + 1) from (nI_succ f).symm]
        exact ih (f + 1) w' (by omega) a b
      have hskip : (f < NF → w' 197 f = -1) → RD ND NF w' (f + 1) := fun hz a a1 a2 a3 => by
        by_cases ha : a = f
        · subst ha
          exact absurd (hz a2) a3
        · exact hR' a (by omega) a2 a3
      have e20 : (w' 176 20).toInt = NF := by rw [hIw.2.1.2.2]; exact mm_tI (by omega)
      have efi : (nI f).toInt = f := mm_tI (by omega)
      refine sp_X12_isFunction (by omega) (fun _ z => ?_) (fun z => bk_X12_findReach_39 (s0 := 0) (mm_call_m _) (fun _ => h110 w' _ hM' (hskip (fun q => absurd ⟨by omega, by omega⟩ z))) (fun q => absurd rfl q) (fun q => absurd rfl q) (fun q => absurd rfl q))
      have hfN : f < NF := by omega
      refine bk_X12_findReach_39 (s0 := 1) (mm_call_m _) (fun q => absurd q (by decide)) (fun _ => vp_in_nI hf (by decide)) (fun _ q => ?_) (fun _ q => ?_)
      · rw [ef] at q
        exact h110 w' _ hM' (hskip (fun _ => q))
      · rw [ef] at q
        refine sp_mark hIw hfN (fun w2 g1 g2 => bk_X12_findReach_57 (mm_call_m _) (reach_59 hI hf (fun w3 x3 k1 k2 k3 k4 => h110 w3 _ k1 (fun a a1 a2 a3 b b1 b2 => ?_)) ND 0 w2 (by omega) (M2_mf9 hM' g1) (RD_9 hR' g1) g2 (fun j hj => absurd hj (Nat.not_lt_zero _))))
        by_cases ha : a = f
        · subst ha
          obtain ⟨n, n1, n2, n3, n4⟩ := b2
          exact k4 n n1 (IB_mb k3 n2) n3 b b1 n4
        · exact k2 a (by omega) a2 a3 b b1 b2
theorem sp_findReach {NB ND NF : Nat} (hI : IM mi NB ND NF) (hQ : ∀ w, M2 mi w → RC ND NF w → Q none w ml) : mm_cq (mm_call mm_ms (mm_tb L xs) (d + 3)) 198 [mm_R 176] mi ml Q := by
  exact en_X12_findReach (bk_X12_findReach_0 (mm_call_m _) (reach_2 hI hQ 12 0 mi (by omega) (fun _ _ _ _ => rfl) (fun a ha => absurd ha (Nat.not_lt_zero _))))
end MMT
