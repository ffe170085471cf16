/-! ===== findReach() of the model: nothing but what is reached ===== -/
def SD (E : Nat → Nat → Prop) (w : mm_P) : Prop := ∀ a c, a < 12 → c < 12 → ¬ w 200 (12 * a + c) = 0 → E a c
def SF (E : Nat → Nat → Prop) (f g : Nat) (w : mm_P) : Prop := ∀ a c, a < 12 → c < 12 → (a < f ∨ (a = f ∧ c < g)) → ¬ w 200 (12 * a + c) = 0 → E a c
section MMT
variable {L : Nat} {xs : Nat → Int32} {d : Nat} {Q : mm_QQ} {mi : mm_P} {ml : mm_G} {lim : Nat × Nat} {E : Nat → Nat → Prop}
theorem SD_u1 {w : mm_P} {f g : Nat} {v : Int32} (hf : f < 12) (hg : g < 12) (h : SD E w) (he : E f g) : SD E (mm_u w 200 (12 * f + g) v) := fun a c ha hc hz => by
  by_cases hi : 12 * a + c = 12 * f + g
  · have e1 : a = f := by omega
    have e2 : c = g := by omega
    rw [e1, e2]
    exact he
  · rw [mm_u_f hi] at hz
    exact h a c ha hc hz
theorem SD_u0 {w : mm_P} {i : Nat} (h : SD E w) : SD E (mm_u w 200 i 0) := fun a c ha hc hz => by
  by_cases hi : 12 * a + c = i
  · rw [hi, mm_u_s] at hz
    exact absurd rfl hz
  · rw [mm_u_f hi] at hz
    exact h a c ha hc hz
theorem SF_u1 {w : mm_P} {f n g : Nat} {v : Int32} (hf : f < 12) (hg : g < 12) (h : SF E f n w) (he : E f g) : SF E f n (mm_u w 200 (12 * f + g) v) := fun a c ha hc hq hz => by
  by_cases hi : 12 * a + c = 12 * f + g
  · have e1 : a = f := by omega
    have e2 : c = g := by omega
    rw [e1, e2]
    exact he
  · rw [mm_u_f hi] at hz
    exact h a c ha hc hq hz
theorem SF_u0 {w : mm_P} {f g : Nat} (h : SF E f g w) : SF E f (g + 1) (mm_u w 200 (12 * f + g) 0) := fun a c ha hc hq hz => by
  by_cases hi : 12 * a + c = 12 * f + g
  · rw [hi, mm_u_s] at hz
    exact absurd rfl hz
  · rw [mm_u_f hi] at hz
    exact h a c ha hc (by omega) hz
theorem SF_c {w w' : mm_P} {f g : Nat} (h : SF E f g w) (hc : ∀ i, w' 200 i = w 200 i) : SF E f g w' := fun a c ha hc' hq hz => by
  rw [hc] at hz
  exact h a c ha hc' hq hz
theorem rs_134 {k f : Nat} {w0 : mm_P} (hT : ∀ a b c, a < 12 → b < 12 → c < 12 → E a b → E b c → E a c) (hk : k < 12) (hf : f < 12) (hK : ∀ w x3, MF 200 w0 w → SD E w → mm_WQ (mm_call mm_ms (mm_tb L xs) d) (mm_tb L xs) mm_m198 lim Q 126 [some (mm_R 176), some (mm_I (nI k)), some (mm_I (nI (f + 1))), some (mm_I x3)] [] w ml) : ∀ (j g : Nat) (w : mm_P), g + j = 12 → MF 200 w0 w → SD E w → mm_WQ (mm_call mm_ms (mm_tb L xs) d) (mm_tb L xs) mm_m198 lim Q 134 [some (mm_R 176), some (mm_I (nI k)), some (mm_I (nI f)), some (mm_I (nI g))] [] w ml := by
  intro j
  induction j with
  | zero =>
    intro g w h hM hZ
    have hg : g = 12 := by omega
    subst hg
    have hle : (12 : Int32) ≤ nI 12 := by decide
    have hn' : ∀ {P : Prop}, ¬ (12 : Int32) ≤ nI 12 → P := fun z => absurd hle z
    refine bk_X12_findReach_134 (mm_call_m _) (fun _ => ?_) (fun z => hn' z) (fun z => hn' z) (fun z => hn' z) (fun z => hn' z) (fun z => hn' z) (fun z => hn' z) (fun z => hn' z) (fun z => hn' z) (fun z => hn' z) (fun z => hn' z) (fun z => hn' z)
    rw [show nI f + 1 = nI (f + 1) from (nI_succ f).symm]
    exact hK w _ hM hZ
  | succ j ih =>
    intro g w h hM hZ
    have hg : g < 12 := by omega
    have hlt : ¬ (12 : Int32) ≤ nI g := by
      rw [Int32.le_iff_toInt_le, mm_tI (by omega), mm_tt12]
      omega
    have v1 : ∀ {a b : Nat}, a < 12 → b < 12 → vp_in ((12 : Int32) * nI a + nI b) 144 := fun ha hb => by
      rw [rx ha hb]
      exact vp_in_nI (by omega) (by decide)
    have e1 : ∀ {a b : Nat}, a < 12 → b < 12 → ((12 : Int32) * nI a + nI b).toNatClampNeg = 12 * a + b := fun ha hb => by
      rw [rx ha hb]
      exact nI_clamp (by omega)
    have es : nI g + 1 = nI (g + 1) := (nI_succ g).symm
    refine bk_X12_findReach_134 (mm_call_m _) (fun z => absurd z hlt) (fun _ => v1 hf hg) (fun _ _ => v1 hf hg) (fun _ z => ?_) (fun _ _ => v1 hf hk) (fun _ _ _ => v1 hf hg) (fun _ z z2 => ?_) (fun _ _ _ => v1 hk hg) (fun _ _ _ _ => v1 hf hg) (fun _ z z2 z3 => ?_) (fun _ _ _ _ => v1 hf hg) (fun _ z z2 z3 => ?_)
    · rw [e1 hf hg] at z ⊢
      rw [es, mm_nb1]
      exact ih (g + 1) _ (by omega) (MF_u hM) (SD_u1 hf hg hZ (hZ f g hf hg z))
    · rw [e1 hf hg, es, mm_nb0]
      exact ih (g + 1) _ (by omega) (MF_u hM) (SD_u0 hZ)
    · rw [e1 hf hg, es, mm_nb0]
      exact ih (g + 1) _ (by omega) (MF_u hM) (SD_u0 hZ)
    · rw [e1 hf hk] at z2
      rw [e1 hk hg] at z3
      rw [e1 hf hg, es, mm_nb1]
      exact ih (g + 1) _ (by omega) (MF_u hM) (SD_u1 hf hg hZ (hT f k g hf hk hg (hZ f k hf hk z2) (hZ k g hk hg z3)))
theorem rs_126 {k : Nat} {w0 : mm_P} (hT : ∀ a b c, a < 12 → b < 12 → c < 12 → E a b → E b c → E a c) (hk : k < 12) (hK : ∀ w x2 x3, MF 200 w0 w → SD E w → mm_WQ (mm_call mm_ms (mm_tb L xs) d) (mm_tb L xs) mm_m198 lim Q 118 [some (mm_R 176), some (mm_I (nI (k + 1))), x2, x3] [] w ml) : ∀ (j f : Nat) (w : mm_P) {x3 : Option mm_V}, f + j = 12 → MF 200 w0 w → SD E w → mm_WQ (mm_call mm_ms (mm_tb L xs) d) (mm_tb L xs) mm_m198 lim Q 126 [some (mm_R 176), some (mm_I (nI k)), some (mm_I (nI f)), x3] [] w ml := by
  intro j
  induction j with
  | zero =>
    intro f w x3 h hM hZ
    have hf : f = 12 := by omega
    subst hf
    refine bk_X12_findReach_126 (mm_call_m _) (fun _ => ?_) (fun z => absurd (by decide) z)
    rw [show nI k + 1 = nI (k + 1) from (nI_succ k).symm]
    exact hK w _ _ hM hZ
  | succ j ih =>
    intro f w x3 h hM hZ
    refine bk_X12_findReach_126 (mm_call_m _) (fun z => ?_) (fun _ => rs_134 hT hk (by omega) (fun w' x3' g1 g2 => ih (f + 1) w' (by omega) g1 g2) 12 0 w (by omega) hM hZ)
    rw [Int32.le_iff_toInt_le, mm_tI (by omega), mm_tt12] at z
    omega
theorem rs_118 {w0 : mm_P} (hT : ∀ a b c, a < 12 → b < 12 → c < 12 → E a b → E b c → E a c) (hQ : ∀ w, MF 200 w0 w → SD E w → Q none w ml) : ∀ (j k : Nat) (w : mm_P) {x2 x3 : Option mm_V}, k + j = 12 → MF 200 w0 w → SD E w → mm_WQ (mm_call mm_ms (mm_tb L xs) d) (mm_tb L xs) mm_m198 lim Q 118 [some (mm_R 176), some (mm_I (nI k)), x2, x3] [] w ml := by
  intro j
  induction j with
  | zero =>
    intro k w x2 x3 h hM hZ
    have hk : k = 12 := by omega
    subst hk
    exact bk_X12_findReach_118 (mm_call_m _) (fun _ => hQ w hM hZ) (fun z => absurd (by decide) z)
  | succ j ih =>
    intro k w x2 x3 h hM hZ
    refine bk_X12_findReach_118 (mm_call_m _) (fun z => ?_) (fun _ => rs_126 hT (by omega) (fun w' y2 y3 g1 g2 => ih (k + 1) w' (by omega) g1 g2) 12 0 w (by omega) hM hZ)
    rw [Int32.le_iff_toInt_le, mm_tI (by omega), mm_tt12] at z
    omega
theorem rs_59 {f NB ND NF : Nat} {m : mm_P} {S : Nat → Prop} (hI : IM m NB ND NF) (hf : f < 12) (hE : ∀ n, n < ND → S n → m 188 n = 14 → ∀ g, g < 12 → m 189 n = nI g → E f g) (hK : ∀ w x2, M2 m w → SF E f 12 w → mm_WQ (mm_call mm_ms (mm_tb L xs) d) (mm_tb L xs) mm_m198 lim Q 110 [some (mm_R 176), some (mm_I (nI f)), some (mm_I x2), none] [] w ml) : ∀ (j n : Nat) (w : mm_P), n + j = ND → M2 m w → SF E f 12 w → SI S ND w → mm_WQ (mm_call mm_ms (mm_tb L xs) d) (mm_tb L xs) mm_m198 lim Q 59 [some (mm_R 176), some (mm_I (nI f)), some (mm_I (nI n)), none] [] w ml := by
  have hND := hI.1.2.1
  intro j
  induction j with
  | zero =>
    intro n w h hM hR hS
    have hn : n = ND := by omega
    subst hn
    have hIw := IM_c hI (PR_m2 hM)
    have hle : w 176 13 ≤ nI n := by rw [hIw.2.1.2.1]; exact Int32.le_refl _
    exact bk_X12_findReach_59 (mm_call_m _) (fun _ => hK w _ hM hR) (fun z => absurd hle z) (fun z => absurd hle z) (fun z => absurd hle z) (fun z => absurd hle z) (fun z => absurd hle z) (fun z => absurd hle z) (fun z => absurd hle z)
  | succ j ih =>
    intro n w h hM hR hS
    have hIw := IM_c hI (PR_m2 hM)
    have hlt : ¬ w 176 13 ≤ nI n := by
      rw [hIw.2.1.2.1, Int32.le_iff_toInt_le, mm_tI (by omega), mm_tI (by omega)]
      omega
    have vn : vp_in (nI n) 200 := vp_in_nI (by omega) (by decide)
    have en : (nI n).toNatClampNeg = n := nI_clamp (by omega)
    have es : nI n + 1 = nI (n + 1) := (nI_succ n).symm
    have h104 : ∀ w', M2 m w' → SF E f 12 w' → SI S ND w' → mm_WQ (mm_call mm_ms (mm_tb L xs) d) (mm_tb L xs) mm_m198 lim Q 104 [some (mm_R 176), some (mm_I (nI f)), some (mm_I (nI n)), none] [] w' ml := fun w' a b c => by
      refine bk_X12_findReach_104 (mm_call_m _) ?_
      rw [es]
      exact ih (n + 1) w' (by omega) a b c
    have hcall : w 188 n = 14 → ∃ g, g < 12 ∧ w 189 n = nI g := fun z => by
      obtain ⟨c1, c2, c3, c4, c5⟩ := hIw.2.2.2.2.1 n (by omega)
      obtain ⟨g, g1, g2, g3, g4⟩ := mm_of (c5 z).1.1 (c5 z).1.2
      exact ⟨g, by omega, g1⟩
    refine bk_X12_findReach_59 (mm_call_m _) (fun z => absurd z hlt) (fun _ => vn) (fun _ _ => h104 w hM hR hS) (fun _ _ => vn) (fun _ _ _ => h104 w hM hR hS) (fun _ _ _ => vn) (fun _ _ z => ?_) (fun _ y z => ?_)
    · rw [en] at z ⊢
      obtain ⟨g, g1, g2⟩ := hcall z
      rw [g2, rx hf g1]
      exact vp_in_nI (by omega) (by decide)
    · rw [en] at y z ⊢
      obtain ⟨g, g1, g2⟩ := hcall z
      rw [g2, rx hf g1, nI_clamp (by omega), mm_nb1]
      refine h104 _ (M2_mf0 hM (MF_u MF_r)) (SF_u1 hf g1 hR (hE n (by omega) (hS n (by omega) y) ((hM 188 n (by decide) (by decide)).symm.trans z) g g1 ((hM 189 n (by decide) (by decide)).symm.trans g2))) (fun p hp hz => hS p hp (fun q => hz ((mm_u_e (by decide)).trans q)))
theorem rs_10 {f : Nat} {m : mm_P} (hf : f < 12) (hK : ∀ w x2, M2 m w → SF E f 12 w → mm_cq (mm_call mm_ms (mm_tb L xs) d) 184 [mm_R 176, mm_I (nI f)] w ml (fun o n1 n2 => mm_WQ (mm_call mm_ms (mm_tb L xs) d) (mm_tb L xs) mm_m198 lim Q 39 [some (mm_R 176), some (mm_I (nI f)), some (mm_I x2), none] (o.toList ++ []) n1 n2)) : ∀ (j g : Nat) (w : mm_P), g + j = 12 → M2 m w → SF E f g w → mm_WQ (mm_call mm_ms (mm_tb L xs) d) (mm_tb L xs) mm_m198 lim Q 10 [some (mm_R 176), some (mm_I (nI f)), some (mm_I (nI g)), none] [] w ml := by
  intro j
  induction j with
  | zero =>
    intro g w h hM hR
    have hg : g = 12 := by omega
    subst hg
    exact bk_X12_findReach_10 (mm_call_m _) (fun _ => hK w _ hM hR) (fun z => absurd (by decide) z) (fun z => absurd (by decide) z)
  | succ j ih =>
    intro g w h hM hR
    have hg : g < 12 := by omega
    have hlt : ¬ (12 : Int32) ≤ nI g := by
      rw [Int32.le_iff_toInt_le, mm_tI (by omega), mm_tt12]
      omega
    refine bk_X12_findReach_10 (mm_call_m _) (fun z => absurd z hlt) (fun _ => ?_) (fun _ => ?_) <;> rw [rx hf hg]
    · exact vp_in_nI (by omega) (by decide)
    · rw [nI_clamp (by omega), show nI g + 1 = nI (g + 1) from (nI_succ g).symm, mm_nb0]
      exact ih (g + 1) _ (by omega) (M2_mf0 hM (MF_u MF_r)) (SF_u0 hR)
theorem rs_2 {NB ND NF : Nat} {m : mm_P} (hI : IM m NB ND NF) (hN : NC ND m) (hT : ∀ a b c, a < 12 → b < 12 → c < 12 → E a b → E b c → E a c) (hE : ∀ f b n g, f < NF → b < ND → m 197 f = nI b → n < ND → BL m b n → m 188 n = 14 → g < 12 → m 189 n = nI g → E f g) (hQ : ∀ w, M2 m w → SD E w → Q none w ml) : ∀ (j f : Nat) (w : mm_P) {x2 : Option mm_V}, f + j = 12 → M2 m w → SF E f 0 w → mm_WQ (mm_call mm_ms (mm_tb L xs) (d + 2)) (mm_tb L xs) mm_m198 lim Q 2 [some (mm_R 176), some (mm_I (nI f)), x2, none] [] w ml := by
  have hND := hI.1.2.1
  have hNF := hI.1.2.2
  intro j
  induction j with
  | zero =>
    intro f w x2 h hM hR
    have hf : f = 12 := by omega
    subst hf
    exact bk_X12_findReach_2 (mm_call_m _) (fun _ => rs_118 hT (w0 := w) (fun w' g1 g2 => hQ w' (M2_mf0 hM g1) g2) 12 0 w (by omega) MF_r (fun a c ha hc hz => hR a c ha hc (.inl ha) hz)) (fun z => absurd (by decide) z)
  | succ j ih =>
    intro f w x2 h hM hR
    have hf : f < 12 := by omega
    refine bk_X12_findReach_2 (mm_call_m _) (fun z => ?_) (fun _ => rs_10 hf (fun w' x2' hM' hR' => ?_) 12 0 w (by omega) hM hR)
    · rw [Int32.le_iff_toInt_le, mm_tI (by omega), mm_tt12] at z
      omega
    · have hIw := IM_c hI (PR_m2 hM')
      have ef : (nI f).toNatClampNeg = f := nI_clamp (by omega)
      have h110 : ∀ w' x2', M2 m w' → SF E f 12 w' → mm_WQ (mm_call mm_ms (mm_tb L xs) (d + 2)) (mm_tb L xs) mm_m198 lim Q 110 [some (mm_R 176), some (mm_I (nI f)), some (mm_I x2'), none] [] w' ml := fun w' x2' a b => by
        refine bk_X12_findReach_110 (mm_call_m _) ?_
        rw [show nI f + 1 = nI (f + 1) from (nI_succ f).symm]
        exact ih (f + 1) w' (by omega) a (fun a c ha hc hq hz => b a c ha hc (by omega) hz)
      refine sp_fun hIw (fun f' f1 f2 => ?_) (fun _ => bk_X12_findReach_39 (s0 := 0) (mm_call_m _) (fun _ => h110 w' _ hM' hR') (fun q => absurd rfl q) (fun q => absurd rfl q) (fun q => absurd rfl q))
      have hff : f = f' := nI_inj (by omega) (by omega) f2
      subst hff
      refine bk_X12_findReach_39 (s0 := 1) (mm_call_m _) (fun q => absurd q (by decide)) (fun _ => vp_in_nI hf (by decide)) (fun _ _ => h110 w' _ hM' hR') (fun _ q => ?_)
      rw [ef] at q
      have h8 : ∀ c i, 188 ≤ c → c ≤ 197 → w' c i = m c i := fun c i a b => hM' c i (by omega) (by omega)
      obtain ⟨b, b1, b2⟩ := (hI.2.2.2.2.2.1 f f1).2.2.2.resolve_left (fun y => q ((h8 197 f (by decide) (by decide)).trans y))
      refine sx_mark hIw f1 (S := fun p => BL m b p) (fun q q1 q2 i i0 i1 => BL_cl hI hN h8 q q1 q2 i i0 i1) (fun b' b1' b2' => ?_) (fun w2 g1 gS _ => bk_X12_findReach_57 (mm_call_m _) (rs_59 hI hf (fun n n1 n2 n3 g g1 g2 => hE f b n g f1 b1 b2 n1 n2 n3 g1 g2) h110 ND 0 w2 (by omega) (M2_mf9 hM' g1) (SF_c hR' (fun i => g1 200 i (by decide))) gS))
      have : b = b' := nI_inj (by omega) (by omega) (b2.symm.trans ((h8 197 f (by decide) (by decide)).symm.trans b2'))
      rw [← this]
      exact BL_r
theorem rs_findReach {NB ND NF : Nat} (hI : IM mi NB ND NF) (hN : NC ND mi) (hT : ∀ a b c, a < 12 → b < 12 → c < 12 → E a b → E b c → E a c) (hE : ∀ f b n g, f < NF → b < ND → mi 197 f = nI b → n < ND → BL mi b n → mi 188 n = 14 → g < 12 → mi 189 n = nI g → E f g) (hQ : ∀ w, M2 mi w → SD E w → Q none w ml) : mm_cq (mm_call mm_ms (mm_tb L xs) (d + 3)) 198 [mm_R 176] mi ml Q :=
  en_X12_findReach (bk_X12_findReach_0 (mm_call_m _) (rs_2 hI hN hT hE hQ 12 0 mi (by omega) (fun _ _ _ _ => rfl) (fun a c _ _ hq => by omega)))
end MMT
/-! ===== who calls whom ===== -/
def CAL (m : mm_P) (b g : Nat) : Prop := ∃ n, BL m b n ∧ m 4 n = 14 ∧ m 6 (4 * n) = nI g
/-- a call of g lies in the body of f -/
def DE (m : mm_P) (f g : Nat) : Prop := ∃ b, b < 200 ∧ (f : Int) < (m 9 7).toInt ∧ m 15 f = nI b ∧ CAL m b g
section MDE
variable {NB ND NF : Nat} {m w : mm_P} {ml : mm_G} {f g b n p : Nat}
theorem IB_BL (hI : IM m NB ND NF) (hN : NC ND m) (h : IB ND m f n) : ∃ b, b < ND ∧ m 197 f = nI b ∧ BL m b n :=
  h (fun n => ∃ b, b < ND ∧ m 197 f = nI b ∧ BL m b n) (fun b b1 b2 => ⟨b, b1, b2, BL_r⟩) (fun j hj ⟨b, b1, b2, b3⟩ i i0 i1 => ⟨b, b1, b2, BL_cl hI hN (fun _ _ _ _ => rfl) j hj b3 i i0 i1⟩)
theorem blw_P (hI : IM m NB ND NF) (hN : NC ND m) {P : Nat → Prop} (hP : ∀ j, j < ND → P j → ∀ i : Int32, 0 ≤ i.toInt → i.toInt < (f_parts (m 188 j)).toInt → P (f_part m j i).toNatClampNeg) : ∀ (k n : Nat), n < ND → P n → blw m k n p → P p := by
  intro k
  induction k with
  | zero =>
    intro n _ h1 h
    have h' : p = n := h
    rw [h']
    exact h1
  | succ k ih =>
    intro n hn h1 h
    have hND := hI.1.2.1
    rcases h with h | ⟨i, i1, h⟩
    · rw [h]
      exact h1
    · have i1' := i1
      rw [(hN.2 n hn).1] at i1'
      have hp := f_parts_in (m 188 n)
      have hp3 : (f_parts (m 188 n)).toInt ≤ 3 := by rcases hp with hp | hp | hp | hp <;> (rw [hp]; decide)
      have ei : (nI i).toInt = i := mm_tI (by omega)
      rw [kf_part hI hN hn i1'] at h
      obtain ⟨q, q1, q2, -⟩ := f_part_r (i := nI i) (hI.2.2.2.2.1 n hn) (by omega) (by omega)
      have h2 := hP n hn h1 (nI i) (by omega) (by omega)
      rw [q2, nI_clamp (by omega)] at h2 h
      exact ih q (by omega) h2 h
theorem BL_IB (hI : IM m NB ND NF) (hN : NC ND m) (hb : b < ND) (hfb : m 197 f = nI b) (h : BL m b n) : IB ND m f n := fun P h1 h2 => by
  obtain ⟨k, h⟩ := h
  exact blw_P hI hN h2 k b hb (h1 b hb hfb) h
theorem DE_DR (hI : IM m NB ND NF) (hN : NC ND m) (hF : FC NF m ml) (hf : f < NF) : DE m f g ↔ DR ND m f g := by
  have hND := hI.1.2.1
  have hNF := hI.1.2.2
  have h15 : m 15 f = m 197 f := (hF.2 f hf).2.2.2.1
  have h6 : ∀ n, n < ND → m 188 n = 14 → m 6 (4 * n) = m 189 n := fun n hn k => (hN.2 n hn).2.2.1 (by rw [k]; decide)
  constructor
  · rintro ⟨b, b1, b2, b3, n, n1, n2, n3⟩
    obtain ⟨b', c1, c2⟩ := (hI.2.2.2.2.2.1 f hf).2.2.2.resolve_left (fun y => nI_ne (t := b) (by omega) (b3.symm.trans (h15.trans y)))
    have eb : b = b' := nI_inj (by omega) (by omega) (b3.symm.trans (h15.trans c2))
    subst eb
    have hn := BL_le hND (fun q hq => okK_of hI hN hq) c1 n1
    have hk : m 188 n = 14 := (hN.2 n (by omega)).1.symm.trans n2
    exact ⟨n, by omega, BL_IB hI hN c1 c2 n1, hk, (h6 n (by omega) hk).symm.trans n3⟩
  · rintro ⟨n, n1, n2, n3, n4⟩
    obtain ⟨b, b1, b2, b3⟩ := IB_BL hI hN n2
    exact ⟨b, by omega, by rw [hF.1, mm_tI (by omega)]; omega, h15.trans b2, n, b3, (hN.2 n n1).1.trans n3, (h6 n n1 n3).trans n4⟩
theorem DE_lt (hF : FC NF m ml) (hNF : NF ≤ 12) (h : DE m f g) : f < NF := by
  obtain ⟨b, b1, b2, -⟩ := h
  rw [hF.1, mm_tI (by omega)] at b2
  omega
end MDE
section MMT
variable {L : Nat} {xs : Nat → Int32} {d : Nat} {Q : mm_QQ} {mi : mm_P} {ml : mm_G} {NB ND NF : Nat}
/-- findReach() finds just what is reached -/
theorem sx_findReach (hI : IM mi NB ND NF) (hN : NC ND mi) (hF : FC NF mi ml) (hQ : ∀ w, M2 mi w → (∀ a c, a < 12 → c < 12 → (¬ w 200 (12 * a + c) = 0 ↔ RCH (DE mi) a c)) → Q none w ml) : mm_cq (mm_call mm_ms (mm_tb L xs) (d + 3)) 198 [mm_R 176] mi ml Q := by
  have hND := hI.1.2.1
  have hNF := hI.1.2.2
  have h1 : mm_cq (mm_call mm_ms (mm_tb L xs) (d + 3)) 198 [mm_R 176] mi ml (fun o n1 n2 => o = none ∧ n2 = ml ∧ M2 mi n1 ∧ RC ND NF n1) := sp_findReach hI (fun w a b => ⟨rfl, rfl, a, b⟩)
  have h2 : mm_cq (mm_call mm_ms (mm_tb L xs) (d + 3)) 198 [mm_R 176] mi ml (fun o n1 n2 => o = none ∧ n2 = ml ∧ M2 mi n1 ∧ SD (RCH (DE mi)) n1) := rs_findReach (E := RCH (DE mi)) hI hN (fun a b c ha hb hc x y => RCH_t hb x y) (fun f b n g f1 b1 b2 n1 n2 n3 g1 g2 => RCH_1 g1 ((DE_DR hI hN hF f1).mpr ⟨n, n1, BL_IB hI hN b1 b2 n2, n3, g2⟩)) (fun w a b => ⟨rfl, rfl, a, b⟩)
  refine mm_cq_m (mm_call_m _) (mm_cq_a h1 h2) (fun o n1 n2 ⟨⟨e1, e2, a1, a2⟩, ⟨_, _, _, a3⟩⟩ => ?_)
  subst e1 e2
  refine hQ n1 a1 (fun a c ha hc => ⟨a3 a c ha hc, fun h => ?_⟩)
  have hd : ∀ x y, x < 12 → y < 12 → DE mi x y → ¬ n1 200 (12 * x + y) = 0 := fun x y hx hy he => by
    have hxN := DE_lt hF hNF he
    have hdr := (DE_DR hI hN hF hxN).mp he
    have hb : ¬ n1 197 x = -1 := fun q => by
      obtain ⟨b, b1, b2, b3, -⟩ := he
      rw [a1 197 x (by decide) (by decide), ← (hF.2 x hxN).2.2.2.1, b3] at q
      exact nI_ne (by omega) q
    exact a2.1 x hx hxN hb y hy (DR_c (PR_m2 a1) hdr)
  exact h (fun c => c < 12 → ¬ n1 200 (12 * a + c) = 0) (fun g hg he _ => hd a g ha hg he) (fun x y hx hy s he _ => a2.2 x hx a y ha hy (s hx) (hd x y hx hy he)) hc
end MMT
