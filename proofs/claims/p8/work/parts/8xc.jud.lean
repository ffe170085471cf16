/-! ===== THE PROGRAM is RIGHT: what the verdict says ===== -/
def UR (m : mm_P) (f : Nat) : Prop := f = 0 ∨ RCH (DE m) 0 f
def V1 (m : mm_P) : Prop := (m 9 7).toInt ≤ 0 ∨ ¬ m 10 0 = 0
def V2 (m : mm_P) : Prop := ∃ f : Nat, f < 12 ∧ UR m f ∧ ((m 9 7).toInt ≤ (f : Int) ∨ m 15 f = -1)
def V3 (m : mm_P) (ml : mm_G) : Prop := ∃ f b : Nat, f < 12 ∧ UR m f ∧ b < 200 ∧ (f : Int) < (m 9 7).toInt ∧ m 15 f = nI b ∧ ¬ ml (19 + f) b = ml 14 f
/-- the call n of g in f doesn't hand on the letters as they are -/
def IRB (m : mm_P) (f n g : Nat) : Prop := m 10 f < m 10 g ∨ (¬ m 10 g < 1 ∧ ¬ m 6 (4 * n + 2) = 2) ∨ (¬ m 10 g < 2 ∧ ¬ m 6 (4 * n + 3) = 3)
def IRR (m : mm_P) (f : Nat) : Prop := ∃ b n g : Nat, b < 200 ∧ (f : Int) < (m 9 7).toInt ∧ m 15 f = nI b ∧ BL m b n ∧ m 4 n = 14 ∧ g < 12 ∧ m 6 (4 * n) = nI g ∧ (g = f ∨ RCH (DE m) g f) ∧ IRB m f n g
def V4 (m : mm_P) : Prop := ∃ f, f < 12 ∧ UR m f ∧ IRR m f
def VP (m : mm_P) (ml : mm_G) (v : Int32) : Prop := (v = 1 ∧ V1 m) ∨ (v = 2 ∧ ¬ V1 m ∧ V2 m) ∨ (v = 3 ∧ ¬ V1 m ∧ ¬ V2 m ∧ V3 m ml) ∨ (v = 4 ∧ ¬ V1 m ∧ ¬ V2 m ∧ ¬ V3 m ml ∧ V4 m) ∨ (v = 0 ∧ ¬ V1 m ∧ ¬ V2 m ∧ ¬ V3 m ml ∧ ¬ V4 m)
theorem VP_u {m : mm_P} {ml : mm_G} {v u : Int32} (h : VP m ml v) (h2 : VP m ml u) : v = u := by
  rcases h with ⟨a, b⟩ | ⟨a, b, c⟩ | ⟨a, b, c, d⟩ | ⟨a, b, c, d, e⟩ | ⟨a, b, c, d, e⟩ <;> rcases h2 with ⟨a', b'⟩ | ⟨a', b', c'⟩ | ⟨a', b', c', d'⟩ | ⟨a', b', c', d', e'⟩ | ⟨a', b', c', d', e'⟩ <;> first
    | exact a.trans a'.symm
    | exact absurd b b'
    | exact absurd b' b
    | exact absurd c c'
    | exact absurd c' c
    | exact absurd d d'
    | exact absurd d' d
    | exact absurd e e'
    | exact absurd e' e
/-- the uses that stand are those of the bodies -/
def UT (m : mm_P) : Prop := ∀ f g, f < 12 → g < 12 → (EU m f g ↔ DE m f g)
/-- functions and their bodies are the same -/
def PB (m w : mm_P) : Prop := w 9 7 = m 9 7 ∧ (∀ i, i < 12 → w 10 i = m 10 i) ∧ (∀ i, i < 12 → w 15 i = m 15 i) ∧ ∀ f b : Nat, f < 12 → b < 200 → (f : Int) < (m 9 7).toInt → m 15 f = nI b → ∀ n, (BL w b n ↔ BL m b n) ∧ (BL m b n → w 4 n = m 4 n ∧ w 6 (4 * n) = m 6 (4 * n) ∧ w 6 (4 * n + 2) = m 6 (4 * n + 2) ∧ w 6 (4 * n + 3) = m 6 (4 * n + 3))
section MPB
variable {m w : mm_P} {ml n2 : mm_G} {f g : Nat} {v : Int32}
theorem DE_pb (h : PB m w) (hf : f < 12) : DE w f g ↔ DE m f g := by
  obtain ⟨h97, h10, h15, hb⟩ := h
  constructor
  · rintro ⟨b, b1, b2, b3, n, n1, n2, n3⟩
    rw [h97] at b2
    rw [h15 f hf] at b3
    obtain ⟨q1, q2⟩ := hb f b hf b1 b2 b3 n
    have n1' := q1.mp n1
    obtain ⟨q3, q4, -⟩ := q2 n1'
    exact ⟨b, b1, b2, b3, n, n1', q3.symm.trans n2, q4.symm.trans n3⟩
  · rintro ⟨b, b1, b2, b3, n, n1, n2, n3⟩
    obtain ⟨q1, q2⟩ := hb f b hf b1 b2 b3 n
    obtain ⟨q3, q4, -⟩ := q2 n1
    exact ⟨b, b1, by rw [h97]; exact b2, (h15 f hf).trans b3, n, q1.mpr n1, q3.trans n2, q4.trans n3⟩
theorem RCH_pb (h : PB m w) (hf : f < 12) : RCH (DE w) f g ↔ RCH (DE m) f g := RCH_c hf (fun _ _ ha _ => DE_pb h ha)
theorem UR_pb (h : PB m w) : UR w f ↔ UR m f := by
  unfold UR
  rw [RCH_pb h (by decide)]
theorem V1_pb (h : PB m w) : V1 w ↔ V1 m := by
  unfold V1
  rw [h.1, h.2.1 0 (by decide)]
theorem V2_pb (h : PB m w) : V2 w ↔ V2 m := by
  constructor
  · rintro ⟨f, f1, f2, f3⟩
    rw [h.1, h.2.2.1 f f1] at f3
    exact ⟨f, f1, (UR_pb h).mp f2, f3⟩
  · rintro ⟨f, f1, f2, f3⟩
    exact ⟨f, f1, (UR_pb h).mpr f2, by rw [h.1, h.2.2.1 f f1]; exact f3⟩
theorem V3_pb (h : PB m w) (hl : ∀ f b : Nat, f < 12 → b < 200 → (f : Int) < (m 9 7).toInt → m 15 f = nI b → n2 (19 + f) b = ml (19 + f) b ∧ n2 14 f = ml 14 f) : V3 w n2 ↔ V3 m ml := by
  constructor
  · rintro ⟨f, b, f1, f2, b1, b2, b3, b4⟩
    rw [h.1] at b2
    rw [h.2.2.1 f f1] at b3
    obtain ⟨e1, e2⟩ := hl f b f1 b1 b2 b3
    rw [e1, e2] at b4
    exact ⟨f, b, f1, (UR_pb h).mp f2, b1, b2, b3, b4⟩
  · rintro ⟨f, b, f1, f2, b1, b2, b3, b4⟩
    obtain ⟨e1, e2⟩ := hl f b f1 b1 b2 b3
    exact ⟨f, b, f1, (UR_pb h).mpr f2, b1, by rw [h.1]; exact b2, (h.2.2.1 f f1).trans b3, by rw [e1, e2]; exact b4⟩
theorem IRR_pb (h : PB m w) (hf : f < 12) : IRR w f ↔ IRR m f := by
  obtain ⟨h97, h10, h15, hb⟩ := id h
  constructor
  · rintro ⟨b, n, g, b1, b2, b3, n1, n2, g1, g2, g3, g4⟩
    rw [h97] at b2
    rw [h15 f hf] at b3
    obtain ⟨q1, q2⟩ := hb f b hf b1 b2 b3 n
    have n1' := q1.mp n1
    obtain ⟨q3, q4, q5, q6⟩ := q2 n1'
    refine ⟨b, n, g, b1, b2, b3, n1', q3.symm.trans n2, g1, q4.symm.trans g2, g3.imp id (RCH_pb h g1).mp, ?_⟩
    unfold IRB at g4
    rw [h10 f hf, h10 g g1, q5, q6] at g4
    exact g4
  · rintro ⟨b, n, g, b1, b2, b3, n1, n2, g1, g2, g3, g4⟩
    obtain ⟨q1, q2⟩ := hb f b hf b1 b2 b3 n
    obtain ⟨q3, q4, q5, q6⟩ := q2 n1
    refine ⟨b, n, g, b1, by rw [h97]; exact b2, (h15 f hf).trans b3, q1.mpr n1, q3.trans n2, g1, q4.trans g2, g3.imp id (RCH_pb h g1).mpr, ?_⟩
    unfold IRB
    rw [h10 f hf, h10 g g1, q5, q6]
    exact g4
theorem V4_pb (h : PB m w) : V4 w ↔ V4 m :=
  ⟨fun ⟨f, f1, f2, f3⟩ => ⟨f, f1, (UR_pb h).mp f2, (IRR_pb h f1).mp f3⟩, fun ⟨f, f1, f2, f3⟩ => ⟨f, f1, (UR_pb h).mpr f2, (IRR_pb h f1).mpr f3⟩⟩
theorem VP_pb (h : PB m w) (hl : ∀ f b : Nat, f < 12 → b < 200 → (f : Int) < (m 9 7).toInt → m 15 f = nI b → n2 (19 + f) b = ml (19 + f) b ∧ n2 14 f = ml 14 f) (hv : VP m ml v) : VP w n2 v := by
  unfold VP
  rw [V1_pb h, V2_pb h, V3_pb h hl, V4_pb h]
  exact hv
theorem UT_pb (h : PB m w) (h16 : ∀ i, i < 12 → w 16 i = m 16 i) (hu : UT m) : UT w := fun f g hf hg => by
  rw [DE_pb h hf, ← hu f g hf hg]
  unfold EU
  rw [h16 f hf]
/-- the program's cells are the same -/
theorem PB_of (hc : ∀ c i, (c = 4 ∨ c = 6 ∨ (c = 9 ∧ i = 7) ∨ c = 10 ∨ c = 15) → w c i = m c i) : PB m w :=
  ⟨hc 9 7 (by omega), fun i _ => hc 10 i (by omega), fun i _ => hc 15 i (by omega), fun f b _ _ _ _ n => ⟨BL_c (fun i => hc 4 i (by omega)) (fun i => hc 6 i (by omega)), fun _ => ⟨hc 4 n (by omega), hc 6 _ (by omega), hc 6 _ (by omega), hc 6 _ (by omega)⟩⟩⟩
theorem PB_r : PB m m := PB_of (fun _ _ _ => rfl)
theorem PB_mw (h : MW m w) : PB m w := PB_of (fun c i q => h c i (by omega) (by omega) (by omega))
end MPB
/-- what the class's judge rests on -/
def WJ (NB ND NF : Nat) (m : mm_P) : Prop := KW NB ND NF m ∧ (∀ q, q < ND → okK NB m q) ∧ (∀ q, q < ND → (1 ≤ (m 5 q).toInt ∧ (m 5 q).toInt ≤ 12) ∧ ∀ i : Nat, (i : Int) < (f_parts (m 4 q)).toInt → (m 5 (k_part m q i).toNatClampNeg).toInt < (m 5 q).toInt) ∧ (∀ f, f < NF → m 15 f = -1 ∨ ∃ b, b < ND ∧ m 15 f = nI b) ∧ UT m
theorem kp_mw {m w : mm_P} (h : MW m w) (n i : Nat) : k_part w n i = k_part m n i := by
  unfold k_part
  rw [h 4 n (by decide) (by decide) (by omega), h 6 _ (by decide) (by decide) (by omega), h 6 _ (by decide) (by decide) (by omega)]
theorem dep_mw {ND : Nat} {m w : mm_P} (h : MW m w) (hd : ∀ q, q < ND → (1 ≤ (m 5 q).toInt ∧ (m 5 q).toInt ≤ 12) ∧ ∀ i : Nat, (i : Int) < (f_parts (m 4 q)).toInt → (m 5 (k_part m q i).toNatClampNeg).toInt < (m 5 q).toInt) : ∀ q, q < ND → (1 ≤ (w 5 q).toInt ∧ (w 5 q).toInt ≤ 12) ∧ ∀ i : Nat, (i : Int) < (f_parts (w 4 q)).toInt → (w 5 (k_part w q i).toNatClampNeg).toInt < (w 5 q).toInt := fun q hq => by
  have h5 : ∀ i, w 5 i = m 5 i := fun i => h 5 i (by decide) (by decide) (by omega)
  refine ⟨by rw [h5]; exact (hd q hq).1, fun i hi => ?_⟩
  rw [h 4 q (by decide) (by decide) (by omega)] at hi
  rw [kp_mw h, h5, h5]
  exact (hd q hq).2 i hi
theorem WJ_mw {NB ND NF : Nat} {m w : mm_P} (hW : WJ NB ND NF m) (h : MW m w) : WJ NB ND NF w := by
  obtain ⟨h1, h2, h3, h4, h5⟩ := hW
  refine ⟨KW_mw h1 h, fun q hq => okK_mw (h2 q hq) h, dep_mw h h3, fun f hf => ?_, UT_pb (PB_mw h) (fun i _ => h 16 i (by decide) (by decide) (by omega)) h5⟩
  rw [h 15 f (by decide) (by decide) (by omega)]
  exact h4 f hf
theorem MW_r {m : mm_P} : MW m m := fun _ _ _ _ _ => rfl
theorem MW_t {m n p : mm_P} (h : MW m n) (h2 : MW n p) : MW m p := fun c i a b e => (h2 c i a b e).trans (h c i a b e)
section MMT
variable {L : Nat} {xs : Nat → Int32} {d : Nat} {Q : mm_QQ} {mi : mm_P} {ml : mm_G} {lim : Nat × Nat} {NB ND NF : Nat}
theorem sx_bodyOfx {f : Nat} (h97 : mi 9 7 = nI NF) (hNF : NF ≤ 12) (hf : f < 12) (h1 : f < NF → Q (some (mm_I (mi 15 f))) mi ml) (h0 : ¬ f < NF → Q (some (mm_I (-1))) mi ml) : mm_cq (mm_call mm_ms (mm_tb L xs) (d + 2)) 28 [mm_R 9, mm_I (nI f)] mi ml Q := by
  have ef : (nI f).toNatClampNeg = f := nI_clamp (by omega)
  refine en_X2_bodyOf (bk_X2_bodyOf_0 (mm_call_m _) (sx_has2 h97 hNF (fun t t1 t2 => bk_X2_bodyOf_5 (s0 := 1) (mm_call_m _) (fun z => absurd z (by decide)) (fun _ => vp_in_nI (by omega) (by decide)) (fun _ => ?_)) (fun q => bk_X2_bodyOf_5 (s0 := 0) (mm_call_m _) (fun _ => h0 (fun y => q f y rfl)) (fun z => absurd rfl z) (fun z => absurd rfl z))))
  have : f = t := nI_inj (by omega) (by omega) t2
  rw [ef]
  exact h1 (by omega)
theorem sx_metAt {i c : Nat} (h36 : mi 3 6 = nI c) (hc : c ≤ 200) (hi : i < c) (hQ : Q (some (mm_I (mi 8 i))) mi ml) : mm_cq (mm_call mm_ms (mm_tb L xs) (d + 1)) 107 [mm_R 3, mm_I (nI i)] mi ml Q := by
  have e200 : (200 : Int32).toInt = 200 := rfl
  refine en_X7_metAt (bk_X7_metAt_0 (mm_call_m _) (fun z => ?_) (fun _ z => ?_) (fun _ _ z => ?_) (fun _ _ _ => vp_in_nI (by omega) (by decide)) (fun _ _ _ => ?_))
  · have := mm_ltI z
    rw [mm_tI (by omega), mm_tt0] at this
    omega
  · have := mm_leI z
    rw [h36, mm_tI (by omega), mm_tI (by omega)] at this
    omega
  · have := mm_leI z
    rw [e200, mm_tI (by omega)] at this
    omega
  · rw [nI_clamp (by omega)]
    exact hQ
theorem n12 {i : Nat} (h : i < 12) : ¬ (12 : Int32) ≤ nI i := by
  rw [Int32.le_iff_toInt_le, mm_tI (by omega), mm_tt12]
  omega
/-! allHaveBodies() -/
theorem ah_2 {x1 : Int32} (h97 : mi 9 7 = nI NF) (hNF : NF ≤ 12) (hx : ∀ g, g < 12 → (bb_t x1 g = true ↔ UR mi g)) (h1 : ¬ V2 mi → Q (some (mm_I 1)) mi ml) (h0 : V2 mi → Q (some (mm_I 0)) mi ml) : ∀ (j i : Nat), i + j = 12 → (∀ f, f < i → UR mi f → ¬ ((mi 9 7).toInt ≤ (f : Int) ∨ mi 15 f = -1)) → mm_WQ (mm_call mm_ms (mm_tb L xs) (d + 2)) (mm_tb L xs) mm_m51 lim Q 2 [some (mm_R 17), some (mm_I x1), some (mm_I (nI i))] [] mi ml := by
  have e97 : (mi 9 7).toInt = NF := by rw [h97]; exact mm_tI (by omega)
  intro j
  induction j with
  | zero =>
    intro i h hA
    have hi : i = 12 := by omega
    subst hi
    exact bk_X4_allHaveBodies_2 (mm_call_m _) (fun _ => h1 (fun ⟨f, f1, f2, f3⟩ => hA f f1 f2 f3)) (fun z => absurd (by decide) z) (fun z => absurd (by decide) z)
  | succ j ih =>
    intro i h hA
    have hi : i < 12 := by omega
    have h30 : (UR mi i → ¬ ((mi 9 7).toInt ≤ (i : Int) ∨ mi 15 i = -1)) → mm_WQ (mm_call mm_ms (mm_tb L xs) (d + 2)) (mm_tb L xs) mm_m51 lim Q 30 [some (mm_R 17), some (mm_I x1), some (mm_I (nI i))] [] mi ml := fun q => by
      refine bk_X4_allHaveBodies_30 (mm_call_m _) ?_
      rw [show nI i + 1 = nI (i + 1) from (nI_succ i).symm]
      refine ih (i + 1) (by omega) (fun f f1 f2 => ?_)
      by_cases hfi : f = i
      · subst hfi
        exact q f2
      · exact hA f (by omega) f2
    refine bk_X4_allHaveBodies_2 (mm_call_m _) (fun z => absurd z (n12 hi)) (fun _ z => h30 (fun q => ?_)) (fun _ z => sx_bodyOfx h97 hNF hi (fun y => bk_X4_allHaveBodies_24 (mm_call_m _) (fun u => h30 (fun _ q => ?_)) (fun u => h0 ⟨i, hi, (hx i hi).mp (bb_nt (by omega) z), .inr u⟩)) (fun y => bk_X4_allHaveBodies_24 (mm_call_m _) (fun u => absurd rfl u) (fun _ => h0 ⟨i, hi, (hx i hi).mp (bb_nt (by omega) z), .inl (by omega)⟩)))
    · have := (hx i hi).mpr q
      rw [(bb_iff (by omega)).mp z] at this
      cases this
    · rcases q with q | q
      · omega
      · exact u q
/-! allAreRight() -/
theorem ar_2 {x1 : Int32} (hK : KW NB ND NF mi) (hbd : ∀ f, f < NF → mi 15 f = -1 ∨ ∃ b, b < ND ∧ mi 15 f = nI b) (hx : ∀ g, g < 12 → (bb_t x1 g = true ↔ UR mi g)) (hV2 : ¬ V2 mi) (h1 : ¬ V3 mi ml → Q (some (mm_I 1)) mi ml) (h0 : V3 mi ml → Q (some (mm_I 0)) mi ml) : ∀ (j i : Nat), i + j = 12 → (∀ f b : Nat, f < i → UR mi f → b < 200 → (f : Int) < (mi 9 7).toInt → mi 15 f = nI b → ml (19 + f) b = ml 14 f) → mm_WQ (mm_call mm_ms (mm_tb L xs) (d + 2)) (mm_tb L xs) mm_m52 lim Q 2 [some (mm_R 17), some (mm_I x1), some (mm_I (nI i))] [] mi ml := by
  obtain ⟨⟨k1, k2, k3⟩, n1, n2, n3⟩ := id hK
  have e97 : (mi 9 7).toInt = NF := by rw [k3]; exact mm_tI (by omega)
  intro j
  induction j with
  | zero =>
    intro i h hA
    have hi : i = 12 := by omega
    subst hi
    exact bk_X4_allAreRight_2 (mm_call_m _) (fun _ => h1 (fun ⟨f, b, f1, f2, b1, b2, b3, b4⟩ => b4 (hA f b f1 f2 b1 b2 b3))) (fun z => absurd (by decide) z) (fun z => absurd (by decide) z)
  | succ j ih =>
    intro i h hA
    have hi : i < 12 := by omega
    have h43 : (∀ b : Nat, UR mi i → b < 200 → (i : Int) < (mi 9 7).toInt → mi 15 i = nI b → ml (19 + i) b = ml 14 i) → mm_WQ (mm_call mm_ms (mm_tb L xs) (d + 2)) (mm_tb L xs) mm_m52 lim Q 43 [some (mm_R 17), some (mm_I x1), some (mm_I (nI i))] [] mi ml := fun q => by
      refine bk_X4_allAreRight_43 (mm_call_m _) ?_
      rw [show nI i + 1 = nI (i + 1) from (nI_succ i).symm]
      refine ih (i + 1) (by omega) (fun f b f1 f2 => ?_)
      by_cases hfi : f = i
      · subst hfi
        exact q b f2
      · exact hA f b (by omega) f2
    refine bk_X4_allAreRight_2 (mm_call_m _) (fun z => absurd z (n12 hi)) (fun _ z => h43 (fun b q => ?_)) (fun _ z => ?_)
    · have := (hx i hi).mpr q
      rw [(bb_iff (by omega)).mp z] at this
      cases this
    · have hU := (hx i hi).mp (bb_nt (by omega) z)
      have hiN : i < NF := by
        by_cases c : i < NF
        · exact c
        · exact absurd ⟨i, hi, hU, .inl (by omega)⟩ hV2
      obtain ⟨b, b1, b2⟩ := (hbd i hiN).resolve_left (fun y => hV2 ⟨i, hi, hU, .inr y⟩)
      refine sx_bodyOf k3 n3 hiN (bk_X4_allAreRight_26 (mm_call_m _) ?_)
      rw [b2]
      refine sx_shapeIn hK hiN (fun p p1 p2 => bk_X4_allAreRight_29 (mm_call_m _) (sx_resShape hK hiN (bk_X4_allAreRight_37 (mm_call_m _) (fun u => h43 (fun b' _ c1 _ c2 => ?_)) (fun u => h0 ⟨i, b, hi, hU, by omega, by omega, b2, fun y => u (lg_eq.mpr ?_)⟩)))) (fun y => absurd ⟨b, b1, rfl⟩ y)
      · have e1 : b = p := nI_inj (by omega) (by omega) p2
        have e2 : b = b' := nI_inj (by omega) (by omega) (b2.symm.trans c2)
        rw [← e2]
        rw [← e1] at u
        exact lg_eq.mp u
      · have e1 : b = p := nI_inj (by omega) (by omega) p2
        rw [← e1]
        exact y
/-! isRegular() -/
theorem sx_isRegular {f n g : Nat} (hW : WJ NB ND NF mi) (hf : f < NF) (hn : n < ND) (hg : g < NF) (h6 : mi 6 (4 * n) = nI g) (h1 : ¬ ((g = f ∨ RCH (DE mi) g f) ∧ IRB mi f n g) → Q (some (mm_I 1)) mi ml) (h0 : (g = f ∨ RCH (DE mi) g f) ∧ IRB mi f n g → Q (some (mm_I 0)) mi ml) : mm_cq (mm_call mm_ms (mm_tb L xs) (d + 3)) 54 [mm_R 17, mm_I (nI f), mm_I (nI n)] mi ml Q := by
  obtain ⟨hK, hok, hdep, hbd, hUT⟩ := id hW
  obtain ⟨⟨k1, k2, k3⟩, n1, n2, n3⟩ := id hK
  have k32 : (g = f ∨ RCH (DE mi) g f) → mm_WQ (mm_call mm_ms (mm_tb L xs) (d + 2)) (mm_tb L xs) mm_m54 (mm_li mm_m54) Q 32 [some (mm_R 17), some (mm_I (nI f)), some (mm_I (nI n)), some (mm_I (nI g)), none, none, none] [] mi ml := fun hr => by
    have fin : ∀ x5 x6 : Int32, (x5 = 0 → ¬ mi 10 g < 1 ∧ ¬ mi 6 (4 * n + 2) = 2) → (x6 = 0 → ¬ mi 10 g < 2 ∧ ¬ mi 6 (4 * n + 3) = 3) → (¬ x5 = 0 → ¬ (¬ mi 10 g < 1 ∧ ¬ mi 6 (4 * n + 2) = 2)) → (¬ x6 = 0 → ¬ (¬ mi 10 g < 2 ∧ ¬ mi 6 (4 * n + 3) = 3)) → mm_cq (mm_call mm_ms (mm_tb L xs) (d + 2)) 25 [mm_R 9, mm_I (nI f)] mi ml (fun o m1 m2 => mm_WQ (mm_call mm_ms (mm_tb L xs) (d + 2)) (mm_tb L xs) mm_m54 (mm_li mm_m54) Q 104 [some (mm_R 17), some (mm_I (nI f)), some (mm_I (nI n)), some (mm_I (nI g)), some (mm_I (mi 10 g)), some (mm_I x5), some (mm_I x6)] (o.toList ++ [mm_I (mi 10 g)]) m1 m2) := fun x5 x6 a5 a6 b5 b6 =>
      sx_letters2 hK hf (bk_X4_isRegular_104 (mm_call_m _) (fun z => bk_X4_isRegular_121 (mm_call_m _) (h0 ⟨hr, .inl z⟩)) (fun _ z => bk_X4_isRegular_121 (mm_call_m _) (h0 ⟨hr, .inr (.inl (a5 z))⟩)) (fun _ _ z => bk_X4_isRegular_121 (mm_call_m _) (h0 ⟨hr, .inr (.inr (a6 z))⟩)) (fun z y u => h1 (fun q => q.2.elim z (fun q => q.elim (b5 y) (b6 u)))))
    have k83 : ∀ x5 : Int32, (x5 = 0 → ¬ mi 10 g < 1 ∧ ¬ mi 6 (4 * n + 2) = 2) → (¬ x5 = 0 → ¬ (¬ mi 10 g < 1 ∧ ¬ mi 6 (4 * n + 2) = 2)) → ¬ mi 10 g < 2 → mm_WQ (mm_call mm_ms (mm_tb L xs) (d + 2)) (mm_tb L xs) mm_m54 (mm_li mm_m54) Q 83 [some (mm_R 17), some (mm_I (nI f)), some (mm_I (nI n)), some (mm_I (nI g)), some (mm_I (mi 10 g)), some (mm_I x5), none] [mm_I (mi 6 (4 * n + 3))] mi ml := fun x5 a5 b5 h2 =>
      bk_X4_isRegular_83 (mm_call_m _) (fun z => fin x5 0 a5 (fun _ => ⟨h2, z⟩) b5 (fun q => absurd rfl q)) (fun z => bk_X4_isRegular_87 (mm_call_m _) (fin x5 1 a5 (fun q => absurd q (by decide)) b5 (fun _ q => q.2 z)))
    have k61 : ¬ (¬ mi 10 g < 1 ∧ ¬ mi 6 (4 * n + 2) = 2) → mm_WQ (mm_call mm_ms (mm_tb L xs) (d + 2)) (mm_tb L xs) mm_m54 (mm_li mm_m54) Q 61 [some (mm_R 17), some (mm_I (nI f)), some (mm_I (nI n)), some (mm_I (nI g)), some (mm_I (mi 10 g)), none, none] [] mi ml := fun hb =>
      bk_X4_isRegular_61 (mm_call_m _) (fun z => bk_X4_isRegular_87 (mm_call_m _) (fin 1 1 (fun q => absurd q (by decide)) (fun q => absurd q (by decide)) (fun _ => hb) (fun _ q => q.1 z))) (fun z => sx_wantedAt (i := 3) k2 n2 hn (by decide) (k83 1 (fun q => absurd q (by decide)) (fun _ => hb) z))
    refine bk_X4_isRegular_32 (mm_call_m _) (sx_letters2 hK hg (bk_X4_isRegular_40 (mm_call_m _) (fun z => k61 (fun q => q.1 z)) (fun z => sx_wantedAt (i := 2) k2 n2 hn (by decide) (bk_X4_isRegular_57 (mm_call_m _) (fun y u => bk_X4_isRegular_87 (mm_call_m _) (fin 0 1 (fun _ => ⟨z, y⟩) (fun q => absurd q (by decide)) (fun q => absurd rfl q) (fun _ q => q.1 u))) (fun y u => sx_wantedAt (i := 3) k2 n2 hn (by decide) (k83 0 (fun _ => ⟨z, y⟩) (fun q => absurd rfl q) u)) (fun y => k61 (fun q => q.2 y))))))
  refine en_X4_isRegular (bk_X4_isRegular_0 (mm_call_m _) (sx_wantedAt (i := 0) k2 n2 hn (by decide) (bk_X4_isRegular_9 (mm_call_m _) (fun z => ?_) (fun z => ?_)))) <;> rw [show mi 6 (4 * n + 0) = nI g from h6] at z ⊢
  · exact k32 (.inl (nI_inj (by omega) (by omega) z))
  · have hgf : ¬ g = f := fun y => z (by rw [y])
    refine sx_reachedBy k3 n3 (show g < 12 by omega) (fun q => absurd hg q) (fun x hx => bk_X4_isRegular_23 (mm_call_m _) (fun y => k32 (.inr ?_)) (fun y => h1 (fun q => ?_)))
    · exact (RCH_c (by omega) (fun a b ha hb => hUT a b ha hb)).mp ((hx f (by omega)).mp (bb_nt (by omega) y))
    · have h2 := (hx f (by omega)).mpr ((RCH_c (by omega) (fun a b ha hb => hUT a b ha hb)).mpr (q.1.resolve_left hgf))
      rw [(bb_iff (by omega)).mp y] at h2
      cases h2
/-! allAreRegular() -/
theorem rg_36 {f b c : Nat} {x1 : Int32} {m : mm_P} (hW : WJ NB ND NF m) (hV2 : ¬ V2 m) (hU : UR m f) (hf : f < NF) (hb : b < ND) (hfb : m 15 f = nI b) (hc : c ≤ 200) (h0 : ∀ w, MW m w → V4 m → Q (some (mm_I 0)) w ml) {w : mm_P} (hM : MW m w) (h36 : w 3 6 = nI c) (hm1 : ∀ i, i < c → ∃ p, w 8 i = nI p ∧ BL m b p) (hm2 : ∀ p, BL m b p → ∃ i, i < c ∧ w 8 i = nI p) (hK : ¬ IRR m f → ∀ x3 x4, mm_WQ (mm_call mm_ms (mm_tb L xs) (d + 3)) (mm_tb L xs) mm_m53 lim Q 89 [some (mm_R 17), some (mm_I x1), some (mm_I (nI f)), x3, x4] [] w ml) : ∀ (j i : Nat) {x4 : Option mm_V}, i + j = c → (∀ e p g, e < i → p < 200 → w 8 e = nI p → m 4 p = 14 → g < 12 → m 6 (4 * p) = nI g → ¬ ((g = f ∨ RCH (DE m) g f) ∧ IRB m f p g)) → mm_WQ (mm_call mm_ms (mm_tb L xs) (d + 3)) (mm_tb L xs) mm_m53 lim Q 36 [some (mm_R 17), some (mm_I x1), some (mm_I (nI f)), some (mm_I (nI i)), x4] [] w ml := by
  obtain ⟨hKm, hok, hdep, hbd, hUT⟩ := id hW
  obtain ⟨⟨k1, k2, k3⟩, n1, n2, n3⟩ := id hKm
  have e97 : (m 9 7).toInt = NF := by rw [k3]; exact mm_tI (by omega)
  have hWw := WJ_mw hW hM
  have h4 : ∀ i, w 4 i = m 4 i := fun i => hM 4 i (by decide) (by decide) (by omega)
  have h6 : ∀ i, w 6 i = m 6 i := fun i => hM 6 i (by decide) (by decide) (by omega)
  intro j
  induction j with
  | zero =>
    intro i x4 h hA
    have hi : i = c := by omega
    subst hi
    refine bk_X4_allAreRegular_36 (mm_call_m _) (en_X7_metSize (bk_X7_metSize_0 (mm_call_m _) (bk_X4_allAreRegular_44 (mm_call_m _) (fun _ => hK (fun ⟨b', n, g, b1, b2, b3, q1, q2, q3, q4, q5, q6⟩ => ?_) _ _) (fun z => absurd ?_ z))))
    · have eb : b = b' := nI_inj (by omega) (by omega) (hfb.symm.trans b3)
      subst eb
      obtain ⟨e, e1, e2⟩ := hm2 n q1
      have hnb := BL_le n2 hok hb q1
      exact hA e n g e1 (by omega) e2 q2 q3 q4 ⟨q5, q6⟩
    · rw [h36]
      exact Int32.le_refl _
  | succ j ih =>
    intro i x4 h hA
    obtain ⟨p, p1, p2⟩ := hm1 i (by omega)
    have hpb := BL_le n2 hok hb p2
    have h83 : (∀ g, m 4 p = 14 → g < 12 → m 6 (4 * p) = nI g → ¬ ((g = f ∨ RCH (DE m) g f) ∧ IRB m f p g)) → mm_WQ (mm_call mm_ms (mm_tb L xs) (d + 3)) (mm_tb L xs) mm_m53 lim Q 83 [some (mm_R 17), some (mm_I x1), some (mm_I (nI f)), some (mm_I (nI i)), some (mm_I (nI p))] [] w ml := fun q => by
      refine bk_X4_allAreRegular_83 (mm_call_m _) ?_
      rw [show nI i + 1 = nI (i + 1) from (nI_succ i).symm]
      refine ih (i + 1) (by omega) (fun e p' g e1 e0 e2 e3 e4 e5 => ?_)
      by_cases hei : e = i
      · subst hei
        have : p = p' := nI_inj (by omega) (by omega) (p1.symm.trans e2)
        subst this
        exact q g e3 e4 e5
      · exact hA e p' g (by omega) e0 e2 e3 e4 e5
    refine bk_X4_allAreRegular_36 (mm_call_m _) (en_X7_metSize (bk_X7_metSize_0 (mm_call_m _) (bk_X4_allAreRegular_44 (mm_call_m _) (fun z => ?_) (fun _ => sx_metAt h36 hc (by omega) (bk_X4_allAreRegular_55 (mm_call_m _) ?_)))))
    · have := mm_leI z
      rw [h36, mm_tI (by omega), mm_tI (by omega)] at this
      omega
    · rw [p1]
      refine sx_kind7 hWw.1 (by omega) (bk_X4_allAreRegular_66 (mm_call_m _) (fun z => ?_) (fun z => ?_)) <;> rw [h4] at z
      · exact h83 (fun g y => absurd y z)
      · obtain ⟨c2, -⟩ := ((hok p (by omega)).2.2.2 z).2
        obtain ⟨g, eg, g1, g2, -⟩ := mm_of c2.1 c2.2
        have hg12 : g < 12 := by omega
        have hde : DE m f g := ⟨b, by omega, by omega, hfb, p, p2, z, eg⟩
        have hUg : UR m g := by
          rcases hU with y | y
          · rw [y] at hde
            exact .inr (RCH_1 hg12 hde)
          · exact .inr (RCH_s (by omega) hg12 y hde)
        have hgN : g < NF := by
          by_cases c : g < NF
          · exact c
          · exact absurd ⟨g, hg12, hUg, .inl (by omega)⟩ hV2
        have hiff : ((g = f ∨ RCH (DE w) g f) ∧ IRB w f p g) ↔ ((g = f ∨ RCH (DE m) g f) ∧ IRB m f p g) := by
          unfold IRB
          rw [RCH_pb (PB_mw hM) hg12, h6, h6, hM 10 f (by decide) (by decide) (by omega), hM 10 g (by decide) (by decide) (by omega)]
        refine sx_isRegular (d := d) hWw hf (by omega) hgN ((h6 _).trans eg) (fun y => bk_X4_allAreRegular_78 (mm_call_m _) (fun _ => h83 (fun g' _ g1' g2' => ?_)) (fun u => absurd u (by decide))) (fun y => bk_X4_allAreRegular_78 (mm_call_m _) (fun u => absurd rfl u) (fun _ => h0 w hM ⟨f, by omega, hU, b, p, g, by omega, by omega, hfb, p2, z, hg12, eg, (hiff.mp y).1, (hiff.mp y).2⟩))
        have : g = g' := nI_inj (by omega) (by omega) (eg.symm.trans g2')
        subst this
        exact fun u => y (hiff.mpr u)
theorem rg_2 {x1 : Int32} {m : mm_P} (hW : WJ NB ND NF m) (hV2 : ¬ V2 m) (hx : ∀ g, g < 12 → (bb_t x1 g = true ↔ UR m g)) (h1 : ∀ w, MW m w → ¬ V4 m → Q (some (mm_I 1)) w ml) (h0 : ∀ w, MW m w → V4 m → Q (some (mm_I 0)) w ml) : ∀ (j i : Nat) (w : mm_P) {x3 x4 : Option mm_V}, i + j = 12 → MW m w → (∀ f, f < i → UR m f → ¬ IRR m f) → mm_WQ (mm_call mm_ms (mm_tb L xs) (d + 16)) (mm_tb L xs) mm_m53 lim Q 2 [some (mm_R 17), some (mm_I x1), some (mm_I (nI i)), x3, x4] [] w ml := by
  obtain ⟨hK, hok, hdep, hbd, hUT⟩ := id hW
  obtain ⟨⟨k1, k2, k3⟩, n1, n2, n3⟩ := id hK
  have e97 : (m 9 7).toInt = NF := by rw [k3]; exact mm_tI (by omega)
  intro j
  induction j with
  | zero =>
    intro i w x3 x4 h hM hA
    have hi : i = 12 := by omega
    subst hi
    exact bk_X4_allAreRegular_2 (mm_call_m _) (fun _ => h1 w hM (fun ⟨f, f1, f2, f3⟩ => hA f f1 f2 f3)) (fun z => absurd (by decide) z) (fun z => absurd (by decide) z)
  | succ j ih =>
    intro i w x3 x4 h hM hA
    have hi : i < 12 := by omega
    have h89 : ∀ w', MW m w' → (UR m i → ¬ IRR m i) → ∀ x3 x4, mm_WQ (mm_call mm_ms (mm_tb L xs) (d + 16)) (mm_tb L xs) mm_m53 lim Q 89 [some (mm_R 17), some (mm_I x1), some (mm_I (nI i)), x3, x4] [] w' ml := fun w' hM' q x3 x4 => by
      refine bk_X4_allAreRegular_89 (mm_call_m _) ?_
      rw [show nI i + 1 = nI (i + 1) from (nI_succ i).symm]
      refine ih (i + 1) w' (by omega) hM' (fun f f1 f2 => ?_)
      by_cases hfi : f = i
      · subst hfi
        exact q f2
      · exact hA f (by omega) f2
    have hWw := WJ_mw hW hM
    refine bk_X4_allAreRegular_2 (mm_call_m _) (fun z => absurd z (n12 hi)) (fun _ z => ?_) (fun _ z => h89 w hM (fun q => ?_) _ _)
    · have hU := (hx i hi).mp (bb_nt (by omega) z)
      have hiN : i < NF := by
        by_cases c : i < NF
        · exact c
        · exact absurd ⟨i, hi, hU, .inl (by omega)⟩ hV2
      obtain ⟨b, b1, b2⟩ := (hbd i hiN).resolve_left (fun y => hV2 ⟨i, hi, hU, .inr y⟩)
      refine sx_bodyOf hWw.1.1.2.2 n3 hiN (bk_X4_allAreRegular_31 (mm_call_m _) ?_)
      rw [hM 15 i (by decide) (by decide) (by omega), b2]
      have hbl : ∀ p, BL w b p ↔ BL m b p := fun p => BL_c (fun i => hM 4 i (by decide) (by decide) (by omega)) (fun i => hM 6 i (by decide) (by decide) (by omega))
      refine sx_meetUnder (d := d + 1) hWw.1 hWw.2.1 hWw.2.2.1 b1 (fun w2 c hM2 h36 hc q1 q2 => bk_X4_allAreRegular_34 (mm_call_m _) (rg_36 (d := d + 13) hW hV2 hU hiN b1 b2 hc h0 (MW_t hM hM2) h36 (fun e he => ?_) (fun p hp => q2 p ((hbl p).mpr hp)) (fun y => h89 w2 (MW_t hM hM2) (fun _ => y)) c 0 (by omega) (fun e p g he => absurd he (Nat.not_lt_zero _))))
      obtain ⟨p, p1, p2⟩ := q1 e he
      exact ⟨p, p1, (hbl p).mp p2⟩
    · have := (hx i hi).mpr q
      rw [(bb_iff (by omega)).mp z] at this
      cases this
/-- judgeProgram(): the verdict -/
theorem sx_judgeProgram (hW : WJ NB ND NF mi) (hQ : ∀ w v, MW mi w → VP mi ml v → Q (some (mm_I v)) w ml) : mm_cq (mm_call mm_ms (mm_tb L xs) (d + 18)) 50 [mm_R 17] mi ml Q := by
  obtain ⟨hK, hok, hdep, hbd, hUT⟩ := id hW
  obtain ⟨⟨k1, k2, k3⟩, n1, n2, n3⟩ := id hK
  have e97 : (mi 9 7).toInt = NF := by rw [k3]; exact mm_tI (by omega)
  have h22 : V1 mi → mm_WQ (mm_call mm_ms (mm_tb L xs) (d + 17)) (mm_tb L xs) mm_m50 (mm_li mm_m50) Q 22 [some (mm_R 17), none] [] mi ml := fun q => bk_X4_judgeProgram_22 (mm_call_m _) (hQ mi 1 MW_r (.inl ⟨rfl, q⟩))
  refine en_X4_judgeProgram (bk_X4_judgeProgram_0 (mm_call_m _) (sx_has2 k3 n3 (fun t t1 t2 => bk_X4_judgeProgram_8 (s0 := 1) (mm_call_m _) (fun z => absurd z (by decide)) (fun _ => ?_)) (fun q => bk_X4_judgeProgram_8 (s0 := 0) (mm_call_m _) (fun _ => h22 (.inl ?_)) (fun z => absurd rfl z))))
  · have hN0 : 0 < NF := by omega
    refine sx_letters2 (f := 0) hK hN0 (bk_X4_judgeProgram_19 (mm_call_m _) (fun z => ?_) (fun z => h22 (.inr z)))
    have hV1 : ¬ V1 mi := fun q => q.elim (fun y => by omega) (fun y => y z)
    refine sx_reachedBy (f := 0) k3 n3 (by decide) (fun q => absurd hN0 q) (fun x hx => bk_X4_judgeProgram_32 (mm_call_m _) ?_)
    have hbit : ∀ g, g < 12 → (bb_t (x ||| 1) g = true ↔ UR mi g) := fun g hg => by
      rw [bb_ort, hx g hg, bb_one g (by omega), decide_eq_true_eq, RCH_c (by decide) (fun a b ha hb => hUT a b ha hb)]
      unfold UR
      exact ⟨fun q => q.symm, fun q => q.symm⟩
    refine en_X4_allHaveBodies (bk_X4_allHaveBodies_0 (mm_call_m _) (ah_2 k3 n3 hbit (fun y2 => bk_X4_judgeProgram_40 (mm_call_m _) (fun _ => ?_) (fun u => absurd u (by decide))) (fun y2 => bk_X4_judgeProgram_40 (mm_call_m _) (fun u => absurd rfl u) (fun _ => hQ mi 2 MW_r (.inr (.inl ⟨rfl, hV1, y2⟩)))) 12 0 (by omega) (fun f hf => absurd hf (Nat.not_lt_zero _))))
    refine en_X4_allAreRight (bk_X4_allAreRight_0 (mm_call_m _) (ar_2 hK hbd hbit y2 (fun y3 => bk_X4_judgeProgram_50 (mm_call_m _) (fun _ => ?_) (fun u => absurd u (by decide))) (fun y3 => bk_X4_judgeProgram_50 (mm_call_m _) (fun u => absurd rfl u) (fun _ => hQ mi 3 MW_r (.inr (.inr (.inl ⟨rfl, hV1, y2, y3⟩))))) 12 0 (by omega) (fun f b hf => absurd hf (Nat.not_lt_zero _))))
    exact en_X4_allAreRegular (bk_X4_allAreRegular_0 (mm_call_m _) (rg_2 (d := d) hW y2 hbit (fun w hM y4 => bk_X4_judgeProgram_60 (mm_call_m _) (fun u => absurd u (by decide)) (fun _ => hQ w 0 hM (.inr (.inr (.inr (.inr ⟨rfl, hV1, y2, y3, y4⟩)))))) (fun w hM y4 => bk_X4_judgeProgram_60 (mm_call_m _) (fun _ => hQ w 4 hM (.inr (.inr (.inr (.inl ⟨rfl, hV1, y2, y3, y4⟩))))) (fun u => absurd rfl u)) 12 0 mi (by omega) MW_r (fun f hf => absurd hf (Nat.not_lt_zero _))))
  · by_cases c : NF = 0
    · omega
    · exact absurd rfl (q 0 (by omega))
/-- judgeAnew() -/
theorem sx_judgeAnew (hIC : mm_IC mi) (hW : WJ NB ND NF mi) (hQ : ∀ n1 n2, mm_IC n1 → mm_fw mm_w_X11_judgeAnew mi ml n1 n2 → VP mi ml (n1 0 9) → Q none n1 n2) : mm_cq (mm_call mm_ms (mm_tb L xs) (d + 19)) 149 [mm_R 0] mi ml Q := by
  have h1 : mm_cq (mm_call mm_ms (mm_tb L xs) (d + 19)) 149 [mm_R 0] mi ml (fun o n1 n2 => o = none ∧ mm_IC n1 ∧ mm_fw mm_w_X11_judgeAnew mi ml n1 n2) := sc_X11_judgeAnew hIC (fun n1 n2 a b => ⟨rfl, a, b⟩)
  have h2 : mm_cq (mm_call mm_ms (mm_tb L xs) (d + 19)) 149 [mm_R 0] mi ml (fun _ n1 _ => VP mi ml (n1 0 9)) := by
    refine en_X11_judgeAnew (bk_X11_judgeAnew_0 (mm_call_m _) ?_)
    have h3 : mm_cq (mm_call mm_ms (mm_tb L xs) (d + 18)) 50 [mm_R 17] mi ml (fun o n1 n2 => (∃ v, o = some (mm_I v) ∧ VP mi ml v) ∧ mm_IC n1) := mm_cq_m (mm_call_m _) (mm_cq_a (sx_judgeProgram (d := d) hW (Q := fun o n1 n2 => ∃ v, o = some (mm_I v) ∧ VP mi ml v) (fun w v _ hv => ⟨v, rfl, hv⟩)) (sc_X4_judgeProgram (Q := fun o n1 n2 => mm_IC n1) hIC (fun v n1 n2 a _ => a))) (fun o n1 n2 z => z)
    refine mm_cq_m (mm_call_m _) h3 (fun o n1 n2 ⟨⟨v, e, hv⟩, hi⟩ => ?_)
    subst e
    refine bk_X11_judgeAnew_8 (mm_call_m _) (fun z => ?_) (fun z => ?_)
    · rw [mm_u_f (by decide), mm_u_s]
      exact hv
    · have hi' : mm_IC (mm_u n1 0 9 v) := mm_IC_n hi (by decide) (by decide) (by decide) (by decide) (by decide)
      refine sc_X0_makeAll hi' (fun u k1 k2 ki kf => bk_X11_judgeAnew_26 (mm_call_m _) ?_)
      rw [mm_u_f (by decide), (kf 0 9 (by decide +kernel)).1, mm_u_s]
      exact hv
  exact mm_cq_m (mm_call_m _) (mm_cq_a h1 h2) (fun o n1 n2 ⟨⟨e, a, b⟩, c⟩ => by subst e; exact hQ n1 n2 a b c)
end MMT
