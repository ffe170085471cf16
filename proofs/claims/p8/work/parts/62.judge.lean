/-! ===== judge() of the model, and the small ones beside it ===== -/
theorem ix {NB ND NF : Nat} {m : mm_P} (h : IM m NB ND NF) : (m 176 13).toInt = ND ∧ (m 176 20).toInt = NF := by
  obtain ⟨⟨a1, a2, a3⟩, ⟨b1, b2, b3⟩, -⟩ := h
  rw [b2, b3]
  exact ⟨mm_tI (by omega), mm_tI (by omega)⟩
/-- f is well typed: goThrough() of it ends with its body's type as its result -/
def WT (NB ND NF : Nat) (m : mm_P) (f : Nat) : Prop := f < NF ∧ ∃ b w TY, b < ND ∧ m 197 f = nI b ∧ GT NB NF m w f ND TY ∧ w 198 b = m 196 f
def used (w : mm_P) (f : Nat) : Prop := f = 0 ∨ ¬ w 200 f = 0
def OKP (NB ND NF : Nat) (m : mm_P) : Prop := m 194 0 = 0 ∧ ∃ U : Nat → Prop, U 0 ∧ (∀ f, U f → WT NB ND NF m f) ∧ ∀ f g, U f → g < 12 → DR ND m f g → U g
section MMT
variable {L : Nat} {xs : Nat → Int32} {d : Nat} {Q : mm_QQ} {mi : mm_P} {ml : mm_G} {lim : Nat × Nat}
theorem sp_named {x1 x2 : Int32} (hQ : ∀ v, Q (some (mm_I v)) mi ml) : mm_cq (mm_call mm_ms (mm_tb L xs) (d + 1)) 182 [mm_R 176, mm_I x1, mm_I x2] mi ml Q :=
  en_X12_named (bk_X12_named_0 (mm_call_m _) (fun _ _ => hQ _) (fun _ _ => hQ _) (fun _ => hQ _))
theorem sp_fun {NB ND NF : Nat} {x : Int32} (hI : IM mi NB ND NF) (h1 : ∀ f, f < NF → x = nI f → Q (some (mm_I 1)) mi ml) (h0 : (∀ f, f < NF → ¬ x = nI f) → Q (some (mm_I 0)) mi ml) : mm_cq (mm_call mm_ms (mm_tb L xs) (d + 2)) 184 [mm_R 176, mm_I x] mi ml Q := by
  have e := (ix hI).2
  have hNF := hI.1.2.2
  refine sp_X12_isFunction (by omega) (fun a b => ?_) (fun a => h0 (fun f hf z => a ?_))
  · obtain ⟨f, f1, f2, f3, f4⟩ := mm_of a b
    exact h1 f (by omega) f1
  · rw [z, e, mm_tI (by omega)]
    omega
theorem sp_nod {NB ND NF : Nat} {x : Int32} (hI : IM mi NB ND NF) (h1 : ∀ n, n < ND → x = nI n → Q (some (mm_I 1)) mi ml) (h0 : (∀ n, n < ND → ¬ x = nI n) → Q (some (mm_I 0)) mi ml) : mm_cq (mm_call mm_ms (mm_tb L xs) (d + 2)) 183 [mm_R 176, mm_I x] mi ml Q := by
  have e := (ix hI).1
  have hND := hI.1.2.1
  refine sp_X12_isNode (by omega) (fun a b => ?_) (fun a => h0 (fun f hf z => a ?_))
  · obtain ⟨f, f1, f2, f3, f4⟩ := mm_of a b
    exact h1 f (by omega) f1
  · rw [z, e, mm_tI (by omega)]
    omega
theorem sp_typeIn {NB ND NF : Nat} {x1 x2 : Int32} (hI : IM mi NB ND NF) (hQ : ∀ w v, PR mi w → Q (some (mm_I v)) w ml) : mm_cq (mm_call mm_ms (mm_tb L xs) (d + 9)) 195 [mm_R 176, mm_I x1, mm_I x2] mi ml Q := by
  have h16 : mm_WQ (mm_call mm_ms (mm_tb L xs) (d + 8)) (mm_tb L xs) mm_m195 (mm_li mm_m195) Q 16 [some (mm_R 176), some (mm_I x1), some (mm_I x2)] [] mi ml := bk_X12_typeIn_16 (mm_call_m _) (hQ mi _ PR_r)
  refine en_X12_typeIn (bk_X12_typeIn_0 (mm_call_m _) (sp_fun hI (fun f f1 f2 => bk_X12_typeIn_5 (s0 := 1) (mm_call_m _) (fun z => absurd z (by decide)) (fun _ => sp_nod hI (fun n n1 n2 => bk_X12_typeIn_13 (s0 := 1) (mm_call_m _) (fun _ => ?_) (fun z => absurd z (by decide))) (fun _ => bk_X12_typeIn_13 (s0 := 0) (mm_call_m _) (fun z => absurd rfl z) (fun _ => h16)))) (fun _ => bk_X12_typeIn_5 (s0 := 0) (mm_call_m _) (fun _ => h16) (fun z => absurd rfl z))))
  subst f2 n2
  have hND := hI.1.2.1
  have vn : vp_in (nI n) 200 := vp_in_nI (by omega) (by decide)
  exact sp_goThrough f1 hI (fun w TY hG => bk_X12_typeIn_24 (mm_call_m _) vn vn (fun _ => sp_named (fun v => bk_X12_typeIn_49 (mm_call_m _) (hQ w v hG.1))) (fun _ => sp_named (fun v => bk_X12_typeIn_49 (mm_call_m _) (hQ w v hG.1))))
theorem wrong_72 {n NB ND NF : Nat} {x1 : Int32} (hI : IM mi NB ND NF) (hn : n < ND) (h36 : ∀ x3 x4, mm_WQ (mm_call mm_ms (mm_tb L xs) (d + 1)) (mm_tb L xs) mm_m197 (mm_li mm_m197) Q 36 [some (mm_R 176), some (mm_I x1), some (mm_I (nI n + 1)), x3, x4] [] mi ml) (hQ : ∀ v, Q (some (mm_I v)) mi ml) : ∀ (j i : Nat) {x3 : Int32}, 4 ≤ i + j → i ≤ 4 → mm_WQ (mm_call mm_ms (mm_tb L xs) (d + 1)) (mm_tb L xs) mm_m197 (mm_li mm_m197) Q 72 [some (mm_R 176), some (mm_I x1), some (mm_I (nI n)), some (mm_I x3), some (mm_I (nI i))] [] mi ml := by
  have hND := hI.1.2.1
  have vn : vp_in (nI n) 200 := vp_in_nI (by omega) (by decide)
  have en : (nI n).toNatClampNeg = n := nI_clamp (by omega)
  have hp := f_parts_in (mi 188 n)
  have hp3 : (f_parts (mi 188 n)).toInt ≤ 3 := by rcases hp with hp | hp | hp | hp <;> (rw [hp]; decide)
  intro j
  induction j with
  | zero =>
    intro i x3 h1 h2
    have ei : (nI i).toInt = i := mm_tI (by omega)
    refine bk_X12_wrong_72 (mm_call_m _) vn ?_
    rw [en]
    have hle : f_parts (mi 188 n) ≤ nI i := by rw [Int32.le_iff_toInt_le, ei]; omega
    exact sp_X12_partsOf (bk_X12_wrong_83 (mm_call_m _) (fun _ _ => h36 _ _) (fun _ _ => hQ _) (fun z => absurd hle z) (fun z => absurd hle z))
  | succ j ih =>
    intro i x3 h1 h2
    have ei : (nI i).toInt = i := mm_tI (by omega)
    have es : nI i + 1 = nI (i + 1) := (nI_succ i).symm
    refine bk_X12_wrong_72 (mm_call_m _) vn ?_
    rw [en]
    have h72 : ∀ {z : ¬ f_parts (mi 188 n) ≤ nI i} {y : Int32}, mm_WQ (mm_call mm_ms (mm_tb L xs) (d + 1)) (mm_tb L xs) mm_m197 (mm_li mm_m197) Q 72 [some (mm_R 176), some (mm_I x1), some (mm_I (nI n)), some (mm_I y), some (mm_I (nI i + 1))] [] mi ml := fun {z y} => by
      rw [Int32.le_iff_toInt_le, ei] at z
      rw [es]
      exact ih (i + 1) (by omega) (by omega)
    refine sp_X12_partsOf (bk_X12_wrong_83 (mm_call_m _) (fun _ _ => h36 _ _) (fun _ _ => hQ _) (fun z _ => bk_X12_wrong_110 (mm_call_m _) (h72 (z := z))) (fun z _ => ?_))
    have z' := z
    rw [Int32.le_iff_toInt_le, ei] at z'
    obtain ⟨p, p1, p2, -⟩ := f_part_r (i := nI i) (hI.2.2.2.2.1 n hn) (by omega) (by omega)
    refine sp_X12_partOf (by omega) (bk_X12_wrong_101 (mm_call_m _) ?_ (fun _ => bk_X12_wrong_110 (mm_call_m _) (h72 (z := z))) (fun _ => h72 (z := z)))
    rw [p2]
    exact vp_in_nI (by omega) (by decide)
theorem wrong_36 {NB ND NF : Nat} {x1 : Int32} (hI : IM mi NB ND NF) (hQ : ∀ v, Q (some (mm_I v)) mi ml) : ∀ (j n : Nat) {x3 x4 : Option mm_V}, n + j = ND → mm_WQ (mm_call mm_ms (mm_tb L xs) (d + 1)) (mm_tb L xs) mm_m197 (mm_li mm_m197) Q 36 [some (mm_R 176), some (mm_I x1), some (mm_I (nI n)), x3, x4] [] mi ml := by
  have hND := hI.1.2.1
  have e13 := (ix hI).1
  intro j
  induction j with
  | zero =>
    intro n x3 x4 h
    have hn : n = ND := by omega
    subst hn
    have hle : mi 176 13 ≤ nI n := by rw [hI.2.1.2.1]; exact Int32.le_refl _
    exact bk_X12_wrong_36 (mm_call_m _) (fun _ => hQ _) (fun z => absurd hle z) (fun z => absurd hle z) (fun z => absurd hle z) (fun z => absurd hle z) (fun z => absurd hle z)
  | succ j ih =>
    intro n x3 x4 h
    have hlt : ¬ mi 176 13 ≤ nI n := by
      rw [Int32.le_iff_toInt_le, e13, mm_tI (by omega)]
      omega
    have vn : vp_in (nI n) 200 := vp_in_nI (by omega) (by decide)
    have es : nI n + 1 = nI (n + 1) := (nI_succ n).symm
    have h72 : ∀ {y : Int32}, mm_WQ (mm_call mm_ms (mm_tb L xs) (d + 1)) (mm_tb L xs) mm_m197 (mm_li mm_m197) Q 72 [some (mm_R 176), some (mm_I x1), some (mm_I (nI n)), some (mm_I y), some (mm_I (nI 0))] [] mi ml := fun {y} => wrong_72 hI (by omega) (fun a b => by rw [es]; exact ih (n + 1) (by omega)) hQ 4 0 (by omega) (by omega)
    exact bk_X12_wrong_36 (mm_call_m _) (fun z => absurd z hlt) (fun _ => vn) (fun _ _ => bk_X12_wrong_67 (mm_call_m _) h72) (fun _ _ => vn) (fun _ _ _ => bk_X12_wrong_67 (mm_call_m _) h72) (fun _ _ _ => h72)
theorem sp_wrong {NB ND NF : Nat} {x1 : Int32} (hI : IM mi NB ND NF) (hQ : ∀ w v, PR mi w → Q (some (mm_I v)) w ml) : mm_cq (mm_call mm_ms (mm_tb L xs) (d + 9)) 197 [mm_R 176, mm_I x1] mi ml Q := by
  refine en_X12_wrong (bk_X12_wrong_0 (mm_call_m _) (sp_fun hI (fun f f1 f2 => bk_X12_wrong_5 (s0 := 1) (mm_call_m _) (fun _ => ?_) (fun _ _ => ?_) (fun _ _ => hQ mi _ PR_r) (fun z => absurd z (by decide))) (fun _ => bk_X12_wrong_5 (s0 := 0) (mm_call_m _) (fun z => absurd rfl z) (fun z => absurd rfl z) (fun z => absurd rfl z) (fun _ => hQ mi _ PR_r))))
  · have := hI.1.2.2
    rw [f2]
    exact vp_in_nI (by omega) (by decide)
  · subst f2
    exact sp_goThrough f1 hI (fun w TY hG => bk_X12_wrong_29 (mm_call_m _) (sp_mark (IM_c hI hG.1) f1 (fun w2 g1 g2 => bk_X12_wrong_34 (mm_call_m _) (wrong_36 (IM_c hI (PR_t hG.1 (PR_mf g1 (by omega)))) (fun v => hQ w2 v (PR_t hG.1 (PR_mf g1 (by omega)))) ND 0 (by omega)))))
theorem sp_reaches {NB ND NF : Nat} {x1 x2 : Int32} (hI : IM mi NB ND NF) (hQ : ∀ w v, PR mi w → Q (some (mm_I v)) w ml) : mm_cq (mm_call mm_ms (mm_tb L xs) (d + 4)) 199 [mm_R 176, mm_I x1, mm_I x2] mi ml Q := by
  have hNF := hI.1.2.2
  have h16 : mm_WQ (mm_call mm_ms (mm_tb L xs) (d + 3)) (mm_tb L xs) mm_m199 (mm_li mm_m199) Q 16 [some (mm_R 176), some (mm_I x1), some (mm_I x2)] [] mi ml := bk_X12_reaches_16 (mm_call_m _) (hQ mi _ PR_r)
  refine en_X12_reaches (bk_X12_reaches_0 (mm_call_m _) (sp_fun hI (fun f f1 f2 => bk_X12_reaches_5 (s0 := 1) (mm_call_m _) (fun z => absurd z (by decide)) (fun _ => sp_fun hI (fun n n1 n2 => bk_X12_reaches_13 (s0 := 1) (mm_call_m _) (fun _ => ?_) (fun z => absurd z (by decide))) (fun _ => bk_X12_reaches_13 (s0 := 0) (mm_call_m _) (fun z => absurd rfl z) (fun _ => h16)))) (fun _ => bk_X12_reaches_5 (s0 := 0) (mm_call_m _) (fun _ => h16) (fun z => absurd rfl z))))
  subst f2 n2
  refine sp_findReach hI (fun w hM _ => bk_X12_reaches_23 (mm_call_m _) ?_ (fun _ => hQ w _ (PR_m2 hM)) (fun _ => hQ w _ (PR_m2 hM)))
  rw [rx (by omega) (by omega)]
  exact vp_in_nI (by omega) (by decide)
theorem sp_isUsed {f : Nat} (hf : f < 12) (h1 : used mi f → Q (some (mm_I 1)) mi ml) (h0 : ¬ used mi f → Q (some (mm_I 0)) mi ml) : mm_cq (mm_call mm_ms (mm_tb L xs) (d + 1)) 200 [mm_R 176, mm_I (nI f)] mi ml Q := by
  have ef : (nI f).toNatClampNeg = f := nI_clamp (by omega)
  have hz : nI f = 0 → f = 0 := fun z => by
    have := congrArg Int32.toInt z
    rw [mm_tI (by omega), mm_tt0] at this
    omega
  refine en_X12_isUsed (bk_X12_isUsed_0 (mm_call_m _) (fun z => bk_X12_isUsed_13 (mm_call_m _) (h1 (.inl (hz z)))) (fun _ => vp_in_nI (by omega) (by decide)) (fun z z2 => ?_) (fun z z2 => ?_)) <;> rw [ef] at z2
  · refine h0 (fun q => ?_)
    rcases q with rfl | q
    · exact z rfl
    · exact q z2
  · exact bk_X12_isUsed_13 (mm_call_m _) (h1 (.inr z2))
theorem regular_7 {f NB ND NF : Nat} (hI : IM mi NB ND NF) (hf : f < NF) (hQ : ∀ v, (v = 0 ∨ v = 1) → Q (some (mm_I v)) mi ml) : ∀ (j n : Nat) {x3 x4 : Option mm_V}, n + j = ND → mm_WQ (mm_call mm_ms (mm_tb L xs) d) (mm_tb L xs) mm_m201 lim Q 7 [some (mm_R 176), some (mm_I (nI f)), some (mm_I (nI n)), x3, x4] [] mi ml := by
  have hND := hI.1.2.1
  have hNF := hI.1.2.2
  have e13 := (ix hI).1
  intro j
  induction j with
  | zero =>
    intro n x3 x4 h
    have hn : n = ND := by omega
    subst hn
    have hle : mi 176 13 ≤ nI n := by rw [hI.2.1.2.1]; exact Int32.le_refl _
    have hn' : ∀ {P : Prop}, ¬ mi 176 13 ≤ nI n → P := fun z => absurd hle z
    exact bk_X12_isRegular_7 (mm_call_m _) (fun _ => hQ _ (.inr rfl)) (fun z => hn' z) (fun z => hn' z) (fun z => hn' z) (fun z => hn' z) (fun z => hn' z) (fun z => hn' z) (fun z => hn' z) (fun z => hn' z) (fun z => hn' z) (fun z => hn' z) (fun z => hn' z) (fun z => hn' z) (fun z => hn' z) (fun z => hn' z) (fun z => hn' z) (fun z => hn' z) (fun z => hn' z)
  | succ j ih =>
    intro n x3 x4 h
    have hlt : ¬ mi 176 13 ≤ nI n := by
      rw [Int32.le_iff_toInt_le, e13, mm_tI (by omega)]
      omega
    have vn : vp_in (nI n) 200 := vp_in_nI (by omega) (by decide)
    have en : (nI n).toNatClampNeg = n := nI_clamp (by omega)
    have es : nI n + 1 = nI (n + 1) := (nI_succ n).symm
    have vf : vp_in (nI f) 12 := vp_in_nI (by omega) (by decide)
    have h129 : ∀ {y3 y4 : Option mm_V}, mm_WQ (mm_call mm_ms (mm_tb L xs) d) (mm_tb L xs) mm_m201 lim Q 129 [some (mm_R 176), some (mm_I (nI f)), some (mm_I (nI n)), y3, y4] [] mi ml := fun {y3 y4} => by
      refine bk_X12_isRegular_129 (mm_call_m _) ?_
      rw [es]
      exact ih (n + 1) (by omega)
    have h127 : ∀ {y3 y4 : Int32}, mm_WQ (mm_call mm_ms (mm_tb L xs) d) (mm_tb L xs) mm_m201 lim Q 127 [some (mm_R 176), some (mm_I (nI f)), some (mm_I (nI n)), some (mm_I y3), some (mm_I y4)] [] mi ml := bk_X12_isRegular_127 (mm_call_m _) (hQ _ (.inl rfl))
    have h107 : ∀ {g : Nat} {y4 : Int32}, g < 12 → mm_WQ (mm_call mm_ms (mm_tb L xs) d) (mm_tb L xs) mm_m201 lim Q 107 [some (mm_R 176), some (mm_I (nI f)), some (mm_I (nI n)), some (mm_I (nI g)), some (mm_I y4)] [] mi ml := fun hg => bk_X12_isRegular_107 (mm_call_m _) (vp_in_nI hg (by decide)) (fun _ => h129) (fun _ => vn) (fun _ _ => h129) (fun _ _ => h127)
    have h61 : ∀ {g : Nat} {y4 : Option mm_V}, g < 12 → mm_WQ (mm_call mm_ms (mm_tb L xs) d) (mm_tb L xs) mm_m201 lim Q 61 [some (mm_R 176), some (mm_I (nI f)), some (mm_I (nI n)), some (mm_I (nI g)), y4] [] mi ml := fun hg => bk_X12_isRegular_61 (mm_call_m _) (fun z => absurd z (by decide)) (fun _ => vp_in_nI hg (by decide)) (fun _ => vf) (fun _ _ => h127) (fun _ _ => vp_in_nI hg (by decide)) (fun _ _ _ => h107 hg) (fun _ _ _ => vn) (fun _ _ _ _ => h127) (fun _ _ _ _ => h107 hg)
    have hcall : mi 188 n = 14 → ∃ g, g < 12 ∧ mi 189 n = nI g := fun z => by
      obtain ⟨c1, c2, c3, c4, c5⟩ := hI.2.2.2.2.1 n (by omega)
      obtain ⟨g, g1, g2, g3, g4⟩ := mm_of (c5 z).1.1 (c5 z).1.2
      exact ⟨g, by omega, g1⟩
    refine bk_X12_isRegular_7 (mm_call_m _) (fun z => absurd z hlt) (fun _ => vn) (fun _ _ => h129) (fun _ _ => vn) (fun _ _ _ => h129) (fun _ _ _ => vn) (fun _ _ z _ => ?_) (fun _ _ z _ => ?_) (fun _ _ _ _ _ _ => h129) (fun _ _ _ _ _ z => absurd rfl z) (fun _ _ _ _ _ z => absurd rfl z) (fun _ _ _ _ _ z => absurd rfl z) (fun _ _ _ _ _ z => absurd rfl z) (fun _ _ _ _ _ z => absurd rfl z) (fun _ _ _ _ _ z => absurd rfl z) (fun _ _ _ _ _ z => absurd rfl z) (fun _ _ _ _ _ z => absurd rfl z) (fun _ _ z _ _ => ?_) <;> rw [en] at z ⊢ <;> obtain ⟨g, g1, g2⟩ := hcall z <;> rw [g2]
    · exact h61 g1
    · rw [rx g1 (by omega)]
      exact vp_in_nI (by omega) (by decide)
    · exact h61 g1
theorem sp_isRegular {f NB ND NF : Nat} (hI : IM mi NB ND NF) (hf : f < NF) (hQ : ∀ w v, MF 199 mi w → (v = 0 ∨ v = 1) → Q (some (mm_I v)) w ml) : mm_cq (mm_call mm_ms (mm_tb L xs) (d + 3)) 201 [mm_R 176, mm_I (nI f)] mi ml Q :=
  en_X12_isRegular (bk_X12_isRegular_0 (mm_call_m _) (sp_mark hI hf (fun w g1 _ => bk_X12_isRegular_5 (mm_call_m _) (regular_7 (IM_c hI (PR_mf g1 (by omega))) hf (fun v hv => hQ w v g1 hv) ND 0 (by omega)))))
end MMT
