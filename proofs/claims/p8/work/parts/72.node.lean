/-! ===== node() of the model ===== -/
def okA (NB ND : Nat) (x1 x2 x3 x4 x5 : Int32) : Prop := (x1 = 14 → (0 ≤ x2.toInt ∧ x2.toInt < 12) ∧ ndN ND x3 ∧ (x4 = -1 ∨ tyN NB x4) ∧ (x5 = -1 ∨ tyN NB x5) ∧ (x4 = -1 → x5 = -1)) ∧ (x1 = 9 → tyN NB x2) ∧ (¬ x1 = 14 → (1 ≤ (f_parts x1).toInt → ndN ND x2) ∧ (2 ≤ (f_parts x1).toInt → ndN ND x3) ∧ (3 ≤ (f_parts x1).toInt → ndN ND x4))
theorem mm_ltI {a b : Int32} (h : a < b) : a.toInt < b.toInt := Int32.lt_iff_toInt_lt.mp h
theorem mm_nltI {a b : Int32} (h : ¬ a < b) : b.toInt ≤ a.toInt := by
  rw [Int32.lt_iff_toInt_lt] at h
  omega
theorem mm_nleI {a b : Int32} (h : ¬ a ≤ b) : b.toInt < a.toInt := by
  rw [Int32.le_iff_toInt_le] at h
  omega
section MMT
variable {L : Nat} {xs : Nat → Int32} {d : Nat} {Q : mm_QQ} {mi : mm_P} {ml : mm_G} {lim : Nat × Nat}
theorem sp_typn {NB ND NF : Nat} {x : Int32} (hI : IM mi NB ND NF) (h1 : (x = -1 ∨ tyN NB x) → Q (some (mm_I 1)) mi ml) (h0 : Q (some (mm_I 0)) mi ml) : mm_cq (mm_call mm_ms (mm_tb L xs) (d + 3)) 187 [mm_R 176, mm_I x] mi ml Q :=
  en_X12_isTypeOrNone (bk_X12_isTypeOrNone_0 (mm_call_m _) (fun z => bk_X12_isTypeOrNone_13 (mm_call_m _) (h1 (.inl z))) (fun _ => sp_typ hI (fun t t1 t2 => bk_X12_isTypeOrNone_10 (s0 := 1) (mm_call_m _) (fun z => absurd z (by decide)) (fun _ => bk_X12_isTypeOrNone_13 (mm_call_m _) (h1 (.inr ⟨t, t1, t2⟩)))) (fun _ => bk_X12_isTypeOrNone_10 (s0 := 0) (mm_call_m _) (fun _ => h0) (fun z => absurd rfl z))))
theorem mayBe_149 {NB ND NF : Nat} {x1 x2 x3 x4 x5 : Int32} (hI : IM mi NB ND NF) (h14 : ¬ x1 = 14) (h9 : ¬ x1 = 9) (h1 : okA NB ND x1 x2 x3 x4 x5 → Q (some (mm_I 1)) mi ml) (h0 : Q (some (mm_I 0)) mi ml) : mm_WQ (mm_call mm_ms (mm_tb L xs) (d + 2)) (mm_tb L xs) mm_m188 lim Q 149 [some (mm_R 176), some (mm_I x1), some (mm_I x2), some (mm_I x3), some (mm_I x4), some (mm_I x5), none] [mm_I (f_parts x1)] mi ml := by
  have n1 : ∀ {P : Prop}, (1 : Int32) = 0 → P := fun z => absurd z (by decide)
  have n0 : ∀ {P : Prop}, ¬ (0 : Int32) = 0 → P := fun z => absurd rfl z
  have h192 : mm_WQ (mm_call mm_ms (mm_tb L xs) (d + 2)) (mm_tb L xs) mm_m188 lim Q 192 [some (mm_R 176), some (mm_I x1), some (mm_I x2), some (mm_I x3), some (mm_I x4), some (mm_I x5), some (mm_I (f_parts x1))] [] mi ml := bk_X12_mayBe_192 (mm_call_m _) h0
  have h173 : ndN ND x2 → (2 ≤ (f_parts x1).toInt → ndN ND x3) → mm_WQ (mm_call mm_ms (mm_tb L xs) (d + 2)) (mm_tb L xs) mm_m188 lim Q 173 [some (mm_R 176), some (mm_I x1), some (mm_I x2), some (mm_I x3), some (mm_I x4), some (mm_I x5), some (mm_I (f_parts x1))] [] mi ml := fun a b => by
    have h188 : (3 ≤ (f_parts x1).toInt → ndN ND x4) → mm_WQ (mm_call mm_ms (mm_tb L xs) (d + 2)) (mm_tb L xs) mm_m188 lim Q 188 [some (mm_R 176), some (mm_I x1), some (mm_I x2), some (mm_I x3), some (mm_I x4), some (mm_I x5), some (mm_I (f_parts x1))] [] mi ml := fun c => bk_X12_mayBe_188 (mm_call_m _) (h1 ⟨fun z => absurd z h14, fun z => absurd z h9, fun _ => ⟨fun _ => a, b, c⟩⟩)
    refine bk_X12_mayBe_173 (mm_call_m _) (fun z => h188 (fun y => ?_)) (fun _ => sp_nod hI (fun n n1' n2 => bk_X12_mayBe_185 (s0 := 1) (mm_call_m _) n1 (fun _ => h188 (fun _ => ⟨n, n1', n2⟩))) (fun _ => bk_X12_mayBe_185 (s0 := 0) (mm_call_m _) (fun _ => h192) n0))
    have := mm_ltI z
    rw [mm_tt3] at this
    omega
  refine bk_X12_mayBe_149 (mm_call_m _) (sp_nod hI (fun n e1 e2 => bk_X12_mayBe_156 (s0 := 1) (mm_call_m _) n1 (fun _ z => h173 ⟨n, e1, e2⟩ (fun y => ?_)) (fun _ _ => sp_nod hI (fun k k1 k2 => bk_X12_mayBe_170 (s0 := 1) (mm_call_m _) n1 (fun _ => h173 ⟨n, e1, e2⟩ (fun _ => ⟨k, k1, k2⟩))) (fun _ => bk_X12_mayBe_170 (s0 := 0) (mm_call_m _) (fun _ => h192) n0))) (fun _ => bk_X12_mayBe_156 (s0 := 0) (mm_call_m _) (fun _ => h192) n0 n0))
  have := mm_ltI z
  rw [mm_tt2] at this
  omega
theorem sp_mayBe {NB ND NF : Nat} {x1 x2 x3 x4 x5 : Int32} (hI : IM mi NB ND NF) (h1 : okA NB ND x1 x2 x3 x4 x5 → Q (some (mm_I 1)) mi ml) (h0 : Q (some (mm_I 0)) mi ml) : mm_cq (mm_call mm_ms (mm_tb L xs) (d + 4)) 188 [mm_R 176, mm_I x1, mm_I x2, mm_I x3, mm_I x4, mm_I x5] mi ml Q := by
  have n1 : ∀ {P : Prop}, (1 : Int32) = 0 → P := fun z => absurd z (by decide)
  have n0 : ∀ {P : Prop}, ¬ (0 : Int32) = 0 → P := fun z => absurd rfl z
  have hl : ∀ {x1 : Int32}, f_parts x1 = 0 → ¬ x1 = 14 → ¬ x1 = 9 → okA NB ND x1 x2 x3 x4 x5 := fun e a b => ⟨fun z => absurd z a, fun z => absurd z b, fun _ => by
    rw [e, mm_tt0]
    exact ⟨fun z => absurd z (by decide), fun z => absurd z (by decide), fun z => absurd z (by decide)⟩⟩
  have hp : ¬ x1 = 14 → ¬ x1 = 9 → mm_cq (mm_call mm_ms (mm_tb L xs) (d + 3)) 185 [mm_I x1] mi ml (fun o n1 n2 => mm_WQ (mm_call mm_ms (mm_tb L xs) (d + 3)) (mm_tb L xs) mm_m188 (mm_li mm_m188) Q 149 [some (mm_R 176), some (mm_I x1), some (mm_I x2), some (mm_I x3), some (mm_I x4), some (mm_I x5), none] (o.toList ++ []) n1 n2) := fun a b => sp_X12_partsOf (mayBe_149 (d := d + 1) hI a b h1 h0)
  have h143 : mm_WQ (mm_call mm_ms (mm_tb L xs) (d + 3)) (mm_tb L xs) mm_m188 (mm_li mm_m188) Q 143 [some (mm_R 176), some (mm_I x1), some (mm_I x2), some (mm_I x3), some (mm_I x4), some (mm_I x5), none] [] mi ml := bk_X12_mayBe_143 (mm_call_m _) h0
  have hq : ∀ {k : Int32}, x1 = k → ¬ k = 14 → ¬ k = 9 → mm_cq (mm_call mm_ms (mm_tb L xs) (d + 3)) 185 [mm_I x1] mi ml (fun o n1 n2 => mm_WQ (mm_call mm_ms (mm_tb L xs) (d + 3)) (mm_tb L xs) mm_m188 (mm_li mm_m188) Q 149 [some (mm_R 176), some (mm_I x1), some (mm_I x2), some (mm_I x3), some (mm_I x4), some (mm_I x5), none] (o.toList ++ []) n1 n2) := fun e a b => hp (fun q => a (e.symm.trans q)) (fun q => b (e.symm.trans q))
  have h01 : ∀ {s : Int32}, (s = 0 ∨ s = 1) → s = 0 ∨ s = 1 := fun h => h
  refine en_X12_mayBe (bk_X12_mayBe_0 (mm_call_m _) (fun z => h1 (hl (by rw [z]; decide) (by rw [z]; decide) (by rw [z]; decide))) (fun z => ?_) (fun z => h1 (hl (by rw [z]; decide) (by rw [z]; decide) (by rw [z]; decide))) (fun z => hq z (by decide) (by decide)) (fun z => hq z (by decide) (by decide)) (fun z => hq z (by decide) (by decide)) (fun z => hq z (by decide) (by decide)) (fun z => hq z (by decide) (by decide)) (fun z => hq z (by decide) (by decide)) (fun z => ?_) (fun z => hq z (by decide) (by decide)) (fun z => hq z (by decide) (by decide)) (fun z => hq z (by decide) (by decide)) (fun z => hq z (by decide) (by decide)) (fun z => ?_) (fun _ _ _ _ _ _ _ _ _ z9 _ _ _ _ z14 => hp z14 z9))
  · exact sp_in (fun _ _ => bk_X12_mayBe_84 (s0 := 1) (mm_call_m _) (.inr rfl) (h1 (hl (by rw [z]; decide) (by rw [z]; decide) (by rw [z]; decide)))) (fun _ => bk_X12_mayBe_84 (s0 := 0) (mm_call_m _) (.inl rfl) h0)
  · refine sp_typ hI (fun t t1 t2 => bk_X12_mayBe_90 (s0 := 1) (mm_call_m _) (.inr rfl) (h1 ⟨fun q => ?_, fun _ => ⟨t, t1, t2⟩, fun _ => ?_⟩)) (fun _ => bk_X12_mayBe_90 (s0 := 0) (mm_call_m _) (.inl rfl) h0)
    · rw [z] at q
      exact absurd q (by decide)
    · have e : f_parts x1 = 0 := by rw [z]; decide
      rw [e, mm_tt0]
      exact ⟨fun z => absurd z (by decide), fun z => absurd z (by decide), fun z => absurd z (by decide)⟩
  · refine sp_in (fun a b => bk_X12_mayBe_98 (s0 := 1) (mm_call_m _) n1 (fun _ => sp_nod hI (fun p p1 p2 => bk_X12_mayBe_106 (s0 := 1) (mm_call_m _) n1 (fun _ => sp_typn hI (fun t => bk_X12_mayBe_115 (s0 := 1) (mm_call_m _) n1 (fun _ => sp_typn hI (fun u => ?_) (bk_X12_mayBe_124 (s0 := 0) (mm_call_m _) (fun _ => h143) n0 n0 n0))) (bk_X12_mayBe_115 (s0 := 0) (mm_call_m _) (fun _ => h143) n0))) (fun _ => bk_X12_mayBe_106 (s0 := 0) (mm_call_m _) (fun _ => h143) n0))) (fun _ => bk_X12_mayBe_98 (s0 := 0) (mm_call_m _) (fun _ => h143) n0)
    have h11 : (11 : Int32).toInt = 11 := rfl
    rw [mm_tt0] at a
    rw [h11] at b
    have h139 : (x4 = -1 → x5 = -1) → mm_WQ (mm_call mm_ms (mm_tb L xs) (d + 3)) (mm_tb L xs) mm_m188 (mm_li mm_m188) Q 139 [some (mm_R 176), some (mm_I x1), some (mm_I x2), some (mm_I x3), some (mm_I x4), some (mm_I x5), none] [] mi ml := fun c => bk_X12_mayBe_139 (mm_call_m _) (h1 ⟨fun _ => ⟨⟨a, by omega⟩, ⟨p, p1, p2⟩, t, u, c⟩, fun q => by rw [z] at q; exact absurd q (by decide), fun q => absurd z q⟩)
    exact bk_X12_mayBe_124 (s0 := 1) (mm_call_m _) n1 (fun _ y => h139 (fun w => absurd w y)) (fun _ _ _ => h143) (fun _ _ y => h139 (fun _ => y))
def U7 (w : mm_P) (n : Nat) (a b c e x : Int32) (s : Int32) : mm_P := mm_u (mm_u (mm_u (mm_u (mm_u (mm_u w 189 n a) 190 n b) 191 n c) 192 n e) 193 n x) 176 13 s
theorem node_178 {ND : Nat} {w : mm_P} {x1 x2 x3 x4 x5 x6 x7 x8 A : Int32} (h13 : w 176 13 = nI ND) (hND : ND < 200) (hQ : ∀ B C E v, ((1 < x7 ∨ ¬ x6 = 0) → B = x3) → ((2 < x7 ∨ ¬ x6 = 0) → C = x4) → (¬ x6 = 0 → E = x5) → Q (some (mm_I v)) (U7 w ND A B C E x8 (nI (ND + 1))) ml) : mm_WQ (mm_call mm_ms (mm_tb L xs) d) (mm_tb L xs) mm_m189 lim Q 178 [some (mm_R 176), some (mm_I x1), some (mm_I x2), some (mm_I x3), some (mm_I x4), some (mm_I x5), some (mm_I x6), some (mm_I x7), some (mm_I x8)] [mm_I A, mm_I (nI ND), mm_R 189] w ml := by
  have v : vp_in (nI ND) 200 := vp_in_nI hND (by decide)
  have e : (nI ND).toNatClampNeg = ND := nI_clamp (by omega)
  have h249 : ∀ B C E, ((1 < x7 ∨ ¬ x6 = 0) → B = x3) → ((2 < x7 ∨ ¬ x6 = 0) → C = x4) → (¬ x6 = 0 → E = x5) → mm_WQ (mm_call mm_ms (mm_tb L xs) d) (mm_tb L xs) mm_m189 lim Q 249 [some (mm_R 176), some (mm_I x1), some (mm_I x2), some (mm_I x3), some (mm_I x4), some (mm_I x5), some (mm_I x6), some (mm_I x7), some (mm_I x8)] [mm_I E, mm_I (nI ND), mm_R 192] (mm_u (mm_u (mm_u w 189 ND A) 190 ND B) 191 ND C) ml := fun B C E b c f => by
    have h : mm_u (mm_u (mm_u w 189 ND A) 190 ND B) 191 ND C 176 13 = nI ND := by
      rw [mm_u_e (by decide), mm_u_e (by decide), mm_u_e (by decide)]
      exact h13
    refine bk_X12_node_249 (mm_call_m _) v (by rw [h]; exact v) ?_
    rw [h, e, show nI ND + 1 = nI (ND + 1) from (nI_succ ND).symm]
    exact hQ B C E _ b c f
  have h229 : ∀ B C, ((1 < x7 ∨ ¬ x6 = 0) → B = x3) → ((2 < x7 ∨ ¬ x6 = 0) → C = x4) → mm_WQ (mm_call mm_ms (mm_tb L xs) d) (mm_tb L xs) mm_m189 lim Q 229 [some (mm_R 176), some (mm_I x1), some (mm_I x2), some (mm_I x3), some (mm_I x4), some (mm_I x5), some (mm_I x6), some (mm_I x7), some (mm_I x8)] [mm_I C, mm_I (nI ND), mm_R 191] (mm_u (mm_u w 189 ND A) 190 ND B) ml := fun B C b c => by
    have h : mm_u (mm_u w 189 ND A) 190 ND B 176 13 = nI ND := by
      rw [mm_u_e (by decide), mm_u_e (by decide)]
      exact h13
    refine bk_X12_node_229 (mm_call_m _) v (fun z => ?_) (fun _ => ?_) <;> rw [h, e]
    · exact h249 B C 0 b c (fun q => absurd z q)
    · exact h249 B C x5 b c (fun _ => rfl)
  have h203 : ∀ B, ((1 < x7 ∨ ¬ x6 = 0) → B = x3) → mm_WQ (mm_call mm_ms (mm_tb L xs) d) (mm_tb L xs) mm_m189 lim Q 203 [some (mm_R 176), some (mm_I x1), some (mm_I x2), some (mm_I x3), some (mm_I x4), some (mm_I x5), some (mm_I x6), some (mm_I x7), some (mm_I x8)] [mm_I B, mm_I (nI ND), mm_R 190] (mm_u w 189 ND A) ml := fun B b => by
    have h : mm_u w 189 ND A 176 13 = nI ND := by
      rw [mm_u_e (by decide)]
      exact h13
    refine bk_X12_node_203 (mm_call_m _) v (fun z => bk_X12_node_223 (mm_call_m _) ?_) (fun z z2 => ?_) (fun z z2 => bk_X12_node_223 (mm_call_m _) ?_) <;> rw [h, e]
    · exact h229 B x4 b (fun _ => rfl)
    · exact h229 B 0 b (fun q => absurd (q.resolve_left z) (fun q => q z2))
    · exact h229 B x4 b (fun _ => rfl)
  refine bk_X12_node_178 (mm_call_m _) v (fun z => bk_X12_node_198 (mm_call_m _) ?_) (fun z z2 => ?_) (fun z z2 => bk_X12_node_198 (mm_call_m _) ?_) <;> rw [h13, e]
  · exact h203 x3 (fun _ => rfl)
  · exact h203 0 (fun q => absurd (q.resolve_left z) (fun q => q z2))
  · exact h203 x3 (fun _ => rfl)
/-- the new node is a good one -/
theorem okN_new {NB ND NF : Nat} {m : mm_P} {x1 x2 x3 x4 x5 x6 D A B C E : Int32} (hI : IM m NB ND NF) (hk : 0 ≤ x1.toInt ∧ x1.toInt ≤ 14) (hA : okA NB ND x1 x2 x3 x4 x5) (h6 : (x6 = 0 ∧ ¬ x1 = 14) ∨ (x6 = 1 ∧ x1 = 14)) (hD : 1 ≤ D.toInt ∧ D.toInt ≤ 12) (hp : (x1 = 14 → ∀ p, p < ND → x3 = nI p → (m 193 p).toInt < D.toInt) ∧ (¬ x1 = 14 → (1 ≤ (f_parts x1).toInt → ∀ p, p < ND → x2 = nI p → (m 193 p).toInt < D.toInt) ∧ (2 ≤ (f_parts x1).toInt → ∀ p, p < ND → x3 = nI p → (m 193 p).toInt < D.toInt) ∧ (3 ≤ (f_parts x1).toInt → ∀ p, p < ND → x4 = nI p → (m 193 p).toInt < D.toInt))) (hAA : ¬ x1 = 2 → A = x2) (hB : (1 < f_parts x1 ∨ ¬ x6 = 0) → B = x3) (hC : (2 < f_parts x1 ∨ ¬ x6 = 0) → C = x4) (hE : ¬ x6 = 0 → E = x5) {s : Int32} : okN NB (U7 (mm_u m 188 ND x1) ND A B C E D s) ND := by
  have e188 : U7 (mm_u m 188 ND x1) ND A B C E D s 188 ND = x1 := by
    unfold U7
    rw [mm_u_e (by decide), mm_u_e (by decide), mm_u_e (by decide), mm_u_e (by decide), mm_u_e (by decide), mm_u_e (by decide), mm_u_s]
  have e189 : U7 (mm_u m 188 ND x1) ND A B C E D s 189 ND = A := by
    unfold U7
    rw [mm_u_e (by decide), mm_u_e (by decide), mm_u_e (by decide), mm_u_e (by decide), mm_u_e (by decide), mm_u_s]
  have e190 : U7 (mm_u m 188 ND x1) ND A B C E D s 190 ND = B := by
    unfold U7
    rw [mm_u_e (by decide), mm_u_e (by decide), mm_u_e (by decide), mm_u_e (by decide), mm_u_s]
  have e191 : U7 (mm_u m 188 ND x1) ND A B C E D s 191 ND = C := by
    unfold U7
    rw [mm_u_e (by decide), mm_u_e (by decide), mm_u_e (by decide), mm_u_s]
  have e192 : U7 (mm_u m 188 ND x1) ND A B C E D s 192 ND = E := by
    unfold U7
    rw [mm_u_e (by decide), mm_u_e (by decide), mm_u_s]
  have e193 : U7 (mm_u m 188 ND x1) ND A B C E D s 193 ND = D := by
    unfold U7
    rw [mm_u_e (by decide), mm_u_s]
  have e193' : ∀ p, p < ND → U7 (mm_u m 188 ND x1) ND A B C E D s 193 p = m 193 p := fun p hp => by
    unfold U7
    rw [mm_u_e (by decide), mm_u_f (by omega), mm_u_e (by decide), mm_u_e (by decide), mm_u_e (by decide), mm_u_e (by decide), mm_u_e (by decide)]
  have hpa : ∀ v, ndN ND v → (∀ p, p < ND → v = nI p → (m 193 p).toInt < D.toInt) → pa (U7 (mm_u m 188 ND x1) ND A B C E D s) ND v := fun v ⟨p, p1, p2⟩ h => ⟨p, p1, p2, by rw [e193, e193' p p1]; exact h p p1 p2⟩
  obtain ⟨k1, k2, k3⟩ := hA
  have hlt : ∀ {a b : Int32} {n : Int}, a.toInt = n → n + 1 ≤ b.toInt → a < b := fun e h => by
    rw [Int32.lt_iff_toInt_lt, e]
    omega
  have f2 : f_parts 2 = 0 := by decide
  have h2 : 1 ≤ (f_parts x1).toInt → ¬ x1 = 2 := fun q z => by
    rw [z, f2, mm_tt0] at q
    omega
  unfold okN
  rw [e188, e189, e190, e191, e192, e193]
  refine ⟨hk, hD, fun z => ⟨fun y => ?_, fun y => ?_, fun y => ?_⟩, fun z => ?_, fun z => ?_⟩
  · rw [hAA (h2 y)]
    exact hpa _ ((k3 z).1 y) ((hp.2 z).1 y)
  · rw [hB (.inl (hlt mm_tt1 y))]
    exact hpa _ ((k3 z).2.1 y) ((hp.2 z).2.1 y)
  · rw [hC (.inl (hlt mm_tt2 y))]
    exact hpa _ ((k3 z).2.2 y) ((hp.2 z).2.2 y)
  · rw [hAA (by rw [z]; decide)]
    exact k2 z
  · have x60 : ¬ x6 = 0 := by
      rcases h6 with q | q
      · exact absurd z q.2
      · rw [q.1]
        decide
    rw [hAA (by rw [z]; decide), hB (.inr x60), hC (.inr x60), hE x60]
    obtain ⟨k4, k5, k6⟩ := k1 z
    exact ⟨k4, hpa _ k5 (hp.1 z), k6⟩
theorem node_125 {NB ND NF : Nat} {x1 x2 x3 x4 x5 x6 D : Int32} {x8 : Int32} (hI : IM mi NB ND NF) (hk : 0 ≤ x1.toInt ∧ x1.toInt ≤ 14) (hA : okA NB ND x1 x2 x3 x4 x5) (h6 : (x6 = 0 ∧ ¬ x1 = 14) ∨ (x6 = 1 ∧ x1 = 14)) (hD : 1 ≤ D.toInt) (hp : (x1 = 14 → ∀ p, p < ND → x3 = nI p → (mi 193 p).toInt < D.toInt) ∧ (¬ x1 = 14 → (1 ≤ (f_parts x1).toInt → ∀ p, p < ND → x2 = nI p → (mi 193 p).toInt < D.toInt) ∧ (2 ≤ (f_parts x1).toInt → ∀ p, p < ND → x3 = nI p → (mi 193 p).toInt < D.toInt) ∧ (3 ≤ (f_parts x1).toInt → ∀ p, p < ND → x4 = nI p → (mi 193 p).toInt < D.toInt))) (hQ : ∀ n ND' v, IM n NB ND' NF → KO mi n → Q (some (mm_I v)) n ml) : mm_WQ (mm_call mm_ms (mm_tb L xs) d) (mm_tb L xs) mm_m189 lim Q 125 [some (mm_R 176), some (mm_I x1), some (mm_I x2), some (mm_I x3), some (mm_I x4), some (mm_I x5), some (mm_I x6), some (mm_I (f_parts x1)), some (mm_I x8)] [mm_I D] mi ml := by
  have hND := hI.1.2.1
  have hv : ¬ mi 176 13 = 200 → ND < 200 := fun z => by
    rw [hI.2.1.2.1] at z
    exact mm_ne200 z hND
  have hfin : D ≤ 12 → ND < 200 → ∀ A, (¬ x1 = 2 → A = x2) → mm_WQ (mm_call mm_ms (mm_tb L xs) d) (mm_tb L xs) mm_m189 lim Q 178 [some (mm_R 176), some (mm_I x1), some (mm_I x2), some (mm_I x3), some (mm_I x4), some (mm_I x5), some (mm_I x6), some (mm_I (f_parts x1)), some (mm_I D)] [mm_I A, mm_I (nI ND), mm_R 189] (mm_u mi 188 ND x1) ml := fun z hlt A hAA => by
    have z' := mm_leI z
    rw [mm_tt12] at z'
    refine node_178 (by rw [mm_u_e (by decide)]; exact hI.2.1.2.1) hlt (fun B C E v b c e => hQ _ (ND + 1) v (IM_node hI hlt ?_ ?_ ?_ (fun c i q q2 => ?_) (okN_new hI hk hA h6 ⟨hD, z'⟩ hp hAA b c e)) ?_)
    · unfold U7
      rw [mm_u_s]
    · unfold U7
      rw [mm_u_f (by decide), mm_u_e (by decide), mm_u_e (by decide), mm_u_e (by decide), mm_u_e (by decide), mm_u_e (by decide), mm_u_e (by decide)]
    · unfold U7
      rw [mm_u_f (by decide), mm_u_e (by decide), mm_u_e (by decide), mm_u_e (by decide), mm_u_e (by decide), mm_u_e (by decide), mm_u_e (by decide)]
    · unfold U7
      rw [mm_u_o (by omega), mm_u_o (by omega), mm_u_o (by omega), mm_u_o (by omega), mm_u_o (by omega), mm_u_o (by omega), mm_u_o (by omega)]
    · exact KO_u (KO_u (KO_u (KO_u (KO_u (KO_u (KO_u KO_r (.inl (by decide))) (.inl (by decide))) (.inl (by decide))) (.inl (by decide))) (.inl (by decide))) (.inl (by decide))) (.inr ⟨rfl, by decide, by decide⟩)
  refine bk_X12_node_125 (mm_call_m _) (fun _ z => ?_) (fun y z z2 => ?_) (fun y z z2 => ?_) (fun _ _ => hQ mi ND _ hI KO_r) (fun _ => hQ mi ND _ hI KO_r)
  · rw [hI.2.1.2.1]
    exact vp_in_nI (hv z) (by decide)
  · have := hv z
    rw [hI.2.1.2.1, nI_clamp (by omega)]
    exact hfin y this x2 (fun _ => rfl)
  · have := hv z
    rw [hI.2.1.2.1, nI_clamp (by omega)]
    exact hfin y this 0 (fun q => absurd z2 q)
theorem sp_node {NB ND NF : Nat} {x1 x2 x3 x4 x5 : Int32} (hI : IM mi NB ND NF) (hQ : ∀ n ND' v, IM n NB ND' NF → KO mi n → Q (some (mm_I v)) n ml) : mm_cq (mm_call mm_ms (mm_tb L xs) (d + 5)) 189 [mm_R 176, mm_I x1, mm_I x2, mm_I x3, mm_I x4, mm_I x5] mi ml Q := by
  have hND := hI.1.2.1
  have n1 : ∀ {P : Prop}, (1 : Int32) = 0 → P := fun z => absurd z (by decide)
  have n0 : ∀ {P : Prop}, ¬ (0 : Int32) = 0 → P := fun z => absurd rfl z
  have h24 : mm_WQ (mm_call mm_ms (mm_tb L xs) (d + 4)) (mm_tb L xs) mm_m189 (mm_li mm_m189) Q 24 [some (mm_R 176), some (mm_I x1), some (mm_I x2), some (mm_I x3), some (mm_I x4), some (mm_I x5), none, none, none] [] mi ml := bk_X12_node_24 (mm_call_m _) (hQ mi ND _ hI KO_r)
  refine en_X12_node (bk_X12_node_0 (mm_call_m _) (sp_in (fun k0 k1 => bk_X12_node_7 (s0 := 1) (mm_call_m _) n1 (fun _ => sp_mayBe hI (fun hA => ?_) (bk_X12_node_21 (s0 := 0) (mm_call_m _) n0 n0 (fun _ => h24)))) (fun _ => bk_X12_node_7 (s0 := 0) (mm_call_m _) (fun _ => h24) n0)))
  rw [mm_tt0] at k0
  rw [mm_tt14] at k1
  have hd : ∀ p, p < ND → 1 ≤ (mi 193 p).toInt ∧ (mi 193 p).toInt ≤ 12 := fun p h => (hI.2.2.2.2.1 p h).2.1
  have h38 : ∀ x6 : Int32, ((x6 = 0 ∧ ¬ x1 = 14) ∨ (x6 = 1 ∧ x1 = 14)) → mm_WQ (mm_call mm_ms (mm_tb L xs) (d + 4)) (mm_tb L xs) mm_m189 (mm_li mm_m189) Q 38 [some (mm_R 176), some (mm_I x1), some (mm_I x2), some (mm_I x3), some (mm_I x4), some (mm_I x5), none, none, none] [mm_I x6] mi ml := fun x6 h6 => by
    have h98 : ∀ (D x8 : Int32), (1 ≤ D.toInt ∧ D.toInt ≤ 13) → ((x1 = 14 → ∀ p, p < ND → x3 = nI p → (mi 193 p).toInt < D.toInt) ∧ (¬ x1 = 14 → (1 ≤ (f_parts x1).toInt → ∀ p, p < ND → x2 = nI p → (mi 193 p).toInt < D.toInt) ∧ (2 ≤ (f_parts x1).toInt → ∀ p, p < ND → x3 = nI p → (mi 193 p).toInt < D.toInt))) → mm_WQ (mm_call mm_ms (mm_tb L xs) (d + 4)) (mm_tb L xs) mm_m189 (mm_li mm_m189) Q 98 [some (mm_R 176), some (mm_I x1), some (mm_I x2), some (mm_I x3), some (mm_I x4), some (mm_I x5), some (mm_I x6), some (mm_I (f_parts x1)), some (mm_I x8)] [mm_I D] mi ml := fun D x8 hD hp => by
      have h14 : ¬ f_parts x1 ≤ 2 → ndN ND x4 ∧ ¬ x1 = 14 := fun z => by
        have z' := mm_nleI z
        rw [mm_tt2] at z'
        have hx : ¬ x1 = 14 := fun q => by
          rw [q, f_parts_v.2.2.2.2.2.2.2.2.2.2.2, mm_tt1] at z'
          omega
        exact ⟨(hA.2.2 hx).2.2 (by omega), hx⟩
      refine bk_X12_node_98 (mm_call_m _) (fun z => node_125 hI ⟨k0, k1⟩ hA h6 hD.1 ⟨hp.1, fun q => ⟨(hp.2 q).1, (hp.2 q).2, fun y => ?_⟩⟩ hQ) (fun z => ?_) (fun z => ?_)
      · have z' := mm_leI z
        rw [mm_tt2] at z'
        omega
      · obtain ⟨⟨p, p1, p2⟩, -⟩ := h14 z
        rw [p2]
        exact vp_in_nI (by omega) (by decide)
      · obtain ⟨⟨p, p1, p2⟩, hx⟩ := h14 z
        have ep : x4.toNatClampNeg = p := by rw [p2]; exact nI_clamp (by omega)
        rw [ep]
        have d1 := hd p p1
        have e1 : (1 + mi 193 p).toInt = 1 + (mi 193 p).toInt := mm_1p (by omega) (by omega)
        have hm := f_most_r (x := D) (y := 1 + mi 193 p) (lo := 1) (hi := 13) (by omega) (by omega)
        refine sp_most (bk_X12_node_120 (mm_call_m _) (node_125 hI ⟨k0, k1⟩ hA h6 hm.1.1 ⟨fun q => absurd q hx, fun q => ⟨fun a b c e => ?_, fun a b c e => ?_, fun _ b _ e => ?_⟩⟩ hQ))
        · have := (hp.2 q).1 a b c e
          omega
        · have := (hp.2 q).2 a b c e
          omega
        · have : b = p := nI_ij (by omega) (by omega) (e.symm.trans p2)
          subst this
          omega
    have h72 : ∀ (D : Int32), (1 ≤ D.toInt ∧ D.toInt ≤ 13) → ((x1 = 14 → ∀ p, p < ND → x3 = nI p → (mi 193 p).toInt < D.toInt) ∧ (¬ x1 = 14 → (1 ≤ (f_parts x1).toInt → ∀ p, p < ND → x2 = nI p → (mi 193 p).toInt < D.toInt))) → mm_WQ (mm_call mm_ms (mm_tb L xs) (d + 4)) (mm_tb L xs) mm_m189 (mm_li mm_m189) Q 72 [some (mm_R 176), some (mm_I x1), some (mm_I x2), some (mm_I x3), some (mm_I x4), some (mm_I x5), some (mm_I x6), some (mm_I (f_parts x1)), none] [mm_I D] mi ml := fun D hD hp => by
      have h14 : ¬ f_parts x1 ≤ 1 → ndN ND x3 ∧ ¬ x1 = 14 := fun z => by
        have z' := mm_nleI z
        rw [mm_tt1] at z'
        have hx : ¬ x1 = 14 := fun q => by
          rw [q, f_parts_v.2.2.2.2.2.2.2.2.2.2.2, mm_tt1] at z'
          omega
        exact ⟨(hA.2.2 hx).2.1 (by omega), hx⟩
      refine bk_X12_node_72 (mm_call_m _) (fun z => h98 D D hD ⟨hp.1, fun q => ⟨(hp.2 q), fun y => ?_⟩⟩) (fun z => ?_) (fun z => ?_)
      · have z' := mm_leI z
        rw [mm_tt1] at z'
        omega
      · obtain ⟨⟨p, p1, p2⟩, -⟩ := h14 z
        rw [p2]
        exact vp_in_nI (by omega) (by decide)
      · obtain ⟨⟨p, p1, p2⟩, hx⟩ := h14 z
        have ep : x3.toNatClampNeg = p := by rw [p2]; exact nI_clamp (by omega)
        rw [ep]
        have d1 := hd p p1
        have e1 : (1 + mi 193 p).toInt = 1 + (mi 193 p).toInt := mm_1p (by omega) (by omega)
        have hm := f_most_r (x := D) (y := 1 + mi 193 p) (lo := 1) (hi := 13) (by omega) (by omega)
        refine sp_most (bk_X12_node_93 (mm_call_m _) (h98 _ D hm.1 ⟨fun q => absurd q hx, fun q => ⟨fun a b c e => ?_, fun _ b _ e => ?_⟩⟩))
        · have := (hp.2 q) a b c e
          omega
        · have : b = p := nI_ij (by omega) (by omega) (e.symm.trans p2)
          subst this
          omega
    have h70 : ∀ (x : Int32), ndN ND x → (x1 = 14 → x = x3) → (¬ x1 = 14 → x = x2) → mm_WQ (mm_call mm_ms (mm_tb L xs) (d + 4)) (mm_tb L xs) mm_m189 (mm_li mm_m189) Q 70 [some (mm_R 176), some (mm_I x1), some (mm_I x2), some (mm_I x3), some (mm_I x4), some (mm_I x5), some (mm_I x6), some (mm_I (f_parts x1)), none] [mm_I x, mm_R 193, mm_I 1] mi ml := fun x ⟨p, p1, p2⟩ a b => by
      have d1 := hd p p1
      have e1 : (1 + mi 193 p).toInt = 1 + (mi 193 p).toInt := mm_1p (by omega) (by omega)
      have ep : x.toNatClampNeg = p := by rw [p2]; exact nI_clamp (by omega)
      refine bk_X12_node_70 (mm_call_m _) (by rw [p2]; exact vp_in_nI (by omega) (by decide)) ?_
      rw [ep]
      refine h72 _ (by omega) ⟨fun q k k1 k2 => ?_, fun q _ k k1 k2 => ?_⟩
      · have : k = p := nI_ij (by omega) (by omega) (k2.symm.trans ((a q).symm.trans p2))
        subst this
        omega
      · have : k = p := nI_ij (by omega) (by omega) (k2.symm.trans ((b q).symm.trans p2))
        subst this
        omega
    refine bk_X12_node_38 (mm_call_m _) (sp_X12_partsOf (bk_X12_node_44 (mm_call_m _) (fun z z2 => ?_) (fun z z2 => ?_) (fun z => ?_)))
    · have hx : ¬ x1 = 14 := by
        rcases h6 with q | q
        · exact q.2
        · rw [q.1] at z2
          exact absurd z2 (by decide)
      refine h70 x2 ((hA.2.2 hx).1 ?_) (fun q => absurd q hx) (fun _ => rfl)
      rcases f_parts_in x1 with q | q | q | q
      · exact absurd q z
      · rw [q]; decide
      · rw [q]; decide
      · rw [q]; decide
    · have hx : x1 = 14 := by
        rcases h6 with q | q
        · exact absurd q.1 z2
        · exact q.2
      exact h70 x3 (hA.1 hx).2.1 (fun _ => rfl) (fun q => absurd hx q)
    · have hx : ¬ x1 = 14 := fun q => by
        rw [q, f_parts_v.2.2.2.2.2.2.2.2.2.2.2] at z
        exact absurd z (by decide)
      refine h72 1 (by rw [mm_tt1]; omega) ⟨fun q => absurd q hx, fun _ y => ?_⟩
      rw [z, mm_tt0] at y
      omega
  exact bk_X12_node_21 (s0 := 1) (mm_call_m _) (fun _ z => h38 0 (.inl ⟨rfl, z⟩)) (fun _ z => h38 1 (.inr ⟨rfl, z⟩)) n1
end MMT
