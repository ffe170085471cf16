/-! ===== reading: the machine of copies ===== -/
def cf : Nat → Nat
  | 0 => 0
  | 1 => 0
  | k + 2 => 4 * (cf (k + 1) + 1 + 2 ^ k)
theorem cf_s (k : Nat) : cf (k + 2) = 4 * (cf (k + 1) + 1 + 2 ^ k) := rfl
/-- only reading was done -/
def FRc (w w' : mm_P) : Prop := ∀ c i, ¬ c = 171 → ¬ (c = 170 ∧ (i = 8 ∨ i = 9)) → ¬ (c = 160 ∧ i = 2) → w' c i = w c i
theorem FRc_t {w w' w2 : mm_P} (a : FRc w w') (b : FRc w' w2) : FRc w w2 := fun c i q1 q2 q3 => (b c i q1 q2 q3).trans (a c i q1 q2 q3)
/-- what is left behind by readValue() -/
def RVc (w w' : mm_P) (N : Nat) (S : Int64) (k st p h e : Nat) (A B : HF) (φ : Nat → Nat) (R : ZRT) : Prop := ∃ v A' B' h' e' φ' p', R = (v, A', B', h', e') ∧ (w' 170 8 = nI (st + wd S) ∧ w' 170 9 = nI p' ∧ p ≤ p' ∧ p' ≤ p + cf k ∧ h ≤ h' ∧ h' ≤ h + cn k) ∧ (w' 160 2 = nI (min e' N) ∧ e ≤ e' ∧ e' ≤ e + en k) ∧ FRc w w' ∧ (∀ i, i < st → w' 171 i = w 171 i) ∧ (∀ i, 4096 ≤ i → i < p → w' 171 i = w 171 i) ∧ (∀ a, a < h → A' a = A a ∧ B' a = B a ∧ φ' a = φ a) ∧ (qV p S).1 A' B' h' p' (w' 171) φ' v (fun i => w' 171 (st + i))
/-- the model's links, made behind the machine's -/
theorem lc_lsC {S : Int64} (hS : CLs S) {vs K : HF} {l : Nat → Nat} {n lo p : Nat} (hl : ∀ i, i < n → lo ≤ l i ∧ l i + 1 + wd S ≤ p) (hK : ∀ i, i < n → K (l i) = if i + 1 < n then nI (l (i + 1)) else 0) : ∀ (j : Nat) {A B : HF} {h : Nat} {φ : Nat → Nat} {v0 v : Int32} {A' B' : HF} {h' : Nat}, j ≤ n → lsC vs j A B h v0 = (v, A', B', h') → (∀ i, i < j → (qV lo S).1 A B h p K φ (vs i) (fun q => K (l i + 1 + q))) → (qL lo (qV lo S)).1 A B h p K φ v0 (fun _ => if j < n then nI (l j) else 0) → ∃ φ', (∀ a, a < h → A' a = A a ∧ B' a = B a ∧ φ' a = φ a) ∧ h' = h + j ∧ (qL lo (qV lo S)).1 A' B' h' p K φ' v (fun _ => if 0 < n then nI (l 0) else 0) := by
  obtain ⟨hw, ho⟩ := qV_w lo S hS
  intro j
  induction j with
  | zero =>
    intro A B h φ v0 v A' B' h' hj hc hv hl0
    have e : (v0, A, B, h) = (v, A', B', h') := hc
    cases e
    exact ⟨φ, fun _ _ => ⟨rfl, rfl, rfl⟩, rfl, hl0⟩
  | succ j ih =>
    intro A B h φ v0 v A' B' h' hj hc hv hl0
    have hc' : lsC vs j (fu A h (vs j)) (fu B h v0) (h + 1) (nI h) = (v, A', B', h') := hc
    have hE : FE lo A B h p K φ (fu A h (vs j)) (fu B h v0) (h + 1) p K (fφ φ h (l j)) := ⟨⟨Nat.le_succ _, Nat.le_refl _⟩, fun a ha => ⟨fu_o (by omega), fu_o (by omega), fφ_o (by omega)⟩, fun _ _ _ => rfl⟩
    have h1 : (qV lo S).1 (fu A h (vs j)) (fu B h v0) (h + 1) p K (fφ φ h (l j)) (fu A h (vs j) h) (fun q => K (fφ φ h (l j) h + 1 + q)) := by
      rw [fu_s, fφ_s]
      exact qV_m hS hE (fun _ _ => rfl) (hv j (by omega))
    have h2 : (qL lo (qV lo S)).1 (fu A h (vs j)) (fu B h v0) (h + 1) p K (fφ φ h (l j)) (fu B h v0 h) (fun _ => K (fφ φ h (l j) h)) := by
      rw [fu_s, fφ_s, hK j (by omega)]
      exact (oFR_L ho) _ _ _ _ _ _ _ _ _ _ _ _ hE _ _ _ (fun _ _ => rfl) hl0
    have hb : lo ≤ fφ φ h (l j) h ∧ fφ φ h (l j) h + 1 + (qV lo S).2 ≤ p := by
      rw [fφ_s, hw]
      exact hl j (by omega)
    have h3 := qL_link (P := qV lo S) (a := h) (c := fun _ => if j < n then nI (l j) else 0) (Nat.lt_succ_self h) (by rw [fφ_s]; exact if_pos (by omega)) hb h1 h2
    obtain ⟨φ', b1, b2, b3⟩ := ih (φ := fφ φ h (l j)) (by omega) hc' (fun i hi => qV_m hS hE (fun _ _ => rfl) (hv i (by omega))) h3
    refine ⟨φ', fun a ha => ?_, by omega, b3⟩
    obtain ⟨x1, x2, x3⟩ := b1 a (by omega)
    exact ⟨x1.trans (fu_o (by omega)), x2.trans (fu_o (by omega)), x3.trans (fφ_o (by omega))⟩
/-- what a list's reading has come to behind i elements -/
def RLc (m w0 w : mm_P) (N : Nat) (S : Int64) (k a st p0 h0 e0 : Nat) (A0 B0 : HF) (φ0 : Nat → Nat) (i : Nat) (l : Nat → Nat) (vs A B : HF) (h e p : Nat) (φ : Nat → Nat) : Prop := rdN (fun _ => rd m k a) i A0 B0 h0 e0 = (vs, A, B, h, e) ∧ (w 170 8 = nI st ∧ w 170 9 = nI p ∧ p0 ≤ p ∧ p ≤ p0 + i * (cf k + 1 + wd S) ∧ h0 ≤ h ∧ h ≤ h0 + i * cn k) ∧ (w 160 2 = nI (min e N) ∧ e0 ≤ e ∧ e ≤ e0 + i * en k) ∧ FRc w0 w ∧ (∀ i, i < st → w 171 i = w0 171 i) ∧ (∀ i, 4096 ≤ i → i < p0 → w 171 i = w0 171 i) ∧ (∀ a, a < h0 → A a = A0 a ∧ B a = B0 a ∧ φ a = φ0 a) ∧ (∀ j, j < i → (p0 ≤ l j ∧ l j + 1 + wd S ≤ p) ∧ w 171 (l j) = (if j + 1 < i then nI (l (j + 1)) else 0) ∧ ∃ q, p0 ≤ q ∧ q ≤ l j ∧ (qV q S).1 A B h (l j) (w 171) φ (vs j) (fun r => w 171 (l j + 1 + r))) ∧ ∀ j j', j < j' → j' < i → l j + 1 + wd S ≤ l j'
theorem rc_step {m w0 w w1 w3 : mm_P} {N : Nat} {S : Int64} {k a st p0 h0 e0 i : Nat} {A0 B0 : HF} {φ0 : Nat → Nat} {l : Nat → Nat} {vs A B : HF} {h e p : Nat} {φ : Nat → Nat} {v : Int32} {A1 B1 : HF} {h1 e1 p1 : Nat} {φ1 : Nat → Nat} (hS : CLs S) (hst : st < 4096) (hp0 : 4096 ≤ p0) (hR : RLc m w0 w N S k a st p0 h0 e0 A0 B0 φ0 i l vs A B h e p φ)
  (r1 : rd m k a A B h e = (v, A1, B1, h1, e1)) (r2 : p ≤ p1 ∧ p1 ≤ p + cf k ∧ h ≤ h1 ∧ h1 ≤ h + cn k) (r3 : w1 160 2 = nI (min e1 N) ∧ e ≤ e1 ∧ e1 ≤ e + en k) (r4 : FRc w w1) (r5 : ∀ i, i < st → w1 171 i = w 171 i) (r6 : ∀ i, 4096 ≤ i → i < p → w1 171 i = w 171 i) (r7 : ∀ a, a < h → A1 a = A a ∧ B1 a = B a ∧ φ1 a = φ a) (r10 : (qV p S).1 A1 B1 h1 p1 (w1 171) φ1 v (fun i => w1 171 (st + i)))
  (g1 : ∀ c i', ¬ c = 171 → ¬ (c = 170 ∧ (i' = 8 ∨ i' = 9)) → w3 c i' = w1 c i') (g2 : w3 170 8 = nI st) (g3 : w3 170 9 = nI (p1 + (1 + wd S))) (ga : ∀ c, c < st → w3 171 c = w1 171 c) (gb : w3 171 p1 = 0) (gc : ∀ r, r < wd S → w3 171 (p1 + 1 + r) = w1 171 (st + r)) (gd : ∀ j, j + 1 = i → w3 171 (l j) = nI p1) (ge : ∀ c, 4096 ≤ c → c < p1 → (∀ j, j + 1 = i → ¬ c = l j) → w3 171 c = w1 171 c) : RLc m w0 w3 N S k a st p0 h0 e0 A0 B0 φ0 (i + 1) (fφ l i p1) (fu vs i v) A1 B1 h1 e1 (p1 + (1 + wd S)) φ1 := by
  obtain ⟨q1, ⟨q2, q3, q4, q4', q5, q6⟩, ⟨q7, q8, q9⟩, q10, q11, q12, q13, q16, q17⟩ := hR
  obtain ⟨s3, s3', s4, s5⟩ := r2
  obtain ⟨t1, t2, t3⟩ := r3
  have hlp : ∀ j, j + 1 = i → p0 ≤ l j ∧ l j + 1 + wd S ≤ p := fun j q => (q16 j (by omega)).1
  have hK : ∀ c, 4096 ≤ c → c < p → (∀ j, j + 1 = i → ¬ c = l j) → w3 171 c = w 171 c := fun c c1 c2 c3 => (ge c c1 (by omega) c3).trans (r6 c c1 c2)
  refine ⟨rdN_s q1 r1, ⟨g2, g3, by omega, ?_, by omega, ?_⟩, ⟨(g1 160 2 (by decide) (by omega)).trans t1, by omega, ?_⟩, FRc_t q10 (FRc_t r4 (fun c i' z1 z2 _ => g1 c i' z1 z2)), fun c hc => (ga c hc).trans ((r5 c hc).trans (q11 c hc)), fun c c1 c2 => (hK c c1 (by omega) (fun j hj z => ?_)).trans (q12 c c1 c2), fun b hb => ?_, fun j hj => ?_, fun j j' z1 z2 => ?_⟩
  · rw [Nat.add_mul, Nat.one_mul]
    omega
  · rw [Nat.add_mul, Nat.one_mul]
    omega
  · rw [Nat.add_mul, Nat.one_mul]
    omega
  · have := hlp j hj
    omega
  · obtain ⟨x1, x2, x3⟩ := r7 b (by omega)
    obtain ⟨y1, y2, y3⟩ := q13 b hb
    exact ⟨x1.trans y1, x2.trans y2, x3.trans y3⟩
  · by_cases z : j = i
    · subst z
      rw [fφ_s, fu_s, if_neg (by omega)]
      refine ⟨⟨by omega, by omega⟩, gb, p, by omega, s3, ?_⟩
      exact qV_m hS ⟨⟨Nat.le_refl _, Nat.le_refl _⟩, fun _ _ => ⟨rfl, rfl, rfl⟩, fun c c1 c2 => ge c (by omega) c2 (fun j' hj' q => by have := hlp j' hj'; omega)⟩ gc r10
    · obtain ⟨⟨x1, x2⟩, x3, q, y1, y2, y3⟩ := q16 j (by omega)
      have hmax : ∀ j', j' + 1 = i → l j = l j' ∨ l j + 1 + wd S ≤ l j' := fun j' hj' => by
        by_cases y : j = j'
        · exact .inl (by rw [y])
        · exact .inr (q17 j j' (by omega) (by omega))
      rw [fφ_o z, fu_o z, if_pos (by omega)]
      refine ⟨⟨x1, by omega⟩, ?_, q, y1, y2, ?_⟩
      · by_cases y : j + 1 = i
        · rw [y, fφ_s]
          exact gd j y
        · rw [fφ_o y, hK (l j) (by omega) (by omega) (fun j' hj' e => ?_), x3, if_pos (by omega)]
          have := q17 j j' (by omega) (by omega)
          omega
      · refine qV_m hS ⟨⟨s4, Nat.le_refl _⟩, r7, fun c c1 c2 => hK c (by omega) (by omega) (fun j' hj' e => ?_)⟩ (fun r hr => hK _ (by omega) (by omega) (fun j' hj' e => ?_)) y3
        · have := hmax j' hj'
          omega
        · have := hmax j' hj'
          omega
  · by_cases z : j' = i
    · subst z
      have := (q16 j (by omega)).1
      rw [fφ_s, fφ_o (by omega)]
      omega
    · rw [fφ_o (by omega), fφ_o z]
      exact q17 j j' z1 (by omega)
section MMT
variable {L : Nat} {xs : Nat → Int32} {d : Nat} {ml : mm_G} {lim : Nat × Nat} {m : mm_P} {N : Nat}
theorem cc_rloop {S : Int64} (hS : CLs S) {w0 : mm_P} {k a st p0 h0 e0 n : Nat} {A0 B0 : HF} {φ0 : Nat → Nat} {x1 : Int64} {Q : mm_QQ} (hst : st + 16 ≤ 4096) (hp0 : 4096 ≤ p0) (hn4 : n ≤ 4) (hpe : p0 + n * (cf k + 1 + wd S) ≤ 8192) (hee : e0 + n * en k < 10000)
  (ih : ∀ (w : mm_P) (h e p : Nat) (A B : HF) (φ : Nat → Nat) (Q' : mm_QQ), FRc w0 w → w 170 8 = nI st → w 170 9 = nI p → 4096 ≤ p → p + cf k ≤ 8192 → w 160 2 = nI (min e N) → e + en k < 10000 → (∀ w', RVc w w' N S k st p h e A B φ (rd m k a A B h e) → Q' none w' ml) → mm_cq (mm_call mm_ms (mm_tb L xs) (d + 13)) 80 [mm_R 170, mm_L S] w ml Q')
  (hK : ∀ (w : mm_P) (l : Nat → Nat) (vs A B : HF) (h e p : Nat) (φ : Nat → Nat), RLc m w0 w N S k a st p0 h0 e0 A0 B0 φ0 n l vs A B h e p φ → Q none (mm_u (mm_u w 171 st (if 0 < n then nI (l 0) else 0)) 170 8 (nI (st + 1))) ml) :
  ∀ (j i : Nat) (w : mm_P) (l : Nat → Nat) (vs A B : HF) (h e p : Nat) (φ : Nat → Nat) {x6 x7 : Int32} {x9 : Option mm_V}, i + j = n → RLc m w0 w N S k a st p0 h0 e0 A0 B0 φ0 i l vs A B h e p φ → x6 = (if 0 < i then nI (l 0) else 0) → (∀ j, j + 1 = i → x7 = nI (l j)) → mm_WQ (mm_call mm_ms (mm_tb L xs) (d + 13)) (mm_tb L xs) mm_m80 lim Q 116 [some (mm_R 170), some (mm_L x1), none, some (mm_I (nI n)), some (mm_L S), none, some (mm_I x6), some (mm_I x7), some (mm_I (nI i)), x9] [] w ml := by
  intro j
  induction j with
  | zero =>
    intro i w l vs A B h e p φ x6 x7 x9 hj hR h6 h7
    have hi : i = n := by omega
    subst hi
    have hR' := hR
    obtain ⟨-, ⟨q2, -⟩, -⟩ := hR
    refine bk_X6_readValue_C_116 (mm_call_m _) (fun _ => ?_) (fun z => absurd (Int32.le_refl _) z)
    rw [h6]
    exact sm_push_C q2 (by omega) (bk_X6_readValue_C_177 (mm_call_m _) (bk_X6_readValue_C_191 (mm_call_m _) (hK w l vs A B h e p φ hR')))
  | succ j ihj =>
    intro i w l vs A B h e p φ x6 x7 x9 hj hR h6 h7
    have hR' := hR
    obtain ⟨q1, ⟨q2, q3, q4, q4', q5, q6⟩, ⟨q7, q8, q9⟩, q10, q11, q12, q13, q16, q17⟩ := hR
    have hm1 : (i + 1) * (cf k + 1 + wd S) ≤ n * (cf k + 1 + wd S) := Nat.mul_le_mul_right _ (by omega)
    have hm2 : (i + 1) * en k ≤ n * en k := Nat.mul_le_mul_right _ (by omega)
    rw [Nat.add_mul, Nat.one_mul] at hm1 hm2
    have hlt : ¬ nI n ≤ nI i := fun z => by
      have := mm_leI z
      rw [mm_tI (by omega), mm_tI (by omega)] at this
      omega
    have w16 := wd_16 hS
    refine bk_X6_readValue_C_116 (mm_call_m _) (fun z => absurd z hlt) (fun _ => ?_)
    refine ih w h e p A B φ _ q10 q2 q3 (by omega) (by omega) q7 (by omega) (fun w1 hV => ?_)
    obtain ⟨v, A1, B1, h1, e1, φ1, p1, r1, ⟨s1, s2, s3, s3', s4, s5⟩, r3, r4, r5, r6, r7, r10⟩ := hV
    refine bk_X6_readValue_C_128 (mm_call_m _) (en_X1_shapeWidth (bk_X1_shapeWidth_0 (mm_call_m _) (sp_X10_widthOf (d := d + 2) (bk_X1_shapeWidth_4 (mm_call_m _) (bk_X6_readValue_C_135 (mm_call_m _) ?_)))))
    rw [width_wd hS]
    refine sf_link s1 s2 (by omega) (by omega) (by omega) (fun w2 u1 u5 u6 u2 u3 => ?_)
    have u4 : ∀ c, c < p1 → w2 171 c = w1 171 c := fun c z1 => u1 171 c (by omega) (by omega)
    refine bk_X6_readValue_C_139 (mm_call_m _) (fun z => ?_) (fun z => ?_)
    · have hi0 : 0 < i := by
        by_cases q : 0 < i
        · exact q
        · exact absurd (show nI i = 0 by rw [show i = 0 by omega]; rfl) z
      obtain ⟨j', hj'⟩ : ∃ j', j' + 1 = i := ⟨i - 1, by omega⟩
      have hl := (q16 j' (by omega)).1
      rw [h7 j' hj']
      refine sm_set_C (by omega) (bk_X6_readValue_C_161 (mm_call_m _) ?_)
      rw [show nI i + 1 = nI (i + 1) from (nI_succ i).symm]
      refine ihj (i + 1) _ (fφ l i p1) (fu vs i v) A1 B1 h1 e1 (p1 + (1 + wd S)) φ1 (by omega) (rc_step hS (by omega) hp0 hR' r1 ⟨s3, s3', s4, s5⟩ r3 r4 r5 r6 r7 r10 (fun c i' z1 z2 => (mm_u_e (by omega)).trans (u1 c i' (by omega) z2)) ((mm_u_e (by decide)).trans u2) ((mm_u_e (by decide)).trans u3) (fun c hc => (mm_u_f (by omega)).trans (u4 c (by omega))) ((mm_u_f (by omega)).trans u5) (fun r hr => (mm_u_f (by omega)).trans (u6 r hr)) (fun j hj => ?_) (fun c c1 c2 c3 => (mm_u_f (c3 j' hj')).trans (u4 c c2))) ?_ (fun j hj => ?_)
      · rw [show j = j' by omega, mm_u_s]
      · rw [if_pos (by omega), fφ_o (by omega), h6, if_pos hi0]
      · rw [show j = i by omega, fφ_s]
    · have hi0 : i = 0 := nI_ij (by omega) (by decide) (z.trans (show (0 : Int32) = nI 0 from rfl))
      refine bk_X6_readValue_C_161 (mm_call_m _) ?_
      rw [show nI i + 1 = nI (i + 1) from (nI_succ i).symm]
      refine ihj (i + 1) _ (fφ l i p1) (fu vs i v) A1 B1 h1 e1 (p1 + (1 + wd S)) φ1 (by omega) (rc_step hS (by omega) hp0 hR' r1 ⟨s3, s3', s4, s5⟩ r3 r4 r5 r6 r7 r10 (fun c i' z1 z2 => u1 c i' (by omega) z2) u2 u3 (fun c hc => u4 c (by omega)) u5 u6 (fun j hj => absurd hj (by omega)) (fun c c1 c2 c3 => u4 c c2)) ?_ (fun j hj => ?_)
      · rw [if_pos (by omega), hi0, fφ_s]
      · rw [show j = i by omega, fφ_s]
end MMT
