/-! ===== the machine with letters is the evaluator ===== -/
/-- the machine stands so: cells, stack, heap, nodes, open, steps, links -/
def WC (m w : mm_P) (K : HF) (t p k o s l : Nat) : Prop := (∀ c i, c < 160 → w c i = m c i) ∧ (∀ i, w 165 i = K i) ∧ (w 164 8 = nI t ∧ w 164 9 = nI p ∧ w 164 10 = nI k ∧ w 164 11 = nI o) ∧ (w 162 2 = nI s ∧ w 162 3 = nI l ∧ w 162 5 = 0 ∧ w 162 1 = 0)
/-- only what lies above is another -/
def CG (k t p o : Nat) (w w' : mm_P) : Prop := ∀ c i, ¬ (c = 166 ∧ k ≤ i) → ¬ (c = 167 ∧ k ≤ i) → ¬ (c = 165 ∧ ((t ≤ i ∧ i < 4096) ∨ p ≤ i)) → ¬ (c = 168 ∧ o ≤ i) → ¬ (c = 169 ∧ o ≤ i) → ¬ c = 164 → ¬ c = 162 → w' c i = w c i
theorem CG_t {k t p o k' t' p' o' : Nat} {w w' w2 : mm_P} (a : CG k t p o w w') (b : CG k' t' p' o' w' w2) (hk : k ≤ k') (ht : t ≤ t') (hp : p ≤ p') (ho : o ≤ o') : CG k t p o w w2 := fun c i q1 q2 q3 q4 q5 q6 q7 => (b c i (by omega) (by omega) (by omega) (by omega) (by omega) q6 q7).trans (a c i q1 q2 q3 q4 q5 q6 q7)
/-- what holds as node n has begun -/
def CPR (NB ND NF : Nat) (m w : mm_P) (k t o s l T : Nat) (A B : HF) (h : Nat) (φ : Nat → Nat) (K : HF) (f : Nat) (wf : mm_P) (TY : Nat) (SA SB : LR) (n : Nat) (arg : Int32) (j : Nat) : Prop := (1 ≤ o ∧ o ≤ 30) ∧ (s < 600 ∧ l ≤ 100 ∧ h ≤ 1400 + s ∧ T ≤ 4 * s) ∧ LHP h (4096 + 2 * h) φ ∧ AC NB ND NF m f wf TY ∧ (mLR SA ∧ mLR SB) ∧ (∃ x b, x < NB ∧ m 195 f = nI x ∧ w 169 (o - 1) = nI b ∧ b < t ∧ GVt gL m SA SB x A B h K φ arg (K b)) ∧ (n < ND ∧ IB ND m f n ∧ (k : Int) + (m 193 n).toInt ≤ 12 * o ∧ t ≤ k + o) ∧ (30 - o) * 12 + (m 193 n).toInt.toNat ≤ j
/-- a value came -/
def CK1 (C : Nat → mm_P → Prop) (m w : mm_P) (k t o s l T : Nat) (A B : HF) (h : Nat) (φ : Nat → Nat) (K : HF) (wf : mm_P) (SA SB : LR) (n : Nat) (arg : Int32) (j : Nat) : Prop := ∀ x A' B' h' s' l' o' K' φ' w' T', ev m j arg n A B h s l o = (0, x, A', B', h', s', l', o') → ZG A B h s o A' B' h' s' l' o' → WC m w' K' (t + 1) (4096 + 2 * h') k o s' l' → CG k t (4096 + 2 * h) o w w' → LE A B h K φ A' B' h' K' φ' → LHP h' (4096 + 2 * h') φ' → NG gL wf SA SB (nI n) A' B' h' K' φ' x (K' t) → T' ≤ T + 4 * (s' - s) → C T' w'
/-- the run ended -/
def CK0 (C : Nat → mm_P → Prop) (m : mm_P) (s l o : Nat) (A B : HF) (h n : Nat) (arg : Int32) (j : Nat) : Prop := ∀ e x A' B' h' s' l' o' w' T', ev m j arg n A B h s l o = (e, x, A', B', h', s', l', o') → ¬ e = 0 → (∀ c i, c < 160 → w' c i = m c i) → w' 162 5 = e → w' 162 1 = 0 → T' ≤ 4000 → C T' w'
def CLS (C : Nat → mm_P → Prop) (NB ND NF : Nat) (m : mm_P) (j : Nat) : Prop := ∀ (w : mm_P) (k t o s l T : Nat) (A B : HF) (h : Nat) (φ : Nat → Nat) (K : HF) (f : Nat) (wf : mm_P) (TY : Nat) (SA SB : LR) (n : Nat) (arg : Int32), WC m w K t (4096 + 2 * h) (k + 1) o (s + 1) l → w 166 k = nI n → w 167 k = 0 → CPR NB ND NF m w k t o s l T A B h φ K f wf TY SA SB n arg j → CK1 C m w k t o s l T A B h φ K wf SA SB n arg j → CK0 C m s l o A B h n arg j → C T w
theorem RP_c {m w w1 w' : mm_P} {K : HF} {t t0 p p' k k0 o s l l' : Nat} {y : Int32} (hW : WC m w K t0 p k0 o s l) (ht : t < 4096) (h1 : ∀ c i, ¬ (c = 167 ∧ i = k) → ¬ (c = 164 ∧ (i = 10 ∨ i = 8)) → w1 c i = w c i) (h10 : w1 164 10 = nI k) (hR : RP w1 w' t p y p') (h3 : w' 162 3 = nI l') : WC m w' (w' 165) (t + 1) p' k o s l' ∧ CG k t p o w w' ∧ (∀ i, ¬ (i = t ∨ i = p ∨ i = p + 1) → w' 165 i = K i) ∧ w' 165 t = y := by
  obtain ⟨q1, q2, ⟨q3, q4, q5, q6⟩, q7, q8, q9, q10⟩ := hW
  obtain ⟨r1, r2, r3, r4⟩ := hR
  have hw : ∀ c i, ¬ (c = 167 ∧ i = k) → ¬ c = 164 → ¬ (c = 165 ∧ (i = t ∨ i = p ∨ i = p + 1)) → ¬ (c = 162 ∧ i = 3) → w' c i = w c i := fun c i a b e f => (r1 c i e (by omega) f).trans (h1 c i a (by omega))
  refine ⟨⟨fun c i q => (hw c i (by omega) (by omega) (by omega) (by omega)).trans (q1 c i q), fun _ => rfl, ⟨r2, r4, (r1 164 10 (by omega) (by omega) (by omega)).trans h10, (r1 164 11 (by omega) (by omega) (by omega)).trans ((h1 164 11 (by omega) (by omega)).trans q6)⟩, (hw 162 2 (by omega) (by omega) (by omega) (by omega)).trans q7, h3, (hw 162 5 (by omega) (by omega) (by omega) (by omega)).trans q9, (hw 162 1 (by omega) (by omega) (by omega) (by omega)).trans q10⟩, fun c i a1 a2 a3 a4 a5 a6 a7 => hw c i (by omega) a6 (by omega) (by omega), fun i q => (hw 165 i (by omega) (by omega) (by omega) (by omega)).trans (q2 i), r3⟩
section MMT
variable {L : Nat} {xs : Nat → Int32} {d : Nat} {ml : mm_G} {NB ND NF : Nat} {m : mm_P} {C : Nat → mm_P → Prop}
/-- a node begins: either it is begun, or there were 600 steps -/
theorem cl_bg {j : Nat} (hI : IM m NB ND NF) (hj : CLS C NB ND NF m j) {w1 : mm_P} {k t o s l T : Nat} {A B : HF} {h : Nat} {φ : Nat → Nat} {K : HF} {f : Nat} {wf : mm_P} {TY : Nat} {SA SB : LR} {n : Nat} {arg : Int32} (hW : WC m w1 K t (4096 + 2 * h) k o s l) (hs : s ≤ 600) (hk : k < 600) (hpre : s < 600 → ∀ w, w 169 (o - 1) = w1 169 (o - 1) → CPR NB ND NF m w k t o s l T A B h φ K f wf TY SA SB n arg j) (hd : 1 ≤ (m 193 n).toInt) (hjj : (m 193 n).toInt.toNat ≤ j) (hT : T ≤ 4000) (hK1 : s < 600 → ∀ w, CG k t (4096 + 2 * h) o w1 w → CK1 C m w k t o s l T A B h φ K wf SA SB n arg j) (hK0 : CK0 C m s l o A B h n arg j) : mm_cq (mm_call mm_ms (mm_tb L xs) (d + 2)) 68 [mm_R 164, mm_I (nI n)] w1 ml (fun o a b => o = none ∧ b = ml ∧ C T a) := by
  obtain ⟨q1, q2, ⟨q3, q4, q5, q6⟩, q7, q8, q9, q10⟩ := id hW
  refine sm_begin_L q7 q5 hs hk (fun h6 => ⟨rfl, rfl, ?_⟩) (fun h6 => ⟨rfl, rfl, ?_⟩)
  · generalize hw : mm_u (mm_u (mm_u (mm_u w1 162 2 (nI (s + 1))) 166 k (nI n)) 167 k 0) 164 10 (nI (k + 1)) = w
    have hq : ∀ c i, ¬ (c = 162 ∧ i = 2) → ¬ (c = 166 ∧ i = k) → ¬ (c = 167 ∧ i = k) → ¬ (c = 164 ∧ i = 10) → w c i = w1 c i := fun c i a b e f => by rw [← hw, mm_u_o f, mm_u_o e, mm_u_o b, mm_u_o a]
    refine hj w k t o s l T A B h φ K f wf TY SA SB n arg ⟨fun c i q => (hq c i (by omega) (by omega) (by omega) (by omega)).trans (q1 c i q), fun i => (hq 165 i (by omega) (by omega) (by omega) (by omega)).trans (q2 i), ⟨(hq 164 8 (by omega) (by omega) (by omega) (by omega)).trans q3, (hq 164 9 (by omega) (by omega) (by omega) (by omega)).trans q4, by rw [← hw, mm_u_s], (hq 164 11 (by omega) (by omega) (by omega) (by omega)).trans q6⟩, by rw [← hw, mm_u_e (by decide), mm_u_e (by decide), mm_u_e (by decide), mm_u_s], (hq 162 3 (by omega) (by omega) (by omega) (by omega)).trans q8, (hq 162 5 (by omega) (by omega) (by omega) (by omega)).trans q9, (hq 162 1 (by omega) (by omega) (by omega) (by omega)).trans q10⟩ (by rw [← hw, mm_u_e (by decide), mm_u_e (by decide), mm_u_s]) (by rw [← hw, mm_u_e (by decide), mm_u_s]) (hpre h6 w (hq 169 _ (by omega) (by omega) (by omega) (by omega))) (hK1 h6 w (fun c i a1 a2 a3 a4 a5 a6 a7 => hq c i (by omega) (by omega) (by omega) (by omega))) hK0
  · subst h6
    obtain ⟨j', rfl⟩ : ∃ j', j = j' + 1 := ⟨j - 1, by omega⟩
    exact hK0 2 0 A B h 600 l o _ T ev_6 (by decide) (fun c i q => by rw [mm_u_e (by omega), mm_u_e (by omega)]; exact q1 c i q) mm_u_s (by rw [mm_u_f (by decide), mm_u_f (by decide)]; exact q10) hT
theorem kp_fp {n i : Nat} (hN : NC ND m) (hn : n < ND) (hi : i < 3) (h : (i : Int) < (f_parts (m 188 n)).toInt) : k_part m n i = f_part m n (nI i) := by
  obtain ⟨e4, -, a0, a1, a2, -⟩ := hN.2 n hn
  unfold k_part f_part
  rw [e4]
  by_cases k : m 188 n = 14
  · rw [if_pos k, if_pos k]
    exact a1 (.inr k)
  · rw [if_neg k, if_neg k]
    rcases (show i = 0 ∨ i = 1 ∨ i = 2 by omega) with rfl | rfl | rfl
    · rw [if_pos (show nI 0 = 0 from rfl)]
      refine a0 (fun q => ?_)
      rw [q] at h
      exact absurd h (by decide)
    · rw [if_neg (show ¬ nI 1 = 0 by decide), if_pos (show nI 1 = 1 from rfl)]
      exact a1 (.inl (by omega))
    · rw [if_neg (show ¬ nI 2 = 0 by decide), if_neg (show ¬ nI 2 = 1 by decide)]
      exact a2 (.inl (by omega))
theorem kd_leaf {k : Int32} (h0 : 0 ≤ k.toInt ∧ k.toInt ≤ 14) (h5 : ¬ k = 5) (h14 : ¬ k = 14) (hp : ¬ (0 : Int) < (f_parts k).toInt) : ∃ q : Nat, k = nI q ∧ (q = 0 ∨ q = 1 ∨ q = 9 ∨ q = 2) := by
  obtain ⟨q, rfl, q2, -, -⟩ := mm_of (n := 15) h0.1 (by omega)
  refine ⟨q, rfl, ?_⟩
  rcases (show q = 0 ∨ q = 1 ∨ q = 2 ∨ q = 3 ∨ q = 4 ∨ q = 5 ∨ q = 6 ∨ q = 7 ∨ q = 8 ∨ q = 9 ∨ q = 10 ∨ q = 11 ∨ q = 12 ∨ q = 13 ∨ q = 14 by omega) with rfl | rfl | rfl | rfl | rfl | rfl | rfl | rfl | rfl | rfl | rfl | rfl | rfl | rfl | rfl
  all_goals first
    | exact .inl rfl
    | exact .inr (.inl rfl)
    | exact .inr (.inr (.inl rfl))
    | exact .inr (.inr (.inr rfl))
    | exact absurd rfl h5
    | exact absurd rfl h14
    | exact absurd (by decide) hp
theorem kd_one {k : Int32} (h0 : 0 ≤ k.toInt ∧ k.toInt ≤ 14) (h14 : ¬ k = 14) (hp : f_parts k = 1) : ∃ q : Nat, k = nI q ∧ (q = 7 ∨ q = 8 ∨ q = 11 ∨ q = 12 ∨ q = 13) := by
  obtain ⟨q, rfl, q2, -, -⟩ := mm_of (n := 15) h0.1 (by omega)
  refine ⟨q, rfl, ?_⟩
  rcases (show q = 0 ∨ q = 1 ∨ q = 2 ∨ q = 3 ∨ q = 4 ∨ q = 5 ∨ q = 6 ∨ q = 7 ∨ q = 8 ∨ q = 9 ∨ q = 10 ∨ q = 11 ∨ q = 12 ∨ q = 13 ∨ q = 14 by omega) with rfl | rfl | rfl | rfl | rfl | rfl | rfl | rfl | rfl | rfl | rfl | rfl | rfl | rfl | rfl
  all_goals first
    | exact .inl rfl
    | exact .inr (.inl rfl)
    | exact .inr (.inr (.inl rfl))
    | exact .inr (.inr (.inr (.inl rfl)))
    | exact .inr (.inr (.inr (.inr rfl)))
    | exact absurd rfl h14
    | exact absurd hp (by decide)
theorem kd_two {k : Int32} (h0 : 0 ≤ k.toInt ∧ k.toInt ≤ 14) (hp : f_parts k = 2) : ∃ q : Nat, k = nI q ∧ (q = 3 ∨ q = 4 ∨ q = 6 ∨ q = 10) := by
  obtain ⟨q, rfl, q2, -, -⟩ := mm_of (n := 15) h0.1 (by omega)
  refine ⟨q, rfl, ?_⟩
  rcases (show q = 0 ∨ q = 1 ∨ q = 2 ∨ q = 3 ∨ q = 4 ∨ q = 5 ∨ q = 6 ∨ q = 7 ∨ q = 8 ∨ q = 9 ∨ q = 10 ∨ q = 11 ∨ q = 12 ∨ q = 13 ∨ q = 14 by omega) with rfl | rfl | rfl | rfl | rfl | rfl | rfl | rfl | rfl | rfl | rfl | rfl | rfl | rfl | rfl
  all_goals first
    | exact .inl rfl
    | exact .inr (.inl rfl)
    | exact .inr (.inr (.inl rfl))
    | exact .inr (.inr (.inr rfl))
    | exact absurd hp (by decide)
end MMT
