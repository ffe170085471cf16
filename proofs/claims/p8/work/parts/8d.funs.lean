/-! ===== function(), body() of both ===== -/
theorem lett_iff {l a b : Int32} (hl : 0 ≤ l.toInt ∧ l.toInt ≤ 2) : (f_LT a b &&& ((if l = 2 then 3 else l) ^^^ (-1))) = 0 ↔ (a = 0 ∨ 0 < l.toInt) ∧ (b = 0 ∨ 1 < l.toInt) := by
  obtain ⟨q, rfl, q2, -, -⟩ := mm_of (n := 3) hl.1 (by omega)
  unfold f_LT
  rcases (show q = 0 ∨ q = 1 ∨ q = 2 by omega) with rfl | rfl | rfl <;> by_cases a0 : a = 0 <;> by_cases b0 : b = 0
  · rw [if_pos a0, if_pos b0]
    exact iff_of_true (by decide) ⟨.inl a0, .inl b0⟩
  · rw [if_pos a0, if_neg b0]
    exact iff_of_false (by decide) (fun h => by rcases h.2 with q | q; exact b0 q; exact absurd q (by decide))
  · rw [if_neg a0, if_pos b0]
    exact iff_of_false (by decide) (fun h => by rcases h.1 with q | q; exact a0 q; exact absurd q (by decide))
  · rw [if_neg a0, if_neg b0]
    exact iff_of_false (by decide) (fun h => by rcases h.1 with q | q; exact a0 q; exact absurd q (by decide))
  · rw [if_pos a0, if_pos b0]
    exact iff_of_true (by decide) ⟨.inl a0, .inl b0⟩
  · rw [if_pos a0, if_neg b0]
    exact iff_of_false (by decide) (fun h => by rcases h.2 with q | q; exact b0 q; exact absurd q (by decide))
  · rw [if_neg a0, if_pos b0]
    exact iff_of_true (by decide) ⟨.inr (by decide), .inl b0⟩
  · rw [if_neg a0, if_neg b0]
    exact iff_of_false (by decide) (fun h => by rcases h.2 with q | q; exact b0 q; exact absurd q (by decide))
  · rw [if_pos a0, if_pos b0]
    exact iff_of_true (by decide) ⟨.inl a0, .inl b0⟩
  · rw [if_pos a0, if_neg b0]
    exact iff_of_true (by decide) ⟨.inl a0, .inr (by decide)⟩
  · rw [if_neg a0, if_pos b0]
    exact iff_of_true (by decide) ⟨.inr (by decide), .inl b0⟩
  · rw [if_neg a0, if_neg b0]
    exact iff_of_true (by decide) ⟨.inr (by decide), .inr (by decide)⟩
def FOK (NB : Nat) (m : mm_P) (x1 x2 x3 : Int32) : Prop := (0 ≤ x1.toInt ∧ x1.toInt ≤ 2) ∧ ∃ t u, t < NB ∧ u < NB ∧ x2 = nI t ∧ x3 = nI u ∧ wthn m t x1 ∧ wthn m u x1
def F5 (w : mm_P) (n : Nat) (a b c : Int32) : mm_P := mm_u (mm_u (mm_u (mm_u (mm_u w 10 n a) 11 n b) 12 n c) 15 n (-1)) 9 7 (nI (n + 1))
theorem F5_o {w : mm_P} {n c' i : Nat} {a b c : Int32} (h : ¬ ((c' = 10 ∨ c' = 11 ∨ c' = 12 ∨ c' = 15) ∧ i = n)) (h2 : ¬ (c' = 9 ∧ i = 7)) : F5 w n a b c c' i = w c' i := by
  unfold F5
  rw [mm_u_o (by omega), mm_u_o (by omega), mm_u_o (by omega), mm_u_o (by omega), mm_u_o (by omega)]
theorem F5_v {w : mm_P} {n : Nat} {a b c : Int32} : F5 w n a b c 10 n = a ∧ F5 w n a b c 11 n = b ∧ F5 w n a b c 12 n = c ∧ F5 w n a b c 15 n = -1 ∧ F5 w n a b c 9 7 = nI (n + 1) := by
  unfold F5
  refine ⟨?_, ?_, ?_, ?_, mm_u_s⟩
  · rw [mm_u_o (by omega), mm_u_o (by omega), mm_u_o (by omega), mm_u_o (by omega), mm_u_s]
  · rw [mm_u_o (by omega), mm_u_o (by omega), mm_u_o (by omega), mm_u_s]
  · rw [mm_u_o (by omega), mm_u_o (by omega), mm_u_s]
  · rw [mm_u_o (by omega), mm_u_s]
def G5 (w : mm_P) (n : Nat) (a b c : Int32) : mm_P := mm_u (mm_u (mm_u (mm_u (mm_u w 194 n a) 195 n b) 196 n c) 197 n (-1)) 176 20 (nI (n + 1))
theorem G5_o {w : mm_P} {n c' i : Nat} {a b c : Int32} (h : ¬ (194 ≤ c' ∧ c' ≤ 197 ∧ i = n)) (h2 : ¬ (c' = 176 ∧ i = 20)) : G5 w n a b c c' i = w c' i := by
  unfold G5
  rw [mm_u_o (by omega), mm_u_o (by omega), mm_u_o (by omega), mm_u_o (by omega), mm_u_o (by omega)]
theorem G5_v {w : mm_P} {n : Nat} {a b c : Int32} : G5 w n a b c 194 n = a ∧ G5 w n a b c 195 n = b ∧ G5 w n a b c 196 n = c ∧ G5 w n a b c 197 n = -1 ∧ G5 w n a b c 176 20 = nI (n + 1) := by
  unfold G5
  refine ⟨?_, ?_, ?_, ?_, mm_u_s⟩
  · rw [mm_u_o (by omega), mm_u_o (by omega), mm_u_o (by omega), mm_u_o (by omega), mm_u_s]
  · rw [mm_u_o (by omega), mm_u_o (by omega), mm_u_o (by omega), mm_u_s]
  · rw [mm_u_o (by omega), mm_u_o (by omega), mm_u_s]
  · rw [mm_u_o (by omega), mm_u_s]
theorem fill_w {c i : Nat} (q : ¬ (19 ≤ c ∧ c ≤ 30)) : mm_wr mm_w_X4_fillNode c i = false := by
  cases hb : mm_wr mm_w_X4_fillNode c i with
  | false => rfl
  | true =>
    exfalso
    unfold mm_wr mm_w_X4_fillNode mm_wr1 at hb
    simp only [List.any_cons, List.any_nil, Bool.or_false] at hb
    split at hb
    · rename_i q1 q2
      have := Nat.le_of_ble_eq_true q1
      have := Nat.le_of_ble_eq_true q2
      omega
    · cases hb
theorem jud_w : mm_stW mm_w_X11_judgeAnew = true := by decide +kernel
theorem use_w : mm_stW mm_w_X7_usesUnder = true := by decide +kernel
/-- static places, and those of the model, are as they were -/
def SS (w n1 : mm_P) (wl n2 : mm_G) : Prop := (∀ c i, (stC c i ∨ 176 ≤ c) → n1 c i = w c i) ∧ ∀ c i, (c = 2 ∨ c = 13 ∨ c = 14) → n2 c i = wl c i
theorem SS_r {w : mm_P} {wl : mm_G} : SS w w wl wl := ⟨fun _ _ _ => rfl, fun _ _ _ => rfl⟩
theorem SS_t {w n p : mm_P} {wl n2 p2 : mm_G} (h : SS w n wl n2) (h2 : SS n p n2 p2) : SS w p wl p2 := ⟨fun c i q => (h2.1 c i q).trans (h.1 c i q), fun c i q => (h2.2 c i q).trans (h.2 c i q)⟩
theorem SS_w {W : List (Nat × Nat × Nat)} {w n : mm_P} {wl n2 : mm_G} (hW : mm_stW W = true) (h : mm_fw W w wl n n2) : SS w n wl n2 := ⟨fun c i q => (h c i (mm_stW_s hW (q.imp_right .inl))).1, fun c i q => (h c i (mm_stW_s hW (.inr (.inr q)))).2⟩
theorem SS_fill {w n : mm_P} {wl n2 : mm_G} (h : mm_fw mm_w_X4_fillNode w wl n n2) : SS w n wl n2 := ⟨fun c i q => (h c i (fill_w (by unfold stC at q; omega))).1, fun c i q => (h c i (fill_w (by omega))).2⟩
section MMT
variable {L : Nat} {xs : Nat → Int32} {d : Nat} {Q : mm_QQ} {mi : mm_P} {ml : mm_G} {lim : Nat × Nat} {NB ND NF : Nat}
theorem sx_lettersAllow {l : Int32} {x : Int64} (h1 : (f_letters x &&& ((if l = 2 then 3 else l) ^^^ (-1))) = 0 → Q (some (mm_I 1)) mi ml) (h0 : ¬ (f_letters x &&& ((if l = 2 then 3 else l) ^^^ (-1))) = 0 → Q (some (mm_I 0)) mi ml) : mm_cq (mm_call mm_ms (mm_tb L xs) (d + 10)) 29 [mm_I l, mm_L x] mi ml Q := by
  refine en_X2_lettersAllow (bk_X2_lettersAllow_0 (mm_call_m _) (fun z => sp_X10_lettersOf (bk_X2_lettersAllow_15 (mm_call_m _) (fun q => h0 ?_) (fun q => h1 ?_))) (fun z => sp_X10_lettersOf (bk_X2_lettersAllow_15 (mm_call_m _) (fun q => h0 ?_) (fun q => h1 ?_))))
  · rw [if_neg z]
    exact q
  · rw [if_neg z]
    exact q
  · rw [if_pos z]
    exact q
  · rw [if_pos z]
    exact q
theorem sx_allow {l : Int32} {t : Nat} (hD : DN NB mi) (h : TC NB mi ml) (ht : t < NB) (hl : 0 ≤ l.toInt ∧ l.toInt ≤ 2) (h1 : wthn mi t l → Q (some (mm_I 1)) mi ml) (h0 : ¬ wthn mi t l → Q (some (mm_I 0)) mi ml) : mm_cq (mm_call mm_ms (mm_tb L xs) (d + 10)) 29 [mm_I l, mm_L (ml 2 t)] mi ml Q := by
  refine sx_lettersAllow (fun q => h1 ?_) (fun q => h0 (fun p => q ?_))
  · rw [SH_lt hD h ht] at q
    exact (lett_iff hl).mp q
  · rw [SH_lt hD h ht]
    exact (lett_iff hl).mpr p
theorem sx_add2 {a b c : Int32} {x y : Int64} (h97 : mi 9 7 = nI NF) (hNF : NF ≤ 12) (hfull : NF = 12 → Q (some (mm_I (-4))) mi ml) (hnew : NF < 12 → Q (some (mm_I (nI NF))) (F5 mi NF a b c) (mm_u (mm_u ml 13 NF x) 14 NF y)) : mm_cq (mm_call mm_ms (mm_tb L xs) (d + 1)) 30 [mm_R 9, mm_I a, mm_I b, mm_I c, mm_L x, mm_L y] mi ml Q := by
  have hlt : mi 9 7 < 12 → NF < 12 := fun z => by
    have := mm_ltI z
    rw [h97, mm_tI (by omega), mm_tt12] at this
    omega
  have v : mi 9 7 < 12 → vp_in (mi 9 7) 12 := fun z => by
    rw [h97]
    exact vp_in_nI (hlt z) (by decide)
  refine en_X2_add (bk_X2_add_0 (mm_call_m _) v v v v v v (fun z => ?_) (fun z => hfull ?_))
  · rw [h97, nI_clamp (by omega), show nI NF + 1 = nI (NF + 1) from (nI_succ NF).symm]
    exact hnew (hlt z)
  · have := mm_nltI z
    rw [h97, mm_tI (by omega), mm_tt12] at this
    omega
theorem fun_101 {x1 x2 x3 : Int32} {x4 x6 : Int64} {x8 : Int32} {w0 : mm_P} {wl0 : mm_G} (hND : ND ≤ 200) (hQ : ∀ n1 n2, mm_IC n1 → SS w0 n1 wl0 n2 → Q (some (mm_I x8)) n1 n2) : ∀ (j i : Nat) (w : mm_P) (wl : mm_G), i + j = ND → mm_IC w → w 3 5 = nI ND → SS w0 w wl0 wl → mm_WQ (mm_call mm_ms (mm_tb L xs) (d + 19)) (mm_tb L xs) mm_m147 lim Q 101 [some (mm_R 0), some (mm_I x1), some (mm_I x2), some (mm_I x3), some (mm_L x4), none, some (mm_L x6), none, some (mm_I x8), some (mm_I (nI i))] [] w wl := by
  intro j
  induction j with
  | zero =>
    intro i w wl h hIC h35 hS
    have hi : i = ND := by omega
    subst hi
    refine bk_X11_function_101 (mm_call_m _) (en_X7_size (bk_X7_size_0 (mm_call_m _) (bk_X11_function_110 (mm_call_m _) (fun _ => ?_) (fun z => ?_))))
    · exact sc_X11_judgeAnew hIC (fun n1 n2 hi hf => bk_X11_function_132 (mm_call_m _) (hQ n1 n2 hi (SS_t hS (SS_w jud_w hf))))
    · exact absurd (by rw [h35]; exact Int32.le_refl _) z
  | succ j ih =>
    intro i w wl h hIC h35 hS
    refine bk_X11_function_101 (mm_call_m _) (en_X7_size (bk_X7_size_0 (mm_call_m _) (bk_X11_function_110 (mm_call_m _) (fun z => ?_) (fun z => ?_))))
    · have := mm_leI z
      rw [h35, mm_tI (by omega), mm_tI (by omega)] at this
      omega
    · refine sc_X4_fillNode hIC (fun n1 n2 hi hf => bk_X11_function_122 (mm_call_m _) ?_)
      rw [show nI i + 1 = nI (i + 1) from (nI_succ i).symm]
      have hs := SS_fill hf
      exact ih (i + 1) n1 n2 (by omega) hi ((hs.1 3 5 (.inl (by unfold stC; omega))).trans h35) (SS_t hS hs)
theorem sx_X11_function {x1 x2 x3 : Int32} (hIC : mm_IC mi) (hD : DN NB mi) (hT : TC NB mi ml) (hNB : NB ≤ 200) (h35 : mi 3 5 = nI ND) (hND : ND ≤ 200) (h97 : mi 9 7 = nI NF) (hNF : NF ≤ 12) (hbad : ¬ FOK NB mi x1 x2 x3 → Q (some (mm_I (-2))) mi ml) (hfull : FOK NB mi x1 x2 x3 → NF = 12 → Q (some (mm_I (-4))) mi ml) (hnew : FOK NB mi x1 x2 x3 → NF < 12 → ∀ n1 n2, mm_IC n1 → SS (F5 mi NF x1 x2 x3) n1 (mm_u (mm_u ml 13 NF (ml 2 x2.toNatClampNeg)) 14 NF (ml 2 x3.toNatClampNeg)) n2 → Q (some (mm_I (nI NF))) n1 n2) : mm_cq (mm_call mm_ms (mm_tb L xs) (d + 20)) 147 [mm_R 0, mm_I x1, mm_I x2, mm_I x3] mi ml Q := by
  have n1 : ∀ {P : Prop}, (1 : Int32) = 0 → P := fun z => absurd z (by decide)
  have n0 : ∀ {P : Prop}, ¬ (0 : Int32) = 0 → P := fun z => absurd rfl z
  have h31 : ¬ FOK NB mi x1 x2 x3 → mm_WQ (mm_call mm_ms (mm_tb L xs) (d + 19)) (mm_tb L xs) mm_m147 (mm_li mm_m147) Q 31 [some (mm_R 0), some (mm_I x1), some (mm_I x2), some (mm_I x3), none, none, none, none, none, none] [] mi ml := fun z => bk_X11_function_31 (mm_call_m _) (hbad z)
  refine en_X11_function (bk_X11_function_0 (mm_call_m _) (fun z => h31 (fun p => ?_)) (fun _ z => h31 (fun p => ?_)) (fun z z2 => sx_has8 hT.1 hNB (fun t t1 t2 => bk_X11_function_17 (s0 := 1) (mm_call_m _) n1 (fun _ => sx_has8 hT.1 hNB (fun u u1 u2 => bk_X11_function_28 (s0 := 1) (mm_call_m _) (fun _ => ?_) n1) (fun q => bk_X11_function_28 (s0 := 0) (mm_call_m _) n0 (fun _ => h31 (fun ⟨_, _, u, _, u1, _, u2, _⟩ => q u u1 u2))))) (fun q => bk_X11_function_17 (s0 := 0) (mm_call_m _) (fun _ => h31 (fun ⟨_, t, _, t1, _, t2, _⟩ => q t t1 t2)) n0)))
  · have := mm_ltI z
    rw [mm_tt0] at this
    have := p.1.1
    omega
  · have := mm_ltI z
    rw [mm_tt2] at this
    have := p.1.2
    omega
  · have z' := mm_nltI z
    have z2' := mm_nltI z2
    rw [mm_tt0] at z'
    rw [mm_tt2] at z2'
    subst t2 u2
    rw [nI_clamp (show t < 2 ^ 31 by omega), nI_clamp (show u < 2 ^ 31 by omega)] at hnew
    have h72 : ¬ FOK NB mi x1 (nI t) (nI u) → mm_WQ (mm_call mm_ms (mm_tb L xs) (d + 19)) (mm_tb L xs) mm_m147 (mm_li mm_m147) Q 72 [some (mm_R 0), some (mm_I x1), some (mm_I (nI t)), some (mm_I (nI u)), some (mm_L (ml 2 t)), none, some (mm_L (ml 2 u)), none, none, none] [] mi ml := fun z => bk_X11_function_72 (mm_call_m _) (hbad z)
    have huniq : ∀ t' u', t' < NB → u' < NB → nI t = nI t' → nI u = nI u' → t' = t ∧ u' = u := fun t' u' a b p q => ⟨nI_ij (by omega) (by omega) p.symm, nI_ij (by omega) (by omega) q.symm⟩
    refine sx_shapeOf hT.1 hNB t1 (bk_X11_function_42 (mm_call_m _) (sx_shapeOf hT.1 hNB u1 (bk_X11_function_52 (mm_call_m _) (sx_allow hD hT t1 ⟨z', z2'⟩ (fun w1 => bk_X11_function_60 (s0 := 1) (mm_call_m _) n1 (fun _ => sx_allow hD hT u1 ⟨z', z2'⟩ (fun w2 => bk_X11_function_69 (s0 := 1) (mm_call_m _) (fun _ => ?_) n1) (fun q => bk_X11_function_69 (s0 := 0) (mm_call_m _) n0 (fun _ => h72 (fun ⟨_, t', u', a, b, p, p2, _, p4⟩ => q (by rw [← (huniq t' u' a b p p2).2]; exact p4)))))) (fun q => bk_X11_function_60 (s0 := 0) (mm_call_m _) (fun _ => h72 (fun ⟨_, t', u', a, b, p, p2, p3, _⟩ => q (by rw [← (huniq t' u' a b p p2).1]; exact p3))) n0)))))
    have hok : FOK NB mi x1 (nI t) (nI u) := ⟨⟨z', z2'⟩, t, u, t1, u1, rfl, rfl, w1, w2⟩
    refine sx_add2 h97 hNF (fun q => bk_X11_function_89 (s0 := -4) (mm_call_m _) (fun _ => bk_X11_function_132 (mm_call_m _) (hfull hok q)) (fun w => absurd rfl w)) (fun hlt => bk_X11_function_89 (mm_call_m _) (fun q => ?_) (fun _ => ?_))
    · exfalso
      have := congrArg Int32.toInt q
      rw [mm_tI (by omega), mm_tn4] at this
      omega
    · have hIC' : mm_IC (F5 mi NF x1 (nI t) (nI u)) := by
        unfold F5
        refine mm_IC_97 (mm_IC_n (mm_IC_n (mm_IC_n (mm_IC_n hIC ?_ ?_ ?_ ?_ ?_) ?_ ?_ ?_ ?_ ?_) ?_ ?_ ?_ ?_ ?_) ?_ ?_ ?_ ?_ ?_) (by rw [mm_tI (by omega)]; omega) <;> decide
      exact fun_101 hND (fun m1 m2 hi hs => hnew hok hlt m1 m2 hi hs) ND 0 _ _ (by omega) hIC' ((F5_o (by omega) (by omega)).trans h35) SS_r
theorem sx_X12_function {x1 x2 x3 : Int32} (hI : IM mi NB ND NF) (hbad : ¬ FOK NB mi x1 x2 x3 → Q (some (mm_I (-2))) mi ml) (hfull : FOK NB mi x1 x2 x3 → NF = 12 → Q (some (mm_I (-4))) mi ml) (hnew : FOK NB mi x1 x2 x3 → NF < 12 → Q (some (mm_I (nI NF))) (G5 mi NF x1 x2 x3) ml) : mm_cq (mm_call mm_ms (mm_tb L xs) (d + 3)) 190 [mm_R 176, mm_I x1, mm_I x2, mm_I x3] mi ml Q := by
  have hNF := hI.1.2.2
  have hNB := hI.1.1
  have h43 : ¬ FOK NB mi x1 x2 x3 → mm_WQ (mm_call mm_ms (mm_tb L xs) (d + 2)) (mm_tb L xs) mm_m190 (mm_li mm_m190) Q 43 [some (mm_R 176), some (mm_I x1), some (mm_I x2), some (mm_I x3)] [] mi ml := fun z => bk_X12_function_43 (mm_call_m _) (hbad z)
  have n1 : ∀ {P : Prop}, (1 : Int32) = 0 → P := fun z => absurd z (by decide)
  have n0 : ∀ {P : Prop}, ¬ (0 : Int32) = 0 → P := fun z => absurd rfl z
  refine en_X12_function (bk_X12_function_0 (mm_call_m _) (sp_in (fun l0 l2 => bk_X12_function_6 (s0 := 1) (mm_call_m _) n1 (fun _ => sp_typ hI (fun t t1 t2 => bk_X12_function_14 (s0 := 1) (mm_call_m _) n1 (fun _ => sp_typ hI (fun u u1 u2 => bk_X12_function_22 (s0 := 1) (mm_call_m _) n1 (fun _ => ?_)) (fun q => bk_X12_function_22 (s0 := 0) (mm_call_m _) (fun _ => h43 (fun ⟨_, _, u, _, u1, _, u2, _⟩ => q u u1 u2)) n0))) (fun q => bk_X12_function_14 (s0 := 0) (mm_call_m _) (fun _ => h43 (fun ⟨_, t, _, t1, _, t2, _⟩ => q t t1 t2)) n0))) (fun q => bk_X12_function_6 (s0 := 0) (mm_call_m _) (fun _ => h43 (fun p => q (by rw [mm_tt0, mm_tt2]; exact p.1))) n0)))
  rw [mm_tt0] at l0
  rw [mm_tt2] at l2
  subst t2 u2
  have huniq : ∀ t' u', t' < NB → u' < NB → nI t = nI t' → nI u = nI u' → t' = t ∧ u' = u := fun t' u' a b p q => ⟨nI_ij (by omega) (by omega) p.symm, nI_ij (by omega) (by omega) q.symm⟩
  refine sp_X12_isWithin (by omega) (fun w1 => bk_X12_function_31 (s0 := 1) (mm_call_m _) n1 (fun _ => sp_X12_isWithin (by omega) (fun w2 => ?_) (fun q => bk_X12_function_40 (s0 := 0) (mm_call_m _) n0 n0 n0 n0 n0 n0 (fun _ => h43 (fun ⟨_, t', u', a, b, p, p2, _, p4⟩ => q (by rw [← (huniq t' u' a b p p2).2]; exact p4)))))) (fun q => bk_X12_function_31 (s0 := 0) (mm_call_m _) (fun _ => h43 (fun ⟨_, t', u', a, b, p, p2, p3, _⟩ => q (by rw [← (huniq t' u' a b p p2).1]; exact p3))) n0)
  have hok : FOK NB mi x1 (nI t) (nI u) := ⟨⟨l0, l2⟩, t, u, t1, u1, rfl, rfl, w1, w2⟩
  have hv : ¬ mi 176 20 = 12 → NF < 12 ∧ vp_in (mi 176 20) 12 := fun z => by
    rw [hI.2.1.2.2] at z ⊢
    have : NF < 12 := by
      by_cases q : NF = 12
      · subst q
        exact absurd rfl z
      · omega
    exact ⟨this, vp_in_nI this (by decide)⟩
  refine bk_X12_function_40 (s0 := 1) (mm_call_m _) (fun _ z => (hv z).2) (fun _ z => (hv z).2) (fun _ z => (hv z).2) (fun _ z => (hv z).2) (fun _ z => ?_) (fun _ z => hfull hok (nI_ij (by omega) (by decide) (hI.2.1.2.2.symm.trans z))) n1
  have hlt := (hv z).1
  rw [hI.2.1.2.2, nI_clamp (by omega), show nI NF + 1 = nI (NF + 1) from (nI_succ NF).symm, mm_dec' NF (by omega)]
  exact hnew hok hlt
theorem FOK_c {m n : mm_P} {x1 x2 x3 : Int32} (hr : ∀ t, t < NB → ∀ c, 177 ≤ c → c ≤ 183 → n c t = m c t) (h : FOK NB m x1 x2 x3) : FOK NB n x1 x2 x3 := by
  obtain ⟨h1, t, u, t1, u1, t2, u2, w1, w2⟩ := h
  refine ⟨h1, t, u, t1, u1, t2, u2, ?_, ?_⟩ <;> unfold wthn
  · rw [hr t t1 181 (by decide) (by decide), hr t t1 182 (by decide) (by decide)]
    exact w1
  · rw [hr u u1 181 (by decide) (by decide), hr u u1 182 (by decide) (by decide)]
    exact w2
theorem lx_function {x1 x2 x3 : Int32} {Q' : Int32 → Int32 → mm_P → mm_G → Prop} (hCO : CO mi ml) (hQ : ∀ v n m2, CO n m2 → Q' v v n m2) : mm_cq (mm_call mm_ms (mm_tb L xs) (d + 20)) 147 [mm_R 0, mm_I x1, mm_I x2, mm_I x3] mi ml (fun o n1 n2 => ∃ v, o = some (mm_I v) ∧ mm_cq (mm_call mm_ms (mm_tb L xs) (d + 20)) 190 [mm_R 176, mm_I x1, mm_I x2, mm_I x3] n1 n2 (fun o2 n3 n4 => ∃ v2, o2 = some (mm_I v2) ∧ Q' v v2 n3 n4)) := by
  obtain ⟨hIC, ⟨NB, ND, NF, hI, hT, hN, hF⟩, h51, h41, hin⟩ := id hCO
  have hNB := hI.1.1
  have hND := hI.1.2.1
  have hNF := hI.1.2.2
  refine sx_X11_function hIC hI.2.2.2.1 hT hNB.2 hN.1 hND hF.1 hNF (fun nok => ⟨-2, rfl, ?_⟩) (fun ok hf => ⟨-4, rfl, ?_⟩) (fun ok hlt m1 m2 hi hs => ⟨nI NF, rfl, ?_⟩)
  · exact sx_X12_function (d := d + 17) hI (fun _ => ⟨_, rfl, hQ _ _ _ hCO⟩) (fun q => absurd q nok) (fun q => absurd q nok)
  · exact sx_X12_function (d := d + 17) hI (fun q => absurd ok q) (fun _ _ => ⟨_, rfl, hQ _ _ _ hCO⟩) (fun _ q => by omega)
  · have hhi : ∀ c i, 176 ≤ c → m1 c i = mi c i := fun c i q => (hs.1 c i (.inr q)).trans (F5_o (by omega) (by omega))
    have hI1 : IM m1 NB ND NF := IM_h hI hhi
    have ok1 : FOK NB m1 x1 x2 x3 := FOK_c (fun t _ c a b => hhi c t (by omega)) ok
    refine sx_X12_function (d := d + 17) hI1 (fun q => absurd ok1 q) (fun _ q => by omega) (fun _ _ => ⟨_, rfl, hQ _ _ _ ?_⟩)
    obtain ⟨hl, t, u, t1, u1, rfl, rfl, w1, w2⟩ := ok
    rw [nI_clamp (show t < 2 ^ 31 by omega), nI_clamp (show u < 2 ^ 31 by omega)] at hs
    obtain ⟨V1, V2, V3, V4, V5⟩ := G5_v (w := m1) (n := NF) (a := x1) (b := nI t) (c := nI u)
    obtain ⟨W1, W2, W3, W4, W5⟩ := F5_v (w := mi) (n := NF) (a := x1) (b := nI t) (c := nI u)
    have hg : ∀ c i, ¬ (194 ≤ c ∧ c ≤ 197 ∧ i = NF) → ¬ (c = 176 ∧ i = 20) → G5 m1 NF x1 (nI t) (nI u) c i = m1 c i := fun c i a b => G5_o a b
    have hstc : ∀ c i, stC c i → G5 m1 NF x1 (nI t) (nI u) c i = F5 mi NF x1 (nI t) (nI u) c i := fun c i q => (hg c i (by unfold stC at q; omega) (by unfold stC at q; omega)).trans (hs.1 c i (.inl q))
    have hrow : ∀ s, s < NB → ∀ c, 177 ≤ c → c ≤ 183 → G5 m1 NF x1 (nI t) (nI u) c s = mi c s := fun s _ c a b => (hg c s (by omega) (by omega)).trans (hhi c s (by omega))
    have hok : okF NB ND (G5 m1 NF x1 (nI t) (nI u)) NF := by
      unfold okF wthn
      rw [V1, V2, V3, V4]
      refine ⟨hl, ⟨t, t1, rfl, ?_⟩, ⟨u, u1, rfl, ?_⟩, .inl rfl⟩
      · rw [hrow t t1 181 (by decide) (by decide), hrow t t1 182 (by decide) (by decide)]
        exact w1
      · rw [hrow u u1 181 (by decide) (by decide), hrow u u1 182 (by decide) (by decide)]
        exact w2
    have hIn : IM (G5 m1 NF x1 (nI t) (nI u)) NB ND (NF + 1) := IM_function hI1 hlt V5 (hg 176 0 (by omega) (by omega)) (hg 176 13 (by omega) (by omega)) (fun c i q q2 => hg c i q2 (by omega)) hok
    have h2 : ∀ s, m2 2 s = ml 2 s := fun s => (hs.2 2 s (.inl rfl)).trans (by rw [mm_u_e (by decide), mm_u_e (by decide)])
    refine ⟨IC_k hi (fun c i q => hg c i (by omega) (by omega)), ⟨NB, ND, NF + 1, hIn, TC_c hT ((hstc 1 1 (by unfold stC; omega)).trans (F5_o (by omega) (by omega))) hrow (fun s _ => h2 s), NC_c hN ((hstc 3 5 (by unfold stC; omega)).trans (F5_o (by omega) (by omega))) (fun c i q => ?_), ⟨(hstc 9 7 (by unfold stC; omega)).trans W5, fun f hf => ?_⟩⟩, ?_, ?_, fun i hi' => ?_⟩
    · by_cases h8 : 188 ≤ c
      · exact (hg c i (by omega) (by omega)).trans (hhi c i (by omega))
      · exact (hstc c i (by unfold stC; omega)).trans (F5_o (by omega) (by omega))
    · have e13 : m2 13 f = if f = NF then ml 2 t else ml 13 f := by
        rw [hs.2 13 f (by omega), mm_u_e (by decide)]
        split
        · rename_i q
          rw [q, mm_u_s]
        · rename_i q
          exact mm_u_f q
      have e14 : m2 14 f = if f = NF then ml 2 u else ml 14 f := by
        rw [hs.2 14 f (by omega)]
        split
        · rename_i q
          rw [q, mm_u_s]
        · rename_i q
          rw [mm_u_f q, mm_u_e (by decide)]
      by_cases hfN : f = NF
      · subst hfN
        rw [if_pos rfl] at e13 e14
        rw [V1, V2, V3, V4, hstc 10 f (by unfold stC; omega), hstc 11 f (by unfold stC; omega), hstc 12 f (by unfold stC; omega), hstc 15 f (by unfold stC; omega), W1, W2, W3, W4, e13, e14, h2, h2, nI_clamp (by omega), nI_clamp (by omega)]
        exact ⟨rfl, rfl, rfl, rfl, rfl, rfl⟩
      · rw [if_neg hfN] at e13 e14
        have hf' := hF.2 f (by omega)
        have hc' : ∀ c, (c = 10 ∨ c = 11 ∨ c = 12 ∨ c = 15) → G5 m1 NF x1 (nI t) (nI u) c f = mi c f := fun c q => (hstc c f (by unfold stC; omega)).trans (F5_o (by omega) (by omega))
        have hm' : ∀ c, 194 ≤ c → c ≤ 197 → G5 m1 NF x1 (nI t) (nI u) c f = mi c f := fun c a b => (hg c f (by omega) (by omega)).trans (hhi c f (by omega))
        rw [hc' 10 (by omega), hc' 11 (by omega), hc' 12 (by omega), hc' 15 (by omega), hm' 194 (by decide) (by decide), hm' 195 (by decide) (by decide), hm' 196 (by decide) (by decide), hm' 197 (by decide) (by decide), e13, e14, h2, h2]
        exact hf'
    · rw [hg 176 51 (by omega) (by omega), hhi 176 51 (by decide)]
      exact h51
    · rw [hstc 160 1 (by unfold stC; omega), F5_o (by omega) (by omega), hg 176 41 (by omega) (by omega), hhi 176 41 (by decide)]
      exact h41
    · rw [hstc 160 1 (by unfold stC; omega), F5_o (by omega) (by omega)] at hi'
      rw [hstc 161 i (by unfold stC; omega), F5_o (by omega) (by omega), hg 211 i (by omega) (by omega), hhi 211 i (by decide)]
      exact hin i hi'
theorem sx_has2 {x : Int32} (h97 : mi 9 7 = nI NF) (hNF : NF ≤ 12) (h1 : ∀ t, t < NF → x = nI t → Q (some (mm_I 1)) mi ml) (h0 : (∀ t, t < NF → ¬ x = nI t) → Q (some (mm_I 0)) mi ml) : mm_cq (mm_call mm_ms (mm_tb L xs) (d + 1)) 24 [mm_R 9, mm_I x] mi ml Q := by
  have e : (mi 9 7).toInt = NF := by rw [h97]; exact mm_tI (by omega)
  refine sp_X2_has (fun a b _ => ?_) (fun a => h0 (fun t ht z => a ?_))
  · obtain ⟨t, t1, t2, t3, t4⟩ := mm_of a b
    exact h1 t (by omega) t1
  · rw [z, e, mm_tI (by omega)]
    omega
theorem sx_X11_body {x1 x2 : Int32} (hIC : mm_IC mi) (h35 : mi 3 5 = nI ND) (hND : ND ≤ 200) (h97 : mi 9 7 = nI NF) (hNF : NF ≤ 12) (hbad : (¬ ∃ f n, f < NF ∧ n < ND ∧ x1 = nI f ∧ x2 = nI n) → Q (some (mm_I (-2))) mi ml) (hnew : ∀ f n, f < NF → n < ND → x1 = nI f → x2 = nI n → ∀ n1 n2, mm_IC n1 → SS (mm_u mi 15 f (nI n)) n1 ml n2 → Q (some (mm_I 1)) n1 n2) : mm_cq (mm_call mm_ms (mm_tb L xs) (d + 20)) 148 [mm_R 0, mm_I x1, mm_I x2] mi ml Q := by
  have n1 : ∀ {P : Prop}, (1 : Int32) = 0 → P := fun z => absurd z (by decide)
  have n0 : ∀ {P : Prop}, ¬ (0 : Int32) = 0 → P := fun z => absurd rfl z
  have h22 : (¬ ∃ f n, f < NF ∧ n < ND ∧ x1 = nI f ∧ x2 = nI n) → mm_WQ (mm_call mm_ms (mm_tb L xs) (d + 19)) (mm_tb L xs) mm_m148 (mm_li mm_m148) Q 22 [some (mm_R 0), some (mm_I x1), some (mm_I x2)] [] mi ml := fun z => bk_X11_body_22 (mm_call_m _) (hbad z)
  refine en_X11_body (bk_X11_body_0 (mm_call_m _) (sx_has2 h97 hNF (fun f f1 f2 => bk_X11_body_8 (s0 := 1) (mm_call_m _) n1 (fun _ => sx_has7 h35 hND (fun n e1 e2 => bk_X11_body_19 (s0 := 1) (mm_call_m _) (fun _ => ?_) n1) (fun q => bk_X11_body_19 (s0 := 0) (mm_call_m _) n0 (fun _ => h22 (fun ⟨_, n, _, a, _, b⟩ => q ⟨n, a, b⟩))))) (fun q => bk_X11_body_8 (s0 := 0) (mm_call_m _) (fun _ => h22 (fun ⟨f, _, a, _, b, _⟩ => q f a b)) n0)))
  subst f2 e2
  refine sc_X7_usesUnder (d := d + 2) hIC (fun v m1 m2 hi hf => bk_X11_body_39 (mm_call_m _) ?_)
  have hs := SS_w use_w hf
  have e97 : m1 9 7 = nI NF := (hs.1 9 7 (.inl (by unfold stC; omega))).trans h97
  refine en_X2_giveBody (bk_X2_giveBody_0 (mm_call_m _) (sx_has2 e97 hNF (fun t _ _ => bk_X2_giveBody_5 (s0 := 1) (mm_call_m _) n1 (fun _ => vp_in_nI (by omega) (by decide)) (fun _ => vp_in_nI (by omega) (by decide)) (fun _ => bk_X2_giveBody_22 (mm_call_m _) (bk_X11_body_42 (mm_call_m _) ?_))) (fun q => absurd rfl (q f f1))))
  rw [nI_clamp (by omega)]
  have hIC2 : mm_IC (mm_u (mm_u m1 15 f (nI n)) 16 f v) := by
    refine mm_IC_n (mm_IC_n hi ?_ ?_ ?_ ?_ ?_) ?_ ?_ ?_ ?_ ?_ <;> decide
  refine sc_X11_judgeAnew hIC2 (fun k1 k2 ki kf => bk_X11_body_46 (mm_call_m _) (hnew f n f1 e1 rfl rfl k1 k2 ki ?_))
  have hj := SS_w jud_w kf
  refine ⟨fun c i q => ?_, fun c i q => (hj.2 c i q).trans (hs.2 c i q)⟩
  rw [hj.1 c i q, mm_u_e (by unfold stC at q; omega)]
  by_cases h15 : c = 15 ∧ i = f
  · obtain ⟨rfl, rfl⟩ := h15
    rw [mm_u_s, mm_u_s]
  · rw [mm_u_o h15, mm_u_o h15]
    exact hs.1 c i q
theorem lx_body {x1 x2 : Int32} {Q' : Int32 → Int32 → mm_P → mm_G → Prop} (hCO : CO mi ml) (hQ : ∀ v n m2, CO n m2 → Q' v v n m2) : mm_cq (mm_call mm_ms (mm_tb L xs) (d + 20)) 148 [mm_R 0, mm_I x1, mm_I x2] mi ml (fun o n1 n2 => ∃ v, o = some (mm_I v) ∧ mm_cq (mm_call mm_ms (mm_tb L xs) (d + 20)) 191 [mm_R 176, mm_I x1, mm_I x2] n1 n2 (fun o2 n3 n4 => ∃ v2, o2 = some (mm_I v2) ∧ Q' v v2 n3 n4)) := by
  obtain ⟨hIC, ⟨NB, ND, NF, hI, hT, hN, hF⟩, h51, h41, hin⟩ := id hCO
  have hNB := hI.1.1
  have hND := hI.1.2.1
  have hNF := hI.1.2.2
  have n1 : ∀ {P : Prop}, (1 : Int32) = 0 → P := fun z => absurd z (by decide)
  have n0 : ∀ {P : Prop}, ¬ (0 : Int32) = 0 → P := fun z => absurd rfl z
  refine sx_X11_body hIC hN.1 hND hF.1 hNF (fun nok => ⟨-2, rfl, ?_⟩) (fun f n f1 e1 f2 e2 m1 m2 hi hs => ⟨1, rfl, ?_⟩)
  · have h16 : mm_WQ (mm_call mm_ms (mm_tb L xs) (d + 19)) (mm_tb L xs) mm_m191 (mm_li mm_m191) (fun o2 n3 n4 => ∃ v2, o2 = some (mm_I v2) ∧ Q' (-2) v2 n3 n4) 16 [some (mm_R 176), some (mm_I x1), some (mm_I x2)] [] mi ml := bk_X12_body_16 (mm_call_m _) ⟨-2, rfl, hQ _ _ _ hCO⟩
    exact en_X12_body (bk_X12_body_0 (mm_call_m _) (sp_fun hI (fun f f1 f2 => bk_X12_body_5 (s0 := 1) (mm_call_m _) n1 (fun _ => sp_nod hI (fun b b1 b2 => absurd ⟨f, b, f1, b1, f2, b2⟩ nok) (fun _ => bk_X12_body_13 (s0 := 0) (mm_call_m _) n0 n0 (fun _ => h16)))) (fun _ => bk_X12_body_5 (s0 := 0) (mm_call_m _) (fun _ => h16) n0)))
  · subst f2 e2
    have hhi : ∀ c i, 176 ≤ c → m1 c i = mi c i := fun c i q => (hs.1 c i (.inr q)).trans (mm_u_e (by omega))
    have hI1 : IM m1 NB ND NF := IM_h hI hhi
    refine en_X12_body (bk_X12_body_0 (mm_call_m _) (sp_fun hI1 (fun f' g1 g2 => bk_X12_body_5 (s0 := 1) (mm_call_m _) n1 (fun _ => sp_nod hI1 (fun b b1 b2 => bk_X12_body_13 (s0 := 1) (mm_call_m _) (fun _ => vp_in_nI (by omega) (by decide)) (fun _ => ?_) n1) (fun q => absurd rfl (q n e1)))) (fun q => absurd rfl (q f f1))))
    rw [nI_clamp (by omega)]
    refine ⟨1, rfl, hQ _ _ _ ?_⟩
    have hg : ∀ c i, ¬ (c = 197 ∧ i = f) → mm_u m1 197 f (nI n) c i = m1 c i := fun c i q => mm_u_o q
    have hstc : ∀ c i, stC c i → ¬ (c = 15 ∧ i = f) → mm_u m1 197 f (nI n) c i = mi c i := fun c i q q2 => (hg c i (by unfold stC at q; omega)).trans ((hs.1 c i (.inl q)).trans (mm_u_o q2))
    have hrow : ∀ s, s < NB → ∀ c, 177 ≤ c → c ≤ 183 → mm_u m1 197 f (nI n) c s = mi c s := fun s _ c a b => (hg c s (by omega)).trans (hhi c s (by omega))
    have h2 : ∀ c s, (c = 2 ∨ c = 13 ∨ c = 14) → m2 c s = ml c s := fun c s q => hs.2 c s q
    refine ⟨IC_k hi (fun c i q => hg c i (by omega)), ⟨NB, ND, NF, IM_body hI1 f1 e1, TC_c hT (hstc 1 1 (by unfold stC; omega) (by omega)) hrow (fun s _ => h2 2 s (by omega)), NC_c hN (hstc 3 5 (by unfold stC; omega) (by omega)) (fun c i q => ?_), ⟨(hstc 9 7 (by unfold stC; omega) (by omega)).trans hF.1, fun g hg' => ?_⟩⟩, ?_, ?_, fun i hi' => ?_⟩
    · by_cases h8 : 188 ≤ c
      · exact (hg c i (by omega)).trans (hhi c i (by omega))
      · exact hstc c i (by unfold stC; omega) (by omega)
    · have hf' := hF.2 g hg'
      have hc' : ∀ c, (c = 10 ∨ c = 11 ∨ c = 12) → mm_u m1 197 f (nI n) c g = mi c g := fun c q => hstc c g (by unfold stC; omega) (by omega)
      have hm' : ∀ c, 194 ≤ c → c ≤ 196 → mm_u m1 197 f (nI n) c g = mi c g := fun c a b => (hg c g (by omega)).trans (hhi c g (by omega))
      rw [hc' 10 (by omega), hc' 11 (by omega), hc' 12 (by omega), hm' 194 (by decide) (by decide), hm' 195 (by decide) (by decide), hm' 196 (by decide) (by decide), h2 13 g (by omega), h2 14 g (by omega), h2 2 _ (by omega), h2 2 _ (by omega)]
      refine ⟨hf'.1, hf'.2.1, hf'.2.2.1, ?_, hf'.2.2.2.2.1, hf'.2.2.2.2.2⟩
      by_cases hgf : g = f
      · subst hgf
        rw [mm_u_s, hg 15 g (by omega), hs.1 15 g (.inl (by unfold stC; omega)), mm_u_s]
      · rw [mm_u_f hgf, hhi 197 g (by decide), hstc 15 g (by unfold stC; omega) (by omega)]
        exact hf'.2.2.2.1
    · rw [hg 176 51 (by omega), hhi 176 51 (by decide)]
      exact h51
    · rw [hstc 160 1 (by unfold stC; omega) (by omega), hg 176 41 (by omega), hhi 176 41 (by decide)]
      exact h41
    · rw [hstc 160 1 (by unfold stC; omega) (by omega)] at hi'
      rw [hstc 161 i (by unfold stC; omega) (by omega), hg 211 i (by omega), hhi 211 i (by decide)]
      exact hin i hi'
end MMT
