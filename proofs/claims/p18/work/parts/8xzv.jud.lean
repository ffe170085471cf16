/-! ===== what is told: the class ===== -/
/-- links of a chain beside the reference's -/
def CHN (B K : HF) (E : Nat → Nat → Prop) : Nat → Int32 → Int32 → Prop
  | 0, v, x => v = -1 ∧ x = 0
  | n + 1, v, x => (v = -1 ∧ x = 0) ∨ ∃ a p, a < 6000 ∧ v = nI a ∧ x = nI p ∧ 4096 ≤ p ∧ p + 1 < 8192 ∧ E a p ∧ CHN B K E n (B a) (K p)
theorem CHN_x {x : Int32} {p : Nat} (a3 : x = nI p) (a4 : 4096 ≤ p) (a5 : p + 1 < 8192) : ¬ x = 0 := fun q => by
  have := congrArg Int32.toInt (a3.symm.trans q)
  rw [mm_tI (by omega), mm_tt0] at this
  omega
theorem CHN_e {B K : HF} {E E' : Nat → Nat → Prop} (h : ∀ a p, E a p → E' a p) : ∀ (n : Nat) {v x : Int32}, CHN B K E n v x → CHN B K E' n v x
  | 0, _, _, q => q
  | n + 1, _, _, q => by
    rcases q with q | ⟨a, p, a1, a2, a3, a4, a5, a6, a7⟩
    · exact .inl q
    · exact .inr ⟨a, p, a1, a2, a3, a4, a5, h _ _ a6, CHN_e h n a7⟩
/-- nothing but the row changes -/
def FTl (w w' : mm_P) : Prop := ∀ c i, ¬ (c = 162 ∧ i = 1) → ¬ c = 163 → w' c i = w c i
theorem FTl_r {w : mm_P} : FTl w w := fun _ _ _ _ => rfl
theorem FTl_t {w w' w2 : mm_P} (a : FTl w w') (b : FTl w' w2) : FTl w w2 := fun c i q1 q2 => (b c i q1 q2).trans (a c i q1 q2)
theorem RWl_100 {n : Int32} {r : HF} {l : List Int32} (h : RWl n r l) (z : ¬ n < 100) : 100 ≤ l.length := by
  have z2 : 100 ≤ n := Int32.not_lt.mp z
  have z' := mm_leI z2
  rw [h.1, mm_tt100, mm_tI (by omega)] at z'
  omega
section MMT
variable {L : Nat} {xs : Nat → Int32} {d : Nat} {Q : mm_QQ} {ml : mm_G} {lim : Nat × Nat}
theorem se_add {w : mm_P} {l : List Int32} {x : Int32} (h : RWl (w 162 1) (w 163) l) (hQ : ∀ w', FTl w w' → RWl (w' 162 1) (w' 163) (l ++ [x]) → Q none w' ml) : mm_cq (mm_call mm_ms (mm_tb L xs) (d + 1)) 125 [mm_R 162, mm_I x] w ml Q := by
  have hlt : ¬ 100 ≤ w 162 1 → l.length < 100 := fun z => by
    have z' := mm_nleI z
    rw [h.1, mm_tI (by omega), mm_tt100] at z'
    omega
  refine en_X9_add (bk_X9_add_0 (mm_call_m _) (fun z => ?_) (fun _ z => bk_X9_add_33 (mm_call_m _) (hQ w FTl_r (RWl_f h (RWl_100 h (Int32.not_lt.mpr z))))) (fun _ z => ?_) (fun _ z => bk_X9_add_33 (mm_call_m _) (hQ _ (fun c i q1 q2 => ?_) ?_)))
  · exfalso
    have z' := mm_ltI z
    rw [h.1, mm_tI (by omega), mm_tt0] at z'
    omega
  · have := hlt z
    rw [h.1]
    exact vp_in_nI (by omega) (by decide)
  · rw [mm_u_e (by omega), mm_u_o (by omega)]
  · have := hlt z
    have e1 : w 162 1 = nI l.length := by rw [h.1, show min 100 l.length = l.length by omega]
    rw [e1, nI_clamp (by omega), show nI l.length + 1 = nI (l.length + 1) from (nI_succ _).symm, show mm_u (mm_u w 162 1 (nI (l.length + 1))) 163 l.length x 162 1 = nI (l.length + 1) from (mm_u_e (by decide)).trans mm_u_s]
    exact RWl_a h this mm_u_s (fun i hi => (mm_u_f hi).trans (mm_u_e (by decide)))
theorem tc_len_L {E : Nat → Nat → Prop} {B K : HF} {w : mm_P} {x1 : Int32} {N : Nat} (hK : ∀ i, w 165 i = K i) (hN : N < 1000) (hQ : Q (some (mm_I (nI N))) w ml) : ∀ (n c : Nat) (v x : Int32), CHN B K E n v x → c + (elsF B n v).length = N → mm_WQ (mm_call mm_ms (mm_tb L xs) (d + 1)) (mm_tb L xs) mm_m82 lim Q 4 [some (mm_R 164), some (mm_I x1), some (mm_I (nI c)), some (mm_I x)] [] w ml := by
  intro n
  induction n with
  | zero =>
    intro c v x hv hc
    obtain ⟨e, e2⟩ : v = -1 ∧ x = 0 := hv
    have hc' : c = N := hc
    subst hc'
    exact bk_X6_chainLength_L_4 (mm_call_m _) (fun _ => bk_X6_chainLength_L_27 (mm_call_m _) hQ) (fun z => absurd e2 z) (fun z => absurd e2 z)
  | succ n ih =>
    intro c v x hv hc
    rcases hv with ⟨e, e2⟩ | ⟨a, p, a1, a2, a3, a4, a5, a6, a7⟩
    · rw [e, els_m] at hc
      have hc' : c = N := hc
      subst hc'
      exact bk_X6_chainLength_L_4 (mm_call_m _) (fun _ => bk_X6_chainLength_L_27 (mm_call_m _) hQ) (fun z => absurd e2 z) (fun z => absurd e2 z)
    · have hx := CHN_x a3 a4 a5
      rw [a2, els_c (by omega), List.length_cons] at hc
      refine bk_X6_chainLength_L_4 (mm_call_m _) (fun z => absurd z hx) (fun _ z => ?_) (fun _ _ => ?_)
      · have z' := mm_leI z
        rw [mm_tI (by omega), show (1000 : Int32).toInt = 1000 from rfl] at z'
        omega
      · rw [a3]
        refine sm_cell_L (by omega) (bk_X6_chainLength_L_23 (mm_call_m _) ?_)
        rw [hK p, show nI c + 1 = nI (c + 1) from (nI_succ c).symm]
        exact ih _ _ _ a7 (by omega)
theorem sp_len_L {E : Nat → Nat → Prop} {B K : HF} {w : mm_P} {n : Nat} {v x : Int32} (hK : ∀ i, w 165 i = K i) (hn : n ≤ 200) (hC : CHN B K E n v x) (hQ : Q (some (mm_I (nI (elsF B n v).length))) w ml) : mm_cq (mm_call mm_ms (mm_tb L xs) (d + 2)) 82 [mm_R 164, mm_I x] w ml Q := by
  have hl := els_le (B := B) n v
  exact en_X6_chainLength_L (bk_X6_chainLength_L_0 (mm_call_m _) (tc_len_L (N := (elsF B n v).length) hK (by omega) hQ n 0 v x hC (by omega)))
theorem tc_loop_L {E : Nat → Nat → Prop} {F : Nat → List Int32} {B K : HF} {w0 : mm_P} {x1 s1 : Int64} {x3 x4 : Int32} {N : Nat} (hN : N < 1000) (h165 : ∀ i, w0 165 i = K i) (efs : f_fs x1 = s1)
    (run : ∀ {w : mm_P} {a p : Nat} {l : List Int32} {Q' : mm_QQ}, E a p → 4096 ≤ p → p + 1 < 8192 → FTl w0 w → RWl (w 162 1) (w 163) l → (∀ w', FTl w0 w' → RWl (w' 162 1) (w' 163) (l ++ F a) → Q' none w' ml) → mm_cq (mm_call mm_ms (mm_tb L xs) (d + 3)) 81 [mm_R 164, mm_L s1, mm_I (nI (p + 1))] w ml Q') :
    ∀ (j i : Nat) {w : mm_P} {v x : Int32} {l : List Int32}, CHN B K E j v x → i + (elsF B j v).length = N → FTl w0 w → RWl (w 162 1) (w 163) l → (∀ w', FTl w0 w' → RWl (w' 162 1) (w' 163) (l ++ (elsF B j v).flatMap F) → Q none w' ml) → mm_WQ (mm_call mm_ms (mm_tb L xs) (d + 3)) (mm_tb L xs) mm_m81 lim Q 96 [some (mm_R 164), some (mm_L x1), none, some (mm_I x3), some (mm_I x4), some (mm_I (nI N)), some (mm_I x), some (mm_I (nI i))] [] w ml := by
  have stop : ∀ {i : Nat} {w : mm_P} {x : Int32} {l : List Int32}, i = N → RWl (w 162 1) (w 163) l → FTl w0 w → (∀ w', FTl w0 w' → RWl (w' 162 1) (w' 163) (l ++ []) → Q none w' ml) → mm_WQ (mm_call mm_ms (mm_tb L xs) (d + 3)) (mm_tb L xs) mm_m81 lim Q 96 [some (mm_R 164), some (mm_L x1), none, some (mm_I x3), some (mm_I x4), some (mm_I (nI N)), some (mm_I x), some (mm_I (nI i))] [] w ml := fun {i w x l} e hR hF hQ => by
    subst e
    exact bk_X6_tellValue_L_96 (mm_call_m _) (fun _ => bk_X6_tellValue_L_139 (mm_call_m _) (bk_X6_tellValue_L_154 (mm_call_m _) (hQ w hF (by rw [List.append_nil]; exact hR)))) (fun z => absurd (Int32.le_refl _) z)
  intro j
  induction j with
  | zero =>
    intro i w v x l hv hc hF hR hQ
    exact stop hc hR hF hQ
  | succ j ih =>
    intro i w v x l hv hc hF hR hQ
    rcases hv with ⟨e, e2⟩ | ⟨a, p, a1, a2, a3, a4, a5, a6, a7⟩
    · rw [e, els_m] at hc hQ
      exact stop hc hR hF hQ
    · rw [a2, els_c (by omega), List.length_cons] at hc
      rw [a2, els_c (by omega), List.flatMap_cons] at hQ
      refine bk_X6_tellValue_L_96 (mm_call_m _) (fun z => ?_) (fun _ => en_X9_isFull (bk_X9_isFull_0 (mm_call_m _) (fun z => bk_X6_tellValue_L_110 (s0 := 0) (mm_call_m _) (fun y => absurd rfl y) (fun _ => ?_)) (fun z => bk_X6_tellValue_L_110 (s0 := 1) (mm_call_m _) (fun _ => bk_X6_tellValue_L_139 (mm_call_m _) (bk_X6_tellValue_L_154 (mm_call_m _) (hQ w hF (RWl_f hR (RWl_100 hR z))))) (fun y => absurd y (by decide)))))
      · have z' := mm_leI z
        rw [mm_tI (by omega), mm_tI (by omega)] at z'
        omega
      · refine sp_X10_firstOf (bk_X6_tellValue_L_118 (mm_call_m _) ?_)
        rw [efs, a3, show nI p + 1 = nI (p + 1) from (nI_succ p).symm]
        refine run a6 a4 a5 hF hR (fun w1 f1 r1 => bk_X6_tellValue_L_125 (mm_call_m _) (sm_cell_L (by omega) (bk_X6_tellValue_L_131 (mm_call_m _) ?_)))
        rw [f1 165 p (by omega) (by decide), h165 p, show nI i + 1 = nI (i + 1) from (nI_succ i).symm]
        exact ih (i + 1) a7 (by omega) f1 r1 (fun w' g1 g2 => hQ w' g1 (by rw [← List.append_assoc]; exact g2))
theorem tc_len_C {E : Nat → Nat → Prop} {B K : HF} {w : mm_P} {x1 : Int32} {N : Nat} (hK : ∀ i, w 171 i = K i) (hN : N < 1000) (hQ : Q (some (mm_I (nI N))) w ml) : ∀ (n c : Nat) (v x : Int32), CHN B K E n v x → c + (elsF B n v).length = N → mm_WQ (mm_call mm_ms (mm_tb L xs) (d + 1)) (mm_tb L xs) mm_m82 lim Q 4 [some (mm_R 170), some (mm_I x1), some (mm_I (nI c)), some (mm_I x)] [] w ml := by
  intro n
  induction n with
  | zero =>
    intro c v x hv hc
    obtain ⟨e, e2⟩ : v = -1 ∧ x = 0 := hv
    have hc' : c = N := hc
    subst hc'
    exact bk_X6_chainLength_C_4 (mm_call_m _) (fun _ => bk_X6_chainLength_C_27 (mm_call_m _) hQ) (fun z => absurd e2 z) (fun z => absurd e2 z)
  | succ n ih =>
    intro c v x hv hc
    rcases hv with ⟨e, e2⟩ | ⟨a, p, a1, a2, a3, a4, a5, a6, a7⟩
    · rw [e, els_m] at hc
      have hc' : c = N := hc
      subst hc'
      exact bk_X6_chainLength_C_4 (mm_call_m _) (fun _ => bk_X6_chainLength_C_27 (mm_call_m _) hQ) (fun z => absurd e2 z) (fun z => absurd e2 z)
    · have hx := CHN_x a3 a4 a5
      rw [a2, els_c (by omega), List.length_cons] at hc
      refine bk_X6_chainLength_C_4 (mm_call_m _) (fun z => absurd z hx) (fun _ z => ?_) (fun _ _ => ?_)
      · have z' := mm_leI z
        rw [mm_tI (by omega), show (1000 : Int32).toInt = 1000 from rfl] at z'
        omega
      · rw [a3]
        refine sm_cell_C (by omega) (bk_X6_chainLength_C_23 (mm_call_m _) ?_)
        rw [hK p, show nI c + 1 = nI (c + 1) from (nI_succ c).symm]
        exact ih _ _ _ a7 (by omega)
theorem sp_len_C {E : Nat → Nat → Prop} {B K : HF} {w : mm_P} {n : Nat} {v x : Int32} (hK : ∀ i, w 171 i = K i) (hn : n ≤ 200) (hC : CHN B K E n v x) (hQ : Q (some (mm_I (nI (elsF B n v).length))) w ml) : mm_cq (mm_call mm_ms (mm_tb L xs) (d + 2)) 82 [mm_R 170, mm_I x] w ml Q := by
  have hl := els_le (B := B) n v
  exact en_X6_chainLength_C (bk_X6_chainLength_C_0 (mm_call_m _) (tc_len_C (N := (elsF B n v).length) hK (by omega) hQ n 0 v x hC (by omega)))
theorem tc_loop_C {E : Nat → Nat → Prop} {F : Nat → List Int32} {B K : HF} {w0 : mm_P} {x1 s1 : Int64} {x3 x4 : Int32} {N : Nat} (hN : N < 1000) (h165 : ∀ i, w0 171 i = K i) (efs : f_fs x1 = s1)
    (run : ∀ {w : mm_P} {a p : Nat} {l : List Int32} {Q' : mm_QQ}, E a p → 4096 ≤ p → p + 1 < 8192 → FTl w0 w → RWl (w 162 1) (w 163) l → (∀ w', FTl w0 w' → RWl (w' 162 1) (w' 163) (l ++ F a) → Q' none w' ml) → mm_cq (mm_call mm_ms (mm_tb L xs) (d + 3)) 81 [mm_R 170, mm_L s1, mm_I (nI (p + 1))] w ml Q') :
    ∀ (j i : Nat) {w : mm_P} {v x : Int32} {l : List Int32}, CHN B K E j v x → i + (elsF B j v).length = N → FTl w0 w → RWl (w 162 1) (w 163) l → (∀ w', FTl w0 w' → RWl (w' 162 1) (w' 163) (l ++ (elsF B j v).flatMap F) → Q none w' ml) → mm_WQ (mm_call mm_ms (mm_tb L xs) (d + 3)) (mm_tb L xs) mm_m81 lim Q 96 [some (mm_R 170), some (mm_L x1), none, some (mm_I x3), some (mm_I x4), some (mm_I (nI N)), some (mm_I x), some (mm_I (nI i))] [] w ml := by
  have stop : ∀ {i : Nat} {w : mm_P} {x : Int32} {l : List Int32}, i = N → RWl (w 162 1) (w 163) l → FTl w0 w → (∀ w', FTl w0 w' → RWl (w' 162 1) (w' 163) (l ++ []) → Q none w' ml) → mm_WQ (mm_call mm_ms (mm_tb L xs) (d + 3)) (mm_tb L xs) mm_m81 lim Q 96 [some (mm_R 170), some (mm_L x1), none, some (mm_I x3), some (mm_I x4), some (mm_I (nI N)), some (mm_I x), some (mm_I (nI i))] [] w ml := fun {i w x l} e hR hF hQ => by
    subst e
    exact bk_X6_tellValue_C_96 (mm_call_m _) (fun _ => bk_X6_tellValue_C_139 (mm_call_m _) (bk_X6_tellValue_C_154 (mm_call_m _) (hQ w hF (by rw [List.append_nil]; exact hR)))) (fun z => absurd (Int32.le_refl _) z)
  intro j
  induction j with
  | zero =>
    intro i w v x l hv hc hF hR hQ
    exact stop hc hR hF hQ
  | succ j ih =>
    intro i w v x l hv hc hF hR hQ
    rcases hv with ⟨e, e2⟩ | ⟨a, p, a1, a2, a3, a4, a5, a6, a7⟩
    · rw [e, els_m] at hc hQ
      exact stop hc hR hF hQ
    · rw [a2, els_c (by omega), List.length_cons] at hc
      rw [a2, els_c (by omega), List.flatMap_cons] at hQ
      refine bk_X6_tellValue_C_96 (mm_call_m _) (fun z => ?_) (fun _ => en_X9_isFull (bk_X9_isFull_0 (mm_call_m _) (fun z => bk_X6_tellValue_C_110 (s0 := 0) (mm_call_m _) (fun y => absurd rfl y) (fun _ => ?_)) (fun z => bk_X6_tellValue_C_110 (s0 := 1) (mm_call_m _) (fun _ => bk_X6_tellValue_C_139 (mm_call_m _) (bk_X6_tellValue_C_154 (mm_call_m _) (hQ w hF (RWl_f hR (RWl_100 hR z))))) (fun y => absurd y (by decide)))))
      · have z' := mm_leI z
        rw [mm_tI (by omega), mm_tI (by omega)] at z'
        omega
      · refine sp_X10_firstOf (bk_X6_tellValue_C_118 (mm_call_m _) ?_)
        rw [efs, a3, show nI p + 1 = nI (p + 1) from (nI_succ p).symm]
        refine run a6 a4 a5 hF hR (fun w1 f1 r1 => bk_X6_tellValue_C_125 (mm_call_m _) (sm_cell_C (by omega) (bk_X6_tellValue_C_131 (mm_call_m _) ?_)))
        rw [f1 171 p (by omega) (by decide), h165 p, show nI i + 1 = nI (i + 1) from (nI_succ i).symm]
        exact ih (i + 1) a7 (by omega) f1 r1 (fun w' g1 g2 => hQ w' g1 (by rw [← List.append_assoc]; exact g2))
theorem lLn_b {P : LR} {R : BR} {A B K : HF} {h : Nat} {φ : Nat → Nat} (hh : h < 6000) (hLP : LHP h 8192 φ) : ∀ (j : Nat) {v x : Int32}, lL P A B h K φ v x → bLn R j 104 A B h v → CHN B K (fun a p => P A B h K φ (A a) (K (p + 1)) ∧ R 104 A B h (A a)) j v x := by
  intro j
  induction j with
  | zero =>
    intro v x q hb
    have e : v = -1 := hb
    rcases lL_get q with q | ⟨a, a1, a2, -⟩
    · exact q
    · exfalso
      exact nI_ne (by omega) (a2.symm.trans e)
  | succ j ih =>
    intro v x q hb
    rcases lL_get q with q | ⟨a, a1, a2, a3, a4, a5⟩
    · exact .inl q
    · rcases hb with e | ⟨b, b1, b2, b3, b4⟩
      · exfalso
        exact nI_ne (by omega) (a2.symm.trans e)
      · have e : a = b := nI_ij (by omega) (by omega) (a2.symm.trans b2)
        subst e
        obtain ⟨p1, p2⟩ := hLP a a1
        exact .inr ⟨a, φ a, by omega, a2, a3, p1, by omega, ⟨a4, b3⟩, ih a5 b4⟩
theorem cl_tell {NB ND NF : Nat} {m : mm_P} (hI : IM m NB ND NF) (hT : TC NB m ml) {A B K : HF} {h : Nat} {φ : Nat → Nat} (hh : h < 6000) (hLP : LHP h 8192 φ) : ∀ (k : Nat) {ty a : Nat} {w : mm_P} {v : Int32} {l : List Int32} {Q : mm_QQ}, ty < NB → m 181 ty = 0 → m 182 ty = 0 → (m 180 ty).toInt ≤ k → a < 8192 → (∀ i, w 165 i = K i) → GVt gL m lI lI ty A B h K φ v (K a) → GVt gB m bI bI ty 104 A B h v → RWl (w 162 1) (w 163) l → (∀ w', FTl w w' → RWl (w' 162 1) (w' 163) (l ++ tlv m A B k ty v) → Q none w' ml) → mm_cq (mm_call mm_ms (mm_tb L xs) (d + k + 3)) 81 [mm_R 164, mm_L (ml 2 ty), mm_I (nI a)] w ml Q := by
  have hNB := hI.1.1
  have hTW := TW_I hI
  have hD := hI.2.2.2.1
  intro k
  induction k with
  | zero =>
    intro ty a w v l Q hty _ _ hk
    have := hD ty hty
    omega
  | succ k ih =>
    intro ty a w v l Q hty h1 h2 hk ha hK hG hB hR hQ
    obtain ⟨ekd, hc⟩ := SH_k hD hT hty
    have hkind : m 177 ty = 0 ∨ m 177 ty = 1 ∨ m 177 ty = 4 ∨ m 177 ty = 5 := by
      rcases hc with ⟨-, -, -, -, -, -, q⟩ | ⟨a, -, -, q, -⟩ | ⟨a, b, -, -, -, -, q, -⟩
      · rcases bs_cl q h1 h2 with e | e
        · exact .inl e
        · exact .inr (.inl e)
      · exact .inr (.inr (.inr q.1))
      · exact .inr (.inr (.inl q.1))
    show mm_cq (mm_call mm_ms (mm_tb L xs) (d + k + 3 + 1)) 81 [mm_R 164, mm_L (ml 2 ty), mm_I (nI a)] w ml Q
    refine en_X6_tellValue_L (bk_X6_tellValue_L_0 (mm_call_m _) (sp_X10_kindOf (bk_X6_tellValue_L_4 (mm_call_m _) (fun z => ?_) (fun z => ?_) (fun z1 z2 => ?_))))
    · -- PAIR
      have z' : m 177 ty = 4 := ekd.symm.trans (z.trans (show nI 4 = (4 : Int32) from rfl))
      obtain ⟨x, y, -, -, la, lb, ea, eb, eG, hen⟩ := GVt_4 (G := gL) (SA := lI) (SB := lI) hTW (.inl hty) z'
      obtain ⟨x', y', -, -, la', lb', ea', eb', eG', -⟩ := GVt_4 (G := gB) (SA := bI) (SB := bI) hTW (.inl hty) z'
      have e1 : x' = x := nI_ij (by omega) (by omega) (ea'.symm.trans ea)
      have e2 : y' = y := nI_ij (by omega) (by omega) (eb'.symm.trans eb)
      subst e1 e2
      obtain ⟨efs, esc⟩ : f_fs (ml 2 ty) = ml 2 x' ∧ f_sc (ml 2 ty) = ml 2 y' := by
        rcases hc with ⟨q, -⟩ | ⟨a', -, -, q, -⟩ | ⟨a', b', la', -, lb', -, q, q1, q2, -⟩
        · exact absurd z' q
        · have := q.1
          rw [z'] at this
          exact absurd this (by decide)
        · have e1 : a' = x' := nI_ij (by omega) (by omega) (q.2.1.symm.trans ea)
          have e2 : b' = y' := nI_ij (by omega) (by omega) (q.2.2.1.symm.trans eb)
          subst e1 e2
          exact ⟨q1, q2⟩
      obtain ⟨⟨c1, c2⟩, c3, c4⟩ := cl_4 hD (by omega) (by omega) hen h1 h2
      have da := hD x' (by omega)
      have db := hD y' (by omega)
      have hm' := f_most_r (x := m 180 x') (y := m 180 y') (lo := 1) (hi := 5) da.1 db.1
      have hd' : (m 180 x').toInt ≤ k ∧ (m 180 y').toInt ≤ k := by
        rw [hen.2.2.2.1, mm_1p (by omega) (by omega)] at hk
        omega
      rw [eG] at hG
      rw [eG'] at hB
      obtain ⟨p, p1, p2, p3, p4, p5⟩ := hG
      obtain ⟨p', b1, b2, b3, b4⟩ := hB
      have e : p' = p := nI_ij (by omega) (by omega) (b2.symm.trans p2)
      subst e
      obtain ⟨g1, g2⟩ := hLP p' p1
      have etl : tlv m A B (k + 1) ty v = tlv m A B k x' (A p') ++ tlv m A B k y' (B p') := by
        show (if m 177 ty = 4 then tlv m A B k (m 178 ty).toNatClampNeg (A v.toNatClampNeg) ++ tlv m A B k (m 179 ty).toNatClampNeg (B v.toNatClampNeg) else _) = _
        rw [if_pos z', ea, eb, p2, nI_clamp (by omega), nI_clamp (by omega), nI_clamp (by omega)]
      rw [etl] at hQ
      refine sp_X10_firstOf (bk_X6_tellValue_L_37 (mm_call_m _) (en_X5_partAddress (bk_X5_partAddress_0 (mm_call_m _) (fun _ => sm_cell_L ha (bk_X5_partAddress_20 (mm_call_m _) (bk_X6_tellValue_L_44 (mm_call_m _) ?_))) (fun y => absurd rfl y))))
      rw [efs, hK a, p3]
      refine ih (a := φ p') (v := A p') (l := l) (by omega) c1 c2 hd'.1 (by omega) hK p4 b3 hR (fun w1 f1 r1 => bk_X6_tellValue_L_47 (mm_call_m _) (sp_X10_secondOf (bk_X6_tellValue_L_52 (mm_call_m _) (en_X5_partAddress (bk_X5_partAddress_0 (mm_call_m _) (fun y => absurd y (by decide)) (fun _ => sm_cell_L ha (bk_X5_partAddress_10 (mm_call_m _) (bk_X5_partAddress_20 (mm_call_m _) (bk_X6_tellValue_L_59 (mm_call_m _) ?_)))))))))
      have hK1 : ∀ i, w1 165 i = K i := fun i => (f1 165 i (by omega) (by decide)).trans (hK i)
      rw [esc, hK1 a, p3, show nI (φ p') + 1 = nI (φ p' + 1) from (nI_succ _).symm]
      exact ih (a := φ p' + 1) (v := B p') (by omega) c3 c4 hd'.2 (by omega) hK1 p5 b4 r1 (fun w2 f2 r2 => bk_X6_tellValue_L_62 (mm_call_m _) (bk_X6_tellValue_L_154 (mm_call_m _) (hQ w2 (FTl_t f1 f2) (by rw [← List.append_assoc]; exact r2))))
    · -- LIST
      have z' : m 177 ty = 5 := ekd.symm.trans (z.trans (show nI 5 = (5 : Int32) from rfl))
      obtain ⟨x, -, la, ea, eG, hen⟩ := GVt_5 (G := gL) (SA := lI) (SB := lI) hTW (.inl hty) z'
      obtain ⟨x', -, la', ea', eG', -⟩ := GVt_5 (G := gB) (SA := bI) (SB := bI) hTW (.inl hty) z'
      have e1 : x' = x := nI_ij (by omega) (by omega) (ea'.symm.trans ea)
      subst e1
      have efs : f_fs (ml 2 ty) = ml 2 x' := by
        rcases hc with ⟨-, q, -⟩ | ⟨a', la', -, q, q1, -⟩ | ⟨a', b', -, -, -, -, q, -⟩
        · exact absurd z' q
        · have e1 : a' = x' := nI_ij (by omega) (by omega) (q.2.1.symm.trans ea)
          subst e1
          exact q1
        · have := q.1
          rw [z'] at this
          exact absurd this (by decide)
      have da := hD x' (by omega)
      obtain ⟨c1, c2⟩ := cl_5 hD (by omega) hen h1 h2
      have hk' : (m 180 x').toInt ≤ k := by
        rw [hen.2.2.2.1, mm_1p (by omega) (by omega)] at hk
        omega
      rw [eG] at hG
      rw [eG'] at hB
      obtain ⟨j, j1, hj⟩ := id hB
      have ej := els_st (by omega) j v hj 104 j1
      have hl := els_le (B := B) j v
      have hG2 : lL (GVt gL m lI lI x') A B h K φ v (K a) := hG
      have hj2 : bLn (GVt gB m bI bI x') j 104 A B h v := hj
      have hC := lLn_b hh hLP j hG2 hj2
      have etl : tlv m A B (k + 1) ty v = [nI (elsF B j v).length] ++ (elsF B j v).flatMap (fun b => tlv m A B k x' (A b)) := by
        show (if m 177 ty = 4 then _ else if m 177 ty = 5 then nI (elsF B 104 v).length :: (elsF B 104 v).flatMap (fun b => tlv m A B k (m 178 ty).toNatClampNeg (A b)) else _) = _
        rw [if_neg (by rw [z']; decide), if_pos z', ea, nI_clamp (by omega), ej]
        rfl
      rw [etl, ← List.append_assoc] at hQ
      refine sm_cell_L ha (bk_X6_tellValue_L_70 (mm_call_m _) ?_)
      rw [hK a]
      refine sp_len_L (d := d + k + 1) hK (by omega) hC (bk_X6_tellValue_L_78 (mm_call_m _) (se_add hR (fun w1 f1 r1 => bk_X6_tellValue_L_89 (mm_call_m _) ?_)))
      have hK1 : ∀ i, w1 165 i = K i := fun i => (f1 165 i (by omega) (by decide)).trans (hK i)
      exact tc_loop_L (d := d + k) (F := fun b => tlv m A B k x' (A b)) (N := (elsF B j v).length) (by omega) hK1 efs (fun {w2 a2 p2 l2 Q2} g1 g2 g3 g4 g5 g6 => ih (a := p2 + 1) (v := A a2) (by omega) c1 c2 hk' (by omega) (fun i => (g4 165 i (by omega) (by decide)).trans (hK1 i)) g1.1 g1.2 g5 (fun w3 t1 t2 => g6 w3 (FTl_t g4 t1) t2)) j 0 hC (by omega) FTl_r r1 (fun w2 f2 r2 => hQ w2 (FTl_t f1 f2) r2)
    · -- a number
      have n4 : ¬ m 177 ty = 4 := fun q => z1 (ekd.trans q)
      have n5 : ¬ m 177 ty = 5 := fun q => z2 (ekd.trans q)
      have etl : tlv m A B (k + 1) ty v = [v] := by
        show (if m 177 ty = 4 then _ else if m 177 ty = 5 then _ else [v]) = [v]
        rw [if_neg n4, if_neg n5]
      have ev : K a = v := by
        rcases hkind with q | q | q | q
        · rw [GVt_0 q] at hG
          exact hG
        · rw [GVt_1 q] at hG
          exact hG.1
        · exact absurd q n4
        · exact absurd q n5
      rw [etl] at hQ
      refine sm_cell_L ha (bk_X6_tellValue_L_151 (mm_call_m _) ?_)
      rw [hK a, ev]
      exact se_add hR (fun w1 f1 r1 => bk_X6_tellValue_L_154 (mm_call_m _) (hQ w1 f1 r1))
end MMT
