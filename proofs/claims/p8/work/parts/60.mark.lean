/-! ===== mark() of the model ===== -/
def MF (c0 : Nat) (m w : mm_P) : Prop := ∀ c i, ¬ c = c0 → w c i = m c i
theorem MF_r {c0 : Nat} {m : mm_P} : MF c0 m m := fun _ _ _ => rfl
theorem MF_t {c0 : Nat} {m n p : mm_P} (h1 : MF c0 m n) (h2 : MF c0 n p) : MF c0 m p := fun c i h => (h2 c i h).trans (h1 c i h)
theorem MF_u {c0 i : Nat} {x : Int32} {m n : mm_P} (h : MF c0 m n) : MF c0 m (mm_u n c0 i x) := fun c j q => (mm_u_e q).trans (h c j q)
theorem PR_mf {c0 : Nat} {m n : mm_P} (h : MF c0 m n) (hc : c0 = 198 ∨ c0 = 199 ∨ c0 = 200) : PR m n := fun c i q => by
  refine h c i (fun z => ?_)
  subst z
  have e : ∀ c, c = 198 ∨ c = 199 ∨ c = 200 → pg c i = false := by
    rintro c (rfl | rfl | rfl) <;> rfl
  rw [e c hc] at q
  cases q
def MC (ND : Nat) (w : mm_P) (n : Nat) : Prop := ∀ j, n ≤ j → j < ND → ¬ w 199 j = 0 → ∀ i : Int32, 0 ≤ i.toInt → i.toInt < (f_parts (w 188 j)).toInt → ¬ w 199 (f_part w j i).toNatClampNeg = 0
/-- nodes of the body of f are marked -/
def MB (ND : Nat) (w : mm_P) (f : Nat) : Prop := (∀ b, b < ND → w 197 f = nI b → ¬ w 199 b = 0) ∧ MC ND w 0
theorem nz_u {w : mm_P} {p b : Nat} (h : ¬ w 199 b = 0) : ¬ mm_u w 199 p 1 199 b = 0 := by
  by_cases hb : b = p
  · subst hb
    rw [mm_u_s]
    decide
  · rw [mm_u_f hb]
    exact h
theorem f_part_mf {m w : mm_P} (h : MF 199 m w) {j : Nat} {i : Int32} : f_part w j i = f_part m j i := f_part_c (fun c i h1 h2 => h c i (by omega))
section MMT
variable {L : Nat} {xs : Nat → Int32} {d : Nat} {Q : mm_QQ} {mi : mm_P} {ml : mm_G} {lim : Nat × Nat}
theorem mark_50 {f n NB ND NF : Nat} {m : mm_P} {x1 : Int32} (hI : IM m NB ND NF) (hn : n < ND) (hK : ∀ w x3, MF 199 m w → (∀ b, b < ND → w 197 f = nI b → ¬ w 199 b = 0) → MC ND w n → mm_WQ (mm_call mm_ms (mm_tb L xs) (d + 1)) (mm_tb L xs) mm_m196 (mm_li mm_m196) Q 90 [some (mm_R 176), some (mm_I x1), some (mm_I (nI n)), some (mm_I x3)] [] w ml) : ∀ (j i : Nat) (w : mm_P), 4 ≤ i + j → i ≤ 4 → MF 199 m w → (∀ b, b < ND → w 197 f = nI b → ¬ w 199 b = 0) → MC ND w (n + 1) → (∀ k : Int32, 0 ≤ k.toInt → k.toInt < i → k.toInt < (f_parts (w 188 n)).toInt → ¬ w 199 (f_part w n k).toNatClampNeg = 0) → mm_WQ (mm_call mm_ms (mm_tb L xs) (d + 1)) (mm_tb L xs) mm_m196 (mm_li mm_m196) Q 50 [some (mm_R 176), some (mm_I x1), some (mm_I (nI n)), some (mm_I (nI i))] [] w ml := by
  have hND := hI.1.2.1
  have vn : vp_in (nI n) 200 := vp_in_nI (by omega) (by decide)
  have en : (nI n).toNatClampNeg = n := nI_clamp (by omega)
  intro j
  induction j with
  | zero =>
    intro i w h1 h2 hM hB hC hP
    have hp := f_parts_in (w 188 n)
    have hp3 : (f_parts (w 188 n)).toInt ≤ 3 := by rcases hp with hp | hp | hp | hp <;> (rw [hp]; decide)
    have ei : (nI i).toInt = i := mm_tI (by omega)
    refine bk_X12_mark_50 (mm_call_m _) vn ?_
    rw [en]
    refine sp_X12_partsOf (bk_X12_mark_60 (mm_call_m _) (fun _ => hK w _ hM hB (fun k k1 k2 k3 q q0 q1 => ?_)) (fun z => ?_) (fun z => ?_) (fun z => ?_))
    · by_cases hk : k = n
      · subst hk
        exact hP q q0 (by omega) q1
      · exact hC k (by omega) k2 k3 q q0 q1
    all_goals exact absurd (by rw [Int32.le_iff_toInt_le, ei]; omega) z
  | succ j ih =>
    intro i w h1 h2 hM hB hC hP
    have hIw := IM_c hI (PR_mf hM (by omega))
    have ei : (nI i).toInt = i := mm_tI (by omega)
    have es : nI i + 1 = nI (i + 1) := (nI_succ i).symm
    refine bk_X12_mark_50 (mm_call_m _) vn ?_
    rw [en]
    refine sp_X12_partsOf (bk_X12_mark_60 (mm_call_m _) (fun z => hK w _ hM hB (fun k k1 k2 k3 q q0 q1 => ?_)) (fun z => vn) (fun z z2 => ?_) (fun z z2 => ?_))
    · rw [Int32.le_iff_toInt_le, ei] at z
      by_cases hk : k = n
      · subst hk
        exact hP q q0 (by omega) q1
      · exact hC k (by omega) k2 k3 q q0 q1
    · rw [en] at z2
      refine hK w _ hM hB (fun k k1 k2 k3 q q0 q1 => ?_)
      by_cases hk : k = n
      · subst hk
        exact absurd z2 k3
      · exact hC k (by omega) k2 k3 q q0 q1
    · rw [Int32.le_iff_toInt_le, ei] at z
      have hp := f_parts_in (w 188 n)
      have hp3 : (f_parts (w 188 n)).toInt ≤ 3 := by rcases hp with hp | hp | hp | hp <;> (rw [hp]; decide)
      obtain ⟨p, p1, p2, -⟩ := f_part_r (i := nI i) (hIw.2.2.2.2.1 n hn) (by omega) (by omega)
      have ep : (nI p).toNatClampNeg = p := nI_clamp (by omega)
      have hfp : ∀ {a b}, f_part (mm_u w 199 p 1) a b = f_part w a b := f_part_mf (MF_u MF_r)
      have e188 : ∀ a, mm_u w 199 p 1 188 a = w 188 a := fun a => mm_u_e (by decide)
      refine sp_X12_partOf (by omega) (bk_X12_mark_82 (mm_call_m _) ?_ ?_)
      · rw [p2]
        exact vp_in_nI (by omega) (by decide)
      · rw [p2, ep, es, mm_nb1]
        refine ih (i + 1) _ (by omega) (by omega) (MF_u hM) (fun b b1 b2 => nz_u (hB b b1 ((mm_u_e (by decide)).symm.trans b2))) (fun k k1 k2 k3 q q0 q1 => ?_) (fun k k0 k1 k2 => ?_)
        · rw [e188] at q1
          rw [hfp]
          exact nz_u (hC k k1 k2 (fun y => k3 (by rw [mm_u_f (by omega)]; exact y)) q q0 q1)
        · rw [e188] at k2
          rw [hfp]
          by_cases hk : k = nI i
          · rw [hk, p2, ep, mm_u_s]
            decide
          · exact nz_u (hP k k0 (by
              have : ¬ k.toInt = (nI i).toInt := fun y => hk (Int32.toInt_inj.mp y)
              omega) k2)
theorem mark_44 {f NB ND NF : Nat} {m : mm_P} {x1 : Int32} (hI : IM m NB ND NF) (hQ : ∀ w, MF 199 m w → MB ND w f → Q none w ml) : ∀ (n : Nat) (w : mm_P) (x2 : Int32) {x3 : Option mm_V}, n ≤ ND → x2.toInt = (n : Int) - 1 → MF 199 m w → (∀ b, b < ND → w 197 f = nI b → ¬ w 199 b = 0) → MC ND w n → mm_WQ (mm_call mm_ms (mm_tb L xs) (d + 1)) (mm_tb L xs) mm_m196 (mm_li mm_m196) Q 44 [some (mm_R 176), some (mm_I x1), some (mm_I x2), x3] [] w ml := by
  have hND := hI.1.2.1
  intro n
  induction n with
  | zero =>
    intro w x2 x3 h1 h2 hM hB hC
    refine bk_X12_mark_44 (mm_call_m _) (fun _ => hQ w hM ⟨hB, hC⟩) (fun z => absurd ?_ z)
    rw [Int32.lt_iff_toInt_lt, mm_tt0]
    omega
  | succ n ih =>
    intro w x2 x3 h1 h2 hM hB hC
    have e2 : x2 = nI n := Int32.toInt_inj.mp (by rw [mm_tI (by omega)]; omega)
    subst e2
    refine bk_X12_mark_44 (mm_call_m _) (fun z => ?_) (fun _ => mark_50 hI (by omega) (fun w' x3' g1 g2 g3 => bk_X12_mark_90 (mm_call_m _) (ih w' _ (by omega) ?_ g1 g2 g3)) 4 0 w (by omega) (by omega) hM hB hC (fun k k0 k1 => ?_))
    · rw [Int32.lt_iff_toInt_lt, mm_tI (by omega), mm_tt0] at z
      omega
    · rw [Int32.toInt_add, mm_tI (by omega), show (-1 : Int32).toInt = -1 from rfl, Int.bmod_eq_of_le] <;> omega
    · omega
theorem mark_2 {f NB ND NF : Nat} {m : mm_P} (hI : IM m NB ND NF) (hf : f < NF) (hQ : ∀ w, MF 199 m w → MB ND w f → Q none w ml) : ∀ (j i : Nat) (w : mm_P), i + j = ND → MF 199 m w → (∀ b, b < i → w 197 f = nI b → ¬ w 199 b = 0) → mm_WQ (mm_call mm_ms (mm_tb L xs) (d + 1)) (mm_tb L xs) mm_m196 (mm_li mm_m196) Q 2 [some (mm_R 176), some (mm_I (nI f)), some (mm_I (nI i)), none] [] w ml := by
  have hND := hI.1.2.1
  have hNF := hI.1.2.2
  have vf : vp_in (nI f) 12 := vp_in_nI (by omega) (by decide)
  have ef : (nI f).toNatClampNeg = f := nI_clamp (by omega)
  intro j
  induction j with
  | zero =>
    intro i w h hM hB
    have hi : i = ND := by omega
    subst hi
    have hIw := IM_c hI (PR_mf hM (by omega))
    have hle : w 176 13 ≤ nI i := by rw [hIw.2.1.2.1]; exact Int32.le_refl _
    refine bk_X12_mark_2 (mm_call_m _) (fun _ => mark_44 hI hQ i w _ (Nat.le_refl _) ?_ hM hB (fun k k1 k2 => by omega)) (fun z => absurd hle z) (fun z => absurd hle z) (fun z => absurd hle z) (fun z => absurd hle z) (fun z => absurd hle z)
    rw [hIw.2.1.2.1, mm_isub] <;> rw [mm_tI (by omega), mm_tt1] <;> omega
  | succ j ih =>
    intro i w h hM hB
    have hIw := IM_c hI (PR_mf hM (by omega))
    have hlt : ¬ w 176 13 ≤ nI i := by
      rw [hIw.2.1.2.1, Int32.le_iff_toInt_le, mm_tI (by omega), mm_tI (by omega)]
      omega
    have vi : vp_in (nI i) 200 := vp_in_nI (by omega) (by decide)
    have ei : (nI i).toNatClampNeg = i := nI_clamp (by omega)
    have es : nI i + 1 = nI (i + 1) := (nI_succ i).symm
    refine bk_X12_mark_2 (mm_call_m _) (fun z => absurd z hlt) (fun _ => vf) (fun _ _ => vi) (fun _ z => ?_) (fun _ _ => vi) (fun _ z => ?_)
    · rw [es, ei]
      rw [ef] at z
      refine ih (i + 1) _ (by omega) (MF_u hM) (fun b b1 b2 => ?_)
      rw [mm_u_e (by decide)] at b2
      have hb : ¬ b = i := fun y => z (by rw [b2, y])
      rw [mm_u_f hb]
      exact hB b (by omega) b2
    · rw [es, ei, mm_nb1]
      refine ih (i + 1) _ (by omega) (MF_u hM) (fun b b1 b2 => ?_)
      rw [mm_u_e (by decide)] at b2
      by_cases hb : b = i
      · subst hb
        rw [mm_u_s]
        decide
      · exact nz_u (hB b (by omega) b2)
theorem sp_mark {f NB ND NF : Nat} (hI : IM mi NB ND NF) (hf : f < NF) (hQ : ∀ w, MF 199 mi w → MB ND w f → Q none w ml) : mm_cq (mm_call mm_ms (mm_tb L xs) (d + 2)) 196 [mm_R 176, mm_I (nI f)] mi ml Q := by
  have hND := hI.1.2.1
  exact en_X12_mark (bk_X12_mark_0 (mm_call_m _) (mark_2 hI hf hQ ND 0 mi (by omega) MF_r (fun b hb => absurd hb (Nat.not_lt_zero _))))
end MMT
