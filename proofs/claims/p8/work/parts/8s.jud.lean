/-! ===== mark() of the model: the nodes under a body, no others ===== -/
def SI (S : Nat → Prop) (N : Nat) (w : mm_P) : Prop := ∀ p, p < N → ¬ w 199 p = 0 → S p
theorem SI_u {S : Nat → Prop} {N p : Nat} {w : mm_P} (h : SI S N w) (hp : S p) : SI S N (mm_u w 199 p 1) := fun q hq hz => by
  by_cases e : q = p
  · rw [e]
    exact hp
  · rw [mm_u_f e] at hz
    exact h q hq hz
theorem SI_s {S : Nat → Prop} {i : Nat} {v : Int32} {w : mm_P} (h : SI S i w) (hp : ¬ v = 0 → S i) : SI S (i + 1) (mm_u w 199 i v) := fun q hq hz => by
  by_cases e : q = i
  · rw [e] at hz ⊢
    rw [mm_u_s] at hz
    exact hp hz
  · rw [mm_u_f e] at hz
    exact h q (by omega) hz
section MMT
variable {L : Nat} {xs : Nat → Int32} {d : Nat} {Q : mm_QQ} {mi : mm_P} {ml : mm_G} {lim : Nat × Nat}
theorem markx_50 {f n NB ND NF : Nat} {S : Nat → Prop} {m : mm_P} {x1 : Int32} (hI : IM m NB ND NF) (hSc : ∀ q, q < ND → S q → ∀ i : Int32, 0 ≤ i.toInt → i.toInt < (f_parts (m 188 q)).toInt → S (f_part m q i).toNatClampNeg) (hn : n < ND) (hK : ∀ w x3, MF 199 m w → SI S ND w → (∀ b, b < ND → w 197 f = nI b → ¬ w 199 b = 0) → MC ND w n → mm_WQ (mm_call mm_ms (mm_tb L xs) (d + 1)) (mm_tb L xs) mm_m196 (mm_li mm_m196) Q 90 [some (mm_R 176), some (mm_I x1), some (mm_I (nI n)), some (mm_I x3)] [] w ml) : ∀ (j i : Nat) (w : mm_P), 4 ≤ i + j → i ≤ 4 → MF 199 m w → SI S ND w → (∀ b, b < ND → w 197 f = nI b → ¬ w 199 b = 0) → MC ND w (n + 1) → (∀ k : Int32, 0 ≤ k.toInt → k.toInt < i → k.toInt < (f_parts (w 188 n)).toInt → ¬ w 199 (f_part w n k).toNatClampNeg = 0) → mm_WQ (mm_call mm_ms (mm_tb L xs) (d + 1)) (mm_tb L xs) mm_m196 (mm_li mm_m196) Q 50 [some (mm_R 176), some (mm_I x1), some (mm_I (nI n)), some (mm_I (nI i))] [] w ml := by
  have hND := hI.1.2.1
  have vn : vp_in (nI n) 200 := vp_in_nI (by omega) (by decide)
  have en : (nI n).toNatClampNeg = n := nI_clamp (by omega)
  intro j
  induction j with
  | zero =>
    intro i w h1 h2 hM hX hB hC hP
    have hp := f_parts_in (w 188 n)
    have hp3 : (f_parts (w 188 n)).toInt ≤ 3 := by rcases hp with hp | hp | hp | hp <;> (rw [hp]; decide)
    have ei : (nI i).toInt = i := mm_tI (by omega)
    refine bk_X12_mark_50 (mm_call_m _) vn ?_
    rw [en]
    refine sp_X12_partsOf (bk_X12_mark_60 (mm_call_m _) (fun _ => hK w _ hM hX hB (fun k k1 k2 k3 q q0 q1 => ?_)) (fun z => ?_) (fun z => ?_) (fun z => ?_))
    · by_cases hk : k = n
      · subst hk
        exact hP q q0 (by omega) q1
      · exact hC k (by omega) k2 k3 q q0 q1
    all_goals exact absurd (by rw [Int32.le_iff_toInt_le, ei]; omega) z
  | succ j ih =>
    intro i w h1 h2 hM hX hB hC hP
    have hIw := IM_c hI (PR_mf hM (by omega))
    have ei : (nI i).toInt = i := mm_tI (by omega)
    have es : nI i + 1 = nI (i + 1) := (nI_succ i).symm
    refine bk_X12_mark_50 (mm_call_m _) vn ?_
    rw [en]
    refine sp_X12_partsOf (bk_X12_mark_60 (mm_call_m _) (fun z => hK w _ hM hX hB (fun k k1 k2 k3 q q0 q1 => ?_)) (fun z => vn) (fun z z2 => ?_) (fun z z2 => ?_))
    · rw [Int32.le_iff_toInt_le, ei] at z
      by_cases hk : k = n
      · subst hk
        exact hP q q0 (by omega) q1
      · exact hC k (by omega) k2 k3 q q0 q1
    · rw [en] at z2
      refine hK w _ hM hX hB (fun k k1 k2 k3 q q0 q1 => ?_)
      by_cases hk : k = n
      · subst hk
        exact absurd z2 k3
      · exact hC k (by omega) k2 k3 q q0 q1
    · rw [Int32.le_iff_toInt_le, ei] at z
      have hp := f_parts_in (w 188 n)
      have hp3 : (f_parts (w 188 n)).toInt ≤ 3 := by rcases hp with hp | hp | hp | hp <;> (rw [hp]; decide)
      obtain ⟨p, p1, p2, -⟩ := f_part_r (i := nI i) (hIw.2.2.2.2.1 n hn) (by omega) (by omega)
      have ep : (nI p).toNatClampNeg = p := nI_clamp (by omega)
      have hfp : ∀ {a b}, f_part (mm_u w 199 p 1) a b = f_part w a b := f_part_mf (MF_u MF_r)
      have e188 : ∀ a, mm_u w 199 p 1 188 a = w 188 a := fun a => mm_u_e (by decide)
      refine sp_X12_partOf (by omega) (bk_X12_mark_82 (mm_call_m _) ?_ ?_)
      · rw [p2]
        exact vp_in_nI (by omega) (by decide)
      · rw [p2, ep, es, mm_nb1]
        refine ih (i + 1) _ (by omega) (by omega) (MF_u hM) (SI_u hX (by
          have h := hSc n hn (hX n hn (by rw [en] at z2; exact z2)) (nI i) (by omega) (by rw [← hM 188 n (by decide)]; omega)
          rw [← f_part_mf hM, p2, ep] at h
          exact h)) (fun b b1 b2 => nz_u (hB b b1 ((mm_u_e (by decide)).symm.trans b2))) (fun k k1 k2 k3 q q0 q1 => ?_) (fun k k0 k1 k2 => ?_)
        · rw [e188] at q1
          rw [hfp]
          exact nz_u (hC k k1 k2 (fun y => k3 (by rw [mm_u_f (by omega)]; exact y)) q q0 q1)
        · rw [e188] at k2
          rw [hfp]
          by_cases hk : k = nI i
          · rw [hk, p2, ep, mm_u_s]
            decide
          · exact nz_u (hP k k0 (by
              have : ¬ k.toInt = (nI i).toInt := fun y => hk (Int32.toInt_inj.mp y)
              omega) k2)
theorem markx_44 {f NB ND NF : Nat} {S : Nat → Prop} {m : mm_P} {x1 : Int32} (hI : IM m NB ND NF) (hSc : ∀ q, q < ND → S q → ∀ i : Int32, 0 ≤ i.toInt → i.toInt < (f_parts (m 188 q)).toInt → S (f_part m q i).toNatClampNeg) (hQ : ∀ w, MF 199 m w → SI S ND w → MB ND w f → Q none w ml) : ∀ (n : Nat) (w : mm_P) (x2 : Int32) {x3 : Option mm_V}, n ≤ ND → x2.toInt = (n : Int) - 1 → MF 199 m w → SI S ND w → (∀ b, b < ND → w 197 f = nI b → ¬ w 199 b = 0) → MC ND w n → mm_WQ (mm_call mm_ms (mm_tb L xs) (d + 1)) (mm_tb L xs) mm_m196 (mm_li mm_m196) Q 44 [some (mm_R 176), some (mm_I x1), some (mm_I x2), x3] [] w ml := by
  have hND := hI.1.2.1
  intro n
  induction n with
  | zero =>
    intro w x2 x3 h1 h2 hM hX hB hC
    refine bk_X12_mark_44 (mm_call_m _) (fun _ => hQ w hM hX ⟨hB, hC⟩) (fun z => absurd ?_ z)
    rw [Int32.lt_iff_toInt_lt, mm_tt0]
    omega
  | succ n ih =>
    intro w x2 x3 h1 h2 hM hX hB hC
    have e2 : x2 = nI n := Int32.toInt_inj.mp (by rw [mm_tI (by omega)]; omega)
    subst e2
    refine bk_X12_mark_44 (mm_call_m _) (fun z => ?_) (fun _ => markx_50 hI hSc (by omega) (fun w' x3' g1 gX g2 g3 => bk_X12_mark_90 (mm_call_m _) (ih w' _ (by omega) ?_ g1 gX g2 g3)) 4 0 w (by omega) (by omega) hM hX hB hC (fun k k0 k1 => ?_))
    · rw [Int32.lt_iff_toInt_lt, mm_tI (by omega), mm_tt0] at z
      omega
    · rw [Int32.toInt_add, mm_tI (by omega), show (-1 : Int32).toInt = -1 from rfl, Int.bmod_eq_of_le] <;> omega
    · omega
theorem markx_2 {f NB ND NF : Nat} {S : Nat → Prop} {m : mm_P} (hI : IM m NB ND NF) (hSc : ∀ q, q < ND → S q → ∀ i : Int32, 0 ≤ i.toInt → i.toInt < (f_parts (m 188 q)).toInt → S (f_part m q i).toNatClampNeg) (hSb : ∀ b, b < ND → m 197 f = nI b → S b) (hf : f < NF) (hQ : ∀ w, MF 199 m w → SI S ND w → MB ND w f → Q none w ml) : ∀ (j i : Nat) (w : mm_P), i + j = ND → MF 199 m w → SI S i w → (∀ b, b < i → w 197 f = nI b → ¬ w 199 b = 0) → mm_WQ (mm_call mm_ms (mm_tb L xs) (d + 1)) (mm_tb L xs) mm_m196 (mm_li mm_m196) Q 2 [some (mm_R 176), some (mm_I (nI f)), some (mm_I (nI i)), none] [] w ml := by
  have hND := hI.1.2.1
  have hNF := hI.1.2.2
  have vf : vp_in (nI f) 12 := vp_in_nI (by omega) (by decide)
  have ef : (nI f).toNatClampNeg = f := nI_clamp (by omega)
  intro j
  induction j with
  | zero =>
    intro i w h hM hX hB
    have hi : i = ND := by omega
    subst hi
    have hIw := IM_c hI (PR_mf hM (by omega))
    have hle : w 176 13 ≤ nI i := by rw [hIw.2.1.2.1]; exact Int32.le_refl _
    refine bk_X12_mark_2 (mm_call_m _) (fun _ => markx_44 hI hSc hQ i w _ (Nat.le_refl _) ?_ hM hX hB (fun k k1 k2 => by omega)) (fun z => absurd hle z) (fun z => absurd hle z) (fun z => absurd hle z) (fun z => absurd hle z) (fun z => absurd hle z)
    rw [hIw.2.1.2.1, mm_isub] <;> rw [mm_tI (by omega), mm_tt1] <;> omega
  | succ j ih =>
    intro i w h hM hX hB
    have hIw := IM_c hI (PR_mf hM (by omega))
    have hlt : ¬ w 176 13 ≤ nI i := by
      rw [hIw.2.1.2.1, Int32.le_iff_toInt_le, mm_tI (by omega), mm_tI (by omega)]
      omega
    have vi : vp_in (nI i) 200 := vp_in_nI (by omega) (by decide)
    have ei : (nI i).toNatClampNeg = i := nI_clamp (by omega)
    have es : nI i + 1 = nI (i + 1) := (nI_succ i).symm
    refine bk_X12_mark_2 (mm_call_m _) (fun z => absurd z hlt) (fun _ => vf) (fun _ _ => vi) (fun _ z => ?_) (fun _ _ => vi) (fun _ zb => ?_)
    · rw [es, ei]
      rw [ef] at z
      refine ih (i + 1) _ (by omega) (MF_u hM) (SI_s hX (fun y => absurd rfl y)) (fun b b1 b2 => ?_)
      rw [mm_u_e (by decide)] at b2
      have hb : ¬ b = i := fun y => z (by rw [b2, y])
      rw [mm_u_f hb]
      exact hB b (by omega) b2
    · rw [es, ei, mm_nb1]
      rw [ef] at zb
      refine ih (i + 1) _ (by omega) (MF_u hM) (SI_s hX (fun _ => hSb i (by omega) (by rw [← hM 197 f (by decide)]; exact zb.symm))) (fun b b1 b2 => ?_)
      rw [mm_u_e (by decide)] at b2
      by_cases hb : b = i
      · subst hb
        rw [mm_u_s]
        decide
      · exact nz_u (hB b (by omega) b2)
theorem sx_mark {f NB ND NF : Nat} {S : Nat → Prop} (hI : IM mi NB ND NF) (hf : f < NF) (hSc : ∀ q, q < ND → S q → ∀ i : Int32, 0 ≤ i.toInt → i.toInt < (f_parts (mi 188 q)).toInt → S (f_part mi q i).toNatClampNeg) (hSb : ∀ b, b < ND → mi 197 f = nI b → S b) (hQ : ∀ w, MF 199 mi w → SI S ND w → MB ND w f → Q none w ml) : mm_cq (mm_call mm_ms (mm_tb L xs) (d + 2)) 196 [mm_R 176, mm_I (nI f)] mi ml Q := by
  have hND := hI.1.2.1
  exact en_X12_mark (bk_X12_mark_0 (mm_call_m _) (markx_2 hI hSc hSb hf hQ ND 0 mi (by omega) MF_r (fun p hp => absurd hp (Nat.not_lt_zero _)) (fun b hb => absurd hb (Nat.not_lt_zero _))))
end MMT
