/-! ===== the model's lays() ===== -/
def f_most (x y : Int32) : Int32 := if x ≤ y then y else x
def f_under (x : Int32) : Int32 := if x = 0 then 0 else x + 1
/-- off the entry of type t all is as it was -/
def LYf (m n : mm_P) (t : Nat) : Prop := ∀ c i, ¬ (177 ≤ c ∧ c ≤ 183 ∧ i = t) → n c i = m c i
theorem LYf_r {m : mm_P} {t : Nat} : LYf m m t := fun _ _ _ => rfl
theorem LYf_u {m n : mm_P} {t c : Nat} {x : Int32} (h : LYf m n t) (h1 : 177 ≤ c) (h2 : c ≤ 183) : LYf m (mm_u n c t x) t := fun c' i q => by
  unfold mm_u
  split
  · rename_i q1
    split
    · rename_i q2
      exact absurd ⟨by omega, by omega, q2⟩ q
    · exact h c' i q
  · exact h c' i q
/-- an entry of a PAIR -/
def en4 (m n : mm_P) (t a b : Nat) : Prop := n 177 t = 4 ∧ n 178 t = nI a ∧ n 179 t = nI b ∧ n 180 t = 1 + f_most (m 180 a) (m 180 b) ∧ n 181 t = f_under (f_most (m 181 a) (m 181 b)) ∧ n 182 t = f_under (f_most (m 182 a) (m 182 b)) ∧ n 183 t = (if n 181 t + n 182 t ≤ 0 then m 183 a + m 183 b else -1)
/-- an entry of a LIST -/
def en5 (m n : mm_P) (t a : Nat) : Prop := n 177 t = 5 ∧ n 178 t = nI a ∧ n 179 t = -1 ∧ n 180 t = 1 + m 180 a ∧ n 181 t = f_under (m 181 a) ∧ n 182 t = f_under (m 182 a) ∧ n 183 t = (if n 181 t + n 182 t ≤ 0 then 1 else -1)
section MMH
variable {L : Nat} {xs : Nat → Int32} {d : Nat} {Q : mm_QQ} {mi : mm_P} {ml : mm_G} {lim : Nat × Nat}
theorem sp_most {a b : Int32} (h : Q (some (mm_I (f_most a b))) mi ml) : mm_cq (mm_call mm_ms (mm_tb L xs) (d + 1)) 170 [mm_I a, mm_I b] mi ml Q := by
  refine en_X12_most (bk_X12_most_0 (mm_call_m _) (fun z => ?_) (fun z => ?_)) <;> unfold f_most at h
  · rw [if_pos z] at h
    exact h
  · rw [if_neg z] at h
    exact h
theorem sp_under {a : Int32} (h : Q (some (mm_I (f_under a))) mi ml) : mm_cq (mm_call mm_ms (mm_tb L xs) (d + 1)) 171 [mm_I a] mi ml Q := by
  refine en_X12_under (bk_X12_under_0 (mm_call_m _) (fun z => ?_) (fun z => ?_)) <;> unfold f_under at h
  · rw [if_neg z] at h
    exact h
  · rw [if_pos z] at h
    exact h
/-- the end of lays(): widthOf, notes() -/
theorem lays_149 {t : Nat} {x2 x3 x4 x5 s2 w : Int32} (ht : t < 8000) (hn : hz (mi 184) 16384 < 16384) (h3 : ¬ x5 = 0 → vp_in x3 8000 ∧ vp_in x4 8000) (hw : w = (if mi 181 t + s2 ≤ 0 then (if x5 = 0 then 1 else mi 183 x3.toNatClampNeg + mi 183 x4.toNatClampNeg) else -1)) (hQ : ∀ k, k < 16384 → mi 184 k = 0 → Q none (mm_u (mm_u (mm_u mi 182 t s2) 183 t w) 184 k (nI t + 1)) ml) : mm_WQ (mm_call mm_ms (mm_tb L xs) (d + 2)) (mm_tb L xs) mm_m172 lim Q 149 [some (mm_R 176), some (mm_I (nI t)), some (mm_I x2), some (mm_I x3), some (mm_I x4), some (mm_I x5), none] [mm_I s2, mm_I (nI t), mm_R 182] mi ml := by
  have hv : vp_in (nI t) 8000 := vp_in_nI ht (by decide)
  have hc : (nI t).toNatClampNeg = t := nI_clamp (by omega)
  have ht2 : 0 ≤ (nI t).toInt ∧ (nI t).toInt < 8000 := by rw [mm_tI (by omega)]; omega
  have hgo : ∀ (y : Int32) {x6 : Int32}, y = w → mm_cq (mm_call mm_ms (mm_tb L xs) (d + 2)) 168 [mm_R 176, mm_I (nI t)] (mm_u (mm_u mi 182 t s2) 183 t y) ml (fun o n1 n2 => mm_WQ (mm_call mm_ms (mm_tb L xs) (d + 2)) (mm_tb L xs) mm_m172 lim Q 216 [some (mm_R 176), some (mm_I (nI t)), some (mm_I x2), some (mm_I x3), some (mm_I x4), some (mm_I x5), some (mm_I x6)] (o.toList ++ []) n1 n2) := by
    intro y x6 hy
    rw [hy]
    have hn' : hz ((mm_u (mm_u mi 182 t s2) 183 t w) 184) 16384 < 16384 := by
      rw [hz_eq (f := mi 184) (fun k _ => by rw [mm_u_e (by decide), mm_u_e (by decide)])]
      exact hn
    refine sp_notes ht2 hn' (fun k hk hk0 => bk_X12_lays_216 (mm_call_m _) ?_)
    rw [mm_u_e (by decide), mm_u_e (by decide)] at hk0
    exact hQ k hk hk0
  refine bk_X12_lays_149 (mm_call_m _) hv hv hv ?_ ?_ ?_ ?_ ?_ ?_ ?_ ?_ ?_ ?_ ?_ ?_ ?_ ?_ ?_ ?_ <;> rw [hc] <;> rw [mm_u_s]
  · exact fun _ _ _ => hv
  · exact fun c _ e => hgo _ (by rw [hw, if_pos c, if_pos e])
  · exact fun _ _ e => (h3 e).1
  · exact fun _ _ e => (h3 e).2
  · exact fun _ _ _ => hv
  · exact fun c _ e => hgo _ (by rw [hw, if_pos c, if_neg e])
  · exact fun _ e => absurd rfl e
  · exact fun _ e => absurd rfl e
  · exact fun _ e => absurd e (by decide)
  · exact fun _ e => absurd e (by decide)
  · exact fun _ e => absurd e (by decide)
  · exact fun _ e => absurd e (by decide)
  · exact fun _ e => absurd e (by decide)
  · exact fun _ e => absurd e (by decide)
  · exact fun _ _ => hv
  · exact fun c _ => hgo _ (by rw [hw, if_neg c])
theorem sp_lays4 {t a b : Nat} (ht : t < 8000) (ha : a < t) (hb : b < t) (hn : hz (mi 184) 16384 < 16384) (hQ : ∀ n k, k < 16384 → mi 184 k = 0 → LYf mi n t → en4 mi n t a b → Q none (mm_u n 184 k (nI t + 1)) ml) : mm_cq (mm_call mm_ms (mm_tb L xs) (d + 3)) 172 [mm_R 176, mm_I (nI t), mm_I 4, mm_I (nI a), mm_I (nI b)] mi ml Q := by
  have hv : vp_in (nI t) 8000 := vp_in_nI ht (by decide)
  have hva : vp_in (nI a) 8000 := vp_in_nI (by omega) (by decide)
  have hvb : vp_in (nI b) 8000 := vp_in_nI (by omega) (by decide)
  have hc : (nI t).toNatClampNeg = t := nI_clamp (by omega)
  have hca : (nI a).toNatClampNeg = a := nI_clamp (by omega)
  have hcb : (nI b).toNatClampNeg = b := nI_clamp (by omega)
  have hat : ¬ a = t := by omega
  have hbt : ¬ b = t := by omega
  refine en_X12_lays (bk_X12_lays_0 (mm_call_m _) hv hv hv (fun z => absurd rfl z) (fun z => absurd rfl z) (fun z => absurd rfl z) (fun z => absurd rfl z) (fun z => absurd rfl z) (fun z => absurd rfl z) (fun z => absurd rfl z) (fun z => absurd rfl z) (fun z => absurd rfl z) (fun z => absurd rfl z) (fun _ z => absurd z (by decide)) (fun _ z => absurd z (by decide)) (fun _ z => absurd z (by decide)) (fun _ z => absurd z (by decide)) (fun _ z => absurd z (by decide)) (fun _ z => absurd z (by decide)) (fun _ z => absurd z (by decide)) (fun _ _ => hva) (fun _ _ => hvb) (fun _ _ => sp_most ?_))
  rw [hc, hca, hcb]
  refine bk_X12_lays_61 (s1 := nI t) (s2 := 1) (mm_call_m _) hv (fun z => absurd z (by decide)) (fun z => absurd z (by decide)) (fun _ => hva) (fun _ => hvb) (fun _ => sp_most (bk_X12_lays_98 (s1 := nI t) (mm_call_m _) (sp_under (bk_X12_lays_110 (s1 := nI t) (mm_call_m _) hv (fun z => absurd z (by decide)) (fun z => absurd z (by decide)) (fun _ => hva) (fun _ => hvb) (fun _ => sp_most (bk_X12_lays_137 (s1 := nI t) (mm_call_m _) (sp_under ?_)))))))
  rw [hc, hca, hcb]
  refine lays_149 (w := _) ht ?_ (fun _ => ⟨hva, hvb⟩) rfl (fun k hk hk0 => ?_)
  · rw [hz_eq (f := mi 184) (fun k _ => by rw [mm_u_e (by decide), mm_u_e (by decide), mm_u_e (by decide), mm_u_e (by decide), mm_u_e (by decide)])]
    exact hn
  · rw [mm_u_e (by decide), mm_u_e (by decide), mm_u_e (by decide), mm_u_e (by decide), mm_u_e (by decide)] at hk0
    refine hQ _ k hk hk0 ?_ ?_
    · exact LYf_u (LYf_u (LYf_u (LYf_u (LYf_u (LYf_u (LYf_u LYf_r (by decide) (by decide)) (by decide) (by decide)) (by decide) (by decide)) (by decide) (by decide)) (by decide) (by decide)) (by decide) (by decide)) (by decide) (by decide)
    · rw [hca, hcb]
      refine ⟨?_, ?_, ?_, ?_, ?_, ?_, ?_⟩ <;> simp [mm_u]
theorem sp_lays5 {t a : Nat} (ht : t < 8000) (ha : a < t) (hn : hz (mi 184) 16384 < 16384) (hQ : ∀ n k, k < 16384 → mi 184 k = 0 → LYf mi n t → en5 mi n t a → Q none (mm_u n 184 k (nI t + 1)) ml) : mm_cq (mm_call mm_ms (mm_tb L xs) (d + 3)) 172 [mm_R 176, mm_I (nI t), mm_I 5, mm_I (nI a), mm_I (-1)] mi ml Q := by
  have hv : vp_in (nI t) 8000 := vp_in_nI ht (by decide)
  have hva : vp_in (nI a) 8000 := vp_in_nI (by omega) (by decide)
  have hc : (nI t).toNatClampNeg = t := nI_clamp (by omega)
  have hca : (nI a).toNatClampNeg = a := nI_clamp (by omega)
  have hat : ¬ a = t := by omega
  refine en_X12_lays (bk_X12_lays_0 (mm_call_m _) hv hv hv (fun _ _ => hva) (fun _ _ => hv) (fun _ _ _ => hva) (fun _ _ _ => sp_under ?_) (fun _ _ z => absurd rfl z) (fun _ _ z => absurd rfl z) (fun _ _ z => absurd rfl z) (fun _ z => absurd rfl z) (fun _ z => absurd rfl z) (fun _ z => absurd rfl z) (fun z => absurd z (by decide)) (fun z => absurd z (by decide)) (fun z => absurd z (by decide)) (fun z => absurd z (by decide)) (fun z => absurd z (by decide)) (fun z => absurd z (by decide)) (fun z => absurd z (by decide)) (fun z => absurd z (by decide)) (fun z => absurd z (by decide)) (fun z => absurd z (by decide)))
  rw [hc, hca]
  refine bk_X12_lays_110 (s1 := nI t) (mm_call_m _) hv (fun _ => hva) (fun _ => sp_under ?_) (fun z => absurd rfl z) (fun z => absurd rfl z) (fun z => absurd rfl z)
  rw [hc, hca]
  refine lays_149 (w := _) ht ?_ (fun z => absurd rfl z) rfl (fun k hk hk0 => ?_)
  · rw [hz_eq (f := mi 184) (fun k _ => by rw [mm_u_e (by decide), mm_u_e (by decide), mm_u_e (by decide), mm_u_e (by decide), mm_u_e (by decide)])]
    exact hn
  · rw [mm_u_e (by decide), mm_u_e (by decide), mm_u_e (by decide), mm_u_e (by decide), mm_u_e (by decide)] at hk0
    refine hQ _ k hk hk0 ?_ ?_
    · exact LYf_u (LYf_u (LYf_u (LYf_u (LYf_u (LYf_u (LYf_u LYf_r (by decide) (by decide)) (by decide) (by decide)) (by decide) (by decide)) (by decide) (by decide)) (by decide) (by decide)) (by decide) (by decide)) (by decide) (by decide)
    · refine ⟨?_, ?_, ?_, ?_, ?_, ?_, ?_⟩ <;> simp [mm_u]
end MMH
