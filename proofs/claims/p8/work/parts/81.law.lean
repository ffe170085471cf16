/-! ===== what holds between the law's turns ===== -/
theorem IM_e {NB ND NF : Nat} {m w : mm_P} (h : IM m NB ND NF) (hp : ∀ c i, ((c = 176 ∧ (i = 0 ∨ i = 13 ∨ i = 20)) ∨ (177 ≤ c ∧ c ≤ 197)) → w c i = m c i) : IM w NB ND NF := by
  obtain ⟨a1, ⟨a2, a3, a4⟩, a5, a6, a7, a8, a9⟩ := h
  have hc : ∀ c i, 177 ≤ c → c ≤ 197 → w c i = m c i := fun c i x y => hp c i (.inr ⟨x, y⟩)
  refine ⟨a1, ⟨(hp 176 0 (by omega)).trans a2, (hp 176 13 (by omega)).trans a3, (hp 176 20 (by omega)).trans a4⟩, fun t ht => wT_c (a5 t ht) (fun t _ c x y => hc c t x (by omega)) (.inl ht), DN_c a6 (fun t _ c x y => hc c t x (by omega)), fun j hj => okN_c (a7 j hj) (Nat.le_refl _) (fun c i x y z => hc c i (by omega) (by omega)), fun f hf => okF_c (a8 f hf) (Nat.le_refl _) (Nat.le_refl _) (fun c x y => hc c f (by omega) (by omega)) (fun t _ c x y => hc c t x (by omega)), ?_⟩
  rw [hc 177 0 (by decide) (by decide), hc 177 1 (by decide) (by decide), hc 177 2 (by decide) (by decide), hc 177 3 (by decide) (by decide)]
  exact a9
/-- class and model between two calls -/
def LI (m : mm_P) : Prop := mm_IC m ∧ (∃ NB ND NF, IM m NB ND NF) ∧ (0 ≤ (m 176 51).toInt ∧ (m 176 51).toInt ≤ 100) ∧ m 160 1 = m 176 41
theorem IC_k {m n : mm_P} (h : mm_IC m) (hk : ∀ c i, c < 176 → n c i = m c i) : mm_IC n := by
  unfold mm_IC
  rw [hk 1 1 (by decide), hk 3 5 (by decide), hk 3 6 (by decide), hk 9 7 (by decide), hk 31 12 (by decide), hk 160 1 (by decide)]
  exact h
theorem LI_k {m n : mm_P} {NB ND NF : Nat} (h : LI m) (hI : IM n NB ND NF) (hk : KO m n) : LI n := by
  refine ⟨IC_k h.1 hk.1, ⟨NB, ND, NF, hI⟩, ?_, ?_⟩
  · rw [hk.2.2]
    exact h.2.2.1
  · rw [hk.1 160 1 (by decide), hk.2.1]
    exact h.2.2.2
theorem LI_p {m n : mm_P} (h : LI m) (hp : PR m n) : LI n := by
  obtain ⟨NB, ND, NF, hI⟩ := h.2.1
  exact LI_k h (IM_c hI hp) (KO_p hp)
theorem LI_f {m n w : mm_P} {r : Nat} (h : LI m) (hp : PR m n) (hr : RF n w) (h51 : w 176 51 = nI r) (hr2 : r ≤ 100) : LI w := by
  have h' := LI_p h hp
  obtain ⟨NB, ND, NF, hI⟩ := h'.2.1
  refine ⟨IC_k h'.1 (fun c i q => hr.1 c i (by omega) (by omega)), ⟨NB, ND, NF, IM_rf hI hr⟩, ?_, ?_⟩
  · rw [h51, mm_tI (by omega)]
    omega
  · rw [hr.1 160 1 (by decide) (by decide), hr.2 41 (by omega)]
    exact h'.2.2.2
def mm_hiW (W : List (Nat × Nat × Nat)) : Bool := W.all (fun e => Nat.ble (e.2.1 + 1) 176)
theorem mm_hi_f {W : List (Nat × Nat × Nat)} (h : mm_hiW W = true) {c i : Nat} (hc : 176 ≤ c) : mm_wr W c i = false := by
  cases hw : mm_wr W c i with
  | false => rfl
  | true =>
    obtain ⟨e, he, h1⟩ := List.any_eq_true.mp hw
    have h2 := Nat.le_of_ble_eq_true (List.all_eq_true.mp h e he)
    unfold mm_wr1 at h1
    split at h1
    · rename_i q1 q2
      have := Nat.le_of_ble_eq_true q2
      omega
    · cases h1
theorem IM_h {NB ND NF : Nat} {m n : mm_P} (h : IM m NB ND NF) (hp : ∀ c i, 176 ≤ c → n c i = m c i) : IM n NB ND NF := IM_e h (fun c i q => hp c i (by omega))
/-- a call of the class -/
theorem LI_c {W : List (Nat × Nat × Nat)} {m n1 : mm_P} {ml n2 : mm_G} (h : LI m) (hW : mm_hiW W = true) (h160 : mm_wr W 160 1 = false) (hIC : mm_IC n1) (hf : mm_fw W m ml n1 n2) : LI n1 := by
  obtain ⟨NB, ND, NF, hI⟩ := h.2.1
  have hp : ∀ c i, 176 ≤ c → n1 c i = m c i := fun c i q => (hf c i (mm_hi_f hW q)).1
  refine ⟨hIC, ⟨NB, ND, NF, IM_h hI hp⟩, ?_, ?_⟩
  · rw [hp 176 51 (by decide)]
    exact h.2.2.1
  · rw [(hf 160 1 h160).1, hp 176 41 (by decide)]
    exact h.2.2.2
section MMT
variable {L : Nat} {xs : Nat → Int32} {d : Nat} {Q : mm_QQ} {mi : mm_P} {ml : mm_G} {lim : Nat × Nat}
theorem sp_X11_input {x1 : Int32} (h16 : ¬ mi 160 1 < 16 → Q (some (mm_I (-4))) mi ml) (hQ : mi 160 1 < 16 → Q (some (mm_I (mi 160 1 + 1))) (mm_u (mm_u mi 161 (mi 160 1).toNatClampNeg x1) 160 1 (mi 160 1 + 1)) ml) (h0 : 0 ≤ (mi 160 1).toInt) : mm_cq (mm_call mm_ms (mm_tb L xs) (d + 2)) 156 [mm_R 0, mm_I x1] mi ml Q := by
  refine en_X11_input (bk_X11_input_0 (mm_call_m _) (en_X3_add (bk_X3_add_0 (mm_call_m _) (fun z => ?_) (fun z => bk_X11_input_8 (mm_call_m _) (hQ z)) (fun z => bk_X11_input_8 (mm_call_m _) (h16 z)))))
  have := mm_ltI z
  rw [mm_tt16] at this
  exact mm_vpr ⟨h0, this⟩
theorem sp_X11_empty (hQ : Q (some (mm_I (mi 160 1))) (mm_u mi 160 1 0) ml) : mm_cq (mm_call mm_ms (mm_tb L xs) (d + 2)) 157 [mm_R 0] mi ml Q :=
  en_X11_empty (bk_X11_empty_0 (mm_call_m _) (en_X3_clear (bk_X3_clear_0 (mm_call_m _) (bk_X11_empty_7 (mm_call_m _) hQ))))
/-- input() of both: the same answer, and as it was between them -/
theorem lw_input {x1 : Int32} {Q' : Int32 → Int32 → mm_P → mm_G → Prop} (hL : LI mi) (hQ : ∀ v n, LI n → Q' v v n ml) : mm_cq (mm_call mm_ms (mm_tb L xs) (d + 2)) 156 [mm_R 0, mm_I x1] mi ml (fun o n1 n2 => ∃ v, o = some (mm_I v) ∧ mm_cq (mm_call mm_ms (mm_tb L xs) (d + 2)) 211 [mm_R 176, mm_I x1] n1 n2 (fun o2 n3 n4 => ∃ v2, o2 = some (mm_I v2) ∧ Q' v v2 n3 n4)) := by
  obtain ⟨hIC, ⟨NB, ND, NF, hI⟩, h51, h41⟩ := id hL
  have hr := hIC.2.2.2.2.2
  refine sp_X11_input (fun z => ⟨-4, rfl, ?_⟩) (fun z => ⟨_, rfl, ?_⟩) hr.1
  · have e16 : mi 160 1 = 16 := by
      have := mm_nltI z
      rw [mm_tt16] at this
      exact Int32.toInt_inj.mp (by rw [mm_tt16]; omega)
    refine sp_input (by rw [← h41]; exact hr) (fun _ => ⟨-4, rfl, hQ _ _ hL⟩) (fun q => absurd (h41.symm.trans e16) q)
  · have hlt := mm_ltI z
    rw [mm_tt16] at hlt
    have e41 : mm_u (mm_u mi 161 (mi 160 1).toNatClampNeg x1) 160 1 (mi 160 1 + 1) 176 41 = mi 160 1 := by
      rw [mm_u_e (by decide), mm_u_e (by decide)]
      exact h41.symm
    refine sp_input (by rw [e41]; exact hr) (fun q => ?_) (fun _ _ => ⟨_, rfl, ?_⟩)
    · rw [e41] at q
      rw [q, mm_tt16] at hlt
      omega
    · rw [e41]
      have hadd : (mi 160 1 + 1).toInt = (mi 160 1).toInt + 1 := mm_add1 (by omega)
      have hIC' : mm_IC (mm_u (mm_u mi 161 (mi 160 1).toNatClampNeg x1) 160 1 (mi 160 1 + 1)) := mm_IC_1601 (mm_IC_n hIC (by decide) (by decide) (by decide) (by decide) (by decide)) (by omega)
      refine hQ _ _ ⟨IC_k hIC' (fun c i q => by rw [mm_u_e (by omega), mm_u_e (by omega)]), ⟨NB, ND, NF, IM_e hI (fun c i q => by rw [mm_u_o (by omega), mm_u_o (by omega), mm_u_o (by omega), mm_u_o (by omega)])⟩, ?_, ?_⟩
      · rw [mm_u_f (by decide), mm_u_e (by decide), mm_u_e (by decide), mm_u_e (by decide)]
        exact h51
      · rw [mm_u_e (by decide), mm_u_e (by decide), mm_u_s, mm_u_s]
theorem lw_empty {Q' : Int32 → Int32 → mm_P → mm_G → Prop} (hL : LI mi) (hQ : ∀ v n, LI n → Q' v v n ml) : mm_cq (mm_call mm_ms (mm_tb L xs) (d + 2)) 157 [mm_R 0] mi ml (fun o n1 n2 => ∃ v, o = some (mm_I v) ∧ mm_cq (mm_call mm_ms (mm_tb L xs) (d + 2)) 212 [mm_R 176] n1 n2 (fun o2 n3 n4 => ∃ v2, o2 = some (mm_I v2) ∧ Q' v v2 n3 n4)) := by
  obtain ⟨hIC, ⟨NB, ND, NF, hI⟩, h51, h41⟩ := id hL
  refine sp_X11_empty ⟨_, rfl, sp_empty ⟨_, rfl, ?_⟩⟩
  rw [mm_u_e (by decide), ← h41]
  have hIC' : mm_IC (mm_u mi 160 1 0) := mm_IC_1601 hIC (by rw [mm_tt0]; omega)
  refine hQ _ _ ⟨IC_k hIC' (fun c i q => mm_u_e (by omega)), ⟨NB, ND, NF, IM_e hI (fun c i q => by rw [mm_u_o (by omega), mm_u_o (by omega)])⟩, ?_, ?_⟩
  · rw [mm_u_f (by decide), mm_u_e (by decide)]
    exact h51
  · rw [mm_u_e (by decide), mm_u_s, mm_u_s]
end MMT
/-! ===== both objects, new ===== -/
def mm_n0 (c i : Nat) (x : Int32) : Bool := mm_qb (mm_gb (fun _ _ => 0) (mm_E2 ++ mm_E1) c i) x
theorem mm_n0_s {c i : Nat} {x : Int32} (h : mm_n0 c i x = true) : mm_i0 c i = x := mm_qb_t h
theorem LI_0 : LI mm_i0 := by
  have hv : ∀ {c i : Nat} {x : Int32}, mm_n0 c i x = true → mm_i0 c i = x := mm_n0_s
  have r : ∀ c i x, mm_n0 c i x = true → mm_i0 c i = x := fun c i x h => hv h
  have e0 : mm_i0 176 0 = nI 4 := r _ _ _ (by decide +kernel)
  refine ⟨?_, ⟨4, 0, 0, ⟨⟨by decide, by decide⟩, by decide, by decide⟩, ⟨e0, r _ _ _ (by decide +kernel), r _ _ _ (by decide +kernel)⟩, fun t ht => ?_, fun t ht => ?_, fun n hn => absurd hn (Nat.not_lt_zero _), fun n hn => absurd hn (Nat.not_lt_zero _), r _ _ _ (by decide +kernel), r _ _ _ (by decide +kernel), r _ _ _ (by decide +kernel), r _ _ _ (by decide +kernel)⟩, ?_, ?_⟩
  · unfold mm_IC
    rw [r 1 1 4 (by decide +kernel), r 3 5 0 (by decide +kernel), r 3 6 0 (by decide +kernel), r 9 7 0 (by decide +kernel), r 31 12 0 (by decide +kernel), r 160 1 0 (by decide +kernel)]
    decide
  · refine .inl ?_
    unfold bs
    rcases (show t = 0 ∨ t = 1 ∨ t = 2 ∨ t = 3 by omega) with rfl | rfl | rfl | rfl
    · rw [r 177 0 0 (by decide +kernel), r 178 0 (-1) (by decide +kernel), r 179 0 (-1) (by decide +kernel), r 180 0 1 (by decide +kernel), r 181 0 0 (by decide +kernel), r 182 0 0 (by decide +kernel), r 183 0 1 (by decide +kernel)]
      decide
    · rw [r 177 1 1 (by decide +kernel), r 178 1 (-1) (by decide +kernel), r 179 1 (-1) (by decide +kernel), r 180 1 1 (by decide +kernel), r 181 1 0 (by decide +kernel), r 182 1 0 (by decide +kernel), r 183 1 1 (by decide +kernel)]
      decide
    · rw [r 177 2 2 (by decide +kernel), r 178 2 (-1) (by decide +kernel), r 179 2 (-1) (by decide +kernel), r 180 2 1 (by decide +kernel), r 181 2 1 (by decide +kernel), r 182 2 0 (by decide +kernel), r 183 2 (-1) (by decide +kernel)]
      decide
    · rw [r 177 3 3 (by decide +kernel), r 178 3 (-1) (by decide +kernel), r 179 3 (-1) (by decide +kernel), r 180 3 1 (by decide +kernel), r 181 3 0 (by decide +kernel), r 182 3 1 (by decide +kernel), r 183 3 (-1) (by decide +kernel)]
      decide
  · rcases (show t = 0 ∨ t = 1 ∨ t = 2 ∨ t = 3 by omega) with rfl | rfl | rfl | rfl
    · rw [r 180 0 1 (by decide +kernel), r 181 0 0 (by decide +kernel), r 182 0 0 (by decide +kernel)]
      decide
    · rw [r 180 1 1 (by decide +kernel), r 181 1 0 (by decide +kernel), r 182 1 0 (by decide +kernel)]
      decide
    · rw [r 180 2 1 (by decide +kernel), r 181 2 1 (by decide +kernel), r 182 2 0 (by decide +kernel)]
      decide
    · rw [r 180 3 1 (by decide +kernel), r 181 3 0 (by decide +kernel), r 182 3 1 (by decide +kernel)]
      decide
  · rw [r 176 51 0 (by decide +kernel)]
    decide
  · rw [r 160 1 0 (by decide +kernel), r 176 41 0 (by decide +kernel)]
