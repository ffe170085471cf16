/-! ===== the least node that is wrong: the class (clean behind 8n) ===== -/
/-- v is the least n with P; -1: there is none -/
def LW (P : Nat → Prop) (v : Int32) : Prop := (v = -1 ∧ ∀ n, ¬ P n) ∨ ∃ n, n < 200 ∧ v = nI n ∧ P n ∧ ∀ k, k < n → ¬ P k
theorem LW_u {P R : Nat → Prop} {v u : Int32} (e : ∀ n, P n ↔ R n) (h : LW P v) (h2 : LW R u) : v = u := by
  rcases h with ⟨a, b⟩ | ⟨n, n0, n1, n2, n3⟩
  · rcases h2 with ⟨c, -⟩ | ⟨k, -, -, k2, -⟩
    · rw [a, c]
    · exact absurd ((e k).mpr k2) (b k)
  · rcases h2 with ⟨-, c⟩ | ⟨k, k0, k1, k2, k3⟩
    · exact absurd ((e n).mp n2) (c n)
    · have : n = k := by
        rcases Nat.lt_trichotomy n k with q | q | q
        · exact absurd ((e n).mp n2) (k3 n q)
        · exact q
        · exact absurd ((e k).mpr k2) (n3 k q)
      rw [n1, k1, this]
/-- one node more is looked at -/
theorem LW_more {P R : Nat → Prop} {v : Int32} {p : Nat} (hp : p < 200) (h : LW P v) (h0 : ∀ n, P n → R n) (h1 : ∀ n, R n → P n ∨ n = p) : (¬ R p → LW R v) ∧ (R p → v = -1 → LW R (nI p)) ∧ (R p → ¬ v = -1 → v ≤ nI p → LW R v) ∧ (R p → ¬ v = -1 → ¬ v ≤ nI p → LW R (nI p)) := by
  refine ⟨fun hr => ?_, fun hr hv => ?_, fun hr hv hle => ?_, fun hr hv hle => ?_⟩
  · rcases h with ⟨a, b⟩ | ⟨n, n0, n1, n2, n3⟩
    · exact .inl ⟨a, fun n q => (h1 n q).elim (b n) (fun z => hr (z ▸ q))⟩
    · exact .inr ⟨n, n0, n1, h0 n n2, fun k hk q => (h1 k q).elim (n3 k hk) (fun z => hr (z ▸ q))⟩
  · rcases h with ⟨a, b⟩ | ⟨n, n0, n1, n2, n3⟩
    · exact .inr ⟨p, hp, rfl, hr, fun k hk q => (h1 k q).elim (b k) (fun z => by omega)⟩
    · exact absurd (n1.symm.trans hv) (nI_ne (by omega))
  · rcases h with ⟨a, b⟩ | ⟨n, n0, n1, n2, n3⟩
    · exact absurd a hv
    · have hnp : n ≤ p := by
        have := mm_leI hle
        rw [n1, mm_tI (by omega), mm_tI (by omega)] at this
        omega
      exact .inr ⟨n, n0, n1, h0 n n2, fun k hk q => (h1 k q).elim (n3 k hk) (fun z => by omega)⟩
  · rcases h with ⟨a, b⟩ | ⟨n, n0, n1, n2, n3⟩
    · exact absurd a hv
    · have hnp : p < n := by
        have := mm_nleI hle
        rw [n1, mm_tI (by omega), mm_tI (by omega)] at this
        omega
      exact .inr ⟨p, hp, rfl, hr, fun k hk q => (h1 k q).elim (n3 k (by omega)) (fun z => by omega)⟩
section MLW
variable {L : Nat} {xs : Nat → Int32} {d : Nat} {Q : mm_QQ} {ml : mm_G} {lim : Nat × Nat} {NB ND NF : Nat}
theorem lw_19 {f c : Nat} {w : mm_P} (hK : KW NB ND NF w) (hf : f < NF) (h36 : w 3 6 = nI c) (hc : c ≤ 200) (hmet : ∀ i, i < c → ∃ p, p < ND ∧ w 8 i = nI p) (hQ : ∀ v, LW (fun n => (∃ e, e < c ∧ w 8 e = nI n) ∧ n < ND ∧ ml (19 + f) n = -1) v → Q (some (mm_I v)) w ml) : ∀ (j i : Nat) (x2 : Int32) {x4 : Option mm_V}, i + j = c → LW (fun n => (∃ e, e < i ∧ w 8 e = nI n) ∧ n < ND ∧ ml (19 + f) n = -1) x2 → mm_WQ (mm_call mm_ms (mm_tb L xs) (d + 2)) (mm_tb L xs) mm_m49 lim Q 19 [some (mm_R 17), some (mm_I (nI f)), some (mm_I x2), some (mm_I (nI i)), x4] [] w ml := by
  have hND := hK.2.2.1
  have e200 : (200 : Int32).toInt = 200 := rfl
  intro j
  induction j with
  | zero =>
    intro i x2 x4 h hL
    have hi : i = c := by omega
    subst hi
    refine bk_X4_leastWrong_19 (mm_call_m _) (en_X7_metSize (bk_X7_metSize_0 (mm_call_m _) (bk_X4_leastWrong_27 (mm_call_m _) (fun _ => hQ x2 hL) (fun z => absurd ?_ z))))
    rw [h36]
    exact Int32.le_refl _
  | succ j ih =>
    intro i x2 x4 h hL
    obtain ⟨p, p1, p2⟩ := hmet i (by omega)
    refine bk_X4_leastWrong_19 (mm_call_m _) (en_X7_metSize (bk_X7_metSize_0 (mm_call_m _) (bk_X4_leastWrong_27 (mm_call_m _) (fun z => ?_) (fun _ => ?_))))
    · have := mm_leI z
      rw [h36, mm_tI (by omega), mm_tI (by omega)] at this
      omega
    · refine en_X7_metAt (bk_X7_metAt_0 (mm_call_m _) (fun z => ?_) (fun _ z => ?_) (fun _ _ z => ?_) (fun _ _ _ => vp_in_nI (by omega) (by decide)) (fun _ _ _ => bk_X4_leastWrong_38 (mm_call_m _) ?_))
      · have := mm_ltI z
        rw [mm_tI (by omega), mm_tt0] at this
        omega
      · have := mm_leI z
        rw [h36, mm_tI (by omega), mm_tI (by omega)] at this
        omega
      · have := mm_leI z
        rw [e200, mm_tI (by omega)] at this
        omega
      · rw [nI_clamp (by omega), p2]
        refine sx_shapeIn hK hf (fun q q1 q2 => ?_) (fun z => absurd ⟨p, p1, rfl⟩ z)
        have hqp : p = q := nI_inj (by omega) (by omega) q2
        subst hqp
        have hm := LW_more (P := fun n => (∃ e, e < i ∧ w 8 e = nI n) ∧ n < ND ∧ ml (19 + f) n = -1) (R := fun n => (∃ e, e < i + 1 ∧ w 8 e = nI n) ∧ n < ND ∧ ml (19 + f) n = -1) (p := p) (by omega) hL (fun n ⟨⟨e, e1, e2⟩, h2⟩ => ⟨⟨e, by omega, e2⟩, h2⟩) (fun n ⟨⟨e, e1, e2⟩, h2⟩ => by
          have hnN := h2.1
          by_cases hei : e = i
          · subst hei
            refine .inr ?_
            have h8 : w 8 e = nI n := e2
            exact (nI_inj (by omega) (by omega) (p2.symm.trans h8)).symm
          · exact .inl ⟨⟨e, by omega, e2⟩, h2⟩)
        have hgo : ∀ x2', LW (fun n => (∃ e, e < i + 1 ∧ w 8 e = nI n) ∧ n < ND ∧ ml (19 + f) n = -1) x2' → mm_WQ (mm_call mm_ms (mm_tb L xs) (d + 2)) (mm_tb L xs) mm_m49 lim Q 68 [some (mm_R 17), some (mm_I (nI f)), some (mm_I x2'), some (mm_I (nI i)), some (mm_I (nI p))] [] w ml := fun x2' hl => by
          refine bk_X4_leastWrong_68 (mm_call_m _) ?_
          rw [show nI i + 1 = nI (i + 1) from (nI_succ i).symm]
          exact ih (i + 1) x2' (by omega) hl
        have hin : ml (19 + f) p = -1 → (∃ e, e < i + 1 ∧ w 8 e = nI p) ∧ p < ND ∧ ml (19 + f) p = -1 := fun z => ⟨⟨i, by omega, p2⟩, p1, z⟩
        exact bk_X4_leastWrong_47 (mm_call_m _) (fun z => hgo _ (hm.1 (fun y => z (lg_eq.mpr y.2.2)))) (fun z y => bk_X4_leastWrong_65 (mm_call_m _) (hgo _ (hm.2.1 (hin (lg_eq.mp z)) y))) (fun z y u => hgo _ (hm.2.2.1 (hin (lg_eq.mp z)) y u)) (fun z y u => bk_X4_leastWrong_65 (mm_call_m _) (hgo _ (hm.2.2.2 (hin (lg_eq.mp z)) y u)))
end MLW
