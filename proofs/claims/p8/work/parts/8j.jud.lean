/-! ===== the shape of a type of the model ===== -/
def shv (w : mm_P) : Nat → Nat → Int64
  | 0, _ => -1
  | k + 1, t => if w 177 t = 4 then f_pr (shv w k (w 178 t).toNatClampNeg) (shv w k (w 179 t).toNatClampNeg) else if w 177 t = 5 then f_ls (shv w k (w 178 t).toNatClampNeg) else if w 177 t = 0 then 0 else if w 177 t = 1 then 1 else if w 177 t = 2 then 2 else 3
def SHV (w : mm_P) (t : Nat) : Int64 := shv w (t + 1) t
/-- valid types are well-formed -/
def WTY (NB TY : Nat) (w : mm_P) : Prop := NB ≤ 200 ∧ TY ≤ 8000 ∧ ∀ t, vd NB TY t → wT NB TY w t
theorem TX_W {w : mm_P} {NB TY : Nat} (h : TX w NB TY) : WTY NB TY w := ⟨h.1.1.2, h.1.2.1.2, h.1.2.2.2.2.2.2⟩
theorem shv_s {w : mm_P} {k t : Nat} : shv w (k + 1) t = if w 177 t = 4 then f_pr (shv w k (w 178 t).toNatClampNeg) (shv w k (w 179 t).toNatClampNeg) else if w 177 t = 5 then f_ls (shv w k (w 178 t).toNatClampNeg) else if w 177 t = 0 then 0 else if w 177 t = 1 then 1 else if w 177 t = 2 then 2 else 3 := rfl
theorem shv_5 {w : mm_P} {k t a : Nat} (ha : a < 2 ^ 31) (he : en5 w w t a) : shv w (k + 1) t = f_ls (shv w k a) := by
  refine shv_s.trans ?_
  rw [he.1, he.2.1, nI_clamp (by omega), if_neg (by decide), if_pos rfl]
theorem shv_4 {w : mm_P} {k t a b : Nat} (ha : a < 2 ^ 31) (hb : b < 2 ^ 31) (he : en4 w w t a b) : shv w (k + 1) t = f_pr (shv w k a) (shv w k b) := by
  refine shv_s.trans ?_
  rw [he.1, he.2.1, he.2.2.1, nI_clamp (by omega), nI_clamp (by omega), if_pos rfl]
theorem shv_b {w : mm_P} {k t : Nat} (h : bs w t) : (shv w (k + 1) t).toInt = (w 177 t).toInt := by
  rw [shv_s (w := w) (k := k) (t := t)]
  rcases h.1 with ⟨s, -⟩ | ⟨s, -⟩ | ⟨s, -⟩ | ⟨s, -⟩ <;> rw [s] <;> rfl
section MSV
variable {NB TY : Nat} {w : mm_P}
theorem shv_e (hW : WTY NB TY w) : ∀ (k j t : Nat), t < k → t < j → vd NB TY t → shv w k t = shv w j t := by
  intro k
  induction k with
  | zero => exact fun j t q => absurd q (Nat.not_lt_zero _)
  | succ k ih =>
    intro j t hk hj ht
    cases j with
    | zero => omega
    | succ j =>
      have ht8 := vd_lt ht hW.1 hW.2.1
      rcases hW.2.2 t ht with q | ⟨a, q1, q2, q3⟩ | ⟨a, b, q1, q2, q3, q4, q5⟩
      · exact Int64.toInt_inj.mp ((shv_b q).trans (shv_b q).symm)
      · rw [shv_5 (k := k) (by omega) q3, shv_5 (k := j) (by omega) q3, ih j a (by omega) (by omega) q1]
      · rw [shv_4 (k := k) (by omega) (by omega) q5, shv_4 (k := j) (by omega) (by omega) q5, ih j a (by omega) (by omega) q1, ih j b (by omega) (by omega) q3]
theorem SHV_5 {t a : Nat} (hW : WTY NB TY w) (ht : vd NB TY t) (ha : vd NB TY a) (hat : a < t) (he : en5 w w t a) : SHV w t = f_ls (SHV w a) := by
  have ht8 := vd_lt ht hW.1 hW.2.1
  unfold SHV
  rw [shv_5 (k := t) (by omega) he, shv_e hW t (a + 1) a hat (Nat.lt_succ_self a) ha]
theorem SHV_4 {t a b : Nat} (hW : WTY NB TY w) (ht : vd NB TY t) (ha : vd NB TY a) (hat : a < t) (hb : vd NB TY b) (hbt : b < t) (he : en4 w w t a b) : SHV w t = f_pr (SHV w a) (SHV w b) := by
  have ht8 := vd_lt ht hW.1 hW.2.1
  unfold SHV
  rw [shv_4 (k := t) (by omega) (by omega) he, shv_e hW t (a + 1) a hat (Nat.lt_succ_self a) ha, shv_e hW t (b + 1) b hbt (Nat.lt_succ_self b) hb]
theorem SHV_b {t : Nat} (h : bs w t) : (SHV w t).toInt = (w 177 t).toInt := shv_b h
/-- shapes speak of the rows of valid types alone -/
theorem shv_c {n : mm_P} (hW : WTY NB TY w) (hr : ∀ t, vd NB TY t → ∀ c, 177 ≤ c → c ≤ 183 → n c t = w c t) : ∀ (k t : Nat), vd NB TY t → shv n k t = shv w k t := by
  intro k
  induction k with
  | zero => exact fun _ _ => rfl
  | succ k ih =>
    intro t ht
    have ht8 := vd_lt ht hW.1 hW.2.1
    rcases hW.2.2 t ht with q | ⟨a, q1, q2, q3⟩ | ⟨a, b, q1, q2, q3, q4, q5⟩
    · exact Int64.toInt_inj.mp ((shv_b (bs_c q (hr t ht))).trans ((congrArg Int32.toInt (hr t ht 177 (by decide) (by decide))).trans (shv_b q).symm))
    · rw [shv_5 (w := w) (k := k) (by omega) q3, shv_5 (w := n) (k := k) (by omega) (en5_c q3 (hr t ht) (hr a q1)), ih a q1]
    · rw [shv_4 (w := w) (k := k) (by omega) (by omega) q5, shv_4 (w := n) (k := k) (by omega) (by omega) (en4_c q5 (hr t ht) (hr a q1) (hr b q3)), ih a q1, ih b q3]
theorem SHV_c {n : mm_P} {t : Nat} (hW : WTY NB TY w) (hr : ∀ t, vd NB TY t → ∀ c, 177 ≤ c → c ≤ 183 → n c t = w c t) (ht : vd NB TY t) : SHV n t = SHV w t := shv_c hW hr (t + 1) t ht
theorem f_rw_n : f_rw (-1) = 0 := by
  unfold f_rw
  rw [mm_lln, if_pos (by decide)]
theorem f_ls_n : f_ls (-1) = -1 := by
  unfold f_ls
  rw [f_rw_n]
  rfl
theorem f_pr_n {x y : Int64} (h : x = -1 ∨ y = -1) : f_pr x y = -1 := by
  unfold f_pr
  rcases h with h | h
  · rw [h, f_rw_n, if_pos (by decide)]
  · rw [h, f_rw_n]
    split
    · rfl
    · rfl
/-- depth and shape -/
theorem SHV_d (hW : WTY NB TY w) : ∀ (k t : Nat), t < k → vd NB TY t → (1 ≤ (w 180 t).toInt ∧ (w 180 t).toInt ≤ (t : Int) + 1) ∧ ((w 180 t).toInt ≤ 5 → (0 ≤ (SHV w t).toInt ∧ (SHV w t).toInt < 152587890624) ∧ f_dp (SHV w t) = w 180 t) ∧ (5 < (w 180 t).toInt → SHV w t = -1) := by
  have h5 : ∀ {x : Int64} {v : Int32}, (0 ≤ x.toInt ∧ x.toInt < 152587890624) → f_dp x = v → v.toInt ≤ 4 → x.toInt < 390624 := fun hx e hv => by
    rcases f_dp_5 hx with z | z
    · exact z.1
    · rw [e] at z
      have := congrArg Int32.toInt z.2
      rw [mm_tt5] at this
      omega
  have h6 : ∀ {x : Int64} {v : Int32}, (0 ≤ x.toInt ∧ x.toInt < 152587890624) → f_dp x = v → ¬ v.toInt ≤ 4 → 390624 ≤ x.toInt := fun hx e hv => by
    rcases f_dp_5 hx with z | z
    · rw [e] at z
      omega
    · exact z.1
  intro k
  induction k with
  | zero => exact fun t q => absurd q (Nat.not_lt_zero _)
  | succ k ih =>
    intro t hk ht
    have ht8 := vd_lt ht hW.1 hW.2.1
    rcases hW.2.2 t ht with q | ⟨a, q1, q2, q3⟩ | ⟨a, b, q1, q2, q3, q4, q5⟩
    · obtain ⟨b1, b2, -⟩ := bs_k q
      have hs := SHV_b q
      have e1 : (w 180 t).toInt = 1 := by rw [b2, mm_tt1]
      refine ⟨⟨by omega, by omega⟩, fun _ => ⟨by omega, ?_⟩, fun z => by omega⟩
      rw [b2]
      unfold f_dp
      rw [if_neg (by omega), if_pos (by omega)]
    · obtain ⟨⟨i1, i2⟩, i3, i4⟩ := ih a (by omega) q1
      have ed : (w 180 t).toInt = 1 + (w 180 a).toInt := by rw [q3.2.2.2.1, mm_1p (by omega) (by omega)]
      have es := SHV_5 hW ht q1 q2 q3
      refine ⟨⟨by omega, by omega⟩, fun z => ?_, fun z => ?_⟩
      · obtain ⟨j1, j2⟩ := i3 (by omega)
        obtain ⟨x1, x2, x3, x4, x5⟩ := f_ls_ok ⟨j1.1, h5 j1 j2 (by omega)⟩
        rw [es]
        exact ⟨by omega, by rw [x5, j2, q3.2.2.2.1]⟩
      · rw [es]
        by_cases c : (w 180 a).toInt ≤ 5
        · obtain ⟨j1, j2⟩ := i3 c
          exact f_ls_no ⟨h6 j1 j2 (by omega), j1.2⟩
        · rw [i4 (by omega)]
          exact f_ls_n
    · obtain ⟨⟨i1, i2⟩, i3, i4⟩ := ih a (by omega) q1
      obtain ⟨⟨k1, k2⟩, k3, k4⟩ := ih b (by omega) q3
      obtain ⟨⟨m1, m2⟩, m3, m4⟩ := f_most_r (x := w 180 a) (y := w 180 b) (lo := 1) (hi := (t : Int)) ⟨i1, by omega⟩ ⟨k1, by omega⟩
      have ed : (w 180 t).toInt = 1 + (f_most (w 180 a) (w 180 b)).toInt := by rw [q5.2.2.2.1, mm_1p (by omega) (by omega)]
      have es := SHV_4 hW ht q1 q2 q3 q4 q5
      refine ⟨⟨by omega, by omega⟩, fun z => ?_, fun z => ?_⟩
      · obtain ⟨j1, j2⟩ := i3 (by omega)
        obtain ⟨l1, l2⟩ := k3 (by omega)
        obtain ⟨x1, x2, x3, x4, x5⟩ := f_pr_ok ⟨j1.1, h5 j1 j2 (by omega)⟩ ⟨l1.1, h5 l1 l2 (by omega)⟩
        rw [es]
        exact ⟨by omega, by rw [x5, j2, l2, q5.2.2.2.1]⟩
      · rw [es]
        by_cases c : (w 180 a).toInt ≤ 5
        · by_cases c2 : (w 180 b).toInt ≤ 5
          · obtain ⟨j1, j2⟩ := i3 c
            obtain ⟨l1, l2⟩ := k3 c2
            refine f_pr_no j1 l1 ?_
            have hm : f_most (w 180 a) (w 180 b) = w 180 a ∨ f_most (w 180 a) (w 180 b) = w 180 b := by
              unfold f_most
              split
              · exact .inr rfl
              · exact .inl rfl
            rcases hm with hm | hm
            · rw [hm] at ed
              exact .inl (h6 j1 j2 (by omega))
            · rw [hm] at ed
              exact .inr (h6 l1 l2 (by omega))
          · exact f_pr_n (.inr (k4 (by omega)))
        · exact f_pr_n (.inl (i4 (by omega)))
theorem SHV_r {t : Nat} (hW : WTY NB TY w) (ht : vd NB TY t) (hd : (w 180 t).toInt ≤ 5) : (0 ≤ (SHV w t).toInt ∧ (SHV w t).toInt < 152587890624) ∧ f_dp (SHV w t) = w 180 t := (SHV_d hW (t + 1) t (Nat.lt_succ_self t) ht).2.1 hd
theorem SHV_n {t : Nat} (hW : WTY NB TY w) (ht : vd NB TY t) (hd : ¬ (w 180 t).toInt ≤ 5) : SHV w t = -1 := (SHV_d hW (t + 1) t (Nat.lt_succ_self t) ht).2.2 (by omega)
theorem SHV_1 {t : Nat} (hW : WTY NB TY w) (ht : vd NB TY t) : 1 ≤ (w 180 t).toInt ∧ (w 180 t).toInt ≤ (t : Int) + 1 := (SHV_d hW (t + 1) t (Nat.lt_succ_self t) ht).1
theorem SHV_lt {t : Nat} (hW : WTY NB TY w) (ht : vd NB TY t) (hd : (w 180 t).toInt ≤ 4) : 0 ≤ (SHV w t).toInt ∧ (SHV w t).toInt < 390624 := by
  obtain ⟨j1, j2⟩ := SHV_r hW ht (by omega)
  refine ⟨j1.1, ?_⟩
  rcases f_dp_5 j1 with z | z
  · exact z.1
  · rw [j2] at z
    have := congrArg Int32.toInt z.2
    rw [mm_tt5] at this
    omega
/-- what a type is, its parts, read from its shape -/
theorem SHV_k {t : Nat} (hW : WTY NB TY w) (ht : vd NB TY t) (hd : (w 180 t).toInt ≤ 5) : f_kd (SHV w t) = w 177 t ∧ ((bs w t ∧ f_fs (SHV w t) = -1 ∧ f_sc (SHV w t) = -1) ∨ (∃ a, a < t ∧ vd NB TY a ∧ en5 w w t a ∧ f_fs (SHV w t) = SHV w a ∧ f_sc (SHV w t) = -1 ∧ (w 180 a).toInt ≤ 4) ∨ (∃ a b, a < t ∧ vd NB TY a ∧ b < t ∧ vd NB TY b ∧ en4 w w t a b ∧ f_fs (SHV w t) = SHV w a ∧ f_sc (SHV w t) = SHV w b ∧ (w 180 a).toInt ≤ 4 ∧ (w 180 b).toInt ≤ 4)) := by
  have ht8 := vd_lt ht hW.1 hW.2.1
  rcases hW.2.2 t ht with q | ⟨a, q1, q2, q3⟩ | ⟨a, b, q1, q2, q3, q4, q5⟩
  · have hs := SHV_b q
    obtain ⟨b1, -⟩ := bs_k q
    have hx : (SHV w t).toInt < 4 := by omega
    have hrb : f_rb (SHV w t) = 0 := by
      unfold f_rb
      rw [if_pos hx]
    refine ⟨?_, .inl ⟨q, ?_, ?_⟩⟩
    · have hc : ∀ k : Int32, w 177 t = k → ∀ x : Int64, x.toInt = k.toInt → SHV w t = x := fun k e x ex => Int64.toInt_inj.mp (by rw [hs, e, ex])
      rcases q.1 with ⟨s, -⟩ | ⟨s, -⟩ | ⟨s, -⟩ | ⟨s, -⟩
      · rw [hc 0 s 0 rfl, s]; decide
      · rw [hc 1 s 1 rfl, s]; decide
      · rw [hc 2 s 2 rfl, s]; decide
      · rw [hc 3 s 3 rfl, s]; decide
    · unfold f_fs
      rw [hrb, if_neg (by decide)]
    · unfold f_sc
      rw [hrb, if_pos (by decide)]
  · have i := SHV_1 hW q1
    have ed : (w 180 t).toInt = 1 + (w 180 a).toInt := by rw [q3.2.2.2.1, mm_1p (by omega) (by omega)]
    obtain ⟨x1, x2, x3, x4, x5⟩ := f_ls_ok (SHV_lt hW q1 (by omega))
    rw [SHV_5 hW ht q1 q2 q3]
    exact ⟨x2.trans q3.1.symm, .inr (.inl ⟨a, q2, q1, q3, x3, x4, by omega⟩)⟩
  · have i := SHV_1 hW q1
    have j := SHV_1 hW q3
    obtain ⟨⟨m1, m2⟩, m3, m4⟩ := f_most_r (x := w 180 a) (y := w 180 b) (lo := 1) (hi := (t : Int)) ⟨i.1, by omega⟩ ⟨j.1, by omega⟩
    have ed : (w 180 t).toInt = 1 + (f_most (w 180 a) (w 180 b)).toInt := by rw [q5.2.2.2.1, mm_1p (by omega) (by omega)]
    obtain ⟨x1, x2, x3, x4, x5⟩ := f_pr_ok (SHV_lt hW q1 (by omega)) (SHV_lt hW q3 (by omega))
    rw [SHV_4 hW ht q1 q2 q3 q4 q5]
    exact ⟨x2.trans q5.1.symm, .inr (.inr ⟨a, b, q2, q1, q4, q3, q5, x3, x4, by omega, by omega⟩)⟩
/-- no two types have one shape -/
theorem SHV_i (hW : WTY NB TY w) (hU : TU NB TY w) : ∀ (k t u : Nat), t < k → vd NB TY t → vd NB TY u → 0 ≤ (SHV w t).toInt → SHV w t = SHV w u → t = u := by
  intro k
  induction k with
  | zero => exact fun t u q => absurd q (Nat.not_lt_zero _)
  | succ k ih =>
    intro t u hk ht hu h0 he
    have hneg : ∀ {s : Nat}, vd NB TY s → 0 ≤ (SHV w s).toInt → (w 180 s).toInt ≤ 5 := fun {s} hs h => by
      by_cases c : (w 180 s).toInt ≤ 5
      · exact c
      · rw [SHV_n hW hs c, mm_lln] at h
        omega
    obtain ⟨kt, ct⟩ := SHV_k hW ht (hneg ht h0)
    obtain ⟨ku, cu⟩ := SHV_k hW hu (hneg hu (by rw [← he]; exact h0))
    have e7 : w 177 t = w 177 u := by rw [← kt, ← ku, he]
    rcases ct with ⟨b, -, -⟩ | ⟨a, a1, a2, a3, a4, -, a5⟩ | ⟨a, b, a1, a2, b1, b2, a3, a4, b4, a5, b5⟩
    · rcases cu with ⟨b', -, -⟩ | ⟨a', a1', a2', a3', -⟩ | ⟨a', b', a1', a2', b1', b2', a3', -⟩
      · exact hU t u ht hu e7 (by rw [b.2.2.1, b'.2.2.1]) (by rw [b.2.2.2, b'.2.2.2])
      · exact absurd (e7.trans a3'.1) (bs_45 b).2
      · exact absurd (e7.trans a3'.1) (bs_45 b).1
    · rcases cu with ⟨b', -, -⟩ | ⟨a', a1', a2', a3', a4', -⟩ | ⟨a', b', a1', a2', b1', b2', a3', -⟩
      · exact absurd (e7.symm.trans a3.1) (bs_45 b').2
      · have : a = a' := ih a a' (by omega) a2 a2' (SHV_lt hW a2 a5).1 (by rw [← a4, ← a4', he])
        subst this
        exact hU t u ht hu e7 (by rw [a3.2.1, a3'.2.1]) (by rw [a3.2.2.1, a3'.2.2.1])
      · have := e7
        rw [a3.1, a3'.1] at this
        exact absurd this (by decide)
    · rcases cu with ⟨b', -, -⟩ | ⟨a', a1', a2', a3', a4', -⟩ | ⟨a', b', a1', a2', b1', b2', a3', a4', b4', -⟩
      · exact absurd (e7.symm.trans a3.1) (bs_45 b').1
      · have := e7
        rw [a3.1, a3'.1] at this
        exact absurd this (by decide)
      · have e1 : a = a' := ih a a' (by omega) a2 a2' (SHV_lt hW a2 a5).1 (by rw [← a4, ← a4', he])
        have e2 : b = b' := ih b b' (by omega) b2 b2' (SHV_lt hW b2 b5).1 (by rw [← b4, ← b4', he])
        subst e1 e2
        exact hU t u ht hu e7 (by rw [a3.2.1, a3'.2.1]) (by rw [a3.2.2.1, a3'.2.2.1])
/-- a numbered type's shape is the class's -/
theorem SHV_m {ml : mm_G} (hW : WTY NB TY w) (hT : TC NB w ml) : ∀ (k t : Nat), t < k → t < NB → SHV w t = ml 2 t := by
  intro k
  induction k with
  | zero => exact fun t q => absurd q (Nat.not_lt_zero _)
  | succ k ih =>
    intro t hk ht
    rcases hT.2.1 t ht with ⟨q1, q2⟩ | ⟨a, q1, q2, q3, q4⟩ | ⟨a, b, q1, q2, q3, q4, q5, q6⟩
    · exact Int64.toInt_inj.mp ((SHV_b q1).trans q2.symm)
    · rw [SHV_5 hW (.inl ht) (.inl q2) q1 q3, q4, ih a (by omega) q2]
    · rw [SHV_4 hW (.inl ht) (.inl q2) q1 (.inl q4) q3 q5, q6, ih a (by omega) q2, ih b (by omega) q4]
theorem SHV_ml {ml : mm_G} {t : Nat} (hW : WTY NB TY w) (hT : TC NB w ml) (ht : t < NB) : SHV w t = ml 2 t := SHV_m hW hT (t + 1) t (Nat.lt_succ_self t) ht
/-- a closed type stays -/
theorem wl_closed {ml : mm_G} {A B : Int64} (hD : DN NB w) (hT : TC NB w ml) : ∀ (k j x : Nat), k ≤ j → x < NB → (w 180 x).toInt ≤ (k : Int) + 1 → w 181 x = 0 → w 182 x = 0 → f_wl (j + 1) (ml 2 x) A B = ml 2 x := by
  have hs : ∀ (j : Nat) (t : Int64), f_wl (j + 1) t A B = if f_kd t = 2 then A else if f_kd t = 3 then B else if f_kd t = 4 then f_pr (f_wl j (f_fs t) A B) (f_wl j (f_sc t) A B) else if f_kd t = 5 then f_ls (f_wl j (f_fs t) A B) else t := fun _ _ => rfl
  intro k
  induction k with
  | zero =>
    intro j x hj hx hd ha hb
    obtain ⟨kx, cx⟩ := SH_k hD hT hx
    rw [hs, kx]
    rcases cx with ⟨-, -, -, -, -, -, b⟩ | ⟨a, a1, a2, a3, -, -, a5⟩ | ⟨a, b, a1, a2, b1, b2, a3, -, -, a5, b5⟩
    · rcases b.1 with ⟨s, s2, s3, -⟩ | ⟨s, s2, s3, -⟩ | ⟨s, s2, s3, -⟩ | ⟨s, s2, s3, -⟩
      · rw [s]; rfl
      · rw [s]; rfl
      · rw [s2] at ha; exact absurd ha (by decide)
      · rw [s3] at hb; exact absurd hb (by decide)
    · have := hD a a2
      rw [a3.2.2.2.1, mm_1p (by omega) (by omega)] at hd
      omega
    · have da := hD a a2
      have db := hD b b2
      obtain ⟨⟨m1, m2⟩, m3, m4⟩ := f_most_r (x := w 180 a) (y := w 180 b) (lo := 1) (hi := 5) da.1 db.1
      rw [a3.2.2.2.1, mm_1p (by omega) (by omega)] at hd
      omega
  | succ k ih =>
    intro j x hj hx hd ha hb
    cases j with
    | zero => omega
    | succ j =>
      obtain ⟨kx, cx⟩ := SH_k hD hT hx
      rw [hs, kx]
      rcases cx with ⟨-, -, -, -, -, -, b⟩ | ⟨a, a1, a2, a3, a4, -, a5⟩ | ⟨a, b, a1, a2, b1, b2, a3, a4, b4, a5, b5⟩
      · rcases b.1 with ⟨s, s2, s3, -⟩ | ⟨s, s2, s3, -⟩ | ⟨s, s2, s3, -⟩ | ⟨s, s2, s3, -⟩
        · rw [s]; rfl
        · rw [s]; rfl
        · rw [s2] at ha; exact absurd ha (by decide)
        · rw [s3] at hb; exact absurd hb (by decide)
      · have da := hD a a2
        rw [a3.2.2.2.1, mm_1p (by omega) (by omega)] at hd
        have za : w 181 a = 0 := by
          by_cases c : w 181 a = 0
          · exact c
          · exact absurd (by rw [← a3.2.2.2.2.1]; exact ha) (f_under_0 da.2.1.1 da.2.1.2 c)
        have zb : w 182 a = 0 := by
          by_cases c : w 182 a = 0
          · exact c
          · exact absurd (by rw [← a3.2.2.2.2.2.1]; exact hb) (f_under_0 da.2.2.1 da.2.2.2 c)
        rw [a3.1, if_neg (by decide), if_neg (by decide), if_neg (by decide), if_pos rfl, a4, ih j a (by omega) a2 (by omega) za zb]
        rcases hT.2.1 x hx with ⟨q1, q2⟩ | ⟨a', q1, q2, q3, q4⟩ | ⟨a', b', q1, q2, q3, q4, q5, q6⟩
        · exact absurd a3.1 (bs_45 q1).2
        · have hNB : (200 : Nat) ≤ 200 := Nat.le_refl _
          have e := f_ls_ok (SH_4 hD hT q2 (by
            have da' := hD a' q2
            have dx := (hD x hx).1
            rw [q3.2.2.2.1, mm_1p (by omega) (by omega)] at dx
            omega))
          have e2 := e.2.2.1
          rw [← q4, a4] at e2
          rw [q4, e2]
        · have := q5.1
          rw [a3.1] at this
          exact absurd this (by decide)
      · have da := hD a a2
        have db := hD b b2
        obtain ⟨⟨m1, m2⟩, m3, m4⟩ := f_most_r (x := w 180 a) (y := w 180 b) (lo := 1) (hi := 5) da.1 db.1
        rw [a3.2.2.2.1, mm_1p (by omega) (by omega)] at hd
        have hA : ¬ (¬ w 181 a = 0 ∨ ¬ w 181 b = 0) := fun z => by
          obtain ⟨⟨g1, g2⟩, -⟩ := f_most_r da.2.1 db.2.1
          exact absurd (by rw [← a3.2.2.2.2.1]; exact ha) (f_under_0 g1 g2 (f_most_0 da.2.1.1 db.2.1.1 z))
        have hB : ¬ (¬ w 182 a = 0 ∨ ¬ w 182 b = 0) := fun z => by
          obtain ⟨⟨g1, g2⟩, -⟩ := f_most_r da.2.2 db.2.2
          exact absurd (by rw [← a3.2.2.2.2.2.1]; exact hb) (f_under_0 g1 g2 (f_most_0 da.2.2.1 db.2.2.1 z))
        have h1 : w 181 a = 0 := Classical.byContradiction fun z => hA (.inl z)
        have h2 : w 181 b = 0 := Classical.byContradiction fun z => hA (.inr z)
        have h3 : w 182 a = 0 := Classical.byContradiction fun z => hB (.inl z)
        have h4 : w 182 b = 0 := Classical.byContradiction fun z => hB (.inr z)
        rw [a3.1, if_neg (by decide), if_neg (by decide), if_pos rfl, a4, b4, ih j a (by omega) a2 (by omega) h1 h3, ih j b (by omega) b2 (by omega) h2 h4]
        rcases hT.2.1 x hx with ⟨q1, q2⟩ | ⟨a', q1, q2, q3, q4⟩ | ⟨a', b', q1, q2, q3, q4, q5, q6⟩
        · exact absurd a3.1 (bs_45 q1).1
        · have := q3.1
          rw [a3.1] at this
          exact absurd this (by decide)
        · have da' := hD a' q2
          have db' := hD b' q4
          obtain ⟨⟨m1', m2'⟩, m3', m4'⟩ := f_most_r (x := w 180 a') (y := w 180 b') (lo := 1) (hi := 5) da'.1 db'.1
          have dx := (hD x hx).1
          rw [q5.2.2.2.1, mm_1p (by omega) (by omega)] at dx
          have e := f_pr_ok (SH_4 hD hT q2 (by omega)) (SH_4 hD hT q4 (by omega))
          have e2 := e.2.2.1
          have e3 := e.2.2.2.1
          rw [← q6, a4] at e2
          rw [← q6, b4] at e3
          rw [q6, e2, e3]
/-- the letters filled in: the shape is the class's -/
theorem wl_SB {ml : mm_G} {A B : Int64} {fa fb : Int32} (hW : WTY NB TY w) (hD : DN NB w) (hT : TC NB w ml) (hA : ∀ r, vd NB TY r → nI r = fa → SHV w r = A) (hB : ∀ r, vd NB TY r → nI r = fb → SHV w r = B) : ∀ (k j x r : Nat), k ≤ j → x < NB → vd NB TY r → (w 180 x).toInt ≤ (k : Int) + 1 → SB NB TY w fa fb k x r → SHV w r = f_wl (j + 1) (ml 2 x) A B := by
  have hs : ∀ (j : Nat) (t : Int64), f_wl (j + 1) t A B = if f_kd t = 2 then A else if f_kd t = 3 then B else if f_kd t = 4 then f_pr (f_wl j (f_fs t) A B) (f_wl j (f_sc t) A B) else if f_kd t = 5 then f_ls (f_wl j (f_fs t) A B) else t := fun _ _ => rfl
  have hleaf : ∀ (k j x r : Nat), k ≤ j → x < NB → vd NB TY r → (w 180 x).toInt ≤ (k : Int) + 1 → SB NB TY w fa fb 0 x r → SHV w r = f_wl (j + 1) (ml 2 x) A B := by
    intro k j x r hj hx hr hd hsb
    unfold SB at hsb
    rcases hsb with ⟨q1, q2⟩ | ⟨-, q2, q3⟩ | ⟨-, q2, q3⟩
    · have dx := hD x hx
      have z := (sum_le dx.2.1 dx.2.2).mp (by rw [q1]; exact Int32.le_refl _)
      rw [q2, SHV_ml hW hT hx, wl_closed hD hT k j x hj hx hd z.1 z.2]
    · rw [hs, (SH_k hD hT hx).1, if_pos q2]
      exact hA r hr q3
    · rw [hs, (SH_k hD hT hx).1, q2, if_neg (by decide), if_pos rfl]
      exact hB r hr q3
  intro k
  induction k with
  | zero => exact fun j x r hj hx hr hd hsb => hleaf 0 j x r hj hx hr hd hsb
  | succ k ih =>
    intro j x r hj hx hr hd hsb
    unfold SB at hsb
    rcases hsb with q | ⟨q1, q2, a, r1, q3, q4, q5, q6, q7, q8⟩ | ⟨q1, q2, a, b, r1, r2, q3, q4, q5, q6, q7, q8, q9, q10, q11, q12, q13⟩
    · exact hleaf (k + 1) j x r hj hx hr hd (by unfold SB; exact q)
    · cases j with
      | zero => omega
      | succ j =>
        obtain ⟨kx, cx⟩ := SH_k hD hT hx
        have hNB := hW.1
        rcases cx with ⟨-, n5, -⟩ | ⟨a', a1, a2, a3, a4, -, a5⟩ | ⟨a', b', a1, a2, b1, b2, a3, -⟩
        · exact absurd q2 n5
        · have e := a3.2.1
          rw [q4] at e
          have := nI_inj (by omega) (by omega) e
          subst this
          have da := hD a a2
          rw [a3.2.2.2.1, mm_1p (by omega) (by omega)] at hd
          have hi := ih j a r1 (by omega) a2 q5 (by omega) q8
          rw [hs, kx, q2, if_neg (by decide), if_neg (by decide), if_neg (by decide), if_pos rfl, a4, ← hi]
          have hr8 := vd_lt hr hW.1 hW.2.1
          have hr18 := vd_lt q5 hW.1 hW.2.1
          rcases hW.2.2 r hr with z | ⟨c, z1, z2, z3⟩ | ⟨c, c', z1, z2, z3, z4, z5⟩
          · exact absurd q6 (bs_45 z).2
          · have e := z3.2.1
            rw [q7] at e
            have hc8 := vd_lt z1 hW.1 hW.2.1
            have := nI_inj (by omega) (by omega) e
            subst this
            exact SHV_5 hW hr z1 z2 z3
          · have := z5.1
            rw [q6] at this
            exact absurd this (by decide)
        · have := a3.1
          rw [q2] at this
          exact absurd this (by decide)
    · cases j with
      | zero => omega
      | succ j =>
        obtain ⟨kx, cx⟩ := SH_k hD hT hx
        have hNB := hW.1
        rcases cx with ⟨n4, -⟩ | ⟨a', a1, a2, a3, -⟩ | ⟨a', b', a1, a2, b1, b2, a3, a4, b4, a5, b5⟩
        · exact absurd q2 n4
        · have := a3.1
          rw [q2] at this
          exact absurd this (by decide)
        · have e := a3.2.1
          rw [q5] at e
          have e1 := nI_inj (by omega) (by omega) e
          have e' := a3.2.2.1
          rw [q6] at e'
          have e2 := nI_inj (by omega) (by omega) e'
          subst e1 e2
          have da := hD a a2
          have db := hD b b2
          obtain ⟨⟨m1, m2⟩, m3, m4⟩ := f_most_r (x := w 180 a) (y := w 180 b) (lo := 1) (hi := 5) da.1 db.1
          rw [a3.2.2.2.1, mm_1p (by omega) (by omega)] at hd
          have hi := ih j a r1 (by omega) a2 q7 (by omega) q12
          have hi2 := ih j b r2 (by omega) b2 q8 (by omega) q13
          rw [hs, kx, q2, if_neg (by decide), if_neg (by decide), if_pos rfl, a4, b4, ← hi, ← hi2]
          have hr8 := vd_lt hr hW.1 hW.2.1
          have hr18 := vd_lt q7 hW.1 hW.2.1
          have hr28 := vd_lt q8 hW.1 hW.2.1
          rcases hW.2.2 r hr with z | ⟨c, z1, z2, z3⟩ | ⟨c, c', z1, z2, z3, z4, z5⟩
          · exact absurd q9 (bs_45 z).1
          · have := z3.1
            rw [q9] at this
            exact absurd this (by decide)
          · have e := z5.2.1
            rw [q10] at e
            have e' := z5.2.2.1
            rw [q11] at e'
            have hc8 := vd_lt z1 hW.1 hW.2.1
            have hc8' := vd_lt z3 hW.1 hW.2.1
            have e1 := nI_inj (by omega) (by omega) e
            have e2 := nI_inj (by omega) (by omega) e'
            subst e1 e2
            exact SHV_4 hW hr z1 z2 z3 z4 z5
end MSV
