/-! ===== what nodes mean, over any meaning of types ===== -/
abbrev ALG (α : Type) : Type := (α → α → α) × (α → α) × α × α
section NALG
variable {α : Type} {G : ALG α}
def GV (G : ALG α) (w : mm_P) (SA SB : α) : Nat → Nat → α
  | 0, _ => G.2.2.1
  | k + 1, t => if w 177 t = 4 then G.1 (GV G w SA SB k (w 178 t).toNatClampNeg) (GV G w SA SB k (w 179 t).toNatClampNeg) else if w 177 t = 5 then G.2.1 (GV G w SA SB k (w 178 t).toNatClampNeg) else if w 177 t = 2 then SA else if w 177 t = 3 then SB else (if w 177 t = 1 then G.2.2.2 else G.2.2.1)
/-- the values of type t of the rows of w, of SA for A and SB for B -/
def GVt (G : ALG α) (w : mm_P) (SA SB : α) (t : Nat) : α := GV G w SA SB (t + 1) t
theorem GV_s4 {w : mm_P} {SA SB : α} {k t a b : Nat} (h : w 177 t = 4) (ha : w 178 t = nI a) (hb : w 179 t = nI b) (la : a < 2 ^ 31) (lb : b < 2 ^ 31) : GV G w SA SB (k + 1) t = G.1 (GV G w SA SB k a) (GV G w SA SB k b) := by
  conv => lhs; unfold GV
  rw [if_pos h, ha, hb, nI_clamp la, nI_clamp lb]
theorem GV_s5 {w : mm_P} {SA SB : α} {k t a : Nat} (h : w 177 t = 5) (ha : w 178 t = nI a) (la : a < 2 ^ 31) : GV G w SA SB (k + 1) t = G.2.1 (GV G w SA SB k a) := by
  conv => lhs; unfold GV
  rw [h, if_neg (by decide), if_pos rfl, ha, nI_clamp la]
theorem GV_s {w : mm_P} {SA SB : α} {k t : Nat} (h4 : ¬ w 177 t = 4) (h5 : ¬ w 177 t = 5) : GV G w SA SB (k + 1) t = if w 177 t = 2 then SA else if w 177 t = 3 then SB else (if w 177 t = 1 then G.2.2.2 else G.2.2.1) := by
  conv => lhs; unfold GV
  rw [if_neg h4, if_neg h5]
theorem GV_f {NB TY : Nat} {w : mm_P} {SA SB : α} (hT : TW NB TY w) : ∀ (k k' t : Nat), t < k → t < k' → vd NB TY t → GV G w SA SB k t = GV G w SA SB k' t
  | 0, _, _, h, _, _ => absurd h (Nat.not_lt_zero _)
  | _ + 1, 0, _, _, h, _ => absurd h (Nat.not_lt_zero _)
  | k + 1, k' + 1, t, h1, h2, hv => by
    have ht8 := TW_lt hT hv
    rcases hT.2.2 t hv with q | ⟨a, q1, q2, q3⟩ | ⟨a, b, q1, q2, q3, q4, q5⟩
    · obtain ⟨e4, e5⟩ := bs_45 q
      rw [GV_s e4 e5, GV_s e4 e5]
    · rw [GV_s5 q3.1 q3.2.1 (by omega), GV_s5 q3.1 q3.2.1 (by omega), GV_f hT k k' a (by omega) (by omega) q1]
    · rw [GV_s4 q5.1 q5.2.1 q5.2.2.1 (by omega) (by omega), GV_s4 q5.1 q5.2.1 q5.2.2.1 (by omega) (by omega), GV_f hT k k' a (by omega) (by omega) q1, GV_f hT k k' b (by omega) (by omega) q3]
theorem GVt_4 {NB TY t : Nat} {w : mm_P} {SA SB : α} (hT : TW NB TY w) (hv : vd NB TY t) (h4 : w 177 t = 4) : ∃ a b, vd NB TY a ∧ vd NB TY b ∧ a < t ∧ b < t ∧ w 178 t = nI a ∧ w 179 t = nI b ∧ GVt G w SA SB t = G.1 (GVt G w SA SB a) (GVt G w SA SB b) ∧ en4 w w t a b := by
  have ht8 := TW_lt hT hv
  rcases hT.2.2 t hv with q | ⟨a, q1, q2, q3⟩ | ⟨a, b, q1, q2, q3, q4, q5⟩
  · exact absurd h4 (bs_45 q).1
  · have := q3.1
    rw [h4] at this
    exact absurd this (by decide)
  · refine ⟨a, b, q1, q3, q2, q4, q5.2.1, q5.2.2.1, ?_, q5⟩
    unfold GVt
    rw [GV_s4 q5.1 q5.2.1 q5.2.2.1 (by omega) (by omega), GV_f hT t (a + 1) a q2 (by omega) q1, GV_f hT t (b + 1) b q4 (by omega) q3]
theorem GVt_5 {NB TY t : Nat} {w : mm_P} {SA SB : α} (hT : TW NB TY w) (hv : vd NB TY t) (h5 : w 177 t = 5) : ∃ a, vd NB TY a ∧ a < t ∧ w 178 t = nI a ∧ GVt G w SA SB t = G.2.1 (GVt G w SA SB a) ∧ en5 w w t a := by
  have ht8 := TW_lt hT hv
  rcases hT.2.2 t hv with q | ⟨a, q1, q2, q3⟩ | ⟨a, b, q1, q2, q3, q4, q5⟩
  · exact absurd h5 (bs_45 q).2
  · refine ⟨a, q1, q2, q3.2.1, ?_, q3⟩
    unfold GVt
    rw [GV_s5 q3.1 q3.2.1 (by omega), GV_f hT t (a + 1) a q2 (by omega) q1]
  · have := q5.1
    rw [h5] at this
    exact absurd this (by decide)
theorem GVt_2 {t : Nat} {w : mm_P} {SA SB : α} (h : w 177 t = 2) : GVt G w SA SB t = SA := by
  unfold GVt
  rw [GV_s (by rw [h]; decide) (by rw [h]; decide), if_pos h]
theorem GVt_3 {t : Nat} {w : mm_P} {SA SB : α} (h : w 177 t = 3) : GVt G w SA SB t = SB := by
  unfold GVt
  rw [GV_s (by rw [h]; decide) (by rw [h]; decide), if_neg (by rw [h]; decide), if_pos h]
/-- the numbered types mean the same where their rows are the same -/
theorem GV_c {NB : Nat} {m w : mm_P} {SA SB : α} (hT : TW NB 200 m) (hr : ∀ t, t < NB → ∀ c, 177 ≤ c → c ≤ 183 → w c t = m c t) : ∀ (k t : Nat), t < NB → GV G w SA SB k t = GV G m SA SB k t
  | 0, _, _ => rfl
  | k + 1, t, ht => by
    have hN := hT.1
    have e7 := hr t ht 177 (by decide) (by decide)
    have e8 := hr t ht 178 (by decide) (by decide)
    have e9 := hr t ht 179 (by decide) (by decide)
    rcases hT.2.2 t (.inl ht) with q | ⟨a, q1, q2, q3⟩ | ⟨a, b, q1, q2, q3, q4, q5⟩
    · obtain ⟨e4, e5⟩ := bs_45 q
      rw [GV_s e4 e5, GV_s (by rw [e7]; exact e4) (by rw [e7]; exact e5), e7]
    · rw [GV_s5 q3.1 q3.2.1 (by omega), GV_s5 (e7.trans q3.1) (e8.trans q3.2.1) (by omega), GV_c hT hr k a (by omega)]
    · rw [GV_s4 q5.1 q5.2.1 q5.2.2.1 (by omega) (by omega), GV_s4 (e7.trans q5.1) (e8.trans q5.2.1) (e9.trans q5.2.2.1) (by omega) (by omega), GV_c hT hr k a (by omega), GV_c hT hr k b (by omega)]
theorem GVt_c {NB t : Nat} {m w : mm_P} {SA SB : α} (hT : TW NB 200 m) (hr : ∀ t, t < NB → ∀ c, 177 ≤ c → c ≤ 183 → w c t = m c t) (ht : t < NB) : GVt G w SA SB t = GVt G m SA SB t := GV_c hT hr _ t ht
theorem GV_cl {NB : Nat} {m : mm_P} {SA SB SA' SB' : α} (hN : NB ≤ 200) (hT : ∀ t, t < NB → ∃ TY, 200 ≤ TY ∧ wT NB TY m t) (hD : DN NB m) : ∀ (k t : Nat), t < NB → m 181 t = 0 → m 182 t = 0 → GV G m SA SB k t = GV G m SA' SB' k t
  | 0, _, _, _, _ => rfl
  | k + 1, t, ht, h1, h2 => by
    obtain ⟨TY, hTY, hw⟩ := hT t ht
    rcases hw with q | ⟨a, q1, q2, q3⟩ | ⟨a, b, q1, q2, q3, q4, q5⟩
    · obtain ⟨e4, e5⟩ := bs_45 q
      rw [GV_s e4 e5, GV_s e4 e5]
      have n2 : ¬ m 177 t = 2 := by rcases bs_cl q h1 h2 with e | e <;> (rw [e]; decide)
      have n3 : ¬ m 177 t = 3 := by rcases bs_cl q h1 h2 with e | e <;> (rw [e]; decide)
      rw [if_neg n2, if_neg n3, if_neg n2, if_neg n3]
    · obtain ⟨c1, c2⟩ := cl_5 hD (by omega) q3 h1 h2
      rw [GV_s5 q3.1 q3.2.1 (by omega), GV_s5 q3.1 q3.2.1 (by omega), GV_cl hN hT hD k a (by omega) c1 c2]
    · obtain ⟨⟨c1, c2⟩, c3, c4⟩ := cl_4 hD (by omega) (by omega) q5 h1 h2
      rw [GV_s4 q5.1 q5.2.1 q5.2.2.1 (by omega) (by omega), GV_s4 q5.1 q5.2.1 q5.2.2.1 (by omega) (by omega), GV_cl hN hT hD k a (by omega) c1 c2, GV_cl hN hT hD k b (by omega) c3 c4]
/-- what put() makes of a type means what the type means with the meanings of these for its letters -/
theorem SB_gem {NB TY : Nat} {n : mm_P} {fa fb : Int32} {SA SB' : α} (hT : TW NB TY n) (h200 : 200 ≤ TY) (hD : DN NB n) : ∀ (k x r : Nat), x < NB → vd NB TY r → SB NB TY n fa fb k x r → GVt G n SA SB' r = GVt G n (GVt G n SA SB' fa.toNatClampNeg) (GVt G n SA SB' fb.toNatClampNeg) x := by
  have hleaf : ∀ (x r : Nat), x < NB → vd NB TY r → ((n 181 x + n 182 x = 0 ∧ r = x) ∨ (¬ n 181 x + n 182 x = 0 ∧ n 177 x = 2 ∧ nI r = fa) ∨ (¬ n 181 x + n 182 x = 0 ∧ n 177 x = 3 ∧ nI r = fb)) → GVt G n SA SB' r = GVt G n (GVt G n SA SB' fa.toNatClampNeg) (GVt G n SA SB' fb.toNatClampNeg) x := fun x r hx hr h => by
    have hr8 := TW_lt hT hr
    have d := hD x hx
    rcases h with ⟨q1, q2⟩ | ⟨-, q2, q3⟩ | ⟨-, q2, q3⟩
    · subst q2
      obtain ⟨e1, e2⟩ := sum_z d.2.1 d.2.2 q1
      exact GV_cl hT.1 (fun t ht => ⟨TY, h200, hT.2.2 t (.inl ht)⟩) hD _ r hx e1 e2
    · rw [GVt_2 q2, ← q3, nI_clamp (by omega)]
    · rw [GVt_3 q2, ← q3, nI_clamp (by omega)]
  intro k
  induction k with
  | zero => exact fun x r hx hr h => hleaf x r hx hr h
  | succ k ih =>
    intro x r hx hr h
    have hN := hT.1
    unfold SB at h
    rcases h with q | ⟨-, q2, a, r1, q3, q4, q5, q6, q7, q8⟩ | ⟨-, q2, a, b, r1, r2, q3, q4, q5, q6, q7, q8, q9, q10, q11, q12, q13⟩
    · exact hleaf x r hx hr q
    · obtain ⟨a', a1, a2, a3, a4, -⟩ := GVt_5 (SA := GVt G n SA SB' fa.toNatClampNeg) (SB := GVt G n SA SB' fb.toNatClampNeg) hT (.inl hx) q2
      have ea : a' = a := nI_ij (by omega) (by omega) (a3.symm.trans q4)
      subst ea
      obtain ⟨b', b1, b2, b3, b4, -⟩ := GVt_5 (SA := SA) (SB := SB') hT hr q6
      have l1 := TW_lt hT b1
      have l2 := TW_lt hT q5
      have eb : b' = r1 := nI_ij (by omega) (by omega) (b3.symm.trans q7)
      subst eb
      rw [a4, b4, ih a' b' (by omega) b1 q8]
    · obtain ⟨a', c', a1, a2, a3, a4, a5, a6, a7, -⟩ := GVt_4 (SA := GVt G n SA SB' fa.toNatClampNeg) (SB := GVt G n SA SB' fb.toNatClampNeg) hT (.inl hx) q2
      have ea : a' = a := nI_ij (by omega) (by omega) (a5.symm.trans q5)
      have ec : c' = b := nI_ij (by omega) (by omega) (a6.symm.trans q6)
      subst ea ec
      obtain ⟨b', e', b1, b2, b3, b4, b5, b6, b7, -⟩ := GVt_4 (SA := SA) (SB := SB') hT hr q9
      have l1 := TW_lt hT b1
      have l2 := TW_lt hT q7
      have l3 := TW_lt hT b2
      have l4 := TW_lt hT q8
      have eb : b' = r1 := nI_ij (by omega) (by omega) (b5.symm.trans q10)
      have ee : e' = r2 := nI_ij (by omega) (by omega) (b6.symm.trans q11)
      subst eb ee
      rw [a7, b7, ih a' b' (by omega) b1 q12, ih c' e' (by omega) b2 q13]
theorem GVt_0 {t : Nat} {w : mm_P} {SA SB : α} (h : w 177 t = 0) : GVt G w SA SB t = G.2.2.1 := by
  unfold GVt
  rw [GV_s (by rw [h]; decide) (by rw [h]; decide), if_neg (by rw [h]; decide), if_neg (by rw [h]; decide), if_neg (by rw [h]; decide)]
theorem GVt_1 {t : Nat} {w : mm_P} {SA SB : α} (h : w 177 t = 1) : GVt G w SA SB t = G.2.2.2 := by
  unfold GVt
  rw [GV_s (by rw [h]; decide) (by rw [h]; decide), if_neg (by rw [h]; decide), if_neg (by rw [h]; decide), if_pos h]
/-- the values of the node that x names -/
def NG (G : ALG α) (wf : mm_P) (SA SB : α) (x : Int32) : α := GVt G wf SA SB (wf 198 x.toNatClampNeg).toNatClampNeg
variable {NB ND NF f n TY : Nat} {m wf : mm_P} {SA SB : α}
theorem ngn {r : Nat} (h : wf 198 n = nI r) (hr : r < 2 ^ 31) (hn : n < 2 ^ 31) : NG G wf SA SB (nI n) = GVt G wf SA SB r := by
  unfold NG
  rw [nI_clamp hn, h, nI_clamp hr]
theorem ngx {v x : Int32} (h : v = wf 198 x.toNatClampNeg) : NG G wf SA SB x = GVt G wf SA SB v.toNatClampNeg := by
  unfold NG
  rw [h]
theorem ng_z (hI : IM m NB ND NF) (hA : AC NB ND NF m f wf TY) (hn : IB ND m f n) (hk : m 188 n = 0 ∨ m 188 n = 3) : NG G wf SA SB (nI n) = G.2.2.1 := by
  obtain ⟨n1, r, r1, r2, r3⟩ := node_ty hI hA hn
  have hND := hI.1.2.1
  have hr8 := TW_lt (TW_S hA.2.2.2.2.1) r2
  obtain ⟨a0, -⟩ := hI.2.2.2.2.2.2
  have hN4 := hI.1.1.1
  rw [ngn r1 (by omega) (by omega)]
  have hr : r = 0 := by
    unfold NTy at r3
    rw [AC_r hA (c := 188) (by decide) (by decide)] at r3
    rcases hk with k | k <;> rw [k] at r3 <;> rcases r3 with q | q | q | q | q | q | q | q | q | q | q | q | q | q | q
    all_goals first
      | exact absurd q.1 (by decide)
      | exact q.2
      | exact q.2.2.2
  refine GVt_0 ?_
  rw [hr, AC_t hI hA (by omega) (by decide) (by decide)]
  exact a0
theorem ng_o (hI : IM m NB ND NF) (hA : AC NB ND NF m f wf TY) (hn : IB ND m f n) (hk : m 188 n = 1 ∨ m 188 n = 4 ∨ m 188 n = 11) : NG G wf SA SB (nI n) = G.2.2.2 := by
  obtain ⟨n1, r, r1, r2, r3⟩ := node_ty hI hA hn
  have hND := hI.1.2.1
  have hr8 := TW_lt (TW_S hA.2.2.2.2.1) r2
  obtain ⟨-, a1, -⟩ := hI.2.2.2.2.2.2
  have hN4 := hI.1.1.1
  rw [ngn r1 (by omega) (by omega)]
  have hr : r = 1 := by
    unfold NTy at r3
    rw [AC_r hA (c := 188) (by decide) (by decide)] at r3
    rcases hk with k | k | k <;> rw [k] at r3 <;> rcases r3 with q | q | q | q | q | q | q | q | q | q | q | q | q | q | q
    all_goals first
      | exact absurd q.1 (by decide)
      | exact q.2
      | exact q.2.2.2
      | exact q.2.1
  refine GVt_1 ?_
  rw [hr, AC_t hI hA (by omega) (by decide) (by decide)]
  exact a1
/-- the parts of ADD and LESS are INT -/
theorem ng_34 (hI : IM m NB ND NF) (hA : AC NB ND NF m f wf TY) (hn : IB ND m f n) (hk : m 188 n = 3 ∨ m 188 n = 4) : NG G wf SA SB (m 189 n) = G.2.2.1 ∧ NG G wf SA SB (m 190 n) = G.2.2.1 := by
  obtain ⟨n1, r, r1, r2, r3⟩ := node_ty hI hA hn
  obtain ⟨a0, -⟩ := hI.2.2.2.2.2.2
  have hN4 := hI.1.1.1
  have h2 : 2 ≤ (f_parts (m 188 n)).toInt := by rcases hk with k | k <;> (rw [k]; decide)
  have hk14 : ¬ m 188 n = 14 := by rcases hk with k | k <;> (rw [k]; decide)
  have t0 := tp0 hA hk14 (by omega)
  have t1 := tp1 hA hk14 h2
  have hv : tpv wf n 0 = 0 ∧ tpv wf n 1 = 0 := by
    unfold NTy at r3
    rw [AC_r hA (c := 188) (by decide) (by decide)] at r3
    rcases hk with k | k <;> rw [k] at r3 <;> rcases r3 with q | q | q | q | q | q | q | q | q | q | q | q | q | q | q
    all_goals first
      | exact absurd q.1 (by decide)
      | exact ⟨q.2.1, q.2.2.1⟩
  have hz : GVt G wf SA SB ((0 : Int32).toNatClampNeg) = G.2.2.1 := GVt_0 ((AC_t hI hA (show (0 : Nat) < NB by omega) (by decide) (by decide)).trans a0)
  rw [ngx t0, ngx t1, hv.1, hv.2]
  exact ⟨hz, hz⟩
/-- IF's first part is a TRUTH -/
theorem ng_5c (hI : IM m NB ND NF) (hA : AC NB ND NF m f wf TY) (hn : IB ND m f n) (hk : m 188 n = 5) : NG G wf SA SB (m 189 n) = G.2.2.2 := by
  obtain ⟨n1, r, r1, r2, r3⟩ := node_ty hI hA hn
  obtain ⟨-, a1, -⟩ := hI.2.2.2.2.2.2
  have hN4 := hI.1.1.1
  have h2 : 1 ≤ (f_parts (m 188 n)).toInt := by rw [hk]; decide
  have t0 := tp0 hA (by rw [hk]; decide) h2
  have hv : tpv wf n 0 = 1 := by
    unfold NTy at r3
    rw [AC_r hA (c := 188) (by decide) (by decide), hk] at r3
    rcases r3 with q | q | q | q | q | q | q | q | q | q | q | q | q | q | q
    all_goals first
      | exact absurd q.1 (by decide)
      | exact q.2.1
  rw [ngx t0, hv]
  exact GVt_1 ((AC_t hI hA (show (1 : Nat) < NB by omega) (by decide) (by decide)).trans a1)
theorem ng_2 (hI : IM m NB ND NF) (hA : AC NB ND NF m f wf TY) (hn : IB ND m f n) (hk : m 188 n = 2) : ∃ x, x < NB ∧ m 195 f = nI x ∧ NG G wf SA SB (nI n) = GVt G m SA SB x := by
  obtain ⟨n1, r, r1, r2, r3⟩ := node_ty hI hA hn
  have hND := hI.1.2.1
  have hNB := hI.1.1.2
  have hT := TW_S hA.2.2.2.2.1
  have hr8 := TW_lt hT r2
  obtain ⟨o1, ⟨x, o2, o3, o4⟩, o5, o6⟩ := hI.2.2.2.2.2.1 f hA.2.1
  unfold NTy at r3
  rw [AC_r hA (c := 188) (by decide) (by decide), hk] at r3
  rcases r3 with q | q | q | q | q | q | q | q | q | q | q | q | q | q | q
  all_goals first
    | exact absurd q.1 (by decide)
    | skip
  have e := q.2
  rw [AC_r hA (by decide) (by decide)] at e
  have ex : x = r := nI_ij (by omega) (by omega) (o3.symm.trans e)
  subst ex
  exact ⟨x, o2, o3, (ngn r1 (by omega) (by omega)).trans (GVt_c (TW_I hI) (fun t ht c a b => AC_t hI hA ht a b) o2)⟩
theorem ng_5 (hI : IM m NB ND NF) (hA : AC NB ND NF m f wf TY) (hn : IB ND m f n) (hk : m 188 n = 5) : NG G wf SA SB (m 190 n) = NG G wf SA SB (nI n) ∧ NG G wf SA SB (m 191 n) = NG G wf SA SB (nI n) := by
  obtain ⟨n1, r, r1, r2, r3⟩ := node_ty hI hA hn
  have hND := hI.1.2.1
  have hT := TW_S hA.2.2.2.2.1
  have hr8 := TW_lt hT r2
  have h3 : 3 ≤ (f_parts (m 188 n)).toInt := by rw [hk, f_parts_v.2.2.1]; decide
  have hk14 : ¬ m 188 n = 14 := by rw [hk]; decide
  have t1 := tp1 hA hk14 (by omega)
  have t2 := tp2 hA hk14 h3
  unfold NTy at r3
  rw [AC_r hA (c := 188) (by decide) (by decide), hk] at r3
  rcases r3 with q | q | q | q | q | q | q | q | q | q | q | q | q | q | q
  all_goals first
    | exact absurd q.1 (by decide)
    | skip
  obtain ⟨-, -, q2, q3⟩ := q
  rw [ngn r1 (by omega) (by omega), ngx t1, ngx t2, ← q2, q3, nI_clamp (by omega)]
  exact ⟨rfl, rfl⟩
theorem ng_6 (hI : IM m NB ND NF) (hA : AC NB ND NF m f wf TY) (hn : IB ND m f n) (hk : m 188 n = 6) : NG G wf SA SB (nI n) = G.1 (NG G wf SA SB (m 189 n)) (NG G wf SA SB (m 190 n)) := by
  obtain ⟨n1, r, r1, r2, r3⟩ := node_ty hI hA hn
  have hND := hI.1.2.1
  have hT := TW_S hA.2.2.2.2.1
  have hr8 := TW_lt hT r2
  have h2 : 2 ≤ (f_parts (m 188 n)).toInt := by rw [hk, f_parts_v.2.2.2.1]; decide
  have hk14 : ¬ m 188 n = 14 := by rw [hk]; decide
  have t0 := tp0 hA hk14 (by omega)
  have t1 := tp1 hA hk14 h2
  unfold NTy at r3
  rw [AC_r hA (c := 188) (by decide) (by decide), hk] at r3
  rcases r3 with q | q | q | q | q | q | q | q | q | q | q | q | q | q | q
  all_goals first
    | exact absurd q.1 (by decide)
    | skip
  obtain ⟨-, q1, q2, q3⟩ := q
  obtain ⟨a, b, a1, a2, a3, a4, a5, a6, a7, -⟩ := GVt_4 (SA := SA) (SB := SB) hT r2 q1
  rw [ngn r1 (by omega) (by omega), ngx t0, ngx t1, ← q2, ← q3, a5, a6, nI_clamp (by omega), nI_clamp (by omega)]
  exact a7
theorem ng_7 (hI : IM m NB ND NF) (hA : AC NB ND NF m f wf TY) (hn : IB ND m f n) (hk : m 188 n = 7) : ∃ R, NG G wf SA SB (m 189 n) = G.1 (NG G wf SA SB (nI n)) R := by
  obtain ⟨n1, r, r1, r2, r3⟩ := node_ty hI hA hn
  have hND := hI.1.2.1
  have hT := TW_S hA.2.2.2.2.1
  have hr8 := TW_lt hT r2
  have h2 : 1 ≤ (f_parts (m 188 n)).toInt := by rw [hk, f_parts_v.2.2.2.2.1]; decide
  have t0 := tp0 hA (by rw [hk]; decide) h2
  unfold NTy at r3
  rw [AC_r hA (c := 188) (by decide) (by decide), hk] at r3
  rcases r3 with q | q | q | q | q | q | q | q | q | q | q | q | q | q | q
  all_goals first
    | exact absurd q.1 (by decide)
    | skip
  obtain ⟨-, p, q1, q2, q3, q4⟩ := q
  have hp8 := TW_lt hT q2
  obtain ⟨a, b, a1, a2, a3, a4, a5, a6, a7, -⟩ := GVt_4 (SA := SA) (SB := SB) hT q2 q3
  have e : a = r := nI_ij (by omega) (by omega) (a5.symm.trans q4)
  subst e
  rw [ngn r1 (by omega) (by omega), ngx t0, q1, nI_clamp (by omega)]
  exact ⟨_, a7⟩
theorem ng_8 (hI : IM m NB ND NF) (hA : AC NB ND NF m f wf TY) (hn : IB ND m f n) (hk : m 188 n = 8) : ∃ R, NG G wf SA SB (m 189 n) = G.1 R (NG G wf SA SB (nI n)) := by
  obtain ⟨n1, r, r1, r2, r3⟩ := node_ty hI hA hn
  have hND := hI.1.2.1
  have hT := TW_S hA.2.2.2.2.1
  have hr8 := TW_lt hT r2
  have h2 : 1 ≤ (f_parts (m 188 n)).toInt := by rw [hk, f_parts_v.2.2.2.2.2.1]; decide
  have t0 := tp0 hA (by rw [hk]; decide) h2
  unfold NTy at r3
  rw [AC_r hA (c := 188) (by decide) (by decide), hk] at r3
  rcases r3 with q | q | q | q | q | q | q | q | q | q | q | q | q | q | q
  all_goals first
    | exact absurd q.1 (by decide)
    | skip
  obtain ⟨-, p, q1, q2, q3, q4⟩ := q
  have hp8 := TW_lt hT q2
  obtain ⟨a, b, a1, a2, a3, a4, a5, a6, a7, -⟩ := GVt_4 (SA := SA) (SB := SB) hT q2 q3
  have e : b = r := nI_ij (by omega) (by omega) (a6.symm.trans q4)
  subst e
  rw [ngn r1 (by omega) (by omega), ngx t0, q1, nI_clamp (by omega)]
  exact ⟨_, a7⟩
theorem ng_9 (hI : IM m NB ND NF) (hA : AC NB ND NF m f wf TY) (hn : IB ND m f n) (hk : m 188 n = 9) : ∃ R, NG G wf SA SB (nI n) = G.2.1 R := by
  obtain ⟨n1, r, r1, r2, r3⟩ := node_ty hI hA hn
  have hND := hI.1.2.1
  have hT := TW_S hA.2.2.2.2.1
  have hr8 := TW_lt hT r2
  unfold NTy at r3
  rw [AC_r hA (c := 188) (by decide) (by decide), hk] at r3
  rcases r3 with q | q | q | q | q | q | q | q | q | q | q | q | q | q | q
  all_goals first
    | exact absurd q.1 (by decide)
    | skip
  obtain ⟨a, a1, a2, a3, a4, -⟩ := GVt_5 (SA := SA) (SB := SB) hT r2 q.2.1
  rw [ngn r1 (by omega) (by omega)]
  exact ⟨_, a4⟩
theorem ng_10 (hI : IM m NB ND NF) (hA : AC NB ND NF m f wf TY) (hn : IB ND m f n) (hk : m 188 n = 10) : NG G wf SA SB (nI n) = G.2.1 (NG G wf SA SB (m 189 n)) ∧ NG G wf SA SB (m 190 n) = NG G wf SA SB (nI n) := by
  obtain ⟨n1, r, r1, r2, r3⟩ := node_ty hI hA hn
  have hND := hI.1.2.1
  have hT := TW_S hA.2.2.2.2.1
  have hr8 := TW_lt hT r2
  have h2 : 2 ≤ (f_parts (m 188 n)).toInt := by rw [hk, f_parts_v.2.2.2.2.2.2.2.1]; decide
  have hk14 : ¬ m 188 n = 14 := by rw [hk]; decide
  have t0 := tp0 hA hk14 (by omega)
  have t1 := tp1 hA hk14 h2
  unfold NTy at r3
  rw [AC_r hA (c := 188) (by decide) (by decide), hk] at r3
  rcases r3 with q | q | q | q | q | q | q | q | q | q | q | q | q | q | q
  all_goals first
    | exact absurd q.1 (by decide)
    | skip
  obtain ⟨-, q1, q2, q3⟩ := q
  obtain ⟨a, a1, a2, a3, a4, -⟩ := GVt_5 (SA := SA) (SB := SB) hT r2 q2
  rw [ngn r1 (by omega) (by omega), ngx t0, ngx t1, q1, ← q3, a3, nI_clamp (by omega), nI_clamp (by omega)]
  exact ⟨a4, rfl⟩
theorem ng_11 (hI : IM m NB ND NF) (hA : AC NB ND NF m f wf TY) (hn : IB ND m f n) (hk : m 188 n = 11) : ∃ R, NG G wf SA SB (m 189 n) = G.2.1 R := by
  obtain ⟨n1, r, r1, r2, r3⟩ := node_ty hI hA hn
  have hND := hI.1.2.1
  have hT := TW_S hA.2.2.2.2.1
  have h2 : 1 ≤ (f_parts (m 188 n)).toInt := by rw [hk, f_parts_v.2.2.2.2.2.2.2.2.1]; decide
  have t0 := tp0 hA (by rw [hk]; decide) h2
  unfold NTy at r3
  rw [AC_r hA (c := 188) (by decide) (by decide), hk] at r3
  rcases r3 with q | q | q | q | q | q | q | q | q | q | q | q | q | q | q
  all_goals first
    | exact absurd q.1 (by decide)
    | skip
  obtain ⟨-, -, p, q1, q2, q3⟩ := q
  have hp8 := TW_lt hT q2
  obtain ⟨a, a1, a2, a3, a4, -⟩ := GVt_5 (SA := SA) (SB := SB) hT q2 q3
  rw [ngx t0, q1, nI_clamp (by omega)]
  exact ⟨_, a4⟩
theorem ng_12 (hI : IM m NB ND NF) (hA : AC NB ND NF m f wf TY) (hn : IB ND m f n) (hk : m 188 n = 12) : NG G wf SA SB (m 189 n) = G.2.1 (NG G wf SA SB (nI n)) := by
  obtain ⟨n1, r, r1, r2, r3⟩ := node_ty hI hA hn
  have hND := hI.1.2.1
  have hT := TW_S hA.2.2.2.2.1
  have hr8 := TW_lt hT r2
  have h2 : 1 ≤ (f_parts (m 188 n)).toInt := by rw [hk, f_parts_v.2.2.2.2.2.2.2.2.2.1]; decide
  have t0 := tp0 hA (by rw [hk]; decide) h2
  unfold NTy at r3
  rw [AC_r hA (c := 188) (by decide) (by decide), hk] at r3
  rcases r3 with q | q | q | q | q | q | q | q | q | q | q | q | q | q | q
  all_goals first
    | exact absurd q.1 (by decide)
    | skip
  obtain ⟨-, p, q1, q2, q3, q4⟩ := q
  have hp8 := TW_lt hT q2
  obtain ⟨a, a1, a2, a3, a4, -⟩ := GVt_5 (SA := SA) (SB := SB) hT q2 q3
  have e : a = r := nI_ij (by omega) (by omega) (a3.symm.trans q4)
  subst e
  rw [ngn r1 (by omega) (by omega), ngx t0, q1, nI_clamp (by omega)]
  exact a4
theorem ng_13 (hI : IM m NB ND NF) (hA : AC NB ND NF m f wf TY) (hn : IB ND m f n) (hk : m 188 n = 13) : NG G wf SA SB (m 189 n) = NG G wf SA SB (nI n) ∧ ∃ R, NG G wf SA SB (nI n) = G.2.1 R := by
  obtain ⟨n1, r, r1, r2, r3⟩ := node_ty hI hA hn
  have hND := hI.1.2.1
  have hT := TW_S hA.2.2.2.2.1
  have hr8 := TW_lt hT r2
  have h2 : 1 ≤ (f_parts (m 188 n)).toInt := by rw [hk, f_parts_v.2.2.2.2.2.2.2.2.2.2.1]; decide
  have t0 := tp0 hA (by rw [hk]; decide) h2
  unfold NTy at r3
  rw [AC_r hA (c := 188) (by decide) (by decide), hk] at r3
  rcases r3 with q | q | q | q | q | q | q | q | q | q | q | q | q | q | q
  all_goals first
    | exact absurd q.1 (by decide)
    | skip
  obtain ⟨-, q1, q2⟩ := q
  obtain ⟨a, a1, a2, a3, a4, -⟩ := GVt_5 (SA := SA) (SB := SB) hT r2 q2
  rw [ngn r1 (by omega) (by omega), ngx t0, q1, nI_clamp (by omega)]
  exact ⟨rfl, _, a4⟩
theorem ng_14 (hI : IM m NB ND NF) (hA : AC NB ND NF m f wf TY) (hn : IB ND m f n) (hk : m 188 n = 14) : ∃ g x y t u, g < NF ∧ m 189 n = nI g ∧ x < NB ∧ y < NB ∧ m 195 g = nI x ∧ m 196 g = nI y ∧ NG G wf SA SB (m 190 n) = GVt G m (GVt G wf SA SB t) (GVt G wf SA SB u) x ∧ NG G wf SA SB (nI n) = GVt G m (GVt G wf SA SB t) (GVt G wf SA SB u) y := by
  obtain ⟨n1, r, r1, r2, r3⟩ := node_ty hI hA hn
  have hND := hI.1.2.1
  have hTS := hA.2.2.2.2.1
  have hT := TW_S hTS
  have hr8 := TW_lt hT r2
  have hD : DN NB wf := DN_c hI.2.2.2.1 (fun t ht c a b => AC_t hI hA ht a b)
  unfold NTy at r3
  rw [AC_r hA (c := 188) (by decide) (by decide), hk] at r3
  rcases r3 with q | q | q | q | q | q | q | q | q | q | q | q | q | q | q
  iterate 14 exact absurd q.1 (by decide)
  obtain ⟨-, g, g1, g2, g3, g4, g5, x, y, ra, x1, y1, x2, y2, v1, v2, s1, s2⟩ := q
  have hra8 := TW_lt hT v1
  rw [AC_r hA (by decide) (by decide)] at g2 x2 y2
  have e190 : wf 190 n = m 190 n := AC_r hA (by decide) (by decide)
  rw [e190] at v2
  have hrow : ∀ t, t < NB → ∀ c, 177 ≤ c → c ≤ 183 → wf c t = m c t := fun t ht c a b => AC_t hI hA ht a b
  refine ⟨g, x, y, (wf 191 n).toNatClampNeg, (wf 192 n).toNatClampNeg, g1, g2, x1, y1, x2, y2, ?_, ?_⟩
  · rw [ngx (v := nI ra) v2.symm, nI_clamp (by omega), SB_gem hT hTS.2.1.1 hD 4 x ra x1 v1 s1]
    exact GVt_c (TW_I hI) hrow x1
  · rw [ngn r1 (by omega) (by omega), SB_gem hT hTS.2.1.1 hD 4 y r y1 r2 s2]
    exact GVt_c (TW_I hI) hrow y1
end NALG
