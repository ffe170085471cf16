/-! ===== what the nodes of a well typed body mean ===== -/
/-- f's types as goThrough() found them stand in wf -/
def AC (NB ND NF : Nat) (m : mm_P) (f : Nat) (wf : mm_P) (TY : Nat) : Prop := f < 12 ∧ f < NF ∧ used m f ∧ PR m wf ∧ TS wf NB TY ∧ (∀ j, j < ND → tyd NB NF TY wf f j) ∧ ∃ b, b < ND ∧ m 197 f = nI b ∧ wf 198 b = m 196 f
theorem AC_of {NB ND NF f : Nat} {m : mm_P} (h : JO NB ND NF m) (hf : f < 12) (hu : used m f) : ∃ wf TY, AC NB ND NF m f wf TY := by
  obtain ⟨h1, b, w, TY, h2, h3, h4, h5, h6, h7⟩ := h.2.2.1 f hf hu
  exact ⟨w, TY, hf, h1, hu, h4, h5, h6, b, h2, h3, h7⟩
/-- the values of the node that x names -/
def NW (wf : mm_P) (SA SB : ST) (x : Int32) : ST := SVt wf SA SB (wf 198 x.toNatClampNeg).toNatClampNeg
theorem NW_m {wf : mm_P} {SA SB : ST} (hA : mST SA) (hB : mST SB) (x : Int32) : mST (NW wf SA SB x) := SVt_m hA hB _
section NSEM
variable {NB ND NF f n TY : Nat} {m wf : mm_P} {SA SB : ST}
theorem node_ty (hI : IM m NB ND NF) (hA : AC NB ND NF m f wf TY) (hn : IB ND m f n) : n < ND ∧ ∃ r, wf 198 n = nI r ∧ vd NB TY r ∧ NTy NB NF TY wf f n (tpv wf n 0) (tpv wf n 1) (tpv wf n 2) r := by
  obtain ⟨hf, hfN, hu, hp, hT, ht, b, b1, b2, b3⟩ := hA
  have hNB := hI.1.1.2
  obtain ⟨o1, o2, ⟨y, o3, o4, o5⟩, o6⟩ := hI.2.2.2.2.2.1 f hfN
  have hb : ¬ wf 198 b = -1 := fun q => by
    rw [b3, o4] at q
    exact neg1_nI (by omega) q.symm
  obtain ⟨n1, n2⟩ := typed_IB hI hp b1 b2 ht hb hn
  refine ⟨n1, ?_⟩
  rcases ht n n1 with z | ⟨r, z1, z2, z3, z4, z5, z6, z7⟩
  · exact absurd z n2
  · exact ⟨r, z1, z2, z7⟩
theorem AC_r (hA : AC NB ND NF m f wf TY) {c i : Nat} (h1 : 188 ≤ c) (h2 : c ≤ 197) : wf c i = m c i := hA.2.2.2.1 c i (pg_nod h1 h2)
theorem AC_t (hI : IM m NB ND NF) (hA : AC NB ND NF m f wf TY) {t c : Nat} (ht : t < NB) (h1 : 177 ≤ c) (h2 : c ≤ 183) : wf c t = m c t := hA.2.2.2.1 c t (pg_row h1 h2 (by have := hI.1.1.2; omega))
theorem AC_p (hA : AC NB ND NF m f wf TY) {i : Int32} : f_part wf n i = f_part m n i := f_part_c (fun _ _ h1 h2 => AC_r hA h1 h2)
theorem tp0 (hA : AC NB ND NF m f wf TY) (hk : ¬ m 188 n = 14) (h : 1 ≤ (f_parts (m 188 n)).toInt) : tpv wf n 0 = wf 198 (m 189 n).toNatClampNeg := by
  rw [tpv_1 (by rw [AC_r hA (by decide) (by decide), mm_tt0]; omega), AC_p hA]
  unfold f_part
  rw [if_neg hk, if_pos rfl]
theorem tp1 (hA : AC NB ND NF m f wf TY) (hk : ¬ m 188 n = 14) (h : 2 ≤ (f_parts (m 188 n)).toInt) : tpv wf n 1 = wf 198 (m 190 n).toNatClampNeg := by
  rw [tpv_1 (by rw [AC_r hA (by decide) (by decide), mm_tt1]; omega), AC_p hA]
  unfold f_part
  rw [if_neg hk, if_neg (by decide), if_pos rfl]
theorem tp2 (hA : AC NB ND NF m f wf TY) (hk : ¬ m 188 n = 14) (h : 3 ≤ (f_parts (m 188 n)).toInt) : tpv wf n 2 = wf 198 (m 191 n).toNatClampNeg := by
  rw [tpv_1 (by rw [AC_r hA (by decide) (by decide), mm_tt2]; omega), AC_p hA]
  unfold f_part
  rw [if_neg hk, if_neg (by decide), if_neg (by decide)]
theorem nwn {r : Nat} (h : wf 198 n = nI r) (hr : r < 2 ^ 31) (hn : n < 2 ^ 31) : NW wf SA SB (nI n) = SVt wf SA SB r := by
  unfold NW
  rw [nI_clamp hn, h, nI_clamp hr]
theorem nwx {v x : Int32} (h : v = wf 198 x.toNatClampNeg) : NW wf SA SB x = SVt wf SA SB v.toNatClampNeg := by
  unfold NW
  rw [h]
theorem ns_any (hI : IM m NB ND NF) (hA : AC NB ND NF m f wf TY) (hn : IB ND m f n) (hk : m 188 n = 0 ∨ m 188 n = 1 ∨ m 188 n = 3 ∨ m 188 n = 4 ∨ m 188 n = 11) : NW wf SA SB (nI n) = sAny := by
  obtain ⟨n1, r, r1, r2, r3⟩ := node_ty hI hA hn
  have hND := hI.1.2.1
  have hT := TW_S hA.2.2.2.2.1
  have hr8 := TW_lt hT r2
  obtain ⟨a0, a1, -, -⟩ := hI.2.2.2.2.2.2
  have hN4 := hI.1.1.1
  rw [nwn r1 (by omega) (by omega)]
  have hr : r = 0 ∨ r = 1 := by
    unfold NTy at r3
    rw [AC_r hA (c := 188) (by decide) (by decide)] at r3
    rcases hk with k | k | k | k | k <;> rw [k] at r3 <;> rcases r3 with q | q | q | q | q | q | q | q | q | q | q | q | q | q | q
    all_goals first
      | exact absurd q.1 (by decide)
      | exact .inl q.2
      | exact .inr q.2
      | exact .inl q.2.2.2
      | exact .inr q.2.2.2
      | exact .inr q.2.1
  refine SVt_01 ?_
  rcases hr with e | e <;> rw [e, AC_t hI hA (by omega) (by decide) (by decide)]
  · exact .inl a0
  · exact .inr a1
theorem ns_2 (hI : IM m NB ND NF) (hA : AC NB ND NF m f wf TY) (hn : IB ND m f n) (hk : m 188 n = 2) : ∃ x, x < NB ∧ m 195 f = nI x ∧ NW wf SA SB (nI n) = SVt m SA SB x := by
  obtain ⟨n1, r, r1, r2, r3⟩ := node_ty hI hA hn
  have hND := hI.1.2.1
  have hNB := hI.1.1.2
  have hT := TW_S hA.2.2.2.2.1
  have hr8 := TW_lt hT r2
  obtain ⟨o1, ⟨x, o2, o3, o4⟩, o5, o6⟩ := hI.2.2.2.2.2.1 f hA.2.1
  unfold NTy at r3
  rw [AC_r hA (c := 188) (by decide) (by decide), hk] at r3
  rcases r3 with q | q | q | q | q | q | q | q | q | q | q | q | q | q | q
  all_goals first
    | exact absurd q.1 (by decide)
    | skip
  have e := q.2
  rw [AC_r hA (by decide) (by decide)] at e
  have ex : x = r := nI_ij (by omega) (by omega) (o3.symm.trans e)
  subst ex
  exact ⟨x, o2, o3, (nwn r1 (by omega) (by omega)).trans (SVt_c (TW_I hI) (fun t ht c a b => AC_t hI hA ht a b) o2)⟩
theorem ns_5 (hI : IM m NB ND NF) (hA : AC NB ND NF m f wf TY) (hn : IB ND m f n) (hk : m 188 n = 5) : NW wf SA SB (m 190 n) = NW wf SA SB (nI n) ∧ NW wf SA SB (m 191 n) = NW wf SA SB (nI n) := by
  obtain ⟨n1, r, r1, r2, r3⟩ := node_ty hI hA hn
  have hND := hI.1.2.1
  have hT := TW_S hA.2.2.2.2.1
  have hr8 := TW_lt hT r2
  have h3 : 3 ≤ (f_parts (m 188 n)).toInt := by rw [hk, f_parts_v.2.2.1]; decide
  have hk14 : ¬ m 188 n = 14 := by rw [hk]; decide
  have t1 := tp1 hA hk14 (by omega)
  have t2 := tp2 hA hk14 h3
  unfold NTy at r3
  rw [AC_r hA (c := 188) (by decide) (by decide), hk] at r3
  rcases r3 with q | q | q | q | q | q | q | q | q | q | q | q | q | q | q
  all_goals first
    | exact absurd q.1 (by decide)
    | skip
  obtain ⟨-, -, q2, q3⟩ := q
  rw [nwn r1 (by omega) (by omega), nwx t1, nwx t2, ← q2, q3, nI_clamp (by omega)]
  exact ⟨rfl, rfl⟩
theorem ns_6 (hI : IM m NB ND NF) (hA : AC NB ND NF m f wf TY) (hn : IB ND m f n) (hk : m 188 n = 6) : NW wf SA SB (nI n) = sPr (NW wf SA SB (m 189 n)) (NW wf SA SB (m 190 n)) := by
  obtain ⟨n1, r, r1, r2, r3⟩ := node_ty hI hA hn
  have hND := hI.1.2.1
  have hT := TW_S hA.2.2.2.2.1
  have hr8 := TW_lt hT r2
  have h2 : 2 ≤ (f_parts (m 188 n)).toInt := by rw [hk, f_parts_v.2.2.2.1]; decide
  have hk14 : ¬ m 188 n = 14 := by rw [hk]; decide
  have t0 := tp0 hA hk14 (by omega)
  have t1 := tp1 hA hk14 h2
  unfold NTy at r3
  rw [AC_r hA (c := 188) (by decide) (by decide), hk] at r3
  rcases r3 with q | q | q | q | q | q | q | q | q | q | q | q | q | q | q
  all_goals first
    | exact absurd q.1 (by decide)
    | skip
  obtain ⟨-, q1, q2, q3⟩ := q
  obtain ⟨a, b, a1, a2, a3, a4, a5, a6, a7, -⟩ := SVt_4 (SA := SA) (SB := SB) hT r2 q1
  rw [nwn r1 (by omega) (by omega), nwx t0, nwx t1, ← q2, ← q3, a5, a6, nI_clamp (by omega), nI_clamp (by omega)]
  exact a7
theorem ns_7 (hI : IM m NB ND NF) (hA : AC NB ND NF m f wf TY) (hn : IB ND m f n) (hk : m 188 n = 7) : ∃ R, NW wf SA SB (m 189 n) = sPr (NW wf SA SB (nI n)) R := by
  obtain ⟨n1, r, r1, r2, r3⟩ := node_ty hI hA hn
  have hND := hI.1.2.1
  have hT := TW_S hA.2.2.2.2.1
  have hr8 := TW_lt hT r2
  have h2 : 1 ≤ (f_parts (m 188 n)).toInt := by rw [hk, f_parts_v.2.2.2.2.1]; decide
  have t0 := tp0 hA (by rw [hk]; decide) h2
  unfold NTy at r3
  rw [AC_r hA (c := 188) (by decide) (by decide), hk] at r3
  rcases r3 with q | q | q | q | q | q | q | q | q | q | q | q | q | q | q
  all_goals first
    | exact absurd q.1 (by decide)
    | skip
  obtain ⟨-, p, q1, q2, q3, q4⟩ := q
  have hp8 := TW_lt hT q2
  obtain ⟨a, b, a1, a2, a3, a4, a5, a6, a7, -⟩ := SVt_4 (SA := SA) (SB := SB) hT q2 q3
  have e : a = r := nI_ij (by omega) (by omega) (a5.symm.trans q4)
  subst e
  rw [nwn r1 (by omega) (by omega), nwx t0, q1, nI_clamp (by omega)]
  exact ⟨_, a7⟩
theorem ns_8 (hI : IM m NB ND NF) (hA : AC NB ND NF m f wf TY) (hn : IB ND m f n) (hk : m 188 n = 8) : ∃ R, NW wf SA SB (m 189 n) = sPr R (NW wf SA SB (nI n)) := by
  obtain ⟨n1, r, r1, r2, r3⟩ := node_ty hI hA hn
  have hND := hI.1.2.1
  have hT := TW_S hA.2.2.2.2.1
  have hr8 := TW_lt hT r2
  have h2 : 1 ≤ (f_parts (m 188 n)).toInt := by rw [hk, f_parts_v.2.2.2.2.2.1]; decide
  have t0 := tp0 hA (by rw [hk]; decide) h2
  unfold NTy at r3
  rw [AC_r hA (c := 188) (by decide) (by decide), hk] at r3
  rcases r3 with q | q | q | q | q | q | q | q | q | q | q | q | q | q | q
  all_goals first
    | exact absurd q.1 (by decide)
    | skip
  obtain ⟨-, p, q1, q2, q3, q4⟩ := q
  have hp8 := TW_lt hT q2
  obtain ⟨a, b, a1, a2, a3, a4, a5, a6, a7, -⟩ := SVt_4 (SA := SA) (SB := SB) hT q2 q3
  have e : b = r := nI_ij (by omega) (by omega) (a6.symm.trans q4)
  subst e
  rw [nwn r1 (by omega) (by omega), nwx t0, q1, nI_clamp (by omega)]
  exact ⟨_, a7⟩
theorem ns_9 (hI : IM m NB ND NF) (hA : AC NB ND NF m f wf TY) (hn : IB ND m f n) (hk : m 188 n = 9) : ∃ R, NW wf SA SB (nI n) = sLs R := by
  obtain ⟨n1, r, r1, r2, r3⟩ := node_ty hI hA hn
  have hND := hI.1.2.1
  have hT := TW_S hA.2.2.2.2.1
  have hr8 := TW_lt hT r2
  unfold NTy at r3
  rw [AC_r hA (c := 188) (by decide) (by decide), hk] at r3
  rcases r3 with q | q | q | q | q | q | q | q | q | q | q | q | q | q | q
  all_goals first
    | exact absurd q.1 (by decide)
    | skip
  obtain ⟨a, a1, a2, a3, a4, -⟩ := SVt_5 (SA := SA) (SB := SB) hT r2 q.2.1
  rw [nwn r1 (by omega) (by omega)]
  exact ⟨_, a4⟩
theorem ns_10 (hI : IM m NB ND NF) (hA : AC NB ND NF m f wf TY) (hn : IB ND m f n) (hk : m 188 n = 10) : NW wf SA SB (nI n) = sLs (NW wf SA SB (m 189 n)) ∧ NW wf SA SB (m 190 n) = NW wf SA SB (nI n) := by
  obtain ⟨n1, r, r1, r2, r3⟩ := node_ty hI hA hn
  have hND := hI.1.2.1
  have hT := TW_S hA.2.2.2.2.1
  have hr8 := TW_lt hT r2
  have h2 : 2 ≤ (f_parts (m 188 n)).toInt := by rw [hk, f_parts_v.2.2.2.2.2.2.2.1]; decide
  have hk14 : ¬ m 188 n = 14 := by rw [hk]; decide
  have t0 := tp0 hA hk14 (by omega)
  have t1 := tp1 hA hk14 h2
  unfold NTy at r3
  rw [AC_r hA (c := 188) (by decide) (by decide), hk] at r3
  rcases r3 with q | q | q | q | q | q | q | q | q | q | q | q | q | q | q
  all_goals first
    | exact absurd q.1 (by decide)
    | skip
  obtain ⟨-, q1, q2, q3⟩ := q
  obtain ⟨a, a1, a2, a3, a4, -⟩ := SVt_5 (SA := SA) (SB := SB) hT r2 q2
  rw [nwn r1 (by omega) (by omega), nwx t0, nwx t1, q1, ← q3, a3, nI_clamp (by omega), nI_clamp (by omega)]
  exact ⟨a4, rfl⟩
theorem ns_11 (hI : IM m NB ND NF) (hA : AC NB ND NF m f wf TY) (hn : IB ND m f n) (hk : m 188 n = 11) : ∃ R, NW wf SA SB (m 189 n) = sLs R := by
  obtain ⟨n1, r, r1, r2, r3⟩ := node_ty hI hA hn
  have hND := hI.1.2.1
  have hT := TW_S hA.2.2.2.2.1
  have h2 : 1 ≤ (f_parts (m 188 n)).toInt := by rw [hk, f_parts_v.2.2.2.2.2.2.2.2.1]; decide
  have t0 := tp0 hA (by rw [hk]; decide) h2
  unfold NTy at r3
  rw [AC_r hA (c := 188) (by decide) (by decide), hk] at r3
  rcases r3 with q | q | q | q | q | q | q | q | q | q | q | q | q | q | q
  all_goals first
    | exact absurd q.1 (by decide)
    | skip
  obtain ⟨-, -, p, q1, q2, q3⟩ := q
  have hp8 := TW_lt hT q2
  obtain ⟨a, a1, a2, a3, a4, -⟩ := SVt_5 (SA := SA) (SB := SB) hT q2 q3
  rw [nwx t0, q1, nI_clamp (by omega)]
  exact ⟨_, a4⟩
theorem ns_12 (hI : IM m NB ND NF) (hA : AC NB ND NF m f wf TY) (hn : IB ND m f n) (hk : m 188 n = 12) : NW wf SA SB (m 189 n) = sLs (NW wf SA SB (nI n)) := by
  obtain ⟨n1, r, r1, r2, r3⟩ := node_ty hI hA hn
  have hND := hI.1.2.1
  have hT := TW_S hA.2.2.2.2.1
  have hr8 := TW_lt hT r2
  have h2 : 1 ≤ (f_parts (m 188 n)).toInt := by rw [hk, f_parts_v.2.2.2.2.2.2.2.2.2.1]; decide
  have t0 := tp0 hA (by rw [hk]; decide) h2
  unfold NTy at r3
  rw [AC_r hA (c := 188) (by decide) (by decide), hk] at r3
  rcases r3 with q | q | q | q | q | q | q | q | q | q | q | q | q | q | q
  all_goals first
    | exact absurd q.1 (by decide)
    | skip
  obtain ⟨-, p, q1, q2, q3, q4⟩ := q
  have hp8 := TW_lt hT q2
  obtain ⟨a, a1, a2, a3, a4, -⟩ := SVt_5 (SA := SA) (SB := SB) hT q2 q3
  have e : a = r := nI_ij (by omega) (by omega) (a3.symm.trans q4)
  subst e
  rw [nwn r1 (by omega) (by omega), nwx t0, q1, nI_clamp (by omega)]
  exact a4
theorem ns_13 (hI : IM m NB ND NF) (hA : AC NB ND NF m f wf TY) (hn : IB ND m f n) (hk : m 188 n = 13) : NW wf SA SB (m 189 n) = NW wf SA SB (nI n) ∧ ∃ R, NW wf SA SB (nI n) = sLs R := by
  obtain ⟨n1, r, r1, r2, r3⟩ := node_ty hI hA hn
  have hND := hI.1.2.1
  have hT := TW_S hA.2.2.2.2.1
  have hr8 := TW_lt hT r2
  have h2 : 1 ≤ (f_parts (m 188 n)).toInt := by rw [hk, f_parts_v.2.2.2.2.2.2.2.2.2.2.1]; decide
  have t0 := tp0 hA (by rw [hk]; decide) h2
  unfold NTy at r3
  rw [AC_r hA (c := 188) (by decide) (by decide), hk] at r3
  rcases r3 with q | q | q | q | q | q | q | q | q | q | q | q | q | q | q
  all_goals first
    | exact absurd q.1 (by decide)
    | skip
  obtain ⟨-, q1, q2⟩ := q
  obtain ⟨a, a1, a2, a3, a4, -⟩ := SVt_5 (SA := SA) (SB := SB) hT r2 q2
  rw [nwn r1 (by omega) (by omega), nwx t0, q1, nI_clamp (by omega)]
  exact ⟨rfl, _, a4⟩
theorem ns_14 (hI : IM m NB ND NF) (hA : AC NB ND NF m f wf TY) (hn : IB ND m f n) (hk : m 188 n = 14) : ∃ g x y t u, g < NF ∧ m 189 n = nI g ∧ x < NB ∧ y < NB ∧ m 195 g = nI x ∧ m 196 g = nI y ∧ NW wf SA SB (m 190 n) = SVt m (SVt wf SA SB t) (SVt wf SA SB u) x ∧ NW wf SA SB (nI n) = SVt m (SVt wf SA SB t) (SVt wf SA SB u) y := by
  obtain ⟨n1, r, r1, r2, r3⟩ := node_ty hI hA hn
  have hND := hI.1.2.1
  have hTS := hA.2.2.2.2.1
  have hT := TW_S hTS
  have hr8 := TW_lt hT r2
  have hD : DN NB wf := DN_c hI.2.2.2.1 (fun t ht c a b => AC_t hI hA ht a b)
  unfold NTy at r3
  rw [AC_r hA (c := 188) (by decide) (by decide), hk] at r3
  rcases r3 with q | q | q | q | q | q | q | q | q | q | q | q | q | q | q
  iterate 14 exact absurd q.1 (by decide)
  obtain ⟨-, g, g1, g2, g3, g4, g5, x, y, ra, x1, y1, x2, y2, v1, v2, s1, s2⟩ := q
  have hra8 := TW_lt hT v1
  rw [AC_r hA (by decide) (by decide)] at g2 x2 y2
  have e190 : wf 190 n = m 190 n := AC_r hA (by decide) (by decide)
  rw [e190] at v2
  have hrow : ∀ t, t < NB → ∀ c, 177 ≤ c → c ≤ 183 → wf c t = m c t := fun t ht c a b => AC_t hI hA ht a b
  refine ⟨g, x, y, (wf 191 n).toNatClampNeg, (wf 192 n).toNatClampNeg, g1, g2, x1, y1, x2, y2, ?_, ?_⟩
  · rw [nwx (v := nI ra) v2.symm, nI_clamp (by omega), SB_sem hT hTS.2.1.1 hD 4 x ra x1 v1 s1]
    exact SVt_c (TW_I hI) hrow x1
  · rw [nwn r1 (by omega) (by omega), SB_sem hT hTS.2.1.1 hD 4 y r y1 r2 s2]
    exact SVt_c (TW_I hI) hrow y1
end NSEM
