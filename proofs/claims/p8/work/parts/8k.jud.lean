/-! ===== the type of a node: what class and model find ===== -/
noncomputable def pik (P : Prop) (x y : Int64) : Int64 := @ite Int64 P (Classical.propDecidable P) x y
theorem pik_t {P : Prop} {x y : Int64} (h : P) : pik P x y = x := @if_pos P (Classical.propDecidable P) h Int64 x y
theorem pik_f {P : Prop} {x y : Int64} (h : ¬ P) : pik P x y = y := @if_neg P (Classical.propDecidable P) h Int64 x y
def SHO (ml : mm_G) (v : Int32) : Int64 := if v = -1 then -1 else ml 2 v.toNatClampNeg
def nlt (m : mm_P) (n : Nat) : Int32 := if m 191 n = -1 then 0 else if m 192 n = -1 then 1 else 2
/-- a CALL stands -/
def CSK (NF : Nat) (m : mm_P) (ml : mm_G) (f n : Nat) (a : Int64) : Prop := ((m 189 n).toInt < (NF : Int) ∧ m 194 (m 189 n).toNatClampNeg = nlt m n) ∧ ((m 191 n = -1 ∨ wthn m (m 191 n).toNatClampNeg (m 194 f)) ∧ (m 192 n = -1 ∨ wthn m (m 192 n).toNatClampNeg (m 194 f))) ∧ ¬ a = -1 ∧ a = f_with (ml 2 (m 195 (m 189 n).toNatClampNeg).toNatClampNeg) (SHO ml (m 191 n)) (SHO ml (m 192 n))
noncomputable def CSH (NF : Nat) (m : mm_P) (ml : mm_G) (f n : Nat) (a : Int64) : Int64 := pik (CSK NF m ml f n a) (f_with (ml 2 (m 196 (m 189 n).toNatClampNeg).toNatClampNeg) (SHO ml (m 191 n)) (SHO ml (m 192 n))) (-1)
noncomputable def FSH (NF : Nat) (m : mm_P) (ml : mm_G) (f n : Nat) (a b c : Int64) : Int64 :=
  if m 188 n = 0 then 0 else if m 188 n = 1 then 1 else if m 188 n = 2 then ml 2 (m 195 f).toNatClampNeg
  else if m 188 n = 3 then (if a = 0 ∧ b = 0 then 0 else -1)
  else if m 188 n = 4 then (if a = 0 ∧ b = 0 then 1 else -1)
  else if m 188 n = 5 then (if a = 1 ∧ b = c then b else -1)
  else if m 188 n = 6 then f_pr a b
  else if m 188 n = 7 then (if f_kd a = 4 then f_fs a else -1)
  else if m 188 n = 8 then (if f_kd a = 4 then f_sc a else -1)
  else if m 188 n = 9 then (pik (wthn m (m 189 n).toNatClampNeg (m 194 f)) (f_ls (ml 2 (m 189 n).toNatClampNeg)) (-1))
  else if m 188 n = 10 then (if b = f_ls a then b else -1)
  else if m 188 n = 11 then (if f_kd a = 5 then 1 else -1)
  else if m 188 n = 12 then (if f_kd a = 5 then f_fs a else -1)
  else if m 188 n = 13 then (if f_kd a = 5 then a else -1)
  else CSH NF m ml f n a
section MFS
variable {NF : Nat} {m : mm_P} {ml : mm_G} {f n : Nat} {a b c : Int64}
theorem FSH_0 (k : m 188 n = 0) : FSH NF m ml f n a b c = 0 := by
  unfold FSH
  rw [k]
  rfl
theorem FSH_1 (k : m 188 n = 1) : FSH NF m ml f n a b c = 1 := by
  unfold FSH
  rw [k]
  rfl
theorem FSH_2 (k : m 188 n = 2) : FSH NF m ml f n a b c = ml 2 (m 195 f).toNatClampNeg := by
  unfold FSH
  rw [k]
  rfl
theorem FSH_3 (k : m 188 n = 3) : FSH NF m ml f n a b c = (if a = 0 ∧ b = 0 then 0 else -1) := by
  unfold FSH
  rw [k]
  rfl
theorem FSH_4 (k : m 188 n = 4) : FSH NF m ml f n a b c = (if a = 0 ∧ b = 0 then 1 else -1) := by
  unfold FSH
  rw [k]
  rfl
theorem FSH_5 (k : m 188 n = 5) : FSH NF m ml f n a b c = (if a = 1 ∧ b = c then b else -1) := by
  unfold FSH
  rw [k]
  rfl
theorem FSH_6 (k : m 188 n = 6) : FSH NF m ml f n a b c = f_pr a b := by
  unfold FSH
  rw [k]
  rfl
theorem FSH_7 (k : m 188 n = 7) : FSH NF m ml f n a b c = (if f_kd a = 4 then f_fs a else -1) := by
  unfold FSH
  rw [k]
  rfl
theorem FSH_8 (k : m 188 n = 8) : FSH NF m ml f n a b c = (if f_kd a = 4 then f_sc a else -1) := by
  unfold FSH
  rw [k]
  rfl
theorem FSH_9 (k : m 188 n = 9) : FSH NF m ml f n a b c = (pik (wthn m (m 189 n).toNatClampNeg (m 194 f)) (f_ls (ml 2 (m 189 n).toNatClampNeg)) (-1)) := by
  unfold FSH
  rw [k]
  rfl
theorem FSH_10 (k : m 188 n = 10) : FSH NF m ml f n a b c = (if b = f_ls a then b else -1) := by
  unfold FSH
  rw [k]
  rfl
theorem FSH_11 (k : m 188 n = 11) : FSH NF m ml f n a b c = (if f_kd a = 5 then 1 else -1) := by
  unfold FSH
  rw [k]
  rfl
theorem FSH_12 (k : m 188 n = 12) : FSH NF m ml f n a b c = (if f_kd a = 5 then f_fs a else -1) := by
  unfold FSH
  rw [k]
  rfl
theorem FSH_13 (k : m 188 n = 13) : FSH NF m ml f n a b c = (if f_kd a = 5 then a else -1) := by
  unfold FSH
  rw [k]
  rfl
theorem FSH_14 (k : m 188 n = 14) : FSH NF m ml f n a b c = CSH NF m ml f n a := by
  unfold FSH
  rw [k]
  rfl
theorem f_kd_n : f_kd (-1) = -1 := by
  unfold f_kd
  rw [mm_lln, if_pos (by decide)]
/-- a node with a part that has no type has none -/
theorem FSH_n (hk : 0 ≤ (m 188 n).toInt ∧ (m 188 n).toInt ≤ 14) (h : (1 ≤ (f_parts (m 188 n)).toInt ∧ a = -1) ∨ (2 ≤ (f_parts (m 188 n)).toInt ∧ b = -1) ∨ (3 ≤ (f_parts (m 188 n)).toInt ∧ c = -1)) : FSH NF m ml f n a b c = -1 := by
  obtain ⟨p3, p4, p5, p6, p7, p8, p9, p10, p11, p12, p13, p14⟩ := f_parts_v
  obtain ⟨j, ej, j1, j2, -⟩ := mm_of (n := 15) hk.1 (by omega)
  have hz : f_parts 0 = 0 ∧ f_parts 1 = 0 ∧ f_parts 2 = 0 := by decide
  have hcase : j = 0 ∨ j = 1 ∨ j = 2 ∨ j = 3 ∨ j = 4 ∨ j = 5 ∨ j = 6 ∨ j = 7 ∨ j = 8 ∨ j = 9 ∨ j = 10 ∨ j = 11 ∨ j = 12 ∨ j = 13 ∨ j = 14 := by omega
  have t0 : (0 : Int32).toInt = 0 := rfl
  have t1 : (1 : Int32).toInt = 1 := rfl
  have t2 : (2 : Int32).toInt = 2 := rfl
  rcases hcase with rfl | rfl | rfl | rfl | rfl | rfl | rfl | rfl | rfl | rfl | rfl | rfl | rfl | rfl | rfl
  · rw [ej, show nI 0 = 0 from rfl, hz.1, t0] at h
    omega
  · rw [ej, show nI 1 = 1 from rfl, hz.2.1, t0] at h
    omega
  · rw [ej, show nI 2 = 2 from rfl, hz.2.2, t0] at h
    omega
  · rw [FSH_3 ej, if_neg]
    rw [ej, show nI 3 = 3 from rfl, p3, t2] at h
    rintro ⟨x, y⟩
    rcases h with ⟨-, h⟩ | ⟨-, h⟩ | ⟨h, -⟩
    · rw [x] at h; exact absurd h (by decide)
    · rw [y] at h; exact absurd h (by decide)
    · omega
  · rw [FSH_4 ej, if_neg]
    rw [ej, show nI 4 = 4 from rfl, p4, t2] at h
    rintro ⟨x, y⟩
    rcases h with ⟨-, h⟩ | ⟨-, h⟩ | ⟨h, -⟩
    · rw [x] at h; exact absurd h (by decide)
    · rw [y] at h; exact absurd h (by decide)
    · omega
  · rw [FSH_5 ej]
    rcases h with ⟨-, h⟩ | ⟨-, h⟩ | ⟨-, h⟩
    · rw [if_neg (fun z => by rw [h] at z; exact absurd z.1 (by decide))]
    · split
      · exact h
      · rfl
    · split
      · rename_i z
        exact z.2.trans h
      · rfl
  · rw [FSH_6 ej]
    rw [ej, show nI 6 = 6 from rfl, p6, t2] at h
    rcases h with ⟨-, h⟩ | ⟨-, h⟩ | ⟨h, -⟩
    · exact f_pr_n (.inl h)
    · exact f_pr_n (.inr h)
    · omega
  · rw [ej, show nI 7 = 7 from rfl, p7, t1] at h
    have h1 : a = -1 := by rcases h with ⟨-, h⟩ | ⟨h, -⟩ | ⟨h, -⟩ <;> first | exact h | omega
    rw [FSH_7 ej, h1, f_kd_n, if_neg (by decide)]
  · rw [ej, show nI 8 = 8 from rfl, p8, t1] at h
    have h1 : a = -1 := by rcases h with ⟨-, h⟩ | ⟨h, -⟩ | ⟨h, -⟩ <;> first | exact h | omega
    rw [FSH_8 ej, h1, f_kd_n, if_neg (by decide)]
  · rw [ej, show nI 9 = 9 from rfl, p9, t0] at h
    omega
  · rw [FSH_10 ej]
    rw [ej, show nI 10 = 10 from rfl, p10, t2] at h
    rcases h with ⟨-, h⟩ | ⟨-, h⟩ | ⟨h, -⟩
    · split
      · rename_i z
        rw [z, h, f_ls_n]
      · rfl
    · split
      · exact h
      · rfl
    · omega
  · rw [ej, show nI 11 = 11 from rfl, p11, t1] at h
    have h1 : a = -1 := by rcases h with ⟨-, h⟩ | ⟨h, -⟩ | ⟨h, -⟩ <;> first | exact h | omega
    rw [FSH_11 ej, h1, f_kd_n, if_neg (by decide)]
  · rw [ej, show nI 12 = 12 from rfl, p12, t1] at h
    have h1 : a = -1 := by rcases h with ⟨-, h⟩ | ⟨h, -⟩ | ⟨h, -⟩ <;> first | exact h | omega
    rw [FSH_12 ej, h1, f_kd_n, if_neg (by decide)]
  · rw [ej, show nI 13 = 13 from rfl, p13, t1] at h
    have h1 : a = -1 := by rcases h with ⟨-, h⟩ | ⟨h, -⟩ | ⟨h, -⟩ <;> first | exact h | omega
    rw [FSH_13 ej, h1, f_kd_n, if_neg (by decide)]
  · rw [ej, show nI 14 = 14 from rfl, p14, t1] at h
    have h1 : a = -1 := by rcases h with ⟨-, h⟩ | ⟨h, -⟩ | ⟨h, -⟩ <;> first | exact h | omega
    rw [FSH_14 ej]
    unfold CSH
    rw [pik_f (fun z => z.2.2.1 h1)]
end MFS
section MMK
variable {L : Nat} {xs : Nat → Int32} {d : Nat} {Q : mm_QQ} {mi : mm_P} {ml : mm_G} {lim : Nat × Nat} {NB ND NF TY : Nat}
theorem SHV_of4 {w : mm_P} {t a b : Nat} (hW : WTY NB TY w) (ht : vd NB TY t) (ha : vd NB TY a) (hb : vd NB TY b) (h1 : w 177 t = 4) (h2 : w 178 t = nI a) (h3 : w 179 t = nI b) : SHV w t = f_pr (SHV w a) (SHV w b) := by
  have ha8 := vd_lt ha hW.1 hW.2.1
  have hb8 := vd_lt hb hW.1 hW.2.1
  rcases hW.2.2 t ht with z | ⟨c, z1, z2, z3⟩ | ⟨c, e, z1, z2, z3, z4, z5⟩
  · exact absurd h1 (bs_45 z).1
  · have := z3.1
    rw [h1] at this
    exact absurd this (by decide)
  · have hc8 := vd_lt z1 hW.1 hW.2.1
    have he8 := vd_lt z3 hW.1 hW.2.1
    have e1 := nI_inj (by omega) (by omega) (h2.symm.trans z5.2.1)
    have e2 := nI_inj (by omega) (by omega) (h3.symm.trans z5.2.2.1)
    subst e1 e2
    exact SHV_4 hW ht z1 z2 z3 z4 z5
theorem SHV_of5 {w : mm_P} {t a : Nat} (hW : WTY NB TY w) (ht : vd NB TY t) (ha : vd NB TY a) (h1 : w 177 t = 5) (h2 : w 178 t = nI a) : SHV w t = f_ls (SHV w a) := by
  have ha8 := vd_lt ha hW.1 hW.2.1
  rcases hW.2.2 t ht with z | ⟨c, z1, z2, z3⟩ | ⟨c, e, z1, z2, z3, z4, z5⟩
  · exact absurd h1 (bs_45 z).2
  · have hc8 := vd_lt z1 hW.1 hW.2.1
    have e1 := nI_inj (by omega) (by omega) (h2.symm.trans z3.2.1)
    subst e1
    exact SHV_5 hW ht z1 z2 z3
  · have := z5.1
    rw [h1] at this
    exact absurd this (by decide)
/-- INT and TRUTH -/
theorem SHV_01 {w : mm_P} (hI : IM w NB ND NF) (hW : WTY NB TY w) : SHV w 0 = 0 ∧ SHV w 1 = 1 := by
  obtain ⟨⟨⟨i1, i2⟩, i3, i4⟩, i5, i6, i7, i8, i9, k0, k1, -⟩ := hI
  have hb : ∀ t, t < NB → ¬ w 177 t = 4 → ¬ w 177 t = 5 → bs w t := fun t ht n4 n5 => by
    rcases hW.2.2 t (.inl ht) with z | ⟨c, z1, z2, z3⟩ | ⟨c, e, z1, z2, z3, z4, z5⟩
    · exact z
    · exact absurd z3.1 n5
    · exact absurd z5.1 n4
  constructor
  · exact Int64.toInt_inj.mp ((SHV_b (hb 0 (by omega) (by rw [k0]; decide) (by rw [k0]; decide))).trans (by rw [k0]; rfl))
  · exact Int64.toInt_inj.mp ((SHV_b (hb 1 (by omega) (by rw [k1]; decide) (by rw [k1]; decide))).trans (by rw [k1]; rfl))
/-- one shape, one type -/
theorem SHV_iff {w : mm_P} {t u : Nat} (hW : WTY NB TY w) (hU : TU NB TY w) (ht : vd NB TY t) (hu : vd NB TY u) (hd : (w 180 t).toInt ≤ 5) : SHV w t = SHV w u ↔ nI t = nI u :=
  ⟨fun e => by rw [SHV_i hW hU (t + 1) t u (Nat.lt_succ_self t) ht hu (SHV_r hW ht hd).1.1 e], fun e => by
    have ht8 := vd_lt ht hW.1 hW.2.1
    have hu8 := vd_lt hu hW.1 hW.2.1
    rw [nI_inj (by omega) (by omega) e]⟩
theorem SHO_t {t : Nat} {v : Int32} (ht : t < 2 ^ 31) (h : v = nI t) : SHO ml v = ml 2 t := by
  unfold SHO
  rw [h, if_neg (nI_ne ht), nI_clamp (by omega)]
/-- callType(), behind the letters -/
theorem callx_108 {f n g p : Nat} {x6 : Int32} (hI : IM mi NB ND NF) (hT : TX mi NB TY) (hC : TC NB mi ml) (hn : n < ND) (hk : mi 188 n = 14) (hg : g < NF) (hga : mi 189 n = nI g) (hl : mi 194 g = nlt mi n) (hA : mi 191 n = -1 ∨ wthn mi (mi 191 n).toNatClampNeg (mi 194 f)) (hB : mi 192 n = -1 ∨ wthn mi (mi 192 n).toNatClampNeg (mi 194 f)) (hp : vd NB TY p) (hpd : (mi 180 p).toInt ≤ 5) (hpv : mi 198 (mi 190 n).toNatClampNeg = nI p) (hb : TY ≤ 7970) (hQ : ∀ w v TZ, TX w NB TZ → TY ≤ TZ → TZ ≤ TY + 30 → MKP TY mi w → ((v = -1 ∧ CSH NF mi ml f n (SHV mi p) = -1) ∨ ∃ r, v = nI r ∧ vd NB TZ r ∧ SHV w r = CSH NF mi ml f n (SHV mi p)) → Q (some (mm_I v)) w ml) : mm_WQ (mm_call mm_ms (mm_tb L xs) (d + 5)) (mm_tb L xs) mm_m192 lim Q 108 [some (mm_R 176), some (mm_I (nI f)), some (mm_I (nI n)), some (mm_I (nI g)), some (mm_I (mi 191 n)), some (mm_I (mi 192 n)), some (mm_I x6)] [] mi ml := by
  obtain ⟨⟨⟨i1, i2⟩, i3, i4⟩, i5, i6, i7, i8, i9, i10⟩ := id hI
  obtain ⟨b1, b2, b3, b4, b5⟩ := i8 n hn
  obtain ⟨c1, ⟨q0, p1, p2, p3⟩, c3, c4, c5⟩ := b5 hk
  obtain ⟨o1, ⟨x, o2, o3, o4⟩, ⟨y, o5, o6, o7⟩, o8⟩ := i9 g hg
  have hTY := hT.1.2.1
  have hW := TX_W hT
  have hp8 := vd_lt hp i2 hTY.2
  have vn : vp_in (nI n) 200 := vp_in_nI (by omega) (by decide)
  have vg : vp_in (nI g) 12 := vp_in_nI (by omega) (by decide)
  have en : (nI n).toNatClampNeg = n := nI_clamp (by omega)
  have eg : (nI g).toNatClampNeg = g := nI_clamp (by omega)
  have ep : (nI q0).toNatClampNeg = q0 := nI_clamp (by omega)
  have egc : (mi 189 n).toNatClampNeg = g := by rw [hga, eg]
  have ex : (mi 195 g).toNatClampNeg = x := by rw [o3, nI_clamp (by omega)]
  have ey : (mi 196 g).toNatClampNeg = y := by rw [o6, nI_clamp (by omega)]
  have hgt : (mi 189 n).toInt < (NF : Int) := by rw [hga, mm_tI (by omega)]; omega
  -- the letters that the types of g need are there
  have hLA : ∀ {z : Nat}, wthn mi z (mi 194 g) → ¬ mi 181 z = 0 → ∃ t, t < NB ∧ mi 191 n = nI t := fun hz hz1 => by
    refine c3.resolve_left (fun e => ?_)
    have h0 := hz.1.resolve_left hz1
    rw [hl] at h0
    unfold nlt at h0
    rw [if_pos e, mm_tt0] at h0
    omega
  have hLB : ∀ {z : Nat}, wthn mi z (mi 194 g) → ¬ mi 182 z = 0 → ∃ t, t < NB ∧ mi 192 n = nI t := fun hz hz1 => by
    refine c4.resolve_left (fun e => ?_)
    have h0 := hz.2.resolve_left hz1
    rw [hl] at h0
    unfold nlt at h0
    split at h0
    · rw [mm_tt0] at h0
      omega
    · rw [mm_tt1] at h0
      omega
  -- what the letters stand for
  have hSA : ∀ {w : mm_P} {TZ : Nat}, WTY NB TZ w → TC NB w ml → ∀ {v : Int32}, (v = -1 ∨ tyN NB v) → ∀ r, vd NB TZ r → nI r = v → SHV w r = SHO ml v := fun {w TZ} hw ht {v} hv r hr e => by
    have hr8 := vd_lt hr hw.1 hw.2.1
    rcases hv with hv | ⟨t, t1, t2⟩
    · rw [hv] at e
      exact absurd e (nI_ne (by omega))
    · have : r = t := nI_inj (by omega) (by omega) (e.trans t2)
      subst this
      rw [SHO_t (by omega) t2]
      exact SHV_ml hw ht t1
  have hput : ∀ {w : mm_P} {TZ z r : Nat}, TX w NB TZ → TC NB w ml → DN NB w → z < NB → vd NB TZ r → SB NB TZ w (mi 191 n) (mi 192 n) 4 z r → SHV w r = f_with (ml 2 z) (SHO ml (mi 191 n)) (SHO ml (mi 192 n)) := fun {w TZ z r} hw ht hd hz hr hs =>
    wl_SB (TX_W hw) hd ht (hSA (TX_W hw) ht c3) (hSA (TX_W hw) ht c4) 4 6 z r (by omega) hz hr (by have := (hd z hz).1.2; omega) hs
  refine bk_X12_callType_108 (mm_call_m _) vn ?_ vg ?_
  · rw [en, p2]
    exact vp_in_nI (by omega) (by decide)
  · rw [en, eg, o3, hpv]
    refine sx_put hT i7 o2 (fun q => ?_) (fun q => ?_) (by omega) (fun w1 ra T1 w1a w1b w1c w1d w1e w1f w1g => ?_)
    · obtain ⟨t, t1, t2⟩ := hLA o4 q
      exact ⟨t, .inl t1, t2⟩
    · obtain ⟨t, t1, t2⟩ := hLB o4 q
      exact ⟨t, .inl t1, t2⟩
    have hk1 : ∀ c i, 188 ≤ c → w1 c i = mi c i := fun c i h1 => MKP_h w1f h1
    have hv1 : ∀ t, vd NB TY t → ∀ c, 177 ≤ c → c ≤ 183 → w1 c t = mi c t := fun t ht c h1 h2 => MKP_v w1f i2 hTY.1 ht h1 h2
    have hC1 : TC NB w1 ml := TC_c hC (w1f 1 1 (by omega) (by omega) (by omega)) (fun t ht => hv1 t (.inl ht)) (fun _ _ => rfl)
    have hD1 := DN_c i7 (n := w1) (fun t ht => hv1 t (.inl ht))
    have hra := hput w1a hC1 hD1 o2 w1d w1g
    have hW1 := TX_W w1a
    have hsp : SHV w1 p = SHV mi p := SHV_c hW hv1 hp
    have hp0 := (SHV_r hW hp hpd).1.1
    have hra8 := vd_lt w1d i2 w1a.1.2.1.2
    refine bk_X12_callType_133 (mm_call_m _) (fun _ => vg) (fun z => ?_) (fun z => hQ w1 (-1) T1 w1a w1b (by omega) w1f (.inl ⟨rfl, ?_⟩))
    · have hrp : p = ra := nI_inj (by omega) (by omega) z
      subst hrp
      have hKK : CSK NF mi ml f n (SHV mi p) := ⟨⟨hgt, by rw [egc]; exact hl⟩, ⟨hA, hB⟩, fun q => by rw [q, mm_lln] at hp0; omega, by rw [egc, ex, ← hsp]; exact hra⟩
      have hCS : CSH NF mi ml f n (SHV mi p) = f_with (ml 2 y) (SHO ml (mi 191 n)) (SHO ml (mi 192 n)) := by
        unfold CSH
        rw [pik_t hKK, egc, ey]
      rw [eg, hk1 196 g (by decide), o6]
      refine sx_put w1a hD1 o5 (fun q => ?_) (fun q => ?_) (by omega) (fun w2 r T2 w2a w2b w2c w2d w2e w2f w2g => bk_X12_callType_152 (mm_call_m _) (hQ w2 (nI r) T2 w2a (by omega) (by omega) (MKP_t w1f w1b w2f) (.inr ⟨r, rfl, w2d, ?_⟩)))
      · rw [hv1 y (.inl o5) 181 (by decide) (by decide)] at q
        obtain ⟨t, t1, t2⟩ := hLA o7 q
        exact ⟨t, .inl t1, t2⟩
      · rw [hv1 y (.inl o5) 182 (by decide) (by decide)] at q
        obtain ⟨t, t1, t2⟩ := hLB o7 q
        exact ⟨t, .inl t1, t2⟩
      · have hv2 : ∀ t, t < NB → ∀ c, 177 ≤ c → c ≤ 183 → w2 c t = w1 c t := fun t ht c h1 h2 => MKP_v w2f i2 w1a.1.2.1.1 (.inl ht) h1 h2
        have hC2 : TC NB w2 ml := TC_c hC1 (w2f 1 1 (by omega) (by omega) (by omega)) hv2 (fun _ _ => rfl)
        rw [hCS]
        exact hput w2a hC2 (DN_c hD1 hv2) o5 w2d w2g
    · unfold CSH
      rw [pik_f]
      intro hKK
      have e := hKK.2.2.2
      rw [egc, ex, ← hra, ← hsp] at e
      have hd1 : (w1 180 p).toInt ≤ 5 := by rw [hv1 p hp 180 (by decide) (by decide)]; exact hpd
      exact z ((SHV_iff hW1 w1a.2.2 (vd_le hp w1b) w1d hd1).mp e)
theorem sx_callType {f n p : Nat} (hI : IM mi NB ND NF) (hT : TX mi NB TY) (hC : TC NB mi ml) (hf : f < NF) (hn : n < ND) (hk : mi 188 n = 14) (hp : vd NB TY p) (hpd : (mi 180 p).toInt ≤ 5) (hpv : mi 198 (mi 190 n).toNatClampNeg = nI p) (hb : TY ≤ 7970) (hQ : ∀ w v TZ, TX w NB TZ → TY ≤ TZ → TZ ≤ TY + 30 → MKP TY mi w → ((v = -1 ∧ CSH NF mi ml f n (SHV mi p) = -1) ∨ ∃ r, v = nI r ∧ vd NB TZ r ∧ SHV w r = CSH NF mi ml f n (SHV mi p)) → Q (some (mm_I v)) w ml) : mm_cq (mm_call mm_ms (mm_tb L xs) (d + 6)) 192 [mm_R 176, mm_I (nI f), mm_I (nI n)] mi ml Q := by
  obtain ⟨⟨⟨i1, i2⟩, i3, i4⟩, ⟨i5a, i5b, i5c⟩, i6, i7, i8, i9, i10⟩ := id hI
  obtain ⟨b1, b2, b3, b4, b5⟩ := i8 n hn
  obtain ⟨c1, c2, c3, c4, c5⟩ := b5 hk
  obtain ⟨g, eg, g12, -, -⟩ := mm_of c1.1 c1.2
  have vn : vp_in (nI n) 200 := vp_in_nI (by omega) (by decide)
  have en : (nI n).toNatClampNeg = n := nI_clamp (by omega)
  have egc : (nI g).toNatClampNeg = g := nI_clamp (by omega)
  have efc : (nI f).toNatClampNeg = f := nI_clamp (by omega)
  have vf : vp_in (nI f) 12 := vp_in_nI (by omega) (by decide)
  have hno : ∀ {x4 x5 x6 x3 : Int32}, ¬ CSK NF mi ml f n (SHV mi p) → mm_WQ (mm_call mm_ms (mm_tb L xs) (d + 5)) (mm_tb L xs) mm_m192 (mm_li mm_m192) Q 106 [some (mm_R 176), some (mm_I (nI f)), some (mm_I (nI n)), some (mm_I x3), some (mm_I x4), some (mm_I x5), some (mm_I x6)] [] mi ml := fun hc => bk_X12_callType_106 (mm_call_m _) (hQ mi (-1) TY hT (Nat.le_refl _) (by omega) MKP_r (.inl ⟨rfl, by unfold CSH; rw [pik_f hc]⟩))
  have hgo : ∀ x6 : Int32, x6 = nlt mi n → (0 < x6.toInt → ¬ mi 191 n = -1) → (1 < x6.toInt → ¬ mi 192 n = -1) → (x6.toInt ≤ 0 → mi 191 n = -1) → (x6.toInt ≤ 1 → mi 192 n = -1) → mm_cq (mm_call mm_ms (mm_tb L xs) (d + 5)) 184 [mm_R 176, mm_I (nI g)] mi ml (fun o n1 n2 => mm_WQ (mm_call mm_ms (mm_tb L xs) (d + 5)) (mm_tb L xs) mm_m192 (mm_li mm_m192) Q 51 [some (mm_R 176), some (mm_I (nI f)), some (mm_I (nI n)), some (mm_I (nI g)), some (mm_I (mi 191 n)), some (mm_I (mi 192 n)), some (mm_I x6)] (o.toList ++ []) n1 n2) := by
    intro x6 hx6 h4 h5 h6 h7
    refine sp_X12_isFunction (by rw [i5c, mm_tI (by omega)]; omega) (fun q1 q2 => ?_) (fun q => bk_X12_callType_51 (s0 := 0) (mm_call_m _) (fun _ => hno (fun z => ?_)) (fun z => absurd rfl z) (fun z => absurd rfl z) (fun z => absurd rfl z) (fun z => absurd rfl z) (fun z => absurd rfl z))
    · have hg : g < NF := by
        rw [i5c, mm_tI (show NF < 2 ^ 31 by omega), mm_tI (show g < 2 ^ 31 by omega)] at q2
        omega
      -- behind the first type's letters
      have h85 : mi 194 g = x6 → (mi 191 n = -1 ∨ wthn mi (mi 191 n).toNatClampNeg (mi 194 f)) → mm_WQ (mm_call mm_ms (mm_tb L xs) (d + 5)) (mm_tb L xs) mm_m192 (mm_li mm_m192) Q 85 [some (mm_R 176), some (mm_I (nI f)), some (mm_I (nI n)), some (mm_I (nI g)), some (mm_I (mi 191 n)), some (mm_I (mi 192 n)), some (mm_I x6)] [] mi ml := by
        intro hl hA
        refine bk_X12_callType_85 (mm_call_m _) (fun z => ?_) (fun _ => vf) (fun z => ?_) <;> rw [Int32.le_iff_toInt_le, mm_tt1] at z
        · exact callx_108 hI hT hC hn hk hg eg (hl.trans hx6) hA (.inl (h7 z)) hp hpd hpv hb hQ
        · obtain ⟨t, t1, t2⟩ := c4.resolve_left (h5 (by omega))
          have et : (mi 192 n).toNatClampNeg = t := by rw [t2, nI_clamp (by omega)]
          rw [efc]
          have : mm_cq (mm_call mm_ms (mm_tb L xs) (d + 5)) 180 [mm_R 176, mm_I (nI t), mm_I (mi 194 f)] mi ml (fun o n1 n2 => mm_WQ (mm_call mm_ms (mm_tb L xs) (d + 5)) (mm_tb L xs) mm_m192 (mm_li mm_m192) Q 103 [some (mm_R 176), some (mm_I (nI f)), some (mm_I (nI n)), some (mm_I (nI g)), some (mm_I (mi 191 n)), some (mm_I (mi 192 n)), some (mm_I x6)] (o.toList ++ []) n1 n2) := sp_X12_isWithin (by omega) (fun hw => bk_X12_callType_103 (s0 := 1) (mm_call_m _) (fun _ => callx_108 hI hT hC hn hk hg eg (hl.trans hx6) hA (.inr (by rw [et]; exact hw)) hp hpd hpv hb hQ) (fun q => absurd q (by decide))) (fun hw => bk_X12_callType_103 (s0 := 0) (mm_call_m _) (fun q => absurd rfl q) (fun _ => hno (fun z2 => by
            rcases z2.2.1.2 with z3 | z3
            · exact h5 (by omega) z3
            · rw [et] at z3
              exact hw z3)))
          rw [← t2] at this
          exact this
      refine bk_X12_callType_51 (s0 := 1) (mm_call_m _) (fun q => absurd q (by decide)) (fun _ => vp_in_nI (by omega) (by decide)) (fun _ z => hno (fun z2 => ?_)) (fun _ z w => ?_) (fun _ _ _ => vf) (fun _ z w => ?_)
      · rw [egc] at z
        have := z2.1.2
        rw [eg, egc] at this
        exact z (this.trans hx6.symm)
      · rw [egc] at z
        rw [Int32.le_iff_toInt_le, mm_tt0] at w
        exact h85 z (.inl (h6 w))
      · rw [egc] at z
        rw [Int32.le_iff_toInt_le, mm_tt0] at w
        obtain ⟨t, t1, t2⟩ := c3.resolve_left (h4 (by omega))
        have et : (mi 191 n).toNatClampNeg = t := by rw [t2, nI_clamp (by omega)]
        rw [efc]
        have : mm_cq (mm_call mm_ms (mm_tb L xs) (d + 5)) 180 [mm_R 176, mm_I (nI t), mm_I (mi 194 f)] mi ml (fun o n1 n2 => mm_WQ (mm_call mm_ms (mm_tb L xs) (d + 5)) (mm_tb L xs) mm_m192 (mm_li mm_m192) Q 82 [some (mm_R 176), some (mm_I (nI f)), some (mm_I (nI n)), some (mm_I (nI g)), some (mm_I (mi 191 n)), some (mm_I (mi 192 n)), some (mm_I x6)] (o.toList ++ []) n1 n2) := sp_X12_isWithin (by omega) (fun hw => bk_X12_callType_82 (s0 := 1) (mm_call_m _) (fun q => absurd q (by decide)) (fun _ => h85 z (.inr (by rw [et]; exact hw)))) (fun hw => bk_X12_callType_82 (s0 := 0) (mm_call_m _) (fun _ => hno (fun z2 => by
          rcases z2.2.1.1 with z3 | z3
          · exact h4 (by omega) z3
          · rw [et] at z3
            exact hw z3)) (fun q => absurd rfl q))
        rw [← t2] at this
        exact this
    · have := z.1.1
      rw [eg, mm_tI (by omega)] at this
      rw [i5c, mm_tI (show NF < 2 ^ 31 by omega), mm_tI (show g < 2 ^ 31 by omega)] at q
      omega
  have e0 : (0 : Int32).toInt = 0 := rfl
  have e1 : (1 : Int32).toInt = 1 := rfl
  have e2 : (2 : Int32).toInt = 2 := rfl
  refine en_X12_callType (bk_X12_callType_0 (mm_call_m _) vn vn vn (fun z w => ?_) (fun z w => ?_) (fun z => ?_)) <;> rw [en] at z ⊢ <;> rw [eg]
  · rw [en] at w
    refine hgo 2 ?_ (fun _ => z) (fun _ => w) (fun q => absurd q (by rw [e2]; omega)) (fun q => absurd q (by rw [e2]; omega))
    unfold nlt
    rw [if_neg z, if_neg w]
  · rw [en] at w
    refine hgo 1 ?_ (fun _ => z) (fun q => absurd q (by rw [e1]; omega)) (fun q => absurd q (by rw [e1]; omega)) (fun _ => w)
    unfold nlt
    rw [if_neg z, if_pos w]
  · refine hgo 0 ?_ (fun q => absurd q (by rw [e0]; omega)) (fun q => absurd q (by rw [e0]; omega)) (fun _ => z) (fun _ => c5 z)
    unfold nlt
    rw [if_pos z]
end MMK
