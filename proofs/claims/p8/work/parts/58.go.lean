/-! ===== goThrough() of the model ===== -/
/-- the type that the rows tell of part i of node j; -1: it has none -/
def tpv (w : mm_P) (j : Nat) (i : Int32) : Int32 := if i.toInt < (f_parts (w 188 j)).toInt then w 198 (f_part w j i).toNatClampNeg else -1
/-- node j has been gone through in function f -/
def tyd (NB NF TY : Nat) (w : mm_P) (f j : Nat) : Prop := w 198 j = -1 ∨ ∃ r, w 198 j = nI r ∧ vd NB TY r ∧ (w 180 r).toInt ≤ 5 ∧ ¬ (1 ≤ (f_parts (w 188 j)).toInt ∧ tpv w j 0 = -1) ∧ ¬ (2 ≤ (f_parts (w 188 j)).toInt ∧ tpv w j 1 = -1) ∧ ¬ (3 ≤ (f_parts (w 188 j)).toInt ∧ tpv w j 2 = -1) ∧ NTy NB NF TY w f j (tpv w j 0) (tpv w j 1) (tpv w j 2) r
/-- what goThrough() may change -/
def GF (m w : mm_P) : Prop := ∀ c i, ¬ (177 ≤ c ∧ c ≤ 187) → ¬ c = 198 → ¬ (c = 176 ∧ i = 1) → w c i = m c i
theorem GF_mkp {TY : Nat} {m w w' : mm_P} (h : GF m w) (h2 : MKP TY w w') : GF m w' := fun c i a b e => (h2 c i (fun q => a (by omega)) (fun q => a (by omega)) e).trans (h c i a b e)
theorem GF_u {n : Nat} {v : Int32} {m w : mm_P} (h : GF m w) : GF m (mm_u w 198 n v) := fun c i a b e => (mm_u_e b).trans (h c i a b e)
def GT (NB NF : Nat) (w0 w : mm_P) (f i TY : Nat) : Prop := PR w0 w ∧ TS w NB TY ∧ TY ≤ 200 + 30 * i ∧ (∀ j, j < i → tyd NB NF TY w f j) ∧ GF w0 w
theorem CT_u {NB NF TY n : Nat} {w : mm_P} {v : Int32} {f k r : Nat} (hN : NB ≤ 200) (hT : 200 ≤ TY) (hr : vd NB TY r) (hp : ¬ (w 190 k).toNatClampNeg = n) (hc : CT NB NF TY w f k r) : CT NB NF TY (mm_u w 198 n v) f k r := by
  obtain ⟨g, g1, g2, g2x, g3, g4, x, y, ra, ex, ey, g5, g6, g7, g8, g9, g10⟩ := hc
  have hu : ∀ c i, ¬ c = 198 → mm_u w 198 n v c i = w c i := fun c i h => mm_u_e h
  have hv : ∀ t, vd NB TY t → ∀ c, 177 ≤ c → c ≤ 183 → mm_u w 198 n v c t = w c t := fun t _ c _ _ => hu c t (by omega)
  have hw : ∀ t l, wthn w t l → wthn (mm_u w 198 n v) t l := fun t l q => by
    unfold wthn
    rw [hu 181 t (by decide), hu 182 t (by decide)]
    exact q
  unfold CT
  rw [hu 189 k (by decide), hu 191 k (by decide), hu 192 k (by decide), hu 190 k (by decide)]
  refine ⟨g, g1, g2, by rw [hu 194 g (by decide)]; exact g2x, fun z => ?_, fun z => ?_, x, y, ra, ex, ey, (hu 195 g (by decide)).trans g5, (hu 196 g (by decide)).trans g6, g7, (mm_u_f hp).trans g8, SB_c hN hT (Nat.le_refl _) hv 4 ex g7 g9, SB_c hN hT (Nat.le_refl _) hv 4 ey hr g10⟩
  · rw [hu 194 g (by decide)] at z
    rw [hu 194 f (by decide)]
    obtain ⟨t, t1, t2, t3⟩ := g3 z
    exact ⟨t, t1, t2, hw t _ t3⟩
  · rw [hu 194 g (by decide)] at z
    rw [hu 194 f (by decide)]
    obtain ⟨t, t1, t2, t3⟩ := g4 z
    exact ⟨t, t1, t2, hw t _ t3⟩
theorem NTy_c {NB ND NF TY TZ n : Nat} {m w : mm_P} {v : Int32} {f k r : Nat} {va vb vc : Int32} (hI : IM m NB ND NF) (hk : k < ND) (hkn : k ≤ n) (hT : 200 ≤ TY) (hl : TY ≤ TZ) (h : MKP TY m w) (hr : vd NB TY r) (hN : NTy NB NF TY m f k va vb vc r) : NTy NB NF TZ (mm_u w 198 n v) f k va vb vc r := by
  have hNB : NB ≤ 200 := hI.1.1.2
  have hv : ∀ t, vd NB TY t → ∀ c, 177 ≤ c → c ≤ 183 → mm_u w 198 n v c t = m c t := fun t ht c h1 h2 => (mm_u_e (by omega)).trans (MKP_v h hNB hT ht h1 h2)
  have hp : ∀ c i, 188 ≤ c → c ≤ 197 → mm_u w 198 n v c i = m c i := fun c i h1 h2 => (mm_u_e (by omega)).trans (MKP_h h h1)
  unfold NTy at hN ⊢
  rw [hp 188 k (by decide) (by decide), hp 195 f (by decide) (by decide), hp 189 k (by decide) (by decide), hv r hr 177 (by decide) (by decide), hv r hr 178 (by decide) (by decide), hv r hr 179 (by decide) (by decide)]
  rcases hN with q | q | q | q | q | q | q | ⟨q, a, a1, a2, a3, a4⟩ | ⟨q, a, a1, a2, a3, a4⟩ | ⟨q, qa, qb, t, t1, t2, t3⟩ | q | ⟨q, q0, a, a1, a2, a3⟩ | ⟨q, a, a1, a2, a3, a4⟩ | q | ⟨q, q0⟩
  · exact .inl q
  · exact .inr (.inl q)
  · exact .inr (.inr (.inl q))
  · exact .inr (.inr (.inr (.inl q)))
  · exact .inr (.inr (.inr (.inr (.inl q))))
  · exact .inr (.inr (.inr (.inr (.inr (.inl q)))))
  · exact .inr (.inr (.inr (.inr (.inr (.inr (.inl q))))))
  · exact .inr (.inr (.inr (.inr (.inr (.inr (.inr (.inl ⟨q, a, a1, vd_le a2 hl, (hv a a2 177 (by decide) (by decide)).trans a3, (hv a a2 178 (by decide) (by decide)).trans a4⟩)))))))
  · exact .inr (.inr (.inr (.inr (.inr (.inr (.inr (.inr (.inl ⟨q, a, a1, vd_le a2 hl, (hv a a2 177 (by decide) (by decide)).trans a3, (hv a a2 179 (by decide) (by decide)).trans a4⟩))))))))
  · refine .inr (.inr (.inr (.inr (.inr (.inr (.inr (.inr (.inr (.inl ⟨q, qa, qb, t, t1, t2, ?_⟩)))))))))
    unfold wthn
    rw [hp 194 f (by decide) (by decide), hv t (.inl t1) 181 (by decide) (by decide), hv t (.inl t1) 182 (by decide) (by decide)]
    exact t3
  · exact .inr (.inr (.inr (.inr (.inr (.inr (.inr (.inr (.inr (.inr (.inl q))))))))))
  · exact .inr (.inr (.inr (.inr (.inr (.inr (.inr (.inr (.inr (.inr (.inr (.inl ⟨q, q0, a, a1, vd_le a2 hl, (hv a a2 177 (by decide) (by decide)).trans a3⟩)))))))))))
  · exact .inr (.inr (.inr (.inr (.inr (.inr (.inr (.inr (.inr (.inr (.inr (.inr (.inl ⟨q, a, a1, vd_le a2 hl, (hv a a2 177 (by decide) (by decide)).trans a3, (hv a a2 178 (by decide) (by decide)).trans a4⟩))))))))))))
  · exact .inr (.inr (.inr (.inr (.inr (.inr (.inr (.inr (.inr (.inr (.inr (.inr (.inr (.inl q)))))))))))))
  · refine .inr (.inr (.inr (.inr (.inr (.inr (.inr (.inr (.inr (.inr (.inr (.inr (.inr (.inr ⟨q, CT_u hNB (by omega) (vd_le hr hl) ?_ (CT_c hI hT hl h hr q0)⟩)))))))))))))
    obtain ⟨b1, b2, b3, b4, b5⟩ := hI.2.2.2.2.1 k hk
    obtain ⟨c1, ⟨p, p1, p2, p3⟩, c3⟩ := b5 q
    rw [MKP_h h (c := 190) (by decide), p2, nI_clamp (by have := hI.1.2.1; omega)]
    omega
theorem f_part_c {m w : mm_P} (hp : ∀ c i, 188 ≤ c → c ≤ 197 → w c i = m c i) {j : Nat} {i : Int32} : f_part w j i = f_part m j i := by
  unfold f_part
  rw [hp 188 j (by decide) (by decide), hp 189 j (by decide) (by decide), hp 190 j (by decide) (by decide), hp 191 j (by decide) (by decide)]
theorem tpv_c {NB ND NF n j : Nat} {m w : mm_P} {v i : Int32} (hI : IM m NB ND NF) (hj : j < ND) (hjn : j ≤ n) (h0 : 0 ≤ i.toInt) (hw : ∀ c i, 188 ≤ c → c ≤ 198 → w c i = m c i) : tpv (mm_u w 198 n v) j i = tpv m j i := by
  have hp : ∀ c i, 188 ≤ c → c ≤ 197 → mm_u w 198 n v c i = m c i := fun c i h1 h2 => (mm_u_e (by omega)).trans (hw c i h1 (by omega))
  unfold tpv
  rw [hp 188 j (by decide) (by decide), f_part_c hp]
  split
  · rename_i q
    obtain ⟨p, p1, p2, -⟩ := f_part_r (hI.2.2.2.2.1 j hj) h0 q
    rw [p2, nI_clamp (by have := hI.1.2.1; omega), mm_u_f (by omega)]
    exact hw 198 p (by decide) (by decide)
  · rfl
theorem GT_st {NB ND NF TY TZ n f : Nat} {w0 w w' : mm_P} {v : Int32} (hI : IM w NB ND NF) (h : GT NB NF w0 w f n TY) (hn : n < ND) (hm : MKP TY w w') (hT : TS w' NB TZ) (hl : TY ≤ TZ) (hl2 : TZ ≤ TY + 30) (hv : v = -1 ∨ ∃ r, v = nI r ∧ vd NB TZ r ∧ (w' 180 r).toInt ≤ 5 ∧ ¬ (1 ≤ (f_parts (w 188 n)).toInt ∧ tpv w n 0 = -1) ∧ ¬ (2 ≤ (f_parts (w 188 n)).toInt ∧ tpv w n 1 = -1) ∧ ¬ (3 ≤ (f_parts (w 188 n)).toInt ∧ tpv w n 2 = -1) ∧ NTy NB NF TZ w' f n (tpv w n 0) (tpv w n 1) (tpv w n 2) r) : GT NB NF w0 (mm_u w' 198 n v) f (n + 1) TZ := by
  obtain ⟨h1, h2, h3, h4, h5⟩ := h
  have hT0 := h2.2.1.1
  have hw : ∀ c i, 188 ≤ c → c ≤ 198 → w' c i = w c i := fun c i q _ => MKP_h hm q
  have hI' : IM w' NB ND NF := IM_c hI (PR_mkp hm hT0)
  have h188 : ∀ j, mm_u w' 198 n v 188 j = w 188 j := fun j => (mm_u_e (by decide)).trans (hw 188 j (by decide) (by decide))
  refine ⟨PR_u (PR_t h1 (PR_mkp hm hT0)) (show pg 198 n = false from rfl), TS_c hT (mm_u_e (by decide)) (mm_u_e (by decide)) (fun c i _ _ => mm_u_e (by omega)), by omega, fun j hj => ?_, GF_u (GF_mkp h5 hm)⟩
  by_cases hjn : j = n
  · subst hjn
    rcases hv with q | ⟨r, q1, q2, q3, q4, q5, q6, q7⟩
    · exact .inl (mm_u_s.trans q)
    · refine .inr ⟨r, mm_u_s.trans q1, q2, ?_, ?_, ?_, ?_, ?_⟩
      · rw [mm_u_e (by decide)]
        exact q3
      · rw [h188, tpv_c hI hn (Nat.le_refl _) (by decide) hw]
        exact q4
      · rw [h188, tpv_c hI hn (Nat.le_refl _) (by decide) hw]
        exact q5
      · rw [h188, tpv_c hI hn (Nat.le_refl _) (by decide) hw]
        exact q6
      · rw [tpv_c hI hn (Nat.le_refl _) (by decide) hw, tpv_c hI hn (Nat.le_refl _) (by decide) hw, tpv_c hI hn (Nat.le_refl _) (by decide) hw]
        exact NTy_c hI' hn (Nat.le_refl _) (by omega) (Nat.le_refl _) MKP_r q2 q7
  · have hj' : j < n := by omega
    rcases h4 j hj' with q | ⟨r, q1, q2, q3, q4, q5, q6, q7⟩
    · exact .inl ((mm_u_f hjn).trans ((hw 198 j (by decide) (by decide)).trans q))
    · refine .inr ⟨r, (mm_u_f hjn).trans ((hw 198 j (by decide) (by decide)).trans q1), vd_le q2 hl, ?_, ?_, ?_, ?_, ?_⟩
      · rw [mm_u_e (by decide), MKP_v hm hI.1.1.2 hT0 q2 (by decide) (by decide)]
        exact q3
      · rw [h188, tpv_c hI (by omega) (by omega) (by decide) hw]
        exact q4
      · rw [h188, tpv_c hI (by omega) (by omega) (by decide) hw]
        exact q5
      · rw [h188, tpv_c hI (by omega) (by omega) (by decide) hw]
        exact q6
      · rw [tpv_c hI (by omega) (by omega) (by decide) hw, tpv_c hI (by omega) (by omega) (by decide) hw, tpv_c hI (by omega) (by omega) (by decide) hw]
        exact NTy_c hI (by omega) (by omega) hT0 hl hm q2 q7
