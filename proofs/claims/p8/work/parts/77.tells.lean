/-! ===== tells(), lengthOf(), tellsAll() of the model ===== -/
def TT (m : mm_P) (A B : Nat → Int32) (w : mm_P) (r : Nat) : Prop := RF m w ∧ (∀ a, w 212 a = A a ∧ w 213 a = B a) ∧ w 176 51 = nI r ∧ r ≤ 100
theorem TT_u {m w : mm_P} {A B : Nat → Int32} {r c i : Nat} {x : Int32} (h : TT m A B w r) (hc : 214 ≤ c) : TT m A B (mm_u w c i x) r := by
  obtain ⟨h1, h2, h3, h4⟩ := h
  refine ⟨RF_u h1 (by omega), fun a => ?_, (mm_u_e (by omega)).trans h3, h4⟩
  rw [mm_u_e (by omega), mm_u_e (by omega)]
  exact h2 a
theorem TT_s {m w : mm_P} {A B : Nat → Int32} {r h : Nat} {S : ST} {v : Int32} (q : TT m A B w r) : S (w 212) (w 213) h v ↔ S A B h v := by
  have e1 : w 212 = A := funext (fun a => (q.2.1 a).1)
  have e2 : w 213 = B := funext (fun a => (q.2.1 a).2)
  rw [e1, e2]
section MMT
variable {L : Nat} {xs : Nat → Int32} {d : Nat} {Q : mm_QQ} {ml : mm_G} {lim : Nat × Nat}
theorem sp_tells {m w : mm_P} {A B : Nat → Int32} {r : Nat} {x : Int32} (h : TT m A B w r) (hQ : ∀ w' r', TT m A B w' r' → (∀ c i, 219 ≤ c → w' c i = w c i) → Q none w' ml) : mm_cq (mm_call mm_ms (mm_tb L xs) (d + 1)) 218 [mm_R 176, mm_I x] w ml Q := by
  obtain ⟨h1, h2, h3, h4⟩ := id h
  have hr : ¬ 100 ≤ w 176 51 → r < 100 := fun z => by
    have z' := mm_nleI z
    rw [h3, mm_tI (by omega), mm_tt100] at z'
    omega
  refine en_X12_tells (bk_X12_tells_0 (mm_call_m _) (fun _ => bk_X12_tells_29 (mm_call_m _) (hQ w r h (fun _ _ _ => rfl))) (fun z => ?_) (fun z => bk_X12_tells_29 (mm_call_m _) (hQ _ (r + 1) ?_ (fun c i q => ?_))))
  · rw [h3]
    exact vp_in_nI (hr z) (by decide)
  · have := hr z
    refine ⟨RF_u (RF_u h1 (by omega)) (by omega), fun a => ?_, ?_, by omega⟩
    · rw [mm_u_e (by decide), mm_u_e (by decide), mm_u_e (by decide), mm_u_e (by decide)]
      exact h2 a
    · rw [mm_u_s, h3]
      exact (nI_succ r).symm
  · rw [mm_u_e (by omega), mm_u_e (by omega)]
theorem len_4 {P : ST} {A B : Nat → Int32} {h : Nat} {w : mm_P} {x1 : Int32} (hh : h < 6000) (hB : ∀ a, w 213 a = B a) (hQ : ∀ x, Q (some (mm_I x)) w ml) : ∀ (n : Nat) (v x2 : Int32), lsP P n A B h v → mm_WQ (mm_call mm_ms (mm_tb L xs) d) (mm_tb L xs) mm_m219 lim Q 4 [some (mm_R 176), some (mm_I x1), some (mm_I x2), some (mm_I v)] [] w ml := by
  intro n
  induction n with
  | zero =>
    intro v x2 hv
    have e : v = -1 := hv
    exact bk_X12_lengthOf_4 (mm_call_m _) (fun _ => hQ _) (fun z => absurd e z) (fun z => absurd e z)
  | succ n ih =>
    intro v x2 hv
    unfold lsP at hv
    refine bk_X12_lengthOf_4 (mm_call_m _) (fun _ => hQ _) (fun z => ?_) (fun z => ?_)
    · obtain ⟨a, a1, a2, a3, a4⟩ := hv.resolve_left z
      rw [a2]
      exact vp_in_nI (by omega) (by decide)
    · obtain ⟨a, a1, a2, a3, a4⟩ := hv.resolve_left z
      rw [a2, nI_clamp (by omega), hB a]
      exact ih _ _ a4
theorem sp_lengthOf {P : ST} {A B : Nat → Int32} {h : Nat} {w : mm_P} {v : Int32} (hh : h < 6000) (hB : ∀ a, w 213 a = B a) (hv : sLs P A B h v) (hQ : ∀ x, Q (some (mm_I x)) w ml) : mm_cq (mm_call mm_ms (mm_tb L xs) (d + 1)) 219 [mm_R 176, mm_I v] w ml Q := by
  obtain ⟨n, hn⟩ := hv
  exact en_X12_lengthOf (bk_X12_lengthOf_0 (mm_call_m _) (len_4 hh hB hQ n v _ hn))
variable {x1 x2 : Int32}
/-- the entry on top of the row of what is to be told -/
theorem tell_28 {n t : Nat} {w : mm_P} {v : Int32} {x4 x5 : Option mm_V} (hn : n < 15) (ht : t < 8000) (h219 : w 219 n = nI t) (h220 : w 220 n = v) (hex : Q none w ml)
    (h1 : ¬ 2 ≤ w 177 t → mm_cq (mm_call mm_ms (mm_tb L xs) d) 218 [mm_R 176, mm_I v] w ml (fun o n1 n2 => mm_WQ (mm_call mm_ms (mm_tb L xs) d) (mm_tb L xs) mm_m220 lim Q 77 [some (mm_R 176), some (mm_I x1), some (mm_I x2), some (mm_I (nI n)), some (mm_I (nI t)), some (mm_I v)] (o.toList ++ []) n1 n2))
    (h4 : w 177 t = 4 → vp_in v 6000 ∧ mm_WQ (mm_call mm_ms (mm_tb L xs) d) (mm_tb L xs) mm_m220 lim Q 28 [some (mm_R 176), some (mm_I x1), some (mm_I x2), some (mm_I (nI (n + 2))), some (mm_I (nI t)), some (mm_I v)] [] (mm_u (mm_u (mm_u (mm_u (mm_u (mm_u w 219 n (w 179 t)) 220 n (w 213 v.toNatClampNeg)) 221 n 0) 219 (n + 1) (w 178 t)) 220 (n + 1) (w 212 v.toNatClampNeg)) 221 (n + 1) 0) ml)
    (h5 : 2 ≤ w 177 t → ¬ w 177 t = 4 → w 221 n = 0 → mm_cq (mm_call mm_ms (mm_tb L xs) d) 219 [mm_R 176, mm_I v] w ml (fun o n1 n2 => mm_WQ (mm_call mm_ms (mm_tb L xs) d) (mm_tb L xs) mm_m220 lim Q 182 [some (mm_R 176), some (mm_I x1), some (mm_I x2), some (mm_I (nI n)), some (mm_I (nI t)), some (mm_I v)] (o.toList ++ [mm_R 176]) n1 n2))
    (h6 : 2 ≤ w 177 t → ¬ w 177 t = 4 → ¬ w 221 n = 0 → mm_WQ (mm_call mm_ms (mm_tb L xs) d) (mm_tb L xs) mm_m220 lim Q 185 [some (mm_R 176), some (mm_I x1), some (mm_I x2), some (mm_I (nI n)), some (mm_I (nI t)), some (mm_I v)] [] w ml) :
    mm_WQ (mm_call mm_ms (mm_tb L xs) d) (mm_tb L xs) mm_m220 lim Q 28 [some (mm_R 176), some (mm_I x1), some (mm_I x2), some (mm_I (nI (n + 1))), x4, x5] [] w ml := by
  have hdec : nI (n + 1) + (-1) = nI n := mm_dec n (by omega)
  have en : (nI n).toNatClampNeg = n := nI_clamp (by omega)
  have et : (nI t).toNatClampNeg = t := nI_clamp (by omega)
  have hpos : ¬ nI (n + 1) ≤ 0 := by
    rw [Int32.le_iff_toInt_le, mm_tI (by omega), mm_tt0]
    omega
  have vn : vp_in (nI (n + 1) + (-1)) 16 := by rw [hdec]; exact vp_in_nI (by omega) (by decide)
  have vt : vp_in (w 219 (nI (n + 1) + (-1)).toNatClampNeg) 8000 := by rw [hdec, en, h219]; exact vp_in_nI ht (by decide)
  have vn1 : vp_in (nI (n + 1) + (-1) + 1) 16 := by rw [hdec, show nI n + 1 = nI (n + 1) from (nI_succ n).symm]; exact vp_in_nI (by omega) (by decide)
  refine bk_X12_tellsAll_28 (mm_call_m _) (fun z => absurd z hpos) (fun _ _ => bk_X12_tellsAll_253 (mm_call_m _) hex) (fun _ _ => vn) (fun _ _ => vn) (fun _ _ => vt) (fun _ _ _ => vt) (fun _ _ _ _ => vn) (fun _ _ a b c => ?_) (fun _ _ a b c => ?_) (fun _ _ _ _ => vt) (fun _ _ _ _ => vn) (fun _ _ _ b => ?_) (fun _ _ _ _ => vn) (fun _ _ _ _ => vn) (fun _ _ _ _ => vt) (fun _ _ _ _ => vn1) (fun _ _ _ b => ?_) (fun _ _ _ _ => vn1) (fun _ _ _ _ => vn1) (fun _ _ _ b => bk_X12_tellsAll_250 (mm_call_m _) ?_) (fun _ _ a => ?_)
  · rw [hdec, en, h219, et] at a b
    rw [hdec, en] at c
    rw [hdec, en, h219, h220]
    exact h6 a b c
  · rw [hdec, en, h219, et] at a b
    rw [hdec, en] at c
    rw [hdec, en, h219, h220]
    exact h5 a b c
  · rw [hdec, en, h219, et] at b
    rw [hdec, en, h220]
    exact (h4 b).1
  · rw [hdec, en, h219, et] at b
    rw [hdec, en, h220]
    exact (h4 b).1
  · rw [hdec, en, h219, et] at b
    rw [hdec, en, h219, h220, et, show nI n + 1 = nI (n + 1) from (nI_succ n).symm, show nI (n + 1) + 1 = nI (n + 2) from (nI_succ (n + 1)).symm, nI_clamp (by omega), mm_nb0]
    exact (h4 b).2
  · rw [hdec, en, h219, et] at a
    rw [hdec, en, h219, h220]
    exact h1 a
/-- entries below n are as they were -/
def TE (n : Nat) (w w' : mm_P) : Prop := ∀ c i, 219 ≤ c → c ≤ 221 → i < n → w' c i = w c i
theorem TE_t {n : Nat} {w w' w'' : mm_P} (h : TE n w w') (h2 : TE n w' w'') : TE n w w'' := fun c i a b q => (h2 c i a b q).trans (h c i a b q)
theorem tell_list {NB ND NF n t a h : Nat} {m : mm_P} {A B : Nat → Int32} (hI : IM m NB ND NF) (hh : h < 6000) (hn : n < 14) (ht : t < NB) (h178 : m 178 t = nI a) (ha : a < NB) (k5 : m 177 t = 5) (hE : ∀ w r, TT m A B w r → Q none w ml)
    (run : ∀ {w : mm_P} {v : Int32} {r : Nat} {x4 x5 : Option mm_V}, TT m A B w r → w 219 (n + 1) = nI a → w 220 (n + 1) = v → w 221 (n + 1) = 0 → SVt m sAny sAny a A B h v → (∀ w' r' x4' x5', TT m A B w' r' → TE (n + 1) w w' → mm_WQ (mm_call mm_ms (mm_tb L xs) (d + 1)) (mm_tb L xs) mm_m220 lim Q 28 [some (mm_R 176), some (mm_I x1), some (mm_I x2), some (mm_I (nI (n + 1))), x4', x5'] [] w' ml) → mm_WQ (mm_call mm_ms (mm_tb L xs) (d + 1)) (mm_tb L xs) mm_m220 lim Q 28 [some (mm_R 176), some (mm_I x1), some (mm_I x2), some (mm_I (nI (n + 2))), x4, x5] [] w ml) :
    ∀ (j : Nat) {w0 w : mm_P} {v : Int32} {r : Nat}, lsP (SVt m sAny sAny a) j A B h v → TT m A B w r → w 219 n = nI t → TE n w0 w → (∀ w' r' x4' x5', TT m A B w' r' → TE n w0 w' → mm_WQ (mm_call mm_ms (mm_tb L xs) (d + 1)) (mm_tb L xs) mm_m220 lim Q 28 [some (mm_R 176), some (mm_I x1), some (mm_I x2), some (mm_I (nI n)), x4', x5'] [] w' ml) → mm_WQ (mm_call mm_ms (mm_tb L xs) (d + 1)) (mm_tb L xs) mm_m220 lim Q 185 [some (mm_R 176), some (mm_I x1), some (mm_I x2), some (mm_I (nI n)), some (mm_I (nI t)), some (mm_I v)] [] w ml := by
  have hNB := hI.1.1
  intro j
  induction j with
  | zero =>
    intro w0 w v r hv hT h219 hTE hK
    have e : v = -1 := hv
    exact bk_X12_tellsAll_185 (mm_call_m _) (fun _ => bk_X12_tellsAll_250 (mm_call_m _) (hK w r _ _ hT hTE)) (fun z => absurd e z) (fun z => absurd e z) (fun z => absurd e z) (fun z => absurd e z) (fun z => absurd e z) (fun z => absurd e z) (fun z => absurd e z) (fun z => absurd e z) (fun z => absurd e z)
  | succ j ih =>
    intro w0 w v r hv hT h219 hTE hK
    unfold lsP at hv
    have vn : vp_in (nI n) 16 := vp_in_nI (by omega) (by decide)
    have vn1 : vp_in (nI n + 1) 16 := by rw [show nI n + 1 = nI (n + 1) from (nI_succ n).symm]; exact vp_in_nI (by omega) (by decide)
    have vt : vp_in (nI t) 8000 := vp_in_nI (by omega) (by decide)
    have en : (nI n).toNatClampNeg = n := nI_clamp (by omega)
    have vv : ¬ v = -1 → vp_in v 6000 := fun z => by
      obtain ⟨b, b1, b2, b3, b4⟩ := hv.resolve_left z
      rw [b2]
      exact vp_in_nI (by omega) (by decide)
    refine bk_X12_tellsAll_185 (mm_call_m _) (fun _ => bk_X12_tellsAll_250 (mm_call_m _) (hK w r _ _ hT hTE)) (fun z => vv z) (fun _ => vn) (fun _ => vn) (fun _ => vt) (fun _ => vn1) (fun z => vv z) (fun _ => vn1) (fun _ => vn1) (fun z => bk_X12_tellsAll_250 (mm_call_m _) ?_)
    obtain ⟨b, b1, b2, b3, b4⟩ := hv.resolve_left z
    have e178 : w 178 t = nI a := (hT.1.1 178 t (by decide) (by decide)).trans h178
    have e77 : w 177 t = 5 := (hT.1.1 177 t (by decide) (by decide)).trans k5
    rw [b2, en, nI_clamp (by omega), nI_clamp (by omega), show nI n + 1 = nI (n + 1) from (nI_succ n).symm, show nI (n + 1) + 1 = nI (n + 2) from (nI_succ (n + 1)).symm, nI_clamp (by omega), mm_nb0, (hT.2.1 b).1, (hT.2.1 b).2, e178]
    have hT' : TT m A B (mm_u (mm_u (mm_u (mm_u (mm_u w 220 n (B b)) 221 n (vp_nar .boolean 1)) 219 (n + 1) (nI a)) 220 (n + 1) (A b)) 221 (n + 1) 0) r := TT_u (TT_u (TT_u (TT_u (TT_u hT (by decide)) (by decide)) (by decide)) (by decide)) (by decide)
    have hu : ∀ c i, i < n → mm_u (mm_u (mm_u (mm_u (mm_u w 220 n (B b)) 221 n (vp_nar .boolean 1)) 219 (n + 1) (nI a)) 220 (n + 1) (A b)) 221 (n + 1) 0 c i = w c i := fun c i q => by
      rw [mm_u_o (by omega), mm_u_o (by omega), mm_u_o (by omega), mm_u_o (by omega), mm_u_o (by omega)]
    refine run (v := A b) hT' ?_ ?_ mm_u_s b3 (fun w' r' y4 y5 q1 q2 => ?_)
    · rw [mm_u_e (by decide), mm_u_e (by decide), mm_u_s]
    · rw [mm_u_e (by decide), mm_u_s]
    · have f219 : w' 219 n = nI t := by
        rw [q2 219 n (by decide) (by decide) (by omega), mm_u_o (by omega), mm_u_o (by omega), mm_u_o (by omega), mm_u_o (by omega), mm_u_o (by omega)]
        exact h219
      have f220 : w' 220 n = B b := by
        rw [q2 220 n (by decide) (by decide) (by omega), mm_u_o (by omega), mm_u_o (by omega), mm_u_o (by omega), mm_u_o (by omega), mm_u_s]
      have f221 : ¬ w' 221 n = 0 := by
        rw [q2 221 n (by decide) (by decide) (by omega), mm_u_o (by omega), mm_u_o (by omega), mm_u_o (by omega), mm_u_s]
        decide
      have g77 : w' 177 t = 5 := (q1.1.1 177 t (by decide) (by decide)).trans k5
      refine tell_28 (t := t) (v := B b) (by omega) (by omega) f219 f220 (hE w' r' q1) (fun z => ?_) (fun z => ?_) (fun _ _ z => absurd z f221) (fun _ _ _ => ih b4 q1 f219 (TE_t hTE (fun c i x y q => (q2 c i x y (by omega)).trans (hu c i q))) hK)
      · rw [g77] at z
        exact absurd z (by decide)
      · rw [g77] at z
        exact absurd z (by decide)
theorem tell_run {NB ND NF h : Nat} {m : mm_P} {A B : Nat → Int32} (hI : IM m NB ND NF) (hh : h < 6000) (hE : ∀ w r, TT m A B w r → Q none w ml) : ∀ (k : Nat) {n t : Nat} {w : mm_P} {v : Int32} {r : Nat} {x4 x5 : Option mm_V}, n + k < 14 → t < NB → m 181 t = 0 → m 182 t = 0 → (m 180 t).toInt ≤ k + 1 → TT m A B w r → w 219 n = nI t → w 220 n = v → w 221 n = 0 → SVt m sAny sAny t A B h v → (∀ w' r' x4' x5', TT m A B w' r' → TE n w w' → mm_WQ (mm_call mm_ms (mm_tb L xs) (d + 1)) (mm_tb L xs) mm_m220 lim Q 28 [some (mm_R 176), some (mm_I x1), some (mm_I x2), some (mm_I (nI n)), x4', x5'] [] w' ml) → mm_WQ (mm_call mm_ms (mm_tb L xs) (d + 1)) (mm_tb L xs) mm_m220 lim Q 28 [some (mm_R 176), some (mm_I x1), some (mm_I x2), some (mm_I (nI (n + 1))), x4, x5] [] w ml := by
  have hNB := hI.1.1
  have hTW := TW_I hI
  have hD := hI.2.2.2.1
  intro k
  induction k with
  | zero =>
    intro n t w v r x4 x5 hn ht hc1 hc2 hk hT h219 h220 h221 hv hK
    have e77 : w 177 t = m 177 t := hT.1.1 177 t (by decide) (by decide)
    have hb : m 177 t = 0 ∨ m 177 t = 1 := by
      rcases hI.2.2.1 t ht with q | ⟨a, q1, q2, q3⟩ | ⟨a, b, q1, q2, q3, q4, q5⟩
      · exact bs_cl q hc1 hc2
      · exfalso
        have da := hD a (by omega)
        rw [q3.2.2.2.1, mm_1p (by omega) (by omega)] at hk
        omega
      · exfalso
        have da := hD a (by omega)
        have db := hD b (by omega)
        have hm' := f_most_r (x := m 180 a) (y := m 180 b) (lo := 1) (hi := 5) da.1 db.1
        rw [q5.2.2.2.1, mm_1p (by omega) (by omega)] at hk
        omega
    have h2 : ¬ 2 ≤ w 177 t := by rw [e77]; rcases hb with e | e <;> (rw [e]; decide)
    refine tell_28 (t := t) (v := v) (by omega) (by omega) h219 h220 (hE w r hT) (fun _ => sp_tells hT (fun w' r' q1 q2 => bk_X12_tellsAll_77 (mm_call_m _) (bk_X12_tellsAll_250 (mm_call_m _) (hK w' r' _ _ q1 (fun c i a b q => q2 c i a))))) (fun z => ?_) (fun z => absurd z h2) (fun z => absurd z h2)
    rw [e77] at z
    rcases hb with e | e <;> (rw [e] at z; exact absurd z (by decide))
  | succ k ih =>
    intro n t w v r x4 x5 hn ht hc1 hc2 hk hT h219 h220 h221 hv hK
    have e77 : w 177 t = m 177 t := hT.1.1 177 t (by decide) (by decide)
    have e78 : w 178 t = m 178 t := hT.1.1 178 t (by decide) (by decide)
    have e79 : w 179 t = m 179 t := hT.1.1 179 t (by decide) (by decide)
    refine tell_28 (t := t) (v := v) (by omega) (by omega) h219 h220 (hE w r hT) (fun _ => sp_tells hT (fun w' r' q1 q2 => bk_X12_tellsAll_77 (mm_call_m _) (bk_X12_tellsAll_250 (mm_call_m _) (hK w' r' _ _ q1 (fun c i a b q => q2 c i a))))) (fun z => ?_) (fun z z2 _ => ?_) (fun _ _ z => absurd h221 z)
    · rw [e77] at z
      obtain ⟨a, b, a1, a2, a3, a4, a5, a6, a7, a8⟩ := SVt_4 (SA := sAny) (SB := sAny) hTW (.inl ht) z
      have da := hD a (by omega)
      have db := hD b (by omega)
      have hm' := f_most_r (x := m 180 a) (y := m 180 b) (lo := 1) (hi := 5) da.1 db.1
      have hk' := hk
      rw [a8.2.2.2.1, mm_1p (by omega) (by omega)] at hk'
      obtain ⟨⟨c1, c2⟩, c3, c4⟩ := cl_4 hD (by omega) (by omega) a8 hc1 hc2
      rw [a7] at hv
      obtain ⟨p, p1, p2, p3, p4⟩ := hv
      rw [p2]
      refine ⟨vp_in_nI (by omega) (by decide), ?_⟩
      rw [nI_clamp (by omega), (hT.2.1 p).1, (hT.2.1 p).2, e78, e79, a5, a6]
      have hT' : TT m A B (mm_u (mm_u (mm_u (mm_u (mm_u (mm_u w 219 n (nI b)) 220 n (B p)) 221 n 0) 219 (n + 1) (nI a)) 220 (n + 1) (A p)) 221 (n + 1) 0) r := TT_u (TT_u (TT_u (TT_u (TT_u (TT_u hT (by decide)) (by decide)) (by decide)) (by decide)) (by decide)) (by decide)
      refine ih (n := n + 1) (t := a) (v := A p) (by omega) (by omega) c1 c2 (by omega) hT' ?_ ?_ mm_u_s p3 (fun w' r' y4 y5 q1 q2 => ?_)
      · rw [mm_u_e (by decide), mm_u_e (by decide), mm_u_s]
      · rw [mm_u_e (by decide), mm_u_s]
      · refine ih (n := n) (t := b) (v := B p) (by omega) (by omega) c3 c4 (by omega) q1 ?_ ?_ ?_ p4 (fun w'' r'' y4 y5 g1 g2 => hK w'' r'' y4 y5 g1 (fun c i x y q => ?_))
        · rw [q2 219 n (by decide) (by decide) (by omega), mm_u_o (by omega), mm_u_o (by omega), mm_u_o (by omega), mm_u_o (by omega), mm_u_o (by omega), mm_u_s]
        · rw [q2 220 n (by decide) (by decide) (by omega), mm_u_o (by omega), mm_u_o (by omega), mm_u_o (by omega), mm_u_o (by omega), mm_u_s]
        · rw [q2 221 n (by decide) (by decide) (by omega), mm_u_o (by omega), mm_u_o (by omega), mm_u_o (by omega), mm_u_s]
        · rw [g2 c i x y q, q2 c i x y (by omega), mm_u_o (by omega), mm_u_o (by omega), mm_u_o (by omega), mm_u_o (by omega), mm_u_o (by omega), mm_u_o (by omega)]
    · rw [e77] at z z2
      have k5 : m 177 t = 5 := by
        rcases hI.2.2.1 t ht with q | ⟨a, q1, q2, q3⟩ | ⟨a, b, q1, q2, q3, q4, q5⟩
        · rcases bs_cl q hc1 hc2 with e | e <;> (rw [e] at z; exact absurd z (by decide))
        · exact q3.1
        · exact absurd q5.1 z2
      obtain ⟨a, a1, a2, a3, a4, a8⟩ := SVt_5 (SA := sAny) (SB := sAny) hTW (.inl ht) k5
      have da := hD a (by omega)
      have hk' := hk
      rw [a8.2.2.2.1, mm_1p (by omega) (by omega)] at hk'
      obtain ⟨c1, c2⟩ := cl_5 hD (by omega) a8 hc1 hc2
      rw [a4] at hv
      refine sp_lengthOf hh (fun a => (hT.2.1 a).2) hv (fun x => bk_X12_tellsAll_182 (mm_call_m _) (sp_tells hT (fun w' r' q1 q2 => ?_)))
      obtain ⟨j, hj⟩ := hv
      exact tell_list (h := h) hI hh (by omega) ht a3 (by omega) k5 hE (fun {w v r x4 x5} b1 b2 b3 b4 b5 b6 => ih (n := n + 1) (t := a) (v := v) (by omega) (by omega) c1 c2 (by omega) b1 b2 b3 b4 b5 b6) j hj q1 ((q2 219 n (by decide)).trans h219) (fun c i x y q => q2 c i x) hK
/-- tellsAll() of a type without letters -/
theorem sp_tellsAll {NB ND NF h t : Nat} {m w : mm_P} {v : Int32} (hI : IM m NB ND NF) (hh : h < 6000) (hp : RF m w) (ht : t < NB) (hc1 : m 181 t = 0) (hc2 : m 182 t = 0) (hv : SVt m sAny sAny t (w 212) (w 213) h v) (hQ : ∀ w' r, RF m w' → w' 176 51 = nI r → r ≤ 100 → Q none w' ml) : mm_cq (mm_call mm_ms (mm_tb L xs) (d + 2)) 220 [mm_R 176, mm_I (nI t), mm_I v] w ml Q := by
  have v0 : vp_in 0 16 := vp_in_nI (n := 0) (by decide) (by decide)
  have e0 : ((0 : Int32).toNatClampNeg) = 0 := rfl
  have hE : ∀ w' r, TT m (w 212) (w 213) w' r → Q none w' ml := fun w' r q => hQ w' r q.1 q.2.2.1 q.2.2.2
  have hT0 : TT m (w 212) (w 213) (mm_u w 176 51 0) 0 := ⟨RF_u hp (by omega), fun a => ⟨mm_u_e (by decide), mm_u_e (by decide)⟩, mm_u_s, by decide⟩
  refine en_X12_tellsAll (bk_X12_tellsAll_0 (mm_call_m _) v0 v0 v0 ?_)
  rw [mm_nb0, e0]
  have hD := hI.2.2.2.1 t ht
  refine tell_run (h := h) hI hh hE 4 (n := 0) (t := t) (v := v) (r := 0) (by decide) ht hc1 hc2 (by omega) (TT_u (TT_u (TT_u hT0 (by decide)) (by decide)) (by decide)) ?_ ?_ mm_u_s hv (fun w' r' y4 y5 q1 q2 => ?_)
  · rw [mm_u_e (by decide), mm_u_e (by decide), mm_u_s]
  · rw [mm_u_e (by decide), mm_u_s]
  · have hle : nI 0 ≤ 0 := by decide
    exact bk_X12_tellsAll_28 (mm_call_m _) (fun _ => bk_X12_tellsAll_253 (mm_call_m _) (hE w' r' q1)) (fun z => absurd hle z) (fun z => absurd hle z) (fun z => absurd hle z) (fun z => absurd hle z) (fun z => absurd hle z) (fun z => absurd hle z) (fun z => absurd hle z) (fun z => absurd hle z) (fun z => absurd hle z) (fun z => absurd hle z) (fun z => absurd hle z) (fun z => absurd hle z) (fun z => absurd hle z) (fun z => absurd hle z) (fun z => absurd hle z) (fun z => absurd hle z) (fun z => absurd hle z) (fun z => absurd hle z) (fun z => absurd hle z) (fun z => absurd hle z)
end MMT
