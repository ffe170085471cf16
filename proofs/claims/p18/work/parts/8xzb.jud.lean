/-! ===== run(): what it comes to, out of the program and its input ===== -/
theorem ev_s {m : mm_P} {k n : Nat} {arg : Int32} {A B : HF} {h s l o : Nat} : ev m (k + 1) arg n A B h s l o = (if s = 600 then (2, 0, A, B, h, s, l, o) else if m 188 n = 0 ∨ m 188 n = 1 then (0, m 189 n, A, B, h, s + 1, l, o) else if m 188 n = 2 then (0, arg, A, B, h, s + 1, l, o) else if m 188 n = 9 then (0, -1, A, B, h, s + 1, l, o) else (match ev m k arg (f_part m n 0).toNatClampNeg A B h (s + 1) l o with
      | (e, v, A', B', h', s', l', o') => if e = 0 then ev2 m (ev m k) arg n v A' B' h' s' l' o' else (e, v, A', B', h', s', l', o'))) := rfl
theorem ev2_c {m w : mm_P} {E : ZE} (h : ∀ c i, 188 ≤ c → c ≤ 197 → w c i = m c i) {arg : Int32} {n : Nat} {v : Int32} {A B : HF} {hh s l o : Nat} : ev2 w E arg n v A B hh s l o = ev2 m E arg n v A B hh s l o := by
  unfold ev2 ev3
  rw [h 188 n (by decide) (by decide), h 189 n (by decide) (by decide), h 190 n (by decide) (by decide), h 191 n (by decide) (by decide), h 197 _ (by decide) (by decide)]
theorem ev_c {m w : mm_P} (h : ∀ c i, 188 ≤ c → c ≤ 197 → w c i = m c i) : ∀ k, ev w k = ev m k := by
  intro k
  induction k with
  | zero => rfl
  | succ k ih =>
    funext arg n A B hh s l o
    have ep : f_part w n 0 = f_part m n 0 := f_part_c (fun c i x y => h c i (by omega) (by omega))
    rw [ev_s, ev_s, ih, ep, h 188 n (by decide) (by decide), h 189 n (by decide) (by decide)]
    generalize ev m k arg (f_part m n 0).toNatClampNeg A B hh (s + 1) l o = R
    obtain ⟨e, v, A', B', h', s', l', o'⟩ := R
    show (if s = 600 then _ else if m 188 n = 0 ∨ m 188 n = 1 then _ else if m 188 n = 2 then _ else if m 188 n = 9 then _ else if e = 0 then ev2 w (ev m k) arg n v A' B' h' s' l' o' else (e, v, A', B', h', s', l', o')) = _
    rw [ev2_c h]
theorem rdN_c {F G : Nat → ZRE} : ∀ (n : Nat) {A B : HF} {h e : Nat}, (∀ i, i < n → F i = G i) → rdN F n A B h e = rdN G n A B h e
  | 0, _, _, _, _, _ => rfl
  | n + 1, A, B, h, e, hF => by
    show (match rdN F n A B h e with
    | (vs, A1, B1, h1, e1) => match F n A1 B1 h1 e1 with
      | (v, A2, B2, h2, e2) => (fu vs n v, A2, B2, h2, e2)) = (match rdN G n A B h e with
    | (vs, A1, B1, h1, e1) => match G n A1 B1 h1 e1 with
      | (v, A2, B2, h2, e2) => (fu vs n v, A2, B2, h2, e2))
    rw [rdN_c n (fun i hi => hF i (by omega)), hF n (by omega)]
theorem rd_c {NB ND NF : Nat} {m w : mm_P} (hI : IM m NB ND NF) (h77 : ∀ c t, 177 ≤ c → c ≤ 179 → t < NB → w c t = m c t) (h41 : w 176 41 = m 176 41) (h211 : ∀ i, w 211 i = m 211 i) : ∀ (k t : Nat) (A B : HF) (h e : Nat), t < NB → rd w k t A B h e = rd m k t A B h e := by
  have hNB := hI.1.1
  have hTW := TW_I hI
  intro k
  induction k with
  | zero => exact fun _ _ _ _ _ _ => rfl
  | succ k ih =>
    intro t A B h e ht
    have e77 := h77 177 t (by decide) (by decide) ht
    have einp : ∀ e, inp w e = inp m e := fun e => inp_e h41 (h211 e)
    have emy : mny w t e = mny m t e := by
      unfold mny
      rw [e77, einp e]
    have eme : mne w t e = mne m t e := by
      unfold mne
      rw [e77]
    have ep : ∀ i, ptT w t i = ptT m t i := fun i => by
      unfold ptT
      rw [e77, h77 178 t (by decide) (by decide) ht, h77 179 t (by decide) (by decide) ht]
    have eZ : ∀ many vs A B h e, rdZ w t many vs A B h e = rdZ m t many vs A B h e := fun many vs A B h e => by
      unfold rdZ
      rw [e77, einp e]
    have eF : ∀ i, i < mny m t e → (fun i => rd w k (ptT w t i).toNatClampNeg) i = (fun i => rd m k (ptT m t i).toNatClampNeg) i := fun i hi => by
      show rd w k (ptT w t i).toNatClampNeg = rd m k (ptT m t i).toNatClampNeg
      rw [ep i]
      funext A B h e
      refine ih _ _ _ _ _ ?_
      by_cases q4 : m 177 t = 4
      · obtain ⟨a, b, a1, a2, a3, a4, a5, a6, a7, a8⟩ := SVt_4 (SA := sAny) (SB := sAny) hTW (.inl ht) q4
        unfold ptT
        rw [if_pos q4]
        split
        · rw [a6, nI_clamp (by omega)]
          omega
        · rw [a5, nI_clamp (by omega)]
          omega
      · by_cases q5 : m 177 t = 5
        · obtain ⟨a, a1, a2, a3, a4, a8⟩ := SVt_5 (SA := sAny) (SB := sAny) hTW (.inl ht) q5
          unfold ptT
          rw [if_neg q4, a3, nI_clamp (by omega)]
          omega
        · exfalso
          unfold mny at hi
          rw [if_neg q4, if_neg q5] at hi
          omega
    show rdY w (fun i => rd w k (ptT w t i).toNatClampNeg) t (mny w t e) A B h (mne w t e) = rdY m (fun i => rd m k (ptT m t i).toNatClampNeg) t (mny m t e) A B h (mne m t e)
    rw [emy, eme]
    unfold rdY
    rw [rdN_c (mny m t e) eF]
    generalize rdN (fun i => rd m k (ptT m t i).toNatClampNeg) (mny m t e) A B h (mne m t e) = R
    obtain ⟨vs, A1, B1, h1, e1⟩ := R
    exact eZ _ _ _ _ _ _
/-- how a run ends -/
def OUT (m : mm_P) (A B : HF) : Int32 := match rd m 5 (m 195 0).toNatClampNeg A B 0 0 with
  | (v, A', B', h', _) => (ev m 360 v (m 197 0).toNatClampNeg A' B' h' 0 0 1).1
theorem OUT_e {m : mm_P} {A B A' B' A2 B2 : HF} {v e x : Int32} {t b h' e' h2 s2 l2 o2 : Nat} (ht : (m 195 0).toNatClampNeg = t) (hb : (m 197 0).toNatClampNeg = b) (h1 : rd m 5 t A B 0 0 = (v, A', B', h', e')) (h2 : ev m 360 v b A' B' h' 0 0 1 = (e, x, A2, B2, h2, s2, l2, o2)) : OUT m A B = e := by
  unfold OUT
  rw [ht, hb, h1]
  show (ev m 360 v b A' B' h' 0 0 1).1 = e
  rw [h2]
theorem OUT_c {NB ND NF : Nat} {m w : mm_P} {A B : HF} (hI : IM m NB ND NF) (h0 : 0 < NF) (h77 : ∀ c t, 177 ≤ c → c ≤ 179 → t < NB → w c t = m c t) (h88 : ∀ c i, 188 ≤ c → c ≤ 197 → w c i = m c i) (h41 : w 176 41 = m 176 41) (h211 : ∀ i, w 211 i = m 211 i) : OUT w A B = OUT m A B := by
  obtain ⟨l1, ⟨x, x1, x2, x3⟩, -⟩ := hI.2.2.2.2.2.1 0 h0
  have hNB := hI.1.1
  have ex : (m 195 0).toNatClampNeg = x := by rw [x2]; exact nI_clamp (by omega)
  unfold OUT
  rw [h88 195 0 (by decide) (by decide), h88 197 0 (by decide) (by decide), ex, rd_c hI h77 h41 h211 5 x A B 0 0 x1, ev_c h88 360]
theorem OUT_p {NB ND NF : Nat} {m w : mm_P} {A B : HF} (hI : IM m NB ND NF) (h0 : 0 < NF) (hp : PR m w) : OUT w A B = OUT m A B :=
  OUT_c hI h0 (fun c t a b q => hp c t (pg_row a (by omega) (by have := hI.1.1; omega))) (fun c i a b => hp c i (pg_nod a b)) (hp 176 41 rfl) (fun i => hp 211 i rfl)
