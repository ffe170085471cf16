/-! ===== reading, exact: the model ===== -/
/-- value, heap, how many, inputs read -/
abbrev ZRT : Type := Int32 × HF × HF × Nat × Nat
abbrev ZRE : Type := HF → HF → Nat → Nat → ZRT
/-- the input e -/
def inp (m : mm_P) (e : Nat) : Int32 := if m 176 41 ≤ nI e then 0 else m 211 e
/-- how long a list is read -/
def rmy (x : Int32) : Nat := if 0 ≤ x then (if x ≤ 4 then x.toNatClampNeg else 4) else 0
def mny (m : mm_P) (t e : Nat) : Nat := if m 177 t = 4 then 2 else if m 177 t = 5 then rmy (inp m e) else 0
def mne (m : mm_P) (t e : Nat) : Nat := if m 177 t = 4 then e else if m 177 t = 5 then e + 1 else e
/-- links out of values, the last first -/
def lsC (vs : HF) : Nat → HF → HF → Nat → Int32 → Int32 × HF × HF × Nat
  | 0, A, B, h, x => (x, A, B, h)
  | j + 1, A, B, h, x => lsC vs j (fu A h (vs j)) (fu B h x) (h + 1) (nI h)
/-- the values of parts, one after the other -/
def rdN (F : Nat → ZRE) : Nat → HF → HF → Nat → Nat → HF × HF × HF × Nat × Nat
  | 0, A, B, h, e => (fun _ => 0, A, B, h, e)
  | n + 1, A, B, h, e => match rdN F n A B h e with
    | (vs, A1, B1, h1, e1) => match F n A1 B1 h1 e1 with
      | (v, A2, B2, h2, e2) => (fu vs n v, A2, B2, h2, e2)
/-- out of the parts' values -/
def rdZ (m : mm_P) (t many : Nat) (vs A B : HF) (h e : Nat) : ZRT :=
  if m 177 t = 0 then (inp m e, A, B, h, e + 1) else if m 177 t = 1 then (if inp m e = 0 then 0 else 1, A, B, h, e + 1) else if m 177 t = 4 then (nI h, fu A h (vs 0), fu B h (vs 1), h + 1, e) else (match lsC vs many A B h (-1) with
    | (v, A1, B1, h1) => (v, A1, B1, h1, e))
def rdY (m : mm_P) (F : Nat → ZRE) (t many : Nat) (A B : HF) (h e : Nat) : ZRT := match rdN F many A B h e with
  | (vs, A1, B1, h1, e1) => rdZ m t many vs A1 B1 h1 e1
/-- a value of type t is read -/
def rd (m : mm_P) : Nat → Nat → ZRE
  | 0 => fun _ A B h e => (0, A, B, h, e)
  | k + 1 => fun t A B h e => rdY m (fun i => rd m k (ptT m t i).toNatClampNeg) t (mny m t e) A B h (mne m t e)
/-- behind beginRead() -/
def rdb (m : mm_P) : Nat → Nat → Nat → ZRE
  | 0 => fun _ _ A B h e => (0, A, B, h, e)
  | k + 1 => fun t many => rdY m (fun i => rd m k (ptT m t i).toNatClampNeg) t many
theorem rd_b {m : mm_P} {k t : Nat} {A B : HF} {h e : Nat} (hk : 1 ≤ k) : rd m k t A B h e = rdb m k t (mny m t e) A B h (mne m t e) := by
  obtain ⟨k', rfl⟩ : ∃ k', k = k' + 1 := ⟨k - 1, by omega⟩
  rfl
theorem rdN_s {F : Nat → ZRE} {n h e h1 e1 h2 e2 : Nat} {A B vs A1 B1 A2 B2 : HF} {v : Int32} (q1 : rdN F n A B h e = (vs, A1, B1, h1, e1)) (q2 : F n A1 B1 h1 e1 = (v, A2, B2, h2, e2)) : rdN F (n + 1) A B h e = (fu vs n v, A2, B2, h2, e2) := by
  show (match rdN F n A B h e with
    | (vs, A1, B1, h1, e1) => match F n A1 B1 h1 e1 with
      | (v, A2, B2, h2, e2) => (fu vs n v, A2, B2, h2, e2)) = _
  rw [q1]
  show (match F n A1 B1 h1 e1 with
      | (v, A2, B2, h2, e2) => (fu vs n v, A2, B2, h2, e2)) = _
  rw [q2]
theorem rdY_s {m : mm_P} {F : Nat → ZRE} {t many h e h1 e1 : Nat} {A B vs A1 B1 : HF} (q1 : rdN F many A B h e = (vs, A1, B1, h1, e1)) : rdY m F t many A B h e = rdZ m t many vs A1 B1 h1 e1 := by
  unfold rdY
  rw [q1]
theorem inp_e {w w' : mm_P} {e : Nat} (h1 : w' 176 41 = w 176 41) (h2 : w' 211 e = w 211 e) : inp w' e = inp w e := by
  unfold inp
  rw [h1, h2]
theorem inp_rf {m w : mm_P} {e : Nat} (hp : RG m w) : inp w e = inp m e := inp_e (hp.2 41 (by omega)) (hp.1 211 e (by decide) (by decide))
theorem rmy_4 {x : Int32} : rmy x ≤ 4 := by
  unfold rmy
  split
  · rename_i a
    split
    · rename_i b
      have a' := mm_leI a
      have b' := mm_leI b
      rw [mm_tt0] at a'
      rw [mm_tt4] at b'
      obtain ⟨k, k1, k2, k3, k4⟩ := mm_of (n := 5) a' (by omega)
      rw [k1, nI_clamp (by omega)]
      omega
    · omega
  · omega
theorem mny_4 {m : mm_P} {t e : Nat} : mny m t e ≤ 4 := by
  unfold mny
  split
  · omega
  · split
    · exact rmy_4
    · omega
theorem Wc_f {w : mm_P} {h : Nat} {x y : Int32} : Wc w h x y 212 = fu (w 212) h x ∧ Wc w h x y 213 = fu (w 213) h y := by
  refine ⟨funext fun i => ?_, funext fun i => ?_⟩ <;> by_cases q : i = h
  · rw [q, fu_s]
    exact Wc_v.1
  · rw [fu_o q]
    exact Wc_o (by omega) (by omega) (by omega)
  · rw [q, fu_s]
    exact Wc_v.2.1
  · rw [fu_o q]
    exact Wc_o (by omega) (by omega) (by omega)
theorem mm_uf {w : mm_P} {c c' i : Nat} {x : Int32} (h : ¬ c' = c) : mm_u w c i x c' = w c' := funext fun _ => mm_u_e h
section MMT
variable {L : Nat} {xs : Nat → Int32} {d : Nat} {Q : mm_QQ} {ml : mm_G} {lim : Nat × Nat} {mi : mm_P}
theorem sx_nextInput {e : Nat} (h42 : mi 176 42 = nI e) (he : e < 1000000) (h41 : (mi 176 41).toInt ≤ 16) (hQ : Q (some (mm_I (inp mi e))) (mm_u mi 176 42 (nI (e + 1))) ml) : mm_cq (mm_call mm_ms (mm_tb L xs) (d + 1)) 214 [mm_R 176] mi ml Q := by
  unfold inp at hQ
  refine en_X12_nextInput (bk_X12_nextInput_0 (mm_call_m _) (fun z => ?_) (fun z => ?_) (fun z => ?_))
  · rw [h42] at z
    rw [if_pos z] at hQ
    rw [h42, show nI e + 1 = nI (e + 1) from (nI_succ e).symm]
    exact hQ
  · have z' := mm_nleI z
    rw [h42, mm_tI (by omega)] at z'
    rw [h42]
    exact vp_in_nI (by omega) (by decide)
  · rw [h42] at z
    rw [if_neg z] at hQ
    rw [h42, nI_clamp (by omega), show nI e + 1 = nI (e + 1) from (nI_succ e).symm]
    exact hQ
theorem sx_beginRead {dd t e : Nat} (hd : dd < 8) (ht : t < 8000) (h42 : mi 176 42 = nI e) (he : e < 1000000) (h41 : (mi 176 41).toInt ≤ 16) (hQ : ∀ w', (∀ c i, ¬ (215 ≤ c ∧ c ≤ 217 ∧ i = dd) → ¬ (c = 176 ∧ i = 42) → w' c i = mi c i) → w' 215 dd = nI t → w' 217 dd = 0 → w' 216 dd = nI (mny mi t e) → w' 176 42 = nI (mne mi t e) → Q none w' ml) : mm_cq (mm_call mm_ms (mm_tb L xs) (d + 2)) 215 [mm_R 176, mm_I (nI dd), mm_I (nI t)] mi ml Q := by
  have vd8 : vp_in (nI dd) 8 := vp_in_nI hd (by decide)
  have vt : vp_in (nI t) 8000 := vp_in_nI ht (by decide)
  have ed : (nI dd).toNatClampNeg = dd := nI_clamp (by omega)
  have et : (nI t).toNatClampNeg = t := nI_clamp (by omega)
  have hw : ∀ (n : mm_P) (many e' : Nat), many = mny mi t e → e' = mne mi t e → (∀ c i, ¬ (c = 176 ∧ i = 42) → n c i = mm_u (mm_u mi 215 dd (nI t)) 217 dd 0 c i) → n 176 42 = nI e' → Q none (mm_u n 216 dd (nI many)) ml := fun n many e' a1 a2 a6 a7 => by
    refine hQ _ (fun c i q q2 => ?_) ?_ ?_ (by rw [mm_u_s, a1]) ?_
    · rw [mm_u_o (by omega), a6 c i q2, mm_u_o (by omega), mm_u_o (by omega)]
    · rw [mm_u_e (by decide), a6 215 dd (by omega), mm_u_e (by decide), mm_u_s]
    · rw [mm_u_e (by decide), a6 217 dd (by omega), mm_u_s]
    · rw [mm_u_e (by decide), ← a2]
      exact a7
  have h42' : mm_u (mm_u mi 215 dd (nI t)) 217 dd 0 176 42 = nI e := by
    rw [mm_u_e (by decide), mm_u_e (by decide)]
    exact h42
  have h41' : mm_u (mm_u mi 215 dd (nI t)) 217 dd 0 176 41 = mi 176 41 := by
    rw [mm_u_e (by decide), mm_u_e (by decide)]
  have hinp : inp (mm_u (mm_u mi 215 dd (nI t)) 217 dd 0) e = inp mi e := inp_e h41' (by rw [mm_u_e (by decide), mm_u_e (by decide)])
  refine en_X12_beginRead (bk_X12_beginRead_0 (mm_call_m _) vd8 vd8 vt (fun _ => vt) (fun _ _ _ _ => vd8) (fun z z2 _ _ => ?_) (fun _ _ _ z => absurd z (by decide)) (fun _ _ _ z => absurd z (by decide)) (fun _ _ z => absurd z (by decide)) (fun _ _ z => absurd z (by decide)) (fun z z2 => ?_) (fun _ _ _ => vd8) (fun z _ _ => ?_) (fun _ _ z => absurd z (by decide)) (fun _ _ z => absurd z (by decide)) (fun _ z => absurd z (by decide)) (fun _ z => absurd z (by decide)))
  · rw [et] at z z2
    rw [ed]
    exact hw _ 0 e (by unfold mny; rw [if_neg z, if_neg z2]) (by unfold mne; rw [if_neg z, if_neg z2]) (fun _ _ _ => rfl) h42'
  · rw [et] at z z2
    rw [ed]
    have e1 : e + 1 = mne mi t e := by unfold mne; rw [if_neg z, if_pos z2]
    have e2 : mny mi t e = rmy (inp mi e) := by unfold mny; rw [if_neg z, if_pos z2]
    refine sx_nextInput h42' he (by rw [h41']; exact h41) ?_
    rw [hinp]
    refine bk_X12_beginRead_42 (mm_call_m _) (fun _ _ => vd8) (fun a b => ?_) (fun _ _ => vd8) (fun a b => ?_) (fun _ => vd8) (fun a => ?_)
    · rw [ed]
      have a' := mm_leI a
      have b' := mm_leI b
      rw [mm_tt0] at a'
      rw [mm_tt4] at b'
      obtain ⟨k, k1, k2, k3, k4⟩ := mm_of (n := 5) a' (by omega)
      have ek : k = mny mi t e := by
        rw [e2]
        unfold rmy
        rw [if_pos a, if_pos b, k1, nI_clamp (by omega)]
      rw [k1]
      exact hw _ k (e + 1) ek e1 (fun c i q => mm_u_o q) mm_u_s
    · rw [ed]
      exact hw _ 4 (e + 1) (by rw [e2]; unfold rmy; rw [if_pos a, if_neg b]) e1 (fun c i q => mm_u_o q) mm_u_s
    · rw [ed]
      exact hw _ 0 (e + 1) (by rw [e2]; unfold rmy; rw [if_neg a]) e1 (fun c i q => mm_u_o q) mm_u_s
  · rw [et] at z
    rw [ed]
    exact hw _ 2 e (by unfold mny; rw [if_pos z]) (by unfold mne; rw [if_pos z]) (fun _ _ _ => rfl) h42'
theorem rx_89 {m : mm_P} {dd many : Nat} {x2 : Int32} {h0 : Nat} {w0 : mm_P} {vs : HF} {R : Int32 × HF × HF × Nat} (hd : dd < 8) (hm : many ≤ 4) (hh0 : h0 < 4500) (hvs : ∀ i, i < many → w0 218 (5 * dd + i) = vs i) (hQ : ∀ w' h' v, RG m w' → w' 176 43 = nI h' → h0 ≤ h' → h' ≤ h0 + many → FQ w0 w' → w' 176 42 = w0 176 42 → R = (v, w' 212, w' 213, h') → Q (some (mm_I v)) w' ml) : ∀ (j h : Nat) (w : mm_P) {x3 x4 : Int32}, j ≤ many → h + j = h0 + many → h0 ≤ h → RG m w → w 176 43 = nI h → FQ w0 w → w 176 42 = w0 176 42 → R = lsC vs j (w 212) (w 213) h x3 → x4 = pj j → mm_WQ (mm_call mm_ms (mm_tb L xs) (d + 1)) (mm_tb L xs) mm_m216 lim Q 89 [some (mm_R 176), some (mm_I (nI dd)), some (mm_I x2), some (mm_I x3), some (mm_I x4)] [] w ml := by
  intro j
  induction j with
  | zero =>
    intro h w x3 x4 hj hh hl hp h43 hr h42 hR e
    have hneg : x4 < 0 := by rw [e]; decide
    exact bk_X12_endRead_89 (mm_call_m _) (fun _ => hQ w h x3 hp h43 hl (by omega) hr h42 hR) (fun z => absurd hneg z) (fun z => absurd hneg z)
  | succ j ih =>
    intro h w x3 x4 hj hh hl hp h43 hr h42 hR e
    have e' : x4 = nI j := e
    subst e'
    have hneg : ¬ nI j < 0 := by
      rw [Int32.lt_iff_toInt_lt, mm_tI (by omega), mm_tt0]
      omega
    have ei : 5 * nI dd + nI j = nI (5 * dd + j) := by rw [r5 (by omega), nI_a (by omega)]
    have e218 : w 218 (5 * dd + j) = vs j := (hr 218 _ (.inl (by decide))).trans (hvs j (by omega))
    refine bk_X12_endRead_89 (mm_call_m _) (fun z => absurd z hneg) (fun _ => ?_) (fun _ => ?_) <;> rw [ei]
    · exact vp_in_nI (by omega) (by decide)
    · rw [nI_clamp (by omega), e218]
      refine sp_cell h43 (by omega) (bk_X12_endRead_110 (mm_call_m _) ?_)
      refine ih (h + 1) _ (by omega) (by omega) (by omega) (RG_c hp) Wc_v.2.2 (fun c i q => (Wc_o (by omega) (by omega) (by omega)).trans (hr c i q)) ((Wc_o (by omega) (by omega) (by omega)).trans h42) ?_ (pj_d j (by omega))
      rw [Wc_f.1, Wc_f.2]
      exact hR
theorem rx_end {NB dd t many h e : Nat} {m w : mm_P} {vs : HF} (hNB : NB ≤ 200) (hin : (m 176 41).toInt ≤ 16) (hp : RG m w) (hd : dd < 8) (ht : t < NB) (h215 : w 215 dd = nI t) (h216 : w 216 dd = nI many) (hm : many ≤ 4) (hm2 : m 177 t = 4 → many = 2) (hm0 : ¬ m 177 t = 4 → ¬ m 177 t = 5 → many = 0) (h43 : w 176 43 = nI h) (hh : h < 4000) (h42 : w 176 42 = nI e) (he : e < 1000000) (hvs : ∀ i, i < many → w 218 (5 * dd + i) = vs i) (hQ : ∀ w' h' e' v, RG m w' → w' 176 43 = nI h' → h ≤ h' → h' ≤ h + many → w' 176 42 = nI e' → e ≤ e' → e' ≤ e + 1 → (1 ≤ many → e' = e) → FQ w w' → rdZ m t many vs (w 212) (w 213) h e = (v, w' 212, w' 213, h', e') → Q (some (mm_I v)) w' ml) : mm_cq (mm_call mm_ms (mm_tb L xs) (d + 2)) 216 [mm_R 176, mm_I (nI dd)] w ml Q := by
  have vd8 : vp_in (nI dd) 8 := vp_in_nI hd (by decide)
  have ed : (nI dd).toNatClampNeg = dd := nI_clamp (by omega)
  have vt : vp_in (w 215 (nI dd).toNatClampNeg) 8000 := by rw [ed, h215]; exact vp_in_nI (by omega) (by decide)
  have et : (w 215 (nI dd).toNatClampNeg).toNatClampNeg = t := by rw [ed, h215]; exact nI_clamp (by omega)
  have e77 : w 177 t = m 177 t := hp.1 177 t (by decide) (by decide)
  have h41 : (w 176 41).toInt ≤ 16 := by rw [hp.2 41 (by omega)]; exact hin
  have hx : ∀ x, (m 177 t = 0 ∨ m 177 t = 1) → rdZ m t many vs (w 212) (w 213) h e = (x, w 212, w 213, h, e + 1) → Q (some (mm_I x)) (mm_u w 176 42 (nI (e + 1))) ml := fun x k q => by
    refine hQ _ h (e + 1) x (RG_u hp (by omega)) (by rw [mm_u_f (by decide)]; exact h43) (Nat.le_refl _) (by omega) mm_u_s (by omega) (Nat.le_refl _) (fun z => ?_) (fun c i _ => mm_u_o (by omega)) ?_
    · have := hm0 (by rcases k with k | k <;> (rw [k]; decide)) (by rcases k with k | k <;> (rw [k]; decide))
      omega
    · rw [mm_uf (by decide), mm_uf (by decide)]
      exact q
  refine en_X12_endRead (bk_X12_endRead_0 (mm_call_m _) vd8 vt (fun _ => vt) (fun _ _ => vt) (fun _ _ _ => vd8) (fun z z1 z4 => ?_) (fun _ _ _ => ?_) (fun _ _ _ => ?_) (fun z z1 z4 => ?_) (fun z z1 => ?_) (fun z => ?_))
  · rw [et, e77] at z z1 z4
    refine rx_89 (d := d) (m := m) (h0 := h) (w0 := w) (vs := vs) (R := lsC vs many (w 212) (w 213) h (-1)) hd hm (by omega) hvs (fun w' h' v g1 g2 g3 g4 g6 g7 g8 => hQ w' h' e v g1 g2 g3 g4 (g7.trans h42) (Nat.le_refl _) (by omega) (fun _ => rfl) g6 ?_) many h w (Nat.le_refl _) rfl (Nat.le_refl _) hp h43 (fun _ _ _ => rfl) rfl rfl ?_
    · unfold rdZ
      rw [if_neg z, if_neg z1, if_neg z4, g8]
    · rw [ed, h216]
      exact pj_d' many (by omega)
  · rw [r5 (by omega)]
    exact vp_in_nI (by omega) (by decide)
  · rw [r5 (by omega), show nI (5 * dd) + 1 = nI (5 * dd + 1) from (nI_succ _).symm]
    exact vp_in_nI (by omega) (by decide)
  · rw [et, e77] at z z1 z4
    have hm' := hm2 z4
    have e0 : w 218 (5 * dd) = vs 0 := hvs 0 (by omega)
    have e1 : w 218 (5 * dd + 1) = vs 1 := hvs 1 (by omega)
    rw [r5 (by omega), show nI (5 * dd) + 1 = nI (5 * dd + 1) from (nI_succ _).symm, nI_clamp (by omega), nI_clamp (by omega), e0, e1]
    refine sp_cell h43 (by omega) (bk_X12_endRead_76 (mm_call_m _) (hQ _ (h + 1) e _ (RG_c hp) Wc_v.2.2 (by omega) (by omega) ((Wc_o (by omega) (by omega) (by omega)).trans h42) (Nat.le_refl _) (by omega) (fun _ => rfl) (fun c i q => Wc_o (by omega) (by omega) (by omega)) ?_))
    unfold rdZ
    rw [if_neg z, if_neg z1, if_pos z4, Wc_f.1, Wc_f.2]
  · rw [et, e77] at z z1
    refine sx_nextInput h42 he h41 ?_
    rw [inp_rf hp]
    refine bk_X12_endRead_35 (mm_call_m _) (fun q => hx 0 (.inr z1) ?_) (fun q => hx 1 (.inr z1) ?_)
    · unfold rdZ
      rw [if_neg z, if_pos z1, if_pos q]
    · unfold rdZ
      rw [if_neg z, if_pos z1, if_neg q]
  · rw [et, e77] at z
    refine sx_nextInput h42 he h41 ?_
    rw [inp_rf hp]
    refine bk_X12_endRead_20 (mm_call_m _) (hx _ (.inl z) ?_)
    unfold rdZ
    rw [if_pos z]
/-- how the value at level dd is come to -/
def RX (m w w' : mm_P) (k dd h e h' e' : Nat) (R : ZRT) (v : Int32) : Prop := RG m w' ∧ w' 176 43 = nI h' ∧ h ≤ h' ∧ h' ≤ h + cn k ∧ w' 176 42 = nI e' ∧ e ≤ e' ∧ e' ≤ e + en k ∧ RLv dd w w' ∧ R = (v, w' 212, w' 213, h', e')
theorem rx_loop {NB ND NF dd t many k h e : Nat} {m w0 : mm_P} {x1 : Int32} (hI : IM m NB ND NF) (hin : (m 176 41).toInt ≤ 16) (hd : dd < 8) (hd1 : 1 ≤ many → dd < 7) (hk1 : 1 ≤ many → 1 ≤ k) (ht : t < NB) (hB : RB m w0 dd t many) (hh : h + cn (k + 1) < 4000) (he : e + en (k + 1) < 10000)
  (run : ∀ a, a < NB → (m 180 a).toInt < (m 180 t).toInt → ∀ {w : mm_P} {h e many' : Nat} {x3 : Int32} {x4 x5 : Option mm_V}, 1 ≤ many → RG m w → RB m w (dd + 1) a many' → w 217 (dd + 1) = 0 → w 176 43 = nI h → w 176 42 = nI e → h + cn k < 4000 → e + en k < 10000 → (∀ w' h' e' v x3' x4' x5', RX m w w' k (dd + 1) h e h' e' (rdb m k a many' (w 212) (w 213) h e) v → mm_WQ (mm_call mm_ms (mm_tb L xs) (d + 2)) (mm_tb L xs) mm_m217 lim Q 100 [some (mm_R 176), some (mm_I x1), some (mm_I (nI (dd + 1))), some (mm_I x3'), x4', x5'] [mm_I v] w' ml) → mm_WQ (mm_call mm_ms (mm_tb L xs) (d + 2)) (mm_tb L xs) mm_m217 lim Q 15 [some (mm_R 176), some (mm_I x1), some (mm_I (nI (dd + 1))), some (mm_I x3), x4, x5] [] w ml)
  (hK : ∀ w' h' e' v x3' x4' x5', RX m w0 w' (k + 1) dd h e h' e' (rdb m (k + 1) t many (w0 212) (w0 213) h e) v → mm_WQ (mm_call mm_ms (mm_tb L xs) (d + 2)) (mm_tb L xs) mm_m217 lim Q 100 [some (mm_R 176), some (mm_I x1), some (mm_I (nI dd)), some (mm_I x3'), x4', x5'] [mm_I v] w' ml) :
  ∀ (j c : Nat) (w : mm_P) (h1 e1 : Nat) (vs : HF) {x3 : Int32} {x4 x5 : Option mm_V}, c + j = many → RG m w → RB m w dd t many → w 217 dd = nI c → w 176 43 = nI h1 → w 176 42 = nI e1 → h ≤ h1 → h1 ≤ h + c * cn k → e ≤ e1 → e1 ≤ e + c * (en k + 1) → RLv dd w0 w → (∀ i, i < c → w 218 (5 * dd + i) = vs i) → rdN (fun i => rd m k (ptT m t i).toNatClampNeg) c (w0 212) (w0 213) h e = (vs, w 212, w 213, h1, e1) → mm_WQ (mm_call mm_ms (mm_tb L xs) (d + 2)) (mm_tb L xs) mm_m217 lim Q 15 [some (mm_R 176), some (mm_I x1), some (mm_I (nI dd)), some (mm_I x3), x4, x5] [] w ml := by
  have hNB := hI.1.1
  have hTW := TW_I hI
  have hD := hI.2.2.2.1
  obtain ⟨-, -, B3, B4, B5⟩ := id hB
  have hck : ∀ c, c ≤ 4 → c * cn k ≤ 4 * cn k := fun c q => Nat.mul_le_mul_right _ q
  have hek : ∀ c, c ≤ 4 → c * (en k + 1) ≤ 4 * (en k + 1) := fun c q => Nat.mul_le_mul_right _ q
  have ecn : cn (k + 1) = 4 * cn k + 4 := rfl
  have een : en (k + 1) = 4 * en k + 4 := rfl
  have hdn : ¬ nI dd < 0 := by
    rw [Int32.lt_iff_toInt_lt, mm_tI (by omega), mm_tt0]
    omega
  have vd8 : vp_in (nI dd) 8 := vp_in_nI hd (by decide)
  have ed : (nI dd).toNatClampNeg = dd := nI_clamp (by omega)
  intro j
  induction j with
  | zero =>
    intro c w h1 e1 vs x3 x4 x5 hj hp hBw h217 h43 h42 l1 l2 l3 l4 hr hv hN
    have hc : c = many := by omega
    subst hc
    have hcc := hck c B3
    have hee := hek c B3
    have hle : w 216 (nI dd).toNatClampNeg ≤ w 217 (nI dd).toNatClampNeg := by
      rw [ed, hBw.2.1, h217]
      exact Int32.le_refl _
    refine bk_X12_reads_15 (mm_call_m _) (fun z => absurd z hdn) (fun _ => vd8) (fun _ => vd8) (fun _ _ => ?_) (fun _ z => absurd hle z) (fun _ z => absurd hle z) (fun _ z => absurd hle z) (fun _ z => absurd hle z) (fun _ z => absurd hle z) (fun _ z => absurd hle z) (fun _ z => absurd hle z)
    refine rx_end (h := h1) (e := e1) (vs := vs) (by omega) hin hp hd ht hBw.1 hBw.2.1 B3 B4 B5 h43 (by omega) h42 (by omega) hv (fun w' h' e' v g1 g2 g3 g4 g5 g6 g7 g8 g10 g11 => hK w' h' e' v _ _ _ ⟨g1, g2, by omega, by omega, g5, by omega, ?_, ⟨fun c i a b q => (g10 c i (.inl a)).trans (hr.1 c i a b q), fun i q => (g10 218 i (.inl (by decide))).trans (hr.2.1 i q), fun c i q => (g10 c i (by omega)).trans (hr.2.2 c i q)⟩, (rdY_s hN).trans g11⟩)
    by_cases q : 1 ≤ c
    · have := g8 q
      omega
    · have : c = 0 := by omega
      subst this
      omega
  | succ j ih =>
    intro c w h1 e1 vs x3 x4 x5 hj hp hBw h217 h43 h42 l1 l2 l3 l4 hr hv hN
    have hcm : c + 1 ≤ many := by omega
    have hd7 := hd1 (by omega)
    have hcc := hck (c + 1) (by omega)
    have hee := hek (c + 1) (by omega)
    rw [Nat.add_mul, Nat.one_mul] at hcc hee
    have hlt : ¬ w 216 (nI dd).toNatClampNeg ≤ w 217 (nI dd).toNatClampNeg := by
      rw [ed, hBw.2.1, h217, Int32.le_iff_toInt_le, mm_tI (by omega), mm_tI (by omega)]
      omega
    have e15 : w 215 (nI dd).toNatClampNeg = nI t := by rw [ed]; exact hBw.1
    have et : (w 215 (nI dd).toNatClampNeg).toNatClampNeg = t := by rw [e15]; exact nI_clamp (by omega)
    have vt : vp_in (w 215 (nI dd).toNatClampNeg) 8000 := by rw [e15]; exact vp_in_nI (by omega) (by decide)
    have e77 : ∀ t c, 177 ≤ c → c ≤ 183 → w c t = m c t := fun t c a b => hp.1 c t (by omega) (by omega)
    have es : nI dd + 1 = nI (dd + 1) := (nI_succ dd).symm
    -- the part that comes next
    have hgo : ∀ a x4 x5, a < NB → (m 180 a).toInt < (m 180 t).toInt → ptT m t c = nI a → mm_cq (mm_call mm_ms (mm_tb L xs) (d + 2)) 215 [mm_R 176, mm_I (nI (dd + 1)), mm_I (nI a)] w ml (fun o n1 n2 => mm_WQ (mm_call mm_ms (mm_tb L xs) (d + 2)) (mm_tb L xs) mm_m217 lim Q 92 [some (mm_R 176), some (mm_I x1), some (mm_I (nI (dd + 1))), some (mm_I x3), some (mm_I x4), some (mm_I x5)] (o.toList ++ []) n1 n2) := fun a y4 y5 a1 a2 a3 => by
      refine sx_beginRead (e := e1) (by omega) (by omega) h42 (by omega) (by rw [hp.2 41 (by omega)]; exact hin) (fun w1 b6 b7 b8 b9 b10 => bk_X12_reads_92 (mm_call_m _) ?_)
      have emy : mny w a e1 = mny m a e1 := by
        unfold mny
        rw [e77 a 177 (by decide) (by decide), inp_rf hp]
      have eme : mne w a e1 = mne m a e1 := by
        unfold mne
        rw [e77 a 177 (by decide) (by decide)]
      rw [emy] at b9
      rw [eme] at b10
      have lme : e1 ≤ mne m a e1 ∧ mne m a e1 ≤ e1 + 1 := by
        unfold mne
        split
        · omega
        · split <;> omega
      have bmy2 : m 177 a = 4 → mny m a e1 = 2 := fun q => by unfold mny; rw [if_pos q]
      have bmy0 : ¬ m 177 a = 4 → ¬ m 177 a = 5 → mny m a e1 = 0 := fun q q2 => by unfold mny; rw [if_neg q, if_neg q2]
      have hp1 : RG m w1 := ⟨fun c i q q2 => (b6 c i (by omega) (by omega)).trans (hp.1 c i q q2), fun i q => (b6 176 i (by omega) (by omega)).trans (hp.2 i q)⟩
      refine run a a1 a2 (many' := mny m a e1) (h := h1) (e := mne m a e1) (by omega) hp1 ⟨b7, b9, mny_4, bmy2, bmy0⟩ b8 ((b6 176 43 (by omega) (by omega)).trans h43) b10 (by omega) (by omega) (fun w2 h2 e3 v y3 y4 y5 ho => ?_)
      obtain ⟨o1, o2, o3, o4, o5, o6, o7, o9, o10⟩ := ho
      have e12 : w1 212 = w 212 := funext fun i => b6 212 i (by omega) (by omega)
      have e13 : w1 213 = w 213 := funext fun i => b6 213 i (by omega) (by omega)
      rw [e12, e13, ← rd_b (hk1 (by omega))] at o10
      have hF : (fun i => rd m k (ptT m t i).toNatClampNeg) c (w 212) (w 213) h1 e1 = (v, w2 212, w2 213, h2, e3) := by
        show rd m k (ptT m t c).toNatClampNeg (w 212) (w 213) h1 e1 = _
        rw [a3, nI_clamp (by omega)]
        exact o10
      have ex : nI (dd + 1) + (-1) = nI dd := mm_dec dd (by omega)
      have e217 : w2 217 dd = nI c := (o9.1 217 dd (by decide) (by decide) (by omega)).trans ((b6 217 dd (by omega) (by omega)).trans h217)
      have v5 : 5 * nI dd + nI c = nI (5 * dd + c) := by rw [r5 (by omega), nI_a (by omega)]
      refine bk_X12_reads_100 (mm_call_m _) (fun z => ?_) (fun _ => ?_) (fun _ => ?_) (fun _ => ?_) (fun _ => ?_) (fun _ => ?_)
      · rw [ex] at z
        exact absurd z hdn
      · rw [ex]
        exact vd8
      · rw [ex, ed, e217, v5]
        exact vp_in_nI (by omega) (by decide)
      · rw [ex]
        exact vd8
      · rw [ex]
        exact vd8
      rw [ex, ed, e217, v5, nI_clamp (by omega), show nI c + 1 = nI (c + 1) from (nI_succ c).symm]
      have h18 : ∀ i, i < 5 * dd + c → w2 218 i = w 218 i := fun i q => (o9.2.1 i (by omega)).trans (b6 218 i (by omega) (by omega))
      have hq : ∀ c' i, (c' = 215 ∨ c' = 216 ∨ c' = 217) → i < dd + 1 → w2 c' i = w c' i := fun c' i q q2 => (o9.1 c' i (by omega) (by omega) q2).trans (b6 c' i (by omega) (by omega))
      have hu : ∀ c' i, ¬ (c' = 218 ∧ i = 5 * dd + c) → ¬ (c' = 217 ∧ i = dd) → mm_u (mm_u w2 218 (5 * dd + c) v) 217 dd (nI (c + 1)) c' i = w2 c' i := fun c' i q q2 => by rw [mm_u_o q2, mm_u_o q]
      refine ih (c + 1) _ h2 e3 (fu vs c v) (by omega) (RG_u (RG_u o1 (by omega)) (by omega)) ⟨(hu 215 dd (by omega) (by omega)).trans ((hq 215 dd (by omega) (by omega)).trans hBw.1), (hu 216 dd (by omega) (by omega)).trans ((hq 216 dd (by omega) (by omega)).trans hBw.2.1), B3, B4, B5⟩ mm_u_s ((hu 176 43 (by omega) (by omega)).trans o2) ((hu 176 42 (by omega) (by omega)).trans o5) (by omega) ?_ (by omega) ?_ ⟨fun c' i q q2 q3 => (hu c' i (by omega) (by omega)).trans ((hq c' i (by omega) (by omega)).trans (hr.1 c' i q q2 q3)), fun i q => (hu 218 i (by omega) (by omega)).trans ((h18 i (by omega)).trans (hr.2.1 i q)), fun c' i q => (hu c' i (by omega) (by omega)).trans ((o9.2.2 c' i q).trans ((b6 c' i (by omega) (by omega)).trans (hr.2.2 c' i q)))⟩ (fun i hi => ?_) ?_
      · rw [Nat.add_mul, Nat.one_mul]
        omega
      · rw [Nat.add_mul, Nat.one_mul]
        omega
      · by_cases hic : i = c
        · subst hic
          rw [mm_u_e (by decide), mm_u_s, fu_s]
        · rw [hu 218 (5 * dd + i) (by omega) (by omega), h18 (5 * dd + i) (by omega), fu_o hic]
          exact hv i (by omega)
      · rw [mm_uf (by decide), mm_uf (by decide), mm_uf (by decide), mm_uf (by decide)]
        exact rdN_s hN hF
    have k45 : m 177 t = 4 ∨ m 177 t = 5 := by
      by_cases q4 : m 177 t = 4
      · exact .inl q4
      · by_cases q5 : m 177 t = 5
        · exact .inr q5
        · have := B5 q4 q5
          omega
    have h73 : ∀ x5, (m 177 t = 4 → ¬ c = 1) → mm_WQ (mm_call mm_ms (mm_tb L xs) (d + 2)) (mm_tb L xs) mm_m217 lim Q 73 [some (mm_R 176), some (mm_I x1), some (mm_I (nI dd)), some (mm_I x3), some (mm_I (nI t)), x5] [] w ml := fun x5 hc1 => by
      refine bk_X12_reads_73 (mm_call_m _) (vp_in_nI (by omega) (by decide)) ?_
      rw [es, nI_clamp (by omega), e77 t 178 (by decide) (by decide)]
      rcases k45 with k4 | k5
      · obtain ⟨a, b, a1, a2, a3, a4, a5, a6, a7, a8⟩ := SVt_4 (SA := sAny) (SB := sAny) hTW (.inl ht) k4
        have da := hD a (by omega)
        have db := hD b (by omega)
        have hm' := f_most_r (x := m 180 a) (y := m 180 b) (lo := 1) (hi := 5) da.1 db.1
        rw [a5]
        refine hgo a _ _ (by omega) ?_ ?_
        · rw [a8.2.2.2.1, mm_1p (by omega) (by omega)]
          omega
        · unfold ptT
          rw [if_pos k4, if_neg (hc1 k4)]
          exact a5
      · obtain ⟨a, a1, a2, a3, a4, a8⟩ := SVt_5 (SA := sAny) (SB := sAny) hTW (.inl ht) k5
        have da := hD a (by omega)
        rw [a3]
        refine hgo a _ _ (by omega) ?_ ?_
        · rw [a8.2.2.2.1, mm_1p (by omega) (by omega)]
          omega
        · unfold ptT
          rw [if_neg (by rw [k5]; decide)]
          exact a3
    refine bk_X12_reads_15 (mm_call_m _) (fun z => absurd z hdn) (fun _ => vd8) (fun _ => vd8) (fun _ z => absurd z hlt) (fun _ _ => vd8) (fun _ _ => vt) (fun _ _ z => ?_) (fun _ _ _ => vd8) (fun _ _ z z1 => ?_) (fun _ _ _ _ => vt) (fun _ _ z z1 => ?_)
    · rw [et, e77 t 177 (by decide) (by decide)] at z
      rw [e15]
      exact h73 _ (fun q => absurd q z)
    · rw [ed, h217] at z1
      rw [e15]
      refine h73 _ (fun _ q => z1 ?_)
      rw [q]
      rfl
    · rw [et, e77 t 177 (by decide) (by decide)] at z
      rw [ed, h217] at z1
      have hc1 : c = 1 := nI_ij (by omega) (by decide) (z1.trans (show (1 : Int32) = nI 1 from rfl))
      rw [es, et, e77 t 179 (by decide) (by decide)]
      obtain ⟨a, b, a1, a2, a3, a4, a5, a6, a7, a8⟩ := SVt_4 (SA := sAny) (SB := sAny) hTW (.inl ht) z
      have da := hD a (by omega)
      have db := hD b (by omega)
      have hm' := f_most_r (x := m 180 a) (y := m 180 b) (lo := 1) (hi := 5) da.1 db.1
      rw [a6]
      refine hgo b _ _ (by omega) ?_ ?_
      · rw [a8.2.2.2.1, mm_1p (by omega) (by omega)]
        omega
      · unfold ptT
        rw [if_pos z, if_pos hc1]
        exact a6
theorem reads_rx {NB ND NF : Nat} {m : mm_P} {x1 : Int32} (hI : IM m NB ND NF) (hin : (m 176 41).toInt ≤ 16) : ∀ (k : Nat) {dd t many h e : Nat} {w : mm_P} {x3 : Int32} {x4 x5 : Option mm_V}, dd + k < 8 → t < NB → (m 180 t).toInt ≤ k + 1 → RG m w → RB m w dd t many → w 217 dd = 0 → w 176 43 = nI h → w 176 42 = nI e → h + cn (k + 1) < 4000 → e + en (k + 1) < 10000 → (∀ w' h' e' v x3' x4' x5', RX m w w' (k + 1) dd h e h' e' (rdb m (k + 1) t many (w 212) (w 213) h e) v → mm_WQ (mm_call mm_ms (mm_tb L xs) (d + 2)) (mm_tb L xs) mm_m217 lim Q 100 [some (mm_R 176), some (mm_I x1), some (mm_I (nI dd)), some (mm_I x3'), x4', x5'] [mm_I v] w' ml) → mm_WQ (mm_call mm_ms (mm_tb L xs) (d + 2)) (mm_tb L xs) mm_m217 lim Q 15 [some (mm_R 176), some (mm_I x1), some (mm_I (nI dd)), some (mm_I x3), x4, x5] [] w ml := by
  have hD := hI.2.2.2.1
  have hTW := TW_I hI
  have hmany : ∀ {t many : Nat} {w : mm_P} {dd : Nat}, t < NB → RB m w dd t many → 1 ≤ many → 2 ≤ (m 180 t).toInt := fun {t many w dd} ht hB hm => by
    by_cases q4 : m 177 t = 4
    · obtain ⟨a, b, a1, a2, a3, a4, a5, a6, a7, a8⟩ := SVt_4 (SA := sAny) (SB := sAny) hTW (.inl ht) q4
      have da := hD a (by omega)
      have db := hD b (by omega)
      have hm' := f_most_r (x := m 180 a) (y := m 180 b) (lo := 1) (hi := 5) da.1 db.1
      rw [a8.2.2.2.1, mm_1p (by omega) (by omega)]
      omega
    · by_cases q5 : m 177 t = 5
      · obtain ⟨a, a1, a2, a3, a4, a8⟩ := SVt_5 (SA := sAny) (SB := sAny) hTW (.inl ht) q5
        have da := hD a (by omega)
        rw [a8.2.2.2.1, mm_1p (by omega) (by omega)]
        omega
      · have := hB.2.2.2.2 q4 q5
        omega
  intro k
  induction k with
  | zero =>
    intro dd t many h e w x3 x4 x5 hd ht hk hp hB h217 h43 h42 hh he hK
    have h0 : many = 0 := by
      by_cases q : 1 ≤ many
      · have := hmany ht hB q
        omega
      · omega
    exact rx_loop (k := 0) (h := h) (e := e) hI hin (by omega) (by omega) (by omega) ht hB hh he (fun a _ _ {w h e many' x3 x4 x5} q => absurd q (by omega)) hK many 0 w h e _ (by omega) hp hB h217 h43 h42 (Nat.le_refl _) (by omega) (Nat.le_refl _) (by omega) ⟨fun _ _ _ _ _ => rfl, fun _ _ => rfl, fun _ _ _ => rfl⟩ (fun i q => absurd q (Nat.not_lt_zero _)) rfl
  | succ k ih =>
    intro dd t many h e w x3 x4 x5 hd ht hk hp hB h217 h43 h42 hh he hK
    exact rx_loop (k := k + 1) (h := h) (e := e) hI hin (by omega) (by omega) (by omega) ht hB hh he (fun a a1 a2 {w h e many' x3 x4 x5} _ b1 b2 b3 b4 b5 b6 b7 b8 => ih (dd := dd + 1) (by omega) a1 (by omega) b1 b2 b3 b4 b5 b6 b7 b8) hK many 0 w h e _ (by omega) hp hB h217 h43 h42 (Nat.le_refl _) (by omega) (Nat.le_refl _) (by omega) ⟨fun _ _ _ _ _ => rfl, fun _ _ => rfl, fun _ _ _ => rfl⟩ (fun i q => absurd q (Nat.not_lt_zero _)) rfl
/-- reads(), exact -/
theorem sx_reads {NB ND NF t : Nat} {m w : mm_P} (hI : IM m NB ND NF) (hin : (m 176 41).toInt ≤ 16) (hp : RG m w) (ht : t < NB) (h43 : w 176 43 = nI 0) (hQ : ∀ w' h' e' v, RG m w' → w' 176 43 = nI h' → h' ≤ 1400 → (∀ c i, (219 ≤ c ∨ (c = 176 ∧ ¬ i = 42 ∧ ¬ i = 43)) → w' c i = w c i) → rd m 5 t (w 212) (w 213) 0 0 = (v, w' 212, w' 213, h', e') → Q (some (mm_I v)) w' ml) : mm_cq (mm_call mm_ms (mm_tb L xs) (d + 3)) 217 [mm_R 176, mm_I (nI t)] w ml Q := by
  have hNB := hI.1.1
  have hD := hI.2.2.2.1 t ht
  have c5 : cn (4 + 1) = 1364 := by decide
  have e5 : en (4 + 1) = 2388 := by decide
  have hp0 : RG m (mm_u w 176 42 0) := RG_u hp (by omega)
  refine en_X12_reads (bk_X12_reads_0 (mm_call_m _) (sx_beginRead (dd := 0) (e := 0) (by decide) (by omega) mm_u_s (by decide) (by rw [mm_u_f (by decide), hp.2 41 (by omega)]; exact hin) (fun w1 b6 b7 b8 b9 b10 => ?_)))
  have e77 : mm_u w 176 42 0 177 t = m 177 t := (mm_u_e (by decide)).trans (hp.1 177 t (by decide) (by decide))
  have emy : mny (mm_u w 176 42 0) t 0 = mny m t 0 := by
    unfold mny
    rw [e77, inp_rf hp0]
  have eme : mne (mm_u w 176 42 0) t 0 = mne m t 0 := by
    unfold mne
    rw [e77]
  rw [emy] at b9
  rw [eme] at b10
  have lme : mne m t 0 ≤ 1 := by
    unfold mne
    split
    · omega
    · split <;> omega
  have bmy2 : m 177 t = 4 → mny m t 0 = 2 := fun q => by unfold mny; rw [if_pos q]
  have bmy0 : ¬ m 177 t = 4 → ¬ m 177 t = 5 → mny m t 0 = 0 := fun q q2 => by unfold mny; rw [if_neg q, if_neg q2]
  have hp1 : RG m w1 := ⟨fun c i q q2 => (b6 c i (by omega) (by omega)).trans (hp0.1 c i q q2), fun i q => (b6 176 i (by omega) (by omega)).trans (hp0.2 i q)⟩
  have e12 : w1 212 = w 212 := funext fun i => (b6 212 i (by omega) (by omega)).trans (mm_u_e (by decide))
  have e13 : w1 213 = w 213 := funext fun i => (b6 213 i (by omega) (by omega)).trans (mm_u_e (by decide))
  refine reads_rx hI hin 4 (dd := 0) (t := t) (many := mny m t 0) (h := 0) (e := mne m t 0) (by decide) ht (by omega) hp1 ⟨b7, b9, mny_4, bmy2, bmy0⟩ b8 ((b6 176 43 (by omega) (by omega)).trans ((mm_u_f (by decide)).trans h43)) b10 (by omega) (by omega) (fun w2 h2 e3 v y3 y4 y5 ho => ?_)
  obtain ⟨o1, o2, o3, o4, o5, o6, o7, o9, o10⟩ := ho
  rw [e12, e13, ← rd_b (by decide)] at o10
  have hneg : nI 0 + (-1) < 0 := by decide
  refine bk_X12_reads_100 (mm_call_m _) (fun _ => ?_) (fun z => absurd hneg z) (fun z => absurd hneg z) (fun z => absurd hneg z) (fun z => absurd hneg z) (fun z => absurd hneg z)
  refine bk_X12_reads_15 (mm_call_m _) (fun _ => ?_) (fun z => absurd hneg z) (fun z => absurd hneg z) (fun z => absurd hneg z) (fun z => absurd hneg z) (fun z => absurd hneg z) (fun z => absurd hneg z) (fun z => absurd hneg z) (fun z => absurd hneg z) (fun z => absurd hneg z) (fun z => absurd hneg z)
  exact hQ w2 h2 e3 v o1 o2 (by omega) (fun c i q => (o9.2.2 c i q).trans ((b6 c i (by omega) (by omega)).trans (mm_u_o (by omega)))) o10
end MMT
