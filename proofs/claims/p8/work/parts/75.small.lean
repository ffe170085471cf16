/-! ===== what stays in a run; cell(), nextInput(), begin(), gives(), takes(), beginRead() ===== -/
def RF (m w : mm_P) : Prop := (∀ c i, ¬ c = 176 → c < 212 → w c i = m c i) ∧ ∀ i, (i = 0 ∨ i = 13 ∨ i = 20 ∨ i = 41) → w 176 i = m 176 i
theorem RF_r {m : mm_P} : RF m m := ⟨fun _ _ _ _ => rfl, fun _ _ => rfl⟩
theorem RF_t {m n p : mm_P} (h : RF m n) (h2 : RF n p) : RF m p := ⟨fun c i a b => (h2.1 c i a b).trans (h.1 c i a b), fun i a => (h2.2 i a).trans (h.2 i a)⟩
theorem RF_u {m n : mm_P} {c i : Nat} {x : Int32} (h : RF m n) (hc : 212 ≤ c ∨ (c = 176 ∧ ¬ (i = 0 ∨ i = 13 ∨ i = 20 ∨ i = 41))) : RF m (mm_u n c i x) := by
  refine ⟨fun a b q r => (mm_u_e (by omega)).trans (h.1 a b q r), fun b q => ?_⟩
  rw [mm_u_o (by omega)]
  exact h.2 b q
theorem IM_rf {NB ND NF : Nat} {m w : mm_P} (h : IM m NB ND NF) (hp : RF m w) : IM w NB ND NF := by
  obtain ⟨a1, ⟨a2, a3, a4⟩, a5, a6, a7, a8, a9⟩ := h
  have hc : ∀ c i, 177 ≤ c → c < 212 → w c i = m c i := fun c i x y => hp.1 c i (by omega) y
  refine ⟨a1, ⟨(hp.2 0 (by omega)).trans a2, (hp.2 13 (by omega)).trans a3, (hp.2 20 (by omega)).trans a4⟩, fun t ht => wT_c (a5 t ht) (fun t _ c x y => hc c t x (by omega)) (.inl ht), DN_c a6 (fun t _ c x y => hc c t x (by omega)), fun j hj => okN_c (a7 j hj) (Nat.le_refl _) (fun c i x y z => hc c i (by omega) (by omega)), fun f hf => okF_c (a8 f hf) (Nat.le_refl _) (Nat.le_refl _) (fun c x y => hc c f (by omega) (by omega)) (fun t _ c x y => hc c t x (by omega)), ?_⟩
  rw [hc 177 0 (by decide) (by decide), hc 177 1 (by decide) (by decide), hc 177 2 (by decide) (by decide), hc 177 3 (by decide) (by decide)]
  exact a9
/-- the world behind cell(), begin(), gives() -/
def Wc (w : mm_P) (h : Nat) (x y : Int32) : mm_P := mm_u (mm_u (mm_u w 212 h x) 213 h y) 176 43 (nI (h + 1))
def Wb (w : mm_P) (k : Nat) (x : Int32) : mm_P := mm_u (mm_u (mm_u w 222 k x) 223 k 0) 176 62 (nI (k + 1))
def Wg (w : mm_P) (v k : Nat) (x : Int32) : mm_P := mm_u (mm_u (mm_u w 224 v x) 176 64 (nI (v + 1))) 176 62 (nI k)
theorem Wc_o {w : mm_P} {h c i : Nat} {x y : Int32} (h1 : ¬ (c = 212 ∧ i = h)) (h2 : ¬ (c = 213 ∧ i = h)) (h3 : ¬ (c = 176 ∧ i = 43)) : Wc w h x y c i = w c i := by
  unfold Wc
  rw [mm_u_o h3, mm_u_o h2, mm_u_o h1]
theorem Wc_v {w : mm_P} {h : Nat} {x y : Int32} : Wc w h x y 212 h = x ∧ Wc w h x y 213 h = y ∧ Wc w h x y 176 43 = nI (h + 1) := by
  unfold Wc
  refine ⟨?_, ?_, mm_u_s⟩
  · rw [mm_u_e (by decide), mm_u_e (by decide), mm_u_s]
  · rw [mm_u_e (by decide), mm_u_s]
theorem Wb_o {w : mm_P} {k c i : Nat} {x : Int32} (h1 : ¬ (c = 222 ∧ i = k)) (h2 : ¬ (c = 223 ∧ i = k)) (h3 : ¬ (c = 176 ∧ i = 62)) : Wb w k x c i = w c i := by
  unfold Wb
  rw [mm_u_o h3, mm_u_o h2, mm_u_o h1]
theorem Wb_v {w : mm_P} {k : Nat} {x : Int32} : Wb w k x 222 k = x ∧ Wb w k x 223 k = 0 ∧ Wb w k x 176 62 = nI (k + 1) := by
  unfold Wb
  refine ⟨?_, ?_, mm_u_s⟩
  · rw [mm_u_e (by decide), mm_u_e (by decide), mm_u_s]
  · rw [mm_u_e (by decide), mm_u_s]
theorem Wg_o {w : mm_P} {v k c i : Nat} {x : Int32} (h1 : ¬ (c = 224 ∧ i = v)) (h2 : ¬ (c = 176 ∧ i = 64)) (h3 : ¬ (c = 176 ∧ i = 62)) : Wg w v k x c i = w c i := by
  unfold Wg
  rw [mm_u_o h3, mm_u_o h2, mm_u_o h1]
theorem Wg_v {w : mm_P} {v k : Nat} {x : Int32} : Wg w v k x 224 v = x ∧ Wg w v k x 176 64 = nI (v + 1) ∧ Wg w v k x 176 62 = nI k := by
  unfold Wg
  refine ⟨?_, ?_, mm_u_s⟩
  · rw [mm_u_e (by decide), mm_u_e (by decide), mm_u_s]
  · rw [mm_u_f (by decide), mm_u_s]
theorem RF_c {m w : mm_P} {h : Nat} {x y : Int32} (hp : RF m w) : RF m (Wc w h x y) := RF_u (RF_u (RF_u hp (by omega)) (by omega)) (by omega)
theorem RF_b {m w : mm_P} {h : Nat} {x : Int32} (hp : RF m w) : RF m (Wb w h x) := RF_u (RF_u (RF_u hp (by omega)) (by omega)) (by omega)
theorem RF_g {m w : mm_P} {v k : Nat} {x : Int32} (hp : RF m w) : RF m (Wg w v k x) := RF_u (RF_u (RF_u hp (by omega)) (by omega)) (by omega)
def pj : Nat → Int32
  | 0 => -1
  | j + 1 => nI j
theorem pj_d (j : Nat) (h : j < 2 ^ 31) : nI j + (-1) = pj j := by
  cases j with
  | zero => rfl
  | succ j => exact mm_dec j (by omega)
theorem pj_d' (j : Nat) (h : j < 2 ^ 31) : nI j - 1 = pj j := by
  cases j with
  | zero => rfl
  | succ j => exact mm_dec' j (by omega)
theorem r5 {d : Nat} (hd : d < 1000) : (5 : Int32) * nI d = nI (5 * d) := by
  have e1 : (nI d).toInt = d := mm_tI (by omega)
  refine Int32.toInt_inj.mp ?_
  rw [mm_imul] <;> rw [mm_tt5, e1]
  · rw [mm_tI (by omega)]
    omega
  · omega
  · omega
theorem nI_a {a b : Nat} (h : a + b < 2 ^ 31) : nI a + nI b = nI (a + b) := by
  refine Int32.toInt_inj.mp ?_
  rw [mm_addI] <;> rw [mm_tI (by omega), mm_tI (by omega)]
  · rw [mm_tI (by omega)]
    omega
  · omega
  · omega
section MMT
variable {L : Nat} {xs : Nat → Int32} {d : Nat} {Q : mm_QQ} {mi : mm_P} {ml : mm_G} {lim : Nat × Nat}
theorem sp_cell {h : Nat} {x y : Int32} (h43 : mi 176 43 = nI h) (hh : h < 6000) (hQ : Q (some (mm_I (nI h))) (Wc mi h x y) ml) : mm_cq (mm_call mm_ms (mm_tb L xs) (d + 1)) 213 [mm_R 176, mm_I x, mm_I y] mi ml Q := by
  have v : vp_in (mi 176 43) 6000 := by rw [h43]; exact vp_in_nI hh (by decide)
  refine en_X12_cell (bk_X12_cell_0 (mm_call_m _) v v ?_)
  rw [h43, nI_clamp (by omega), show nI h + 1 = nI (h + 1) from (nI_succ h).symm, mm_dec' h (by omega)]
  exact hQ
theorem sp_nextInput {e : Nat} (h42 : mi 176 42 = nI e) (he : e < 1000000) (h41 : (mi 176 41).toInt ≤ 16) (hQ : ∀ x, Q (some (mm_I x)) (mm_u mi 176 42 (nI (e + 1))) ml) : mm_cq (mm_call mm_ms (mm_tb L xs) (d + 1)) 214 [mm_R 176] mi ml Q := by
  refine en_X12_nextInput (bk_X12_nextInput_0 (mm_call_m _) (fun _ => ?_) (fun z => ?_) (fun z => ?_))
  · rw [h42, show nI e + 1 = nI (e + 1) from (nI_succ e).symm]
    exact hQ _
  · have z' := mm_nleI z
    rw [h42, mm_tI (by omega)] at z'
    rw [h42]
    exact vp_in_nI (by omega) (by decide)
  · rw [h42, show nI e + 1 = nI (e + 1) from (nI_succ e).symm]
    exact hQ _
theorem sp_begin {k : Nat} {x : Int32} (h62 : mi 176 62 = nI k) (hk : k < 400) (hQ : Q none (Wb mi k x) ml) : mm_cq (mm_call mm_ms (mm_tb L xs) (d + 1)) 221 [mm_R 176, mm_I x] mi ml Q := by
  have v : vp_in (mi 176 62) 400 := by rw [h62]; exact vp_in_nI hk (by decide)
  refine en_X12_begin (bk_X12_begin_0 (mm_call_m _) v v ?_)
  rw [h62, nI_clamp (by omega), show nI k + 1 = nI (k + 1) from (nI_succ k).symm]
  exact hQ
theorem sp_gives {v k : Nat} {x : Int32} (h64 : mi 176 64 = nI v) (hv : v < 800) (h62 : mi 176 62 = nI (k + 1)) (hk : k < 400) (hQ : Q none (Wg mi v k x) ml) : mm_cq (mm_call mm_ms (mm_tb L xs) (d + 1)) 222 [mm_R 176, mm_I x] mi ml Q := by
  have vv : vp_in (mi 176 64) 800 := by rw [h64]; exact vp_in_nI hv (by decide)
  refine en_X12_gives (bk_X12_gives_0 (mm_call_m _) vv ?_)
  rw [h64, h62, nI_clamp (by omega), show nI v + 1 = nI (v + 1) from (nI_succ v).symm, mm_dec' k (by omega)]
  exact hQ
theorem sp_takes {v : Nat} (h64 : mi 176 64 = nI (v + 1)) (hv : v < 800) (hQ : Q (some (mm_I (mi 224 v))) (mm_u mi 176 64 (nI v)) ml) : mm_cq (mm_call mm_ms (mm_tb L xs) (d + 1)) 223 [mm_R 176] mi ml Q := by
  have e : mi 176 64 - 1 = nI v := by rw [h64, mm_dec' v (by omega)]
  refine en_X12_takes (bk_X12_takes_0 (mm_call_m _) ?_ ?_) <;> rw [e]
  · exact vp_in_nI hv (by decide)
  · rw [nI_clamp (by omega)]
    exact hQ
/-- the world behind beginRead() -/
def Wr (w : mm_P) (dd : Nat) (t many : Int32) : mm_P := mm_u (mm_u (mm_u w 215 dd t) 217 dd 0) 216 dd many
theorem sp_beginRead {dd t e : Nat} (hd : dd < 8) (ht : t < 8000) (h42 : mi 176 42 = nI e) (he : e < 1000000) (h41 : (mi 176 41).toInt ≤ 16) (hQ : ∀ w' e' many, many ≤ 4 → (mi 177 t = 4 → many = 2) → (¬ mi 177 t = 4 → ¬ mi 177 t = 5 → many = 0) → e ≤ e' → e' ≤ e + 1 → (∀ c i, ¬ (215 ≤ c ∧ c ≤ 217 ∧ i = dd) → ¬ (c = 176 ∧ i = 42) → w' c i = mi c i) → w' 215 dd = nI t → w' 217 dd = 0 → w' 216 dd = nI many → w' 176 42 = nI e' → Q none w' ml) : mm_cq (mm_call mm_ms (mm_tb L xs) (d + 2)) 215 [mm_R 176, mm_I (nI dd), mm_I (nI t)] mi ml Q := by
  have vd8 : vp_in (nI dd) 8 := vp_in_nI hd (by decide)
  have vt : vp_in (nI t) 8000 := vp_in_nI ht (by decide)
  have ed : (nI dd).toNatClampNeg = dd := nI_clamp (by omega)
  have et : (nI t).toNatClampNeg = t := nI_clamp (by omega)
  have hw : ∀ (n : mm_P) (many e' : Nat), many ≤ 4 → (mi 177 t = 4 → many = 2) → (¬ mi 177 t = 4 → ¬ mi 177 t = 5 → many = 0) → e ≤ e' → e' ≤ e + 1 → (∀ c i, ¬ (c = 176 ∧ i = 42) → n c i = mm_u (mm_u mi 215 dd (nI t)) 217 dd 0 c i) → n 176 42 = nI e' → Q none (mm_u n 216 dd (nI many)) ml := fun n many e' a1 a2 a3 a4 a5 a6 a7 => by
    refine hQ _ e' many a1 a2 a3 a4 a5 (fun c i q q2 => ?_) ?_ ?_ mm_u_s ?_
    · rw [mm_u_o (by omega), a6 c i q2, mm_u_o (by omega), mm_u_o (by omega)]
    · rw [mm_u_e (by decide), a6 215 dd (by omega), mm_u_e (by decide), mm_u_s]
    · rw [mm_u_e (by decide), a6 217 dd (by omega), mm_u_s]
    · rw [mm_u_e (by decide)]
      exact a7
  have h42' : mm_u (mm_u mi 215 dd (nI t)) 217 dd 0 176 42 = nI e := by
    rw [mm_u_e (by decide), mm_u_e (by decide)]
    exact h42
  have h41' : mm_u (mm_u mi 215 dd (nI t)) 217 dd 0 176 41 = mi 176 41 := by
    rw [mm_u_e (by decide), mm_u_e (by decide)]
  refine en_X12_beginRead (bk_X12_beginRead_0 (mm_call_m _) vd8 vd8 vt (fun _ => vt) (fun _ _ _ _ => vd8) (fun z z2 _ _ => ?_) (fun _ _ _ z => absurd z (by decide)) (fun _ _ _ z => absurd z (by decide)) (fun _ _ z => absurd z (by decide)) (fun _ _ z => absurd z (by decide)) (fun z z2 => ?_) (fun _ _ _ => vd8) (fun z _ _ => ?_) (fun _ _ z => absurd z (by decide)) (fun _ _ z => absurd z (by decide)) (fun _ z => absurd z (by decide)) (fun _ z => absurd z (by decide)))
  · rw [et] at z z2
    rw [ed]
    exact hw _ 0 e (by omega) (fun q => absurd q z) (fun _ _ => rfl) (Nat.le_refl _) (by omega) (fun _ _ _ => rfl) h42'
  · rw [et] at z z2
    rw [ed]
    refine sp_nextInput h42' he (by rw [h41']; exact h41) (fun x => bk_X12_beginRead_42 (mm_call_m _) (fun _ _ => vd8) (fun a b => ?_) (fun _ _ => vd8) (fun _ _ => ?_) (fun _ => vd8) (fun _ => ?_))
    · rw [ed]
      have a' := mm_leI a
      have b' := mm_leI b
      rw [mm_tt0] at a'
      rw [mm_tt4] at b'
      obtain ⟨k, k1, k2, k3, k4⟩ := mm_of (n := 5) a' (by omega)
      rw [k1]
      exact hw _ k (e + 1) (by omega) (fun q => absurd q z) (fun _ q => absurd z2 q) (by omega) (Nat.le_refl _) (fun c i q => mm_u_o q) mm_u_s
    · rw [ed]
      exact hw _ 4 (e + 1) (by omega) (fun q => absurd q z) (fun _ q => absurd z2 q) (by omega) (Nat.le_refl _) (fun c i q => mm_u_o q) mm_u_s
    · rw [ed]
      exact hw _ 0 (e + 1) (by omega) (fun q => absurd q z) (fun _ q => absurd z2 q) (by omega) (Nat.le_refl _) (fun c i q => mm_u_o q) mm_u_s
  · rw [et] at z
    rw [ed]
    exact hw _ 2 e (by omega) (fun _ => rfl) (fun q => absurd z q) (Nat.le_refl _) (by omega) (fun _ _ _ => rfl) h42'
end MMT
