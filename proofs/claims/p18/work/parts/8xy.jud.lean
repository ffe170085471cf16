/-! ===== reading: the machine with letters ===== -/
theorem rdY_0 {m : mm_P} {F : Nat → ZRE} {t : Nat} {A B : HF} {h e : Nat} : rdY m F t 0 A B h e = rdZ m t 0 (fun _ => 0) A B h e := rfl
theorem rd_0 {m : mm_P} {k t : Nat} {A B : HF} {h e : Nat} (q : m 177 t = 0) : rd m (k + 1) t A B h e = (inp m e, A, B, h, e + 1) := by
  show rdY m _ t (mny m t e) A B h (mne m t e) = _
  have e1 : mny m t e = 0 := by unfold mny; rw [if_neg (by rw [q]; decide), if_neg (by rw [q]; decide)]
  have e2 : mne m t e = e := by unfold mne; rw [if_neg (by rw [q]; decide), if_neg (by rw [q]; decide)]
  rw [e1, e2, rdY_0]
  unfold rdZ
  rw [if_pos q]
theorem rd_1 {m : mm_P} {k t : Nat} {A B : HF} {h e : Nat} (q : m 177 t = 1) : rd m (k + 1) t A B h e = (if inp m e = 0 then 0 else 1, A, B, h, e + 1) := by
  show rdY m _ t (mny m t e) A B h (mne m t e) = _
  have e1 : mny m t e = 0 := by unfold mny; rw [if_neg (by rw [q]; decide), if_neg (by rw [q]; decide)]
  have e2 : mne m t e = e := by unfold mne; rw [if_neg (by rw [q]; decide), if_neg (by rw [q]; decide)]
  rw [e1, e2, rdY_0]
  unfold rdZ
  rw [if_neg (by rw [q]; decide), if_pos q]
theorem rd_4 {m : mm_P} {k t a b : Nat} {A B A1 B1 A2 B2 : HF} {h e h1 e1 h2 e2 : Nat} {v u : Int32} (q : m 177 t = 4) (qa : m 178 t = nI a) (qb : m 179 t = nI b) (la : a < 2 ^ 31) (lb : b < 2 ^ 31) (g1 : rd m k a A B h e = (v, A1, B1, h1, e1)) (g2 : rd m k b A1 B1 h1 e1 = (u, A2, B2, h2, e2)) : rd m (k + 1) t A B h e = (nI h2, fu A2 h2 v, fu B2 h2 u, h2 + 1, e2) := by
  show rdY m (fun i => rd m k (ptT m t i).toNatClampNeg) t (mny m t e) A B h (mne m t e) = _
  have e1' : mny m t e = 2 := by unfold mny; rw [if_pos q]
  have e2' : mne m t e = e := by unfold mne; rw [if_pos q]
  have p0 : (ptT m t 0).toNatClampNeg = a := by
    unfold ptT
    rw [if_pos q, if_neg (by decide), qa, nI_clamp la]
  have p1 : (ptT m t 1).toNatClampNeg = b := by
    unfold ptT
    rw [if_pos q, if_pos rfl, qb, nI_clamp lb]
  have f0 : (fun i => rd m k (ptT m t i).toNatClampNeg) 0 A B h e = (v, A1, B1, h1, e1) := by
    show rd m k (ptT m t 0).toNatClampNeg A B h e = _
    rw [p0]
    exact g1
  have f1 : (fun i => rd m k (ptT m t i).toNatClampNeg) 1 A1 B1 h1 e1 = (u, A2, B2, h2, e2) := by
    show rd m k (ptT m t 1).toNatClampNeg A1 B1 h1 e1 = _
    rw [p1]
    exact g2
  rw [e1', e2', rdY_s (rdN_s (n := 1) (rdN_s (n := 0) rfl f0) f1)]
  unfold rdZ
  rw [if_neg (by rw [q]; decide), if_neg (by rw [q]; decide), if_pos q, fu_s, fu_o (by decide), fu_s]
theorem rd_5 {m : mm_P} {k t a n : Nat} {A B vs A1 B1 A2 B2 : HF} {h e h1 e1 h2 : Nat} {v : Int32} (q : m 177 t = 5) (qa : m 178 t = nI a) (la : a < 2 ^ 31) (hn : n = rmy (inp m e)) (g1 : rdN (fun _ => rd m k a) n A B h (e + 1) = (vs, A1, B1, h1, e1)) (g2 : lsC vs n A1 B1 h1 (-1) = (v, A2, B2, h2)) : rd m (k + 1) t A B h e = (v, A2, B2, h2, e1) := by
  show rdY m (fun i => rd m k (ptT m t i).toNatClampNeg) t (mny m t e) A B h (mne m t e) = _
  have e1' : mny m t e = n := by unfold mny; rw [if_neg (by rw [q]; decide), if_pos q, hn]
  have e2' : mne m t e = e + 1 := by unfold mne; rw [if_neg (by rw [q]; decide), if_pos q]
  have eF : (fun i => rd m k (ptT m t i).toNatClampNeg) = fun _ => rd m k a := funext fun i => by
    unfold ptT
    rw [if_neg (by rw [q]; decide), qa, nI_clamp la]
  rw [e1', e2', eF, rdY_s g1]
  unfold rdZ
  rw [if_neg (by rw [q]; decide), if_neg (by rw [q]; decide), if_neg (by rw [q]; decide), g2]
/-- the model's links, made behind the machine's -/
theorem lk_lsC {P : LR} (hP : mLR P) {vs K : HF} {l : Nat → Nat} {n p : Nat} (hl : ∀ i, i < n → 4096 ≤ l i ∧ l i + 2 ≤ p) (hK : ∀ i, i < n → K (l i) = if i + 1 < n then nI (l (i + 1)) else 0) : ∀ (j : Nat) {A B : HF} {h : Nat} {φ : Nat → Nat} {v0 v : Int32} {A' B' : HF} {h' : Nat}, j ≤ n → lsC vs j A B h v0 = (v, A', B', h') → LHP h p φ → (∀ i, i < j → P A B h K φ (vs i) (K (l i + 1))) → lL P A B h K φ v0 (if j < n then nI (l j) else 0) → ∃ φ', LE A B h K φ A' B' h' K φ' ∧ LHP h' p φ' ∧ (∀ a, h ≤ a → a < h' → ∃ i, i < n ∧ φ' a = l i) ∧ h' = h + j ∧ lL P A' B' h' K φ' v (if 0 < n then nI (l 0) else 0) := by
  intro j
  induction j with
  | zero =>
    intro A B h φ v0 v A' B' h' hj hc hp hv hl0
    have e : (v0, A, B, h) = (v, A', B', h') := hc
    cases e
    exact ⟨φ, LE_r, hp, fun a a1 a2 => absurd a2 (by omega), rfl, hl0⟩
  | succ j ih =>
    intro A B h φ v0 v A' B' h' hj hc hp hv hl0
    have hc' : lsC vs j (fu A h (vs j)) (fu B h v0) (h + 1) (nI h) = (v, A', B', h') := hc
    have hLE : LE A B h K φ (fu A h (vs j)) (fu B h v0) (h + 1) K (fφ φ h (l j)) := ⟨Nat.le_succ _, fun a ha => ⟨fu_o (by omega), fu_o (by omega), fφ_o (by omega), rfl, rfl⟩⟩
    have hLP : LHP (h + 1) p (fφ φ h (l j)) := fun a ha => by
      by_cases q : a = h
      · rw [q, fφ_s]
        exact hl j (by omega)
      · rw [fφ_o q]
        exact hp a (by omega)
    have h1 : P (fu A h (vs j)) (fu B h v0) (h + 1) K (fφ φ h (l j)) (fu A h (vs j) h) (K (fφ φ h (l j) h + 1)) := by
      rw [fu_s, fφ_s]
      exact hP _ _ _ _ _ _ _ _ _ _ hLE _ _ (hv j (by omega))
    have h2 : lL P (fu A h (vs j)) (fu B h v0) (h + 1) K (fφ φ h (l j)) (fu B h v0 h) (K (fφ φ h (l j) h)) := by
      rw [fu_s, fφ_s, hK j (by omega)]
      exact mLR_L hP _ _ _ _ _ _ _ _ _ _ hLE _ _ hl0
    have h3 := lL_link (P := P) (a := h) (Nat.lt_succ_self h) h1 h2
    rw [fφ_s] at h3
    obtain ⟨φ', b1, b2, b3, b4, b5⟩ := ih (φ := fφ φ h (l j)) (by omega) hc' hLP (fun i hi => hP _ _ _ _ _ _ _ _ _ _ hLE _ _ (hv i (by omega))) (by rw [if_pos (by omega)]; exact h3)
    refine ⟨φ', LE_t hLE b1, b2, fun a c1 c2 => ?_, by omega, b5⟩
    by_cases q : a = h
    · refine ⟨j, by omega, ?_⟩
      rw [q, (b1.2 h (by omega)).2.2.1, fφ_s]
    · exact b3 a (by omega) c2
/-- only reading was done -/
def FRR (w w' : mm_P) : Prop := ∀ c i, ¬ c = 165 → ¬ (c = 164 ∧ (i = 8 ∨ i = 9)) → ¬ (c = 160 ∧ i = 2) → w' c i = w c i
theorem FRR_t {w w' w2 : mm_P} (a : FRR w w') (b : FRR w' w2) : FRR w w2 := fun c i q1 q2 q3 => (b c i q1 q2 q3).trans (a c i q1 q2 q3)
/-- what is left behind by readValue() -/
def RV (w w' : mm_P) (N : Nat) (S : LR) (k st p h e : Nat) (A B : HF) (φ : Nat → Nat) (R : ZRT) : Prop := ∃ v A' B' h' e' φ' p', R = (v, A', B', h', e') ∧ (w' 164 8 = nI (st + 1) ∧ w' 164 9 = nI p' ∧ p' + 2 * h = p + 2 * h' ∧ h ≤ h' ∧ h' ≤ h + cn k) ∧ (w' 160 2 = nI (min e' N) ∧ e ≤ e' ∧ e' ≤ e + en k) ∧ FRR w w' ∧ (∀ i, i < st → w' 165 i = w 165 i) ∧ (∀ i, 4096 ≤ i → i < p → w' 165 i = w 165 i) ∧ (∀ a, a < h → A' a = A a ∧ B' a = B a ∧ φ' a = φ a) ∧ (∀ a, h ≤ a → a < h' → p ≤ φ' a) ∧ LHP h' p' φ' ∧ S A' B' h' (w' 165) φ' v (w' 165 st)
/-- the old cells stand -/
theorem LE_v {A B A' B' K K' : HF} {h h' p : Nat} {φ φ' : Nat → Nat} (hp : LHP h p φ) (hh : h ≤ h') (hK : ∀ i, 4096 ≤ i → i < p → K' i = K i) (ha : ∀ a, a < h → A' a = A a ∧ B' a = B a ∧ φ' a = φ a) : LE A B h K φ A' B' h' K' φ' := ⟨hh, fun a q => by
  obtain ⟨b1, b2⟩ := hp a q
  obtain ⟨c1, c2, c3⟩ := ha a q
  exact ⟨c1, c2, c3, hK _ b1 (by omega), hK _ (by omega) (by omega)⟩⟩
/-- what a list's reading has come to behind i elements -/
def RLI (m w0 w : mm_P) (N : Nat) (P : LR) (k a st p0 h0 e0 : Nat) (A0 B0 : HF) (φ0 : Nat → Nat) (i : Nat) (l : Nat → Nat) (vs A B : HF) (h e p : Nat) (φ : Nat → Nat) : Prop := rdN (fun _ => rd m k a) i A0 B0 h0 e0 = (vs, A, B, h, e) ∧ (w 164 8 = nI st ∧ w 164 9 = nI p ∧ p + 2 * h0 = p0 + 2 * h + 2 * i ∧ h0 ≤ h ∧ h ≤ h0 + i * cn k) ∧ (w 160 2 = nI (min e N) ∧ e0 ≤ e ∧ e ≤ e0 + i * en k) ∧ FRR w0 w ∧ (∀ i, i < st → w 165 i = w0 165 i) ∧ (∀ i, 4096 ≤ i → i < p0 → w 165 i = w0 165 i) ∧ (∀ a, a < h0 → A a = A0 a ∧ B a = B0 a ∧ φ a = φ0 a) ∧ (∀ a, h0 ≤ a → a < h → p0 ≤ φ a) ∧ LHP h p φ ∧ (∀ j, j < i → (p0 ≤ l j ∧ l j + 2 ≤ p) ∧ w 165 (l j) = (if j + 1 < i then nI (l (j + 1)) else 0) ∧ P A B h (w 165) φ (vs j) (w 165 (l j + 1))) ∧ (∀ j j', j < j' → j' < i → l j + 2 ≤ l j') ∧ (∀ j, j + 1 = i → ∀ a, a < h → φ a + 2 ≤ l j ∨ l j + 2 ≤ φ a)
section MMT
variable {L : Nat} {xs : Nat → Int32} {d : Nat} {Q : mm_QQ} {ml : mm_G} {lim : Nat × Nat} {m : mm_P} {N : Nat}
theorem cl_next {w : mm_P} {e : Nat} (hN : m 176 41 = nI N) (h16 : N ≤ 16) (h1 : w 160 1 = nI N) (h61 : ∀ i, i < N → w 161 i = m 211 i) (h2 : w 160 2 = nI (min e N)) (he : e < 1000000) (hQ : ∀ w', (∀ c i, ¬ (c = 160 ∧ i = 2) → w' c i = w c i) → w' 160 2 = nI (min (e + 1) N) → Q (some (mm_I (inp m e))) w' ml) : mm_cq (mm_call mm_ms (mm_tb L xs) (d + 1)) 39 [mm_R 160] w ml Q := by
  have hlo : ¬ w 160 2 < 0 := fun z => by
    rw [h2] at z
    have := mm_ltI z
    rw [mm_tI (by omega), mm_tt0] at this
    omega
  by_cases q : e < N
  · have em : min e N = e := by omega
    have em' : min (e + 1) N = e + 1 := by omega
    rw [em] at h2
    rw [em'] at hQ
    have ei : inp m e = m 211 e := by
      unfold inp
      rw [hN, if_neg (fun z => by
        have := mm_leI z
        rw [mm_tI (by omega), mm_tI (by omega)] at this
        omega)]
    have hle : ¬ w 160 1 ≤ w 160 2 := fun z => by
      rw [h1, h2] at z
      have := mm_leI z
      rw [mm_tI (by omega), mm_tI (by omega)] at this
      omega
    refine en_X3_next (bk_X3_next_0 (mm_call_m _) (fun z => absurd z hlo) (fun _ z => absurd z hle) (fun _ _ _ => ?_) (fun _ _ _ => ?_) (fun _ _ z => ?_))
    · rw [h2]
      exact vp_in_nI (by omega) (by decide)
    · rw [h2, nI_clamp (by omega), h61 e q, ← ei, show nI e + 1 = nI (e + 1) from (nI_succ e).symm]
      exact hQ _ (fun c i a => mm_u_o a) mm_u_s
    · refine absurd ?_ z
      rw [h2, Int32.lt_iff_toInt_lt, mm_tI (by omega)]
      show (e : Int) < 16
      omega
  · have em : min e N = N := by omega
    have em' : min (e + 1) N = N := by omega
    rw [em] at h2
    rw [em'] at hQ
    have ei : inp m e = 0 := by
      unfold inp
      rw [hN, if_pos (by
        rw [Int32.le_iff_toInt_le, mm_tI (by omega), mm_tI (by omega)]
        omega)]
    rw [ei] at hQ
    have hle : w 160 1 ≤ w 160 2 := by
      rw [h1, h2]
      exact Int32.le_refl _
    exact en_X3_next (bk_X3_next_0 (mm_call_m _) (fun z => absurd z hlo) (fun _ _ => bk_X3_next_27 (mm_call_m _) (hQ w (fun _ _ _ => rfl) h2)) (fun _ z => absurd hle z) (fun _ z => absurd hle z) (fun _ z => absurd hle z))
end MMT
