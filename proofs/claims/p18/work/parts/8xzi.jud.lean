/-! ===== values that lie flat ===== -/
/-- model's heap, how many, class's heap end, its cells, where links lie, value, its cells -/
abbrev FV : Type := HF → HF → Nat → Nat → HF → (Nat → Nat) → Int32 → HF → Prop
abbrev FR : Type := FV × Nat
def qI : FR := (fun _ _ _ _ _ _ v c => c 0 = v, 1)
def qT : FR := (fun _ _ _ _ _ _ v c => c 0 = v ∧ (v = 0 ∨ v = 1), 1)
def qP (P R : FR) : FR := (fun A B h p K φ v c => ∃ a, a < h ∧ v = nI a ∧ P.1 A B h p K φ (A a) c ∧ R.1 A B h p K φ (B a) (fun i => c (P.2 + i)), P.2 + R.2)
def qLn (lo : Nat) (P : FR) : Nat → FV
  | 0 => fun _ _ _ _ _ _ v c => v = -1 ∧ c 0 = 0
  | n + 1 => fun A B h p K φ v c => (v = -1 ∧ c 0 = 0) ∨ ∃ a, a < h ∧ v = nI a ∧ c 0 = nI (φ a) ∧ (lo ≤ φ a ∧ φ a + 1 + P.2 ≤ p) ∧ P.1 A B h p K φ (A a) (fun i => K (φ a + 1 + i)) ∧ qLn lo P n A B h p K φ (B a) (fun _ => K (φ a))
def qL (lo : Nat) (P : FR) : FR := (fun A B h p K φ v c => ∃ n, qLn lo P n A B h p K φ v c, 1)
/-- both heaps grew -/
def FE (lo : Nat) (A B : HF) (h p : Nat) (K : HF) (φ : Nat → Nat) (A' B' : HF) (h' p' : Nat) (K' : HF) (φ' : Nat → Nat) : Prop := (h ≤ h' ∧ p ≤ p') ∧ (∀ a, a < h → A' a = A a ∧ B' a = B a ∧ φ' a = φ a) ∧ ∀ i, lo ≤ i → i < p → K' i = K i
theorem FE_r {lo : Nat} {A B K : HF} {h p : Nat} {φ : Nat → Nat} : FE lo A B h p K φ A B h p K φ := ⟨⟨Nat.le_refl _, Nat.le_refl _⟩, fun _ _ => ⟨rfl, rfl, rfl⟩, fun _ _ _ => rfl⟩
theorem FE_t {lo : Nat} {A B K A' B' K' A2 B2 K2 : HF} {h h' h2 p p' p2 : Nat} {φ φ' φ2 : Nat → Nat} (a : FE lo A B h p K φ A' B' h' p' K' φ') (b : FE lo A' B' h' p' K' φ' A2 B2 h2 p2 K2 φ2) : FE lo A B h p K φ A2 B2 h2 p2 K2 φ2 := by
  refine ⟨⟨by have := a.1.1; have := b.1.1; omega, by have := a.1.2; have := b.1.2; omega⟩, fun i hi => ?_, fun i i1 i2 => ?_⟩
  · obtain ⟨x1, x2, x3⟩ := a.2.1 i hi
    obtain ⟨y1, y2, y3⟩ := b.2.1 i (by have := a.1.1; omega)
    exact ⟨y1.trans x1, y2.trans x2, y3.trans x3⟩
  · exact (b.2.2 i i1 (by have := a.1.2; omega)).trans (a.2.2 i i1 i2)
/-- a relation that growth keeps and that looks at its own cells alone -/
def oFR (lo : Nat) (S : FR) : Prop := ∀ A B h p K φ A' B' h' p' K' φ', FE lo A B h p K φ A' B' h' p' K' φ' → ∀ v c c', (∀ i, i < S.2 → c' i = c i) → S.1 A B h p K φ v c → S.1 A' B' h' p' K' φ' v c'
theorem oFR_I {lo : Nat} : oFR lo qI := fun A B h p K φ A' B' h' p' K' φ' _ v c c' hc q => (hc 0 (Nat.lt_succ_self 0)).trans q
theorem oFR_T {lo : Nat} : oFR lo qT := fun A B h p K φ A' B' h' p' K' φ' _ v c c' hc q => ⟨(hc 0 (Nat.lt_succ_self 0)).trans q.1, q.2⟩
theorem oFR_P {lo : Nat} {P R : FR} (hP : oFR lo P) (hR : oFR lo R) : oFR lo (qP P R) := fun A B h p K φ A' B' h' p' K' φ' e v c c' hc ⟨a, a1, a2, a3, a4⟩ => by
  obtain ⟨x1, x2, x3⟩ := e.2.1 a a1
  have hc' : ∀ i, i < P.2 + R.2 → c' i = c i := hc
  refine ⟨a, by have := e.1.1; omega, a2, ?_, ?_⟩
  · rw [x1]
    exact hP _ _ _ _ _ _ _ _ _ _ _ _ e _ _ _ (fun i hi => hc' i (by omega)) a3
  · rw [x2]
    exact hR _ _ _ _ _ _ _ _ _ _ _ _ e _ _ _ (fun i hi => hc' _ (by omega)) a4
theorem oFR_Ln {lo : Nat} {P : FR} (hP : oFR lo P) : ∀ (n : Nat) (A B : HF) (h p : Nat) (K : HF) (φ : Nat → Nat) (A' B' : HF) (h' p' : Nat) (K' : HF) (φ' : Nat → Nat), FE lo A B h p K φ A' B' h' p' K' φ' → ∀ v c c', c' 0 = c 0 → qLn lo P n A B h p K φ v c → qLn lo P n A' B' h' p' K' φ' v c' := by
  intro n
  induction n with
  | zero => exact fun A B h p K φ A' B' h' p' K' φ' e v c c' hc q => ⟨q.1, hc.trans q.2⟩
  | succ n ih =>
    intro A B h p K φ A' B' h' p' K' φ' e v c c' hc q
    rcases q with ⟨q1, q2⟩ | ⟨a, a1, a2, a3, ⟨a4, a5⟩, a6, a7⟩
    · exact .inl ⟨q1, hc.trans q2⟩
    · obtain ⟨x1, x2, x3⟩ := e.2.1 a a1
      refine .inr ⟨a, by have := e.1.1; omega, a2, ?_, ⟨by rw [x3]; exact a4, by rw [x3]; have := e.1.2; omega⟩, ?_, ?_⟩
      · rw [x3, hc]
        exact a3
      · rw [x1, x3]
        exact hP _ _ _ _ _ _ _ _ _ _ _ _ e _ _ _ (fun i hi => e.2.2 _ (by omega) (by omega)) a6
      · rw [x2, x3]
        exact ih _ _ _ _ _ _ _ _ _ _ _ _ e _ _ _ (e.2.2 _ a4 (by omega)) a7
theorem oFR_L {lo : Nat} {P : FR} (hP : oFR lo P) : oFR lo (qL lo P) := fun A B h p K φ A' B' h' p' K' φ' e v c c' hc ⟨n, q⟩ => ⟨n, oFR_Ln hP n _ _ _ _ _ _ _ _ _ _ _ _ e _ _ _ (hc 0 (Nat.lt_succ_self 0)) q⟩
theorem qL_nil {lo : Nat} {P : FR} {A B K : HF} {h p : Nat} {φ : Nat → Nat} {c : HF} (hc : c 0 = 0) : (qL lo P).1 A B h p K φ (-1) c := ⟨0, rfl, hc⟩
theorem qL_link {lo : Nat} {P : FR} {A B K : HF} {h p a : Nat} {φ : Nat → Nat} {c : HF} (ha : a < h) (hc : c 0 = nI (φ a)) (hb : lo ≤ φ a ∧ φ a + 1 + P.2 ≤ p) (h1 : P.1 A B h p K φ (A a) (fun i => K (φ a + 1 + i))) (h2 : (qL lo P).1 A B h p K φ (B a) (fun _ => K (φ a))) : (qL lo P).1 A B h p K φ (nI a) c := by
  obtain ⟨n, q⟩ := h2
  exact ⟨n + 1, .inr ⟨a, ha, rfl, hc, hb, h1, q⟩⟩
theorem qL_get {lo : Nat} {P : FR} {A B K : HF} {h p : Nat} {φ : Nat → Nat} {v : Int32} {c : HF} (q : (qL lo P).1 A B h p K φ v c) : (v = -1 ∧ c 0 = 0) ∨ ∃ a, a < h ∧ v = nI a ∧ c 0 = nI (φ a) ∧ (lo ≤ φ a ∧ φ a + 1 + P.2 ≤ p) ∧ P.1 A B h p K φ (A a) (fun i => K (φ a + 1 + i)) ∧ (qL lo P).1 A B h p K φ (B a) (fun _ => K (φ a)) := by
  obtain ⟨n, q⟩ := q
  cases n with
  | zero => exact .inl q
  | succ n =>
    rcases q with q | ⟨a, a1, a2, a3, a4, a5, a6⟩
    · exact .inl q
    · exact .inr ⟨a, a1, a2, a3, a4, a5, n, a6⟩
/-- values of a shape -/
def qS (lo : Nat) : Nat → Int64 → FR
  | 0, _ => qI
  | k + 1, S => if f_kd S = 4 then qP (qS lo k (f_fs S)) (qS lo k (f_sc S)) else if f_kd S = 5 then qL lo (qS lo k (f_fs S)) else if f_kd S = 1 then qT else qI
def qV (lo : Nat) (S : Int64) : FR := qS lo 6 S
theorem qS_s {lo : Nat} (k : Nat) (S : Int64) : qS lo (k + 1) S = if f_kd S = 4 then qP (qS lo k (f_fs S)) (qS lo k (f_sc S)) else if f_kd S = 5 then qL lo (qS lo k (f_fs S)) else if f_kd S = 1 then qT else qI := rfl
theorem qS_f {lo : Nat} : ∀ S, CLs S → ∀ k j, dpn S ≤ k → dpn S ≤ j → qS lo k S = qS lo j S := by
  have p1 : ∀ S, VS S → ∀ k, dpn S ≤ k → ∃ a, k = a + 1 := fun S h k hk => ⟨k - 1, by have := dpn_r h; omega⟩
  refine CLs_ind (fun k j hk hj => ?_) (fun k j hk hj => ?_) (fun x y hx hy d1 d2 ix iy k j hk hj => ?_) (fun x hx d1 ix k j hk hj => ?_)
  · obtain ⟨a, rfl⟩ := p1 0 (CLs_V CLs_0) k hk
    obtain ⟨b, rfl⟩ := p1 0 (CLs_V CLs_0) j hj
    rw [qS_s, qS_s, kd_l.1]
    rfl
  · obtain ⟨a, rfl⟩ := p1 1 (CLs_V CLs_1) k hk
    obtain ⟨b, rfl⟩ := p1 1 (CLs_V CLs_1) j hj
    rw [qS_s, qS_s, kd_l.2.1]
    rfl
  · obtain ⟨v1, v2, v3, v4, v5⟩ := pr_V (CLs_V hx) (CLs_V hy) d1 d2
    obtain ⟨a, rfl⟩ := p1 _ v1 k hk
    obtain ⟨b, rfl⟩ := p1 _ v1 j hj
    rw [qS_s, qS_s, v3, v4, ix a b (by omega) (by omega), iy a b (by omega) (by omega), v2, if_pos rfl]
  · obtain ⟨v1, v2, v3, v5⟩ := ls_V (CLs_V hx) d1
    obtain ⟨a, rfl⟩ := p1 _ v1 k hk
    obtain ⟨b, rfl⟩ := p1 _ v1 j hj
    have key : ∀ (X Y Z : FR), (if (5 : Int32) = 4 then X else if (5 : Int32) = 5 then Y else Z) = Y := fun X Y Z => by
      rw [if_neg (by decide), if_pos rfl]
    rw [qS_s, qS_s, v2, key, key, v3, ix a b (by omega) (by omega)]
theorem qV_pr {lo : Nat} {x y : Int64} (hx : CLs x) (hy : CLs y) (d1 : dpn x ≤ 4) (d2 : dpn y ≤ 4) : qV lo (f_pr x y) = qP (qV lo x) (qV lo y) := by
  obtain ⟨v1, v2, v3, v4, v5⟩ := pr_V (CLs_V hx) (CLs_V hy) d1 d2
  show qS lo (5 + 1) (f_pr x y) = qP (qS lo 6 x) (qS lo 6 y)
  rw [qS_s, v2, if_pos rfl, v3, v4, qS_f x hx 5 6 (by omega) (by omega), qS_f y hy 5 6 (by omega) (by omega)]
theorem qV_ls {lo : Nat} {x : Int64} (hx : CLs x) (d1 : dpn x ≤ 4) : qV lo (f_ls x) = qL lo (qV lo x) := by
  obtain ⟨v1, v2, v3, v5⟩ := ls_V (CLs_V hx) d1
  show qS lo (5 + 1) (f_ls x) = qL lo (qS lo 6 x)
  rw [qS_s, v2, if_neg (by decide), if_pos rfl, v3, qS_f x hx 5 6 (by omega) (by omega)]
theorem qV_0 {lo : Nat} : qV lo 0 = qI := by
  show qS lo (5 + 1) 0 = qI
  rw [qS_s, kd_l.1, if_neg (by decide), if_neg (by decide), if_neg (by decide)]
theorem qV_1 {lo : Nat} : qV lo 1 = qT := by
  show qS lo (5 + 1) 1 = qT
  rw [qS_s, kd_l.2.1, if_neg (by decide), if_neg (by decide), if_pos rfl]
theorem qV_w (lo : Nat) : ∀ S, CLs S → (qV lo S).2 = wd S ∧ oFR lo (qV lo S) := by
  refine CLs_ind ?_ ?_ (fun x y hx hy d1 d2 ix iy => ?_) (fun x hx d1 ix => ?_)
  · rw [qV_0]
    exact ⟨rfl, oFR_I⟩
  · rw [qV_1]
    exact ⟨rfl, oFR_T⟩
  · rw [qV_pr hx hy d1 d2, wd_pr hx hy d1 d2]
    exact ⟨show (qV lo x).2 + (qV lo y).2 = _ by rw [ix.1, iy.1], oFR_P ix.2 iy.2⟩
  · rw [qV_ls hx d1, wd_ls hx d1]
    exact ⟨rfl, oFR_L ix.2⟩
/-- a smaller bound -/
theorem qLn_lo {lo lo' : Nat} (hl : lo' ≤ lo) {P P' : FR} (h2 : P'.2 = P.2) (hP : ∀ A B h p K φ v c, P.1 A B h p K φ v c → P'.1 A B h p K φ v c) : ∀ (n : Nat) (A B : HF) (h p : Nat) (K : HF) (φ : Nat → Nat) (v : Int32) (c : HF), qLn lo P n A B h p K φ v c → qLn lo' P' n A B h p K φ v c := by
  intro n
  induction n with
  | zero => exact fun A B h p K φ v c q => q
  | succ n ih =>
    intro A B h p K φ v c q
    rcases q with q | ⟨a, a1, a2, a3, ⟨a4, a5⟩, a6, a7⟩
    · exact .inl q
    · exact .inr ⟨a, a1, a2, a3, ⟨by omega, by rw [h2]; exact a5⟩, hP _ _ _ _ _ _ _ _ a6, ih _ _ _ _ _ _ _ _ a7⟩
theorem qV_lo {lo lo' : Nat} (hl : lo' ≤ lo) : ∀ S, CLs S → ∀ A B h p K φ v c, (qV lo S).1 A B h p K φ v c → (qV lo' S).1 A B h p K φ v c := by
  refine CLs_ind (fun A B h p K φ v c q => ?_) (fun A B h p K φ v c q => ?_) (fun x y hx hy d1 d2 ix iy A B h p K φ v c q => ?_) (fun x hx d1 ix A B h p K φ v c q => ?_)
  · rw [qV_0] at q ⊢
    exact q
  · rw [qV_1] at q ⊢
    exact q
  · rw [qV_pr hx hy d1 d2] at q ⊢
    obtain ⟨a, a1, a2, a3, a4⟩ := q
    refine ⟨a, a1, a2, ix _ _ _ _ _ _ _ _ a3, ?_⟩
    rw [(qV_w lo' x hx).1, ← (qV_w lo x hx).1]
    exact iy _ _ _ _ _ _ _ _ a4
  · rw [qV_ls hx d1] at q ⊢
    obtain ⟨n, q⟩ := q
    exact ⟨n, qLn_lo hl ((qV_w lo' x hx).1.trans (qV_w lo x hx).1.symm) ix n _ _ _ _ _ _ _ _ q⟩
