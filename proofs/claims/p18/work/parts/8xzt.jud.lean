/-! ===== how long lists are: a typing of the evaluator ===== -/
/-- how long at most, heap, how many, value -/
abbrev BR : Type := Nat → HF → HF → Nat → Int32 → Prop
def bI : BR := fun _ _ _ _ _ => True
def bP (P R : BR) : BR := fun b A B h v => ∃ a, a < h ∧ v = nI a ∧ P b A B h (A a) ∧ R b A B h (B a)
def bLn (P : BR) : Nat → BR
  | 0 => fun _ _ _ _ v => v = -1
  | n + 1 => fun b A B h v => v = -1 ∨ ∃ a, a < h ∧ v = nI a ∧ P b A B h (A a) ∧ bLn P n b A B h (B a)
def bL (P : BR) : BR := fun b A B h v => ∃ n, n ≤ b ∧ bLn P n b A B h v
def gB : ALG BR := (bP, bL, bI, bI)
def BE (A B : HF) (h : Nat) (A' B' : HF) (h' : Nat) : Prop := h ≤ h' ∧ ∀ a, a < h → A' a = A a ∧ B' a = B a
theorem BE_r {A B : HF} {h : Nat} : BE A B h A B h := ⟨Nat.le_refl _, fun _ _ => ⟨rfl, rfl⟩⟩
theorem BE_t {A B A' B' A2 B2 : HF} {h h' h2 : Nat} (a : BE A B h A' B' h') (b : BE A' B' h' A2 B2 h2) : BE A B h A2 B2 h2 := ⟨Nat.le_trans a.1 b.1, fun c hc => by
  obtain ⟨x1, x2⟩ := a.2 c hc
  obtain ⟨y1, y2⟩ := b.2 c (by have := a.1; omega)
  exact ⟨y1.trans x1, y2.trans x2⟩⟩
theorem BE_n {A B : HF} {h : Nat} {x y : Int32} : BE A B h (fu A h x) (fu B h y) (h + 1) := ⟨Nat.le_succ _, fun a ha => ⟨fu_o (by omega), fu_o (by omega)⟩⟩
def mBR (S : BR) : Prop := ∀ b b' A B h A' B' h', b ≤ b' → BE A B h A' B' h' → ∀ v, S b A B h v → S b' A' B' h' v
theorem mBR_I : mBR bI := fun _ _ _ _ _ _ _ _ _ _ _ _ => trivial
theorem mBR_P {P R : BR} (hP : mBR P) (hR : mBR R) : mBR (bP P R) := fun b b' A B h A' B' h' hb e v ⟨a, a1, a2, a3, a4⟩ => by
  obtain ⟨x1, x2⟩ := e.2 a a1
  refine ⟨a, by have := e.1; omega, a2, ?_, ?_⟩
  · rw [x1]
    exact hP _ _ _ _ _ _ _ _ hb e _ a3
  · rw [x2]
    exact hR _ _ _ _ _ _ _ _ hb e _ a4
theorem mBR_Ln {P : BR} (hP : mBR P) : ∀ n, mBR (bLn P n) := by
  intro n
  induction n with
  | zero => exact fun b b' A B h A' B' h' hb e v q => q
  | succ n ih =>
    intro b b' A B h A' B' h' hb e v q
    rcases q with q | ⟨a, a1, a2, a3, a4⟩
    · exact .inl q
    · obtain ⟨x1, x2⟩ := e.2 a a1
      refine .inr ⟨a, by have := e.1; omega, a2, ?_, ?_⟩
      · rw [x1]
        exact hP _ _ _ _ _ _ _ _ hb e _ a3
      · rw [x2]
        exact ih _ _ _ _ _ _ _ _ hb e _ a4
theorem mBR_L {P : BR} (hP : mBR P) : mBR (bL P) := fun b b' A B h A' B' h' hb e v ⟨n, n1, q⟩ => ⟨n, by omega, mBR_Ln hP n _ _ _ _ _ _ _ _ hb e _ q⟩
theorem GV_mb {w : mm_P} {SA SB : BR} (hA : mBR SA) (hB : mBR SB) : ∀ k t, mBR (GV gB w SA SB k t)
  | 0, _ => mBR_I
  | k + 1, t => by
    unfold GV
    split
    · exact mBR_P (GV_mb hA hB k _) (GV_mb hA hB k _)
    · split
      · exact mBR_L (GV_mb hA hB k _)
      · split
        · exact hA
        · split
          · exact hB
          · split
            · exact mBR_I
            · exact mBR_I
theorem GVt_mb {w : mm_P} {SA SB : BR} (hA : mBR SA) (hB : mBR SB) (t : Nat) : mBR (GVt gB w SA SB t) := GV_mb hA hB _ _
theorem NG_mb {wf : mm_P} {SA SB : BR} (hA : mBR SA) (hB : mBR SB) (x : Int32) : mBR (NG gB wf SA SB x) := GVt_mb hA hB _
theorem bL_get {P : BR} {b : Nat} {A B : HF} {h : Nat} {v : Int32} (q : bL P b A B h v) : v = -1 ∨ ∃ a, a < h ∧ v = nI a ∧ P b A B h (A a) ∧ bL P b A B h (B a) := by
  obtain ⟨n, n1, q⟩ := q
  cases n with
  | zero => exact .inl q
  | succ n =>
    rcases q with q | ⟨a, a1, a2, a3, a4⟩
    · exact .inl q
    · exact .inr ⟨a, a1, a2, a3, n, by omega, a4⟩
theorem bL_link {P : BR} {b a : Nat} {A B : HF} {h : Nat} (ha : a < h) (hP : mBR P) (h1 : P b A B h (A a)) (h2 : bL P b A B h (B a)) : bL P (b + 1) A B h (nI a) := by
  obtain ⟨n, n1, q⟩ := h2
  exact ⟨n + 1, by omega, .inr ⟨a, ha, rfl, hP _ _ _ _ _ _ _ _ (Nat.le_succ _) BE_r _ h1, mBR_Ln hP n _ _ _ _ _ _ _ _ (Nat.le_succ _) BE_r _ q⟩⟩
section MBT
variable {NB ND NF : Nat} {m : mm_P}
/-- a value that was read -/
theorem rd_bt (hI : IM m NB ND NF) : ∀ (k : Nat) {t h e h' e' : Nat} {A B A' B' : HF} {v : Int32}, t < NB → m 181 t = 0 → m 182 t = 0 → (m 180 t).toInt ≤ k → rd m k t A B h e = (v, A', B', h', e') → BE A B h A' B' h' ∧ GVt gB m bI bI t 4 A' B' h' v := by
  have hNB := hI.1.1
  have hTW := TW_I hI
  have hD := hI.2.2.2.1
  intro k
  induction k with
  | zero =>
    intro t h e h' e' A B A' B' v ht _ _ hk
    have := hD t ht
    omega
  | succ k ih =>
    intro t h e h' e' A B A' B' v ht c1 c2 hk hr
    have hkind : m 177 t = 0 ∨ m 177 t = 1 ∨ m 177 t = 4 ∨ m 177 t = 5 := by
      rcases hI.2.2.1 t ht with q | ⟨a, q1, q2, q3⟩ | ⟨a, b, q1, q2, q3, q4, q5⟩
      · rcases bs_cl q c1 c2 with y | y
        · exact .inl y
        · exact .inr (.inl y)
      · exact .inr (.inr (.inr q3.1))
      · exact .inr (.inr (.inl q5.1))
    rcases hkind with z | z | z | z
    · rw [rd_0 z] at hr
      cases hr
      rw [GVt_0 z]
      exact ⟨BE_r, trivial⟩
    · rw [rd_1 z] at hr
      cases hr
      rw [GVt_1 z]
      exact ⟨BE_r, trivial⟩
    · obtain ⟨a, b, -, -, la, lb, ea, eb, eG, hen⟩ := GVt_4 (G := gB) (SA := bI) (SB := bI) hTW (.inl ht) z
      have da := hD a (by omega)
      have db := hD b (by omega)
      have hm' := f_most_r (x := m 180 a) (y := m 180 b) (lo := 1) (hi := 5) da.1 db.1
      rw [hen.2.2.2.1, mm_1p (by omega) (by omega)] at hk
      obtain ⟨⟨y1, y2⟩, y3, y4⟩ := cl_4 hD (by omega) (by omega) hen c1 c2
      rcases g1 : rd m k a A B h e with ⟨v1, A1, B1, h1, e1⟩
      rcases g2 : rd m k b A1 B1 h1 e1 with ⟨v2, A2, B2, h2, e2⟩
      rw [rd_4 z ea eb (by omega) (by omega) g1 g2] at hr
      cases hr
      obtain ⟨p1, p2⟩ := ih (by omega) y1 y2 (by omega) g1
      obtain ⟨p3, p4⟩ := ih (by omega) y3 y4 (by omega) g2
      refine ⟨BE_t p1 (BE_t p3 BE_n), ?_⟩
      rw [eG]
      refine ⟨h2, Nat.lt_succ_self _, rfl, ?_, ?_⟩
      · rw [fu_s]
        exact GVt_mb mBR_I mBR_I a _ _ _ _ _ _ _ _ (Nat.le_refl _) (BE_t p3 BE_n) _ p2
      · rw [fu_s]
        exact GVt_mb mBR_I mBR_I b _ _ _ _ _ _ _ _ (Nat.le_refl _) BE_n _ p4
    · obtain ⟨a, -, la, ea, eG, hen⟩ := GVt_5 (G := gB) (SA := bI) (SB := bI) hTW (.inl ht) z
      have da := hD a (by omega)
      rw [hen.2.2.2.1, mm_1p (by omega) (by omega)] at hk
      obtain ⟨y1, y2⟩ := cl_5 hD (by omega) hen c1 c2
      have hP := GVt_mb (w := m) mBR_I mBR_I a
      have hN : ∀ (n : Nat) {h1 e1 : Nat} {vs A1 B1 : HF}, rdN (fun _ => rd m k a) n A B h (e + 1) = (vs, A1, B1, h1, e1) → BE A B h A1 B1 h1 ∧ ∀ i, i < n → GVt gB m bI bI a 4 A1 B1 h1 (vs i) := by
        intro n
        induction n with
        | zero =>
          intro h1 e1 vs A1 B1 q
          have q' : (fun _ => (0 : Int32), A, B, h, e + 1) = (vs, A1, B1, h1, e1) := q
          cases q'
          exact ⟨BE_r, fun i hi => absurd hi (Nat.not_lt_zero _)⟩
        | succ n ihn =>
          intro h1 e1 vs A1 B1 q
          rcases g1 : rdN (fun _ => rd m k a) n A B h (e + 1) with ⟨ws, A2, B2, h2, e2⟩
          rcases g2 : rd m k a A2 B2 h2 e2 with ⟨v3, A3, B3, h3, e3⟩
          rw [rdN_s g1 g2] at q
          cases q
          obtain ⟨p1, p2⟩ := ihn g1
          obtain ⟨p3, p4⟩ := ih (by omega) y1 y2 (by omega) g2
          refine ⟨BE_t p1 p3, fun i hi => ?_⟩
          by_cases c : i = n
          · rw [c, fu_s]
            exact p4
          · rw [fu_o c]
            exact hP _ _ _ _ _ _ _ _ (Nat.le_refl _) p3 _ (p2 i (by omega))
      have hL : ∀ (vs : HF) (j : Nat) {A1 B1 A2 B2 : HF} {h1 h2 : Nat} {v0 v2 : Int32} {n0 : Nat}, n0 + j ≤ 4 → lsC vs j A1 B1 h1 v0 = (v2, A2, B2, h2) → (∀ i, i < j → GVt gB m bI bI a 4 A1 B1 h1 (vs i)) → bLn (GVt gB m bI bI a) n0 4 A1 B1 h1 v0 → BE A1 B1 h1 A2 B2 h2 ∧ bLn (GVt gB m bI bI a) (n0 + j) 4 A2 B2 h2 v2 := by
        intro vs j
        induction j with
        | zero =>
          intro A1 B1 A2 B2 h1 h2 v0 v2 n0 hj q hv h0
          have q' : (v0, A1, B1, h1) = (v2, A2, B2, h2) := q
          cases q'
          exact ⟨BE_r, h0⟩
        | succ j ihj =>
          intro A1 B1 A2 B2 h1 h2 v0 v2 n0 hj q hv h0
          have q' : lsC vs j (fu A1 h1 (vs j)) (fu B1 h1 v0) (h1 + 1) (nI h1) = (v2, A2, B2, h2) := q
          obtain ⟨p1, p2⟩ := ihj (n0 := n0 + 1) (by omega) q' (fun i hi => hP _ _ _ _ _ _ _ _ (Nat.le_refl _) BE_n _ (hv i (by omega))) (.inr ⟨h1, Nat.lt_succ_self _, rfl, by rw [fu_s]; exact hP _ _ _ _ _ _ _ _ (Nat.le_refl _) BE_n _ (hv j (by omega)), by rw [fu_s]; exact mBR_Ln hP n0 _ _ _ _ _ _ _ _ (Nat.le_refl _) BE_n _ h0⟩)
          refine ⟨BE_t BE_n p1, ?_⟩
          rw [show n0 + (j + 1) = n0 + 1 + j by omega]
          exact p2
      rcases g1 : rdN (fun _ => rd m k a) (rmy (inp m e)) A B h (e + 1) with ⟨vs, A1, B1, h1, e1⟩
      rcases g2 : lsC vs (rmy (inp m e)) A1 B1 h1 (-1) with ⟨v2, A2, B2, h2⟩
      rw [rd_5 z ea (by omega) rfl g1 g2] at hr
      cases hr
      obtain ⟨p1, p2⟩ := hN _ g1
      have h4 := rmy_4 (x := inp m e)
      obtain ⟨p3, p4⟩ := hL vs _ (n0 := 0) (by omega) g2 p2 rfl
      refine ⟨BE_t p1 p3, ?_⟩
      rw [eG]
      exact ⟨_, by omega, p4⟩
/-- a node's value -/
theorem ev_bt (hI : IM m NB ND NF) (hJ : JO NB ND NF m) : ∀ (j : Nat) {f TY n h s l o h' s' l' o' : Nat} {wf : mm_P} {SA SB : BR} {A B A' B' : HF} {arg x : Int32}, AC NB ND NF m f wf TY → mBR SA → mBR SB → (∃ y, y < NB ∧ m 195 f = nI y ∧ GVt gB m SA SB y (4 + l) A B h arg) → n < ND → IB ND m f n → s ≤ 600 → h ≤ 1400 + s → ev m j arg n A B h s l o = (0, x, A', B', h', s', l', o') → (BE A B h A' B' h' ∧ s ≤ s' ∧ s' ≤ 600 ∧ h' + s ≤ h + s' ∧ l ≤ l') ∧ NG gB wf SA SB (nI n) (4 + l') A' B' h' x := by
  have hND := hI.1.2.1
  have hNF := hI.1.2.2
  have hNB := hI.1.1.2
  intro j
  induction j with
  | zero =>
    intro f TY n h s l o h' s' l' o' wf SA SB A B A' B' arg x _ _ _ _ _ _ _ _ he
    have he' : ((9 : Int32), (0 : Int32), A, B, h, s, l, o) = (0, x, A', B', h', s', l', o') := he
    injection he' with q
    exact absurd q (by decide)
  | succ j ih =>
    intro f TY n h s l o h' s' l' o' wf SA SB A B A' B' arg x hAC hA hB hARG n1 hib hs hh he
    have hok := hI.2.2.2.2.1 n n1
    have hs6 : ¬ s = 600 := fun q => by
      rw [q, ev_6] at he
      injection he with q2
      exact absurd q2 (by decide)
    have leaf : ∀ xr, (((m 188 n = 0 ∨ m 188 n = 1) ∧ xr = m 189 n) ∨ (m 188 n = 2 ∧ xr = arg) ∨ (m 188 n = 9 ∧ xr = -1)) → NG gB wf SA SB (nI n) (4 + l) A B h xr → (BE A B h A' B' h' ∧ s ≤ s' ∧ s' ≤ 600 ∧ h' + s ≤ h + s' ∧ l ≤ l') ∧ NG gB wf SA SB (nI n) (4 + l') A' B' h' x := fun xr hx hr => by
      rw [ev_v hs6 hx] at he
      cases he
      exact ⟨⟨BE_r, by omega, by omega, by omega, Nat.le_refl _⟩, hr⟩
    by_cases k0 : m 188 n = 0
    · refine leaf _ (.inl ⟨.inl k0, rfl⟩) ?_
      rw [ng_z (G := gB) (SA := SA) (SB := SB) hI hAC hib (.inl k0)]
      trivial
    by_cases k1 : m 188 n = 1
    · refine leaf _ (.inl ⟨.inr k1, rfl⟩) ?_
      rw [ng_o (G := gB) (SA := SA) (SB := SB) hI hAC hib (.inl k1)]
      trivial
    by_cases k2 : m 188 n = 2
    · refine leaf _ (.inr (.inl ⟨k2, rfl⟩)) ?_
      obtain ⟨y, y1, y2, y3⟩ := hARG
      obtain ⟨y', z1, z2, z3⟩ := ng_2 (G := gB) (SA := SA) (SB := SB) hI hAC hib k2
      have e : y = y' := nI_ij (by omega) (by omega) (y2.symm.trans z2)
      subst e
      rw [z3]
      exact y3
    by_cases k9 : m 188 n = 9
    · refine leaf _ (.inr (.inr ⟨k9, rfl⟩)) ?_
      obtain ⟨R, hR⟩ := ng_9 (G := gB) (SA := SA) (SB := SB) hI hAC hib k9
      rw [hR]
      exact ⟨0, Nat.zero_le _, rfl⟩
    have hp1 : 1 ≤ (f_parts (m 188 n)).toInt := by
      obtain ⟨q, eq, q2, -, -⟩ := mm_of (n := 15) hok.1.1 (by have := hok.1.2; omega)
      rw [eq] at k0 k1 k2 k9 ⊢
      rcases (show q = 0 ∨ q = 1 ∨ q = 2 ∨ q = 3 ∨ q = 4 ∨ q = 5 ∨ q = 6 ∨ q = 7 ∨ q = 8 ∨ q = 9 ∨ q = 10 ∨ q = 11 ∨ q = 12 ∨ q = 13 ∨ q = 14 by omega) with rfl | rfl | rfl | rfl | rfl | rfl | rfl | rfl | rfl | rfl | rfl | rfl | rfl | rfl | rfl
      all_goals first
        | exact absurd rfl k0
        | exact absurd rfl k1
        | exact absurd rfl k2
        | exact absurd rfl k9
        | decide
    -- parts
    have hpt : ∀ i : Int32, 0 ≤ i.toInt → i.toInt < (f_parts (m 188 n)).toInt → ∃ q, q < n ∧ f_part m n i = nI q ∧ IB ND m f q := fun i i0 i1 => by
      obtain ⟨q, y1, y2, y3⟩ := f_part_r hok i0 i1
      have h2 := IB_part hib n1 i0 i1
      rw [y2, nI_clamp (by omega)] at h2
      exact ⟨q, y1, y2, h2⟩
    obtain ⟨p, p1, p2, p3⟩ := hpt 0 (by decide) (by rw [mm_tt0]; omega)
    rcases hE : ev m j arg (f_part m n 0).toNatClampNeg A B h (s + 1) l o with ⟨e1, x1, A1, B1, h1, s1, l1, o1⟩
    rw [ev_n hs6 k0 k1 k2 k9 hE] at he
    have ez : e1 = 0 := by
      by_cases c : e1 = 0
      · exact c
      · rw [if_neg c] at he
        injection he
    subst ez
    rw [if_pos rfl] at he
    rw [p2, nI_clamp (by omega)] at hE
    obtain ⟨⟨g1, g2, g3, g4, g5⟩, ty1⟩ := ih hAC hA hB hARG (by omega) p3 (by omega) (by omega) hE
    have mN : ∀ (v : Int32), mBR (NG gB wf SA SB v) := fun v => NG_mb hA hB v
    have hARG1 : ∀ {A2 B2 : HF} {h2 l2 : Nat}, BE A B h A2 B2 h2 → l ≤ l2 → ∃ y, y < NB ∧ m 195 f = nI y ∧ GVt gB m SA SB y (4 + l2) A2 B2 h2 arg := fun {A2 B2 h2 l2} q1 q2 => by
      obtain ⟨y, y1, y2, y3⟩ := hARG
      exact ⟨y, y1, y2, GVt_mb hA hB y _ _ _ _ _ _ _ _ (by omega) q1 _ y3⟩
    by_cases k14 : m 188 n = 14
    · obtain ⟨g, x0, y0, ta, tb, w1, w2, u1, u2, u3, u4, s1', s2'⟩ := ng_14 (G := gB) (SA := SA) (SB := SB) hI hAC hib k14
      have e0 : f_part m n 0 = m 190 n := by
        unfold f_part
        rw [if_pos k14]
      have e190 : m 190 n = nI p := e0.symm.trans p2
      rw [e190] at s1'
      rw [s1'] at ty1
      have hug : used m g := hJ.2.2.2 f g hAC.1 hAC.2.2.1 (by omega) ⟨n, n1, hib, k14, w2⟩
      obtain ⟨wg, TG, hAG⟩ := AC_of hJ (by omega) hug
      obtain ⟨-, -, -, gp, gT, gt, b, b1, b2, b3⟩ := id hAG
      have hibb : IB ND m g b := fun P q1 _ => q1 b b1 b2
      have ebm : (m 197 (m 189 n).toNatClampNeg).toNatClampNeg = b := by rw [w2, nI_clamp (by omega), b2]; exact nI_clamp (by omega)
      have hm' : mBR (GVt gB wf SA SB ta) ∧ mBR (GVt gB wf SA SB tb) := ⟨GVt_mb hA hB _, GVt_mb hA hB _⟩
      have hnb : NG gB wg (GVt gB wf SA SB ta) (GVt gB wf SA SB tb) (nI b) = NG gB wf SA SB (nI n) := by
        rw [ngn (r := y0) (b3.trans u4) (by omega) (by omega), s2']
        exact GVt_c (TW_I hI) (fun t ht c a b => AC_t hI hAG ht a b) u2
      by_cases c30 : o1 = 30
      · rw [c30, ev2_30 k14] at he
        injection he with q
        exact absurd q (by decide)
      rcases hF : ev m j x1 b A1 B1 h1 s1 l1 (o1 + 1) with ⟨e2, x2, A2, B2, h2, s2, l2, o2⟩
      have hF' : ev m j x1 (m 197 (m 189 n).toNatClampNeg).toNatClampNeg A1 B1 h1 s1 l1 (o1 + 1) = (e2, x2, A2, B2, h2, s2, l2, o2) := by
        rw [ebm]
        exact hF
      rw [ev2_14 k14 c30 hF'] at he
      cases he
      obtain ⟨⟨f1, f2, f3, f4, f5⟩, ty2⟩ := ih hAG hm'.1 hm'.2 ⟨x0, u1, u3, ty1⟩ b1 hibb g3 (by omega) hF
      refine ⟨⟨BE_t g1 f1, by omega, f3, by omega, by omega⟩, ?_⟩
      rw [← hnb]
      exact ty2
    have e0 : f_part m n 0 = m 189 n := by
      unfold f_part
      rw [if_neg k14, if_pos rfl]
    have e189 : m 189 n = nI p := e0.symm.trans p2
    by_cases k5 : m 188 n = 5
    · obtain ⟨t1, t2⟩ := ng_5 (G := gB) (SA := SA) (SB := SB) hI hAC hib k5
      rw [ev2_5 k5] at he
      have hq : ∃ q, q < ND ∧ (if x1 = 1 then m 190 n else m 191 n).toNatClampNeg = q ∧ IB ND m f q ∧ NG gB wf SA SB (nI q) = NG gB wf SA SB (nI n) := by
        by_cases c : x1 = 1
        · obtain ⟨q, y1, y2, y3⟩ := hpt 1 (by decide) (by rw [k5]; decide)
          have e1 : f_part m n 1 = m 190 n := by
            unfold f_part
            rw [if_neg k14, if_neg (by decide), if_pos rfl]
          rw [e1] at y2
          rw [y2] at t1
          exact ⟨q, by omega, by rw [if_pos c, y2]; exact nI_clamp (by omega), y3, t1⟩
        · obtain ⟨q, y1, y2, y3⟩ := hpt 2 (by decide) (by rw [k5]; decide)
          have e1 : f_part m n 2 = m 191 n := by
            unfold f_part
            rw [if_neg k14, if_neg (by decide), if_neg (by decide)]
          rw [e1] at y2
          rw [y2] at t2
          exact ⟨q, by omega, by rw [if_neg c, y2]; exact nI_clamp (by omega), y3, t2⟩
      obtain ⟨q, y1, y2, y3, y4⟩ := hq
      rw [y2] at he
      obtain ⟨⟨f1, f2, f3, f4, f5⟩, ty2⟩ := ih hAC hA hB (hARG1 g1 g5) y1 y3 g3 (by omega) he
      refine ⟨⟨BE_t g1 f1, by omega, f3, by omega, by omega⟩, ?_⟩
      rw [← y4]
      exact ty2
    by_cases hp2 : f_parts (m 188 n) = 2
    · obtain ⟨kq, ek, hkq⟩ := kd_two hok.1 hp2
      obtain ⟨q, y1, y2, y3⟩ := hpt 1 (by decide) (by rw [hp2]; decide)
      have e1 : f_part m n 1 = m 190 n := by
        unfold f_part
        rw [if_neg k14, if_neg (by decide), if_pos rfl]
      have e190 : m 190 n = nI q := e1.symm.trans y2
      rcases hF : ev m j arg q A1 B1 h1 s1 l1 o1 with ⟨e2, x2, A2, B2, h2, s2, l2, o2⟩
      have hF' : ev m j arg (m 190 n).toNatClampNeg A1 B1 h1 s1 l1 o1 = (e2, x2, A2, B2, h2, s2, l2, o2) := by
        rw [e190, nI_clamp (by omega)]
        exact hF
      rw [ev2_2 hp2 hF'] at he
      have ez : e2 = 0 := by
        by_cases c : e2 = 0
        · exact c
        · rw [if_neg c] at he
          injection he
      subst ez
      rw [if_pos rfl] at he
      obtain ⟨⟨f1, f2, f3, f4, f5⟩, ty2⟩ := ih hAC hA hB (hARG1 g1 g5) (by omega) y3 g3 (by omega) hF
      have ty1' := mN (nI p) _ _ _ _ _ _ _ _ (show 4 + l1 ≤ 4 + l2 by omega) f1 _ ty1
      have base : BE A B h A2 B2 h2 := BE_t g1 f1
      rcases hkq with rfl | rfl | rfl | rfl
      · rw [ev3_3 ek] at he
        cases he
        rw [ng_z (G := gB) (SA := SA) (SB := SB) hI hAC hib (.inr ek)]
        exact ⟨⟨base, by omega, f3, by omega, by omega⟩, trivial⟩
      · rw [ev3_4 ek] at he
        cases he
        rw [ng_o (G := gB) (SA := SA) (SB := SB) hI hAC hib (.inr (.inl ek))]
        exact ⟨⟨base, by omega, f3, by omega, by omega⟩, trivial⟩
      · rw [ev3_6 ek] at he
        cases he
        refine ⟨⟨BE_t base BE_n, by omega, f3, by omega, by omega⟩, ?_⟩
        rw [ng_6 (G := gB) (SA := SA) (SB := SB) hI hAC hib ek, e189, e190]
        refine ⟨h2, Nat.lt_succ_self _, rfl, ?_, ?_⟩
        · rw [fu_s]
          exact mN _ _ _ _ _ _ _ _ _ (Nat.le_refl _) BE_n _ ty1'
        · rw [fu_s]
          exact mN _ _ _ _ _ _ _ _ _ (Nat.le_refl _) BE_n _ ty2
      · by_cases c100 : l2 = 100
        · rw [c100, ev3_100 (by rw [ek]; decide) (by rw [ek]; decide) (by rw [ek]; decide)] at he
          injection he with q
          exact absurd q (by decide)
        rw [ev3_n (by rw [ek]; decide) (by rw [ek]; decide) (by rw [ek]; decide) c100] at he
        cases he
        obtain ⟨i1, i2⟩ := ng_10 (G := gB) (SA := SA) (SB := SB) hI hAC hib ek
        rw [e190] at i2
        rw [e189] at i1
        rw [i2, i1] at ty2
        refine ⟨⟨BE_t base BE_n, by omega, f3, by omega, by omega⟩, ?_⟩
        rw [i1]
        have k1' := mN (nI p) _ _ _ _ _ _ _ _ (Nat.le_refl _) (BE_n (x := x1) (y := x2)) _ ty1'
        have k2' := mBR_L (mN (nI p)) _ _ _ _ _ _ _ _ (Nat.le_refl _) (BE_n (x := x1) (y := x2)) _ ty2
        have := bL_link (P := NG gB wf SA SB (nI p)) (a := h2) (A := fu A2 h2 x1) (B := fu B2 h2 x2) (Nat.lt_succ_self h2) (mN _) (by rw [fu_s]; exact k1') (by rw [fu_s]; exact k2')
        exact this
    have hp1' : f_parts (m 188 n) = 1 := by
      rcases f_parts_in (m 188 n) with q | q | q | q
      · rw [q] at hp1
        exact absurd hp1 (by decide)
      · exact q
      · exact absurd q hp2
      · exfalso
        refine k5 ?_
        by_cases c : m 188 n = 5
        · exact c
        · exfalso
          unfold f_parts at q
          rw [if_neg c] at q
          split at q
          · exact absurd q (by decide)
          · split at q
            · exact absurd q (by decide)
            · first
                | exact absurd q (by decide)
                | (split at q <;> exact absurd q (by decide))
    obtain ⟨kq, ek, hkq⟩ := kd_one hok.1 k14 hp1'
    have base : BE A B h A1 B1 h1 := g1
    rcases hkq with rfl | rfl | rfl | rfl | rfl
    · rw [ev2_7 ek] at he
      cases he
      obtain ⟨R, hR⟩ := ng_7 (G := gB) (SA := SA) (SB := SB) hI hAC hib ek
      rw [e189] at hR
      rw [hR] at ty1
      obtain ⟨a, a1, a2, a3, a4⟩ := ty1
      refine ⟨⟨base, by omega, g3, by omega, g5⟩, ?_⟩
      rw [a2, nI_clamp (by omega)]
      exact a3
    · rw [ev2_8 ek] at he
      cases he
      obtain ⟨R, hR⟩ := ng_8 (G := gB) (SA := SA) (SB := SB) hI hAC hib ek
      rw [e189] at hR
      rw [hR] at ty1
      obtain ⟨a, a1, a2, a3, a4⟩ := ty1
      refine ⟨⟨base, by omega, g3, by omega, g5⟩, ?_⟩
      rw [a2, nI_clamp (by omega)]
      exact a4
    · rw [ev2_11 ek] at he
      cases he
      rw [ng_o (G := gB) (SA := SA) (SB := SB) hI hAC hib (.inr (.inr ek))]
      exact ⟨⟨base, by omega, g3, by omega, g5⟩, trivial⟩
    · rw [ev2_12 ek] at he
      have hR := ng_12 (G := gB) (SA := SA) (SB := SB) hI hAC hib ek
      rw [e189] at hR
      rw [hR] at ty1
      rcases bL_get ty1 with q | ⟨a, a1, a2, a3, a4⟩
      · rw [if_pos q] at he
        injection he with q2
        exact absurd q2 (by decide)
      · have hx1 : ¬ x1 = -1 := fun q => by
          rw [a2] at q
          have := congrArg Int32.toInt q
          rw [mm_tI (by omega)] at this
          have : (-1 : Int32).toInt = -1 := rfl
          omega
        rw [if_neg hx1] at he
        cases he
        refine ⟨⟨base, by omega, g3, by omega, g5⟩, ?_⟩
        rw [a2, nI_clamp (by omega)]
        exact a3
    · rw [ev2_13 ek] at he
      obtain ⟨hR, R, hR2⟩ := ng_13 (G := gB) (SA := SA) (SB := SB) hI hAC hib ek
      rw [e189] at hR
      rw [hR, hR2] at ty1
      rcases bL_get ty1 with q | ⟨a, a1, a2, a3, a4⟩
      · rw [if_pos q] at he
        injection he with q2
        exact absurd q2 (by decide)
      · have hx1 : ¬ x1 = -1 := fun q => by
          rw [a2] at q
          have := congrArg Int32.toInt q
          rw [mm_tI (by omega)] at this
          have : (-1 : Int32).toInt = -1 := rfl
          omega
        rw [if_neg hx1] at he
        cases he
        refine ⟨⟨base, by omega, g3, by omega, g5⟩, ?_⟩
        rw [hR2, a2, nI_clamp (by omega)]
        exact a4
end MBT
