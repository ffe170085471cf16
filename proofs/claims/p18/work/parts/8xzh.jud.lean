/-! ===== the shapes of nodes in a copy ===== -/
def PGC (NB ND NF : Nat) (m : mm_P) (ml : mm_G) : Prop := WJ NB ND NF m ∧ JT ND NF m ml ∧ (∀ t, t < NB → CNS (ml 2 t)) ∧ ∀ f, f < NF → CNS (ml 13 f) ∧ CNS (ml 14 f)
/-- part i of node n -/
def kpt (m : mm_P) (n i : Nat) : Nat := (k_part m n i).toNatClampNeg
section MPG
variable {NB ND NF f n : Nat} {m : mm_P} {ml : mm_G}
theorem SHO_cn (h : PGC NB ND NF m ml) {v : Int32} (hv : v = -1 ∨ tyN NB v) : SHO ml v = -1 ∨ CNS (SHO ml v) := by
  rcases hv with q | ⟨t, t1, t2⟩
  · refine .inl ?_
    unfold SHO
    rw [if_pos q]
  · have := h.1.1.2.1
    rw [SHO_t (by omega) t2]
    exact .inr (h.2.2.1 t t1)
theorem kpt_r (h : PGC NB ND NF m ml) (hn : n < ND) {i : Nat} (hi : (i : Int) < (f_parts (m 4 n)).toInt) : kpt m n i < n ∧ k_part m n i = nI (kpt m n i) := by
  obtain ⟨p, p1, p2⟩ := k_part_r (h.1.2.1 n hn) hi
  have := h.1.1.2.2.1
  unfold kpt
  rw [p2, nI_clamp (by omega)]
  exact ⟨p1, rfl⟩
theorem ksh_p {S : Nat → Int64} {i : Nat} (hi : (i : Int) < (f_parts (m 4 n)).toInt) : ksh S m n i = S (kpt m n i) := if_pos hi
theorem ts_e (h : PGC NB ND NF m ml) (hf : f < NF) (hn : n < ND) : ml (19 + f) n = FSK NF m ml f n (ksh (ml (19 + f)) m n 0) (ksh (ml (19 + f)) m n 1) (ksh (ml (19 + f)) m n 2) := h.2.1 f hf n hn
theorem ns_cn (h : PGC NB ND NF m ml) (hf : f < NF) : ∀ k n, n < k → n < ND → ml (19 + f) n = -1 ∨ CNS (ml (19 + f) n) := by
  intro k
  induction k with
  | zero => exact fun n hk => absurd hk (Nat.not_lt_zero _)
  | succ k ih =>
    intro n hk hn
    have hs : ∀ i, ksh (ml (19 + f)) m n i = -1 ∨ CNS (ksh (ml (19 + f)) m n i) := fun i => by
      by_cases hi : (i : Int) < (f_parts (m 4 n)).toInt
      · rw [ksh_p hi]
        have := (kpt_r h hn hi).1
        exact ih _ (by omega) (by omega)
      · refine .inl ?_
        unfold ksh
        rw [if_neg hi]
    rw [ts_e h hf hn]
    generalize ha : ksh (ml (19 + f)) m n 0 = a
    generalize hb : ksh (ml (19 + f)) m n 1 = b
    generalize hc : ksh (ml (19 + f)) m n 2 = c
    have ca := hs 0
    have cb := hs 1
    have cc := hs 2
    rw [ha] at ca
    rw [hb] at cb
    rw [hc] at cc
    have hk4 : f_kd a = 4 → CNS a := fun z => ca.resolve_left (fun e => by rw [e, kd_n1] at z; exact absurd z (by decide))
    have hk5 : f_kd a = 5 → CNS a := fun z => ca.resolve_left (fun e => by rw [e, kd_n1] at z; exact absurd z (by decide))
    have hok := h.1.2.1 n hn
    have hpr : ∀ x y : Int64, (x = -1 ∨ CNS x) → (y = -1 ∨ CNS y) → f_pr x y = -1 ∨ CNS (f_pr x y) := fun x y hx hy => by
      by_cases q : f_pr x y = -1
      · exact .inl q
      · obtain ⟨u1, u2, u3, u4⟩ := pr_get (hx.imp_right CNS_V) (hy.imp_right CNS_V) q
        exact .inr (CNS_pr (hx.resolve_left (fun e => by rw [e] at u1; exact absurd u1.1 (by decide))) (hy.resolve_left (fun e => by rw [e] at u2; exact absurd u2.1 (by decide))) u3 u4)
    have hls : ∀ x : Int64, (x = -1 ∨ CNS x) → f_ls x = -1 ∨ CNS (f_ls x) := fun x hx => by
      by_cases q : f_ls x = -1
      · exact .inl q
      · obtain ⟨u1, u3⟩ := ls_get (hx.imp_right CNS_V) q
        exact .inr (CNS_ls (hx.resolve_left (fun e => by rw [e] at u1; exact absurd u1.1 (by decide))) u3)
    unfold FSK
    by_cases k0 : m 4 n = 0
    · rw [if_pos k0]
      exact .inr CNS_01.1
    rw [if_neg k0]
    by_cases k1 : m 4 n = 1
    · rw [if_pos k1]
      exact .inr CNS_01.2
    rw [if_neg k1]
    by_cases k2 : m 4 n = 2
    · rw [if_pos k2]
      exact .inr (h.2.2.2 f hf).1
    rw [if_neg k2]
    by_cases k3 : m 4 n = 3
    · rw [if_pos k3]
      by_cases q : a = 0 ∧ b = 0
      · rw [if_pos q]
        exact .inr CNS_01.1
      · rw [if_neg q]
        exact .inl rfl
    rw [if_neg k3]
    by_cases k4 : m 4 n = 4
    · rw [if_pos k4]
      by_cases q : a = 0 ∧ b = 0
      · rw [if_pos q]
        exact .inr CNS_01.2
      · rw [if_neg q]
        exact .inl rfl
    rw [if_neg k4]
    by_cases k5 : m 4 n = 5
    · rw [if_pos k5]
      by_cases q : a = 1 ∧ b = c
      · rw [if_pos q]
        exact cb
      · rw [if_neg q]
        exact .inl rfl
    rw [if_neg k5]
    by_cases k6 : m 4 n = 6
    · rw [if_pos k6]
      exact hpr a b ca cb
    rw [if_neg k6]
    by_cases k7 : m 4 n = 7
    · rw [if_pos k7]
      by_cases q : f_kd a = 4
      · rw [if_pos q]
        obtain ⟨x, y, hx, hy, d1, d2, e⟩ := CNS_4 (hk4 q) q
        rw [e, (pr_V (CNS_V hx) (CNS_V hy) d1 d2).2.2.1]
        exact .inr hx
      · rw [if_neg q]
        exact .inl rfl
    rw [if_neg k7]
    by_cases k8 : m 4 n = 8
    · rw [if_pos k8]
      by_cases q : f_kd a = 4
      · rw [if_pos q]
        obtain ⟨x, y, hx, hy, d1, d2, e⟩ := CNS_4 (hk4 q) q
        rw [e, (pr_V (CNS_V hx) (CNS_V hy) d1 d2).2.2.2.1]
        exact .inr hy
      · rw [if_neg q]
        exact .inl rfl
    rw [if_neg k8]
    by_cases k9 : m 4 n = 9
    · rw [if_pos k9]
      by_cases q : f_alw (m 10 f) (SHO ml (m 6 (4 * n)))
      · rw [pik_t q]
        exact hls _ (SHO_cn h (.inr (hok.2.2.1 k9)))
      · rw [pik_f q]
        exact .inl rfl
    rw [if_neg k9]
    by_cases k10 : m 4 n = 10
    · rw [if_pos k10]
      by_cases q : b = f_ls a
      · rw [if_pos q]
        exact cb
      · rw [if_neg q]
        exact .inl rfl
    rw [if_neg k10]
    by_cases k11 : m 4 n = 11
    · rw [if_pos k11]
      by_cases q : f_kd a = 5
      · rw [if_pos q]
        exact .inr CNS_01.2
      · rw [if_neg q]
        exact .inl rfl
    rw [if_neg k11]
    by_cases k12 : m 4 n = 12
    · rw [if_pos k12]
      by_cases q : f_kd a = 5
      · rw [if_pos q]
        obtain ⟨x, hx, d1, e⟩ := CNS_5 (hk5 q) q
        rw [e, (ls_V (CNS_V hx) d1).2.2.1]
        exact .inr hx
      · rw [if_neg q]
        exact .inl rfl
    rw [if_neg k12]
    by_cases k13 : m 4 n = 13
    · rw [if_pos k13]
      by_cases q : f_kd a = 5
      · rw [if_pos q]
        exact .inr (hk5 q)
      · rw [if_neg q]
        exact .inl rfl
    rw [if_neg k13]
    have k14 : m 4 n = 14 := by
      obtain ⟨q, eq, q2, -, -⟩ := mm_of (n := 15) hok.1.1 (by have := hok.1.2; omega)
      rw [eq] at k0 k1 k2 k3 k4 k5 k6 k7 k8 k9 k10 k11 k12 k13 ⊢
      rcases (show q = 0 ∨ q = 1 ∨ q = 2 ∨ q = 3 ∨ q = 4 ∨ q = 5 ∨ q = 6 ∨ q = 7 ∨ q = 8 ∨ q = 9 ∨ q = 10 ∨ q = 11 ∨ q = 12 ∨ q = 13 ∨ q = 14 by omega) with rfl | rfl | rfl | rfl | rfl | rfl | rfl | rfl | rfl | rfl | rfl | rfl | rfl | rfl | rfl
      all_goals first
        | rfl
        | exact absurd rfl k0
        | exact absurd rfl k1
        | exact absurd rfl k2
        | exact absurd rfl k3
        | exact absurd rfl k4
        | exact absurd rfl k5
        | exact absurd rfl k6
        | exact absurd rfl k7
        | exact absurd rfl k8
        | exact absurd rfl k9
        | exact absurd rfl k10
        | exact absurd rfl k11
        | exact absurd rfl k12
        | exact absurd rfl k13
    unfold KCH
    by_cases q : KCK NF m ml f n a
    · rw [pik_t q]
      obtain ⟨c1, c2, c3, c4⟩ := (hok.2.2.2 k14)
      obtain ⟨g, eg, g1, -, -⟩ := mm_of c2.1 c2.2
      have g2 : g < NF := by
        have := q.1.1
        rw [eg, mm_tI (by omega)] at this
        omega
      have cx := (h.2.2.2 g g2).2
      rw [eg, nI_clamp (by omega)]
      have := dpn_r (CNS_V cx)
      exact wl_CN (SHO_cn h c3) (SHO_cn h c4) cx (by omega)
    · rw [pik_f q]
      exact .inl rfl
theorem fsk_0 {a b c : Int64} (k : m 4 n = 0) : FSK NF m ml f n a b c = 0 := by
  unfold FSK
  rw [if_pos k]
theorem fsk_1 {a b c : Int64} (k : m 4 n = 1) : FSK NF m ml f n a b c = 1 := by
  unfold FSK
  rw [if_neg (by rw [k]; decide), if_pos k]
theorem fsk_2 {a b c : Int64} (k : m 4 n = 2) : FSK NF m ml f n a b c = ml 13 f := by
  unfold FSK
  rw [if_neg (by rw [k]; decide), if_neg (by rw [k]; decide), if_pos k]
theorem fsk_3 {a b c : Int64} (k : m 4 n = 3) : FSK NF m ml f n a b c = (if a = 0 ∧ b = 0 then 0 else -1) := by
  unfold FSK
  rw [if_neg (by rw [k]; decide), if_neg (by rw [k]; decide), if_neg (by rw [k]; decide), if_pos k]
theorem fsk_4 {a b c : Int64} (k : m 4 n = 4) : FSK NF m ml f n a b c = (if a = 0 ∧ b = 0 then 1 else -1) := by
  unfold FSK
  rw [if_neg (by rw [k]; decide), if_neg (by rw [k]; decide), if_neg (by rw [k]; decide), if_neg (by rw [k]; decide), if_pos k]
theorem fsk_5 {a b c : Int64} (k : m 4 n = 5) : FSK NF m ml f n a b c = (if a = 1 ∧ b = c then b else -1) := by
  unfold FSK
  rw [if_neg (by rw [k]; decide), if_neg (by rw [k]; decide), if_neg (by rw [k]; decide), if_neg (by rw [k]; decide), if_neg (by rw [k]; decide), if_pos k]
theorem fsk_6 {a b c : Int64} (k : m 4 n = 6) : FSK NF m ml f n a b c = f_pr a b := by
  unfold FSK
  rw [if_neg (by rw [k]; decide), if_neg (by rw [k]; decide), if_neg (by rw [k]; decide), if_neg (by rw [k]; decide), if_neg (by rw [k]; decide), if_neg (by rw [k]; decide), if_pos k]
theorem fsk_7 {a b c : Int64} (k : m 4 n = 7) : FSK NF m ml f n a b c = (if f_kd a = 4 then f_fs a else -1) := by
  unfold FSK
  rw [if_neg (by rw [k]; decide), if_neg (by rw [k]; decide), if_neg (by rw [k]; decide), if_neg (by rw [k]; decide), if_neg (by rw [k]; decide), if_neg (by rw [k]; decide), if_neg (by rw [k]; decide), if_pos k]
theorem fsk_8 {a b c : Int64} (k : m 4 n = 8) : FSK NF m ml f n a b c = (if f_kd a = 4 then f_sc a else -1) := by
  unfold FSK
  rw [if_neg (by rw [k]; decide), if_neg (by rw [k]; decide), if_neg (by rw [k]; decide), if_neg (by rw [k]; decide), if_neg (by rw [k]; decide), if_neg (by rw [k]; decide), if_neg (by rw [k]; decide), if_neg (by rw [k]; decide), if_pos k]
theorem fsk_9 {a b c : Int64} (k : m 4 n = 9) : FSK NF m ml f n a b c = pik (f_alw (m 10 f) (SHO ml (m 6 (4 * n)))) (f_ls (SHO ml (m 6 (4 * n)))) (-1) := by
  unfold FSK
  rw [if_neg (by rw [k]; decide), if_neg (by rw [k]; decide), if_neg (by rw [k]; decide), if_neg (by rw [k]; decide), if_neg (by rw [k]; decide), if_neg (by rw [k]; decide), if_neg (by rw [k]; decide), if_neg (by rw [k]; decide), if_neg (by rw [k]; decide), if_pos k]
theorem fsk_10 {a b c : Int64} (k : m 4 n = 10) : FSK NF m ml f n a b c = (if b = f_ls a then b else -1) := by
  unfold FSK
  rw [if_neg (by rw [k]; decide), if_neg (by rw [k]; decide), if_neg (by rw [k]; decide), if_neg (by rw [k]; decide), if_neg (by rw [k]; decide), if_neg (by rw [k]; decide), if_neg (by rw [k]; decide), if_neg (by rw [k]; decide), if_neg (by rw [k]; decide), if_neg (by rw [k]; decide), if_pos k]
theorem fsk_11 {a b c : Int64} (k : m 4 n = 11) : FSK NF m ml f n a b c = (if f_kd a = 5 then 1 else -1) := by
  unfold FSK
  rw [if_neg (by rw [k]; decide), if_neg (by rw [k]; decide), if_neg (by rw [k]; decide), if_neg (by rw [k]; decide), if_neg (by rw [k]; decide), if_neg (by rw [k]; decide), if_neg (by rw [k]; decide), if_neg (by rw [k]; decide), if_neg (by rw [k]; decide), if_neg (by rw [k]; decide), if_neg (by rw [k]; decide), if_pos k]
theorem fsk_12 {a b c : Int64} (k : m 4 n = 12) : FSK NF m ml f n a b c = (if f_kd a = 5 then f_fs a else -1) := by
  unfold FSK
  rw [if_neg (by rw [k]; decide), if_neg (by rw [k]; decide), if_neg (by rw [k]; decide), if_neg (by rw [k]; decide), if_neg (by rw [k]; decide), if_neg (by rw [k]; decide), if_neg (by rw [k]; decide), if_neg (by rw [k]; decide), if_neg (by rw [k]; decide), if_neg (by rw [k]; decide), if_neg (by rw [k]; decide), if_neg (by rw [k]; decide), if_pos k]
theorem fsk_13 {a b c : Int64} (k : m 4 n = 13) : FSK NF m ml f n a b c = (if f_kd a = 5 then a else -1) := by
  unfold FSK
  rw [if_neg (by rw [k]; decide), if_neg (by rw [k]; decide), if_neg (by rw [k]; decide), if_neg (by rw [k]; decide), if_neg (by rw [k]; decide), if_neg (by rw [k]; decide), if_neg (by rw [k]; decide), if_neg (by rw [k]; decide), if_neg (by rw [k]; decide), if_neg (by rw [k]; decide), if_neg (by rw [k]; decide), if_neg (by rw [k]; decide), if_neg (by rw [k]; decide), if_pos k]
theorem fsk_14 {a b c : Int64} (k : m 4 n = 14) : FSK NF m ml f n a b c = KCH NF m ml f n a := by
  unfold FSK
  rw [if_neg (by rw [k]; decide), if_neg (by rw [k]; decide), if_neg (by rw [k]; decide), if_neg (by rw [k]; decide), if_neg (by rw [k]; decide), if_neg (by rw [k]; decide), if_neg (by rw [k]; decide), if_neg (by rw [k]; decide), if_neg (by rw [k]; decide), if_neg (by rw [k]; decide), if_neg (by rw [k]; decide), if_neg (by rw [k]; decide), if_neg (by rw [k]; decide), if_neg (by rw [k]; decide)]
/-- node n's shape in a copy -/
def sgm (ml : mm_G) (t : CTy) (n : Nat) : Int64 := f_with (ml (19 + t.1) n) t.2.1 t.2.2
def OKT (NF : Nat) (t : CTy) : Prop := t.1 < NF ∧ (t.2.1 = -1 ∨ CLs t.2.1) ∧ (t.2.2 = -1 ∨ CLs t.2.2)
theorem sg_n {t : CTy} (h : PGC NB ND NF m ml) (ht : OKT NF t) (hn : n < ND) (hs : ¬ sgm ml t n = -1) : CNS (ml (19 + t.1) n) ∧ CLs (sgm ml t n) := by
  have c : CNS (ml (19 + t.1) n) := (ns_cn h ht.1 (n + 1) n (Nat.lt_succ_self n) hn).resolve_left (fun e => hs (by
    unfold sgm
    rw [e]
    exact with_m1))
  exact ⟨c, (wl_CL ht.2.1 ht.2.2 c).resolve_left hs⟩
theorem cl_pr {x y : Int64} (hx : CLs x) (hy : CLs y) (h : ¬ f_pr x y = -1) : dpn x ≤ 4 ∧ dpn y ≤ 4 := (pr_get (.inr (CLs_V hx)) (.inr (CLs_V hy)) h).2.2
/-- a shape of kind 4 in a copy -/
theorem sg_4 {S : Int64} {t : CTy} (ht : OKT NF t) (hc : CNS S) (k : f_kd S = 4) (hs : ¬ f_with S t.2.1 t.2.2 = -1) : ∃ x y, CLs x ∧ CLs y ∧ dpn x ≤ 4 ∧ dpn y ≤ 4 ∧ f_with S t.2.1 t.2.2 = f_pr x y ∧ x = f_with (f_fs S) t.2.1 t.2.2 ∧ y = f_with (f_sc S) t.2.1 t.2.2 := by
  obtain ⟨x, y, hx, hy, d1, d2, rfl⟩ := CNS_4 hc k
  obtain ⟨v1, v2, v3, v4, v5⟩ := pr_V (CNS_V hx) (CNS_V hy) d1 d2
  rw [v3, v4]
  have e := with_pr (A := t.2.1) (B := t.2.2) hx hy d1 d2
  rw [e] at hs ⊢
  have cx := wl_CL ht.2.1 ht.2.2 hx
  have cy := wl_CL ht.2.1 ht.2.2 hy
  obtain ⟨u1, u2, u3, u4⟩ := pr_get (cx.imp_right CLs_V) (cy.imp_right CLs_V) hs
  exact ⟨_, _, cx.resolve_left (fun e => by rw [e] at u1; exact absurd u1.1 (by decide)), cy.resolve_left (fun e => by rw [e] at u2; exact absurd u2.1 (by decide)), u3, u4, rfl, rfl, rfl⟩
theorem sg_5 {S : Int64} {t : CTy} (ht : OKT NF t) (hc : CNS S) (k : f_kd S = 5) (hs : ¬ f_with S t.2.1 t.2.2 = -1) : ∃ x, CLs x ∧ dpn x ≤ 4 ∧ f_with S t.2.1 t.2.2 = f_ls x ∧ x = f_with (f_fs S) t.2.1 t.2.2 := by
  obtain ⟨x, hx, d1, rfl⟩ := CNS_5 hc k
  obtain ⟨v1, v2, v3, v5⟩ := ls_V (CNS_V hx) d1
  rw [v3]
  have e := with_ls (A := t.2.1) (B := t.2.2) hx d1
  rw [e] at hs ⊢
  have cx := wl_CL ht.2.1 ht.2.2 hx
  obtain ⟨u1, u3⟩ := ls_get (cx.imp_right CLs_V) hs
  exact ⟨_, cx.resolve_left (fun e => by rw [e] at u1; exact absurd u1.1 (by decide)), u3, rfl, rfl⟩
theorem sg_e {t : CTy} (h : PGC NB ND NF m ml) (ht : OKT NF t) (hn : n < ND) : sgm ml t n = f_with (FSK NF m ml t.1 n (ksh (ml (19 + t.1)) m n 0) (ksh (ml (19 + t.1)) m n 1) (ksh (ml (19 + t.1)) m n 2)) t.2.1 t.2.2 := by
  unfold sgm
  rw [ts_e h ht.1 hn]
section MSG
variable {t : CTy}
theorem sg_k0 (h : PGC NB ND NF m ml) (ht : OKT NF t) (hn : n < ND) (k : m 4 n = 0) : sgm ml t n = 0 := by
  rw [sg_e h ht hn, fsk_0 k, with_0.1]
theorem sg_k1 (h : PGC NB ND NF m ml) (ht : OKT NF t) (hn : n < ND) (k : m 4 n = 1) : sgm ml t n = 1 := by
  rw [sg_e h ht hn, fsk_1 k, with_0.2.1]
theorem sg_k2 (h : PGC NB ND NF m ml) (ht : OKT NF t) (hn : n < ND) (k : m 4 n = 2) : sgm ml t n = f_with (ml 13 t.1) t.2.1 t.2.2 := by
  rw [sg_e h ht hn, fsk_2 k]
theorem sg_k3 (h : PGC NB ND NF m ml) (ht : OKT NF t) (hn : n < ND) (hs : ¬ sgm ml t n = -1) (k : m 4 n = 3) : sgm ml t (kpt m n 0) = 0 ∧ sgm ml t (kpt m n 1) = 0 ∧ sgm ml t n = 0 := by
  have e := sg_e h ht hn
  rw [fsk_3 k, ksh_p (by rw [k]; decide), ksh_p (by rw [k]; decide)] at e
  by_cases q : ml (19 + t.1) (kpt m n 0) = 0 ∧ ml (19 + t.1) (kpt m n 1) = 0
  · rw [if_pos q, with_0.1] at e
    refine ⟨?_, ?_, e⟩
    · unfold sgm
      rw [q.1, with_0.1]
    · unfold sgm
      rw [q.2, with_0.1]
  · rw [if_neg q, with_m1] at e
    exact absurd e hs
theorem sg_k4 (h : PGC NB ND NF m ml) (ht : OKT NF t) (hn : n < ND) (hs : ¬ sgm ml t n = -1) (k : m 4 n = 4) : sgm ml t (kpt m n 0) = 0 ∧ sgm ml t (kpt m n 1) = 0 ∧ sgm ml t n = 1 := by
  have e := sg_e h ht hn
  rw [fsk_4 k, ksh_p (by rw [k]; decide), ksh_p (by rw [k]; decide)] at e
  by_cases q : ml (19 + t.1) (kpt m n 0) = 0 ∧ ml (19 + t.1) (kpt m n 1) = 0
  · rw [if_pos q, with_0.2.1] at e
    refine ⟨?_, ?_, e⟩
    · unfold sgm
      rw [q.1, with_0.1]
    · unfold sgm
      rw [q.2, with_0.1]
  · rw [if_neg q, with_m1] at e
    exact absurd e hs
theorem sg_k5 (h : PGC NB ND NF m ml) (ht : OKT NF t) (hn : n < ND) (hs : ¬ sgm ml t n = -1) (k : m 4 n = 5) : sgm ml t (kpt m n 0) = 1 ∧ sgm ml t (kpt m n 1) = sgm ml t n ∧ sgm ml t (kpt m n 2) = sgm ml t n := by
  have e := sg_e h ht hn
  rw [fsk_5 k, ksh_p (by rw [k]; decide), ksh_p (by rw [k]; decide), ksh_p (by rw [k]; decide)] at e
  by_cases q : ml (19 + t.1) (kpt m n 0) = 1 ∧ ml (19 + t.1) (kpt m n 1) = ml (19 + t.1) (kpt m n 2)
  · rw [if_pos q] at e
    refine ⟨?_, e.symm, ?_⟩
    · unfold sgm
      rw [q.1, with_0.2.1]
    · rw [e, q.2]
      rfl
  · rw [if_neg q, with_m1] at e
    exact absurd e hs
theorem sg_k6 (h : PGC NB ND NF m ml) (ht : OKT NF t) (hn : n < ND) (hs : ¬ sgm ml t n = -1) (k : m 4 n = 6) : CLs (sgm ml t (kpt m n 0)) ∧ CLs (sgm ml t (kpt m n 1)) ∧ dpn (sgm ml t (kpt m n 0)) ≤ 4 ∧ dpn (sgm ml t (kpt m n 1)) ≤ 4 ∧ sgm ml t n = f_pr (sgm ml t (kpt m n 0)) (sgm ml t (kpt m n 1)) := by
  have e := sg_e h ht hn
  rw [fsk_6 k, ksh_p (by rw [k]; decide), ksh_p (by rw [k]; decide)] at e
  have r0 := (kpt_r h hn (i := 0) (by rw [k]; decide)).1
  have r1 := (kpt_r h hn (i := 1) (by rw [k]; decide)).1
  have c0 := ns_cn h ht.1 _ _ (Nat.lt_succ_self _) (show kpt m n 0 < ND by omega)
  have c1 := ns_cn h ht.1 _ _ (Nat.lt_succ_self _) (show kpt m n 1 < ND by omega)
  have hp : ¬ f_pr (ml (19 + t.1) (kpt m n 0)) (ml (19 + t.1) (kpt m n 1)) = -1 := fun z => hs (by rw [e, z, with_m1])
  obtain ⟨u1, u2, u3, u4⟩ := pr_get (c0.imp_right CNS_V) (c1.imp_right CNS_V) hp
  have d0 := c0.resolve_left (fun z => by rw [z] at u1; exact absurd u1.1 (by decide))
  have d1 := c1.resolve_left (fun z => by rw [z] at u2; exact absurd u2.1 (by decide))
  obtain ⟨v1, v2, v3, v4, v5⟩ := pr_V (CNS_V d0) (CNS_V d1) u3 u4
  rw [e] at hs ⊢
  obtain ⟨x, y, hx, hy, dx, dy, e1, e2, e3⟩ := sg_4 ht (CNS_pr d0 d1 u3 u4) v2 hs
  rw [v3] at e2
  rw [v4] at e3
  subst e2 e3
  exact ⟨hx, hy, dx, dy, e1⟩
theorem sg_k78 (h : PGC NB ND NF m ml) (ht : OKT NF t) (hn : n < ND) (hs : ¬ sgm ml t n = -1) (hs0 : ¬ sgm ml t (kpt m n 0) = -1) (k : m 4 n = 7 ∨ m 4 n = 8) : ∃ x y, CLs x ∧ CLs y ∧ dpn x ≤ 4 ∧ dpn y ≤ 4 ∧ sgm ml t (kpt m n 0) = f_pr x y ∧ (m 4 n = 7 → sgm ml t n = x) ∧ (m 4 n = 8 → sgm ml t n = y) := by
  have hp : (0 : Int) < (f_parts (m 4 n)).toInt := by rcases k with k | k <;> (rw [k]; decide)
  have r0 := (kpt_r h hn (i := 0) hp).1
  have e := sg_e h ht hn
  have k4 : f_kd (ml (19 + t.1) (kpt m n 0)) = 4 := by
    by_cases q : f_kd (ml (19 + t.1) (kpt m n 0)) = 4
    · exact q
    · exfalso
      rcases k with k | k
      · rw [fsk_7 k, ksh_p hp, if_neg q, with_m1] at e
        exact hs e
      · rw [fsk_8 k, ksh_p hp, if_neg q, with_m1] at e
        exact hs e
  obtain ⟨x, y, hx, hy, dx, dy, e1, e2, e3⟩ := sg_4 ht (sg_n h ht (show kpt m n 0 < ND by omega) hs0).1 k4 hs0
  refine ⟨x, y, hx, hy, dx, dy, e1, fun q => ?_, fun q => ?_⟩
  · rw [fsk_7 q, ksh_p hp, if_pos k4] at e
    rw [e, e2]
  · rw [fsk_8 q, ksh_p hp, if_pos k4] at e
    rw [e, e3]
theorem sg_k9 (h : PGC NB ND NF m ml) (ht : OKT NF t) (hn : n < ND) (hs : ¬ sgm ml t n = -1) (k : m 4 n = 9) : ∃ x, CLs x ∧ dpn x ≤ 4 ∧ sgm ml t n = f_ls x := by
  have hok := h.1.2.1 n hn
  have e := sg_e h ht hn
  rw [fsk_9 k] at e
  by_cases q : f_alw (m 10 t.1) (SHO ml (m 6 (4 * n)))
  · rw [pik_t q] at e
    rw [e] at hs ⊢
    have c0 := SHO_cn h (.inr (hok.2.2.1 k))
    have hl : ¬ f_ls (SHO ml (m 6 (4 * n))) = -1 := fun z => hs (by rw [z, with_m1])
    obtain ⟨u1, u3⟩ := ls_get (c0.imp_right CNS_V) hl
    have d0 := c0.resolve_left (fun z => by rw [z] at u1; exact absurd u1.1 (by decide))
    obtain ⟨x, hx, dx, e1, -⟩ := sg_5 ht (CNS_ls d0 u3) (ls_V (CNS_V d0) u3).2.1 hs
    exact ⟨x, hx, dx, e1⟩
  · rw [pik_f q, with_m1] at e
    exact absurd e hs
theorem sg_k10 (h : PGC NB ND NF m ml) (ht : OKT NF t) (hn : n < ND) (hs : ¬ sgm ml t n = -1) (k : m 4 n = 10) : CLs (sgm ml t (kpt m n 0)) ∧ dpn (sgm ml t (kpt m n 0)) ≤ 4 ∧ sgm ml t n = f_ls (sgm ml t (kpt m n 0)) ∧ sgm ml t (kpt m n 1) = sgm ml t n := by
  have e := sg_e h ht hn
  rw [fsk_10 k, ksh_p (by rw [k]; decide), ksh_p (by rw [k]; decide)] at e
  have r0 := (kpt_r h hn (i := 0) (by rw [k]; decide)).1
  have c0 := ns_cn h ht.1 _ _ (Nat.lt_succ_self _) (show kpt m n 0 < ND by omega)
  by_cases q : ml (19 + t.1) (kpt m n 1) = f_ls (ml (19 + t.1) (kpt m n 0))
  · rw [if_pos q] at e
    have e1 : sgm ml t (kpt m n 1) = sgm ml t n := e.symm
    have hl : ¬ f_ls (ml (19 + t.1) (kpt m n 0)) = -1 := fun z => hs (by rw [e, q, z, with_m1])
    obtain ⟨u1, u3⟩ := ls_get (c0.imp_right CNS_V) hl
    have d0 := c0.resolve_left (fun z => by rw [z] at u1; exact absurd u1.1 (by decide))
    obtain ⟨v1, v2, v3, v5⟩ := ls_V (CNS_V d0) u3
    refine ⟨?_, ?_, ?_, e1⟩
    all_goals
      rw [e, q] at hs
      obtain ⟨x, hx, dx, e2, e3⟩ := sg_5 ht (CNS_ls d0 u3) v2 hs
      rw [v3] at e3
      have e4 : sgm ml t (kpt m n 0) = x := e3.symm
    · rw [e4]
      exact hx
    · rw [e4]
      exact dx
    · rw [e4, e, q, e2]
  · rw [if_neg q, with_m1] at e
    exact absurd e hs
theorem sg_kl (h : PGC NB ND NF m ml) (ht : OKT NF t) (hn : n < ND) (hs : ¬ sgm ml t n = -1) (hs0 : ¬ sgm ml t (kpt m n 0) = -1) (k : m 4 n = 11 ∨ m 4 n = 12 ∨ m 4 n = 13) : ∃ x, CLs x ∧ dpn x ≤ 4 ∧ sgm ml t (kpt m n 0) = f_ls x ∧ (m 4 n = 11 → sgm ml t n = 1) ∧ (m 4 n = 12 → sgm ml t n = x) ∧ (m 4 n = 13 → sgm ml t n = f_ls x) := by
  have hp : (0 : Int) < (f_parts (m 4 n)).toInt := by rcases k with k | k | k <;> (rw [k]; decide)
  have r0 := (kpt_r h hn (i := 0) hp).1
  have e := sg_e h ht hn
  have k5 : f_kd (ml (19 + t.1) (kpt m n 0)) = 5 := by
    by_cases q : f_kd (ml (19 + t.1) (kpt m n 0)) = 5
    · exact q
    · exfalso
      rcases k with k | k | k
      · rw [fsk_11 k, ksh_p hp, if_neg q, with_m1] at e
        exact hs e
      · rw [fsk_12 k, ksh_p hp, if_neg q, with_m1] at e
        exact hs e
      · rw [fsk_13 k, ksh_p hp, if_neg q, with_m1] at e
        exact hs e
  obtain ⟨x, hx, dx, e1, e2⟩ := sg_5 ht (sg_n h ht (show kpt m n 0 < ND by omega) hs0).1 k5 hs0
  refine ⟨x, hx, dx, e1, fun q => ?_, fun q => ?_, fun q => ?_⟩
  · rw [fsk_11 q, ksh_p hp, if_pos k5, with_0.2.1] at e
    exact e
  · rw [fsk_12 q, ksh_p hp, if_pos k5] at e
    rw [e, e2]
  · rw [fsk_13 q, ksh_p hp, if_pos k5] at e
    rw [e]
    exact e1
/-- a CALL -/
theorem sg_k14 (h : PGC NB ND NF m ml) (ht : OKT NF t) (hn : n < ND) (hs : ¬ sgm ml t n = -1) (k : m 4 n = 14) : k_cg m n < NF ∧ m 6 (4 * n) = nI (k_cg m n) ∧ OKT NF (k_ct m ml t.2.1 t.2.2 n) ∧ sgm ml t (kpt m n 0) = f_with (ml 13 (k_cg m n)) (k_ca m ml t.2.1 t.2.2 n) (k_cb m ml t.2.1 t.2.2 n) ∧ sgm ml t n = f_with (ml 14 (k_cg m n)) (k_ca m ml t.2.1 t.2.2 n) (k_cb m ml t.2.1 t.2.2 n) := by
  have hp : (0 : Int) < (f_parts (m 4 n)).toInt := by rw [k]; decide
  have e := sg_e h ht hn
  rw [fsk_14 k, ksh_p hp] at e
  obtain ⟨c1, c2, c3, c4⟩ := ((h.1.2.1 n hn).2.2.2 k)
  obtain ⟨g, eg, g1, -, -⟩ := mm_of c2.1 c2.2
  have ecg : k_cg m n = g := by
    unfold k_cg
    rw [eg]
    exact nI_clamp (by omega)
  unfold KCH at e
  by_cases q : KCK NF m ml t.1 n (ml (19 + t.1) (kpt m n 0))
  · rw [pik_t q] at e
    obtain ⟨⟨q1, -⟩, -, q3, q4⟩ := q
    have g2 : g < NF := by
      rw [eg, mm_tI (by omega)] at q1
      omega
    have hX := SHO_cn h c3
    have hY := SHO_cn h c4
    have eg' : (m 6 (4 * n)).toNatClampNeg = g := by rw [eg]; exact nI_clamp (by omega)
    rw [eg'] at q4 e
    obtain ⟨⟨j13, s13⟩, ⟨j14, s14⟩⟩ := h.2.2.2 g g2
    have n14 : ¬ f_with (ml 14 g) (SHO ml (m 6 (4 * n + 2))) (SHO ml (m 6 (4 * n + 3))) = -1 := fun z => hs (by rw [e, z, with_m1])
    rw [q4] at q3
    refine ⟨by rw [ecg]; exact g2, by rw [ecg]; exact eg, ⟨by show k_cg m n < NF; rw [ecg]; exact g2, ?_, ?_⟩, ?_, ?_⟩
    · rcases hX with z | z
      · refine .inl ?_
        show f_with (SHO ml (m 6 (4 * n + 2))) t.2.1 t.2.2 = -1
        rw [z]
        exact with_m1
      · exact wl_CL ht.2.1 ht.2.2 z
    · rcases hY with z | z
      · refine .inl ?_
        show f_with (SHO ml (m 6 (4 * n + 3))) t.2.1 t.2.2 = -1
        rw [z]
        exact with_m1
      · exact wl_CL ht.2.1 ht.2.2 z
    · rw [ecg]
      unfold sgm
      rw [q4]
      exact wl_sub hX hY j13 _ s13 q3
    · rw [ecg, e]
      exact wl_sub hX hY j14 _ s14 n14
  · rw [pik_f q, with_m1] at e
    exact absurd e hs
end MSG
end MPG
