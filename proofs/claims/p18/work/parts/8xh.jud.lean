/-! ===== shapes: where letters lie, how deep it is with others for them ===== -/
def VS (x : Int64) : Prop := 0 ≤ x.toInt ∧ x.toInt < 152587890624
def dpn (x : Int64) : Nat := (f_dp x).toInt.toNat
theorem dpn_c {x : Int64} (h : VS x) : (x.toInt < 390624 ∧ (f_dp x = 1 ∨ f_dp x = 2 ∨ f_dp x = 3 ∨ f_dp x = 4) ∧ 1 ≤ dpn x ∧ dpn x ≤ 4) ∨ (390624 ≤ x.toInt ∧ f_dp x = 5 ∧ dpn x = 5) := by
  unfold dpn
  rcases f_rw_c h.1 h.2 with ⟨b1, c1, d1⟩ | ⟨a1, b1, c1, d1⟩ | ⟨a1, b1, c1, d1⟩ | ⟨a1, b1, c1, d1⟩ | ⟨a1, c1, d1⟩ <;> rw [d1]
  · exact .inl ⟨by omega, .inl rfl, by decide, by decide⟩
  · exact .inl ⟨by omega, .inr (.inl rfl), by decide, by decide⟩
  · exact .inl ⟨by omega, .inr (.inr (.inl rfl)), by decide, by decide⟩
  · exact .inl ⟨b1, .inr (.inr (.inr rfl)), by decide, by decide⟩
  · exact .inr ⟨a1, rfl, by decide⟩
theorem dpn_r {x : Int64} (h : VS x) : 1 ≤ dpn x ∧ dpn x ≤ 5 := by
  rcases dpn_c h with ⟨-, -, a, b⟩ | ⟨-, -, a⟩ <;> omega
theorem dpn_lt {x : Int64} (h : VS x) : x.toInt < 390624 ↔ dpn x ≤ 4 := by
  rcases dpn_c h with ⟨a, -, b, c⟩ | ⟨a, -, b⟩ <;> omega
theorem pr_V {x y : Int64} (hx : VS x) (hy : VS y) (h1 : dpn x ≤ 4) (h2 : dpn y ≤ 4) : VS (f_pr x y) ∧ f_kd (f_pr x y) = 4 ∧ f_fs (f_pr x y) = x ∧ f_sc (f_pr x y) = y ∧ dpn (f_pr x y) = 1 + max (dpn x) (dpn y) := by
  obtain ⟨a, b, c, e, g⟩ := f_pr_ok (x := x) (y := y) ⟨hx.1, (dpn_lt hx).mpr h1⟩ ⟨hy.1, (dpn_lt hy).mpr h2⟩
  refine ⟨⟨by omega, a.2⟩, b, c, e, ?_⟩
  unfold dpn
  rw [g]
  rcases dpn_c hx with ⟨-, q | q | q | q, -⟩ | ⟨-, -, q⟩
  · rcases dpn_c hy with ⟨-, r | r | r | r, -⟩ | ⟨-, -, r⟩
    all_goals first
      | omega
      | (rw [q, r]; decide)
  · rcases dpn_c hy with ⟨-, r | r | r | r, -⟩ | ⟨-, -, r⟩
    all_goals first
      | omega
      | (rw [q, r]; decide)
  · rcases dpn_c hy with ⟨-, r | r | r | r, -⟩ | ⟨-, -, r⟩
    all_goals first
      | omega
      | (rw [q, r]; decide)
  · rcases dpn_c hy with ⟨-, r | r | r | r, -⟩ | ⟨-, -, r⟩
    all_goals first
      | omega
      | (rw [q, r]; decide)
  · omega
theorem ls_V {x : Int64} (hx : VS x) (h1 : dpn x ≤ 4) : VS (f_ls x) ∧ f_kd (f_ls x) = 5 ∧ f_fs (f_ls x) = x ∧ dpn (f_ls x) = 1 + dpn x := by
  obtain ⟨a, b, c, e, g⟩ := f_ls_ok (x := x) ⟨hx.1, (dpn_lt hx).mpr h1⟩
  refine ⟨⟨by omega, a.2⟩, b, c, ?_⟩
  unfold dpn
  rw [g]
  rcases dpn_c hx with ⟨-, q | q | q | q, -⟩ | ⟨-, -, q⟩
  all_goals first
    | omega
    | (rw [q]; decide)
theorem pr_D {x y : Int64} (hx : VS x) (hy : VS y) (h : ¬ (dpn x ≤ 4 ∧ dpn y ≤ 4)) : f_pr x y = -1 := by
  have hx' := dpn_lt hx
  have hy' := dpn_lt hy
  exact f_pr_no hx hy (by omega)
theorem ls_D {x : Int64} (hx : VS x) (h : ¬ dpn x ≤ 4) : f_ls x = -1 := by
  have hx' := dpn_lt hx
  exact f_ls_no ⟨by omega, hx.2⟩
/-- made of the first four by PAIR and LIST -/
def CN : Nat → Int64 → Prop
  | 0, _ => False
  | k + 1, S => (0 ≤ S.toInt ∧ S.toInt < 4) ∨ (∃ x y, CN k x ∧ CN k y ∧ dpn x ≤ 4 ∧ dpn y ≤ 4 ∧ S = f_pr x y) ∨ (∃ x, CN k x ∧ dpn x ≤ 4 ∧ S = f_ls x)
def CNS (S : Int64) : Prop := ∃ k, CN k S
theorem CN_V : ∀ (k : Nat) (S : Int64), CN k S → VS S := by
  intro k
  induction k with
  | zero => exact fun S h => h.elim
  | succ k ih =>
    intro S h
    rcases h with h | ⟨x, y, hx, hy, h1, h2, rfl⟩ | ⟨x, hx, h1, rfl⟩
    · exact ⟨h.1, by omega⟩
    · exact (pr_V (ih x hx) (ih y hy) h1 h2).1
    · exact (ls_V (ih x hx) h1).1
theorem CNS_V {S : Int64} (h : CNS S) : VS S := by
  obtain ⟨k, h⟩ := h
  exact CN_V k S h
theorem CN_m : ∀ (k : Nat) (S : Int64), CN k S → CN (k + 1) S := by
  intro k
  induction k with
  | zero => exact fun S h => h.elim
  | succ k ih =>
    intro S h
    rcases h with h | ⟨x, y, hx, hy, h1, h2, e⟩ | ⟨x, hx, h1, e⟩
    · exact .inl h
    · exact .inr (.inl ⟨x, y, ih x hx, ih y hy, h1, h2, e⟩)
    · exact .inr (.inr ⟨x, ih x hx, h1, e⟩)
theorem CN_le {k j : Nat} {S : Int64} (h : CN k S) (hl : k ≤ j) : CN j S := by
  induction hl with
  | refl => exact h
  | step _ ih => exact CN_m _ _ ih
theorem CNS_pr {x y : Int64} (hx : CNS x) (hy : CNS y) (h1 : dpn x ≤ 4) (h2 : dpn y ≤ 4) : CNS (f_pr x y) := by
  obtain ⟨k, hx⟩ := hx
  obtain ⟨j, hy⟩ := hy
  exact ⟨max k j + 1, .inr (.inl ⟨x, y, CN_le hx (Nat.le_max_left _ _), CN_le hy (Nat.le_max_right _ _), h1, h2, rfl⟩)⟩
theorem CNS_ls {x : Int64} (hx : CNS x) (h1 : dpn x ≤ 4) : CNS (f_ls x) := by
  obtain ⟨k, hx⟩ := hx
  exact ⟨k + 1, .inr (.inr ⟨x, hx, h1, rfl⟩)⟩
def k_un (x : Nat) : Nat := if x = 0 then 0 else x + 1
/-- how deep letter c lies at most; 0: it isn't there -/
def k_gl (c : Int32) : Nat → Int64 → Nat
  | 0, _ => 0
  | k + 1, t => if f_kd t = c then 1 else if f_kd t = 4 then k_un (max (k_gl c k (f_fs t)) (k_gl c k (f_sc t))) else if f_kd t = 5 then k_un (k_gl c k (f_fs t)) else 0
def k_dd (g a : Nat) : Nat := if g = 0 then 0 else g - 1 + a
/-- how deep S becomes -/
def k_DD (j : Nat) (S A B : Int64) : Nat := max (dpn S) (max (k_dd (k_gl 2 j S) (dpn A)) (k_dd (k_gl 3 j S) (dpn B)))
theorem S4_c {S : Int64} (h : 0 ≤ S.toInt ∧ S.toInt < 4) : S = 0 ∨ S = 1 ∨ S = 2 ∨ S = 3 := by
  rcases (show S.toInt = 0 ∨ S.toInt = 1 ∨ S.toInt = 2 ∨ S.toInt = 3 by omega) with h | h | h | h
  · exact .inl (Int64.toInt_inj.mp h)
  · exact .inr (.inl (Int64.toInt_inj.mp h))
  · exact .inr (.inr (.inl (Int64.toInt_inj.mp h)))
  · exact .inr (.inr (.inr (Int64.toInt_inj.mp h)))
theorem wl_s (j : Nat) (t A B : Int64) : f_wl (j + 1) t A B = if f_kd t = 2 then A else if f_kd t = 3 then B else if f_kd t = 4 then f_pr (f_wl j (f_fs t) A B) (f_wl j (f_sc t) A B) else if f_kd t = 5 then f_ls (f_wl j (f_fs t) A B) else t := rfl
theorem gl_s (c : Int32) (j : Nat) (t : Int64) : k_gl c (j + 1) t = if f_kd t = c then 1 else if f_kd t = 4 then k_un (max (k_gl c j (f_fs t)) (k_gl c j (f_sc t))) else if f_kd t = 5 then k_un (k_gl c j (f_fs t)) else 0 := rfl
theorem kd_l : f_kd 0 = 0 ∧ f_kd 1 = 1 ∧ f_kd 2 = 2 ∧ f_kd 3 = 3 := by decide
theorem dpn_l : dpn 0 = 1 ∧ dpn 1 = 1 ∧ dpn 2 = 1 ∧ dpn 3 = 1 := by decide
theorem gl_pr {c : Int32} {j : Nat} {x y : Int64} (hc : c = 2 ∨ c = 3) (hx : VS x) (hy : VS y) (h1 : dpn x ≤ 4) (h2 : dpn y ≤ 4) : k_gl c (j + 1) (f_pr x y) = k_un (max (k_gl c j x) (k_gl c j y)) := by
  obtain ⟨-, k, f, s, -⟩ := pr_V hx hy h1 h2
  rw [gl_s, k, f, s, if_neg (by rcases hc with rfl | rfl <;> decide), if_pos rfl]
theorem gl_ls {c : Int32} {j : Nat} {x : Int64} (hc : c = 2 ∨ c = 3) (hx : VS x) (h1 : dpn x ≤ 4) : k_gl c (j + 1) (f_ls x) = k_un (k_gl c j x) := by
  obtain ⟨-, k, f, -⟩ := ls_V hx h1
  rw [gl_s, k, f, if_neg (by rcases hc with rfl | rfl <;> decide), if_neg (by decide), if_pos rfl]
theorem gl_b {c k : Int32} {x y : Nat} (h4 : ¬ k = 4) (h5 : ¬ k = 5) : (if k = c then 1 else if k = 4 then x else if k = 5 then y else 0) = if k = c then 1 else 0 := by
  rw [if_neg h4, if_neg h5]
theorem dd_u (z p : Nat) : k_dd (k_un z) p = if z = 0 then 0 else k_dd z p + 1 := by
  cases z with
  | zero => rfl
  | succ z =>
    have e1 : k_un (z + 1) = z + 1 + 1 := if_neg (Nat.succ_ne_zero z)
    have e2 : k_dd (z + 1) p = z + 1 - 1 + p := if_neg (Nat.succ_ne_zero z)
    have e3 : k_dd (z + 1 + 1) p = z + 1 + 1 - 1 + p := if_neg (Nat.succ_ne_zero (z + 1))
    rw [e1, e2, e3, if_neg (Nat.succ_ne_zero z)]
    omega
theorem dd_s (z p : Nat) : k_dd (z + 1) p = z + p := if_neg (Nat.succ_ne_zero z)
theorem dd_m (a b p : Nat) : k_dd (max a b) p = max (k_dd a p) (k_dd b p) := by
  cases a with
  | zero =>
    rw [Nat.zero_max]
    show k_dd b p = max 0 (k_dd b p)
    rw [Nat.zero_max]
  | succ a =>
    cases b with
    | zero =>
      rw [Nat.max_zero]
      show k_dd (a + 1) p = max (k_dd (a + 1) p) 0
      rw [Nat.max_zero]
    | succ b =>
      have e : max (a + 1) (b + 1) = max a b + 1 := by omega
      rw [e, dd_s, dd_s, dd_s]
      omega
theorem dd_z {a b : Nat} (p : Nat) (h : max a b = 0) : k_dd a p = 0 ∧ k_dd b p = 0 := by
  have ha : a = 0 := by omega
  have hb : b = 0 := by omega
  rw [ha, hb]
  exact ⟨rfl, rfl⟩
theorem dd_pr (dx dy a b c e p q : Nat) : max (1 + max dx dy) (max (k_dd (k_un (max a b)) p) (k_dd (k_un (max c e)) q)) = 1 + max (max dx (max (k_dd a p) (k_dd c q))) (max dy (max (k_dd b p) (k_dd e q))) := by
  rw [dd_u, dd_u, dd_m, dd_m]
  have h1 := fun h => dd_z (a := a) (b := b) p h
  have h2 := fun h => dd_z (a := c) (b := e) q h
  by_cases z1 : max a b = 0
  · obtain ⟨x1, x2⟩ := h1 z1
    by_cases z2 : max c e = 0
    · obtain ⟨y1, y2⟩ := h2 z2
      rw [if_pos z1, if_pos z2, x1, x2, y1, y2]
      omega
    · rw [if_pos z1, if_neg z2, x1, x2]
      omega
  · by_cases z2 : max c e = 0
    · obtain ⟨y1, y2⟩ := h2 z2
      rw [if_neg z1, if_pos z2, y1, y2]
      omega
    · rw [if_neg z1, if_neg z2]
      omega
theorem dd_ls (dx a c p q : Nat) : max (1 + dx) (max (k_dd (k_un a) p) (k_dd (k_un c) q)) = 1 + max dx (max (k_dd a p) (k_dd c q)) := by
  have h := dd_pr dx dx a a c c p q
  rw [Nat.max_self, Nat.max_self, Nat.max_self, Nat.max_self] at h
  exact h
/-- a type with others for its letters: how deep it is, and whether it is one -/
theorem wl_D {A B : Int64} : ∀ (k : Nat) (S : Int64), CN k S → ∀ j, dpn S ≤ j → (0 < k_gl 2 j S → CNS A) → (0 < k_gl 3 j S → CNS B) → (k_DD j S A B ≤ 5 → CNS (f_wl j S A B) ∧ dpn (f_wl j S A B) = k_DD j S A B) ∧ (5 < k_DD j S A B → f_wl j S A B = -1) := by
  intro k
  induction k with
  | zero => exact fun S h => h.elim
  | succ k ih =>
    intro S h j hj hA hB
    cases j with
    | zero =>
      have := (dpn_r (CN_V _ S h)).1
      omega
    | succ j =>
      rcases h with h | ⟨x, y, hx, hy, h1, h2, rfl⟩ | ⟨x, hx, h1, rfl⟩
      · have hS : CNS S := ⟨1, .inl h⟩
        rcases S4_c h with rfl | rfl | rfl | rfl
        · rw [wl_s, kd_l.1, if_neg (by decide), if_neg (by decide), if_neg (by decide), if_neg (by decide)]
          have e : k_DD (j + 1) 0 A B = 1 := by
            unfold k_DD
            rw [gl_s, gl_s, kd_l.1, dpn_l.1]
            rfl
          rw [e]
          exact ⟨fun _ => ⟨hS, dpn_l.1⟩, fun q => by omega⟩
        · rw [wl_s, kd_l.2.1, if_neg (by decide), if_neg (by decide), if_neg (by decide), if_neg (by decide)]
          have e : k_DD (j + 1) 1 A B = 1 := by
            unfold k_DD
            rw [gl_s, gl_s, kd_l.2.1, dpn_l.2.1]
            rfl
          rw [e]
          exact ⟨fun _ => ⟨hS, dpn_l.2.1⟩, fun q => by omega⟩
        · have e2 : k_gl 2 (j + 1) 2 = 1 := by
            rw [gl_s, kd_l.2.2.1, if_pos rfl]
          have e3 : k_gl 3 (j + 1) 2 = 0 := by
            rw [gl_s, kd_l.2.2.1, if_neg (by decide), if_neg (by decide), if_neg (by decide)]
          have hA' := hA (by rw [e2]; decide)
          have hr := dpn_r (CNS_V hA')
          rw [wl_s, kd_l.2.2.1, if_pos rfl]
          have e : k_DD (j + 1) 2 A B = dpn A := by
            unfold k_DD k_dd
            rw [e2, e3, dpn_l.2.2.1, if_neg (by decide), if_pos rfl]
            omega
          rw [e]
          exact ⟨fun _ => ⟨hA', rfl⟩, fun q => by omega⟩
        · have e2 : k_gl 2 (j + 1) 3 = 0 := by
            rw [gl_s, kd_l.2.2.2, if_neg (by decide), if_neg (by decide), if_neg (by decide)]
          have e3 : k_gl 3 (j + 1) 3 = 1 := by
            rw [gl_s, kd_l.2.2.2, if_pos rfl]
          have hB' := hB (by rw [e3]; decide)
          have hr := dpn_r (CNS_V hB')
          rw [wl_s, kd_l.2.2.2, if_neg (by decide), if_pos rfl]
          have e : k_DD (j + 1) 3 A B = dpn B := by
            unfold k_DD k_dd
            rw [e2, e3, dpn_l.2.2.2, if_pos rfl, if_neg (by decide)]
            omega
          rw [e]
          exact ⟨fun _ => ⟨hB', rfl⟩, fun q => by omega⟩
      · have vx := CN_V k x hx
        have vy := CN_V k y hy
        obtain ⟨v, kd, ef, es, ed⟩ := pr_V vx vy h1 h2
        have g2 := gl_pr (c := 2) (j := j) (.inl rfl) vx vy h1 h2
        have g3 := gl_pr (c := 3) (j := j) (.inr rfl) vx vy h1 h2
        rw [g2] at hA
        rw [g3] at hB
        have u2 : ∀ a b : Nat, 0 < a ∨ 0 < b → 0 < k_un (max a b) := fun a b q => by
          unfold k_un
          rw [if_neg (by omega)]
          omega
        obtain ⟨x1, x2⟩ := ih x hx j (by omega) (fun q => hA (u2 _ _ (.inl q))) (fun q => hB (u2 _ _ (.inl q)))
        obtain ⟨y1, y2⟩ := ih y hy j (by omega) (fun q => hA (u2 _ _ (.inr q))) (fun q => hB (u2 _ _ (.inr q)))
        have e : k_DD (j + 1) (f_pr x y) A B = 1 + max (k_DD j x A B) (k_DD j y A B) := by
          unfold k_DD
          rw [g2, g3, ed]
          exact dd_pr _ _ _ _ _ _ _ _
        rw [wl_s, kd, ef, es, if_neg (by decide), if_neg (by decide), if_pos rfl, e]
        by_cases cx : k_DD j x A B ≤ 5
        · obtain ⟨x3, x4⟩ := x1 cx
          by_cases cy : k_DD j y A B ≤ 5
          · obtain ⟨y3, y4⟩ := y1 cy
            by_cases c : k_DD j x A B ≤ 4 ∧ k_DD j y A B ≤ 4
            · obtain ⟨-, -, -, -, q⟩ := pr_V (CNS_V x3) (CNS_V y3) (by omega) (by omega)
              refine ⟨fun _ => ⟨CNS_pr x3 y3 (by omega) (by omega), ?_⟩, fun r => by omega⟩
              rw [q, x4, y4]
            · refine ⟨fun r => by omega, fun _ => pr_D (CNS_V x3) (CNS_V y3) (by rw [x4, y4]; exact c)⟩
          · rw [y2 (by omega)]
            exact ⟨fun r => by omega, fun _ => f_pr_n (.inr rfl)⟩
        · rw [x2 (by omega)]
          exact ⟨fun r => by omega, fun _ => f_pr_n (.inl rfl)⟩
      · have vx := CN_V k x hx
        obtain ⟨v, kd, ef, ed⟩ := ls_V vx h1
        have g2 := gl_ls (c := 2) (j := j) (.inl rfl) vx h1
        have g3 := gl_ls (c := 3) (j := j) (.inr rfl) vx h1
        rw [g2] at hA
        rw [g3] at hB
        have u2 : ∀ a : Nat, 0 < a → 0 < k_un a := fun a q => by
          unfold k_un
          rw [if_neg (by omega)]
          omega
        obtain ⟨x1, x2⟩ := ih x hx j (by omega) (fun q => hA (u2 _ q)) (fun q => hB (u2 _ q))
        have e : k_DD (j + 1) (f_ls x) A B = 1 + k_DD j x A B := by
          unfold k_DD
          rw [g2, g3, ed]
          exact dd_ls _ _ _ _ _
        rw [wl_s, kd, ef, if_neg (by decide), if_neg (by decide), if_neg (by decide), if_pos rfl, e]
        by_cases cx : k_DD j x A B ≤ 5
        · obtain ⟨x3, x4⟩ := x1 cx
          by_cases c : k_DD j x A B ≤ 4
          · obtain ⟨-, -, -, q⟩ := ls_V (CNS_V x3) (by omega)
            refine ⟨fun _ => ⟨CNS_ls x3 (by omega), ?_⟩, fun r => by omega⟩
            rw [q, x4]
          · exact ⟨fun r => by omega, fun _ => ls_D (CNS_V x3) (by rw [x4]; exact c)⟩
        · rw [x2 (by omega)]
          exact ⟨fun r => by omega, fun _ => f_ls_n⟩
/-- f_with: a type where it isn't too deep, else none -/
theorem with_D {S A B : Int64} (h : CNS S) (hA : 0 < k_gl 2 7 S → CNS A) (hB : 0 < k_gl 3 7 S → CNS B) : (k_DD 7 S A B ≤ 5 ∧ CNS (f_with S A B)) ∨ (5 < k_DD 7 S A B ∧ f_with S A B = -1) := by
  obtain ⟨k, h⟩ := h
  have hr := dpn_r (CN_V k S h)
  obtain ⟨a, b⟩ := wl_D k S h 7 (by omega) hA hB
  by_cases c : k_DD 7 S A B ≤ 5
  · exact .inl ⟨c, (a c).1⟩
  · exact .inr ⟨by omega, b (by omega)⟩
theorem CNS_n : ¬ CNS (-1) := fun h => by
  have := (CNS_V h).1
  rw [mm_lln] at this
  omega
/-! what the model keeps of a type -/
section MTY
variable {NB TY : Nat} {w : mm_P}
theorem most_n {x y : Int32} (hx : 0 ≤ x.toInt) (hy : 0 ≤ y.toInt) : (f_most x y).toInt.toNat = max x.toInt.toNat y.toInt.toNat := by
  unfold f_most
  by_cases h : x ≤ y
  · rw [if_pos h]
    have := mm_leI h
    omega
  · rw [if_neg h]
    have := mm_nleI h
    omega
theorem under_n {x : Int32} (h0 : 0 ≤ x.toInt) (h1 : x.toInt ≤ 5) : (f_under x).toInt.toNat = k_un x.toInt.toNat := by
  unfold f_under k_un
  by_cases h : x = 0
  · rw [if_pos h, h]
    rfl
  · have hz : ¬ x.toInt = 0 := fun q => h (Int32.toInt_inj.mp (by rw [q]; rfl))
    rw [if_neg h, if_neg (by omega), mm_add1 (by omega)]
    omega
/-- the facts of a type are those of its shape -/
def TF (w : mm_P) (t : Nat) : Prop := CNS (SHV w t) ∧ (w 180 t).toInt = dpn (SHV w t) ∧ (0 ≤ (w 181 t).toInt ∧ (w 181 t).toInt ≤ (w 180 t).toInt) ∧ (0 ≤ (w 182 t).toInt ∧ (w 182 t).toInt ≤ (w 180 t).toInt) ∧ ∀ j, dpn (SHV w t) ≤ j → (w 181 t).toInt.toNat = k_gl 2 j (SHV w t) ∧ (w 182 t).toInt.toNat = k_gl 3 j (SHV w t)
theorem TF_of (hW : WTY NB TY w) : ∀ (k t : Nat), t < k → vd NB TY t → (w 180 t).toInt ≤ 5 → TF w t := by
  intro k
  induction k with
  | zero => exact fun t h => absurd h (Nat.not_lt_zero _)
  | succ k ih =>
    intro t hk ht hd
    have hr := SHV_r hW ht hd
    have hdp : (w 180 t).toInt = dpn (SHV w t) := by
      unfold dpn
      rw [hr.2]
      have := (SHV_1 hW ht).1
      omega
    obtain ⟨kd, c⟩ := SHV_k hW ht hd
    rcases c with ⟨b, -, -⟩ | ⟨a, a1, a2, a3, a4, a5, a6⟩ | ⟨a, b, a1, a2, b1, b2, a3, a4, b4, a6, b6⟩
    · have hs := SHV_b b
      have hj : ∀ j, dpn (SHV w t) ≤ j → ∃ j', j = j' + 1 := fun j hj => by
        have := (dpn_r (x := SHV w t) hr.1).1
        exact ⟨j - 1, by omega⟩
      have h4 : 0 ≤ (SHV w t).toInt ∧ (SHV w t).toInt < 4 := by
        have h7 : (w 177 t).toInt < 4 := by
          rcases b.1 with ⟨s, -⟩ | ⟨s, -⟩ | ⟨s, -⟩ | ⟨s, -⟩ <;> (rw [s]; decide)
        exact ⟨hr.1.1, by omega⟩
      refine ⟨⟨1, .inl h4⟩, hdp, ?_, ?_, fun j hj' => ?_⟩
      · rw [b.2.1]
        rcases b.1 with ⟨s, s1, s2, -⟩ | ⟨s, s1, s2, -⟩ | ⟨s, s1, s2, -⟩ | ⟨s, s1, s2, -⟩ <;> (rw [s1]; decide)
      · rw [b.2.1]
        rcases b.1 with ⟨s, s1, s2, -⟩ | ⟨s, s1, s2, -⟩ | ⟨s, s1, s2, -⟩ | ⟨s, s1, s2, -⟩ <;> (rw [s2]; decide)
      · obtain ⟨j', rfl⟩ := hj j hj'
        rw [gl_s, gl_s, kd]
        rcases b.1 with ⟨s, s1, s2, -⟩ | ⟨s, s1, s2, -⟩ | ⟨s, s1, s2, -⟩ | ⟨s, s1, s2, -⟩ <;> (rw [s, s1, s2, gl_b (by decide) (by decide), gl_b (by decide) (by decide)]; decide)
    · have hda : (w 180 a).toInt ≤ 5 := by omega
      obtain ⟨t1, t2, t3, t4, t5⟩ := ih a (by omega) a2 hda
      have h5 := SHV_5 hW ht a2 a1 a3
      have ha1 := (SHV_1 hW a2).1
      have va := CNS_V t1
      have hd4 : dpn (SHV w a) ≤ 4 := by omega
      have e0 : (w 180 t).toInt = 1 + (w 180 a).toInt := by rw [a3.2.2.2.1, mm_1p (by omega) (by omega)]
      have hu1 := f_under_r (y := w 181 a) t3.1 (by omega)
      have hu2 := f_under_r (y := w 182 a) t4.1 (by omega)
      refine ⟨by rw [h5]; exact CNS_ls t1 hd4, hdp, by rw [a3.2.2.2.2.1]; omega, by rw [a3.2.2.2.2.2.1]; omega, fun j hj => ?_⟩
      have hdl := (ls_V va hd4).2.2.2
      rw [h5] at hj ⊢
      cases j with
      | zero => omega
      | succ j =>
        obtain ⟨q1, q2⟩ := t5 j (by omega)
        rw [gl_ls (.inl rfl) va hd4, gl_ls (.inr rfl) va hd4, a3.2.2.2.2.1, a3.2.2.2.2.2.1, under_n t3.1 (by omega), under_n t4.1 (by omega), q1, q2]
        exact ⟨rfl, rfl⟩
    · have hda : (w 180 a).toInt ≤ 5 := by omega
      have hdb : (w 180 b).toInt ≤ 5 := by omega
      obtain ⟨t1, t2, t3, t4, t5⟩ := ih a (by omega) a2 hda
      obtain ⟨s1, s2, s3, s4, s5⟩ := ih b (by omega) b2 hdb
      have h5 := SHV_4 hW ht a2 a1 b2 b1 a3
      have ha1 := (SHV_1 hW a2).1
      have hb1 := (SHV_1 hW b2).1
      have va := CNS_V t1
      have vb := CNS_V s1
      have hd4 : dpn (SHV w a) ≤ 4 := by omega
      have hd4' : dpn (SHV w b) ≤ 4 := by omega
      obtain ⟨⟨m1, m2⟩, m3, m4⟩ := f_most_r (x := w 180 a) (y := w 180 b) (lo := 1) (hi := 4) ⟨ha1, a6⟩ ⟨hb1, b6⟩
      have e0 : (w 180 t).toInt = 1 + (f_most (w 180 a) (w 180 b)).toInt := by rw [a3.2.2.2.1, mm_1p (by omega) (by omega)]
      obtain ⟨⟨n1, n2⟩, n3, n4⟩ := f_most_r (x := w 181 a) (y := w 181 b) (lo := 0) (hi := (f_most (w 180 a) (w 180 b)).toInt) ⟨t3.1, by omega⟩ ⟨s3.1, by omega⟩
      obtain ⟨⟨o1, o2⟩, o3, o4⟩ := f_most_r (x := w 182 a) (y := w 182 b) (lo := 0) (hi := (f_most (w 180 a) (w 180 b)).toInt) ⟨t4.1, by omega⟩ ⟨s4.1, by omega⟩
      have hu1 := f_under_r (y := f_most (w 181 a) (w 181 b)) n1 (by omega)
      have hu2 := f_under_r (y := f_most (w 182 a) (w 182 b)) o1 (by omega)
      refine ⟨by rw [h5]; exact CNS_pr t1 s1 hd4 hd4', hdp, by rw [a3.2.2.2.2.1]; omega, by rw [a3.2.2.2.2.2.1]; omega, fun j hj => ?_⟩
      have hdl := (pr_V va vb hd4 hd4').2.2.2.2
      rw [h5] at hj ⊢
      cases j with
      | zero => omega
      | succ j =>
        obtain ⟨q1, q2⟩ := t5 j (by omega)
        obtain ⟨r1, r2⟩ := s5 j (by omega)
        rw [gl_pr (.inl rfl) va vb hd4 hd4', gl_pr (.inr rfl) va vb hd4 hd4', a3.2.2.2.2.1, a3.2.2.2.2.2.1, under_n n1 (by omega), under_n o1 (by omega), most_n t3.1 s3.1, most_n t4.1 s4.1, q1, q2, r1, r2]
        exact ⟨rfl, rfl⟩
theorem TF_v {t : Nat} (hW : WTY NB TY w) (ht : vd NB TY t) (hd : (w 180 t).toInt ≤ 5) : TF w t := TF_of hW (t + 1) t (Nat.lt_succ_self t) ht hd
end MTY
