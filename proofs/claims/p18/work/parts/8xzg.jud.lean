/-! ===== shapes without letters ===== -/
def CL0 : Nat → Int64 → Prop
  | 0, _ => False
  | k + 1, S => (S = 0 ∨ S = 1) ∨ (∃ x y, CL0 k x ∧ CL0 k y ∧ dpn x ≤ 4 ∧ dpn y ≤ 4 ∧ S = f_pr x y) ∨ (∃ x, CL0 k x ∧ dpn x ≤ 4 ∧ S = f_ls x)
def CLs (S : Int64) : Prop := ∃ k, CL0 k S
theorem CL0_N : ∀ (k : Nat) (S : Int64), CL0 k S → CN k S
  | 0, _, h => h
  | k + 1, S, h => by
    rcases h with h | ⟨x, y, hx, hy, h1, h2, e⟩ | ⟨x, hx, h1, e⟩
    · refine .inl ?_
      rcases h with rfl | rfl <;> exact ⟨by decide, by decide⟩
    · exact .inr (.inl ⟨x, y, CL0_N k x hx, CL0_N k y hy, h1, h2, e⟩)
    · exact .inr (.inr ⟨x, CL0_N k x hx, h1, e⟩)
theorem CL0_m : ∀ (k : Nat) (S : Int64), CL0 k S → CL0 (k + 1) S
  | 0, _, h => h.elim
  | k + 1, S, h => by
    rcases h with h | ⟨x, y, hx, hy, h1, h2, e⟩ | ⟨x, hx, h1, e⟩
    · exact .inl h
    · exact .inr (.inl ⟨x, y, CL0_m k x hx, CL0_m k y hy, h1, h2, e⟩)
    · exact .inr (.inr ⟨x, CL0_m k x hx, h1, e⟩)
theorem CL0_le {k j : Nat} {S : Int64} (h : CL0 k S) (hl : k ≤ j) : CL0 j S := by
  obtain ⟨e, rfl⟩ : ∃ e, j = k + e := ⟨j - k, by omega⟩
  clear hl
  induction e with
  | zero => exact h
  | succ e ih => exact CL0_m _ _ ih
theorem CLs_N {S : Int64} (h : CLs S) : CNS S := ⟨h.choose, CL0_N _ _ h.choose_spec⟩
theorem CLs_V {S : Int64} (h : CLs S) : VS S := CNS_V (CLs_N h)
theorem CLs_n : ¬ CLs (-1) := fun h => CNS_n (CLs_N h)
theorem CLs_0 : CLs 0 := ⟨1, .inl (.inl rfl)⟩
theorem CLs_1 : CLs 1 := ⟨1, .inl (.inr rfl)⟩
theorem CLs_pr {x y : Int64} (hx : CLs x) (hy : CLs y) (h1 : dpn x ≤ 4) (h2 : dpn y ≤ 4) : CLs (f_pr x y) := by
  obtain ⟨k, hk⟩ := hx
  obtain ⟨j, hj⟩ := hy
  exact ⟨max k j + 1, .inr (.inl ⟨x, y, CL0_le hk (by omega), CL0_le hj (by omega), h1, h2, rfl⟩)⟩
theorem CLs_ls {x : Int64} (hx : CLs x) (h1 : dpn x ≤ 4) : CLs (f_ls x) := by
  obtain ⟨k, hk⟩ := hx
  exact ⟨k + 1, .inr (.inr ⟨x, hk, h1, rfl⟩)⟩
theorem CLs_ind {P : Int64 → Prop} (h0 : P 0) (h1 : P 1) (hp : ∀ x y, CLs x → CLs y → dpn x ≤ 4 → dpn y ≤ 4 → P x → P y → P (f_pr x y)) (hl : ∀ x, CLs x → dpn x ≤ 4 → P x → P (f_ls x)) : ∀ S, CLs S → P S := by
  have h : ∀ k S, CL0 k S → P S := by
    intro k
    induction k with
    | zero => exact fun S h => h.elim
    | succ k ih =>
      intro S h
      rcases h with h | ⟨x, y, hx, hy, d1, d2, rfl⟩ | ⟨x, hx, d1, rfl⟩
      · rcases h with rfl | rfl
        · exact h0
        · exact h1
      · exact hp x y ⟨k, hx⟩ ⟨k, hy⟩ d1 d2 (ih x hx) (ih y hy)
      · exact hl x ⟨k, hx⟩ d1 (ih x hx)
  exact fun S ⟨k, hk⟩ => h k S hk
theorem rw_n : (f_rw (-1)).toInt < 1 := by decide +kernel
theorem pr_n1 {y : Int64} : f_pr (-1) y = -1 := by
  unfold f_pr
  rw [if_pos rw_n]
theorem pr_n2 {x : Int64} : f_pr x (-1) = -1 := by
  unfold f_pr
  by_cases h : (f_rw x).toInt < 1
  · rw [if_pos h]
  · rw [if_neg h, if_neg (by have := rw_n; omega)]
theorem ls_n1 : f_ls (-1) = -1 := by
  unfold f_ls
  rw [if_neg (by have := rw_n; omega)]
theorem kd_n1 : f_kd (-1) = -1 := by decide +kernel
theorem pr_get {x y : Int64} (hx : x = -1 ∨ VS x) (hy : y = -1 ∨ VS y) (h : ¬ f_pr x y = -1) : VS x ∧ VS y ∧ dpn x ≤ 4 ∧ dpn y ≤ 4 := by
  rcases hx with rfl | hx
  · exact absurd pr_n1 h
  · rcases hy with rfl | hy
    · exact absurd pr_n2 h
    · by_cases q : dpn x ≤ 4 ∧ dpn y ≤ 4
      · exact ⟨hx, hy, q.1, q.2⟩
      · exact absurd (pr_D hx hy q) h
theorem ls_get {x : Int64} (hx : x = -1 ∨ VS x) (h : ¬ f_ls x = -1) : VS x ∧ dpn x ≤ 4 := by
  rcases hx with rfl | hx
  · exact absurd ls_n1 h
  · by_cases q : dpn x ≤ 4
    · exact ⟨hx, q⟩
    · exact absurd (ls_D hx q) h
/-- letters replaced: a class of shapes that PAIR and LIST keep -/
theorem wl_P {P : Int64 → Prop} (p0 : P 0) (p1 : P 1) (pp : ∀ x y, P x → P y → dpn x ≤ 4 → dpn y ≤ 4 → P (f_pr x y)) (pl : ∀ x, P x → dpn x ≤ 4 → P (f_ls x)) (pv : ∀ x, P x → VS x) {A B : Int64} (hA : A = -1 ∨ P A) (hB : B = -1 ∨ P B) : ∀ (k : Nat) (S : Int64), CN k S → ∀ j, dpn S ≤ j → f_wl j S A B = -1 ∨ P (f_wl j S A B) := by
  intro k
  induction k with
  | zero => exact fun S h => h.elim
  | succ k ih =>
    intro S h j hj
    rcases h with h | ⟨x, y, hx, hy, d1, d2, rfl⟩ | ⟨x, hx, d1, rfl⟩
    · obtain ⟨j', rfl⟩ : ∃ j', j = j' + 1 := ⟨j - 1, by
        have := dpn_l
        rcases S4_c h with rfl | rfl | rfl | rfl <;> omega⟩
      rw [wl_s]
      rcases S4_c h with rfl | rfl | rfl | rfl
      · rw [kd_l.1, if_neg (by decide), if_neg (by decide), if_neg (by decide), if_neg (by decide)]
        exact .inr p0
      · rw [kd_l.2.1, if_neg (by decide), if_neg (by decide), if_neg (by decide), if_neg (by decide)]
        exact .inr p1
      · rw [kd_l.2.2.1, if_pos rfl]
        exact hA
      · rw [kd_l.2.2.2, if_neg (by decide), if_pos rfl]
        exact hB
    · obtain ⟨v1, v2, v3, v4, v5⟩ := pr_V (CN_V k x hx) (CN_V k y hy) d1 d2
      obtain ⟨j', rfl⟩ : ∃ j', j = j' + 1 := ⟨j - 1, by omega⟩
      rw [wl_s, v2, if_neg (by decide), if_neg (by decide), if_pos rfl, v3, v4]
      by_cases q : f_pr (f_wl j' x A B) (f_wl j' y A B) = -1
      · exact .inl q
      · have ix := ih x hx j' (by omega)
        have iy := ih y hy j' (by omega)
        obtain ⟨u1, u2, u3, u4⟩ := pr_get (ix.imp_right (pv _)) (iy.imp_right (pv _)) q
        have n : ∀ z, VS z → ¬ z = -1 := fun z hz e => by
          rw [e] at hz
          exact absurd hz.1 (by decide)
        exact .inr (pp _ _ (ix.resolve_left (n _ u1)) (iy.resolve_left (n _ u2)) u3 u4)
    · obtain ⟨v1, v2, v3, v5⟩ := ls_V (CN_V k x hx) d1
      obtain ⟨j', rfl⟩ : ∃ j', j = j' + 1 := ⟨j - 1, by omega⟩
      rw [wl_s, v2, if_neg (by decide), if_neg (by decide), if_neg (by decide), if_pos rfl, v3]
      by_cases q : f_ls (f_wl j' x A B) = -1
      · exact .inl q
      · have ix := ih x hx j' (by omega)
        obtain ⟨u1, u3⟩ := ls_get (ix.imp_right (pv _)) q
        exact .inr (pl _ (ix.resolve_left (fun e => by
          rw [e] at u1
          exact absurd u1.1 (by decide))) u3)
theorem wl_CL {A B : Int64} (hA : A = -1 ∨ CLs A) (hB : B = -1 ∨ CLs B) {S : Int64} (h : CNS S) : f_with S A B = -1 ∨ CLs (f_with S A B) := by
  obtain ⟨k, hk⟩ := h
  exact wl_P CLs_0 CLs_1 (fun x y a b c d => CLs_pr a b c d) (fun x a b => CLs_ls a b) (fun x a => CLs_V a) hA hB k S hk 7 (by have := dpn_r (CN_V k S hk); omega)
theorem CNS_01 : CNS 0 ∧ CNS 1 := ⟨CLs_N CLs_0, CLs_N CLs_1⟩
theorem wl_CN {A B : Int64} (hA : A = -1 ∨ CNS A) (hB : B = -1 ∨ CNS B) {S : Int64} {j : Nat} (h : CNS S) (hj : dpn S ≤ j) : f_wl j S A B = -1 ∨ CNS (f_wl j S A B) := by
  obtain ⟨k, hk⟩ := h
  exact wl_P CNS_01.1 CNS_01.2 (fun x y a b c d => CNS_pr a b c d) (fun x a b => CNS_ls a b) (fun x a => CNS_V a) hA hB k S hk j hj
theorem wl_f {A B : Int64} : ∀ (k : Nat) (S : Int64), CN k S → ∀ j j', dpn S ≤ j → dpn S ≤ j' → f_wl j S A B = f_wl j' S A B := by
  intro k
  induction k with
  | zero => exact fun S h => h.elim
  | succ k ih =>
    intro S h j j' hj hj'
    have h1 := (dpn_r (CN_V (k + 1) S h)).1
    obtain ⟨a, rfl⟩ : ∃ a, j = a + 1 := ⟨j - 1, by omega⟩
    obtain ⟨b, rfl⟩ : ∃ b, j' = b + 1 := ⟨j' - 1, by omega⟩
    rw [wl_s, wl_s]
    rcases h with h | ⟨x, y, hx, hy, d1, d2, rfl⟩ | ⟨x, hx, d1, rfl⟩
    · have hk : f_kd S = 0 ∨ f_kd S = 1 ∨ f_kd S = 2 ∨ f_kd S = 3 := by
        rcases S4_c h with q | q | q | q
        · rw [q]
          exact .inl kd_l.1
        · rw [q]
          exact .inr (.inl kd_l.2.1)
        · rw [q]
          exact .inr (.inr (.inl kd_l.2.2.1))
        · rw [q]
          exact .inr (.inr (.inr kd_l.2.2.2))
      have h4 : ¬ f_kd S = 4 := fun z => by
        rw [z] at hk
        exact absurd hk (by decide)
      have h5 : ¬ f_kd S = 5 := fun z => by
        rw [z] at hk
        exact absurd hk (by decide)
      rw [if_neg h4, if_neg h4, if_neg h5, if_neg h5]
    · obtain ⟨v1, v2, v3, v4, v5⟩ := pr_V (CN_V k x hx) (CN_V k y hy) d1 d2
      rw [v3, v4, ih x hx a b (by omega) (by omega), ih y hy a b (by omega) (by omega)]
    · obtain ⟨v1, v2, v3, v5⟩ := ls_V (CN_V k x hx) d1
      have key : ∀ (X Y Z : Int64), (if (5 : Int32) = 2 then A else if (5 : Int32) = 3 then B else if (5 : Int32) = 4 then X else if (5 : Int32) = 5 then Y else Z) = Y := fun X Y Z => by
        rw [if_neg (by decide), if_neg (by decide), if_neg (by decide), if_pos rfl]
      rw [v3, v2, key, key, ih x hx a b (by omega) (by omega)]
theorem with_pr {x y A B : Int64} (hx : CNS x) (hy : CNS y) (d1 : dpn x ≤ 4) (d2 : dpn y ≤ 4) : f_with (f_pr x y) A B = f_pr (f_with x A B) (f_with y A B) := by
  obtain ⟨k, hk⟩ := hx
  obtain ⟨j, hj⟩ := hy
  obtain ⟨v1, v2, v3, v4, v5⟩ := pr_V (CN_V k x hk) (CN_V j y hj) d1 d2
  show f_wl (6 + 1) (f_pr x y) A B = f_pr (f_wl 7 x A B) (f_wl 7 y A B)
  rw [wl_s, v2, if_neg (by decide), if_neg (by decide), if_pos rfl, v3, v4, wl_f k x hk 6 7 (by omega) (by omega), wl_f j y hj 6 7 (by omega) (by omega)]
theorem with_ls {x A B : Int64} (hx : CNS x) (d1 : dpn x ≤ 4) : f_with (f_ls x) A B = f_ls (f_with x A B) := by
  obtain ⟨k, hk⟩ := hx
  obtain ⟨v1, v2, v3, v5⟩ := ls_V (CN_V k x hk) d1
  show f_wl (6 + 1) (f_ls x) A B = f_ls (f_wl 7 x A B)
  rw [wl_s, v2, if_neg (by decide), if_neg (by decide), if_neg (by decide), if_pos rfl, v3, wl_f k x hk 6 7 (by omega) (by omega)]
theorem with_0 {A B : Int64} : f_with 0 A B = 0 ∧ f_with 1 A B = 1 ∧ f_with 2 A B = A ∧ f_with 3 A B = B := by
  refine ⟨?_, ?_, ?_, ?_⟩
  · show f_wl (6 + 1) 0 A B = 0
    rw [wl_s, kd_l.1, if_neg (by decide), if_neg (by decide), if_neg (by decide), if_neg (by decide)]
  · show f_wl (6 + 1) 1 A B = 1
    rw [wl_s, kd_l.2.1, if_neg (by decide), if_neg (by decide), if_neg (by decide), if_neg (by decide)]
  · show f_wl (6 + 1) 2 A B = A
    rw [wl_s, kd_l.2.2.1, if_pos rfl]
  · show f_wl (6 + 1) 3 A B = B
    rw [wl_s, kd_l.2.2.2, if_neg (by decide), if_pos rfl]
theorem with_m1 {A B : Int64} : f_with (-1) A B = -1 := by
  show f_wl (6 + 1) (-1) A B = -1
  rw [wl_s, kd_n1, if_neg (by decide), if_neg (by decide), if_neg (by decide), if_neg (by decide)]
/-- letters replaced twice -/
theorem wl_sub {X Y A B : Int64} (hX : X = -1 ∨ CNS X) (hY : Y = -1 ∨ CNS Y) : ∀ (k : Nat) (S : Int64), CN k S → ¬ f_with S X Y = -1 → f_with (f_with S X Y) A B = f_with S (f_with X A B) (f_with Y A B) := by
  intro k
  induction k with
  | zero => exact fun S h => h.elim
  | succ k ih =>
    intro S h hn
    rcases h with h | ⟨x, y, hx, hy, d1, d2, rfl⟩ | ⟨x, hx, d1, rfl⟩
    · rcases S4_c h with rfl | rfl | rfl | rfl
      · rw [with_0.1, with_0.1, with_0.1]
      · rw [with_0.2.1, with_0.2.1, with_0.2.1]
      · rw [with_0.2.2.1, with_0.2.2.1]
      · rw [with_0.2.2.2, with_0.2.2.2]
    · have cx : CNS x := ⟨k, hx⟩
      have cy : CNS y := ⟨k, hy⟩
      rw [with_pr cx cy d1 d2] at hn
      rw [with_pr cx cy d1 d2, with_pr cx cy d1 d2]
      have ix : f_with x X Y = -1 ∨ CNS (f_with x X Y) := wl_CN hX hY cx (by omega)
      have iy : f_with y X Y = -1 ∨ CNS (f_with y X Y) := wl_CN hX hY cy (by omega)
      obtain ⟨u1, u2, u3, u4⟩ := pr_get (ix.imp_right CNS_V) (iy.imp_right CNS_V) hn
      have nx : ¬ f_with x X Y = -1 := fun e => by
        rw [e] at u1
        exact absurd u1.1 (by decide)
      have ny : ¬ f_with y X Y = -1 := fun e => by
        rw [e] at u2
        exact absurd u2.1 (by decide)
      rw [with_pr (ix.resolve_left nx) (iy.resolve_left ny) u3 u4, ih x hx nx, ih y hy ny]
    · have cx : CNS x := ⟨k, hx⟩
      rw [with_ls cx d1] at hn
      rw [with_ls cx d1, with_ls cx d1]
      have ix : f_with x X Y = -1 ∨ CNS (f_with x X Y) := wl_CN hX hY cx (by omega)
      obtain ⟨u1, u3⟩ := ls_get (ix.imp_right CNS_V) hn
      have nx : ¬ f_with x X Y = -1 := fun e => by
        rw [e] at u1
        exact absurd u1.1 (by decide)
      rw [with_ls (ix.resolve_left nx) u3, ih x hx nx]
/-- how many cells a value takes -/
def wdN : Nat → Int64 → Nat
  | 0, _ => 1
  | k + 1, S => if f_kd S = 4 then wdN k (f_fs S) + wdN k (f_sc S) else 1
def wd (S : Int64) : Nat := wdN 6 S
theorem wdN_s (k : Nat) (S : Int64) : wdN (k + 1) S = if f_kd S = 4 then wdN k (f_fs S) + wdN k (f_sc S) else 1 := rfl
theorem wdN_f : ∀ S, CLs S → ∀ k j, dpn S ≤ k → dpn S ≤ j → wdN k S = wdN j S := by
  have p1 : ∀ S, VS S → ∀ k, dpn S ≤ k → ∃ a, k = a + 1 := fun S h k hk => ⟨k - 1, by have := dpn_r h; omega⟩
  refine CLs_ind (fun k j hk hj => ?_) (fun k j hk hj => ?_) (fun x y hx hy d1 d2 ix iy k j hk hj => ?_) (fun x hx d1 ix k j hk hj => ?_)
  · obtain ⟨a, rfl⟩ := p1 0 (CLs_V CLs_0) k hk
    obtain ⟨b, rfl⟩ := p1 0 (CLs_V CLs_0) j hj
    rfl
  · obtain ⟨a, rfl⟩ := p1 1 (CLs_V CLs_1) k hk
    obtain ⟨b, rfl⟩ := p1 1 (CLs_V CLs_1) j hj
    rfl
  · obtain ⟨v1, v2, v3, v4, v5⟩ := pr_V (CLs_V hx) (CLs_V hy) d1 d2
    obtain ⟨a, rfl⟩ := p1 _ v1 k hk
    obtain ⟨b, rfl⟩ := p1 _ v1 j hj
    rw [wdN_s, wdN_s, v3, v4, ix a b (by omega) (by omega), iy a b (by omega) (by omega)]
  · obtain ⟨v1, v2, v3, v5⟩ := ls_V (CLs_V hx) d1
    obtain ⟨a, rfl⟩ := p1 _ v1 k hk
    obtain ⟨b, rfl⟩ := p1 _ v1 j hj
    rw [wdN_s, wdN_s, v2]
    rfl
theorem wd_pr {x y : Int64} (hx : CLs x) (hy : CLs y) (d1 : dpn x ≤ 4) (d2 : dpn y ≤ 4) : wd (f_pr x y) = wd x + wd y := by
  obtain ⟨v1, v2, v3, v4, v5⟩ := pr_V (CLs_V hx) (CLs_V hy) d1 d2
  show wdN (5 + 1) (f_pr x y) = wdN 6 x + wdN 6 y
  rw [wdN_s, v2, if_pos rfl, v3, v4, wdN_f x hx 5 6 (by omega) (by omega), wdN_f y hy 5 6 (by omega) (by omega)]
theorem wd_ls {x : Int64} (hx : CLs x) (d1 : dpn x ≤ 4) : wd (f_ls x) = 1 := by
  obtain ⟨v1, v2, v3, v5⟩ := ls_V (CLs_V hx) d1
  show wdN (5 + 1) (f_ls x) = 1
  rw [wdN_s, v2]
  rfl
theorem wd_01 : wd 0 = 1 ∧ wd 1 = 1 := ⟨rfl, rfl⟩
theorem wd_b : ∀ S, CLs S → 1 ≤ wd S ∧ wd S ≤ 2 ^ (dpn S - 1) := by
  refine CLs_ind ⟨by decide, by decide⟩ ⟨by decide, by decide⟩ (fun x y hx hy d1 d2 ix iy => ?_) (fun x hx d1 ix => ?_)
  · obtain ⟨v1, v2, v3, v4, v5⟩ := pr_V (CLs_V hx) (CLs_V hy) d1 d2
    have rx := dpn_r (CLs_V hx)
    have ry := dpn_r (CLs_V hy)
    rw [wd_pr hx hy d1 d2, v5]
    have a1 : 2 ^ (dpn x - 1) ≤ 2 ^ (max (dpn x) (dpn y) - 1) := Nat.pow_le_pow_right (by decide) (by omega)
    have a2 : 2 ^ (dpn y - 1) ≤ 2 ^ (max (dpn x) (dpn y) - 1) := Nat.pow_le_pow_right (by decide) (by omega)
    have e : 2 ^ (1 + max (dpn x) (dpn y) - 1) = 2 ^ (max (dpn x) (dpn y) - 1) * 2 := by
      rw [show 1 + max (dpn x) (dpn y) - 1 = (max (dpn x) (dpn y) - 1) + 1 by omega, Nat.pow_succ]
    rw [e]
    omega
  · rw [wd_ls hx d1]
    exact ⟨Nat.le_refl _, Nat.one_le_two_pow⟩
theorem wd_8 {S : Int64} (h : CLs S) (hd : dpn S ≤ 4) : 1 ≤ wd S ∧ wd S ≤ 8 := by
  obtain ⟨a, b⟩ := wd_b S h
  have : 2 ^ (dpn S - 1) ≤ 2 ^ 3 := Nat.pow_le_pow_right (by decide) (by omega)
  omega
theorem wd_16 {S : Int64} (h : CLs S) : 1 ≤ wd S ∧ wd S ≤ 16 := by
  obtain ⟨a, b⟩ := wd_b S h
  have := dpn_r (CLs_V h)
  have : 2 ^ (dpn S - 1) ≤ 2 ^ 4 := Nat.pow_le_pow_right (by decide) (by omega)
  omega
theorem lo_s (k : Nat) (t : Int64) : f_lo (k + 1) t = if f_kd t = 2 then 1 else if f_kd t = 3 then 2 else if f_kd t = 4 then f_lo k (f_fs t) ||| f_lo k (f_sc t) else if f_kd t = 5 then f_lo k (f_fs t) else 0 := rfl
theorem lv_s (k : Nat) (t : Int64) : f_lv (k + 1) t = if f_kd t = 4 then f_lv k (f_fs t) + f_lv k (f_sc t) else 1 := rfl
theorem lo_0 : ∀ S, CLs S → ∀ k, f_lo k S = 0 := by
  have z : ∀ t, f_lo 0 t = 0 := fun _ => rfl
  refine CLs_ind (fun k => ?_) (fun k => ?_) (fun x y hx hy d1 d2 ix iy k => ?_) (fun x hx d1 ix k => ?_)
  · cases k <;> rfl
  · cases k <;> rfl
  · cases k with
    | zero => rfl
    | succ k =>
      obtain ⟨v1, v2, v3, v4, v5⟩ := pr_V (CLs_V hx) (CLs_V hy) d1 d2
      rw [lo_s, v2, if_neg (by decide), if_neg (by decide), if_pos rfl, v3, v4, ix k, iy k]
      rfl
  · cases k with
    | zero => rfl
    | succ k =>
      obtain ⟨v1, v2, v3, v5⟩ := ls_V (CLs_V hx) d1
      rw [lo_s, v2, if_neg (by decide), if_neg (by decide), if_neg (by decide), if_pos rfl, v3, ix k]
theorem lv_wd : ∀ S, CLs S → ∀ k, dpn S ≤ k → f_lv k S = nI (wdN k S) := by
  refine CLs_ind (fun k hk => ?_) (fun k hk => ?_) (fun x y hx hy d1 d2 ix iy k hk => ?_) (fun x hx d1 ix k hk => ?_)
  · obtain ⟨a, rfl⟩ : ∃ a, k = a + 1 := ⟨k - 1, by have := dpn_l; omega⟩
    rfl
  · obtain ⟨a, rfl⟩ : ∃ a, k = a + 1 := ⟨k - 1, by have := dpn_l; omega⟩
    rfl
  · obtain ⟨v1, v2, v3, v4, v5⟩ := pr_V (CLs_V hx) (CLs_V hy) d1 d2
    obtain ⟨a, rfl⟩ : ∃ a, k = a + 1 := ⟨k - 1, by omega⟩
    rw [lv_s, wdN_s, v2, if_pos rfl, if_pos rfl, v3, v4, ix a (by omega), iy a (by omega)]
    have wx := wd_16 hx
    have wy := wd_16 hy
    have ex : wdN a x = wd x := wdN_f x hx a 6 (by omega) (by omega)
    have ey : wdN a y = wd y := wdN_f y hy a 6 (by omega) (by omega)
    exact nI_a (by omega)
  · obtain ⟨v1, v2, v3, v5⟩ := ls_V (CLs_V hx) d1
    obtain ⟨a, rfl⟩ : ∃ a, k = a + 1 := ⟨k - 1, by omega⟩
    rw [lv_s, wdN_s, v2]
    rfl
/-- the class's WIDTH of a shape without letters -/
theorem width_wd {S : Int64} (h : CLs S) : f_width S = nI (wd S) := by
  have hV := CLs_V h
  have hd : ¬ (f_dp S).toInt < 1 := fun z => by
    rcases dpn_c hV with ⟨-, q, -⟩ | ⟨-, q, -⟩
    · rcases q with q | q | q | q <;> (rw [q] at z; exact absurd z (by decide))
    · rw [q] at z
      exact absurd z (by decide)
  have r := dpn_r hV
  unfold f_width
  rw [if_neg hd, show f_letters S = f_lo 7 S from rfl, lo_0 S h 7, if_pos rfl]
  show f_lv 7 S = _
  rw [lv_wd S h 7 (by omega), wdN_f S h 7 6 (by omega) (by omega)]
  rfl
theorem kd_cl : ∀ S, CLs S → f_kd S = 0 ∨ f_kd S = 1 ∨ f_kd S = 4 ∨ f_kd S = 5 := by
  refine CLs_ind (.inl kd_l.1) (.inr (.inl kd_l.2.1)) (fun x y hx hy d1 d2 _ _ => .inr (.inr (.inl (pr_V (CLs_V hx) (CLs_V hy) d1 d2).2.1))) (fun x hx d1 _ => .inr (.inr (.inr (ls_V (CLs_V hx) d1).2.1)))
/-- a shape of kind 4, 5 -/
theorem CNS_4 {S : Int64} (h : CNS S) (k : f_kd S = 4) : ∃ x y, CNS x ∧ CNS y ∧ dpn x ≤ 4 ∧ dpn y ≤ 4 ∧ S = f_pr x y := by
  obtain ⟨j, hj⟩ := h
  cases j with
  | zero => exact hj.elim
  | succ j =>
    rcases hj with h | ⟨x, y, hx, hy, d1, d2, e⟩ | ⟨x, hx, d1, rfl⟩
    · exfalso
      rcases S4_c h with rfl | rfl | rfl | rfl <;> exact absurd k (by decide)
    · exact ⟨x, y, ⟨j, hx⟩, ⟨j, hy⟩, d1, d2, e⟩
    · rw [(ls_V (CN_V j x hx) d1).2.1] at k
      exact absurd k (by decide)
theorem CNS_5 {S : Int64} (h : CNS S) (k : f_kd S = 5) : ∃ x, CNS x ∧ dpn x ≤ 4 ∧ S = f_ls x := by
  obtain ⟨j, hj⟩ := h
  cases j with
  | zero => exact hj.elim
  | succ j =>
    rcases hj with h | ⟨x, y, hx, hy, d1, d2, rfl⟩ | ⟨x, hx, d1, e⟩
    · exfalso
      rcases S4_c h with rfl | rfl | rfl | rfl <;> exact absurd k (by decide)
    · rw [(pr_V (CN_V j x hx) (CN_V j y hy) d1 d2).2.1] at k
      exact absurd k (by decide)
    · exact ⟨x, ⟨j, hx⟩, d1, e⟩
