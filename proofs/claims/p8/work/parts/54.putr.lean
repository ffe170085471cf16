/-! ===== put(): what it makes ===== -/
def MKP (TY : Nat) (m n : mm_P) : Prop := ∀ c i, ¬ (177 ≤ c ∧ c ≤ 183 ∧ TY ≤ i) → ¬ (184 ≤ c ∧ c ≤ 187) → ¬ (c = 176 ∧ i = 1) → n c i = m c i
theorem MKP_r {TY : Nat} {m : mm_P} : MKP TY m m := fun _ _ _ _ _ => rfl
theorem MKP_t {TY TZ : Nat} {m n p : mm_P} (h1 : MKP TY m n) (h : TY ≤ TZ) (h2 : MKP TZ n p) : MKP TY m p := fun c i a b e => (h2 c i (fun q => a ⟨q.1, q.2.1, by omega⟩) b e).trans (h1 c i a b e)
theorem MKP_u {TY c i : Nat} {x : Int32} {m n : mm_P} (h : MKP TY m n) (h1 : 184 ≤ c) (h2 : c ≤ 187) : MKP TY m (mm_u n c i x) := fun c' i' a b e => by
  rw [mm_u_e (fun q => b ⟨by omega, by omega⟩)]
  exact h c' i' a b e
theorem MKP_k {TY TZ : Nat} {m n p : mm_P} (h1 : MKP TY m n) (h : TY ≤ TZ) (h2 : MK TZ n p) : MKP TY m p := fun c i a b e => (h2 c i (fun q => a ⟨q.1, q.2.1, by omega⟩) (fun q => b ⟨by omega, by omega⟩) e).trans (h1 c i a b e)
/-- rows of valid types stay -/
theorem MKP_v {NB TY : Nat} {m n : mm_P} (h : MKP TY m n) (h1 : NB ≤ 200) (h2 : 200 ≤ TY) {t : Nat} (ht : vd NB TY t) {c : Nat} (h3 : 177 ≤ c) (h4 : c ≤ 183) : n c t = m c t := h c t (fun q => by unfold vd at ht; omega) (by omega) (by omega)
/-- r is x with fa for A and fb for B -/
def SB (NB TY : Nat) (n : mm_P) (fa fb : Int32) : Nat → Nat → Nat → Prop
  | 0, x, r => (n 181 x + n 182 x = 0 ∧ r = x) ∨ (¬ n 181 x + n 182 x = 0 ∧ n 177 x = 2 ∧ nI r = fa) ∨ (¬ n 181 x + n 182 x = 0 ∧ n 177 x = 3 ∧ nI r = fb)
  | k + 1, x, r => ((n 181 x + n 182 x = 0 ∧ r = x) ∨ (¬ n 181 x + n 182 x = 0 ∧ n 177 x = 2 ∧ nI r = fa) ∨ (¬ n 181 x + n 182 x = 0 ∧ n 177 x = 3 ∧ nI r = fb)) ∨ (¬ n 181 x + n 182 x = 0 ∧ n 177 x = 5 ∧ ∃ a r1, a < x ∧ n 178 x = nI a ∧ vd NB TY r1 ∧ n 177 r = 5 ∧ n 178 r = nI r1 ∧ SB NB TY n fa fb k a r1) ∨ (¬ n 181 x + n 182 x = 0 ∧ n 177 x = 4 ∧ ∃ a b r1 r2, a < x ∧ b < x ∧ n 178 x = nI a ∧ n 179 x = nI b ∧ vd NB TY r1 ∧ vd NB TY r2 ∧ n 177 r = 4 ∧ n 178 r = nI r1 ∧ n 179 r = nI r2 ∧ SB NB TY n fa fb k a r1 ∧ SB NB TY n fa fb k b r2)
theorem vd_le {NB TY TZ t : Nat} (h : vd NB TY t) (hl : TY ≤ TZ) : vd NB TZ t := by
  unfold vd at h ⊢
  omega
theorem SB_c {NB TY TZ : Nat} {m n : mm_P} {fa fb : Int32} (hN : NB ≤ 200) (hT : 200 ≤ TY) (hl : TY ≤ TZ) (h : ∀ t, vd NB TY t → ∀ c, 177 ≤ c → c ≤ 183 → n c t = m c t) : ∀ (k : Nat) {x r : Nat}, x < NB → vd NB TY r → SB NB TY m fa fb k x r → SB NB TZ n fa fb k x r
  | 0, x, r, hx, hr, hs => by
    unfold SB at hs ⊢
    rw [h x (.inl hx) 177 (by decide) (by decide), h x (.inl hx) 181 (by decide) (by decide), h x (.inl hx) 182 (by decide) (by decide)]
    exact hs
  | k + 1, x, r, hx, hr, hs => by
    unfold SB at hs ⊢
    rw [h x (.inl hx) 177 (by decide) (by decide), h x (.inl hx) 178 (by decide) (by decide), h x (.inl hx) 179 (by decide) (by decide), h x (.inl hx) 181 (by decide) (by decide), h x (.inl hx) 182 (by decide) (by decide), h r hr 177 (by decide) (by decide), h r hr 178 (by decide) (by decide), h r hr 179 (by decide) (by decide)]
    rcases hs with q | ⟨q1, q2, a, r1, q3, q4, q5, q6, q7, q8⟩ | ⟨q1, q2, a, b, r1, r2, q3, q4, q5, q6, q7, q8, q9, q10, q11, q12, q13⟩
    · exact .inl q
    · exact .inr (.inl ⟨q1, q2, a, r1, q3, q4, vd_le q5 hl, q6, q7, SB_c hN hT hl h k (by omega) q5 q8⟩)
    · exact .inr (.inr ⟨q1, q2, a, b, r1, r2, q3, q4, q5, q6, vd_le q7 hl, vd_le q8 hl, q9, q10, q11, SB_c hN hT hl h k (by omega) q7 q12, SB_c hN hT hl h k (by omega) q8 q13⟩)
/-- the numbered: depths -/
def DN (NB : Nat) (w : mm_P) : Prop := ∀ t, t < NB → (1 ≤ (w 180 t).toInt ∧ (w 180 t).toInt ≤ 5) ∧ (0 ≤ (w 181 t).toInt ∧ (w 181 t).toInt ≤ 5) ∧ (0 ≤ (w 182 t).toInt ∧ (w 182 t).toInt ≤ 5)
theorem DN_c {NB : Nat} {m n : mm_P} (h : DN NB m) (hr : ∀ t, t < NB → ∀ c, 177 ≤ c → c ≤ 183 → n c t = m c t) : DN NB n := fun t ht => by
  rw [hr t ht 180 (by decide) (by decide), hr t ht 181 (by decide) (by decide), hr t ht 182 (by decide) (by decide)]
  exact h t ht
def PO (NB TY k p q x : Nat) (fa fb : Int32) (w w' : mm_P) (r TZ : Nat) : Prop := TS w' NB TZ ∧ (TY ≤ TZ ∧ TZ + 1 ≤ TY + 2 ^ k) ∧ vd NB TZ r ∧ (vd NB TY r → TZ = TY) ∧ MKP TY w w' ∧ (∀ i, i < p → w' 185 i = w 185 i ∧ w' 186 i = w 186 i) ∧ (∀ i, i < q → w' 187 i = w 187 i) ∧ w' 187 q = nI r ∧ SB NB TZ w' fa fb k x r
theorem bs_45 {m : mm_P} {t : Nat} (h : bs m t) : ¬ m 177 t = 4 ∧ ¬ m 177 t = 5 := by
  rcases h.1 with ⟨s, -⟩ | ⟨s, -⟩ | ⟨s, -⟩ | ⟨s, -⟩ <;> (rw [s]; exact ⟨by decide, by decide⟩)
theorem f_under_0 {y : Int32} (h0 : 0 ≤ y.toInt) (h1 : y.toInt ≤ 5) (h : ¬ y = 0) : ¬ f_under y = 0 := fun q => by
  unfold f_under at q
  rw [if_neg h] at q
  have := congrArg Int32.toInt q
  rw [mm_add1 (by omega), mm_tt0] at this
  omega
theorem f_most_0 {x y : Int32} (hx : 0 ≤ x.toInt) (hy : 0 ≤ y.toInt) (h : ¬ x = 0 ∨ ¬ y = 0) : ¬ f_most x y = 0 := fun q => by
  unfold f_most at q
  split at q
  · rename_i c
    rw [q, Int32.le_iff_toInt_le, mm_tt0] at c
    rcases h with h | h
    · exact h (Int32.toInt_inj.mp (by rw [mm_tt0]; omega))
    · exact h q
  · rename_i c
    rw [q, Int32.le_iff_toInt_le, mm_tt0] at c
    omega
theorem f_most_r {x y : Int32} {lo hi : Int} (hx : lo ≤ x.toInt ∧ x.toInt ≤ hi) (hy : lo ≤ y.toInt ∧ y.toInt ≤ hi) : (lo ≤ (f_most x y).toInt ∧ (f_most x y).toInt ≤ hi) ∧ x.toInt ≤ (f_most x y).toInt ∧ y.toInt ≤ (f_most x y).toInt := by
  unfold f_most
  split
  · rename_i c
    rw [Int32.le_iff_toInt_le] at c
    omega
  · rename_i c
    rw [Int32.le_iff_toInt_le] at c
    omega
theorem mm_1p {y : Int32} (h0 : 0 ≤ y.toInt) (h1 : y.toInt ≤ 100000) : (1 + y).toInt = 1 + y.toInt := by
  rw [mm_addI] <;> rw [mm_tt1] <;> omega
theorem nI_inj {a b : Nat} (ha : a < 2 ^ 31) (hb : b < 2 ^ 31) (h : nI a = nI b) : a = b := by
  have := congrArg Int32.toInt h
  rw [mm_tI ha, mm_tI hb] at this
  omega
/-- a part of a valid type that is older is older itself -/
theorem vd_part {NB TY TZ r a : Nat} (h : vd NB TY r) (ha : vd NB TZ a) (hl : a < r) : vd NB TY a := by
  unfold vd at h ha ⊢
  omega
section MMT
variable {L : Nat} {xs : Nat → Int32} {d : Nat} {Q : mm_QQ} {ml : mm_G} {lim : Nat × Nat} {x1 fa fb : Int32} {NB : Nat}
/-- a type not yet taken apart: closed, a letter, or its parts go onto the row -/
theorem put_down {k x p q TY : Nat} {w : mm_P} {x6 : Option mm_V} (hT : TS w NB TY) (hx : x < NB) (hfa : ¬ w 181 x = 0 → ∃ r, vd NB TY r ∧ fa = nI r) (hfb : ¬ w 182 x = 0 → ∃ r, vd NB TY r ∧ fb = nI r) (hp : p < 61) (hq : q < 63) (h185 : w 185 p = nI x) (h186 : w 186 p = 0)
    (hH : ∀ w' r TZ x6', PO NB TY k p q x fa fb w w' r TZ → mm_WQ (mm_call mm_ms (mm_tb L xs) (d + 4)) (mm_tb L xs) mm_m181 lim Q 20 [some (mm_R 176), some (mm_I x1), some (mm_I fa), some (mm_I fb), some (mm_I (nI p)), some (mm_I (nI (q + 1))), x6'] [] w' ml)
    (h5 : ∀ a, a < x → en5 w w x a → ¬ w 181 x + w 182 x = 0 → ∀ x6', mm_WQ (mm_call mm_ms (mm_tb L xs) (d + 4)) (mm_tb L xs) mm_m181 lim Q 20 [some (mm_R 176), some (mm_I x1), some (mm_I fa), some (mm_I fb), some (mm_I (nI (p + 2))), some (mm_I (nI q)), x6'] [] (mm_u (mm_u (mm_u w 186 p 1) 185 (p + 1) (nI a)) 186 (p + 1) 0) ml)
    (h4 : ∀ a b, a < x → b < x → en4 w w x a b → ¬ w 181 x + w 182 x = 0 → ∀ x6', mm_WQ (mm_call mm_ms (mm_tb L xs) (d + 4)) (mm_tb L xs) mm_m181 lim Q 20 [some (mm_R 176), some (mm_I x1), some (mm_I fa), some (mm_I fb), some (mm_I (nI (p + 3))), some (mm_I (nI q)), x6'] [] (mm_u (mm_u (mm_u (mm_u (mm_u w 186 p 1) 185 (p + 1) (nI a)) 186 (p + 1) 0) 185 (p + 2) (nI b)) 186 (p + 2) 0) ml) :
    mm_WQ (mm_call mm_ms (mm_tb L xs) (d + 4)) (mm_tb L xs) mm_m181 lim Q 20 [some (mm_R 176), some (mm_I x1), some (mm_I fa), some (mm_I fb), some (mm_I (nI (p + 1))), some (mm_I (nI q)), x6] [] w ml := by
  obtain ⟨a1, a2, a3, a4, a5, a6, a7⟩ := id hT
  have h2k : 1 ≤ 2 ^ k := Nat.one_le_two_pow
  have hleaf : ∀ r : Nat, vd NB TY r → SB NB TY (mm_u w 187 q (nI r)) fa fb 0 x r → ∀ x6', mm_WQ (mm_call mm_ms (mm_tb L xs) (d + 4)) (mm_tb L xs) mm_m181 lim Q 20 [some (mm_R 176), some (mm_I x1), some (mm_I fa), some (mm_I fb), some (mm_I (nI p)), some (mm_I (nI (q + 1))), x6'] [] (mm_u w 187 q (nI r)) ml := fun r hr hs x6' => hH _ r TY x6' ⟨TS_c hT (mm_u_e (by decide)) (mm_u_e (by decide)) (fun c i _ _ => mm_u_e (by omega)), ⟨Nat.le_refl _, by omega⟩, hr, fun _ => rfl, MKP_u MKP_r (by decide) (by decide), fun i hi => ⟨mm_u_e (by decide), mm_u_e (by decide)⟩, fun i hi => mm_u_f (by omega), mm_u_s, by
    cases k with
    | zero => exact hs
    | succ k => exact .inl hs⟩
  have hu : ∀ (c : Nat) (r : Nat), 177 ≤ c → c ≤ 183 → mm_u w 187 q (nI r) c x = w c x := fun c r _ _ => mm_u_e (by omega)
  have hw := a7 x (.inl hx)
  have hno : ∀ {P : Prop}, bs w x → ¬ w 181 x + w 182 x = 0 → ¬ w 177 x = 2 → ¬ w 177 x = 3 → P := fun hb c0 c2 c3 => by
    exfalso
    rcases hb.1 with ⟨s1, s2, s3, -⟩ | ⟨s1, s2, s3, -⟩ | ⟨s1, s2, s3, -⟩ | ⟨s1, s2, s3, -⟩
    · exact c0 (by rw [s2, s3]; decide)
    · exact c0 (by rw [s2, s3]; decide)
    · exact c2 s1
    · exact c3 s1
  refine put20 hp hq h185 (by omega) (fun c0 => hleaf x (.inl hx) ?_ _) (fun c0 c23 => ?_) (fun c0 c2 c3 _ c4 => ?_) (fun c0 c2 c3 _ c4 => ?_) (fun _ _ _ c _ => absurd h186 c) (fun _ _ _ c _ => absurd h186 c)
  · unfold SB
    rw [hu 181 x (by decide) (by decide), hu 182 x (by decide) (by decide)]
    exact .inl ⟨c0, rfl⟩
  · have hb : bs w x := by
      rcases hw with b | ⟨a, -, -, h⟩ | ⟨a, b, -, -, -, -, h⟩
      · exact b
      · rw [h.1] at c23
        exact absurd c23 (by decide)
      · rw [h.1] at c23
        exact absurd c23 (by decide)
    rcases hb.1 with ⟨s1, s2, s3, -⟩ | ⟨s1, s2, s3, -⟩ | ⟨s1, s2, s3, -⟩ | ⟨s1, s2, s3, -⟩
    · exact absurd (by rw [s2, s3]; decide) c0
    · exact absurd (by rw [s2, s3]; decide) c0
    · obtain ⟨r, hr, e⟩ := hfa (by rw [s2]; decide)
      rw [if_pos s1]
      have := hleaf r hr (by
        unfold SB
        rw [hu 177 r (by decide) (by decide), hu 181 r (by decide) (by decide), hu 182 r (by decide) (by decide)]
        exact .inr (.inl ⟨c0, s1, e.symm⟩)) (some (mm_I (nI x)))
      rw [← e] at this
      exact this
    · obtain ⟨r, hr, e⟩ := hfb (by rw [s3]; decide)
      rw [if_neg (by rw [s1]; decide)]
      have := hleaf r hr (by
        unfold SB
        rw [hu 177 r (by decide) (by decide), hu 181 r (by decide) (by decide), hu 182 r (by decide) (by decide)]
        exact .inr (.inr ⟨c0, s1, e.symm⟩)) (some (mm_I (nI x)))
      rw [← e] at this
      exact this
  · rcases hw with b | ⟨a, -, h2, h⟩ | ⟨a, b, -, -, -, -, h⟩
    · exact hno b c0 c2 c3
    · rw [h.2.1]
      exact h5 a h2 h c0 _
    · exact absurd h.1 c4
  · rcases hw with b | ⟨a, -, -, h⟩ | ⟨a, b, -, h2, -, h3, h⟩
    · exact hno b c0 c2 c3
    · rw [h.1] at c4
      exact absurd c4 (by decide)
    · rw [h.2.1, h.2.2.1]
      exact h4 a b h2 h3 h c0 _
theorem put_run : ∀ (k : Nat) {x p q TY : Nat} {w : mm_P} {x6 : Option mm_V}, TS w NB TY → DN NB w → x < NB → (w 180 x).toInt ≤ k + 1 → (¬ w 181 x = 0 → ∃ r, vd NB TY r ∧ fa = nI r) → (¬ w 182 x = 0 → ∃ r, vd NB TY r ∧ fb = nI r) → p + 2 * k ≤ 58 → q + k ≤ 60 → TY + 2 ^ k ≤ 8001 → w 185 p = nI x → w 186 p = 0 → (∀ w' r TZ x6', PO NB TY k p q x fa fb w w' r TZ → mm_WQ (mm_call mm_ms (mm_tb L xs) (d + 4)) (mm_tb L xs) mm_m181 lim Q 20 [some (mm_R 176), some (mm_I x1), some (mm_I fa), some (mm_I fb), some (mm_I (nI p)), some (mm_I (nI (q + 1))), x6'] [] w' ml) → mm_WQ (mm_call mm_ms (mm_tb L xs) (d + 4)) (mm_tb L xs) mm_m181 lim Q 20 [some (mm_R 176), some (mm_I x1), some (mm_I fa), some (mm_I fb), some (mm_I (nI (p + 1))), some (mm_I (nI q)), x6] [] w ml := by
  intro k
  induction k with
  | zero =>
    intro x p q TY w x6 hT hD hx hd hfa hfb hp hq hb h185 h186 hH
    refine put_down (k := 0) hT hx hfa hfb (by omega) (by omega) h185 h186 hH (fun a ha he _ _ => ?_) (fun a b ha hb' he _ _ => ?_)
    · exfalso
      have := (hD a (by omega)).1
      rw [he.2.2.2.1, mm_1p (by omega) (by omega)] at hd
      omega
    · exfalso
      obtain ⟨⟨m1, m2⟩, m3, m4⟩ := f_most_r (hD a (by omega)).1 (hD b (by omega)).1
      rw [he.2.2.2.1, mm_1p (by omega) (by omega)] at hd
      omega
  | succ k ih =>
    intro x p q TY w x6 hT hD hx hd hfa hfb hp hq hb h185 h186 hH
    obtain ⟨a1, a2, a3, a4, a5, a6, a7⟩ := id hT
    have e2k : 2 ^ (k + 1) = 2 * 2 ^ k := by rw [Nat.pow_succ]; omega
    have h2k : 1 ≤ 2 ^ k := Nat.one_le_two_pow
    refine put_down (k := k + 1) hT hx hfa hfb (by omega) (by omega) h185 h186 hH (fun a ha he c0 x6a => ?_) (fun a b ha hb' he c0 x6a => ?_)
    · -- a LIST
      have da := hD a (by omega)
      have hda : (w 180 a).toInt ≤ k + 1 := by
        rw [he.2.2.2.1, mm_1p (by omega) (by omega)] at hd
        omega
      have hka : ∀ c, 177 ≤ c → c ≤ 184 → ∀ i, (mm_u (mm_u (mm_u w 186 p 1) 185 (p + 1) (nI a)) 186 (p + 1) 0) c i = w c i := fun c h1 h2 i => by
        rw [mm_u_e (by omega), mm_u_e (by omega), mm_u_e (by omega)]
      have hT1 : TS (mm_u (mm_u (mm_u w 186 p 1) 185 (p + 1) (nI a)) 186 (p + 1) 0) NB TY := TS_c hT (by rw [mm_u_e (by decide), mm_u_e (by decide), mm_u_e (by decide)]) (by rw [mm_u_e (by decide), mm_u_e (by decide), mm_u_e (by decide)]) (fun c i h1 h2 => hka c h1 h2 i)
      have hD1 := DN_c hD (n := (mm_u (mm_u (mm_u w 186 p 1) 185 (p + 1) (nI a)) 186 (p + 1) 0)) (fun t _ c h1 h2 => hka c h1 (by omega) t)
      refine ih (x := a) (p := p + 1) (q := q) hT1 hD1 (by omega) (by rw [hka 180 (by decide) (by decide)]; exact hda) (fun z => hfa ?_) (fun z => hfb ?_) (by omega) (by omega) (by omega) ?_ mm_u_s (fun w' r TZ x6' po => ?_)
      · rw [hka 181 (by decide) (by decide)] at z
        rw [he.2.2.2.2.1]
        exact f_under_0 da.2.1.1 da.2.1.2 z
      · rw [hka 182 (by decide) (by decide)] at z
        rw [he.2.2.2.2.2.1]
        exact f_under_0 da.2.2.1 da.2.2.2 z
      · rw [mm_u_e (by decide), mm_u_s]
      · obtain ⟨po1, ⟨po2, po3⟩, po4, po5, po6, po7, po8, po9, po10⟩ := po
        have hv : ∀ t, vd NB TY t → ∀ c, 177 ≤ c → c ≤ 183 → w' c t = w c t := fun t ht c h1 h2 => (MKP_v po6 a1.2 a2.1 ht h1 h2).trans (hka c h1 (by omega) t)
        have hx' := hv x (.inl hx)
        obtain ⟨b1, b2⟩ := po7 p (by omega)
        have b3 : w' 185 p = nI x := by rw [b1, mm_u_e (by decide), mm_u_f (by omega), mm_u_e (by decide)]; exact h185
        have b4 : w' 186 p = 1 := by rw [b2, mm_u_f (by omega), mm_u_e (by decide), mm_u_s]
        have s5 : w' 177 x = 5 := (hx' 177 (by decide) (by decide)).trans he.1
        have hcl' : ¬ w' 181 x + w' 182 x = 0 := by rw [hx' 181 (by decide) (by decide), hx' 182 (by decide) (by decide)]; exact c0
        refine put20 (by omega) (by omega) b3 (by omega) (fun z => absurd z hcl') (fun _ z => by rw [s5] at z; exact absurd z (by decide)) (fun _ _ _ z _ => by rw [b4] at z; exact absurd z (by decide)) (fun _ _ _ z _ => by rw [b4] at z; exact absurd z (by decide)) (fun _ _ _ _ _ => ⟨q, rfl, ?_⟩) (fun _ _ _ _ z => absurd s5 z)
        rw [po9]
        refine sp_made5 po1 (by omega) po4 (fun n t TW n1 n2 n3 n4 n5 n6 n7 n8 => ⟨nI t, rfl, hH _ t TW _ ⟨TS_c n1 (mm_u_e (by decide)) (mm_u_e (by decide)) (fun c i _ _ => mm_u_e (by omega)), ⟨by omega, by omega⟩, n6, fun hvt => ?_, ?_, fun i hi => ?_, fun i hi => ?_, mm_u_s, ?_⟩⟩)
        · have hr : vd NB TY r := by
            rcases n1.2.2.2.2.2.2 t n6 with z | ⟨a', y1, y2, y3⟩ | ⟨a', b', y1, y2, y3, y4, y5⟩
            · exact absurd n7 (bs_45 z).2
            · have e := y3.2.1
              rw [n8] at e
              have := nI_inj (by have := vd_lt po4 a1.2 po1.2.1.2; omega) (by have := vd_lt y1 a1.2 n1.2.1.2; omega) e
              subst this
              exact vd_part hvt y1 y2
            · have := y5.1
              rw [n7] at this
              exact absurd this (by decide)
          have e1 := po5 hr
          have e2 := (n5 (vd_le hvt (by omega))).2
          omega
        · exact MKP_u (MKP_k (MKP_t (MKP_u (MKP_u (MKP_u MKP_r (by decide) (by decide)) (by decide) (by decide)) (by decide) (by decide)) (Nat.le_refl _) po6) po2 n2) (by decide) (by decide)
        · obtain ⟨i1, i2⟩ := po7 i (by omega)
          rw [mm_u_e (by decide), mm_u_e (by decide), n2 185 i (by omega) (by decide) (by omega), n2 186 i (by omega) (by decide) (by omega), i1, i2]
          constructor
          · rw [mm_u_e (by decide), mm_u_f (by omega), mm_u_e (by decide)]
          · rw [mm_u_f (by omega), mm_u_e (by decide), mm_u_f (by omega)]
        · rw [mm_u_f (by omega), n2 187 i (by omega) (by decide) (by omega), po8 i hi, mm_u_e (by decide), mm_u_e (by decide), mm_u_e (by decide)]
        · have hn : ∀ s, vd NB TZ s → ∀ c, 177 ≤ c → c ≤ 183 → mm_u n 187 q (nI t) c s = w' c s := fun s hs c h1 h2 => by
            rw [mm_u_e (by omega)]
            exact n2 c s (fun z => by unfold vd at hs; omega) (by omega) (by omega)
          have hxn : ∀ c, 177 ≤ c → c ≤ 183 → mm_u n 187 q (nI t) c x = w c x := fun c h1 h2 => (hn x (.inl hx) c h1 h2).trans (hx' c h1 h2)
          unfold SB
          refine .inr (.inl ⟨?_, ?_, a, r, ha, ?_, vd_le po4 n3, ?_, ?_, SB_c a1.2 (by omega) n3 hn k (by omega) po4 po10⟩)
          · rw [hxn 181 (by decide) (by decide), hxn 182 (by decide) (by decide)]
            exact c0
          · rw [hxn 177 (by decide) (by decide)]
            exact he.1
          · rw [hxn 178 (by decide) (by decide)]
            exact he.2.1
          · rw [mm_u_e (by decide)]
            exact n7
          · rw [mm_u_e (by decide)]
            exact n8
    · -- a PAIR
      have da := hD a (by omega)
      have db := hD b (by omega)
      obtain ⟨⟨m1, m2⟩, m3, m4⟩ := f_most_r da.1 db.1
      have hdd : (w 180 a).toInt ≤ k + 1 ∧ (w 180 b).toInt ≤ k + 1 := by
        rw [he.2.2.2.1, mm_1p (by omega) (by omega)] at hd
        omega
      have hka : ∀ c, 177 ≤ c → c ≤ 184 → ∀ i, (mm_u (mm_u (mm_u (mm_u (mm_u w 186 p 1) 185 (p + 1) (nI a)) 186 (p + 1) 0) 185 (p + 2) (nI b)) 186 (p + 2) 0) c i = w c i := fun c h1 h2 i => by
        rw [mm_u_e (by omega), mm_u_e (by omega), mm_u_e (by omega), mm_u_e (by omega), mm_u_e (by omega)]
      have hT1 : TS (mm_u (mm_u (mm_u (mm_u (mm_u w 186 p 1) 185 (p + 1) (nI a)) 186 (p + 1) 0) 185 (p + 2) (nI b)) 186 (p + 2) 0) NB TY := TS_c hT (by rw [mm_u_e (by decide), mm_u_e (by decide), mm_u_e (by decide), mm_u_e (by decide), mm_u_e (by decide)]) (by rw [mm_u_e (by decide), mm_u_e (by decide), mm_u_e (by decide), mm_u_e (by decide), mm_u_e (by decide)]) (fun c i h1 h2 => hka c h1 h2 i)
      have hD1 := DN_c hD (n := (mm_u (mm_u (mm_u (mm_u (mm_u w 186 p 1) 185 (p + 1) (nI a)) 186 (p + 1) 0) 185 (p + 2) (nI b)) 186 (p + 2) 0)) (fun t _ c h1 h2 => hka c h1 (by omega) t)
      have hA : ¬ w 181 a = 0 ∨ ¬ w 181 b = 0 → ¬ w 181 x = 0 := fun z => by
        rw [he.2.2.2.2.1]
        obtain ⟨⟨g1, g2⟩, -⟩ := f_most_r da.2.1 db.2.1
        exact f_under_0 g1 g2 (f_most_0 da.2.1.1 db.2.1.1 z)
      have hB : ¬ w 182 a = 0 ∨ ¬ w 182 b = 0 → ¬ w 182 x = 0 := fun z => by
        rw [he.2.2.2.2.2.1]
        obtain ⟨⟨g1, g2⟩, -⟩ := f_most_r da.2.2 db.2.2
        exact f_under_0 g1 g2 (f_most_0 da.2.2.1 db.2.2.1 z)
      refine ih (x := b) (p := p + 2) (q := q) hT1 hD1 (by omega) (by rw [hka 180 (by decide) (by decide)]; exact hdd.2) (fun z => hfa (hA (.inr ?_))) (fun z => hfb (hB (.inr ?_))) (by omega) (by omega) (by omega) (by rw [mm_u_e (by decide), mm_u_s]) mm_u_s (fun w2 r2 T2 x6b po => ?_)
      · rw [hka 181 (by decide) (by decide)] at z
        exact z
      · rw [hka 182 (by decide) (by decide)] at z
        exact z
      obtain ⟨po1, ⟨po2, po3⟩, po4, po5, po6, po7, po8, po9, po10⟩ := po
      have hv2 : ∀ t, vd NB TY t → ∀ c, 177 ≤ c → c ≤ 183 → w2 c t = w c t := fun t ht c h1 h2 => (MKP_v po6 a1.2 a2.1 ht h1 h2).trans (hka c h1 (by omega) t)
      obtain ⟨b1, b2⟩ := po7 (p + 1) (by omega)
      obtain ⟨b3, b4⟩ := po7 p (by omega)
      have hD2 := DN_c hD (n := w2) (fun t ht c h1 h2 => hv2 t (.inl ht) c h1 h2)
      refine ih (x := a) (p := p + 1) (q := q + 1) po1 hD2 (by omega) (by rw [hv2 a (.inl (by omega)) 180 (by decide) (by decide)]; exact hdd.1) (fun z => ?_) (fun z => ?_) (by omega) (by omega) (by omega) (by rw [b1, mm_u_e (by decide), mm_u_f (by omega), mm_u_e (by decide), mm_u_s]) (by rw [b2, mm_u_f (by omega), mm_u_e (by decide), mm_u_s]) (fun w3 r1 T3 x6c po' => ?_)
      · rw [hv2 a (.inl (by omega)) 181 (by decide) (by decide)] at z
        obtain ⟨r, hr, e⟩ := hfa (hA (.inl z))
        exact ⟨r, vd_le hr po2, e⟩
      · rw [hv2 a (.inl (by omega)) 182 (by decide) (by decide)] at z
        obtain ⟨r, hr, e⟩ := hfb (hB (.inl z))
        exact ⟨r, vd_le hr po2, e⟩
      obtain ⟨pp1, ⟨pp2, pp3⟩, pp4, pp5, pp6, pp7, pp8, pp9, pp10⟩ := po'
      have hv3 : ∀ t, vd NB T2 t → ∀ c, 177 ≤ c → c ≤ 183 → w3 c t = w2 c t := fun t ht c h1 h2 => MKP_v pp6 a1.2 (by omega) ht h1 h2
      have hx' : ∀ c, 177 ≤ c → c ≤ 183 → w3 c x = w c x := fun c h1 h2 => (hv3 x (.inl hx) c h1 h2).trans (hv2 x (.inl hx) c h1 h2)
      obtain ⟨b5, b6⟩ := pp7 p (by omega)
      have c3 : w3 185 p = nI x := by rw [b5, b3, mm_u_e (by decide), mm_u_f (by omega), mm_u_e (by decide), mm_u_f (by omega), mm_u_e (by decide)]; exact h185
      have c4 : w3 186 p = 1 := by rw [b6, b4, mm_u_f (by omega), mm_u_e (by decide), mm_u_f (by omega), mm_u_e (by decide), mm_u_s]
      have s4 : w3 177 x = 4 := (hx' 177 (by decide) (by decide)).trans he.1
      have hcl' : ¬ w3 181 x + w3 182 x = 0 := by rw [hx' 181 (by decide) (by decide), hx' 182 (by decide) (by decide)]; exact c0
      have e187 : w3 187 q = nI r2 := (pp8 q (by omega)).trans po9
      refine put20 (q := q + 2) (by omega) (by omega) c3 (by omega) (fun z => absurd z hcl') (fun _ z => by rw [s4] at z; exact absurd z (by decide)) (fun _ _ _ z _ => by rw [c4] at z; exact absurd z (by decide)) (fun _ _ _ z _ => by rw [c4] at z; exact absurd z (by decide)) (fun _ _ _ _ z => by rw [s4] at z; exact absurd z (by decide)) (fun _ _ _ _ _ => ⟨q, rfl, ?_⟩)
      rw [pp9, e187]
      refine sp_made4 pp1 (by omega) pp4 (vd_le po4 pp2) (fun n t TW n1 n2 n3 n4 n5 n6 n7 n8 n9 => ⟨nI t, rfl, hH _ t TW _ ⟨TS_c n1 (mm_u_e (by decide)) (mm_u_e (by decide)) (fun c i _ _ => mm_u_e (by omega)), ⟨by omega, by omega⟩, n6, fun hvt => ?_, ?_, fun i hi => ?_, fun i hi => ?_, mm_u_s, ?_⟩⟩)
      · have hr : vd NB TY r1 ∧ vd NB TY r2 := by
          rcases n1.2.2.2.2.2.2 t n6 with z | ⟨a', y1, y2, y3⟩ | ⟨a', b', y1, y2, y3, y4, y5⟩
          · exact absurd n7 (bs_45 z).1
          · have := y3.1
            rw [n7] at this
            exact absurd this (by decide)
          · have e := y5.2.1
            rw [n8] at e
            have f1 := nI_inj (by have := vd_lt pp4 a1.2 pp1.2.1.2; omega) (by have := vd_lt y1 a1.2 n1.2.1.2; omega) e
            have e' := y5.2.2.1
            rw [n9] at e'
            have f2 := nI_inj (by have := vd_lt po4 a1.2 po1.2.1.2; omega) (by have := vd_lt y3 a1.2 n1.2.1.2; omega) e'
            subst f1 f2
            exact ⟨vd_part hvt y1 y2, vd_part hvt y3 y4⟩
        have e1 := po5 hr.2
        have e2 := pp5 (vd_le hr.1 po2)
        have e3 := (n5 (vd_le hvt (by omega))).2
        omega
      · exact MKP_u (MKP_k (MKP_t (MKP_t (MKP_u (MKP_u (MKP_u (MKP_u (MKP_u MKP_r (by decide) (by decide)) (by decide) (by decide)) (by decide) (by decide)) (by decide) (by decide)) (by decide) (by decide)) (Nat.le_refl _) po6) po2 pp6) (by omega) n2) (by decide) (by decide)
      · obtain ⟨i1, i2⟩ := pp7 i (by omega)
        obtain ⟨i3, i4⟩ := po7 i (by omega)
        rw [mm_u_e (by decide), mm_u_e (by decide), n2 185 i (by omega) (by decide) (by omega), n2 186 i (by omega) (by decide) (by omega), i1, i2, i3, i4]
        constructor
        · rw [mm_u_e (by decide), mm_u_f (by omega), mm_u_e (by decide), mm_u_f (by omega), mm_u_e (by decide)]
        · rw [mm_u_f (by omega), mm_u_e (by decide), mm_u_f (by omega), mm_u_e (by decide), mm_u_f (by omega)]
      · rw [mm_u_f (by omega), n2 187 i (by omega) (by decide) (by omega), pp8 i (by omega), po8 i hi, mm_u_e (by decide), mm_u_e (by decide), mm_u_e (by decide), mm_u_e (by decide), mm_u_e (by decide)]
      · have hn : ∀ s, vd NB T3 s → ∀ c, 177 ≤ c → c ≤ 183 → mm_u n 187 q (nI t) c s = w3 c s := fun s hs c h1 h2 => by
          rw [mm_u_e (by omega)]
          exact n2 c s (fun z => by unfold vd at hs; omega) (by omega) (by omega)
        have hn2 : ∀ s, vd NB T2 s → ∀ c, 177 ≤ c → c ≤ 183 → mm_u n 187 q (nI t) c s = w2 c s := fun s hs c h1 h2 => (hn s (vd_le hs pp2) c h1 h2).trans (hv3 s hs c h1 h2)
        have hxn : ∀ c, 177 ≤ c → c ≤ 183 → mm_u n 187 q (nI t) c x = w c x := fun c h1 h2 => (hn x (.inl hx) c h1 h2).trans (hx' c h1 h2)
        unfold SB
        refine .inr (.inr ⟨?_, ?_, a, b, r1, r2, ha, hb', ?_, ?_, vd_le pp4 n3, vd_le po4 (by omega), ?_, ?_, ?_, SB_c a1.2 (by omega) n3 hn k (by omega) pp4 pp10, SB_c a1.2 (by omega) (by omega) hn2 k (by omega) po4 po10⟩)
        · rw [hxn 181 (by decide) (by decide), hxn 182 (by decide) (by decide)]
          exact c0
        · rw [hxn 177 (by decide) (by decide)]
          exact he.1
        · rw [hxn 178 (by decide) (by decide)]
          exact he.2.1
        · rw [hxn 179 (by decide) (by decide)]
          exact he.2.2.1
        · rw [mm_u_e (by decide)]
          exact n7
        · rw [mm_u_e (by decide)]
          exact n8
        · rw [mm_u_e (by decide)]
          exact n9
end MMT
