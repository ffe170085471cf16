/-! ===== put(): each type once ===== -/
def POx (NB TY k p q x : Nat) (fa fb : Int32) (w w' : mm_P) (r TZ : Nat) : Prop := TX w' NB TZ ∧ (TY ≤ TZ ∧ TZ + 1 ≤ TY + 2 ^ k) ∧ vd NB TZ r ∧ (vd NB TY r → TZ = TY) ∧ MKP TY w w' ∧ (∀ i, i < p → w' 185 i = w 185 i ∧ w' 186 i = w 186 i) ∧ (∀ i, i < q → w' 187 i = w 187 i) ∧ w' 187 q = nI r ∧ SB NB TZ w' fa fb k x r
section MMT
variable {L : Nat} {xs : Nat → Int32} {d : Nat} {Q : mm_QQ} {ml : mm_G} {lim : Nat × Nat} {x1 fa fb : Int32} {NB : Nat}
/-- a type not yet taken apart: closed, a letter, or its parts go onto the row -/
theorem put_downx {k x p q TY : Nat} {w : mm_P} {x6 : Option mm_V} (hT : TX w NB TY) (hx : x < NB) (hfa : ¬ w 181 x = 0 → ∃ r, vd NB TY r ∧ fa = nI r) (hfb : ¬ w 182 x = 0 → ∃ r, vd NB TY r ∧ fb = nI r) (hp : p < 61) (hq : q < 63) (h185 : w 185 p = nI x) (h186 : w 186 p = 0)
    (hH : ∀ w' r TZ x6', POx NB TY k p q x fa fb w w' r TZ → mm_WQ (mm_call mm_ms (mm_tb L xs) (d + 4)) (mm_tb L xs) mm_m181 lim Q 20 [some (mm_R 176), some (mm_I x1), some (mm_I fa), some (mm_I fb), some (mm_I (nI p)), some (mm_I (nI (q + 1))), x6'] [] w' ml)
    (h5 : ∀ a, a < x → en5 w w x a → ¬ w 181 x + w 182 x = 0 → ∀ x6', mm_WQ (mm_call mm_ms (mm_tb L xs) (d + 4)) (mm_tb L xs) mm_m181 lim Q 20 [some (mm_R 176), some (mm_I x1), some (mm_I fa), some (mm_I fb), some (mm_I (nI (p + 2))), some (mm_I (nI q)), x6'] [] (mm_u (mm_u (mm_u w 186 p 1) 185 (p + 1) (nI a)) 186 (p + 1) 0) ml)
    (h4 : ∀ a b, a < x → b < x → en4 w w x a b → ¬ w 181 x + w 182 x = 0 → ∀ x6', mm_WQ (mm_call mm_ms (mm_tb L xs) (d + 4)) (mm_tb L xs) mm_m181 lim Q 20 [some (mm_R 176), some (mm_I x1), some (mm_I fa), some (mm_I fb), some (mm_I (nI (p + 3))), some (mm_I (nI q)), x6'] [] (mm_u (mm_u (mm_u (mm_u (mm_u w 186 p 1) 185 (p + 1) (nI a)) 186 (p + 1) 0) 185 (p + 2) (nI b)) 186 (p + 2) 0) ml) :
    mm_WQ (mm_call mm_ms (mm_tb L xs) (d + 4)) (mm_tb L xs) mm_m181 lim Q 20 [some (mm_R 176), some (mm_I x1), some (mm_I fa), some (mm_I fb), some (mm_I (nI (p + 1))), some (mm_I (nI q)), x6] [] w ml := by
  obtain ⟨a1, a2, a3, a4, a5, a6, a7⟩ := id hT.1
  have h2k : 1 ≤ 2 ^ k := Nat.one_le_two_pow
  have hleaf : ∀ r : Nat, vd NB TY r → SB NB TY (mm_u w 187 q (nI r)) fa fb 0 x r → ∀ x6', mm_WQ (mm_call mm_ms (mm_tb L xs) (d + 4)) (mm_tb L xs) mm_m181 lim Q 20 [some (mm_R 176), some (mm_I x1), some (mm_I fa), some (mm_I fb), some (mm_I (nI p)), some (mm_I (nI (q + 1))), x6'] [] (mm_u w 187 q (nI r)) ml := fun r hr hs x6' => hH _ r TY x6' ⟨TX_c hT (mm_u_e (by decide)) (mm_u_e (by decide)) (fun c i _ _ => mm_u_e (by omega)), ⟨Nat.le_refl _, by omega⟩, hr, fun _ => rfl, MKP_u MKP_r (by decide) (by decide), fun i hi => ⟨mm_u_e (by decide), mm_u_e (by decide)⟩, fun i hi => mm_u_f (by omega), mm_u_s, by
    cases k with
    | zero => exact hs
    | succ k => exact .inl hs⟩
  have hu : ∀ (c : Nat) (r : Nat), 177 ≤ c → c ≤ 183 → mm_u w 187 q (nI r) c x = w c x := fun c r _ _ => mm_u_e (by omega)
  have hw := a7 x (.inl hx)
  have hno : ∀ {P : Prop}, bs w x → ¬ w 181 x + w 182 x = 0 → ¬ w 177 x = 2 → ¬ w 177 x = 3 → P := fun hb c0 c2 c3 => by
    exfalso
    rcases hb.1 with ⟨s1, s2, s3, -⟩ | ⟨s1, s2, s3, -⟩ | ⟨s1, s2, s3, -⟩ | ⟨s1, s2, s3, -⟩
    · exact c0 (by rw [s2, s3]; decide)
    · exact c0 (by rw [s2, s3]; decide)
    · exact c2 s1
    · exact c3 s1
  refine put20 hp hq h185 (by omega) (fun c0 => hleaf x (.inl hx) ?_ _) (fun c0 c23 => ?_) (fun c0 c2 c3 _ c4 => ?_) (fun c0 c2 c3 _ c4 => ?_) (fun _ _ _ c _ => absurd h186 c) (fun _ _ _ c _ => absurd h186 c)
  · unfold SB
    rw [hu 181 x (by decide) (by decide), hu 182 x (by decide) (by decide)]
    exact .inl ⟨c0, rfl⟩
  · have hb : bs w x := by
      rcases hw with b | ⟨a, -, -, h⟩ | ⟨a, b, -, -, -, -, h⟩
      · exact b
      · rw [h.1] at c23
        exact absurd c23 (by decide)
      · rw [h.1] at c23
        exact absurd c23 (by decide)
    rcases hb.1 with ⟨s1, s2, s3, -⟩ | ⟨s1, s2, s3, -⟩ | ⟨s1, s2, s3, -⟩ | ⟨s1, s2, s3, -⟩
    · exact absurd (by rw [s2, s3]; decide) c0
    · exact absurd (by rw [s2, s3]; decide) c0
    · obtain ⟨r, hr, e⟩ := hfa (by rw [s2]; decide)
      rw [if_pos s1]
      have := hleaf r hr (by
        unfold SB
        rw [hu 177 r (by decide) (by decide), hu 181 r (by decide) (by decide), hu 182 r (by decide) (by decide)]
        exact .inr (.inl ⟨c0, s1, e.symm⟩)) (some (mm_I (nI x)))
      rw [← e] at this
      exact this
    · obtain ⟨r, hr, e⟩ := hfb (by rw [s3]; decide)
      rw [if_neg (by rw [s1]; decide)]
      have := hleaf r hr (by
        unfold SB
        rw [hu 177 r (by decide) (by decide), hu 181 r (by decide) (by decide), hu 182 r (by decide) (by decide)]
        exact .inr (.inr ⟨c0, s1, e.symm⟩)) (some (mm_I (nI x)))
      rw [← e] at this
      exact this
  · rcases hw with b | ⟨a, -, h2, h⟩ | ⟨a, b, -, -, -, -, h⟩
    · exact hno b c0 c2 c3
    · rw [h.2.1]
      exact h5 a h2 h c0 _
    · exact absurd h.1 c4
  · rcases hw with b | ⟨a, -, -, h⟩ | ⟨a, b, -, h2, -, h3, h⟩
    · exact hno b c0 c2 c3
    · rw [h.1] at c4
      exact absurd c4 (by decide)
    · rw [h.2.1, h.2.2.1]
      exact h4 a b h2 h3 h c0 _
theorem put_runx : ∀ (k : Nat) {x p q TY : Nat} {w : mm_P} {x6 : Option mm_V}, TX w NB TY → DN NB w → x < NB → (w 180 x).toInt ≤ k + 1 → (¬ w 181 x = 0 → ∃ r, vd NB TY r ∧ fa = nI r) → (¬ w 182 x = 0 → ∃ r, vd NB TY r ∧ fb = nI r) → p + 2 * k ≤ 58 → q + k ≤ 60 → TY + 2 ^ k ≤ 8001 → w 185 p = nI x → w 186 p = 0 → (∀ w' r TZ x6', POx NB TY k p q x fa fb w w' r TZ → mm_WQ (mm_call mm_ms (mm_tb L xs) (d + 4)) (mm_tb L xs) mm_m181 lim Q 20 [some (mm_R 176), some (mm_I x1), some (mm_I fa), some (mm_I fb), some (mm_I (nI p)), some (mm_I (nI (q + 1))), x6'] [] w' ml) → mm_WQ (mm_call mm_ms (mm_tb L xs) (d + 4)) (mm_tb L xs) mm_m181 lim Q 20 [some (mm_R 176), some (mm_I x1), some (mm_I fa), some (mm_I fb), some (mm_I (nI (p + 1))), some (mm_I (nI q)), x6] [] w ml := by
  intro k
  induction k with
  | zero =>
    intro x p q TY w x6 hT hD hx hd hfa hfb hp hq hb h185 h186 hH
    refine put_downx (k := 0) hT hx hfa hfb (by omega) (by omega) h185 h186 hH (fun a ha he _ _ => ?_) (fun a b ha hb' he _ _ => ?_)
    · exfalso
      have := (hD a (by omega)).1
      rw [he.2.2.2.1, mm_1p (by omega) (by omega)] at hd
      omega
    · exfalso
      obtain ⟨⟨m1, m2⟩, m3, m4⟩ := f_most_r (hD a (by omega)).1 (hD b (by omega)).1
      rw [he.2.2.2.1, mm_1p (by omega) (by omega)] at hd
      omega
  | succ k ih =>
    intro x p q TY w x6 hT hD hx hd hfa hfb hp hq hb h185 h186 hH
    obtain ⟨a1, a2, a3, a4, a5, a6, a7⟩ := id hT.1
    have e2k : 2 ^ (k + 1) = 2 * 2 ^ k := by rw [Nat.pow_succ]; omega
    have h2k : 1 ≤ 2 ^ k := Nat.one_le_two_pow
    refine put_downx (k := k + 1) hT hx hfa hfb (by omega) (by omega) h185 h186 hH (fun a ha he c0 x6a => ?_) (fun a b ha hb' he c0 x6a => ?_)
    · -- a LIST
      have da := hD a (by omega)
      have hda : (w 180 a).toInt ≤ k + 1 := by
        rw [he.2.2.2.1, mm_1p (by omega) (by omega)] at hd
        omega
      have hka : ∀ c, 177 ≤ c → c ≤ 184 → ∀ i, (mm_u (mm_u (mm_u w 186 p 1) 185 (p + 1) (nI a)) 186 (p + 1) 0) c i = w c i := fun c h1 h2 i => by
        rw [mm_u_e (by omega), mm_u_e (by omega), mm_u_e (by omega)]
      have hT1 : TX (mm_u (mm_u (mm_u w 186 p 1) 185 (p + 1) (nI a)) 186 (p + 1) 0) NB TY := TX_c hT (by rw [mm_u_e (by decide), mm_u_e (by decide), mm_u_e (by decide)]) (by rw [mm_u_e (by decide), mm_u_e (by decide), mm_u_e (by decide)]) (fun c i h1 h2 => hka c h1 h2 i)
      have hD1 := DN_c hD (n := (mm_u (mm_u (mm_u w 186 p 1) 185 (p + 1) (nI a)) 186 (p + 1) 0)) (fun t _ c h1 h2 => hka c h1 (by omega) t)
      refine ih (x := a) (p := p + 1) (q := q) hT1 hD1 (by omega) (by rw [hka 180 (by decide) (by decide)]; exact hda) (fun z => hfa ?_) (fun z => hfb ?_) (by omega) (by omega) (by omega) ?_ mm_u_s (fun w' r TZ x6' po => ?_)
      · rw [hka 181 (by decide) (by decide)] at z
        rw [he.2.2.2.2.1]
        exact f_under_0 da.2.1.1 da.2.1.2 z
      · rw [hka 182 (by decide) (by decide)] at z
        rw [he.2.2.2.2.2.1]
        exact f_under_0 da.2.2.1 da.2.2.2 z
      · rw [mm_u_e (by decide), mm_u_s]
      · obtain ⟨po1, ⟨po2, po3⟩, po4, po5, po6, po7, po8, po9, po10⟩ := po
        have hv : ∀ t, vd NB TY t → ∀ c, 177 ≤ c → c ≤ 183 → w' c t = w c t := fun t ht c h1 h2 => (MKP_v po6 a1.2 a2.1 ht h1 h2).trans (hka c h1 (by omega) t)
        have hx' := hv x (.inl hx)
        obtain ⟨b1, b2⟩ := po7 p (by omega)
        have b3 : w' 185 p = nI x := by rw [b1, mm_u_e (by decide), mm_u_f (by omega), mm_u_e (by decide)]; exact h185
        have b4 : w' 186 p = 1 := by rw [b2, mm_u_f (by omega), mm_u_e (by decide), mm_u_s]
        have s5 : w' 177 x = 5 := (hx' 177 (by decide) (by decide)).trans he.1
        have hcl' : ¬ w' 181 x + w' 182 x = 0 := by rw [hx' 181 (by decide) (by decide), hx' 182 (by decide) (by decide)]; exact c0
        refine put20 (by omega) (by omega) b3 (by omega) (fun z => absurd z hcl') (fun _ z => by rw [s5] at z; exact absurd z (by decide)) (fun _ _ _ z _ => by rw [b4] at z; exact absurd z (by decide)) (fun _ _ _ z _ => by rw [b4] at z; exact absurd z (by decide)) (fun _ _ _ _ _ => ⟨q, rfl, ?_⟩) (fun _ _ _ _ z => absurd s5 z)
        rw [po9]
        refine sx_made5 po1 (by omega) po4 (fun n t TW n1 n2 n3 n4 n5 n6 n7 n8 => ⟨nI t, rfl, hH _ t TW _ ⟨TX_c n1 (mm_u_e (by decide)) (mm_u_e (by decide)) (fun c i _ _ => mm_u_e (by omega)), ⟨by omega, by omega⟩, n6, fun hvt => ?_, ?_, fun i hi => ?_, fun i hi => ?_, mm_u_s, ?_⟩⟩)
        · have hr : vd NB TY r := by
            rcases n1.1.2.2.2.2.2.2 t n6 with z | ⟨a', y1, y2, y3⟩ | ⟨a', b', y1, y2, y3, y4, y5⟩
            · exact absurd n7 (bs_45 z).2
            · have e := y3.2.1
              rw [n8] at e
              have := nI_inj (by have := vd_lt po4 a1.2 po1.1.2.1.2; omega) (by have := vd_lt y1 a1.2 n1.1.2.1.2; omega) e
              subst this
              exact vd_part hvt y1 y2
            · have := y5.1
              rw [n7] at this
              exact absurd this (by decide)
          have e1 := po5 hr
          have e2 := (n5 (vd_le hvt (by omega))).2
          omega
        · exact MKP_u (MKP_k (MKP_t (MKP_u (MKP_u (MKP_u MKP_r (by decide) (by decide)) (by decide) (by decide)) (by decide) (by decide)) (Nat.le_refl _) po6) po2 n2) (by decide) (by decide)
        · obtain ⟨i1, i2⟩ := po7 i (by omega)
          rw [mm_u_e (by decide), mm_u_e (by decide), n2 185 i (by omega) (by decide) (by omega), n2 186 i (by omega) (by decide) (by omega), i1, i2]
          constructor
          · rw [mm_u_e (by decide), mm_u_f (by omega), mm_u_e (by decide)]
          · rw [mm_u_f (by omega), mm_u_e (by decide), mm_u_f (by omega)]
        · rw [mm_u_f (by omega), n2 187 i (by omega) (by decide) (by omega), po8 i hi, mm_u_e (by decide), mm_u_e (by decide), mm_u_e (by decide)]
        · have hn : ∀ s, vd NB TZ s → ∀ c, 177 ≤ c → c ≤ 183 → mm_u n 187 q (nI t) c s = w' c s := fun s hs c h1 h2 => by
            rw [mm_u_e (by omega)]
            exact n2 c s (fun z => by unfold vd at hs; omega) (by omega) (by omega)
          have hxn : ∀ c, 177 ≤ c → c ≤ 183 → mm_u n 187 q (nI t) c x = w c x := fun c h1 h2 => (hn x (.inl hx) c h1 h2).trans (hx' c h1 h2)
          unfold SB
          refine .inr (.inl ⟨?_, ?_, a, r, ha, ?_, vd_le po4 n3, ?_, ?_, SB_c a1.2 (by omega) n3 hn k (by omega) po4 po10⟩)
          · rw [hxn 181 (by decide) (by decide), hxn 182 (by decide) (by decide)]
            exact c0
          · rw [hxn 177 (by decide) (by decide)]
            exact he.1
          · rw [hxn 178 (by decide) (by decide)]
            exact he.2.1
          · rw [mm_u_e (by decide)]
            exact n7
          · rw [mm_u_e (by decide)]
            exact n8
    · -- a PAIR
      have da := hD a (by omega)
      have db := hD b (by omega)
      obtain ⟨⟨m1, m2⟩, m3, m4⟩ := f_most_r da.1 db.1
      have hdd : (w 180 a).toInt ≤ k + 1 ∧ (w 180 b).toInt ≤ k + 1 := by
        rw [he.2.2.2.1, mm_1p (by omega) (by omega)] at hd
        omega
      have hka : ∀ c, 177 ≤ c → c ≤ 184 → ∀ i, (mm_u (mm_u (mm_u (mm_u (mm_u w 186 p 1) 185 (p + 1) (nI a)) 186 (p + 1) 0) 185 (p + 2) (nI b)) 186 (p + 2) 0) c i = w c i := fun c h1 h2 i => by
        rw [mm_u_e (by omega), mm_u_e (by omega), mm_u_e (by omega), mm_u_e (by omega), mm_u_e (by omega)]
      have hT1 : TX (mm_u (mm_u (mm_u (mm_u (mm_u w 186 p 1) 185 (p + 1) (nI a)) 186 (p + 1) 0) 185 (p + 2) (nI b)) 186 (p + 2) 0) NB TY := TX_c hT (by rw [mm_u_e (by decide), mm_u_e (by decide), mm_u_e (by decide), mm_u_e (by decide), mm_u_e (by decide)]) (by rw [mm_u_e (by decide), mm_u_e (by decide), mm_u_e (by decide), mm_u_e (by decide), mm_u_e (by decide)]) (fun c i h1 h2 => hka c h1 h2 i)
      have hD1 := DN_c hD (n := (mm_u (mm_u (mm_u (mm_u (mm_u w 186 p 1) 185 (p + 1) (nI a)) 186 (p + 1) 0) 185 (p + 2) (nI b)) 186 (p + 2) 0)) (fun t _ c h1 h2 => hka c h1 (by omega) t)
      have hA : ¬ w 181 a = 0 ∨ ¬ w 181 b = 0 → ¬ w 181 x = 0 := fun z => by
        rw [he.2.2.2.2.1]
        obtain ⟨⟨g1, g2⟩, -⟩ := f_most_r da.2.1 db.2.1
        exact f_under_0 g1 g2 (f_most_0 da.2.1.1 db.2.1.1 z)
      have hB : ¬ w 182 a = 0 ∨ ¬ w 182 b = 0 → ¬ w 182 x = 0 := fun z => by
        rw [he.2.2.2.2.2.1]
        obtain ⟨⟨g1, g2⟩, -⟩ := f_most_r da.2.2 db.2.2
        exact f_under_0 g1 g2 (f_most_0 da.2.2.1 db.2.2.1 z)
      refine ih (x := b) (p := p + 2) (q := q) hT1 hD1 (by omega) (by rw [hka 180 (by decide) (by decide)]; exact hdd.2) (fun z => hfa (hA (.inr ?_))) (fun z => hfb (hB (.inr ?_))) (by omega) (by omega) (by omega) (by rw [mm_u_e (by decide), mm_u_s]) mm_u_s (fun w2 r2 T2 x6b po => ?_)
      · rw [hka 181 (by decide) (by decide)] at z
        exact z
      · rw [hka 182 (by decide) (by decide)] at z
        exact z
      obtain ⟨po1, ⟨po2, po3⟩, po4, po5, po6, po7, po8, po9, po10⟩ := po
      have hv2 : ∀ t, vd NB TY t → ∀ c, 177 ≤ c → c ≤ 183 → w2 c t = w c t := fun t ht c h1 h2 => (MKP_v po6 a1.2 a2.1 ht h1 h2).trans (hka c h1 (by omega) t)
      obtain ⟨b1, b2⟩ := po7 (p + 1) (by omega)
      obtain ⟨b3, b4⟩ := po7 p (by omega)
      have hD2 := DN_c hD (n := w2) (fun t ht c h1 h2 => hv2 t (.inl ht) c h1 h2)
      refine ih (x := a) (p := p + 1) (q := q + 1) po1 hD2 (by omega) (by rw [hv2 a (.inl (by omega)) 180 (by decide) (by decide)]; exact hdd.1) (fun z => ?_) (fun z => ?_) (by omega) (by omega) (by omega) (by rw [b1, mm_u_e (by decide), mm_u_f (by omega), mm_u_e (by decide), mm_u_s]) (by rw [b2, mm_u_f (by omega), mm_u_e (by decide), mm_u_s]) (fun w3 r1 T3 x6c po' => ?_)
      · rw [hv2 a (.inl (by omega)) 181 (by decide) (by decide)] at z
        obtain ⟨r, hr, e⟩ := hfa (hA (.inl z))
        exact ⟨r, vd_le hr po2, e⟩
      · rw [hv2 a (.inl (by omega)) 182 (by decide) (by decide)] at z
        obtain ⟨r, hr, e⟩ := hfb (hB (.inl z))
        exact ⟨r, vd_le hr po2, e⟩
      obtain ⟨pp1, ⟨pp2, pp3⟩, pp4, pp5, pp6, pp7, pp8, pp9, pp10⟩ := po'
      have hv3 : ∀ t, vd NB T2 t → ∀ c, 177 ≤ c → c ≤ 183 → w3 c t = w2 c t := fun t ht c h1 h2 => MKP_v pp6 a1.2 (by omega) ht h1 h2
      have hx' : ∀ c, 177 ≤ c → c ≤ 183 → w3 c x = w c x := fun c h1 h2 => (hv3 x (.inl hx) c h1 h2).trans (hv2 x (.inl hx) c h1 h2)
      obtain ⟨b5, b6⟩ := pp7 p (by omega)
      have c3 : w3 185 p = nI x := by rw [b5, b3, mm_u_e (by decide), mm_u_f (by omega), mm_u_e (by decide), mm_u_f (by omega), mm_u_e (by decide)]; exact h185
      have c4 : w3 186 p = 1 := by rw [b6, b4, mm_u_f (by omega), mm_u_e (by decide), mm_u_f (by omega), mm_u_e (by decide), mm_u_s]
      have s4 : w3 177 x = 4 := (hx' 177 (by decide) (by decide)).trans he.1
      have hcl' : ¬ w3 181 x + w3 182 x = 0 := by rw [hx' 181 (by decide) (by decide), hx' 182 (by decide) (by decide)]; exact c0
      have e187 : w3 187 q = nI r2 := (pp8 q (by omega)).trans po9
      refine put20 (q := q + 2) (by omega) (by omega) c3 (by omega) (fun z => absurd z hcl') (fun _ z => by rw [s4] at z; exact absurd z (by decide)) (fun _ _ _ z _ => by rw [c4] at z; exact absurd z (by decide)) (fun _ _ _ z _ => by rw [c4] at z; exact absurd z (by decide)) (fun _ _ _ _ z => by rw [s4] at z; exact absurd z (by decide)) (fun _ _ _ _ _ => ⟨q, rfl, ?_⟩)
      rw [pp9, e187]
      refine sx_made4 pp1 (by omega) pp4 (vd_le po4 pp2) (fun n t TW n1 n2 n3 n4 n5 n6 n7 n8 n9 => ⟨nI t, rfl, hH _ t TW _ ⟨TX_c n1 (mm_u_e (by decide)) (mm_u_e (by decide)) (fun c i _ _ => mm_u_e (by omega)), ⟨by omega, by omega⟩, n6, fun hvt => ?_, ?_, fun i hi => ?_, fun i hi => ?_, mm_u_s, ?_⟩⟩)
      · have hr : vd NB TY r1 ∧ vd NB TY r2 := by
          rcases n1.1.2.2.2.2.2.2 t n6 with z | ⟨a', y1, y2, y3⟩ | ⟨a', b', y1, y2, y3, y4, y5⟩
          · exact absurd n7 (bs_45 z).1
          · have := y3.1
            rw [n7] at this
            exact absurd this (by decide)
          · have e := y5.2.1
            rw [n8] at e
            have f1 := nI_inj (by have := vd_lt pp4 a1.2 pp1.1.2.1.2; omega) (by have := vd_lt y1 a1.2 n1.1.2.1.2; omega) e
            have e' := y5.2.2.1
            rw [n9] at e'
            have f2 := nI_inj (by have := vd_lt po4 a1.2 po1.1.2.1.2; omega) (by have := vd_lt y3 a1.2 n1.1.2.1.2; omega) e'
            subst f1 f2
            exact ⟨vd_part hvt y1 y2, vd_part hvt y3 y4⟩
        have e1 := po5 hr.2
        have e2 := pp5 (vd_le hr.1 po2)
        have e3 := (n5 (vd_le hvt (by omega))).2
        omega
      · exact MKP_u (MKP_k (MKP_t (MKP_t (MKP_u (MKP_u (MKP_u (MKP_u (MKP_u MKP_r (by decide) (by decide)) (by decide) (by decide)) (by decide) (by decide)) (by decide) (by decide)) (by decide) (by decide)) (Nat.le_refl _) po6) po2 pp6) (by omega) n2) (by decide) (by decide)
      · obtain ⟨i1, i2⟩ := pp7 i (by omega)
        obtain ⟨i3, i4⟩ := po7 i (by omega)
        rw [mm_u_e (by decide), mm_u_e (by decide), n2 185 i (by omega) (by decide) (by omega), n2 186 i (by omega) (by decide) (by omega), i1, i2, i3, i4]
        constructor
        · rw [mm_u_e (by decide), mm_u_f (by omega), mm_u_e (by decide), mm_u_f (by omega), mm_u_e (by decide)]
        · rw [mm_u_f (by omega), mm_u_e (by decide), mm_u_f (by omega), mm_u_e (by decide), mm_u_f (by omega)]
      · rw [mm_u_f (by omega), n2 187 i (by omega) (by decide) (by omega), pp8 i (by omega), po8 i hi, mm_u_e (by decide), mm_u_e (by decide), mm_u_e (by decide), mm_u_e (by decide), mm_u_e (by decide)]
      · have hn : ∀ s, vd NB T3 s → ∀ c, 177 ≤ c → c ≤ 183 → mm_u n 187 q (nI t) c s = w3 c s := fun s hs c h1 h2 => by
          rw [mm_u_e (by omega)]
          exact n2 c s (fun z => by unfold vd at hs; omega) (by omega) (by omega)
        have hn2 : ∀ s, vd NB T2 s → ∀ c, 177 ≤ c → c ≤ 183 → mm_u n 187 q (nI t) c s = w2 c s := fun s hs c h1 h2 => (hn s (vd_le hs pp2) c h1 h2).trans (hv3 s hs c h1 h2)
        have hxn : ∀ c, 177 ≤ c → c ≤ 183 → mm_u n 187 q (nI t) c x = w c x := fun c h1 h2 => (hn x (.inl hx) c h1 h2).trans (hx' c h1 h2)
        unfold SB
        refine .inr (.inr ⟨?_, ?_, a, b, r1, r2, ha, hb', ?_, ?_, vd_le pp4 n3, vd_le po4 (by omega), ?_, ?_, ?_, SB_c a1.2 (by omega) n3 hn k (by omega) pp4 pp10, SB_c a1.2 (by omega) (by omega) hn2 k (by omega) po4 po10⟩)
        · rw [hxn 181 (by decide) (by decide), hxn 182 (by decide) (by decide)]
          exact c0
        · rw [hxn 177 (by decide) (by decide)]
          exact he.1
        · rw [hxn 178 (by decide) (by decide)]
          exact he.2.1
        · rw [hxn 179 (by decide) (by decide)]
          exact he.2.2.1
        · rw [mm_u_e (by decide)]
          exact n7
        · rw [mm_u_e (by decide)]
          exact n8
        · rw [mm_u_e (by decide)]
          exact n9
theorem sx_put {mi : mm_P} {x NB TY : Nat} {fa fb : Int32} (hT : TX mi NB TY) (hD : DN NB mi) (hx : x < NB) (hfa : ¬ mi 181 x = 0 → ∃ r, vd NB TY r ∧ fa = nI r) (hfb : ¬ mi 182 x = 0 → ∃ r, vd NB TY r ∧ fb = nI r) (hb : TY ≤ 7985) (hQ : ∀ n r TZ, TX n NB TZ → TY ≤ TZ → TZ ≤ TY + 15 → vd NB TZ r → (vd NB TY r → TZ = TY) → MKP TY mi n → SB NB TZ n fa fb 4 x r → Q (some (mm_I (nI r))) n ml) : mm_cq (mm_call mm_ms (mm_tb L xs) (d + 5)) 181 [mm_R 176, mm_I (nI x), mm_I fa, mm_I fb] mi ml Q := by
  have v0 : vp_in 0 64 := vp_in_nI (n := 0) (by decide) (by decide)
  have e0 : ((0 : Int32).toNatClampNeg) = 0 := rfl
  refine en_X12_put (bk_X12_put_0 (mm_call_m _) v0 v0 ?_)
  rw [mm_nb0, e0]
  have h16 : 2 ^ 4 = 16 := rfl
  refine put_runx 4 (x := x) (p := 0) (q := 0) (TY := TY) (TX_c hT (by rw [mm_u_e (by decide), mm_u_e (by decide)]) (by rw [mm_u_e (by decide), mm_u_e (by decide)]) (fun c i _ _ => by rw [mm_u_e (by omega), mm_u_e (by omega)])) (DN_c hD (fun t _ c _ _ => by rw [mm_u_e (by omega), mm_u_e (by omega)])) hx (by rw [mm_u_e (by decide), mm_u_e (by decide)]; exact (hD x hx).1.2) (fun z => hfa (by rw [mm_u_e (by decide), mm_u_e (by decide)] at z; exact z)) (fun z => hfb (by rw [mm_u_e (by decide), mm_u_e (by decide)] at z; exact z)) (by omega) (by omega) (by omega) (by rw [mm_u_e (by decide), mm_u_s]) mm_u_s (fun w' r TZ x6' po => ?_)
  obtain ⟨po1, ⟨po2, po3⟩, po4, po5, po6, po7, po8, po9, po10⟩ := po
  have hz : ¬ ¬ (nI 0 ≤ (0 : Int32)) := fun z => z (by decide)
  refine bk_X12_put_20 (mm_call_m _) (fun _ => v0) (fun _ => ?_) (fun z => absurd z hz) (fun z => absurd z hz) (fun z => absurd z hz) (fun z => absurd z hz) (fun z => absurd z hz) (fun z => absurd z hz) (fun z => absurd z hz) (fun z => absurd z hz) (fun z => absurd z hz) (fun z => absurd z hz) (fun z => absurd z hz) (fun z => absurd z hz) (fun z => absurd z hz) (fun z => absurd z hz) (fun z => absurd z hz) (fun z => absurd z hz) (fun z => absurd z hz) (fun z => absurd z hz) (fun z => absurd z hz) (fun z => absurd z hz) (fun z => absurd z hz) (fun z => absurd z hz) (fun z => absurd z hz) (fun z => absurd z hz) (fun z => absurd z hz) (fun z => absurd z hz)
  rw [e0, po9]
  exact hQ w' r TZ po1 po2 (by omega) po4 po5 (MKP_t (MKP_u (MKP_u MKP_r (by decide) (by decide)) (by decide) (by decide)) (Nat.le_refl _) po6) po10
end MMT
