/-! ===== the model's run is the evaluator ===== -/
theorem WS_ag {k v h0 o0 : Nat} {m w w' : mm_P} {A0 B0 A B : HF} {h1 s1 l1 o1 h s l o : Nat} (ag : AG k v h0 o0 w w') (q : WS m w A0 B0 h1 s1 l1 o1) (hA : ∀ i, w' 212 i = A i) (hB : ∀ i, w' 213 i = B i) (h43 : w' 176 43 = nI h) (h48 : w' 176 48 = nI s) (h49 : w' 176 49 = nI l) (h66 : w' 176 66 = nI o) : WS m w' A B h s l o :=
  ⟨AG_RF ag q.1, ⟨hA, hB⟩, ⟨h43, h48, h49, h66⟩, (ag 176 51 (by omega) (by omega) (by omega) (by omega) (by omega) (by omega) (by omega)).trans q.2.2.2⟩
theorem ZG_1 {A B : HF} {h s l o : Nat} (hs : s < 600) (hl : l ≤ 100) : ZG A B h s o A B h (s + 1) l o := ⟨⟨by omega, by omega⟩, ⟨Nat.le_refl _, by omega⟩, hl, rfl, fun _ _ => ⟨rfl, rfl⟩⟩
theorem ZG_t {A B A' B' A2 B2 : HF} {h s o h' s' l' o' h2 s2 l2 o2 : Nat} (a : ZG A B h s o A' B' h' s' l' o') (b : ZG A' B' h' s' o' A2 B2 h2 s2 l2 o2) : ZG A B h s o A2 B2 h2 s2 l2 o2 := by
  obtain ⟨⟨a1, a2⟩, ⟨a3, a4⟩, a5, a6, a7⟩ := a
  obtain ⟨⟨b1, b2⟩, ⟨b3, b4⟩, b5, b6, b7⟩ := b
  exact ⟨⟨by omega, by omega⟩, ⟨by omega, by omega⟩, b5, b6.trans a6, fun i hi => ⟨(b7 i (by omega)).1.trans (a7 i hi).1, (b7 i (by omega)).2.trans (a7 i hi).2⟩⟩
/-- the part was begun at s + 1: the node itself may make one cell -/
theorem ZG_p {A B A' B' : HF} {h s o h' s' l' o' : Nat} (b : ZG A B h (s + 1) o A' B' h' s' l' o') : ZG A B h s o A' B' h' s' l' o' := by
  obtain ⟨⟨b1, b2⟩, ⟨b3, b4⟩, b5, b6, b7⟩ := b
  exact ⟨⟨by omega, b2⟩, ⟨b3, by omega⟩, b5, b6, b7⟩
theorem ZG_c {A B A' B' : HF} {h s o h' s' l' o' l2 : Nat} {x y : Int32} (b : ZG A B h (s + 1) o A' B' h' s' l' o') (hl : l2 ≤ 100) : ZG A B h s o (fu A' h' x) (fu B' h' y) (h' + 1) s' l2 o' := by
  obtain ⟨⟨b1, b2⟩, ⟨b3, b4⟩, b5, b6, b7⟩ := b
  exact ⟨⟨by omega, b2⟩, ⟨by omega, by omega⟩, hl, b6, fun i hi => by rw [fu_o (by omega), fu_o (by omega)]; exact b7 i hi⟩
/-- only the open count differs in between -/
theorem ZG_o {A B A' B' : HF} {h s o o1 o2 h' s' l' : Nat} (b : ZG A B h s o1 A' B' h' s' l' o2) : ZG A B h s o A' B' h' s' l' o := ⟨b.1, b.2.1, b.2.2.1, rfl, b.2.2.2.2⟩
section MMT
variable {L : Nat} {xs : Nat → Int32} {d : Nat} {Q : mm_QQ} {ml : mm_G} {lim : Nat × Nat}
theorem mr_ev {NB ND NF : Nat} {m : mm_P} (hI : IM m NB ND NF) (hJ : JO NB ND NF m) : ∀ (j : Nat) {w : mm_P} {k v : Nat} {A B : HF} {h s l o f : Nat} {wf : mm_P} {TY : Nat} {SA SB : ST} {n : Nat} {arg : Int32} {x2 : Option mm_V}, WS m w A B h s l o → (1 ≤ o ∧ o ≤ 30) → (s ≤ 600 ∧ l ≤ 100 ∧ h ≤ 1400 + s) → AC NB ND NF m f wf TY → (mST SA ∧ mST SB) → AR NB m f SA SB w h o → w 225 (o - 1) = arg → (w 176 62 = nI (k + 1) ∧ w 176 64 = nI v) → (w 222 k = nI n ∧ w 223 k = 0) → (n < ND ∧ IB ND m f n ∧ (k : Int) + (m 193 n).toInt ≤ 12 * o ∧ v ≤ k) → (30 - o) * 12 + (m 193 n).toInt.toNat ≤ j →
    (∀ x A' B' h' s' l' o' w' (y2 : Option mm_V), ev m j arg n A B h s l o = (0, x, A', B', h', s', l', o') → ZG A B h s o A' B' h' s' l' o' → WS m w' A' B' h' s' l' o' → AG k v h o w w' → w' 176 62 = nI k → w' 176 64 = nI (v + 1) → w' 224 v = x → NW wf SA SB (nI n) A' B' h' x → mm_WQ (mm_call mm_ms (mm_tb L xs) (d + 3)) (mm_tb L xs) mm_m228 lim Q 58 [some (mm_R 176), some (mm_I 0), y2] [] w' ml) →
    (∀ e x A' B' h' s' l' o' w' (y2 : Option mm_V), ev m j arg n A B h s l o = (e, x, A', B', h', s', l', o') → ¬ e = 0 → RG m w' → w' 176 51 = 0 → mm_WQ (mm_call mm_ms (mm_tb L xs) (d + 3)) (mm_tb L xs) mm_m228 lim Q 58 [some (mm_R 176), some (mm_I e), y2] [] w' ml) →
    mm_WQ (mm_call mm_ms (mm_tb L xs) (d + 3)) (mm_tb L xs) mm_m228 lim Q 58 [some (mm_R 176), some (mm_I 0), x2] [] w ml := by
  have hND := hI.1.2.1
  have hNF := hI.1.2.2
  have hNB := hI.1.1.2
  intro j
  induction j with
  | zero =>
    intro w k v A B h s l o f wf TY SA SB n arg x2 hW ho hb hAC hm hAR harg h62v h222 hn hj
    have := (hI.2.2.2.2.1 n hn.1).2.1
    omega
  | succ j ih =>
    intro w k v A B h s l o f wf TY SA SB n arg x2 hW ho hb hAC hm hAR harg h62v h222 hn hj hK1 hK0
    obtain ⟨hp, hAB, ⟨h43, h48, h49, h66⟩, h51⟩ := id hW
    obtain ⟨eA, eB⟩ := fun212 hAB
    obtain ⟨hs, hl, hh⟩ := hb
    obtain ⟨h62, h64⟩ := h62v
    obtain ⟨n2, n3⟩ := h222
    obtain ⟨n1, hib, hd, hvk⟩ := hn
    have hok := hI.2.2.2.2.1 n n1
    have hdep := hok.2.1
    have hrow : ∀ c, 188 ≤ c → c ≤ 197 → ∀ i, w c i = m c i := fun c a b i => hp.1 c i (by omega) (by omega)
    have ek188 := hrow 188 (by decide) (by decide) n
    have hk : k + 1 < 400 := by omega
    have hr0 : ∀ {w' : mm_P} {r : Int32}, mm_WQ (mm_call mm_ms (mm_tb L xs) (d + 3)) (mm_tb L xs) mm_m228 lim Q 58 [some (mm_R 176), some (mm_I r), some (mm_I (nI n))] [] w' ml → mm_WQ (mm_call mm_ms (mm_tb L xs) (d + 3)) (mm_tb L xs) mm_m228 lim Q 129 [some (mm_R 176), some (mm_I 0), some (mm_I (nI n))] [mm_I r] w' ml := fun q => bk_X12_runs_129 (mm_call_m _) (bk_X12_runs_184 (mm_call_m _) q)
    have hr1 : ∀ {w' : mm_P} {r : Int32}, mm_WQ (mm_call mm_ms (mm_tb L xs) (d + 3)) (mm_tb L xs) mm_m228 lim Q 58 [some (mm_R 176), some (mm_I r), some (mm_I (nI n))] [] w' ml → mm_WQ (mm_call mm_ms (mm_tb L xs) (d + 3)) (mm_tb L xs) mm_m228 lim Q 138 [some (mm_R 176), some (mm_I 0), some (mm_I (nI n))] [mm_I r] w' ml := fun q => bk_X12_runs_138 (mm_call_m _) (bk_X12_runs_184 (mm_call_m _) q)
    have hr2 : ∀ {w' : mm_P} {r : Int32}, mm_WQ (mm_call mm_ms (mm_tb L xs) (d + 3)) (mm_tb L xs) mm_m228 lim Q 58 [some (mm_R 176), some (mm_I r), some (mm_I (nI n))] [] w' ml → mm_WQ (mm_call mm_ms (mm_tb L xs) (d + 3)) (mm_tb L xs) mm_m228 lim Q 147 [some (mm_R 176), some (mm_I 0), some (mm_I (nI n))] [mm_I r] w' ml := fun q => bk_X12_runs_147 (mm_call_m _) (bk_X12_runs_184 (mm_call_m _) q)
    refine at58 h62 hk n2 (fun _ => ?_) (fun z => absurd (n3.symm.trans z) (by decide)) (fun z => absurd (n3.symm.trans z) (by decide)) (fun z => absurd (n3.symm.trans z) (by decide)) (fun z => absurd n3 z)
    refine sx_begins (d := d + 1) h62 hk h64 (by omega) h48 hs h66 ho (by omega) (fun q => ?_) (fun hs6 x hx => ?_) (fun hs6 a0 a1 a2 a9 => ?_)
    · subst q
      exact hr0 (hK0 2 0 A B h 600 l o w _ ev_6 (by decide) hp h51)
    · -- a leaf
      have ag : AG k v h o w (Wg (mm_u w 176 48 (nI (s + 1))) v k x) := fun c i a b e f g h' j => by rw [Wg_o (by omega) (by omega) (by omega), mm_u_o (by omega)]
      have hq : ∀ c i, ¬ (c = 224 ∧ i = v) → ¬ (c = 176 ∧ (i = 48 ∨ i = 62 ∨ i = 64)) → Wg (mm_u w 176 48 (nI (s + 1))) v k x c i = w c i := fun c i a b => by rw [Wg_o (by omega) (by omega) (by omega), mm_u_o (by omega)]
      have q48 : Wg (mm_u w 176 48 (nI (s + 1))) v k x 176 48 = nI (s + 1) := by rw [Wg_o (by omega) (by omega) (by omega), mm_u_s]
      rw [ek188, hrow 189 (by decide) (by decide), harg] at hx
      refine hr0 (hK1 x A B h (s + 1) l o _ _ (ev_v (by omega) hx) (ZG_1 hs6 hl) (WS_ag ag hW (fun i => (hq 212 i (by omega) (by omega)).trans (hAB.1 i)) (fun i => (hq 213 i (by omega) (by omega)).trans (hAB.2 i)) ((hq 176 43 (by omega) (by omega)).trans h43) q48 ((hq 176 49 (by omega) (by omega)).trans h49) ((hq 176 66 (by omega) (by omega)).trans h66)) ag Wg_v.2.2 Wg_v.2.1 Wg_v.1 ?_)
      rcases hx with ⟨hx, -⟩ | ⟨hx, rfl⟩ | ⟨hx, rfl⟩
      · rw [ns_any (SA := SA) (SB := SB) hI hAC hib (by rcases hx with q | q; exact .inl q; exact .inr (.inl q))]
        trivial
      · obtain ⟨y, y1, y2, y3⟩ := ns_2 (SA := SA) (SB := SB) hI hAC hib hx
        obtain ⟨y', y1', y2', y3'⟩ := hAR
        have e : y' = y := nI_ij (by omega) (by omega) (y2'.symm.trans y2)
        subst e
        rw [y3]
        rw [eA, eB, harg] at y3'
        exact y3'
      · obtain ⟨R, hR⟩ := ns_9 (SA := SA) (SB := SB) hI hAC hib hx
        rw [hR]
        exact sLs_nil
    · -- its first part begins
      rw [ek188] at a0 a1 a2 a9
      have hs6' : ¬ s = 600 := by omega
      have hp1 : 1 ≤ (f_parts (m 188 n)).toInt := by
        have hr := hok.1
        obtain ⟨q, eq, q2, -, -⟩ := mm_of (n := 15) hr.1 (by omega)
        rw [eq] at a0 a1 a2 a9 ⊢
        rcases (show q = 0 ∨ q = 1 ∨ q = 2 ∨ q = 3 ∨ q = 4 ∨ q = 5 ∨ q = 6 ∨ q = 7 ∨ q = 8 ∨ q = 9 ∨ q = 10 ∨ q = 11 ∨ q = 12 ∨ q = 13 ∨ q = 14 by omega) with rfl | rfl | rfl | rfl | rfl | rfl | rfl | rfl | rfl | rfl | rfl | rfl | rfl | rfl | rfl
        all_goals first
          | exact absurd rfl a0
          | exact absurd rfl a1
          | exact absurd rfl a2
          | exact absurd rfl a9
          | decide
      obtain ⟨p, p1, p2, p3⟩ := f_part_r (i := 0) hok (by decide) (by rw [mm_tt0]; omega)
      have hibp := IB_part (i := 0) hib n1 (by decide) (by rw [mm_tt0]; omega)
      rw [p2, nI_clamp (by omega)] at hibp
      have epw : f_part w n 0 = nI p := (f_part_c (fun c i x y => hrow c x y i)).trans p2
      have epm : (f_part m n 0).toNatClampNeg = p := by rw [p2]; exact nI_clamp (by omega)
      have hdp := (hI.2.2.2.2.1 p (by omega)).2.1
      rw [epw]
      generalize hw1 : Wb (mm_u (mm_u w 176 48 (nI (s + 1))) 223 k 1) (k + 1) (nI p) = w1
      have hq1 : ∀ c i, ¬ (c = 222 ∧ i = k + 1) → ¬ (c = 223 ∧ (i = k ∨ i = k + 1)) → ¬ (c = 176 ∧ (i = 48 ∨ i = 62)) → w1 c i = w c i := fun c i a b e => by rw [← hw1, Wb_o (by omega) (by omega) (by omega), mm_u_o (by omega), mm_u_o (by omega)]
      have q48 : w1 176 48 = nI (s + 1) := by rw [← hw1, Wb_o (by omega) (by omega) (by omega), mm_u_e (by decide), mm_u_s]
      have q223 : w1 223 k = 1 := by rw [← hw1, Wb_o (by omega) (by omega) (by omega), mm_u_s]
      have ag1 : AG k v h o w w1 := fun c i a b e f g h' j => hq1 c i (by omega) (by omega) (by omega)
      have hW1 : WS m w1 A B h (s + 1) l o := WS_ag ag1 hW (fun i => (hq1 212 i (by omega) (by omega) (by omega)).trans (hAB.1 i)) (fun i => (hq1 213 i (by omega) (by omega) (by omega)).trans (hAB.2 i)) ((hq1 176 43 (by omega) (by omega) (by omega)).trans h43) q48 ((hq1 176 49 (by omega) (by omega) (by omega)).trans h49) ((hq1 176 66 (by omega) (by omega) (by omega)).trans h66)
      have hfuel : (m 193 p).toInt.toNat + 1 ≤ (m 193 n).toInt.toNat := by omega
      have e0 : ¬ m 188 n = 14 → f_part m n 0 = m 189 n := fun q => by
        unfold f_part
        rw [if_neg q, if_pos rfl]
      refine hr0 (ih (w := w1) (k := k + 1) (v := v) (f := f) (wf := wf) (TY := TY) (SA := SA) (SB := SB) (n := p) (arg := arg) hW1 ho ⟨by omega, hl, by omega⟩ hAC hm (AG_AR ag1 (Nat.le_refl _) ho.1 (Nat.le_refl _) hm hAR) ((hq1 225 (o - 1) (by omega) (by omega) (by omega)).trans harg) ⟨by rw [← hw1]; exact Wb_v.2.2, (hq1 176 64 (by omega) (by omega) (by omega)).trans h64⟩ ⟨by rw [← hw1]; exact Wb_v.1, by rw [← hw1]; exact Wb_v.2.1⟩ ⟨by omega, hibp, by omega, by omega⟩ (by omega) (fun x A2 B2 h2 s2 l2 o2 w2 y2 he hG hW2 ag2 e62 e64 e224 hty => ?_) (fun e x A2 B2 h2 s2 l2 o2 w2 y2 he hne hRF hz51 => ?_))
      rotate_left
      · -- the part ended the run
        refine hK0 e x A2 B2 h2 s2 l2 o2 w2 y2 ?_ hne hRF hz51
        rw [← epm] at he
        rw [ev_n hs6' a0 a1 a2 a9 he, if_neg hne]
      -- the first part came
      have hev : ev m (j + 1) arg n A B h s l o = ev2 m (ev m j) arg n x A2 B2 h2 s2 l2 o2 := by
        rw [← epm] at he
        rw [ev_n hs6' a0 a1 a2 a9 he, if_pos rfl]
      obtain ⟨hp2, hAB2, ⟨g43, g48, g49, g66⟩, g51⟩ := id hW2
      obtain ⟨eA2, eB2⟩ := fun212 hAB2
      obtain ⟨⟨z1, z2⟩, ⟨z3, z4⟩, z5, z6, z7⟩ := id hG
      subst z6
      have agw : AG k v h o2 w w2 := AG_t ag1 ag2 (by omega) (Nat.le_refl _) (Nat.le_refl _) (Nat.le_refl _)
      have hrow2 : ∀ c, 188 ≤ c → c ≤ 197 → ∀ i, w2 c i = m c i := fun c a b i => hp2.1 c i (by omega) (by omega)
      have f188 := hrow2 188 (by decide) (by decide) n
      have f222 : w2 222 k = nI n := (ag2 222 k (by omega) (by omega) (by omega) (by omega) (by omega) (by omega) (by omega)).trans ((hq1 222 k (by omega) (by omega) (by omega)).trans n2)
      have f223 : w2 223 k = 1 := (ag2 223 k (by omega) (by omega) (by omega) (by omega) (by omega) (by omega) (by omega)).trans q223
      have f225 : w2 225 (o2 - 1) = arg := (agw 225 (o2 - 1) (by omega) (by omega) (by omega) (by omega) (by omega) (by omega) (by omega)).trans harg
      have hAR2 : AR NB m f SA SB w2 h2 o2 := AG_AR agw z3 ho.1 (Nat.le_refl _) hm hAR
      have hGn : ZG A B h s o2 A2 B2 h2 s2 l2 o2 := ZG_p hG
      -- a value is given at once
      have hgive : ∀ (y : Int32), ev2 m (ev m j) arg n x A2 B2 h2 s2 l2 o2 = (0, y, A2, B2, h2, s2, l2, o2) → NW wf SA SB (nI n) A2 B2 h2 y → mm_WQ (mm_call mm_ms (mm_tb L xs) (d + 3)) (mm_tb L xs) mm_m228 lim Q 58 [some (mm_R 176), some (mm_I 0), some (mm_I (nI n))] [] (Wg (mm_u w2 176 64 (nI v)) v k y) ml := fun y hy hyt => by
        have hq : ∀ c i, ¬ (c = 224 ∧ i = v) → ¬ (c = 176 ∧ (i = 62 ∨ i = 64)) → Wg (mm_u w2 176 64 (nI v)) v k y c i = w2 c i := fun c i a b => by rw [Wg_o (by omega) (by omega) (by omega), mm_u_o (by omega)]
        have ag3 : AG k v h2 o2 w2 (Wg (mm_u w2 176 64 (nI v)) v k y) := fun c i a b e f g h' j => hq c i (by omega) (by omega)
        exact hK1 y A2 B2 h2 s2 l2 o2 _ _ (hev.trans hy) hGn (WS_ag ag3 hW2 (fun i => (hq 212 i (by omega) (by omega)).trans (hAB2.1 i)) (fun i => (hq 213 i (by omega) (by omega)).trans (hAB2.2 i)) ((hq 176 43 (by omega) (by omega)).trans g43) ((hq 176 48 (by omega) (by omega)).trans g48) ((hq 176 49 (by omega) (by omega)).trans g49) ((hq 176 66 (by omega) (by omega)).trans g66)) (AG_t agw ag3 (Nat.le_refl _) (Nat.le_refl _) z3 (Nat.le_refl _)) Wg_v.2.2 Wg_v.2.1 Wg_v.1 hyt
      have hbad : ∀ (e : Int32) (w3 : mm_P), ev2 m (ev m j) arg n x A2 B2 h2 s2 l2 o2 = (e, 0, A2, B2, h2, s2, l2, o2) → ¬ e = 0 → RG m w3 → w3 176 51 = 0 → mm_WQ (mm_call mm_ms (mm_tb L xs) (d + 3)) (mm_tb L xs) mm_m228 lim Q 58 [some (mm_R 176), some (mm_I e), some (mm_I (nI n))] [] w3 ml := fun e w3 a b c q => hK0 e 0 A2 B2 h2 s2 l2 o2 w3 _ (hev.trans a) b c q
      refine at58 (k := k) e62 hk f222 (fun z => absurd (f223.symm.trans z) (by decide)) (fun _ => ?_) (fun z => absurd (f223.symm.trans z) (by decide)) (fun z => absurd (f223.symm.trans z) (by decide)) (fun _ z => absurd f223 z)
      refine sx_goesOn (op := o2) e62 hk e64 (by omega) g66 ho.2 (by omega) (by rw [f188]; exact hok.1) (by rw [f188]; exact hp1) (fun z => ?_) (fun z y hy => ?_) (fun z => ?_) (fun z => ?_) (fun z y hy => ?_) (fun z zn => ?_) (fun z zn => ?_) (fun z zn => ?_) (fun z => ?_) <;> rw [f188] at z
      · -- two parts
        have hk14 : ¬ m 188 n = 14 := fun q => by
          rw [q] at z
          exact absurd z (by decide)
        have zz : (f_parts (m 188 n)).toInt = 2 := by rw [z]; rfl
        obtain ⟨q, q1, q2, q3⟩ := f_part_r (i := 1) hok (by decide) (by rw [zz]; decide)
        have hibq := IB_part (i := 1) hib n1 (by decide) (by rw [zz]; decide)
        rw [q2, nI_clamp (by omega)] at hibq
        have e190 : f_part m n 1 = m 190 n := by
          unfold f_part
          rw [if_neg hk14, if_neg (by decide), if_pos rfl]
        have em190 : m 190 n = nI q := e190.symm.trans q2
        have e189 := e0 hk14
        have hdq := (hI.2.2.2.2.1 q (by omega)).2.1
        have eqm : (m 190 n).toNatClampNeg = q := by rw [em190]; exact nI_clamp (by omega)
        rw [hrow2 190 (by decide) (by decide), em190]
        generalize hw3 : Wb (mm_u w2 223 k 2) (k + 1) (nI q) = w3
        have hq3 : ∀ c i, ¬ (c = 222 ∧ i = k + 1) → ¬ (c = 223 ∧ (i = k ∨ i = k + 1)) → ¬ (c = 176 ∧ i = 62) → w3 c i = w2 c i := fun c i a b e => by rw [← hw3, Wb_o (by omega) (by omega) (by omega), mm_u_o (by omega)]
        have ag3 : AG k (v + 1) h2 o2 w2 w3 := fun c i a b e f g h' j => hq3 c i (by omega) (by omega) (by omega)
        have hW3 : WS m w3 A2 B2 h2 s2 l2 o2 := WS_ag ag3 hW2 (fun i => (hq3 212 i (by omega) (by omega) (by omega)).trans (hAB2.1 i)) (fun i => (hq3 213 i (by omega) (by omega) (by omega)).trans (hAB2.2 i)) ((hq3 176 43 (by omega) (by omega) (by omega)).trans g43) ((hq3 176 48 (by omega) (by omega) (by omega)).trans g48) ((hq3 176 49 (by omega) (by omega) (by omega)).trans g49) ((hq3 176 66 (by omega) (by omega) (by omega)).trans g66)
        refine hr1 (ih (w := w3) (k := k + 1) (v := v + 1) (f := f) (wf := wf) (TY := TY) (SA := SA) (SB := SB) (n := q) (arg := arg) hW3 ho ⟨z2, z5, by omega⟩ hAC hm (AG_AR ag3 (Nat.le_refl _) ho.1 (Nat.le_refl _) hm hAR2) ((hq3 225 (o2 - 1) (by omega) (by omega) (by omega)).trans f225) ⟨by rw [← hw3]; exact Wb_v.2.2, (hq3 176 64 (by omega) (by omega) (by omega)).trans e64⟩ ⟨by rw [← hw3]; exact Wb_v.1, by rw [← hw3]; exact Wb_v.2.1⟩ ⟨by omega, hibq, by omega, by omega⟩ (by omega) (fun u A4 B4 h4 s4 l4 o4 w4 y4 he4 hG4 hW4 ag4 i62 i64 i224 hty4 => ?_) (fun e u A4 B4 h4 s4 l4 o4 w4 y4 he4 hne hRF hz51 => ?_))
        rotate_left
        · refine hK0 e u A4 B4 h4 s4 l4 o4 w4 y4 (hev.trans ?_) hne hRF hz51
          rw [← eqm] at he4
          rw [ev2_2 z he4, if_neg hne]
        have hev3 : ev m (j + 1) arg n A B h s l o2 = ev3 m n x u A4 B4 h4 s4 l4 o4 := by
          rw [← eqm] at he4
          rw [hev, ev2_2 z he4, if_pos rfl]
        obtain ⟨hp4, hAB4, ⟨i43, i48, i49, i66⟩, i51⟩ := id hW4
        obtain ⟨eA4, eB4⟩ := fun212 hAB4
        obtain ⟨⟨t1, t2⟩, ⟨t3, t4⟩, t5, t6, t7⟩ := id hG4
        subst t6
        have agv : AG k v h o4 w w4 := AG_t agw (AG_t (show AG k v h2 o4 w2 w3 from fun c i a b e f g h' j => ag3 c i a b (by omega) f g h' j) ag4 (by omega) (by omega) (Nat.le_refl _) (Nat.le_refl _)) (Nat.le_refl _) (Nat.le_refl _) z3 (Nat.le_refl _)
        have j188 : w4 188 n = m 188 n := hp4.1 188 n (by decide) (by decide)
        have j222 : w4 222 k = nI n := (ag4 222 k (by omega) (by omega) (by omega) (by omega) (by omega) (by omega) (by omega)).trans ((hq3 222 k (by omega) (by omega) (by omega)).trans f222)
        have j223 : w4 223 k = 2 := (ag4 223 k (by omega) (by omega) (by omega) (by omega) (by omega) (by omega) (by omega)).trans (by rw [← hw3, Wb_o (by omega) (by omega) (by omega), mm_u_s])
        have j224 : w4 224 v = x := (ag4 224 v (by omega) (by omega) (by omega) (by omega) (by omega) (by omega) (by omega)).trans ((hq3 224 v (by omega) (by omega) (by omega)).trans e224)
        have hG2 : ZG A B h s o4 A4 B4 h4 s4 l4 o4 := ZG_t hGn hG4
        have hG3 : ZG A B h (s + 1) o4 A4 B4 h4 s4 l4 o4 := ZG_t hG hG4
        have ty1 : NW wf SA SB (m 189 n) A4 B4 h4 x := by
          have := hty
          rw [← p2, e189] at this
          exact NW_m hm.1 hm.2 _ _ _ _ _ _ _ t3 t7 _ this
        have ty2 : NW wf SA SB (m 190 n) A4 B4 h4 u := by
          rw [em190]
          exact hty4
        refine at58 (k := k) i62 hk j222 (fun z => absurd (j223.symm.trans z) (by decide)) (fun z => absurd (j223.symm.trans z) (by decide)) (fun _ => ?_) (fun z => absurd (j223.symm.trans z) (by decide)) (fun _ _ z => absurd j223 z)
        have ag0 : AG k v h4 o4 w4 (mm_u (mm_u w4 176 64 (nI (v + 1))) 176 64 (nI v)) := fun c i a b e f g h' j => by rw [mm_u_o (by omega), mm_u_o (by omega)]
        refine sx_both (d := d + 1) i62 hk i64 (by omega) i43 (by omega) (by omega) (fun y hy => ?_) (fun k3 k4 w5 hw5 => ?_) (fun k3 k4 k6 l100 => ?_)
        · rw [j188, j224, i224] at hy
          have hq : ∀ c i, ¬ (c = 224 ∧ i = v) → ¬ (c = 176 ∧ (i = 62 ∨ i = 64)) → Wg (mm_u (mm_u w4 176 64 (nI (v + 1))) 176 64 (nI v)) v k y c i = w4 c i := fun c i a b => by rw [Wg_o (by omega) (by omega) (by omega), mm_u_o (by omega), mm_u_o (by omega)]
          have ag5 : AG k v h4 o4 w4 (Wg (mm_u (mm_u w4 176 64 (nI (v + 1))) 176 64 (nI v)) v k y) := fun c i a b e f g h' j => hq c i (by omega) (by omega)
          refine hr2 (hK1 y A4 B4 h4 s4 l4 o4 _ _ (hev3.trans ?_) hG2 (WS_ag ag5 hW4 (fun i => (hq 212 i (by omega) (by omega)).trans (hAB4.1 i)) (fun i => (hq 213 i (by omega) (by omega)).trans (hAB4.2 i)) ((hq 176 43 (by omega) (by omega)).trans i43) ((hq 176 48 (by omega) (by omega)).trans i48) ((hq 176 49 (by omega) (by omega)).trans i49) ((hq 176 66 (by omega) (by omega)).trans i66)) (AG_t agv ag5 (Nat.le_refl _) (Nat.le_refl _) (by omega) (Nat.le_refl _)) Wg_v.2.2 Wg_v.2.1 Wg_v.1 ?_)
          · rcases hy with ⟨k3, rfl⟩ | ⟨k4, rfl⟩
            · exact ev3_3 k3
            · exact ev3_4 k4
          · rw [ns_any (SA := SA) (SB := SB) hI hAC hib (by rcases hy with ⟨q, -⟩ | ⟨q, -⟩; exact .inr (.inr (.inl q)); exact .inr (.inr (.inr (.inl q))))]
            trivial
        · rw [j188] at k3 k4 hw5
          rw [j224, i224]
          -- PAIR or LINK: a cell
          have hcell : ∀ l5, l5 ≤ 100 → (∀ c i, ¬ (c = 176 ∧ (i = 64 ∨ i = 49)) → w5 c i = w4 c i) → w5 176 49 = nI l5 → ev3 m n x u A4 B4 h4 s4 l4 o4 = (0, nI h4, fu A4 h4 x, fu B4 h4 u, h4 + 1, s4, l5, o4) → mm_WQ (mm_call mm_ms (mm_tb L xs) (d + 3)) (mm_tb L xs) mm_m228 lim Q 147 [some (mm_R 176), some (mm_I 0), some (mm_I (nI n))] [mm_I 0] (Wg (Wc w5 h4 x u) v k (nI h4)) ml := fun l5 hl5 h5 h549 hev5 => by
            have hq : ∀ c i, ¬ (c = 224 ∧ i = v) → ¬ ((c = 212 ∨ c = 213) ∧ i = h4) → ¬ (c = 176 ∧ (i = 62 ∨ i = 64 ∨ i = 49 ∨ i = 43)) → Wg (Wc w5 h4 x u) v k (nI h4) c i = w4 c i := fun c i a b e => by rw [Wg_o (by omega) (by omega) (by omega), Wc_o (by omega) (by omega) (by omega)]; exact h5 c i (by omega)
            have ag5 : AG k v h4 o4 w4 (Wg (Wc w5 h4 x u) v k (nI h4)) := fun c i a b e f g h' j => hq c i (by omega) (by omega) (by omega)
            have v212 : ∀ i, Wg (Wc w5 h4 x u) v k (nI h4) 212 i = fu A4 h4 x i := fun i => by
              by_cases hi : i = h4
              · rw [hi, fu_s, Wg_o (by omega) (by omega) (by omega)]
                exact Wc_v.1
              · rw [fu_o hi, hq 212 i (by omega) (by omega) (by omega)]
                exact hAB4.1 i
            have v213 : ∀ i, Wg (Wc w5 h4 x u) v k (nI h4) 213 i = fu B4 h4 u i := fun i => by
              by_cases hi : i = h4
              · rw [hi, fu_s, Wg_o (by omega) (by omega) (by omega)]
                exact Wc_v.2.1
              · rw [fu_o hi, hq 213 i (by omega) (by omega) (by omega)]
                exact hAB4.2 i
            have v49 : Wg (Wc w5 h4 x u) v k (nI h4) 176 49 = nI l5 := by
              rw [Wg_o (by omega) (by omega) (by omega), Wc_o (by omega) (by omega) (by omega)]
              exact h549
            have v43 : Wg (Wc w5 h4 x u) v k (nI h4) 176 43 = nI (h4 + 1) := by
              rw [Wg_o (by omega) (by omega) (by omega)]
              exact Wc_v.2.2
            have hx1 : ∀ a, a < h4 → fu A4 h4 x a = A4 a ∧ fu B4 h4 u a = B4 a := fun a ha => ⟨fu_o (by omega), fu_o (by omega)⟩
            refine hr2 (hK1 (nI h4) (fu A4 h4 x) (fu B4 h4 u) (h4 + 1) s4 l5 o4 _ _ (hev3.trans hev5) (ZG_c hG3 hl5) (WS_ag ag5 hW4 v212 v213 v43 ((hq 176 48 (by omega) (by omega) (by omega)).trans i48) v49 ((hq 176 66 (by omega) (by omega) (by omega)).trans i66)) (AG_t agv ag5 (Nat.le_refl _) (Nat.le_refl _) (by omega) (Nat.le_refl _)) Wg_v.2.2 Wg_v.2.1 Wg_v.1 ?_)
            have x1 : NW wf SA SB (m 189 n) (fu A4 h4 x) (fu B4 h4 u) (h4 + 1) x := NW_m hm.1 hm.2 _ _ _ _ _ _ _ (by omega) hx1 _ ty1
            have x2 : NW wf SA SB (m 190 n) (fu A4 h4 x) (fu B4 h4 u) (h4 + 1) u := NW_m hm.1 hm.2 _ _ _ _ _ _ _ (by omega) hx1 _ ty2
            have hk6 : m 188 n = 6 ∨ m 188 n = 10 := by
              have hr := hok.1
              obtain ⟨q, eq, q2, -, -⟩ := mm_of (n := 15) hr.1 (by omega)
              rw [eq] at z k3 k4 ⊢
              rcases (show q = 0 ∨ q = 1 ∨ q = 2 ∨ q = 3 ∨ q = 4 ∨ q = 5 ∨ q = 6 ∨ q = 7 ∨ q = 8 ∨ q = 9 ∨ q = 10 ∨ q = 11 ∨ q = 12 ∨ q = 13 ∨ q = 14 by omega) with rfl | rfl | rfl | rfl | rfl | rfl | rfl | rfl | rfl | rfl | rfl | rfl | rfl | rfl | rfl
              all_goals first
                | exact .inl rfl
                | exact .inr rfl
                | exact absurd rfl k3
                | exact absurd rfl k4
                | exact absurd z (by decide)
            rcases hk6 with q6 | q10
            · rw [ns_6 (SA := SA) (SB := SB) hI hAC hib q6]
              refine ⟨h4, by omega, rfl, ?_, ?_⟩
              · rw [fu_s]
                exact x1
              · rw [fu_s]
                exact x2
            · obtain ⟨s1, s2⟩ := ns_10 (SA := SA) (SB := SB) hI hAC hib q10
              rw [s2, s1] at x2
              rw [s1]
              refine sLs_link (by omega) ?_ ?_
              · rw [fu_s]
                exact x1
              · rw [fu_s]
                exact x2
          rcases hw5 with ⟨k6, rfl⟩ | ⟨k6, l100, rfl⟩
          · exact hcell l4 t5 (fun c i a => by rw [mm_u_o (by omega), mm_u_o (by omega)]) (by rw [mm_u_f (by decide), mm_u_f (by decide)]; exact i49) (ev3_6 k6)
          · rw [i49] at l100
            have hl4 : ¬ l4 = 100 := fun q => l100 (by rw [q]; rfl)
            exact hcell (l4 + 1) (by omega) (fun c i a => by rw [mm_u_o (by omega), mm_u_o (by omega), mm_u_o (by omega)]) (by rw [mm_u_s, i49]; exact (nI_succ l4).symm) (ev3_n k3 k4 k6 hl4)
        · rw [j188] at k3 k4 k6
          rw [i49] at l100
          have hl4 : l4 = 100 := nI_ij (by omega) (by decide) (l100.trans (show (100 : Int32) = nI 100 from rfl))
          subst hl4
          exact hr2 (hK0 4 0 A4 B4 h4 s4 100 o4 _ _ (hev3.trans (ev3_100 k3 k4 k6)) (by decide) (AG_RF ag0 hp4) ((ag0 176 51 (by omega) (by omega) (by omega) (by omega) (by omega) (by omega) (by omega)).trans i51))
      · -- IF
        rw [e224] at hy
        have h3 : (f_parts (m 188 n)).toInt = 3 := by rw [z]; rfl
        have hk14 : ¬ m 188 n = 14 := by rw [z]; decide
        obtain ⟨t1, t2⟩ := ns_5 (SA := SA) (SB := SB) hI hAC hib z
        have hpart : ∃ q : Nat, y = nI q ∧ (if x = 1 then m 190 n else m 191 n).toNatClampNeg = q ∧ q < ND ∧ IB ND m f q ∧ (m 193 q).toInt < (m 193 n).toInt ∧ NW wf SA SB (nI q) = NW wf SA SB (nI n) := by
          rcases hy with ⟨hx, hy⟩ | ⟨hx, hy⟩
          · obtain ⟨q, q1, q2, q3⟩ := f_part_r (i := 1) hok (by decide) (by rw [h3]; decide)
            have hib' := IB_part (i := 1) hib n1 (by decide) (by rw [h3]; decide)
            rw [q2, nI_clamp (by omega)] at hib'
            have e190 : f_part m n 1 = m 190 n := by
              unfold f_part
              rw [if_neg hk14, if_neg (by decide), if_pos rfl]
            have em : m 190 n = nI q := e190.symm.trans q2
            refine ⟨q, hy.trans ((hrow2 190 (by decide) (by decide) n).trans em), by rw [if_pos hx, em]; exact nI_clamp (by omega), by omega, hib', q3, ?_⟩
            rw [← t1, em]
          · obtain ⟨q, q1, q2, q3⟩ := f_part_r (i := 2) hok (by decide) (by rw [h3]; decide)
            have hib' := IB_part (i := 2) hib n1 (by decide) (by rw [h3]; decide)
            rw [q2, nI_clamp (by omega)] at hib'
            have e191 : f_part m n 2 = m 191 n := by
              unfold f_part
              rw [if_neg hk14, if_neg (by decide), if_neg (by decide)]
            have em : m 191 n = nI q := e191.symm.trans q2
            refine ⟨q, hy.trans ((hrow2 191 (by decide) (by decide) n).trans em), by rw [if_neg hx, em]; exact nI_clamp (by omega), by omega, hib', q3, ?_⟩
            rw [← t2, em]
        obtain ⟨q, rfl, eqm, q1, hibq, q3, q4⟩ := hpart
        have hdq := (hI.2.2.2.2.1 q q1).2.1
        generalize hw3 : Wb (mm_u (mm_u w2 176 64 (nI v)) 223 k 3) (k + 1) (nI q) = w3
        have hq3 : ∀ c i, ¬ (c = 222 ∧ i = k + 1) → ¬ (c = 223 ∧ (i = k ∨ i = k + 1)) → ¬ (c = 176 ∧ (i = 62 ∨ i = 64)) → w3 c i = w2 c i := fun c i a b e => by rw [← hw3, Wb_o (by omega) (by omega) (by omega), mm_u_o (by omega), mm_u_o (by omega)]
        have ag3 : AG k v h2 o2 w2 w3 := fun c i a b e f g h' j => hq3 c i (by omega) (by omega) (by omega)
        have hW3 : WS m w3 A2 B2 h2 s2 l2 o2 := WS_ag ag3 hW2 (fun i => (hq3 212 i (by omega) (by omega) (by omega)).trans (hAB2.1 i)) (fun i => (hq3 213 i (by omega) (by omega) (by omega)).trans (hAB2.2 i)) ((hq3 176 43 (by omega) (by omega) (by omega)).trans g43) ((hq3 176 48 (by omega) (by omega) (by omega)).trans g48) ((hq3 176 49 (by omega) (by omega) (by omega)).trans g49) ((hq3 176 66 (by omega) (by omega) (by omega)).trans g66)
        refine hr1 (ih (w := w3) (k := k + 1) (v := v) (f := f) (wf := wf) (TY := TY) (SA := SA) (SB := SB) (n := q) (arg := arg) hW3 ho ⟨z2, z5, by omega⟩ hAC hm (AG_AR ag3 (Nat.le_refl _) ho.1 (Nat.le_refl _) hm hAR2) ((hq3 225 (o2 - 1) (by omega) (by omega) (by omega)).trans f225) ⟨by rw [← hw3]; exact Wb_v.2.2, by rw [← hw3, Wb_o (by omega) (by omega) (by omega), mm_u_e (by decide), mm_u_s]⟩ ⟨by rw [← hw3]; exact Wb_v.1, by rw [← hw3]; exact Wb_v.2.1⟩ ⟨q1, hibq, by omega, by omega⟩ (by omega) (fun u A4 B4 h4 s4 l4 o4 w4 y4 he4 hG4 hW4 ag4 i62 i64 i224 hty4 => ?_) (fun e u A4 B4 h4 s4 l4 o4 w4 y4 he4 hne hRF hz51 => hK0 e u A4 B4 h4 s4 l4 o4 w4 y4 (hev.trans ((ev2_5 z).trans (by rw [eqm]; exact he4))) hne hRF hz51))
        have j222 : w4 222 k = nI n := (ag4 222 k (by omega) (by omega) (by omega) (by omega) (by omega) (by omega) (by omega)).trans ((hq3 222 k (by omega) (by omega) (by omega)).trans f222)
        have j223 : w4 223 k = 3 := (ag4 223 k (by omega) (by omega) (by omega) (by omega) (by omega) (by omega) (by omega)).trans (by rw [← hw3, Wb_o (by omega) (by omega) (by omega), mm_u_s])
        have ag5 : AG k v h4 o2 w4 (mm_u w4 176 62 (nI k)) := fun c i a b e f g h' j => mm_u_o (by omega)
        have agv : AG k v h o2 w w4 := AG_t agw (AG_t ag3 ag4 (by omega) (Nat.le_refl _) (Nat.le_refl _) (Nat.le_refl _)) (Nat.le_refl _) (Nat.le_refl _) z3 (Nat.le_refl _)
        refine at58 (k := k) i62 hk j222 (fun z => absurd (j223.symm.trans z) (by decide)) (fun z => absurd (j223.symm.trans z) (by decide)) (fun z => absurd (j223.symm.trans z) (by decide)) (fun _ => ?_) (fun _ _ _ z => absurd j223 z)
        exact hK1 u A4 B4 h4 s4 l4 o4 _ _ (hev.trans ((ev2_5 z).trans (by rw [eqm]; exact he4))) (ZG_t hGn hG4) (WS_c hW4 (fun c i a b => mm_u_o (by omega))) (AG_t agv ag5 (Nat.le_refl _) (Nat.le_refl _) (by have := hG4.2.1.1; omega) (Nat.le_refl _)) mm_u_s ((mm_u_f (by decide)).trans i64) ((mm_u_e (by decide)).trans i224) (by rw [← q4]; exact hty4)
      · -- FIRST
        obtain ⟨R, hR⟩ := ns_7 (SA := SA) (SB := SB) hI hAC hib z
        rw [← p2, e0 (by rw [z]; decide), hR] at hty
        obtain ⟨a, b1, b2, b3, b4⟩ := hty
        refine ⟨a, by omega, e224.trans b2, ?_⟩
        rw [eA2]
        refine hr1 (hgive _ ?_ b3)
        rw [ev2_7 z, b2, nI_clamp (by omega)]
      · obtain ⟨R, hR⟩ := ns_8 (SA := SA) (SB := SB) hI hAC hib z
        rw [← p2, e0 (by rw [z]; decide), hR] at hty
        obtain ⟨a, b1, b2, b3, b4⟩ := hty
        refine ⟨a, by omega, e224.trans b2, ?_⟩
        rw [eB2]
        refine hr1 (hgive _ ?_ b4)
        rw [ev2_8 z, b2, nI_clamp (by omega)]
      · -- EMPTY
        rw [e224] at hy
        refine hr1 (hgive _ ?_ ?_)
        · rw [ev2_11 z]
          rcases hy with ⟨b1, rfl⟩ | ⟨b1, rfl⟩
          · rw [if_pos b1]
          · rw [if_neg b1]
        · rw [ns_any (SA := SA) (SB := SB) hI hAC hib (.inr (.inr (.inr (.inr z))))]
          trivial
      · -- HEAD
        rw [e224] at zn
        have hR := ns_12 (SA := SA) (SB := SB) hI hAC hib z
        rw [← p2, e0 (by rw [z]; decide), hR] at hty
        obtain ⟨a, b1, b2, b3, b4⟩ := (sLs_get hty).resolve_left zn
        refine ⟨a, by omega, e224.trans b2, ?_⟩
        rw [eA2]
        refine hr1 (hgive _ ?_ b3)
        rw [ev2_12 z, if_neg zn, b2, nI_clamp (by omega)]
      · -- TAIL
        rw [e224] at zn
        obtain ⟨hR, R, hR2⟩ := ns_13 (SA := SA) (SB := SB) hI hAC hib z
        rw [← p2, e0 (by rw [z]; decide), hR, hR2] at hty
        obtain ⟨a, b1, b2, b3, b4⟩ := (sLs_get hty).resolve_left zn
        refine ⟨a, by omega, e224.trans b2, ?_⟩
        rw [eB2]
        refine hr1 (hgive _ ?_ ?_)
        · rw [ev2_13 z, if_neg zn, b2, nI_clamp (by omega)]
        · rw [hR2]
          exact b4
      · -- of nothing
        rw [e224] at zn
        refine hr1 (hbad 1 _ ?_ (by decide) (RG_u hp2 (by omega)) ((mm_u_f (by decide)).trans g51))
        rcases z with z | z
        · rw [ev2_12 z, if_pos zn]
        · rw [ev2_13 z, if_pos zn]
      · -- CALL
        obtain ⟨g, x0, y0, t, u, g1, g2, x1, y1, x2', y2', s1, s2'⟩ := ns_14 (SA := SA) (SB := SB) hI hAC hib z
        have e0' : f_part m n 0 = m 190 n := by
          unfold f_part
          rw [if_pos z]
        rw [← p2, e0', s1] at hty
        have hug : used m g := hJ.2.2.2 f g hAC.1 hAC.2.2.1 (by omega) ⟨n, n1, hib, z, g2⟩
        obtain ⟨wg, TG, hAG⟩ := AC_of hJ (by omega) hug
        obtain ⟨-, -, -, gp, gT, gt, b, b1, b2, b3⟩ := id hAG
        refine ⟨g, by omega, (hrow2 189 (by decide) (by decide) n).trans g2, fun ho30 y' => ?_, fun ho30 => ?_⟩
        · have e197 : w2 197 g = nI b := (hrow2 197 (by decide) (by decide) g).trans b2
          have hibb : IB ND m g b := fun P q1 _ => q1 b b1 b2
          have hdb := (hI.2.2.2.2.1 b b1).2.1
          have hm' : mST (SVt wf SA SB t) ∧ mST (SVt wf SA SB u) := ⟨SVt_m hm.1 hm.2 _, SVt_m hm.1 hm.2 _⟩
          have ebm : (m 197 (m 189 n).toNatClampNeg).toNatClampNeg = b := by rw [g2, nI_clamp (by omega), b2]; exact nI_clamp (by omega)
          rw [e197, e224]
          generalize hw3 : Wb (mm_u (mm_u (mm_u (mm_u (mm_u w2 176 64 (nI v)) 223 k 4) 225 o2 x) 176 66 (nI (o2 + 1))) 176 50 y') (k + 1) (nI b) = w3
          have hq3 : ∀ c i, ¬ (c = 222 ∧ i = k + 1) → ¬ (c = 223 ∧ (i = k ∨ i = k + 1)) → ¬ (c = 225 ∧ i = o2) → ¬ (c = 176 ∧ (i = 50 ∨ i = 62 ∨ i = 64 ∨ i = 66)) → w3 c i = w2 c i := fun c i a b e f => by rw [← hw3, Wb_o (by omega) (by omega) (by omega), mm_u_o (by omega), mm_u_o (by omega), mm_u_o (by omega), mm_u_o (by omega), mm_u_o (by omega)]
          have r64 : w3 176 64 = nI v := by rw [← hw3, Wb_o (by omega) (by omega) (by omega), mm_u_f (by decide), mm_u_f (by decide), mm_u_e (by decide), mm_u_e (by decide), mm_u_s]
          have r66 : w3 176 66 = nI (o2 + 1) := by rw [← hw3, Wb_o (by omega) (by omega) (by omega), mm_u_f (by decide), mm_u_s]
          have r225 : w3 225 o2 = x := by rw [← hw3, Wb_o (by omega) (by omega) (by omega), mm_u_e (by decide), mm_u_e (by decide), mm_u_s]
          have r223 : w3 223 k = 4 := by rw [← hw3, Wb_o (by omega) (by omega) (by omega), mm_u_e (by decide), mm_u_e (by decide), mm_u_e (by decide), mm_u_s]
          have ag3 : AG k v h2 o2 w2 w3 := fun c i a b e f g h' j => hq3 c i (by omega) (by omega) (by omega) (by omega)
          have hW3 : WS m w3 A2 B2 h2 s2 l2 (o2 + 1) := WS_ag ag3 hW2 (fun i => (hq3 212 i (by omega) (by omega) (by omega) (by omega)).trans (hAB2.1 i)) (fun i => (hq3 213 i (by omega) (by omega) (by omega) (by omega)).trans (hAB2.2 i)) ((hq3 176 43 (by omega) (by omega) (by omega) (by omega)).trans g43) ((hq3 176 48 (by omega) (by omega) (by omega) (by omega)).trans g48) ((hq3 176 49 (by omega) (by omega) (by omega) (by omega)).trans g49) r66
          have hnb : NW wg (SVt wf SA SB t) (SVt wf SA SB u) (nI b) = NW wf SA SB (nI n) := by
            rw [nwn (r := y0) (b3.trans y2') (by omega) (by omega), s2']
            exact SVt_c (TW_I hI) (fun t ht c a b => AC_t hI hAG ht a b) y1
          have hARg : AR NB m g (SVt wf SA SB t) (SVt wf SA SB u) w3 h2 (o2 + 1) := by
            refine ⟨x0, x1, x2', ?_⟩
            rw [show o2 + 1 - 1 = o2 by omega, r225, (fun212 hW3.2.1).1, (fun212 hW3.2.1).2]
            exact hty
          refine hr1 (ih (w := w3) (k := k + 1) (v := v) (f := g) (wf := wg) (TY := TG) (SA := SVt wf SA SB t) (SB := SVt wf SA SB u) (n := b) (arg := x) hW3 ⟨by omega, by omega⟩ ⟨z2, z5, by omega⟩ hAG hm' hARg r225 ⟨by rw [← hw3]; exact Wb_v.2.2, r64⟩ ⟨by rw [← hw3]; exact Wb_v.1, by rw [← hw3]; exact Wb_v.2.1⟩ ⟨b1, hibb, by omega, by omega⟩ (by omega) (fun u4 A4 B4 h4 s4 l4 o4 w4 y4 he4 hG4 hW4 ag4 i62 i64 i224 hty4 => ?_) (fun e u4 A4 B4 h4 s4 l4 o4 w4 y4 he4 hne hRF hz51 => hK0 e u4 A4 B4 h4 s4 l4 o2 w4 y4 (hev.trans (ev2_14 z (by omega) (by rw [ebm]; exact he4))) hne hRF hz51))
          have ho4 : o4 = o2 + 1 := hG4.2.2.2.1
          subst ho4
          obtain ⟨hp4, hAB4, ⟨i43, i48, i49, i66⟩, i51⟩ := id hW4
          have j222 : w4 222 k = nI n := (ag4 222 k (by omega) (by omega) (by omega) (by omega) (by omega) (by omega) (by omega)).trans ((hq3 222 k (by omega) (by omega) (by omega) (by omega)).trans f222)
          have j223 : w4 223 k = 4 := (ag4 223 k (by omega) (by omega) (by omega) (by omega) (by omega) (by omega) (by omega)).trans r223
          have e66 : w4 176 66 - 1 = nI o2 := by rw [i66, mm_dec' o2 (by omega)]
          refine at58 (k := k) i62 hk j222 (fun z => absurd (j223.symm.trans z) (by decide)) (fun z => absurd (j223.symm.trans z) (by decide)) (fun z => absurd (j223.symm.trans z) (by decide)) (fun z => absurd (j223.symm.trans z) (by decide)) (fun _ _ _ _ => ?_)
          rw [e66]
          have ag5 : AG k v h4 o2 w4 (mm_u (mm_u w4 176 66 (nI o2)) 176 62 (nI k)) := fun c i a b e f g h' j => by rw [mm_u_o (by omega), mm_u_o (by omega)]
          have agv : AG k v h o2 w w4 := AG_t agw (AG_t ag3 ag4 (by omega) (Nat.le_refl _) (Nat.le_refl _) (by omega)) (Nat.le_refl _) (Nat.le_refl _) z3 (Nat.le_refl _)
          have hq5 : ∀ c i, ¬ (c = 176 ∧ (i = 66 ∨ i = 62)) → mm_u (mm_u w4 176 66 (nI o2)) 176 62 (nI k) c i = w4 c i := fun c i a => by rw [mm_u_o (by omega), mm_u_o (by omega)]
          exact hK1 u4 A4 B4 h4 s4 l4 o2 _ _ (hev.trans (ev2_14 z (by omega) (by rw [ebm]; exact he4))) (ZG_t hGn (ZG_o hG4)) (WS_ag ag5 hW4 (fun i => (hq5 212 i (by omega)).trans (hAB4.1 i)) (fun i => (hq5 213 i (by omega)).trans (hAB4.2 i)) ((hq5 176 43 (by omega)).trans i43) ((hq5 176 48 (by omega)).trans i48) ((hq5 176 49 (by omega)).trans i49) ((mm_u_f (by decide)).trans mm_u_s)) (AG_t agv ag5 (Nat.le_refl _) (Nat.le_refl _) (by have := hG4.2.1.1; omega) (Nat.le_refl _)) mm_u_s ((hq5 176 64 (by omega)).trans i64) ((hq5 224 v (by omega)).trans i224) (by rw [← hnb]; exact hty4)
        · subst ho30
          exact hr1 (hbad 3 _ (ev2_30 z) (by decide) (RG_u (RG_u hp2 (by omega)) (by omega)) (by rw [mm_u_e (by decide), mm_u_f (by decide)]; exact g51))
end MMT
