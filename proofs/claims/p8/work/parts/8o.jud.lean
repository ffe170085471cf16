/-! ===== class and model find the same types ===== -/
theorem KW_of {NB ND NF : Nat} {m : mm_P} {ml : mm_G} (hI : IM m NB ND NF) (hT : TC NB m ml) (hN : NC ND m) (hF : FC NF m ml) : KW NB ND NF m := ⟨⟨hT.1, hN.1, hF.1⟩, hI.1.1.2, hI.1.2.1, hI.1.2.2⟩
section MFF
variable {NB ND NF f n : Nat} {m : mm_P} {ml : mm_G} {a b c : Int64}
theorem okK_of (hI : IM m NB ND NF) (hN : NC ND m) (hn : n < ND) : okK NB m n := by
  obtain ⟨b1, b2, b3, b4, b5⟩ := hI.2.2.2.2.1 n hn
  obtain ⟨e4, e5, e0, e1, e2, e3⟩ := hN.2 n hn
  have hp := f_parts_in (m 188 n)
  have hp3 : (f_parts (m 188 n)).toInt ≤ 3 := by rcases hp with hp | hp | hp | hp <;> (rw [hp]; decide)
  have h2 : 1 ≤ (f_parts (m 188 n)).toInt → ¬ m 188 n = 2 := fun q k => by
    rw [k, show f_parts 2 = 0 from by decide, mm_tt0] at q
    omega
  unfold okK
  rw [e4]
  refine ⟨b1, fun k i hi => ?_, fun k => ?_, fun k => ?_⟩
  · obtain ⟨c1, c2, c3⟩ := b3 k
    rcases (show i = 0 ∨ i = 1 ∨ i = 2 by omega) with rfl | rfl | rfl
    · obtain ⟨p, p1, p2, -⟩ := c1 (by omega)
      exact ⟨p, p1, (e0 (h2 (by omega))).trans p2⟩
    · obtain ⟨p, p1, p2, -⟩ := c2 (by omega)
      exact ⟨p, p1, (e1 (.inl (by omega))).trans p2⟩
    · obtain ⟨p, p1, p2, -⟩ := c3 (by omega)
      exact ⟨p, p1, (e2 (.inl (by omega))).trans p2⟩
  · rw [e0 (by rw [k]; decide)]
    exact b4 k
  · obtain ⟨d1, ⟨p, p1, p2, -⟩, d3, d4, d5⟩ := b5 k
    rw [e0 (by rw [k]; decide), e1 (.inr k), e2 (.inr k), e3 k]
    exact ⟨⟨p, p1, p2⟩, d1, d3, d4⟩
theorem alw_t {t : Nat} {l : Int32} (hD : DN NB m) (hT : TC NB m ml) (ht : t < NB) (hl : 0 ≤ l.toInt ∧ l.toInt ≤ 2) : f_alw l (ml 2 t) ↔ wthn m t l := by
  unfold f_alw
  rw [SH_lt hD hT ht]
  exact lett_iff hl
theorem alw_n {l : Int32} : f_alw l (-1) := by
  have h0 : f_letters (-1) = 0 := by
    have hs : f_lo 7 (-1) = if f_kd (-1) = 2 then 1 else if f_kd (-1) = 3 then 2 else if f_kd (-1) = 4 then f_lo 6 (f_fs (-1)) ||| f_lo 6 (f_sc (-1)) else if f_kd (-1) = 5 then f_lo 6 (f_fs (-1)) else 0 := rfl
    unfold f_letters
    rw [hs, f_kd_n, if_neg (by decide), if_neg (by decide), if_neg (by decide), if_neg (by decide)]
  unfold f_alw
  rw [h0]
  exact Int32.zero_and
theorem SHO_n {v : Int32} (hD : DN NB m) (hT : TC NB m ml) (hN : NB ≤ 200) (hv : v = -1 ∨ tyN NB v) : SHO ml v = -1 ↔ v = -1 := by
  constructor
  · intro e
    rcases hv with hv | ⟨t, t1, t2⟩
    · exact hv
    · exfalso
      rw [SHO_t (by omega) t2] at e
      have := (SH_r hD hT t1).1.1
      rw [e, mm_lln] at this
      omega
  · intro e
    unfold SHO
    rw [if_pos e]
theorem alw_v {v l : Int32} (hD : DN NB m) (hT : TC NB m ml) (hN : NB ≤ 200) (hv : v = -1 ∨ tyN NB v) (hl : 0 ≤ l.toInt ∧ l.toInt ≤ 2) : f_alw l (SHO ml v) ↔ (v = -1 ∨ wthn m v.toNatClampNeg l) := by
  rcases hv with hv | ⟨t, t1, t2⟩
  · rw [(SHO_n hD hT hN (.inl hv)).mpr hv]
    exact ⟨fun _ => .inl hv, fun _ => alw_n⟩
  · rw [SHO_t (by omega) t2, alw_t hD hT t1 hl, t2, nI_clamp (by omega)]
    exact ⟨fun q => .inr q, fun q => q.resolve_left (nI_ne (by omega))⟩
theorem KCH_CSH (hI : IM m NB ND NF) (hT : TC NB m ml) (hN : NC ND m) (hF : FC NF m ml) (hf : f < NF) (hn : n < ND) (k : m 188 n = 14) : KCH NF m ml f n a = CSH NF m ml f n a := by
  obtain ⟨⟨⟨i1, i2⟩, i3, i4⟩, i5, i6, i7, i8, i9, -⟩ := id hI
  obtain ⟨e4, e5, e0, e1, e2, e3⟩ := hN.2 n hn
  obtain ⟨d1, d2, d3, d4, d5⟩ := (i8 n hn).2.2.2.2 k
  have e0' := e0 (by rw [k]; decide)
  have hlf := (i9 f hf).1
  have hlt : KLT m ml n = nlt m n := by
    unfold KLT nlt
    rw [e2 (.inr k), e3 k]
    by_cases q : m 191 n = -1
    · rw [if_pos q, if_pos ((SHO_n i7 hT i2 d3).mpr q)]
    · rw [if_neg q, if_neg (fun z => q ((SHO_n i7 hT i2 d3).mp z))]
      by_cases q2 : m 192 n = -1
      · rw [if_pos q2, if_pos ((SHO_n i7 hT i2 d4).mpr q2)]
      · rw [if_neg q2, if_neg (fun z => q2 ((SHO_n i7 hT i2 d4).mp z))]
  by_cases hg : (m 189 n).toInt < (NF : Int)
  · obtain ⟨g, eg, g1, g2, g3⟩ := mm_of d1.1 hg
    obtain ⟨h10, h11, h12, h15, h13, h14⟩ := hF.2 g (by omega)
    have hK : KCK NF m ml f n a ↔ CSK NF m ml f n a := by
      unfold KCK CSK
      rw [hlt, e0', e2 (.inr k), e3 k, g3, h10, h13, (hF.2 f hf).1, alw_v i7 hT i2 d3 hlf, alw_v i7 hT i2 d4 hlf]
    unfold KCH CSH
    by_cases q : CSK NF m ml f n a
    · rw [pik_t q, pik_t (hK.mpr q), e0', e2 (.inr k), e3 k, g3, h14]
    · rw [pik_f q, pik_f (fun z => q (hK.mp z))]
  · unfold KCH CSH
    rw [pik_f (P := CSK NF m ml f n a) (fun z => hg z.1.1), pik_f (P := KCK NF m ml f n a) (fun z => hg (by have := z.1.1; rw [e0'] at this; exact this))]
theorem FSK_FSH (hI : IM m NB ND NF) (hT : TC NB m ml) (hN : NC ND m) (hF : FC NF m ml) (hf : f < NF) (hn : n < ND) : FSK NF m ml f n a b c = FSH NF m ml f n a b c := by
  obtain ⟨⟨⟨i1, i2⟩, i3, i4⟩, i5, i6, i7, i8, i9, -⟩ := id hI
  obtain ⟨b1, b2, b3, b4, b5⟩ := i8 n hn
  obtain ⟨e4, e5, e0, e1, e2, e3⟩ := hN.2 n hn
  obtain ⟨h10, h11, h12, h15, h13, h14⟩ := hF.2 f hf
  obtain ⟨i, ei, j1, j2, -⟩ := mm_of (n := 15) b1.1 (by omega)
  have hcase : i = 0 ∨ i = 1 ∨ i = 2 ∨ i = 3 ∨ i = 4 ∨ i = 5 ∨ i = 6 ∨ i = 7 ∨ i = 8 ∨ i = 9 ∨ i = 10 ∨ i = 11 ∨ i = 12 ∨ i = 13 ∨ i = 14 := by omega
  rcases hcase with rfl | rfl | rfl | rfl | rfl | rfl | rfl | rfl | rfl | rfl | rfl | rfl | rfl | rfl | rfl
  · rw [FSH_0 ei, FSK_0 (e4.trans ei)]
  · rw [FSH_1 ei, FSK_1 (e4.trans ei)]
  · rw [FSH_2 ei, FSK_2 (e4.trans ei)]
    exact h13
  · rw [FSH_3 ei, FSK_3 (e4.trans ei)]
  · rw [FSH_4 ei, FSK_4 (e4.trans ei)]
  · rw [FSH_5 ei, FSK_5 (e4.trans ei)]
  · rw [FSH_6 ei, FSK_6 (e4.trans ei)]
  · rw [FSH_7 ei, FSK_7 (e4.trans ei)]
  · rw [FSH_8 ei, FSK_8 (e4.trans ei)]
  · obtain ⟨t, t1, t2⟩ := b4 ei
    have e0' := (e0 (by rw [ei]; decide)).trans t2
    have hw := alw_t i7 hT t1 (i9 f hf).1
    rw [FSH_9 ei, FSK_9 (e4.trans ei), SHO_t (by omega) e0', h10, t2, nI_clamp (by omega)]
    by_cases h : wthn m t (m 194 f)
    · rw [pik_t h, pik_t (hw.mpr h)]
    · rw [pik_f h, pik_f (fun z => h (hw.mp z))]
  · rw [FSH_10 ei, FSK_10 (e4.trans ei)]
  · rw [FSH_11 ei, FSK_11 (e4.trans ei)]
  · rw [FSH_12 ei, FSK_12 (e4.trans ei)]
  · rw [FSH_13 ei, FSK_13 (e4.trans ei)]
  · rw [FSH_14 ei, FSK_14 (e4.trans ei)]
    exact KCH_CSH hI hT hN hF hf hn ei
theorem ksh_psh {S : Nat → Int64} {i : Nat} (hI : IM m NB ND NF) (hN : NC ND m) (hn : n < ND) (hi : i < 3) : ksh S m n i = psh S m n (nI i) := by
  obtain ⟨b1, b2, b3, b4, b5⟩ := hI.2.2.2.2.1 n hn
  obtain ⟨e4, e5, e0, e1, e2, e3⟩ := hN.2 n hn
  have ei : (nI i).toInt = i := mm_tI (by omega)
  unfold ksh psh
  rw [e4, ei]
  by_cases q : (i : Int) < (f_parts (m 188 n)).toInt
  · rw [if_pos q, if_pos q]
    have hk : k_part m n i = f_part m n (nI i) := by
      unfold k_part f_part
      rw [e4]
      by_cases k : m 188 n = 14
      · rw [if_pos k, if_pos k]
        exact e1 (.inr k)
      · rw [if_neg k, if_neg k]
        rcases (show i = 0 ∨ i = 1 ∨ i = 2 by omega) with rfl | rfl | rfl
        · rw [if_pos (show nI 0 = 0 from rfl)]
          refine e0 (fun z => ?_)
          rw [z, show f_parts 2 = 0 from by decide, mm_tt0] at q
          omega
        · rw [if_neg (by decide), if_pos (show nI 1 = 1 from rfl)]
          exact e1 (.inl (by omega))
        · rw [if_neg (by decide), if_neg (by decide)]
          exact e2 (.inl (by omega))
    rw [hk]
  · rw [if_neg q, if_neg q]
/-- the shapes that stand are those that findShape() finds -/
def JT (ND NF : Nat) (m : mm_P) (ml : mm_G) : Prop := ∀ f, f < NF → ∀ n, n < ND → ml (19 + f) n = FSK NF m ml f n (ksh (ml (19 + f)) m n 0) (ksh (ml (19 + f)) m n 1) (ksh (ml (19 + f)) m n 2)
theorem JT_XS (hI : IM m NB ND NF) (hT : TC NB m ml) (hN : NC ND m) (hF : FC NF m ml) (hJ : JT ND NF m ml) (hf : f < NF) : XS NB ND NF (ml (19 + f)) m ml f := by
  refine ⟨hI, hT, hf, fun j hj => ?_⟩
  rw [hJ f hf j hj, FSK_FSH hI hT hN hF hf hj, ksh_psh hI hN hj (by decide), ksh_psh hI hN hj (by decide), ksh_psh hI hN hj (by decide)]
  rfl
end MFF
/-- what is alike between two calls, and the class's shapes -/
def CJ (m : mm_P) (ml : mm_G) : Prop := CO m ml ∧ ∀ ND NF, m 3 5 = nI ND → m 9 7 = nI NF → ND ≤ 200 → NF ≤ 12 → JT ND NF m ml
section MMT
variable {L : Nat} {xs : Nat → Int32} {d : Nat} {Q : mm_QQ} {mi : mm_P} {ml : mm_G} {lim : Nat × Nat} {NB ND NF : Nat}
/-- what goThrough() leaves -/
theorem CO_go {m n : mm_P} (h : CO m ml) (hp : PR m n) (hg : GF m n) : CO n ml := by
  refine CO_c h (IC_k h.1 (fun c i q => hp c i ?_)) (fun c i q => ?_) ?_ (fun _ _ _ => rfl)
  · unfold pg
    have h1 : Nat.beq c 176 = false := by
      cases hb : Nat.beq c 176 with
      | false => rfl
      | true => exact absurd (Nat.eq_of_beq_eq_true hb) (by omega)
    have h2 : Nat.ble 177 c = false := by
      cases hb : Nat.ble 177 c with
      | false => rfl
      | true => exact absurd (Nat.le_of_ble_eq_true hb) (by omega)
    have h3 : Nat.ble 188 c = false := by
      cases hb : Nat.ble 188 c with
      | false => rfl
      | true => exact absurd (Nat.le_of_ble_eq_true hb) (by omega)
    have h4 : Nat.blt c 176 = true := Nat.ble_eq_true_of_le (by omega)
    rw [h1, h2, h3, h4]
    rfl
  · rcases q with q | q
    · exact hg c i (by unfold stC at q; omega) (by unfold stC at q; omega) (by unfold stC at q; omega)
    · unfold stM at q
      by_cases h7 : 177 ≤ c ∧ c ≤ 183
      · exact hp c i (pg_row h7.1 h7.2 (by omega))
      · exact hg c i (by omega) (by omega) (by omega)
  · rw [hg 176 51 (by decide) (by decide) (by decide)]
    exact h.2.2.1
theorem CJ_m {m n : mm_P} (h : CJ m ml) (hC : CO n ml) (hc : ∀ c i, c < 176 → n c i = m c i) : CJ n ml := by
  refine ⟨hC, fun ND NF h1 h2 h3 h4 f hf k hk => ?_⟩
  rw [hc 3 5 (by decide)] at h1
  rw [hc 9 7 (by decide)] at h2
  have h4' : n 4 = m 4 := funext fun i => hc 4 i (by decide)
  have h6' : n 6 = m 6 := funext fun i => hc 6 i (by decide)
  have h10' : n 10 = m 10 := funext fun i => hc 10 i (by decide)
  have hk' : ∀ i, ksh (ml (19 + f)) n k i = ksh (ml (19 + f)) m k i := fun i => by
    unfold ksh k_part
    rw [h4', h6']
  have hF : ∀ {a b c : Int64}, FSK NF n ml f k a b c = FSK NF m ml f k a b c := fun {a b c} => by
    have hKL : KLT n ml k = KLT m ml k := by
      unfold KLT
      rw [h6']
    have hKK : KCK NF n ml f k a = KCK NF m ml f k a := by
      unfold KCK
      rw [hKL, h6', h10']
    have hKC : KCH NF n ml f k a = KCH NF m ml f k a := by
      unfold KCH
      rw [h6']
      by_cases q : KCK NF m ml f k a
      · rw [pik_t q, pik_t (by rw [hKK]; exact q)]
      · rw [pik_f q, pik_f (by rw [hKK]; exact q)]
    unfold FSK
    rw [hKC, h4', h6', h10']
  rw [hk', hk', hk', hF]
  exact h.2 ND NF h1 h2 h3 h4 f hf k hk
theorem lx_typeIn {x1 x2 : Int32} {Q' : Int32 → Int32 → mm_P → mm_G → Prop} (hCJ : CJ mi ml) (hQ : ∀ v n m2, CJ n m2 → Q' v v n m2) : mm_cq (mm_call mm_ms (mm_tb L xs) (d + 20)) 150 [mm_R 0, mm_I x1, mm_I x2] mi ml (fun o n1 n2 => ∃ v, o = some (mm_I v) ∧ mm_cq (mm_call mm_ms (mm_tb L xs) (d + 20)) 195 [mm_R 176, mm_I x1, mm_I x2] n1 n2 (fun o2 n3 n4 => ∃ v2, o2 = some (mm_I v2) ∧ Q' v v2 n3 n4)) := by
  obtain ⟨hIC, ⟨NB, ND, NF, hI, hT, hN, hF⟩, h51, h41, hin⟩ := id hCJ.1
  have hNB := hI.1.1
  have hND := hI.1.2.1
  have hNF := hI.1.2.2
  have hK := KW_of hI hT hN hF
  have hJ := hCJ.2 ND NF hN.1 hF.1 hND hNF
  have n1 : ∀ {P : Prop}, (1 : Int32) = 0 → P := fun z => absurd z (by decide)
  have n0 : ∀ {P : Prop}, ¬ (0 : Int32) = 0 → P := fun z => absurd rfl z
  -- what the model answers where the class has answered v
  have hbad : (¬ ∃ f n, f < NF ∧ n < ND ∧ x1 = nI f ∧ x2 = nI n) → mm_cq (mm_call mm_ms (mm_tb L xs) (d + 20)) 195 [mm_R 176, mm_I x1, mm_I x2] mi ml (fun o2 n3 n4 => ∃ v2, o2 = some (mm_I v2) ∧ Q' (-2) v2 n3 n4) := fun nok => by
    have h16 : mm_WQ (mm_call mm_ms (mm_tb L xs) (d + 19)) (mm_tb L xs) mm_m195 (mm_li mm_m195) (fun o2 n3 n4 => ∃ v2, o2 = some (mm_I v2) ∧ Q' (-2) v2 n3 n4) 16 [some (mm_R 176), some (mm_I x1), some (mm_I x2)] [] mi ml := bk_X12_typeIn_16 (mm_call_m _) ⟨-2, rfl, hQ _ _ _ hCJ⟩
    exact en_X12_typeIn (bk_X12_typeIn_0 (mm_call_m _) (sp_fun hI (fun f f1 f2 => bk_X12_typeIn_5 (s0 := 1) (mm_call_m _) n1 (fun _ => sp_nod hI (fun b b1 b2 => absurd ⟨f, b, f1, b1, f2, b2⟩ nok) (fun _ => bk_X12_typeIn_13 (s0 := 0) (mm_call_m _) n0 (fun _ => h16)))) (fun _ => bk_X12_typeIn_5 (s0 := 0) (mm_call_m _) (fun _ => h16) n0)))
  have hgood : ∀ f n v, f < NF → n < ND → x1 = nI f → x2 = nI n → ((ml (19 + f) n).toInt < 0 → v = -1) → (0 ≤ (ml (19 + f) n).toInt → (∃ t, t < NB ∧ ml 2 t = ml (19 + f) n ∧ v = nI t) ∨ ((∀ t, t < NB → ¬ ml 2 t = ml (19 + f) n) ∧ v = -5)) → mm_cq (mm_call mm_ms (mm_tb L xs) (d + 20)) 195 [mm_R 176, mm_I x1, mm_I x2] mi ml (fun o2 n3 n4 => ∃ v2, o2 = some (mm_I v2) ∧ Q' v v2 n3 n4) := fun f n v hf hn ef en hv1 hv2 => by
    subst ef en
    have ec : (nI n).toNatClampNeg = n := nI_clamp (by omega)
    have e200 : (200 : Int32).toInt = 200 := rfl
    refine en_X12_typeIn (bk_X12_typeIn_0 (mm_call_m _) (sp_fun hI (fun f' g1 g2 => bk_X12_typeIn_5 (s0 := 1) (mm_call_m _) n1 (fun _ => sp_nod hI (fun b b1 b2 => bk_X12_typeIn_13 (s0 := 1) (mm_call_m _) (fun _ => ?_) n1) (fun q => absurd rfl (q n hn)))) (fun q => absurd rfl (q f hf))))
    refine sx_goThrough (JT_XS hI hT hN hF hJ hf) (fun w TY hG => ?_)
    have hCJw : CJ w ml := CJ_m hCJ (CO_go hCJ.1 hG.1 hG.2.2.2.2) (fun c i q => hG.2.2.2.2 c i (by omega) (by omega) (by omega))
    have hTw : TC NB w ml := TC_c hT (hG.1 1 1 rfl) (fun t ht c a b => hG.1 c t (pg_row a b (by omega))) (fun _ _ => rfl)
    have hWw := TX_W hG.2.1
    refine bk_X12_typeIn_24 (mm_call_m _) (vp_in_nI (by omega) (by decide)) (vp_in_nI (by omega) (by decide)) (fun z => ?_) (fun z => ?_) <;> rw [ec] at z ⊢
    · refine en_X12_named (bk_X12_named_0 (mm_call_m _) (fun y => absurd rfl y) (fun y => absurd rfl y) (fun _ => bk_X12_typeIn_49 (mm_call_m _) ⟨-1, rfl, ?_⟩))
      rcases hG.2.2.2.1 n hn with ⟨q1, q2⟩ | ⟨r, q1, q2, q3, q4⟩
      · rw [hv1 (by rw [q2, mm_lln]; omega)]
        exact hQ _ _ _ hCJw
      · have := vd_lt q2 hNB.2 hG.2.1.1.2.1.2
        exact absurd (q1.symm.trans z) (nI_ne (by omega))
    · rcases hG.2.2.2.1 n hn with ⟨q1, q2⟩ | ⟨r, q1, q2, q3, q4⟩
      · exact absurd q1 z
      · have hr8 := vd_lt q2 hNB.2 hG.2.1.1.2.1.2
        have hr0 := (SHV_r hWw q2 q3).1.1
        rw [q4] at hr0
        rw [q1]
        refine en_X12_named (bk_X12_named_0 (mm_call_m _) (fun _ y => bk_X12_typeIn_49 (mm_call_m _) ⟨-5, rfl, ?_⟩) (fun _ y => bk_X12_typeIn_49 (mm_call_m _) ⟨nI r, rfl, ?_⟩) (fun y => n1 y))
        · have y' := mm_leI y
          rw [mm_tI (by omega), e200] at y'
          rcases hv2 hr0 with ⟨t, t1, t2, t3⟩ | ⟨t2, t3⟩
          · exfalso
            have e : SHV w t = SHV w r := by rw [q4, SHV_ml hWw hTw t1, t2]
            have := SHV_i hWw hG.2.1.2.2 (t + 1) t r (Nat.lt_succ_self t) (.inl t1) q2 (by rw [e, q4]; exact hr0) e
            omega
          · rw [t3]
            exact hQ _ _ _ hCJw
        · have y' := mm_nleI y
          rw [mm_tI (by omega), e200] at y'
          have hrN : r < NB := by
            unfold vd at q2
            omega
          have e : ml 2 r = ml (19 + f) n := by rw [← SHV_ml hWw hTw hrN, q4]
          rcases hv2 hr0 with ⟨t, t1, t2, t3⟩ | ⟨t2, t3⟩
          · have : t = r := hT.2.2 t r t1 hrN (t2.trans e.symm)
            rw [t3, this]
            exact hQ _ _ _ hCJw
          · exact absurd e (t2 r hrN)
  have h22 : (¬ ∃ f n, f < NF ∧ n < ND ∧ x1 = nI f ∧ x2 = nI n) → mm_WQ (mm_call mm_ms (mm_tb L xs) (d + 19)) (mm_tb L xs) mm_m150 (mm_li mm_m150) (fun o n1 n2 => ∃ v, o = some (mm_I v) ∧ mm_cq (mm_call mm_ms (mm_tb L xs) (d + 20)) 195 [mm_R 176, mm_I x1, mm_I x2] n1 n2 (fun o2 n3 n4 => ∃ v2, o2 = some (mm_I v2) ∧ Q' v v2 n3 n4)) 22 [some (mm_R 0), some (mm_I x1), some (mm_I x2)] [] mi ml := fun nok => bk_X11_typeIn_22 (mm_call_m _) ⟨-2, rfl, hbad nok⟩
  refine en_X11_typeIn (bk_X11_typeIn_0 (mm_call_m _) (sx_has2 hF.1 hNF (fun f f1 f2 => bk_X11_typeIn_8 (s0 := 1) (mm_call_m _) n1 (fun _ => sx_has7 hN.1 hND (fun n b1 b2 => bk_X11_typeIn_19 (s0 := 1) (mm_call_m _) (fun _ => ?_) n1) (fun q => bk_X11_typeIn_19 (s0 := 0) (mm_call_m _) n0 (fun _ => h22 (fun ⟨_, n, _, y1, _, y2⟩ => q ⟨n, y1, y2⟩))))) (fun q => bk_X11_typeIn_8 (s0 := 0) (mm_call_m _) (fun _ => h22 (fun ⟨f, _, y1, _, y2, _⟩ => q f y1 y2)) n0)))
  have hg := hgood f n
  subst f2 b2
  refine sx_shapeIn hK f1 (fun p p1 p2 => bk_X11_typeIn_38 (mm_call_m _) ?_) (fun z => absurd ⟨n, b1, rfl⟩ z)
  have : n = p := nI_inj (by omega) (by omega) p2
  subst this
  refine sx_tell hT.1 hNB.2 (fun z => bk_X11_typeIn_41 (mm_call_m _) ⟨-1, rfl, hg _ f1 b1 rfl rfl (fun _ => rfl) (fun y => by omega)⟩) (fun z t t1 t2 => bk_X11_typeIn_41 (mm_call_m _) ⟨nI t, rfl, hg _ f1 b1 rfl rfl (fun y => by omega) (fun _ => .inl ⟨t, t1, t2, rfl⟩)⟩) (fun z t2 => bk_X11_typeIn_41 (mm_call_m _) ⟨-5, rfl, hg _ f1 b1 rfl rfl (fun y => by omega) (fun _ => .inr ⟨t2, rfl⟩)⟩)
end MMT
