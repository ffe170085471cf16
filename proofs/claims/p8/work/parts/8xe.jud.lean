/-! ===== uses and verdict stand between two calls ===== -/
def UV (m : mm_P) (ml : mm_G) : Prop := UT m ∧ VP m ml (m 0 9)
def mm_uvW (W : List (Nat × Nat × Nat)) : Bool := !(mm_wr W 9 7) && (!(mm_wr W 0 9) && ([4, 6, 10, 14, 15, 16].all (mm_avC W) && (List.range 12).all (fun j => mm_avC W (19 + j))))
section MUV
variable {m n w : mm_P} {ml n2 : mm_G} {NB ND NF : Nat}
theorem CAL_c {b g : Nat} (h4 : ∀ i, w 4 i = m 4 i) (h6 : ∀ i, w 6 i = m 6 i) : CAL w b g ↔ CAL m b g := by
  constructor
  · rintro ⟨n, a, b, c⟩
    exact ⟨n, (BL_c h4 h6).mp a, (h4 n).symm.trans b, (h6 _).symm.trans c⟩
  · rintro ⟨n, a, b, c⟩
    exact ⟨n, (BL_c h4 h6).mpr a, (h4 n).trans b, (h6 _).trans c⟩
theorem UV_f {W : List (Nat × Nat × Nat)} (h : UV m ml) (hW : mm_uvW W = true) (hf : mm_fw W m ml n n2) : UV n n2 := by
  unfold mm_uvW at hW
  simp only [Bool.and_eq_true, Bool.not_eq_true'] at hW
  obtain ⟨w97, w09, wc, wr⟩ := hW
  have hv : ∀ c i, [4, 6, 10, 14, 15, 16].contains c = true → mm_wr W c i = false := fun c i q => mm_avC_s (List.all_eq_true.mp wc c (List.contains_iff_mem.mp q))
  have h19 : ∀ f i, f < 12 → mm_wr W (19 + f) i = false := fun f i hf => mm_avC_s (List.all_eq_true.mp wr f (List.mem_range.mpr hf))
  have hp : PB m n := PB_of (fun c i q => (hf c i (by
    rcases q with q | q | q | q | q
    · rw [q]; exact hv 4 i rfl
    · rw [q]; exact hv 6 i rfl
    · rw [q.1, q.2]; exact w97
    · rw [q]; exact hv 10 i rfl
    · rw [q]; exact hv 15 i rfl)).1)
  refine ⟨UT_pb hp (fun i _ => (hf 16 i (hv 16 i rfl)).1) h.1, ?_⟩
  rw [(hf 0 9 w09).1]
  exact VP_pb hp (fun f b f1 _ _ _ => ⟨(hf _ b (h19 f b f1)).2, (hf 14 f (hv 14 f rfl)).2⟩) h.2
theorem UV_lo (h : UV m ml) (hp : ∀ c i, c < 176 → n c i = m c i) : UV n ml := by
  have hb : PB m n := PB_of (fun c i q => hp c i (by omega))
  refine ⟨UT_pb hb (fun i _ => hp 16 i (by decide)) h.1, ?_⟩
  rw [hp 0 9 (by decide)]
  exact VP_pb hb (fun _ _ _ _ _ _ => ⟨rfl, rfl⟩) h.2
theorem UV_ja (hu : UT m) (hf : mm_fw mm_w_X11_judgeAnew m ml n n2) (hv : VP m ml (n 0 9)) : UV n n2 := by
  have hc : ∀ c i, (c = 4 ∨ c = 6 ∨ c = 10 ∨ c = 14 ∨ c = 15 ∨ c = 16) → mm_wr mm_w_X11_judgeAnew c i = false := fun c i q => by
    rcases q with rfl | rfl | rfl | rfl | rfl | rfl <;> exact mm_avC_s (by decide +kernel)
  have hp : PB m n := PB_of (fun c i q => (hf c i (by
    rcases q with q | q | q | q | q
    · exact hc c i (by omega)
    · exact hc c i (by omega)
    · rw [q.1, q.2]; decide +kernel
    · exact hc c i (by omega)
    · exact hc c i (by omega))).1)
  exact ⟨UT_pb hp (fun i _ => (hf 16 i (hc 16 i (by omega))).1) hu, VP_pb hp (fun f b f1 _ _ _ => ⟨(hf _ b (jud_19 (by omega) (by omega))).2, (hf 14 f (hc 14 f (by omega))).2⟩) hv⟩
/-- cells that the class's judge rests on -/
theorem WJ_c (h : WJ NB ND NF m) (hc : ∀ c i, ((c = 1 ∧ i = 1) ∨ (c = 3 ∧ i = 5) ∨ c = 4 ∨ c = 5 ∨ c = 6 ∨ (c = 9 ∧ i = 7) ∨ c = 10 ∨ c = 15 ∨ c = 16) → w c i = m c i) : WJ NB ND NF w := by
  obtain ⟨⟨⟨k1, k2, k3⟩, k4⟩, h2, h3, h4, h5⟩ := h
  have kp : ∀ n i, k_part w n i = k_part m n i := fun n i => by
    unfold k_part
    rw [hc 4 n (by omega), hc 6 _ (by omega), hc 6 _ (by omega)]
  refine ⟨⟨⟨(hc 1 1 (by omega)).trans k1, (hc 3 5 (by omega)).trans k2, (hc 9 7 (by omega)).trans k3⟩, k4⟩, fun q hq => okK_e (h2 q hq) (fun c i q => hc c i (by omega)), fun q hq => ⟨by rw [hc 5 q (by omega)]; exact (h3 q hq).1, fun i hi => ?_⟩, fun f hf => ?_, UT_pb (PB_of (fun c i q => hc c i (by omega))) (fun i _ => hc 16 i (by omega)) h5⟩
  · rw [hc 4 q (by omega)] at hi
    rw [kp, hc 5 _ (by omega), hc 5 q (by omega)]
    exact (h3 q hq).2 i hi
  · rw [hc 15 f (by omega)]
    exact h4 f hf
theorem WJ_of (hI : IM m NB ND NF) (hT : TC NB m ml) (hN : NC ND m) (hF : FC NF m ml) (hu : UT m) : WJ NB ND NF m :=
  ⟨KW_of hI hT hN hF, fun q hq => okK_of hI hN hq, dep_of hI hN, fun f hf => by rw [(hF.2 f hf).2.2.2.1]; exact (hI.2.2.2.2.2.1 f hf).2.2.2, hu⟩
end MUV
section MMT
variable {L : Nat} {xs : Nat → Int32} {d : Nat} {Q : mm_QQ} {mi : mm_P} {ml : mm_G} {lim : Nat × Nat} {NB ND NF : Nat}
/-! usesUnder(): a bit for each function that is called -/
theorem uu_9 {c : Nat} {x1 : Int32} {w : mm_P} (hK : KW NB ND NF w) (hok : ∀ q, q < ND → okK NB w q) (h36 : w 3 6 = nI c) (hc : c ≤ 200) (hmet : ∀ i, i < c → ∃ p, p < ND ∧ w 8 i = nI p) (hQ : ∀ u, (∀ g, g < 12 → (bb_t u g = true ↔ ∃ e p, e < c ∧ p < ND ∧ w 8 e = nI p ∧ w 4 p = 14 ∧ w 6 (4 * p) = nI g)) → Q (some (mm_I u)) w ml) : ∀ (j i : Nat) (x : Int32) {x4 : Option mm_V}, i + j = c → (∀ g, g < 12 → (bb_t x g = true ↔ ∃ e p, e < i ∧ p < ND ∧ w 8 e = nI p ∧ w 4 p = 14 ∧ w 6 (4 * p) = nI g)) → mm_WQ (mm_call mm_ms (mm_tb L xs) (d + 2)) (mm_tb L xs) mm_m105 lim Q 9 [some (mm_R 3), some (mm_I x1), some (mm_I x), some (mm_I (nI i)), x4] [] w ml := by
  obtain ⟨⟨k1, k2, k3⟩, n1, n2, n3⟩ := id hK
  intro j
  induction j with
  | zero =>
    intro i x x4 h hB
    have hi : i = c := by omega
    subst hi
    refine bk_X7_usesUnder_9 (mm_call_m _) (fun _ => hQ x hB) (fun z => absurd ?_ z)
    rw [h36]
    exact Int32.le_refl _
  | succ j ih =>
    intro i x x4 h hB
    obtain ⟨p, p1, p2⟩ := hmet i (by omega)
    have h47 : ∀ x', (∀ g, g < 12 → (bb_t x' g = true ↔ ∃ e p, e < i + 1 ∧ p < ND ∧ w 8 e = nI p ∧ w 4 p = 14 ∧ w 6 (4 * p) = nI g)) → mm_WQ (mm_call mm_ms (mm_tb L xs) (d + 2)) (mm_tb L xs) mm_m105 lim Q 47 [some (mm_R 3), some (mm_I x1), some (mm_I x'), some (mm_I (nI i)), some (mm_I (nI p))] [] w ml := fun x' hx => by
      refine bk_X7_usesUnder_47 (mm_call_m _) ?_
      rw [show nI i + 1 = nI (i + 1) from (nI_succ i).symm]
      exact ih (i + 1) x' (by omega) hx
    have hex : ∀ g, (∃ e p', e < i + 1 ∧ p' < ND ∧ w 8 e = nI p' ∧ w 4 p' = 14 ∧ w 6 (4 * p') = nI g) ↔ ((∃ e p', e < i ∧ p' < ND ∧ w 8 e = nI p' ∧ w 4 p' = 14 ∧ w 6 (4 * p') = nI g) ∨ (w 4 p = 14 ∧ w 6 (4 * p) = nI g)) := fun g => by
      constructor
      · rintro ⟨e, p', e1, e2, e3, e4, e5⟩
        by_cases hei : e = i
        · subst hei
          have : p = p' := nI_inj (by omega) (by omega) (p2.symm.trans e3)
          subst this
          exact .inr ⟨e4, e5⟩
        · exact .inl ⟨e, p', by omega, e2, e3, e4, e5⟩
      · rintro (⟨e, p', e1, e2, e3, e4, e5⟩ | ⟨e4, e5⟩)
        · exact ⟨e, p', by omega, e2, e3, e4, e5⟩
        · exact ⟨i, p, by omega, p1, p2, e4, e5⟩
    refine bk_X7_usesUnder_9 (mm_call_m _) (fun z => ?_) (fun _ => sx_metAt h36 hc (by omega) (bk_X7_usesUnder_22 (mm_call_m _) ?_))
    · have := mm_leI z
      rw [h36, mm_tI (by omega), mm_tI (by omega)] at this
      omega
    · rw [p2]
      refine sx_kind7 hK p1 (bk_X7_usesUnder_30 (mm_call_m _) (fun z => h47 x (fun g hg => ?_)) (fun z => sx_wantedAt (i := 0) k2 n2 p1 (by decide) (bk_X7_usesUnder_44 (mm_call_m _) ?_)))
      · rw [hB g hg, hex g]
        exact ⟨fun q => .inl q, fun q => q.elim id (fun q => absurd q.1 z)⟩
      · obtain ⟨c2, -⟩ := ((hok p p1).2.2.2 z).2
        obtain ⟨g0, eg, g1, g2, -⟩ := mm_of c2.1 c2.2
        rw [show w 6 (4 * p + 0) = nI g0 from eg]
        refine h47 _ (fun g hg => ?_)
        rw [bb_ort, hB g hg, bb_sh1 g0 (by omega) g hg, decide_eq_true_eq, hex g]
        constructor
        · rintro (q | q)
          · exact .inl q
          · rw [q]
            exact .inr ⟨z, eg⟩
        · rintro (q | q)
          · exact .inl q
          · exact .inr (nI_inj (by omega) (by omega) (q.2.symm.trans eg))
theorem sx_usesUnder {n : Nat} (hK : KW NB ND NF mi) (hok : ∀ q, q < ND → okK NB mi q) (hdep : ∀ q, q < ND → (1 ≤ (mi 5 q).toInt ∧ (mi 5 q).toInt ≤ 12) ∧ ∀ i : Nat, (i : Int) < (f_parts (mi 4 q)).toInt → (mi 5 (k_part mi q i).toNatClampNeg).toInt < (mi 5 q).toInt) (hn : n < ND) (hQ : ∀ w u c, MW mi w → w 3 6 = nI c → c ≤ 200 → (∀ g, g < 12 → (bb_t u g = true ↔ CAL mi n g)) → Q (some (mm_I u)) w ml) : mm_cq (mm_call mm_ms (mm_tb L xs) (d + 16)) 105 [mm_R 3, mm_I (nI n)] mi ml Q := by
  have n2 := hK.2.2.1
  refine en_X7_usesUnder (bk_X7_usesUnder_0 (mm_call_m _) (sx_meetUnder (d := d) hK hok hdep hn (fun w c hM h36 hc q1 q2 => bk_X7_usesUnder_5 (mm_call_m _) (uu_9 (d := d + 13) (KW_mw hK hM) (fun q hq => okK_mw (hok q hq) hM) h36 hc (fun i hi => ?_) (fun u hu => hQ w u c hM h36 hc (fun g hg => ?_)) c 0 0 (by omega) (fun g _ => ⟨fun q => absurd q bb_z, fun ⟨e, p, e1, _⟩ => absurd e1 (Nat.not_lt_zero _)⟩)))))
  · obtain ⟨p, p1, p2⟩ := q1 i hi
    have := BL_le n2 hok hn p2
    exact ⟨p, by omega, p1⟩
  · have h4 : ∀ i, w 4 i = mi 4 i := fun i => hM 4 i (by decide) (by decide) (by omega)
    have h6 : ∀ i, w 6 i = mi 6 i := fun i => hM 6 i (by decide) (by decide) (by omega)
    rw [hu g hg]
    constructor
    · rintro ⟨e, p, e1, e2, e3, e4, e5⟩
      obtain ⟨p', p1, p2⟩ := q1 e e1
      have hp' := BL_le n2 hok hn p2
      have : p' = p := nI_inj (by omega) (by omega) (p1.symm.trans e3)
      subst this
      exact ⟨p', p2, (h4 _).symm.trans e4, (h6 _).symm.trans e5⟩
    · rintro ⟨p, p1, p2, p3⟩
      obtain ⟨e, e1, e2⟩ := q2 p p1
      have := BL_le n2 hok hn p1
      exact ⟨e, p, e1, by omega, e2, (h4 p).trans p2, (h6 _).trans p3⟩
/-! body() -/
theorem ux_body {x1 x2 : Int32} (hCJ : CJ mi ml) (hUV : UV mi ml) : mm_cq (mm_call mm_ms (mm_tb L xs) (d + 20)) 148 [mm_R 0, mm_I x1, mm_I x2] mi ml (fun _ n1 n2 => UV n1 n2) := by
  obtain ⟨hIC, ⟨NB, ND, NF, hI, hT, hN, hF⟩, h51, h41, hin⟩ := id hCJ.1
  have hND := hI.1.2.1
  have hNF := hI.1.2.2
  have e97 : (mi 9 7).toInt = NF := by rw [hF.1]; exact mm_tI (by omega)
  have hWJ := WJ_of hI hT hN hF hUV.1
  have n1 : ∀ {P : Prop}, (1 : Int32) = 0 → P := fun z => absurd z (by decide)
  have n0 : ∀ {P : Prop}, ¬ (0 : Int32) = 0 → P := fun z => absurd rfl z
  have h22 : mm_WQ (mm_call mm_ms (mm_tb L xs) (d + 19)) (mm_tb L xs) mm_m148 (mm_li mm_m148) (fun _ n1 n2 => UV n1 n2) 22 [some (mm_R 0), some (mm_I x1), some (mm_I x2)] [] mi ml := bk_X11_body_22 (mm_call_m _) hUV
  refine en_X11_body (bk_X11_body_0 (mm_call_m _) (sx_has2 hF.1 hNF (fun f f1 f2 => bk_X11_body_8 (s0 := 1) (mm_call_m _) n1 (fun _ => sx_has7 hN.1 hND (fun n e1 e2 => bk_X11_body_19 (s0 := 1) (mm_call_m _) (fun _ => ?_) n1) (fun q => bk_X11_body_19 (s0 := 0) (mm_call_m _) n0 (fun _ => h22)))) (fun q => bk_X11_body_8 (s0 := 0) (mm_call_m _) (fun _ => h22) n0)))
  subst f2 e2
  refine sx_usesUnder (d := d + 3) hWJ.1 hWJ.2.1 hWJ.2.2.1 e1 (fun w u c hM h36 hc hu => bk_X11_body_39 (mm_call_m _) ?_)
  have hw97 : w 9 7 = nI NF := (hM 9 7 (by decide) (by decide) (by decide)).trans hF.1
  refine en_X2_giveBody (bk_X2_giveBody_0 (mm_call_m _) (sx_has2 hw97 hNF (fun t _ _ => bk_X2_giveBody_5 (s0 := 1) (mm_call_m _) n1 (fun _ => vp_in_nI (by omega) (by decide)) (fun _ => vp_in_nI (by omega) (by decide)) (fun _ => bk_X2_giveBody_22 (mm_call_m _) (bk_X11_body_42 (mm_call_m _) ?_))) (fun q => absurd rfl (q f f1))))
  rw [nI_clamp (by omega)]
  have hIC2 : mm_IC (mm_u (mm_u w 15 f (nI n)) 16 f u) := by
    refine mm_IC_n (mm_IC_n (IC_mw hIC hM h36 hc) ?_ ?_ ?_ ?_ ?_) ?_ ?_ ?_ ?_ ?_ <;> decide
  have hcl : ∀ c i, ¬ c = 7 → ¬ c = 8 → ¬ (c = 3 ∧ i = 6) → ¬ (c = 15 ∧ i = f) → ¬ (c = 16 ∧ i = f) → mm_u (mm_u w 15 f (nI n)) 16 f u c i = mi c i := fun c i a b e g k => by
    rw [mm_u_o k, mm_u_o g]
    exact hM c i a b e
  have h4 : ∀ i, mm_u (mm_u w 15 f (nI n)) 16 f u 4 i = mi 4 i := fun i => hcl 4 i (by decide) (by decide) (by omega) (by omega) (by omega)
  have h6 : ∀ i, mm_u (mm_u w 15 f (nI n)) 16 f u 6 i = mi 6 i := fun i => hcl 6 i (by decide) (by decide) (by omega) (by omega) (by omega)
  have h97 : mm_u (mm_u w 15 f (nI n)) 16 f u 9 7 = mi 9 7 := hcl 9 7 (by decide) (by decide) (by omega) (by omega) (by omega)
  have h15 : mm_u (mm_u w 15 f (nI n)) 16 f u 15 f = nI n := (mm_u_e (by decide)).trans mm_u_s
  have hUT2 : UT (mm_u (mm_u w 15 f (nI n)) 16 f u) := fun a g ha hg => by
    by_cases haf : a = f
    · subst haf
      unfold EU
      rw [mm_u_s, hu g hg]
      constructor
      · intro q
        exact ⟨n, by omega, by rw [h97]; omega, h15, (CAL_c h4 h6).mpr q⟩
      · rintro ⟨b, b1, b2, b3, b4⟩
        have : n = b := nI_inj (by omega) (by omega) (h15.symm.trans b3)
        subst this
        exact (CAL_c h4 h6).mp b4
    · have e1 : mm_u (mm_u w 15 f (nI n)) 16 f u 16 a = mi 16 a := hcl 16 a (by decide) (by decide) (by omega) (by omega) (by omega)
      have e2 : mm_u (mm_u w 15 f (nI n)) 16 f u 15 a = mi 15 a := hcl 15 a (by decide) (by decide) (by omega) (by omega) (by omega)
      have h0 := hUV.1 a g ha hg
      unfold EU at h0 ⊢
      rw [e1, h0]
      constructor
      · rintro ⟨b, b1, b2, b3, b4⟩
        exact ⟨b, b1, by rw [h97]; exact b2, e2.trans b3, (CAL_c h4 h6).mpr b4⟩
      · rintro ⟨b, b1, b2, b3, b4⟩
        rw [h97] at b2
        exact ⟨b, b1, b2, e2.symm.trans b3, (CAL_c h4 h6).mp b4⟩
  have hW2 : WJ NB ND NF (mm_u (mm_u w 15 f (nI n)) 16 f u) := by
    obtain ⟨⟨⟨k1, k2, k3⟩, k4⟩, g2, g3, g4, g5⟩ := hWJ
    have kp : ∀ a i, k_part (mm_u (mm_u w 15 f (nI n)) 16 f u) a i = k_part mi a i := fun a i => by
      unfold k_part
      rw [h4, h6, h6]
    have h5 : ∀ i, mm_u (mm_u w 15 f (nI n)) 16 f u 5 i = mi 5 i := fun i => hcl 5 i (by decide) (by decide) (by omega) (by omega) (by omega)
    refine ⟨⟨⟨(hcl 1 1 (by decide) (by decide) (by omega) (by omega) (by omega)).trans k1, (hcl 3 5 (by decide) (by decide) (by omega) (by omega) (by omega)).trans k2, h97.trans k3⟩, k4⟩, fun q hq => okK_e (g2 q hq) (fun c i q => hcl c i (by omega) (by omega) (by omega) (by omega) (by omega)), fun q hq => ⟨by rw [h5]; exact (g3 q hq).1, fun i hi => ?_⟩, fun a ha => ?_, hUT2⟩
    · rw [h4] at hi
      rw [kp, h5, h5]
      exact (g3 q hq).2 i hi
    · by_cases haf : a = f
      · rw [haf, h15]
        exact .inr ⟨n, e1, rfl⟩
      · rw [hcl 15 a (by decide) (by decide) (by omega) (by omega) (by omega)]
        exact g4 a ha
  exact sx_judgeAnew hIC2 hW2 (fun k1 k2 _ kf hv => bk_X11_body_46 (mm_call_m _) (UV_ja hUT2 kf hv))
/-! function() -/
theorem uf_101 {x1 x2 x3 : Int32} {x4 x6 : Int64} {x8 : Int32} {w0 : mm_P} (hW : WJ NB ND NF w0) : ∀ (j i : Nat) (w : mm_P) (wl : mm_G), i + j = ND → mm_IC w → (∀ c k, ¬ (19 ≤ c ∧ c ≤ 30) → w c k = w0 c k) → mm_WQ (mm_call mm_ms (mm_tb L xs) (d + 19)) (mm_tb L xs) mm_m147 lim (fun _ n1 n2 => UV n1 n2) 101 [some (mm_R 0), some (mm_I x1), some (mm_I x2), some (mm_I x3), some (mm_L x4), none, some (mm_L x6), none, some (mm_I x8), some (mm_I (nI i))] [] w wl := by
  have hND := hW.1.2.2.1
  intro j
  induction j with
  | zero =>
    intro i w wl h hIC hw
    have hi : i = ND := by omega
    subst hi
    have hWw : WJ NB i NF w := WJ_c hW (fun c k q => hw c k (by omega))
    refine bk_X11_function_101 (mm_call_m _) (en_X7_size (bk_X7_size_0 (mm_call_m _) (bk_X11_function_110 (mm_call_m _) (fun _ => ?_) (fun z => ?_))))
    · exact sx_judgeAnew hIC hWw (fun n1 n2 _ hf hv => bk_X11_function_132 (mm_call_m _) (UV_ja hWw.2.2.2.2 hf hv))
    · exact absurd (by rw [hWw.1.1.2.1]; exact Int32.le_refl _) z
  | succ j ih =>
    intro i w wl h hIC hw
    have h35 : w 3 5 = nI ND := (hw 3 5 (by omega)).trans hW.1.1.2.1
    refine bk_X11_function_101 (mm_call_m _) (en_X7_size (bk_X7_size_0 (mm_call_m _) (bk_X11_function_110 (mm_call_m _) (fun z => ?_) (fun z => ?_))))
    · have := mm_leI z
      rw [h35, mm_tI (by omega), mm_tI (by omega)] at this
      omega
    · refine sc_X4_fillNode hIC (fun n1 n2 hi hf => bk_X11_function_122 (mm_call_m _) ?_)
      rw [show nI i + 1 = nI (i + 1) from (nI_succ i).symm]
      exact ih (i + 1) n1 n2 (by omega) hi (fun c k q => ((hf c k (fill_w q)).1).trans (hw c k q))
theorem ux_function {x1 x2 x3 : Int32} (hCJ : CJ mi ml) (hUV : UV mi ml) : mm_cq (mm_call mm_ms (mm_tb L xs) (d + 20)) 147 [mm_R 0, mm_I x1, mm_I x2, mm_I x3] mi ml (fun _ n1 n2 => UV n1 n2) := by
  obtain ⟨hIC, ⟨NB, ND, NF, hI, hT, hN, hF⟩, h51, h41, hin⟩ := id hCJ.1
  have hNB := hI.1.1
  have hND := hI.1.2.1
  have hNF := hI.1.2.2
  have e97 : (mi 9 7).toInt = NF := by rw [hF.1]; exact mm_tI (by omega)
  have hWJ := WJ_of hI hT hN hF hUV.1
  have n1 : ∀ {P : Prop}, (1 : Int32) = 0 → P := fun z => absurd z (by decide)
  have n0 : ∀ {P : Prop}, ¬ (0 : Int32) = 0 → P := fun z => absurd rfl z
  have h31 : mm_WQ (mm_call mm_ms (mm_tb L xs) (d + 19)) (mm_tb L xs) mm_m147 (mm_li mm_m147) (fun _ n1 n2 => UV n1 n2) 31 [some (mm_R 0), some (mm_I x1), some (mm_I x2), some (mm_I x3), none, none, none, none, none, none] [] mi ml := bk_X11_function_31 (mm_call_m _) hUV
  refine en_X11_function (bk_X11_function_0 (mm_call_m _) (fun _ => h31) (fun _ _ => h31) (fun _ _ => sx_has8 hT.1 hNB.2 (fun t t1 t2 => bk_X11_function_17 (s0 := 1) (mm_call_m _) n1 (fun _ => sx_has8 hT.1 hNB.2 (fun u u1 u2 => bk_X11_function_28 (s0 := 1) (mm_call_m _) (fun _ => ?_) n1) (fun _ => bk_X11_function_28 (s0 := 0) (mm_call_m _) n0 (fun _ => h31)))) (fun _ => bk_X11_function_17 (s0 := 0) (mm_call_m _) (fun _ => h31) n0)))
  subst t2 u2
  have h72 : mm_WQ (mm_call mm_ms (mm_tb L xs) (d + 19)) (mm_tb L xs) mm_m147 (mm_li mm_m147) (fun _ n1 n2 => UV n1 n2) 72 [some (mm_R 0), some (mm_I x1), some (mm_I (nI t)), some (mm_I (nI u)), some (mm_L (ml 2 t)), none, some (mm_L (ml 2 u)), none, none, none] [] mi ml := bk_X11_function_72 (mm_call_m _) hUV
  refine sx_shapeOf hT.1 hNB.2 t1 (bk_X11_function_42 (mm_call_m _) (sx_shapeOf hT.1 hNB.2 u1 (bk_X11_function_52 (mm_call_m _) (sx_lettersAllow (fun _ => bk_X11_function_60 (s0 := 1) (mm_call_m _) n1 (fun _ => sx_lettersAllow (fun _ => bk_X11_function_69 (s0 := 1) (mm_call_m _) (fun _ => ?_) n1) (fun _ => bk_X11_function_69 (s0 := 0) (mm_call_m _) n0 (fun _ => h72)))) (fun _ => bk_X11_function_60 (s0 := 0) (mm_call_m _) (fun _ => h72) n0)))))
  refine sx_add2 hF.1 hNF (fun q => bk_X11_function_89 (s0 := -4) (mm_call_m _) (fun _ => bk_X11_function_132 (mm_call_m _) hUV) (fun w => absurd rfl w)) (fun hlt => bk_X11_function_89 (mm_call_m _) (fun q => ?_) (fun _ => ?_))
  · exfalso
    have := congrArg Int32.toInt q
    rw [mm_tI (by omega), mm_tn4] at this
    omega
  · have hIC' : mm_IC (F5 mi NF x1 (nI t) (nI u)) := by
      unfold F5
      refine mm_IC_97 (mm_IC_n (mm_IC_n (mm_IC_n (mm_IC_n hIC ?_ ?_ ?_ ?_ ?_) ?_ ?_ ?_ ?_ ?_) ?_ ?_ ?_ ?_ ?_) ?_ ?_ ?_ ?_ ?_) (by rw [mm_tI (by omega)]; omega) <;> decide
    have h4 : ∀ i, F5 mi NF x1 (nI t) (nI u) 4 i = mi 4 i := fun i => F5_o (by omega) (by omega)
    have h5 : ∀ i, F5 mi NF x1 (nI t) (nI u) 5 i = mi 5 i := fun i => F5_o (by omega) (by omega)
    have h6 : ∀ i, F5 mi NF x1 (nI t) (nI u) 6 i = mi 6 i := fun i => F5_o (by omega) (by omega)
    have h16 : ∀ i, F5 mi NF x1 (nI t) (nI u) 16 i = mi 16 i := fun i => F5_o (by omega) (by omega)
    have h15 : ∀ i, ¬ i = NF → F5 mi NF x1 (nI t) (nI u) 15 i = mi 15 i := fun i q => F5_o (by omega) (by omega)
    have v15 : F5 mi NF x1 (nI t) (nI u) 15 NF = -1 := F5_v.2.2.2.1
    have v97 : F5 mi NF x1 (nI t) (nI u) 9 7 = nI (NF + 1) := F5_v.2.2.2.2
    have e97' : (F5 mi NF x1 (nI t) (nI u) 9 7).toInt = (NF : Int) + 1 := by rw [v97, mm_tI (by omega)]; omega
    have hUT2 : UT (F5 mi NF x1 (nI t) (nI u)) := fun a g ha hg => by
      have h0 := hUV.1 a g ha hg
      unfold EU at h0 ⊢
      rw [h16, h0]
      constructor
      · rintro ⟨b, b1, b2, b3, b4⟩
        exact ⟨b, b1, by omega, (h15 a (by omega)).trans b3, (CAL_c h4 h6).mpr b4⟩
      · rintro ⟨b, b1, b2, b3, b4⟩
        by_cases haN : a = NF
        · rw [haN, v15] at b3
          exact absurd b3.symm (nI_ne (by omega))
        · exact ⟨b, b1, by omega, (h15 a haN).symm.trans b3, (CAL_c h4 h6).mp b4⟩
    have hW2 : WJ NB ND (NF + 1) (F5 mi NF x1 (nI t) (nI u)) := by
      obtain ⟨⟨⟨k1, k2, k3⟩, k4, k5, k6⟩, g2, g3, g4, g5⟩ := hWJ
      have kp : ∀ a i, k_part (F5 mi NF x1 (nI t) (nI u)) a i = k_part mi a i := fun a i => by
        unfold k_part
        rw [h4, h6, h6]
      refine ⟨⟨⟨(F5_o (by omega) (by omega)).trans k1, (F5_o (by omega) (by omega)).trans k2, v97⟩, k4, k5, by omega⟩, fun q hq => okK_e (g2 q hq) (fun c i q => F5_o (by omega) (by omega)), fun q hq => ⟨by rw [h5]; exact (g3 q hq).1, fun i hi => ?_⟩, fun a ha => ?_, hUT2⟩
      · rw [h4] at hi
        rw [kp, h5, h5]
        exact (g3 q hq).2 i hi
      · by_cases haN : a = NF
        · rw [haN]
          exact .inl v15
        · rw [h15 a haN]
          exact g4 a (by omega)
    exact uf_101 hW2 ND 0 _ _ (by omega) hIC' (fun _ _ _ => rfl)
/-! node() -/
theorem ux_node {k a b c e : Int32} (hCJ : CJ mi ml) (hUV : UV mi ml) : mm_cq (mm_call mm_ms (mm_tb L xs) (d + 20)) 144 [mm_R 0, mm_I k, mm_I a, mm_I b, mm_I c, mm_I e] mi ml (fun _ n1 n2 => UV n1 n2) := by
  obtain ⟨hIC, ⟨NB, ND, NF, hI, hT, hN, hF⟩, h51, h41, hin⟩ := id hCJ.1
  have hND := hI.1.2.1
  have hNF := hI.1.2.2
  have e97 : (mi 9 7).toInt = NF := by rw [hF.1]; exact mm_tI (by omega)
  have hok := fun q hq => okK_of hI hN (n := q) hq
  have hdp : ∀ n, n < ND → 1 ≤ (mi 5 n).toInt ∧ (mi 5 n).toInt ≤ 12 := fun n hn => (dep_of hI hN n hn).1
  refine sy_X11_node (dep := mi 5) hIC hT.1 hI.1.1.2 hN.1 hND hF.1 hNF (fun _ _ => rfl) hdp (fun _ => hUV) (fun _ _ => hUV) (fun _ _ _ => hUV) (fun _ _ hlt v n1 n2 _ _ _ hn1 hn2 _ => ?_)
  subst hn1
  have h4 : ∀ i, i < ND → A7 mi ND k v a b c e 4 i = mi 4 i := fun i hi => A7_o (by omega) (by omega) (by omega) (by omega)
  have h6 : ∀ i, i < 4 * ND → A7 mi ND k v a b c e 6 i = mi 6 i := fun i hi => A7_o (by omega) (by omega) (by omega) (by omega)
  have hoth : ∀ c' i, ¬ c' = 3 → ¬ c' = 4 → ¬ c' = 5 → ¬ c' = 6 → A7 mi ND k v a b c e c' i = mi c' i := fun c' i q1 q2 q3 q4 => A7_o (by omega) (by omega) (by omega) (by omega)
  have hbl : ∀ (j n p : Nat), n < ND → (blw (A7 mi ND k v a b c e) j n p ↔ blw mi j n p) := by
    intro j
    induction j with
    | zero => exact fun n p _ => Iff.rfl
    | succ j ih =>
      intro n p hn
      have hkp : ∀ i : Nat, (i : Int) < (f_parts (mi 4 n)).toInt → k_part (A7 mi ND k v a b c e) n i = k_part mi n i := fun i hi => by
        have hp := f_parts_in (mi 4 n)
        have hp3 : (f_parts (mi 4 n)).toInt ≤ 3 := by rcases hp with hp | hp | hp | hp <;> (rw [hp]; decide)
        unfold k_part
        rw [h4 n hn, h6 _ (by omega), h6 _ (by omega)]
      constructor
      · rintro (h | ⟨i, i1, h⟩)
        · exact .inl h
        · rw [h4 n hn] at i1
          obtain ⟨q, q1, q2⟩ := k_part_r (hok n hn) i1
          rw [hkp i i1, q2, nI_clamp (by omega)] at h
          refine .inr ⟨i, i1, ?_⟩
          rw [q2, nI_clamp (by omega)]
          exact (ih q p (by omega)).mp h
      · rintro (h | ⟨i, i1, h⟩)
        · exact .inl h
        · obtain ⟨q, q1, q2⟩ := k_part_r (hok n hn) i1
          rw [q2, nI_clamp (by omega)] at h
          refine .inr ⟨i, by rw [h4 n hn]; exact i1, ?_⟩
          rw [hkp i i1, q2, nI_clamp (by omega)]
          exact (ih q p (by omega)).mpr h
  have hbd : ∀ f b' : Nat, b' < 200 → (f : Int) < (mi 9 7).toInt → mi 15 f = nI b' → b' < ND := fun f b' b1 b2 b3 => by
    have h15 := (hF.2 f (by omega)).2.2.2.1
    obtain ⟨q, q1, q2⟩ := (hI.2.2.2.2.2.1 f (by omega)).2.2.2.resolve_left (fun y => nI_ne (t := b') (by omega) (b3.symm.trans (h15.trans y)))
    have : b' = q := nI_inj (by omega) (by omega) (b3.symm.trans (h15.trans q2))
    omega
  have hp : PB mi (A7 mi ND k v a b c e) := by
    refine ⟨hoth 9 7 (by decide) (by decide) (by decide) (by decide), fun i _ => hoth 10 i (by decide) (by decide) (by decide) (by decide), fun i _ => hoth 15 i (by decide) (by decide) (by decide) (by decide), fun f b' f1 b1 b2 b3 n => ?_⟩
    have hb' := hbd f b' b1 b2 b3
    refine ⟨⟨fun ⟨j, q⟩ => ⟨j, (hbl j b' n hb').mp q⟩, fun ⟨j, q⟩ => ⟨j, (hbl j b' n hb').mpr q⟩⟩, fun q => ?_⟩
    have hn := BL_le hND hok hb' q
    exact ⟨h4 n (by omega), h6 _ (by omega), h6 _ (by omega), h6 _ (by omega)⟩
  refine ⟨UT_pb hp (fun i _ => hoth 16 i (by decide) (by decide) (by decide) (by decide)) hUV.1, ?_⟩
  rw [hoth 0 9 (by decide) (by decide) (by decide) (by decide)]
  refine VP_pb hp (fun f b' f1 b1 b2 b3 => ?_) hUV.2
  have hb' := hbd f b' b1 b2 b3
  exact ⟨hn2 _ b' (by omega), hn2 14 f (by omega)⟩
end MMT
/-- what is alike between two calls, the class's shapes, uses and verdict -/
def CK (m : mm_P) (ml : mm_G) : Prop := CJ m ml ∧ UV m ml
theorem UV_0 : UV mm_i0 mm_l0 := by
  have r : ∀ c i x, mm_n0 c i x = true → mm_i0 c i = x := fun c i x h => mm_n0_s h
  have e97 : (mm_i0 9 7).toInt = 0 := by rw [r 9 7 0 (by decide +kernel)]; rfl
  have e16 : ∀ f, f < 12 → mm_i0 16 f = 0 := fun f hf => by
    have h : ∀ f, f < 12 → mm_n0 16 f 0 = true := by decide +kernel
    exact r 16 f 0 (h f hf)
  refine ⟨fun f g hf hg => ⟨fun q => ?_, fun ⟨b, b1, b2, _⟩ => ?_⟩, .inl ⟨r 0 9 1 (by decide +kernel), .inl (by omega)⟩⟩
  · unfold EU at q
    rw [e16 f hf] at q
    exact absurd q bb_z
  · omega
theorem CK_0 : CK mm_i0 mm_l0 := ⟨CJ_0, UV_0⟩
theorem CK_p {m n : mm_P} {ml : mm_G} (h : CK m ml) (hp : PR m n) : CK n ml := ⟨CJ_p h.1 hp, UV_lo h.2 (fun c i q => hp c i (pg_low q))⟩
theorem CK_rf {m n w : mm_P} {ml : mm_G} {r : Nat} (h : CK m ml) (hp : PR m n) (hr : RF n w) (h51 : w 176 51 = nI r) (hr2 : r ≤ 100) : CK w ml := ⟨CJ_rf h.1 hp hr h51 hr2, UV_lo h.2 (fun c i q => (hr.1 c i (by omega) (by omega)).trans (hp c i (pg_low q)))⟩
theorem CK_f {W : List (Nat × Nat × Nat)} {m n1 : mm_P} {ml n2 : mm_G} (h : CK m ml) (hW : mm_stW W = true) (hW2 : ((List.range 12).all (fun j => mm_avC W (19 + j))) = true) (hW3 : mm_uvW W = true) (hIC : mm_IC n1) (hf : mm_fw W m ml n1 n2) : CK n1 n2 := ⟨CJ_f h.1 hW hW2 hIC hf, UV_f h.2 hW3 hf⟩
def FIx (m : mm_P) : Prop := (∃ NB ND NF, IM m NB ND NF) ∧ (0 ≤ (m 176 41).toInt ∧ (m 176 41).toInt ≤ 16)
section MMT
variable {L : Nat} {xs : Nat → Int32} {d D : Nat} {mi : mm_P} {ml : mm_G} {NB ND NF : Nat}
theorem lk_up {C : Type} {f : C → mm_V} {c c' : Nat} {As As' : List mm_V} {Q' : C → C → mm_P → mm_G → Prop} (hl : mm_cq (mm_call mm_ms (mm_tb L xs) D) c As mi ml (fun o n1 n2 => ∃ v, o = some (f v) ∧ mm_cq (mm_call mm_ms (mm_tb L xs) D) c' As' n1 n2 (fun o2 n3 n4 => ∃ v2, o2 = some (f v2) ∧ (v = v2 ∧ CJ n3 n4)))) (hc : mm_cq (mm_call mm_ms (mm_tb L xs) D) c As mi ml (fun _ n1 n2 => UV n1 n2 ∧ FIx n1)) (hm : ∀ n1 n2 NB ND NF, UV n1 n2 → IM n1 NB ND NF → (0 ≤ (n1 176 41).toInt ∧ (n1 176 41).toInt ≤ 16) → mm_cq (mm_call mm_ms (mm_tb L xs) D) c' As' n1 n2 (fun _ n3 n4 => UV n3 n4)) (hQ : ∀ v n m2, CK n m2 → Q' v v n m2) : mm_cq (mm_call mm_ms (mm_tb L xs) D) c As mi ml (fun o n1 n2 => ∃ v, o = some (f v) ∧ mm_cq (mm_call mm_ms (mm_tb L xs) D) c' As' n1 n2 (fun o2 n3 n4 => ∃ v2, o2 = some (f v2) ∧ Q' v v2 n3 n4)) :=
  mm_cq_m (mm_call_m _) (mm_up (P := fun v v2 n m2 => v = v2 ∧ CJ n m2) (F := fun n1 n2 => UV n1 n2 ∧ FIx n1) (G := UV) hl hc (fun n1 n2 ⟨hu, ⟨NB, ND, NF, hI⟩, h41⟩ => hm n1 n2 NB ND NF hu hI h41)) (fun o n1 n2 ⟨v, e, z⟩ => ⟨v, e, mm_cq_m (mm_call_m _) z (fun o2 n3 n4 ⟨v2, e2, ⟨e3, h3⟩, h4⟩ => ⟨v2, e2, by subst e3; exact hQ v n3 n4 ⟨h3, h4⟩⟩)⟩)
theorem ck_i {W : List (Nat × Nat × Nat)} {n1 : mm_P} {n2 : mm_G} (h : CK mi ml) (hh : mm_hiW W = true) (hf : mm_fw W mi ml n1 n2) : FIx n1 := by
  obtain ⟨hIC, ⟨NB, ND, NF, hI, -⟩, -, h41, -⟩ := id h.1.1
  have hhi : ∀ c i, 176 ≤ c → n1 c i = mi c i := fun c i q => (hf c i (mm_hi_f hh q)).1
  refine ⟨⟨NB, ND, NF, IM_h hI hhi⟩, ?_⟩
  rw [hhi 176 41 (by decide), ← h41]
  exact hIC.2.2.2.2.2
theorem ck_c {W : List (Nat × Nat × Nat)} {n1 : mm_P} {n2 : mm_G} (h : CK mi ml) (hW : mm_uvW W = true) (hh : mm_hiW W = true) (hf : mm_fw W mi ml n1 n2) : UV n1 n2 ∧ FIx n1 := ⟨UV_f h.2 hW hf, ck_i h hh hf⟩
theorem lk_pair {x1 x2 : Int32} {Q' : Int32 → Int32 → mm_P → mm_G → Prop} (hCK : CK mi ml) (hQ : ∀ v n m2, CK n m2 → Q' v v n m2) : mm_cq (mm_call mm_ms (mm_tb L xs) (d + 20)) 141 [mm_R 0, mm_I x1, mm_I x2] mi ml (fun o n1 n2 => ∃ v, o = some (mm_I v) ∧ mm_cq (mm_call mm_ms (mm_tb L xs) (d + 20)) 176 [mm_R 176, mm_I x1, mm_I x2] n1 n2 (fun o2 n3 n4 => ∃ v2, o2 = some (mm_I v2) ∧ Q' v v2 n3 n4)) :=
  lk_up (C := Int32) (f := mm_I) (lj_pair (Q' := fun v v2 n m2 => v = v2 ∧ CJ n m2) hCK.1 (fun v n m2 h => ⟨rfl, h⟩)) (sc_X11_pair (Q := fun _ n1 n2 => UV n1 n2 ∧ FIx n1) hCK.1.1.1 (fun v n1 n2 hi hf => ck_c hCK (by decide +kernel) (by decide +kernel) hf)) (fun n1 n2 NB ND NF hu hI h41 => sp_pair hI (fun n NB' v a b => UV_lo hu b.1)) hQ
theorem lk_list {x1 : Int32} {Q' : Int32 → Int32 → mm_P → mm_G → Prop} (hCK : CK mi ml) (hQ : ∀ v n m2, CK n m2 → Q' v v n m2) : mm_cq (mm_call mm_ms (mm_tb L xs) (d + 20)) 142 [mm_R 0, mm_I x1] mi ml (fun o n1 n2 => ∃ v, o = some (mm_I v) ∧ mm_cq (mm_call mm_ms (mm_tb L xs) (d + 20)) 177 [mm_R 176, mm_I x1] n1 n2 (fun o2 n3 n4 => ∃ v2, o2 = some (mm_I v2) ∧ Q' v v2 n3 n4)) :=
  lk_up (C := Int32) (f := mm_I) (lj_list (Q' := fun v v2 n m2 => v = v2 ∧ CJ n m2) hCK.1 (fun v n m2 h => ⟨rfl, h⟩)) (sc_X11_list (Q := fun _ n1 n2 => UV n1 n2 ∧ FIx n1) hCK.1.1.1 (fun v n1 n2 hi hf => ck_c hCK (by decide +kernel) (by decide +kernel) hf)) (fun n1 n2 NB ND NF hu hI h41 => sp_list hI (fun n NB' v a b => UV_lo hu b.1)) hQ
theorem lk_type {x1 x2 : Int32} {Q' : Int32 → Int32 → mm_P → mm_G → Prop} (hCK : CK mi ml) (hQ : ∀ v n m2, CK n m2 → Q' v v n m2) : mm_cq (mm_call mm_ms (mm_tb L xs) (d + 20)) 143 [mm_R 0, mm_I x1, mm_I x2] mi ml (fun o n1 n2 => ∃ v, o = some (mm_I v) ∧ mm_cq (mm_call mm_ms (mm_tb L xs) (d + 20)) 179 [mm_R 176, mm_I x1, mm_I x2] n1 n2 (fun o2 n3 n4 => ∃ v2, o2 = some (mm_I v2) ∧ Q' v v2 n3 n4)) :=
  lk_up (C := Int32) (f := mm_I) (lj_type (Q' := fun v v2 n m2 => v = v2 ∧ CJ n m2) hCK.1 (fun v n m2 h => ⟨rfl, h⟩)) (sc_X11_type (Q := fun _ n1 n2 => UV n1 n2 ∧ FIx n1) hCK.1.1.1 (fun v n1 n2 hi hf => ck_c hCK (by decide +kernel) (by decide +kernel) hf)) (fun n1 n2 NB ND NF hu hI h41 => sp_type hI (fun v => hu)) hQ
theorem lk_node {k a b c e : Int32} {Q' : Int32 → Int32 → mm_P → mm_G → Prop} (hCK : CK mi ml) (hQ : ∀ v n m2, CK n m2 → Q' v v n m2) : mm_cq (mm_call mm_ms (mm_tb L xs) (d + 20)) 144 [mm_R 0, mm_I k, mm_I a, mm_I b, mm_I c, mm_I e] mi ml (fun o n1 n2 => ∃ v, o = some (mm_I v) ∧ mm_cq (mm_call mm_ms (mm_tb L xs) (d + 20)) 189 [mm_R 176, mm_I k, mm_I a, mm_I b, mm_I c, mm_I e] n1 n2 (fun o2 n3 n4 => ∃ v2, o2 = some (mm_I v2) ∧ Q' v v2 n3 n4)) :=
  lk_up (C := Int32) (f := mm_I) (lj_node (Q' := fun v v2 n m2 => v = v2 ∧ CJ n m2) hCK.1 (fun v n m2 h => ⟨rfl, h⟩)) (mm_cq_m (mm_call_m _) (mm_cq_a (ux_node hCK.1 hCK.2) (sc_X11_node (Q := fun _ n1 n2 => FIx n1) hCK.1.1.1 (fun v n1 n2 hi hf => ck_i hCK (by decide +kernel) hf))) (fun o n1 n2 z => z)) (fun n1 n2 NB ND NF hu hI h41 => sp_node hI (fun n ND' v a b => UV_lo hu b.1)) hQ
theorem lk_function {x1 x2 x3 : Int32} {Q' : Int32 → Int32 → mm_P → mm_G → Prop} (hCK : CK mi ml) (hQ : ∀ v n m2, CK n m2 → Q' v v n m2) : mm_cq (mm_call mm_ms (mm_tb L xs) (d + 20)) 147 [mm_R 0, mm_I x1, mm_I x2, mm_I x3] mi ml (fun o n1 n2 => ∃ v, o = some (mm_I v) ∧ mm_cq (mm_call mm_ms (mm_tb L xs) (d + 20)) 190 [mm_R 176, mm_I x1, mm_I x2, mm_I x3] n1 n2 (fun o2 n3 n4 => ∃ v2, o2 = some (mm_I v2) ∧ Q' v v2 n3 n4)) :=
  lk_up (C := Int32) (f := mm_I) (lj_function (Q' := fun v v2 n m2 => v = v2 ∧ CJ n m2) hCK.1 (fun v n m2 h => ⟨rfl, h⟩)) (mm_cq_m (mm_call_m _) (mm_cq_a (ux_function hCK.1 hCK.2) (sc_X11_function (Q := fun _ n1 n2 => FIx n1) hCK.1.1.1 (fun v n1 n2 hi hf => ck_i hCK (by decide +kernel) hf))) (fun o n1 n2 z => z)) (fun n1 n2 NB ND NF hu hI h41 => sp_function hI (fun n NF' v a b => UV_lo hu b.1)) hQ
theorem lk_body {x1 x2 : Int32} {Q' : Int32 → Int32 → mm_P → mm_G → Prop} (hCK : CK mi ml) (hQ : ∀ v n m2, CK n m2 → Q' v v n m2) : mm_cq (mm_call mm_ms (mm_tb L xs) (d + 20)) 148 [mm_R 0, mm_I x1, mm_I x2] mi ml (fun o n1 n2 => ∃ v, o = some (mm_I v) ∧ mm_cq (mm_call mm_ms (mm_tb L xs) (d + 20)) 191 [mm_R 176, mm_I x1, mm_I x2] n1 n2 (fun o2 n3 n4 => ∃ v2, o2 = some (mm_I v2) ∧ Q' v v2 n3 n4)) :=
  lk_up (C := Int32) (f := mm_I) (lj_body (Q' := fun v v2 n m2 => v = v2 ∧ CJ n m2) hCK.1 (fun v n m2 h => ⟨rfl, h⟩)) (mm_cq_m (mm_call_m _) (mm_cq_a (ux_body hCK.1 hCK.2) (sc_X11_body (Q := fun _ n1 n2 => FIx n1) hCK.1.1.1 (fun v n1 n2 hi hf => ck_i hCK (by decide +kernel) hf))) (fun o n1 n2 z => z)) (fun n1 n2 NB ND NF hu hI h41 => sp_body hI (fun n v a b => UV_lo hu b.1)) hQ
theorem lk_count {x1 : Int32} {Q' : Int32 → Int32 → mm_P → mm_G → Prop} (hCK : CK mi ml) (hQ : ∀ v n m2, CK n m2 → Q' v v n m2) : mm_cq (mm_call mm_ms (mm_tb L xs) (d + 20)) 162 [mm_R 0, mm_I x1] mi ml (fun o n1 n2 => ∃ v, o = some (mm_I v) ∧ mm_cq (mm_call mm_ms (mm_tb L xs) (d + 20)) 233 [mm_R 176, mm_I x1] n1 n2 (fun o2 n3 n4 => ∃ v2, o2 = some (mm_I v2) ∧ Q' v v2 n3 n4)) :=
  lk_up (C := Int32) (f := mm_I) (lj_count (Q' := fun v v2 n m2 => v = v2 ∧ CJ n m2) hCK.1 (fun v n m2 h => ⟨rfl, h⟩)) (sc_X11_count (Q := fun _ n1 n2 => UV n1 n2 ∧ FIx n1) hCK.1.1.1 (fun v n1 n2 hi hf => ck_c hCK (by decide +kernel) (by decide +kernel) hf)) (fun n1 n2 NB ND NF hu hI h41 => sp_count (fun _ => hu) (fun _ v => hu)) hQ
theorem lk_digest {Q' : Int64 → Int64 → mm_P → mm_G → Prop} (hCK : CK mi ml) (hQ : ∀ v n m2, CK n m2 → Q' v v n m2) : mm_cq (mm_call mm_ms (mm_tb L xs) (d + 20)) 163 [mm_R 0] mi ml (fun o n1 n2 => ∃ v, o = some (mm_L v) ∧ mm_cq (mm_call mm_ms (mm_tb L xs) (d + 20)) 235 [mm_R 176] n1 n2 (fun o2 n3 n4 => ∃ v2, o2 = some (mm_L v2) ∧ Q' v v2 n3 n4)) :=
  lk_up (C := Int64) (f := mm_L) (lj_digest (Q' := fun v v2 n m2 => v = v2 ∧ CJ n m2) hCK.1 (fun v n m2 h => ⟨rfl, h⟩)) (sc_X11_digest (Q := fun _ n1 n2 => UV n1 n2 ∧ FIx n1) hCK.1.1.1 (fun v n1 n2 hi hf => ck_c hCK (by decide +kernel) (by decide +kernel) hf)) (fun n1 n2 NB ND NF hu hI h41 => sp_digest hI (fun v => hu)) hQ
theorem lk_input {x1 : Int32} {Q' : Int32 → Int32 → mm_P → mm_G → Prop} (hCK : CK mi ml) (hQ : ∀ v n m2, CK n m2 → Q' v v n m2) : mm_cq (mm_call mm_ms (mm_tb L xs) (d + 20)) 156 [mm_R 0, mm_I x1] mi ml (fun o n1 n2 => ∃ v, o = some (mm_I v) ∧ mm_cq (mm_call mm_ms (mm_tb L xs) (d + 20)) 211 [mm_R 176, mm_I x1] n1 n2 (fun o2 n3 n4 => ∃ v2, o2 = some (mm_I v2) ∧ Q' v v2 n3 n4)) :=
  lk_up (C := Int32) (f := mm_I) (lj_input (Q' := fun v v2 n m2 => v = v2 ∧ CJ n m2) hCK.1 (fun v n m2 h => ⟨rfl, h⟩)) (sc_X11_input (Q := fun _ n1 n2 => UV n1 n2 ∧ FIx n1) hCK.1.1.1 (fun v n1 n2 hi hf => ck_c hCK (by decide +kernel) (by decide +kernel) hf)) (fun n1 n2 NB ND NF hu hI h41 => sp_input h41 (fun _ => hu) (fun _ _ => UV_lo hu (fun c i q => by rw [mm_u_e (by omega), mm_u_e (by omega)]))) hQ
theorem lk_empty {Q' : Int32 → Int32 → mm_P → mm_G → Prop} (hCK : CK mi ml) (hQ : ∀ v n m2, CK n m2 → Q' v v n m2) : mm_cq (mm_call mm_ms (mm_tb L xs) (d + 20)) 157 [mm_R 0] mi ml (fun o n1 n2 => ∃ v, o = some (mm_I v) ∧ mm_cq (mm_call mm_ms (mm_tb L xs) (d + 20)) 212 [mm_R 176] n1 n2 (fun o2 n3 n4 => ∃ v2, o2 = some (mm_I v2) ∧ Q' v v2 n3 n4)) :=
  lk_up (C := Int32) (f := mm_I) (lj_empty (Q' := fun v v2 n m2 => v = v2 ∧ CJ n m2) hCK.1 (fun v n m2 h => ⟨rfl, h⟩)) (sc_X11_empty (Q := fun _ n1 n2 => UV n1 n2 ∧ FIx n1) hCK.1.1.1 (fun v n1 n2 hi hf => ck_c hCK (by decide +kernel) (by decide +kernel) hf)) (fun n1 n2 NB ND NF hu hI h41 => sp_empty (UV_lo hu (fun c i q => mm_u_e (by omega)))) hQ
theorem lk_typeIn {x1 x2 : Int32} {Q' : Int32 → Int32 → mm_P → mm_G → Prop} (hCK : CK mi ml) (hQ : ∀ v n m2, CK n m2 → Q' v v n m2) : mm_cq (mm_call mm_ms (mm_tb L xs) (d + 20)) 150 [mm_R 0, mm_I x1, mm_I x2] mi ml (fun o n1 n2 => ∃ v, o = some (mm_I v) ∧ mm_cq (mm_call mm_ms (mm_tb L xs) (d + 20)) 195 [mm_R 176, mm_I x1, mm_I x2] n1 n2 (fun o2 n3 n4 => ∃ v2, o2 = some (mm_I v2) ∧ Q' v v2 n3 n4)) :=
  lk_up (C := Int32) (f := mm_I) (lx_typeIn (Q' := fun v v2 n m2 => v = v2 ∧ CJ n m2) hCK.1 (fun v n m2 h => ⟨rfl, h⟩)) (sc_X11_typeIn (Q := fun _ n1 n2 => UV n1 n2 ∧ FIx n1) hCK.1.1.1 (fun v n1 n2 hi hf => ck_c hCK (by decide +kernel) (by decide +kernel) hf)) (fun n1 n2 NB ND NF hu hI h41 => sp_typeIn hI (fun w v hp => UV_lo hu (fun c i q => hp c i (pg_low q)))) hQ
theorem lk_wrong {x1 : Int32} {Q' : Int32 → Int32 → mm_P → mm_G → Prop} (hCK : CK mi ml) (hQ : ∀ v n m2, CK n m2 → Q' v v n m2) : mm_cq (mm_call mm_ms (mm_tb L xs) (d + 20)) 151 [mm_R 0, mm_I x1] mi ml (fun o n1 n2 => ∃ v, o = some (mm_I v) ∧ mm_cq (mm_call mm_ms (mm_tb L xs) (d + 20)) 197 [mm_R 176, mm_I x1] n1 n2 (fun o2 n3 n4 => ∃ v2, o2 = some (mm_I v2) ∧ Q' v v2 n3 n4)) :=
  lk_up (C := Int32) (f := mm_I) (lx_wrong (Q' := fun v v2 n m2 => v = v2 ∧ CJ n m2) hCK.1 (fun v n m2 h => ⟨rfl, h⟩)) (sc_X11_wrong (Q := fun _ n1 n2 => UV n1 n2 ∧ FIx n1) hCK.1.1.1 (fun v n1 n2 hi hf => ck_c hCK (by decide +kernel) (by decide +kernel) hf)) (fun n1 n2 NB ND NF hu hI h41 => sp_wrong hI (fun w v hp => UV_lo hu (fun c i q => hp c i (pg_low q)))) hQ
/-! reaches() and judge() -/
theorem lk_reaches {x1 x2 : Int32} {Q' : Int32 → Int32 → mm_P → mm_G → Prop} (hCK : CK mi ml) (hQ : ∀ v n m2, CK n m2 → Q' v v n m2) : mm_cq (mm_call mm_ms (mm_tb L xs) (d + 20)) 152 [mm_R 0, mm_I x1, mm_I x2] mi ml (fun o n1 n2 => ∃ v, o = some (mm_I v) ∧ mm_cq (mm_call mm_ms (mm_tb L xs) (d + 20)) 199 [mm_R 176, mm_I x1, mm_I x2] n1 n2 (fun o2 n3 n4 => ∃ v2, o2 = some (mm_I v2) ∧ Q' v v2 n3 n4)) := by
  obtain ⟨hIC, ⟨NB, ND, NF, hI, hT, hN, hF⟩, h51, h41, hin⟩ := id hCK.1.1
  have hNF := hI.1.2.2
  have n1 : ∀ {P : Prop}, (1 : Int32) = 0 → P := fun z => absurd z (by decide)
  have n0 : ∀ {P : Prop}, ¬ (0 : Int32) = 0 → P := fun z => absurd rfl z
  have hbad : (¬ ∃ f g, f < NF ∧ g < NF ∧ x1 = nI f ∧ x2 = nI g) → mm_cq (mm_call mm_ms (mm_tb L xs) (d + 20)) 199 [mm_R 176, mm_I x1, mm_I x2] mi ml (fun o2 n3 n4 => ∃ v2, o2 = some (mm_I v2) ∧ Q' (-2) v2 n3 n4) := fun nok => by
    have h16 : mm_WQ (mm_call mm_ms (mm_tb L xs) (d + 19)) (mm_tb L xs) mm_m199 (mm_li mm_m199) (fun o2 n3 n4 => ∃ v2, o2 = some (mm_I v2) ∧ Q' (-2) v2 n3 n4) 16 [some (mm_R 176), some (mm_I x1), some (mm_I x2)] [] mi ml := bk_X12_reaches_16 (mm_call_m _) ⟨-2, rfl, hQ _ _ _ hCK⟩
    exact en_X12_reaches (bk_X12_reaches_0 (mm_call_m _) (sp_fun hI (fun f f1 f2 => bk_X12_reaches_5 (s0 := 1) (mm_call_m _) n1 (fun _ => sp_fun hI (fun g g1 g2 => absurd ⟨f, g, f1, g1, f2, g2⟩ nok) (fun _ => bk_X12_reaches_13 (s0 := 0) (mm_call_m _) n0 (fun _ => h16)))) (fun _ => bk_X12_reaches_5 (s0 := 0) (mm_call_m _) (fun _ => h16) n0)))
  have h22 : (¬ ∃ f g, f < NF ∧ g < NF ∧ x1 = nI f ∧ x2 = nI g) → mm_WQ (mm_call mm_ms (mm_tb L xs) (d + 19)) (mm_tb L xs) mm_m152 (mm_li mm_m152) (fun o n1 n2 => ∃ v, o = some (mm_I v) ∧ mm_cq (mm_call mm_ms (mm_tb L xs) (d + 20)) 199 [mm_R 176, mm_I x1, mm_I x2] n1 n2 (fun o2 n3 n4 => ∃ v2, o2 = some (mm_I v2) ∧ Q' v v2 n3 n4)) 22 [some (mm_R 0), some (mm_I x1), some (mm_I x2)] [] mi ml := fun nok => bk_X11_reaches_22 (mm_call_m _) ⟨-2, rfl, hbad nok⟩
  refine en_X11_reaches (bk_X11_reaches_0 (mm_call_m _) (sx_has2 hF.1 hNF (fun f f1 f2 => bk_X11_reaches_8 (s0 := 1) (mm_call_m _) n1 (fun _ => sx_has2 hF.1 hNF (fun g g1 g2 => bk_X11_reaches_19 (s0 := 1) (mm_call_m _) (fun _ => ?_) n1) (fun q => bk_X11_reaches_19 (s0 := 0) (mm_call_m _) n0 (fun _ => h22 (fun ⟨_, g, _, y1, _, y2⟩ => q g y1 y2))))) (fun q => bk_X11_reaches_8 (s0 := 0) (mm_call_m _) (fun _ => h22 (fun ⟨f, _, y1, _, y2, _⟩ => q f y1 y2)) n0)))
  subst f2 g2
  refine sx_reachedBy hF.1 hNF (show f < 12 by omega) (fun q => absurd f1 q) (fun x hx => bk_X11_reaches_33 (mm_call_m _) ⟨_, rfl, ?_⟩)
  have hiff : bb_t x g = true ↔ RCH (DE mi) f g := (hx g (by omega)).trans (RCH_c (by omega) (fun a b ha hb => hCK.2.1 a b ha hb))
  have hgood : ∀ v, (RCH (DE mi) f g → v = 1) → (¬ RCH (DE mi) f g → v = 0) → mm_cq (mm_call mm_ms (mm_tb L xs) (d + 20)) 199 [mm_R 176, mm_I (nI f), mm_I (nI g)] mi ml (fun o2 n3 n4 => ∃ v2, o2 = some (mm_I v2) ∧ Q' v v2 n3 n4) := fun v v1 v0 => by
    refine en_X12_reaches (bk_X12_reaches_0 (mm_call_m _) (sp_fun hI (fun f' _ _ => bk_X12_reaches_5 (s0 := 1) (mm_call_m _) n1 (fun _ => sp_fun hI (fun g' _ _ => bk_X12_reaches_13 (s0 := 1) (mm_call_m _) (fun _ => ?_) n1) (fun q => absurd rfl (q g g1)))) (fun q => absurd rfl (q f f1))))
    refine sx_findReach hI hN hF (fun w hM hR => ?_)
    have hCKw := CK_p hCK (PR_m2 hM)
    refine bk_X12_reaches_23 (mm_call_m _) ?_ (fun z => ⟨0, rfl, ?_⟩) (fun z => ⟨1, rfl, ?_⟩)
    · rw [rx (by omega) (by omega)]
      exact vp_in_nI (by omega) (by decide)
    · rw [rx (by omega) (by omega), nI_clamp (by omega)] at z
      rw [v0 (fun q => (hR f g (by omega) (by omega)).mpr q z)]
      exact hQ _ _ _ hCKw
    · rw [rx (by omega) (by omega), nI_clamp (by omega)] at z
      rw [v1 ((hR f g (by omega) (by omega)).mp z)]
      exact hQ _ _ _ hCKw
  refine hgood _ (fun q => bb_val (by omega) (hiff.mpr q)) (fun q => (bb_iff (by omega)).mpr ?_)
  cases e : bb_t x g with
  | false => rfl
  | true => exact absurd (hiff.mp e) q
theorem lk_judge {Q' : Int32 → Int32 → mm_P → mm_G → Prop} (hCK : CK mi ml) (hQ : ∀ v n m2, CK n m2 → Q' v v n m2) : mm_cq (mm_call mm_ms (mm_tb L xs) (d + 20)) 153 [mm_R 0] mi ml (fun o n1 n2 => ∃ v, o = some (mm_I v) ∧ mm_cq (mm_call mm_ms (mm_tb L xs) (d + 20)) 202 [mm_R 176] n1 n2 (fun o2 n3 n4 => ∃ v2, o2 = some (mm_I v2) ∧ Q' v v2 n3 n4)) := by
  refine en_X11_judge (bk_X11_judge_0 (mm_call_m _) ⟨_, rfl, sx_mjudge (d := d + 11) hCK.1 (fun w v hp hv => ⟨v, rfl, ?_⟩)⟩)
  rw [VP_u hCK.2.2 hv]
  exact hQ _ _ _ (CK_p hCK hp)
end MMT
