/-! ===== run(), runCopies(): what is told ===== -/
theorem tlv_c {NB ND NF : Nat} {m w : mm_P} (hI : IM m NB ND NF) (h77 : ∀ c t, 177 ≤ c → c ≤ 179 → t < NB → w c t = m c t) {A B : HF} : ∀ (k t : Nat) (v : Int32), t < NB → tlv w A B k t v = tlv m A B k t v := by
  have hNB := hI.1.1
  have hTW := TW_I hI
  intro k
  induction k with
  | zero => exact fun _ _ _ => rfl
  | succ k ih =>
    intro t v ht
    show (if w 177 t = 4 then tlv w A B k (w 178 t).toNatClampNeg (A v.toNatClampNeg) ++ tlv w A B k (w 179 t).toNatClampNeg (B v.toNatClampNeg) else if w 177 t = 5 then nI (elsF B 104 v).length :: (elsF B 104 v).flatMap (fun a => tlv w A B k (w 178 t).toNatClampNeg (A a)) else [v]) = (if m 177 t = 4 then tlv m A B k (m 178 t).toNatClampNeg (A v.toNatClampNeg) ++ tlv m A B k (m 179 t).toNatClampNeg (B v.toNatClampNeg) else if m 177 t = 5 then nI (elsF B 104 v).length :: (elsF B 104 v).flatMap (fun a => tlv m A B k (m 178 t).toNatClampNeg (A a)) else [v])
    rw [h77 177 t (by decide) (by decide) ht, h77 178 t (by decide) (by decide) ht, h77 179 t (by decide) (by decide) ht]
    by_cases q4 : m 177 t = 4
    · rw [if_pos q4, if_pos q4]
      obtain ⟨a, b, a1, a2, a3, a4, a5, a6, -⟩ := SVt_4 (SA := sAny) (SB := sAny) hTW (.inl ht) q4
      rw [a5, a6, nI_clamp (by omega), nI_clamp (by omega), ih a _ (by omega), ih b _ (by omega)]
    · rw [if_neg q4, if_neg q4]
      by_cases q5 : m 177 t = 5
      · rw [if_pos q5, if_pos q5]
        obtain ⟨a, a1, a2, a3, -⟩ := SVt_5 (SA := sAny) (SB := sAny) hTW (.inl ht) q5
        rw [a3, nI_clamp (by omega), show (fun b => tlv w A B k a (A b)) = (fun b => tlv m A B k a (A b)) from funext fun b => ih a _ (by omega)]
      · rw [if_neg q5, if_neg q5]
/-- what is told of an end -/
def TLX (m : mm_P) (y : Nat) : ZX → List Int32 := fun r => if r.1 = 0 then tlv m r.2.2.1 r.2.2.2.1 5 y r.2.1 else []
def TLD (m : mm_P) (A B : HF) : List Int32 := match rd m 5 (m 195 0).toNatClampNeg A B 0 0 with
  | (v, A', B', h', _) => TLX m (m 196 0).toNatClampNeg (ev m 360 v (m 197 0).toNatClampNeg A' B' h' 0 0 1)
theorem TLD_e {m : mm_P} {A B A' B' A2 B2 : HF} {v e x : Int32} {t b y h' e' h2 s2 l2 o2 : Nat} (ht : (m 195 0).toNatClampNeg = t) (hb : (m 197 0).toNatClampNeg = b) (hy : (m 196 0).toNatClampNeg = y) (h1 : rd m 5 t A B 0 0 = (v, A', B', h', e')) (h2 : ev m 360 v b A' B' h' 0 0 1 = (e, x, A2, B2, h2, s2, l2, o2)) : TLD m A B = if e = 0 then tlv m A2 B2 5 y x else [] := by
  unfold TLD
  rw [ht, hb, hy, h1]
  show TLX m y (ev m 360 v b A' B' h' 0 0 1) = _
  rw [h2]
  rfl
theorem TLD_c {NB ND NF : Nat} {m w : mm_P} {A B : HF} (hI : IM m NB ND NF) (h0 : 0 < NF) (h77 : ∀ c t, 177 ≤ c → c ≤ 179 → t < NB → w c t = m c t) (h88 : ∀ c i, 188 ≤ c → c ≤ 197 → w c i = m c i) (h41 : w 176 41 = m 176 41) (h211 : ∀ i, w 211 i = m 211 i) : TLD w A B = TLD m A B := by
  obtain ⟨l1, ⟨x, x1, x2, x3⟩, ⟨y, y1, y2, y3⟩, -⟩ := hI.2.2.2.2.2.1 0 h0
  have hNB := hI.1.1
  have ex : (m 195 0).toNatClampNeg = x := by rw [x2]; exact nI_clamp (by omega)
  have ey : (m 196 0).toNatClampNeg = y := by rw [y2]; exact nI_clamp (by omega)
  have eX : TLX w y = TLX m y := funext fun r => by
    unfold TLX
    rw [tlv_c hI h77 5 y _ y1]
  unfold TLD
  rw [h88 195 0 (by decide) (by decide), h88 196 0 (by decide) (by decide), h88 197 0 (by decide) (by decide), ex, ey, rd_c hI h77 h41 h211 5 x A B 0 0 x1, ev_c h88 360, eX]
theorem TLD_p {NB ND NF : Nat} {m w : mm_P} {A B : HF} (hI : IM m NB ND NF) (h0 : 0 < NF) (hp : PR m w) : TLD w A B = TLD m A B :=
  TLD_c hI h0 (fun c t a b q => hp c t (pg_row a (by omega) (by have := hI.1.1; omega))) (fun c i a b => hp c i (pg_nod a b)) (hp 176 41 rfl) (fun i => hp 211 i rfl)
theorem run_bt {NB ND NF : Nat} {m : mm_P} (hI : IM m NB ND NF) (hJ : JO NB ND NF m) {x y b h1 e1 h2 s2 l2 o2 : Nat} {A B A1 B1 A2 B2 : HF} {v z : Int32} (x1 : x < NB) (x2 : m 195 0 = nI x) (y1 : y < NB) (y2 : m 196 0 = nI y) (eb : (m 197 0).toNatClampNeg = b) (hh1 : h1 ≤ 1400) (grd : rd m 5 x A B 0 0 = (v, A1, B1, h1, e1)) (he : ev m 360 v b A1 B1 h1 0 0 1 = (0, z, A2, B2, h2, s2, l2, o2)) (hl2 : l2 ≤ 100) : GVt gB m bI bI y 104 A2 B2 h2 z := by
  have hNB := hI.1.1
  have hND := hI.1.2.1
  have hNF0 := hJ.1
  have hl0 := hJ.2.1
  obtain ⟨l1, ⟨x', x1', x2', x3⟩, -, -⟩ := hI.2.2.2.2.2.1 0 hNF0
  have exx : x' = x := nI_ij (by omega) (by omega) (x2'.symm.trans x2)
  subst exx
  have hclx : m 181 x' = 0 ∧ m 182 x' = 0 := ⟨x3.1.resolve_right (by omega), x3.2.resolve_right (by omega)⟩
  obtain ⟨wf, TY, hAC⟩ := AC_of hJ (f := 0) (by decide) (.inl rfl)
  obtain ⟨-, -, -, gp, gT, gt, b', b1, b2, b3⟩ := id hAC
  have eb' : (m 197 0).toNatClampNeg = b' := by rw [b2]; exact nI_clamp (by omega)
  have ebb : b' = b := eb'.symm.trans eb
  subst ebb
  have hib : IB ND m 0 b' := fun P h1 _ => h1 b' b1 b2
  have dx := hI.2.2.2.1 x' x1
  have g := (ev_bt hI hJ 360 (f := 0) (TY := TY) (wf := wf) (SA := bI) (SB := bI) (n := b') (h := h1) (s := 0) (l := 0) (o := 1) hAC mBR_I mBR_I ⟨x', x1, x2, (rd_bt hI 5 x1 hclx.1 hclx.2 (by omega) grd).2⟩ b1 hib (by decide) (by omega) he).2
  rw [ngn (r := y) (b3.trans y2) (by omega) (by omega), GVt_c (TW_I hI) (fun t ht c a b => AC_t hI hAC ht a b) y1] at g
  exact GVt_mb mBR_I mBR_I y _ _ _ _ _ _ _ _ (by omega) BE_r _ g
section MMT
variable {L : Nat} {xs : Nat → Int32} {d : Nat} {ml : mm_G}
theorem cl_workr {w0 : mm_P} (A B : HF) (hCK : CK w0 ml) (hV : VP w0 ml 0) (hTR : TRN w0) : mm_cq (mm_call mm_ms (mm_tb L xs) (d + 13)) 66 [mm_R 164, mm_L (ml 13 0), mm_L (ml 14 0)] w0 ml (fun o w' _ => o = some (mm_I (OUT w0 A B)) ∧ RWl (w' 162 1) (w' 163) (TLD w0 A B)) := by
  obtain ⟨hIC, ⟨NB, ND, NF, hI0, hT0, hN0, hF0⟩, -, h41, h61⟩ := id hCK.1.1
  have hNB := hI0.1.1
  have hND := hI0.1.2.1
  have hNF := hI0.1.2.2
  obtain ⟨m, hp, hJ⟩ := JO_ex hCK.1 hI0 hV
  have hI := IM_c hI0 hp
  have hNF0 := hJ.1
  have hlo : ∀ c i, c < 176 → m c i = w0 c i := fun c i q => hp c i (pg_low q)
  have hrow : ∀ c t, 177 ≤ c → c ≤ 183 → t < 200 → m c t = w0 c t := fun c t a b q => hp c t (pg_row a b q)
  have hnod : ∀ c i, 188 ≤ c → c ≤ 197 → m c i = w0 c i := fun c i a b => hp c i (pg_nod a b)
  have hT : TC NB m ml := TC_c hT0 (hlo 1 1 (by decide)) (fun t ht c a b => hrow c t a b (by omega)) (fun _ _ => rfl)
  have hN : NC ND m := NC_c hN0 (hlo 3 5 (by decide)) (fun c i q => by
    by_cases z : c < 176
    · exact hlo c i z
    · exact hnod c i (by omega) (by omega))
  have hF : FC NF m ml := FC_c hI0 hF0 (hlo 9 7 (by decide)) (fun c i q => by
    by_cases z : c < 176
    · exact hlo c i z
    · exact hnod c i (by omega) (by omega)) (fun _ _ => rfl) (fun _ => rfl) (fun _ => rfl)
  have hTR1 := TRN_n (TRN_e hTR (hlo 3 5 (by decide)) (fun i => hlo 4 i (by decide)) (fun i => hlo 6 i (by decide))) hND hN
  obtain ⟨N, eN, hN16, -, -⟩ := mm_of (n := 17) (by have := hIC.2.2.2.2.2.1; exact this) (by have := hIC.2.2.2.2.2.2; omega)
  have hmN : m 176 41 = nI N := (hp 176 41 rfl).trans (h41.symm.trans eN)
  have hm61 : ∀ w : mm_P, (∀ i, w 161 i = w0 161 i) → ∀ i, i < N → w 161 i = m 211 i := fun w h i hi => by
    rw [h i, h61 i (by rw [eN, mm_tI (by omega)]; omega)]
    exact (hp 211 i rfl).symm
  -- the first function
  obtain ⟨l1, ⟨x, x1, x2, x3⟩, ⟨y, y1, y2, y3⟩, -⟩ := hI.2.2.2.2.2.1 0 hNF0
  have hl0 := hJ.2.1
  have hclx : m 181 x = 0 ∧ m 182 x = 0 := ⟨x3.1.resolve_right (by omega), x3.2.resolve_right (by omega)⟩
  have et : (m 195 0).toNatClampNeg = x := by rw [x2]; exact nI_clamp (by omega)
  obtain ⟨wf, TY, hAC⟩ := AC_of hJ (f := 0) (by decide) (.inl rfl)
  obtain ⟨-, -, -, gp, gT, gt, b, b1, b2, b3⟩ := id hAC
  have eb : (m 197 0).toNatClampNeg = b := by rw [b2]; exact nI_clamp (by omega)
  have hdb := (hI.2.2.2.2.1 b b1).2.1
  have hib : IB ND m 0 b := fun P h1 _ => h1 b b1 b2
  obtain ⟨-, -, -, f15, f13, f14⟩ := hF.2 0 hNF0
  rw [et] at f13
  have ey : (m 196 0).toNatClampNeg = y := by rw [y2]; exact nI_clamp (by omega)
  rw [ey] at f14
  have hcly : m 181 y = 0 ∧ m 182 y = 0 := ⟨y3.1.resolve_right (by omega), y3.2.resolve_right (by omega)⟩
  have dy := hI.2.2.2.1 y y1
  have eNG : NG gL wf lI lI (nI b) = GVt gL m lI lI y := by
    rw [ngn (r := y) (b3.trans y2) (by omega) (by omega)]
    exact GVt_c (TW_I hI) (fun t ht c a b => AC_t hI hAC ht a b) y1
  have dx := hI.2.2.2.1 x x1
  have eOUT : OUT w0 A B = OUT m A B := (OUT_p hI0 hNF0 hp).symm
  have eTLD : TLD w0 A B = TLD m A B := (TLD_p hI0 hNF0 hp).symm
  rw [eOUT, eTLD]
  have h117 : ∀ (w : mm_P) (m2 : mm_G) (x5 : Int32) (e : Int32), e = OUT m A B → w 162 5 = e → RWl (w 162 1) (w 163) (TLD m A B) → mm_WQ (mm_call mm_ms (mm_tb L xs) (d + 12)) (mm_tb L xs) mm_m66 (mm_li mm_m66) (fun o w' _ => o = some (mm_I (OUT m A B)) ∧ RWl (w' 162 1) (w' 163) (TLD m A B)) 117 [some (mm_R 164), some (mm_L (ml 13 0)), none, some (mm_L (ml 14 0)), none, some (mm_I x5)] [] w m2 := fun w m2 x5 e h1 h2 h3 => bk_X6_work_L_117 (mm_call_m _) (en_X9_outcome (bk_X9_outcome_0 (mm_call_m _) (bk_X6_work_L_124 (mm_call_m _) ⟨by rw [h2, h1], h3⟩)))
  -- an end with another outcome
  have h92 : ∀ (w : mm_P) (x5 : Int32) (e : Int32), ¬ e = 0 → e = OUT m A B → w 162 5 = e → RWl (w 162 1) (w 163) (TLD m A B) → mm_WQ (mm_call mm_ms (mm_tb L xs) (d + 12)) (mm_tb L xs) mm_m66 (mm_li mm_m66) (fun o w' _ => o = some (mm_I (OUT m A B)) ∧ RWl (w' 162 1) (w' 163) (TLD m A B)) 92 [some (mm_R 164), some (mm_L (ml 13 0)), none, some (mm_L (ml 14 0)), none, some (mm_I x5)] [] w ml := fun w x5 e hne h1 h2 h3 => bk_X6_work_L_92 (mm_call_m _) (en_X9_goesOn (bk_X9_goesOn_0 (mm_call_m _) (fun _ => bk_X6_work_L_99 (s0 := 0) (mm_call_m _) (fun _ => h117 w ml x5 e h1 h2 h3) (fun z => absurd rfl z)) (fun z => absurd (h2.symm.trans z) hne)))
  -- an end with a value: it is told
  have h92' : ∀ (w : mm_P) (x5 : Int32), mm_IC w → 0 = OUT m A B → w 162 5 = 0 → (∀ Q' : mm_QQ, (∀ w2, FTl w w2 → RWl (w2 162 1) (w2 163) (TLD m A B) → Q' none w2 ml) → mm_cq (mm_call mm_ms (mm_tb L xs) (d + 12)) 81 [mm_R 164, mm_L (ml 14 0), mm_I (w 164 8 - 1)] w ml Q') → mm_WQ (mm_call mm_ms (mm_tb L xs) (d + 12)) (mm_tb L xs) mm_m66 (mm_li mm_m66) (fun o w' _ => o = some (mm_I (OUT m A B)) ∧ RWl (w' 162 1) (w' 163) (TLD m A B)) 92 [some (mm_R 164), some (mm_L (ml 13 0)), none, some (mm_L (ml 14 0)), none, some (mm_I x5)] [] w ml := by
    intro w x5 hi h1 h2 h3
    exact bk_X6_work_L_92 (mm_call_m _) (en_X9_goesOn (bk_X9_goesOn_0 (mm_call_m _) (fun z => absurd h2 z) (fun _ => bk_X6_work_L_99 (s0 := 1) (mm_call_m _) (fun z => absurd z (by decide)) (fun _ => en_X5_shapeWidth (bk_X5_shapeWidth_0 (mm_call_m _) (bk_X6_work_L_113 (mm_call_m _) (h3 _ (fun w2 f2 r2 => h117 w2 ml x5 0 h1 ((f2 162 5 (by omega) (by decide)).trans h2) r2))))))))
  generalize hC : (fun (T : Nat) (w : mm_P) => mm_IC w → mm_WQ (mm_call mm_ms (mm_tb L xs) (d + 12)) (mm_tb L xs) mm_m66 (mm_li mm_m66) (fun o w' _ => o = some (mm_I (OUT m A B)) ∧ RWl (w' 162 1) (w' 163) (TLD m A B)) 58 [some (mm_R 164), some (mm_L (ml 13 0)), none, some (mm_L (ml 14 0)), none, some (mm_I (nI T))] [] w ml) = C
  have hCi : ∀ T w, (mm_IC w → mm_WQ (mm_call mm_ms (mm_tb L xs) (d + 12)) (mm_tb L xs) mm_m66 (mm_li mm_m66) (fun o w' _ => o = some (mm_I (OUT m A B)) ∧ RWl (w' 162 1) (w' 163) (TLD m A B)) 58 [some (mm_R 164), some (mm_L (ml 13 0)), none, some (mm_L (ml 14 0)), none, some (mm_I (nI T))] [] w ml) → C T w := fun T w q => by
    rw [← hC]
    exact q
  have hCe : ∀ T w, C T w → mm_IC w → mm_WQ (mm_call mm_ms (mm_tb L xs) (d + 12)) (mm_tb L xs) mm_m66 (mm_li mm_m66) (fun o w' _ => o = some (mm_I (OUT m A B)) ∧ RWl (w' 162 1) (w' 163) (TLD m A B)) 58 [some (mm_R 164), some (mm_L (ml 13 0)), none, some (mm_L (ml 14 0)), none, some (mm_I (nI T))] [] w ml := fun T w q => by
    rw [← hC] at q
    exact q
  have hturn : ∀ T w k, T < 100000 → k < 600 → w 164 10 = nI (k + 1) → w 162 5 = 0 → mm_cq (mm_call mm_ms (mm_tb L xs) (d + 5 + 7)) 69 [mm_R 164] w ml (fun o a b => o = none ∧ b = ml ∧ C (T + 1) a) → C T w := fun T w k hT hk h10 h5 hq => hCi T w (fun hi => by
    have hlt : ¬ (100000 : Int32) ≤ nI T := fun z => by
      have := mm_leI z
      rw [mm_tI (by omega), show (100000 : Int32).toInt = 100000 from rfl] at this
      omega
    have hle : ¬ w 164 10 ≤ 0 := fun z => by
      rw [h10] at z
      have := mm_leI z
      rw [mm_tI (by omega), mm_tt0] at this
      omega
    refine bk_X6_work_L_58 (mm_call_m _) (fun z => absurd z hlt) (fun _ z => absurd z hle) (fun _ _ => en_X9_goesOn (bk_X9_goesOn_0 (mm_call_m _) (fun z => absurd h5 z) (fun _ => bk_X6_work_L_79 (s0 := 1) (mm_call_m _) (fun z => absurd z (by decide)) (fun _ => mm_cq_m (mm_call_m _) (mm_cq_a hq (sc_X6_takeTurn_L (d := d + 6) (Q := fun _ n1 _ => mm_IC n1) hi (fun n1 n2 a _ => a))) (fun o n1 n2 ⟨⟨e1, e2, hc⟩, hi2⟩ => ?_)))))
    obtain rfl : ml = n2 := e2.symm
    subst e1
    refine bk_X6_work_L_86 (mm_call_m _) ?_
    rw [show nI T + 1 = nI (T + 1) from (nI_succ T).symm]
    exact hCe _ _ hc hi2)
  have hj := cl_ev (d := d + 5) hturn hI ((hlo 1 1 (by decide)).trans hT0.1) hN hF hJ hTR1 360
  refine en_X6_work_L (bk_X6_work_L_0 (mm_call_m _) ?_)
  generalize hw1 : mm_u (mm_u (mm_u (mm_u w0 164 8 0) 164 9 4096) 164 10 0) 164 11 0 = w1
  have hIC1 : mm_IC w1 := by
    rw [← hw1]
    exact mm_IC_n (mm_IC_n (mm_IC_n (mm_IC_n hIC (by decide) (by decide) (by decide) (by decide) (by decide)) (by decide) (by decide) (by decide) (by decide) (by decide)) (by decide) (by decide) (by decide) (by decide) (by decide)) (by decide) (by decide) (by decide) (by decide) (by decide)
  have a0 : ∀ c i, ¬ c = 164 → w1 c i = w0 c i := fun c i z => by rw [← hw1, mm_u_e z, mm_u_e z, mm_u_e z, mm_u_e z]
  have a8 : w1 164 8 = nI 0 := by
    rw [← hw1, mm_u_f (by decide), mm_u_f (by decide), mm_u_f (by decide), mm_u_s]
    rfl
  have a9 : w1 164 9 = nI 4096 := by
    rw [← hw1, mm_u_f (by decide), mm_u_f (by decide), mm_u_s]
    rfl
  have a10 : w1 164 10 = nI 0 := by
    rw [← hw1, mm_u_f (by decide), mm_u_s]
    rfl
  have a11 : w1 164 11 = nI 0 := by
    rw [← hw1, mm_u_s]
    rfl
  -- begin
  have r1 : mm_cq (mm_call mm_ms (mm_tb L xs) (d + 12)) 117 [mm_R 162] w1 ml (fun o n1 n2 => o = none ∧ ml = n2 ∧ n1 = mm_u (mm_u (mm_u (mm_u (mm_u w1 162 1 0) 162 2 0) 162 3 0) 162 4 0) 162 5 0) := en_X9_begin (bk_X9_begin_0 (mm_call_m _) ⟨rfl, rfl, rfl⟩)
  refine mm_cq_m (mm_call_m _) (mm_cq_a r1 (sc_X9_begin (Q := fun _ n1 _ => mm_IC n1) hIC1 (fun n1 n2 a _ => a))) (fun o w2 n2 ⟨⟨e1, e2, e3⟩, hIC2⟩ => ?_)
  subst e1 e2
  have c0 : ∀ c i, ¬ c = 162 → w2 c i = w1 c i := fun c i z => by rw [e3, mm_u_e z, mm_u_e z, mm_u_e z, mm_u_e z, mm_u_e z]
  have c1 : w2 162 1 = 0 := by rw [e3, mm_u_f (by decide), mm_u_f (by decide), mm_u_f (by decide), mm_u_f (by decide), mm_u_s]
  have c2 : w2 162 2 = nI 0 := by
    rw [e3, mm_u_f (by decide), mm_u_f (by decide), mm_u_f (by decide), mm_u_s]
    rfl
  have c3 : w2 162 3 = nI 0 := by
    rw [e3, mm_u_f (by decide), mm_u_f (by decide), mm_u_s]
    rfl
  have c5 : w2 162 5 = 0 := by rw [e3, mm_u_s]
  refine bk_X6_work_L_29 (mm_call_m _) ?_
  -- rewind
  have r2 : mm_cq (mm_call mm_ms (mm_tb L xs) (d + 12)) 38 [mm_R 160] w2 ml (fun o n1 n2 => o = none ∧ ml = n2 ∧ n1 = mm_u w2 160 2 0) := en_X3_rewind (bk_X3_rewind_0 (mm_call_m _) ⟨rfl, rfl, rfl⟩)
  refine mm_cq_m (mm_call_m _) (mm_cq_a r2 (sc_X3_rewind (Q := fun _ n1 _ => mm_IC n1) hIC2 (fun n1 n2 a _ => a))) (fun o w3 n2 ⟨⟨e1, e2, e4⟩, hIC3⟩ => ?_)
  subst e1 e2
  have d0 : ∀ c i, ¬ (c = 160 ∧ i = 2) → w3 c i = w2 c i := fun c i z => by rw [e4, mm_u_o z]
  have d2 : w3 160 2 = nI (min 0 N) := by
    rw [e4, mm_u_s, Nat.zero_min]
    rfl
  refine bk_X6_work_L_36 (mm_call_m _) ?_
  -- the argument is read
  have w30 : ∀ c i, ¬ c = 164 → ¬ c = 162 → ¬ (c = 160 ∧ i = 2) → w3 c i = w0 c i := fun c i z1 z2 z3 => (d0 c i z3).trans ((c0 c i z2).trans (a0 c i z1))
  have w34 : ∀ i, w3 164 i = w1 164 i := fun i => (d0 164 i (by omega)).trans (c0 164 i (by decide))
  have w32 : ∀ i, w3 162 i = w2 162 i := fun i => d0 162 i (by omega)
  have r3 : mm_cq (mm_call mm_ms (mm_tb L xs) (d + 12)) 80 [mm_R 164, mm_L (ml 13 0)] w3 ml (fun o n1 n2 => o = none ∧ ml = n2 ∧ RV w3 n1 N (GVt gL m lI lI x) 5 0 4096 0 0 A B (fun _ => 0) (rd m 5 x A B 0 0)) := by
    rw [f13]
    exact cl_read (d := d + 4) hI hT hmN (by omega) mLR_I mLR_I 5 x1 hclx.1 hclx.2 (by omega) ((w30 160 1 (by decide) (by decide) (by omega)).trans eN) (hm61 w3 (fun i => w30 161 i (by decide) (by decide) (by omega))) (by decide) ((w34 8).trans a8) ((w34 9).trans a9) (Nat.le_refl _) (by decide) d2 (by decide) (fun a ha => absurd ha (Nat.not_lt_zero _)) (fun w' hR => ⟨rfl, rfl, hR⟩)
  refine mm_cq_m (mm_call_m _) (mm_cq_a r3 (sc_X6_readValue_L (d := d + 2) (Q := fun _ n1 _ => mm_IC n1) hIC3 (fun n1 n2 a _ => a))) (fun o w4 n2 ⟨⟨e1, e2, hRV⟩, hIC4⟩ => ?_)
  subst e1 e2
  obtain ⟨v, A1, B1, h1, e', φ, p, grd, ⟨s8, s9, sp, sl1, sl2⟩, -, hFR, -, -, -, -, hLP, hG⟩ := hRV
  have c5n : cn 5 = 1364 := by decide
  rw [c5n] at sl2
  have ep : p = 4096 + 2 * h1 := by omega
  subst ep
  have w42 : ∀ i, w4 162 i = w2 162 i := fun i => (hFR 162 i (by decide) (by omega) (by omega)).trans (w32 i)
  have w40 : ∀ c i, c < 160 → w4 c i = w0 c i := fun c i q => (hFR c i (by omega) (by omega) (by omega)).trans (w30 c i (by omega) (by omega) (by omega))
  have t10 : w4 164 10 = nI 0 := (hFR 164 10 (by decide) (by omega) (by omega)).trans ((w34 10).trans a10)
  have t11 : w4 164 11 = nI 0 := (hFR 164 11 (by decide) (by omega) (by omega)).trans ((w34 11).trans a11)
  refine bk_X6_work_L_41 (mm_call_m _) ?_
  -- the first function is opened
  have r4 : mm_cq (mm_call mm_ms (mm_tb L xs) (d + 12)) 67 [mm_R 164, mm_I 0] w4 ml (fun o n1 n2 => o = none ∧ ml = n2 ∧ ∃ y, n1 = mm_u (mm_u (mm_u (mm_u w4 168 0 0) 169 0 (nI 0)) 164 11 (nI (0 + 1))) 162 4 y) := tn_open (d := d + 10) (o := 0) (t := 0) (g := 0) t11 (by decide) s8 (by decide) (fun z => absurd z (by decide)) (fun _ y => ⟨rfl, rfl, y, rfl⟩)
  refine mm_cq_m (mm_call_m _) (mm_cq_a r4 (sc_X6_openFunction_L (Q := fun _ n1 _ => mm_IC n1) hIC4 (fun n1 n2 a _ => a))) (fun o w5 n2 ⟨⟨e1, e2, yo, e5⟩, hIC5⟩ => ?_)
  subst e1 e2
  have g0 : ∀ c i, ¬ (c = 168 ∧ i = 0) → ¬ (c = 169 ∧ i = 0) → ¬ (c = 164 ∧ i = 11) → ¬ (c = 162 ∧ i = 4) → w5 c i = w4 c i := fun c i z1 z2 z3 z4 => by rw [e5, mm_u_o z4, mm_u_o z3, mm_u_o z2, mm_u_o z1]
  have g11 : w5 164 11 = nI 1 := by rw [e5, mm_u_e (by decide), mm_u_s]
  have g169 : w5 169 0 = nI 0 := by rw [e5, mm_u_e (by decide), mm_u_e (by decide), mm_u_s]
  have e165 : w5 165 = w4 165 := funext fun i => g0 165 i (by omega) (by omega) (by omega) (by omega)
  have w50 : ∀ c i, c < 160 → w5 c i = m c i := fun c i q => (g0 c i (by omega) (by omega) (by omega) (by omega)).trans ((w40 c i q).trans (hlo c i (by omega)).symm)
  refine bk_X6_work_L_46 (mm_call_m _) (en_X5_bodyOf (bk_X5_bodyOf_0 (mm_call_m _) (sx_bodyOf (f := 0) ((w50 9 7 (by decide)).trans hF.1) hNF hNF0 (bk_X5_bodyOf_8 (mm_call_m _) (bk_X6_work_L_52 (mm_call_m _) ?_)))))
  rw [w50 15 0 (by decide), f15, b2]
  -- its body begins
  have hW : WC m w5 (w5 165) 1 (4096 + 2 * h1) 0 1 0 0 := ⟨w50, fun _ => rfl, ⟨(g0 164 8 (by omega) (by omega) (by omega) (by omega)).trans s8, (g0 164 9 (by omega) (by omega) (by omega) (by omega)).trans s9, (g0 164 10 (by omega) (by omega) (by omega) (by omega)).trans t10, g11⟩, (g0 162 2 (by omega) (by omega) (by omega) (by omega)).trans ((w42 2).trans c2), (g0 162 3 (by omega) (by omega) (by omega) (by omega)).trans ((w42 3).trans c3), (g0 162 5 (by omega) (by omega) (by omega) (by omega)).trans ((w42 5).trans c5), (g0 162 1 (by omega) (by omega) (by omega) (by omega)).trans ((w42 1).trans c1)⟩
  have r6 : mm_cq (mm_call mm_ms (mm_tb L xs) (d + 12)) 68 [mm_R 164, mm_I (nI b)] w5 ml (fun o a b => o = none ∧ b = ml ∧ C 0 a) := by
    refine cl_bg (d := d + 10) (k := 0) (t := 1) (o := 1) (s := 0) (l := 0) (T := 0) (A := A1) (B := B1) (h := h1) (φ := φ) (K := w5 165) (f := 0) (wf := wf) (TY := TY) (SA := lI) (SB := lI) (n := b) (arg := v) hI hj hW (by decide) (by decide) (fun _ w e169 => ⟨⟨by decide, by decide⟩, ⟨by decide, by decide, by omega, by decide⟩, hLP, hAC, ⟨mLR_I, mLR_I⟩, ⟨x, 0, x1, x2, e169.trans g169, by decide, ?_⟩, ⟨b1, hib, by omega, by decide⟩, by omega⟩) (by omega) (by omega) (by decide) (fun _ w _ => ?_) ?_
    · rw [e165]
      exact hG
    · intro z A2 B2 h2 s2 l2 o2 K2 φ2 w' T' he hZG hW2 _ _ hLP2 hNG _
      have eO := OUT_e et eb grd he
      have hTell : ∀ Q' : mm_QQ, (∀ w2, FTl w' w2 → RWl (w2 162 1) (w2 163) (TLD m A B) → Q' none w2 ml) → mm_cq (mm_call mm_ms (mm_tb L xs) (d + 12)) 81 [mm_R 164, mm_L (ml 14 0), mm_I (w' 164 8 - 1)] w' ml Q' := fun Q' hq => by
        obtain ⟨⟨z1, z2⟩, ⟨z3, z4⟩, z5, -⟩ := id hZG
        have hb3 := run_bt hI hJ x1 x2 y1 y2 eb (by omega) grd he z5
        rw [eNG] at hNG
        rw [f14, hW2.2.2.1.1, show nI (1 + 1) - 1 = nI 1 from by decide]
        refine cl_tell (d := d + 4) (h := h2) (φ := φ2) (K := K2) (A := A2) (B := B2) hI hT (by omega) (fun a ha => ⟨(hLP2 a ha).1, by have := (hLP2 a ha).2; omega⟩) 5 (ty := y) (a := 1) (v := z) (l := []) y1 hcly.1 hcly.2 (by omega) (by decide) hW2.2.1 hNG hb3 (RWl_z hW2.2.2.2.2.2.2) (fun w2 f2 r2 => hq w2 f2 ?_)
        rw [TLD_e et eb ey grd he, if_pos rfl]
        exact r2
      have h10 : w' 164 10 ≤ 0 := by
        rw [hW2.2.2.1.2.2.1]
        decide
      exact hCi T' w' (fun hi => bk_X6_work_L_58 (mm_call_m _) (fun _ => h92' w' _ hi eO.symm hW2.2.2.2.2.2.1 hTell) (fun _ _ => h92' w' _ hi eO.symm hW2.2.2.2.2.2.1 hTell) (fun _ z => absurd h10 z))
    · intro e z A2 B2 h2 s2 l2 o2 w' T' he hne _ h5 h01 _
      have eO := OUT_e et eb grd he
      have hRz : RWl (w' 162 1) (w' 163) (TLD m A B) := by
        rw [TLD_e et eb ey grd he, if_neg hne]
        exact RWl_z h01
      exact hCi T' w' (fun hi => bk_X6_work_L_58 (mm_call_m _) (fun _ => h92 w' _ e hne eO.symm h5 hRz) (fun _ _ => h92 w' _ e hne eO.symm h5 hRz) (fun _ _ => en_X9_goesOn (bk_X9_goesOn_0 (mm_call_m _) (fun _ => bk_X6_work_L_79 (s0 := 0) (mm_call_m _) (fun _ => h92 w' _ e hne eO.symm h5 hRz) (fun z => absurd rfl z)) (fun z => absurd (h5.symm.trans z) hne))))
  refine mm_cq_m (mm_call_m _) (mm_cq_a r6 (sc_X6_beginNode_L (Q := fun _ n1 _ => mm_IC n1) hIC5 (fun n1 n2 a _ => a))) (fun o n1 n2 ⟨⟨e1, e2, hc⟩, hi⟩ => ?_)
  obtain rfl : ml = n2 := e2.symm
  subst e1
  exact bk_X6_work_L_55 (mm_call_m _) (hCe 0 n1 hc hi)
theorem cc_workr {m : mm_P} (A B : HF) (hCV : CV m ml) (hTR : TRN m) (h09 : m 0 9 = 0) {Cl : List CTy} (hcc : CC m ml = some Cl) (hCR : CRw m ml Cl) (hUR : ∀ s, s ∈ Cl → s.1 < 12 ∧ UR m s.1) (hPR : ∀ i, i < Cl.length → PRC m ml m ml Cl i) : mm_cq (mm_call mm_ms (mm_tb L xs) (d + 21)) 66 [mm_R 170, mm_L (ml 13 0), mm_L (ml 14 0)] m ml (fun o w' _ => o = some (mm_I (OUT m A B)) ∧ RWl (w' 162 1) (w' 163) (TLD m A B)) := by
  obtain ⟨hIC, -, -, h41, h61⟩ := id hCV.1.1.1
  obtain ⟨NB, ND, NF, hI, hT, hF, hNF0, hP, hlen, h0⟩ := CPG_of hCV h09 hcc hCR hUR hPR
  have hNB := hI.1.1
  have hND := hI.1.2.1
  have hNF := hI.1.2.2
  have hTR1 := TRN_n hTR hND hP.2.1
  obtain ⟨N, eN, hN16, -, -⟩ := mm_of (n := 17) (by have := hIC.2.2.2.2.2.1; exact this) (by have := hIC.2.2.2.2.2.2; omega)
  have hmN : m 176 41 = nI N := h41.symm.trans eN
  have hm61 : ∀ w : mm_P, (∀ i, w 161 i = m 161 i) → ∀ i, i < N → w 161 i = m 211 i := fun w h i hi => by
    rw [h i, h61 i (by rw [eN, mm_tI (by omega)]; omega)]
  obtain ⟨hOT, h32, ⟨hAS, hRS, h36, h37⟩, b, b1, b2, b5, b3, hNd⟩ := hP.2.2.2 0 hlen
  have hOT0 := hOT
  rw [h0] at h32 hAS hRS h36 h37 b2 b5
  obtain ⟨l1, ⟨x, x1, x2, x3⟩, ⟨y, y1, y2, y3⟩, -⟩ := hI.2.2.2.2.2.1 0 hNF0
  have et : (m 195 0).toNatClampNeg = x := by rw [x2]; exact nI_clamp (by omega)
  have eb : (m 197 0).toNatClampNeg = b := by
    rw [show m 197 0 = nI b from b5]
    exact nI_clamp (by omega)
  have hdb := (hI.2.2.2.2.1 b b1).2.1
  obtain ⟨-, -, -, f15, f13, f14⟩ := hF.2 0 hNF0
  rw [et] at f13
  have ey : (m 196 0).toNatClampNeg = y := by rw [y2]; exact nI_clamp (by omega)
  rw [ey] at f14
  obtain ⟨jy, hjy⟩ := hP.1.2.2.1 y y1
  have hR1 : ¬ f_with (ml 2 y) (-1) (-1) = -1 := fun e => by
    have h := hRS
    rw [show cRS ml k_c0 = f_with (ml 14 0) (-1) (-1) from rfl, f14, e] at h
    exact CLs_n h
  obtain ⟨hcly, ewy⟩ := with_nn jy (ml 2 y) hjy hR1
  have eS : sgm ml (Cl.getD 0 k_c0) b = ml 2 y := by
    rw [b3, h0, show cRS ml k_c0 = f_with (ml 14 0) (-1) (-1) from rfl, f14, ewy]
  have wy := wd_16 hcly
  have dy := dpn_r (CLs_V hcly)
  have hVJ : VP m ml 0 := by
    have h := hCV.1.2.2
    rw [h09] at h
    exact h
  obtain ⟨mJ, hpJ, hJ⟩ := JO_ex hCV.1.1 hI hVJ
  have hIJ := IM_c hI hpJ
  -- the first copy's argument is the first function's
  obtain ⟨jx, hjx⟩ := hP.1.2.2.1 x x1
  have hA1 : ¬ f_with (ml 2 x) (-1) (-1) = -1 := fun e => by
    have h := hAS
    rw [show cAS ml k_c0 = f_with (ml 13 0) (-1) (-1) from rfl, f13, e] at h
    exact CLs_n h
  obtain ⟨hclx, ewx⟩ := with_nn jx (ml 2 x) hjx hA1
  have eAS : cAS ml k_c0 = ml 2 x := by
    rw [show cAS ml k_c0 = f_with (ml 13 0) (-1) (-1) from rfl, f13, ewx]
  rw [eAS] at h36
  have wx := wd_16 hclx
  have dx := dpn_r (CLs_V hclx)
  have h117 : ∀ (w : mm_P) (m2 : mm_G) (x5 : Int32) (e : Int32), e = OUT m A B → w 162 5 = e → RWl (w 162 1) (w 163) (TLD m A B) → mm_WQ (mm_call mm_ms (mm_tb L xs) (d + 20)) (mm_tb L xs) mm_m66 (mm_li mm_m66) (fun o w' _ => o = some (mm_I (OUT m A B)) ∧ RWl (w' 162 1) (w' 163) (TLD m A B)) 117 [some (mm_R 170), some (mm_L (ml 13 0)), none, some (mm_L (ml 14 0)), none, some (mm_I x5)] [] w m2 := fun w m2 x5 e h1 h2 h3 => bk_X6_work_C_117 (mm_call_m _) (en_X9_outcome (bk_X9_outcome_0 (mm_call_m _) (bk_X6_work_C_124 (mm_call_m _) ⟨by rw [h2, h1], h3⟩)))
  have h92 : ∀ (w : mm_P) (x5 : Int32) (e : Int32), ¬ e = 0 → e = OUT m A B → w 162 5 = e → RWl (w 162 1) (w 163) (TLD m A B) → mm_WQ (mm_call mm_ms (mm_tb L xs) (d + 20)) (mm_tb L xs) mm_m66 (mm_li mm_m66) (fun o w' _ => o = some (mm_I (OUT m A B)) ∧ RWl (w' 162 1) (w' 163) (TLD m A B)) 92 [some (mm_R 170), some (mm_L (ml 13 0)), none, some (mm_L (ml 14 0)), none, some (mm_I x5)] [] w ml := fun w x5 e hne h1 h2 h3 => bk_X6_work_C_92 (mm_call_m _) (en_X9_goesOn (bk_X9_goesOn_0 (mm_call_m _) (fun _ => bk_X6_work_C_99 (s0 := 0) (mm_call_m _) (fun _ => h117 w ml x5 e h1 h2 h3) (fun z => absurd rfl z)) (fun z => absurd (h2.symm.trans z) hne)))
  have h92' : ∀ (w : mm_P) (x5 : Int32), mm_IC w → 0 = OUT m A B → w 162 5 = 0 → (∀ Q' : mm_QQ, (∀ w2, FTl w w2 → RWl (w2 162 1) (w2 163) (TLD m A B) → Q' none w2 ml) → mm_cq (mm_call mm_ms (mm_tb L xs) (d + 20)) 81 [mm_R 170, mm_L (ml 14 0), mm_I (w 170 8 - f_width (ml 14 0))] w ml Q') → mm_WQ (mm_call mm_ms (mm_tb L xs) (d + 20)) (mm_tb L xs) mm_m66 (mm_li mm_m66) (fun o w' _ => o = some (mm_I (OUT m A B)) ∧ RWl (w' 162 1) (w' 163) (TLD m A B)) 92 [some (mm_R 170), some (mm_L (ml 13 0)), none, some (mm_L (ml 14 0)), none, some (mm_I x5)] [] w ml := by
    intro w x5 hi h1 h2 h3
    exact bk_X6_work_C_92 (mm_call_m _) (en_X9_goesOn (bk_X9_goesOn_0 (mm_call_m _) (fun z => absurd h2 z) (fun _ => bk_X6_work_C_99 (s0 := 1) (mm_call_m _) (fun z => absurd z (by decide)) (fun _ => en_X1_shapeWidth (bk_X1_shapeWidth_0 (mm_call_m _) (sp_X10_widthOf (d := d + 9) (bk_X1_shapeWidth_4 (mm_call_m _) (bk_X6_work_C_113 (mm_call_m _) (h3 _ (fun w2 f2 r2 => h117 w2 ml x5 0 h1 ((f2 162 5 (by omega) (by decide)).trans h2) r2))))))))))
  generalize hC : (fun (T : Nat) (w : mm_P) => mm_IC w → mm_WQ (mm_call mm_ms (mm_tb L xs) (d + 20)) (mm_tb L xs) mm_m66 (mm_li mm_m66) (fun o w' _ => o = some (mm_I (OUT m A B)) ∧ RWl (w' 162 1) (w' 163) (TLD m A B)) 58 [some (mm_R 170), some (mm_L (ml 13 0)), none, some (mm_L (ml 14 0)), none, some (mm_I (nI T))] [] w ml) = C
  have hCi : ∀ T w, (mm_IC w → mm_WQ (mm_call mm_ms (mm_tb L xs) (d + 20)) (mm_tb L xs) mm_m66 (mm_li mm_m66) (fun o w' _ => o = some (mm_I (OUT m A B)) ∧ RWl (w' 162 1) (w' 163) (TLD m A B)) 58 [some (mm_R 170), some (mm_L (ml 13 0)), none, some (mm_L (ml 14 0)), none, some (mm_I (nI T))] [] w ml) → C T w := fun T w q => by
    rw [← hC]
    exact q
  have hCe : ∀ T w, C T w → mm_IC w → mm_WQ (mm_call mm_ms (mm_tb L xs) (d + 20)) (mm_tb L xs) mm_m66 (mm_li mm_m66) (fun o w' _ => o = some (mm_I (OUT m A B)) ∧ RWl (w' 162 1) (w' 163) (TLD m A B)) 58 [some (mm_R 170), some (mm_L (ml 13 0)), none, some (mm_L (ml 14 0)), none, some (mm_I (nI T))] [] w ml := fun T w q => by
    rw [← hC] at q
    exact q
  have hturn : ∀ T w k, T < 100000 → k < 600 → w 170 10 = nI (k + 1) → w 162 5 = 0 → mm_cq (mm_call mm_ms (mm_tb L xs) (d + 13 + 7)) 69 [mm_R 170] w ml (fun o a b => o = none ∧ b = ml ∧ C (T + 1) a) → C T w := fun T w k hT hk h10 h5 hq => hCi T w (fun hi => by
    have hlt : ¬ (100000 : Int32) ≤ nI T := fun z => by
      have := mm_leI z
      rw [mm_tI (by omega), show (100000 : Int32).toInt = 100000 from rfl] at this
      omega
    have hle : ¬ w 170 10 ≤ 0 := fun z => by
      rw [h10] at z
      have := mm_leI z
      rw [mm_tI (by omega), mm_tt0] at this
      omega
    refine bk_X6_work_C_58 (mm_call_m _) (fun z => absurd z hlt) (fun _ z => absurd z hle) (fun _ _ => en_X9_goesOn (bk_X9_goesOn_0 (mm_call_m _) (fun z => absurd h5 z) (fun _ => bk_X6_work_C_79 (s0 := 1) (mm_call_m _) (fun z => absurd z (by decide)) (fun _ => mm_cq_m (mm_call_m _) (mm_cq_a hq (sc_X6_takeTurn_C (d := d + 14) (Q := fun _ n1 _ => mm_IC n1) hi (fun n1 n2 a _ => a))) (fun o n1 n2 ⟨⟨e1, e2, hc⟩, hi2⟩ => ?_)))))
    obtain rfl : ml = n2 := e2.symm
    subst e1
    refine bk_X6_work_C_86 (mm_call_m _) ?_
    rw [show nI T + 1 = nI (T + 1) from (nI_succ T).symm]
    exact hCe _ _ hc hi2)
  have hj := cc_ev (d := d + 13) hturn hI hP hTR1 360
  refine en_X6_work_C (bk_X6_work_C_0 (mm_call_m _) ?_)
  generalize hw1 : mm_u (mm_u (mm_u (mm_u m 170 8 0) 170 9 4096) 170 10 0) 170 11 0 = w1
  have hIC1 : mm_IC w1 := by
    rw [← hw1]
    exact mm_IC_n (mm_IC_n (mm_IC_n (mm_IC_n hIC (by decide) (by decide) (by decide) (by decide) (by decide)) (by decide) (by decide) (by decide) (by decide) (by decide)) (by decide) (by decide) (by decide) (by decide) (by decide)) (by decide) (by decide) (by decide) (by decide) (by decide)
  have a0 : ∀ c i, ¬ c = 170 → w1 c i = m c i := fun c i z => by rw [← hw1, mm_u_e z, mm_u_e z, mm_u_e z, mm_u_e z]
  have a8 : w1 170 8 = nI 0 := by
    rw [← hw1, mm_u_f (by decide), mm_u_f (by decide), mm_u_f (by decide), mm_u_s]
    rfl
  have a9 : w1 170 9 = nI 4096 := by
    rw [← hw1, mm_u_f (by decide), mm_u_f (by decide), mm_u_s]
    rfl
  have a10 : w1 170 10 = nI 0 := by
    rw [← hw1, mm_u_f (by decide), mm_u_s]
    rfl
  have a11 : w1 170 11 = nI 0 := by
    rw [← hw1, mm_u_s]
    rfl
  -- begin
  have r1 : mm_cq (mm_call mm_ms (mm_tb L xs) (d + 20)) 117 [mm_R 162] w1 ml (fun o n1 n2 => o = none ∧ ml = n2 ∧ n1 = mm_u (mm_u (mm_u (mm_u (mm_u w1 162 1 0) 162 2 0) 162 3 0) 162 4 0) 162 5 0) := en_X9_begin (bk_X9_begin_0 (mm_call_m _) ⟨rfl, rfl, rfl⟩)
  refine mm_cq_m (mm_call_m _) (mm_cq_a r1 (sc_X9_begin (Q := fun _ n1 _ => mm_IC n1) hIC1 (fun n1 n2 a _ => a))) (fun o w2 n2 ⟨⟨e1, e2, e3⟩, hIC2⟩ => ?_)
  subst e1 e2
  have c0 : ∀ c i, ¬ c = 162 → w2 c i = w1 c i := fun c i z => by rw [e3, mm_u_e z, mm_u_e z, mm_u_e z, mm_u_e z, mm_u_e z]
  have c1 : w2 162 1 = 0 := by rw [e3, mm_u_f (by decide), mm_u_f (by decide), mm_u_f (by decide), mm_u_f (by decide), mm_u_s]
  have c2 : w2 162 2 = nI 0 := by
    rw [e3, mm_u_f (by decide), mm_u_f (by decide), mm_u_f (by decide), mm_u_s]
    rfl
  have c3 : w2 162 3 = nI 0 := by
    rw [e3, mm_u_f (by decide), mm_u_f (by decide), mm_u_s]
    rfl
  have c5 : w2 162 5 = 0 := by rw [e3, mm_u_s]
  refine bk_X6_work_C_29 (mm_call_m _) ?_
  -- rewind
  have r2 : mm_cq (mm_call mm_ms (mm_tb L xs) (d + 20)) 38 [mm_R 160] w2 ml (fun o n1 n2 => o = none ∧ ml = n2 ∧ n1 = mm_u w2 160 2 0) := en_X3_rewind (bk_X3_rewind_0 (mm_call_m _) ⟨rfl, rfl, rfl⟩)
  refine mm_cq_m (mm_call_m _) (mm_cq_a r2 (sc_X3_rewind (Q := fun _ n1 _ => mm_IC n1) hIC2 (fun n1 n2 a _ => a))) (fun o w3 n2 ⟨⟨e1, e2, e4⟩, hIC3⟩ => ?_)
  subst e1 e2
  have d0 : ∀ c i, ¬ (c = 160 ∧ i = 2) → w3 c i = w2 c i := fun c i z => by rw [e4, mm_u_o z]
  have d2 : w3 160 2 = nI (min 0 N) := by
    rw [e4, mm_u_s, Nat.zero_min]
    rfl
  refine bk_X6_work_C_36 (mm_call_m _) ?_
  -- the argument is read
  have w30 : ∀ c i, ¬ c = 170 → ¬ c = 162 → ¬ (c = 160 ∧ i = 2) → w3 c i = m c i := fun c i z1 z2 z3 => (d0 c i z3).trans ((c0 c i z2).trans (a0 c i z1))
  have w34 : ∀ i, w3 170 i = w1 170 i := fun i => (d0 170 i (by omega)).trans (c0 170 i (by decide))
  have w32 : ∀ i, w3 162 i = w2 162 i := fun i => d0 162 i (by omega)
  have r3 : mm_cq (mm_call mm_ms (mm_tb L xs) (d + 20)) 80 [mm_R 170, mm_L (ml 13 0)] w3 ml (fun o n1 n2 => o = none ∧ ml = n2 ∧ RVc w3 n1 N (ml 2 x) 5 0 4096 0 0 A B (fun _ => 0) (rd m 5 x A B 0 0)) := by
    rw [f13]
    exact cc_read (d := d + 2) (h := 0) (e := 0) (φ := fun _ => 0) hI hT hmN (by omega) 5 x1 hclx dx.2 ((w30 160 1 (by decide) (by decide) (by omega)).trans eN) (hm61 w3 (fun i => w30 161 i (by decide) (by decide) (by omega))) (by omega) ((w34 8).trans a8) ((w34 9).trans a9) (Nat.le_refl _) (by decide) d2 (by decide) (fun w' hR => ⟨rfl, rfl, hR⟩)
  refine mm_cq_m (mm_call_m _) (mm_cq_a r3 (sc_X6_readValue_C (d := d + 2) (Q := fun _ n1 _ => mm_IC n1) hIC3 (fun n1 n2 a _ => a))) (fun o w4 n2 ⟨⟨e1, e2, hRV⟩, hIC4⟩ => ?_)
  subst e1 e2
  obtain ⟨v, A1, B1, h1, e', φ, p, grd, ⟨s8, s9, sp, sp2, sl1, sl2⟩, -, hFR, -, -, -, hG⟩ := hRV
  have c5n : cn 5 = 1364 := by decide
  have cf5 : cf 5 = 820 := by decide
  rw [c5n] at sl2
  rw [cf5] at sp2
  have w42 : ∀ i, w4 162 i = w2 162 i := fun i => (hFR 162 i (by decide) (by omega) (by omega)).trans (w32 i)
  have w40 : ∀ c i, c < 160 → w4 c i = m c i := fun c i q => (hFR c i (by omega) (by omega) (by omega)).trans (w30 c i (by omega) (by omega) (by omega))
  have t10 : w4 170 10 = nI 0 := (hFR 170 10 (by decide) (by omega) (by omega)).trans ((w34 10).trans a10)
  have t11 : w4 170 11 = nI 0 := (hFR 170 11 (by decide) (by omega) (by omega)).trans ((w34 11).trans a11)
  refine bk_X6_work_C_41 (mm_call_m _) ?_
  -- the first copy is opened
  have r4 : mm_cq (mm_call mm_ms (mm_tb L xs) (d + 20)) 67 [mm_R 170, mm_I 0] w4 ml (fun o n1 n2 => o = none ∧ ml = n2 ∧ ∃ y, n1 = mm_u (mm_u (mm_u (mm_u w4 174 0 (nI 0)) 175 0 (nI 0)) 170 11 (nI (0 + 1))) 162 4 y) := tm_open (d := d + 16) (o := 0) (t := 0) (wa := wd (ml 2 x)) (N := Cl.length) (ci := 0) t11 (by decide) s8 (by omega) ((w40 31 12 (by decide)).trans hP.2.2.1.1) hP.2.2.1.2 hlen ((w40 36 0 (by decide)).trans h36) (fun z => absurd z (by decide)) (fun _ y => ⟨rfl, rfl, y, rfl⟩)
  refine mm_cq_m (mm_call_m _) (mm_cq_a r4 (sc_X6_openFunction_C (d := d + 16) (Q := fun _ n1 _ => mm_IC n1) hIC4 (fun n1 n2 a _ => a))) (fun o w5 n2 ⟨⟨e1, e2, yo, e5⟩, hIC5⟩ => ?_)
  subst e1 e2
  have g0 : ∀ c i, ¬ (c = 174 ∧ i = 0) → ¬ (c = 175 ∧ i = 0) → ¬ (c = 170 ∧ i = 11) → ¬ (c = 162 ∧ i = 4) → w5 c i = w4 c i := fun c i z1 z2 z3 z4 => by rw [e5, mm_u_o z4, mm_u_o z3, mm_u_o z2, mm_u_o z1]
  have g11 : w5 170 11 = nI 1 := by rw [e5, mm_u_e (by decide), mm_u_s]
  have g175 : w5 175 0 = nI 0 := by rw [e5, mm_u_e (by decide), mm_u_e (by decide), mm_u_s]
  have g174 : w5 174 0 = nI 0 := by rw [e5, mm_u_e (by decide), mm_u_e (by decide), mm_u_e (by decide), mm_u_s]
  have e171 : ∀ i, w5 171 i = w4 171 i := fun i => g0 171 i (by omega) (by omega) (by omega) (by omega)
  have w50 : ∀ c i, c < 160 → w5 c i = m c i := fun c i q => (g0 c i (by omega) (by omega) (by omega) (by omega)).trans (w40 c i q)
  refine bk_X6_work_C_46 (mm_call_m _) (sf_bd (d := d + 17) (i := 0) (N := Cl.length) (f := 0) (NF := NF) ((w50 31 12 (by decide)).trans hP.2.2.1.1) hP.2.2.1.2 hlen ((w50 32 0 (by decide)).trans h32) ((w50 9 7 (by decide)).trans hF.1) hNF hNF0 (bk_X6_work_C_52 (mm_call_m _) ?_))
  rw [w50 15 0 (by decide), show m 15 0 = nI b from b2]
  -- its body begins
  have hW : WCc m w5 (w5 171) (wd (ml 2 x)) p 0 1 0 0 := ⟨w50, fun _ => rfl, ⟨(g0 170 8 (by omega) (by omega) (by omega) (by omega)).trans (s8.trans (by rw [Nat.zero_add])), (g0 170 9 (by omega) (by omega) (by omega) (by omega)).trans s9, (g0 170 10 (by omega) (by omega) (by omega) (by omega)).trans t10, g11⟩, (g0 162 2 (by omega) (by omega) (by omega) (by omega)).trans ((w42 2).trans c2), (g0 162 3 (by omega) (by omega) (by omega) (by omega)).trans ((w42 3).trans c3), (g0 162 5 (by omega) (by omega) (by omega) (by omega)).trans ((w42 5).trans c5), (g0 162 1 (by omega) (by omega) (by omega) (by omega)).trans ((w42 1).trans c1)⟩
  have hG5 : (qV 4096 (ml 2 x)).1 A1 B1 h1 p (w5 171) φ v (fun i => w5 171 (0 + i)) := qV_m hclx ⟨⟨Nat.le_refl _, Nat.le_refl _⟩, fun _ _ => ⟨rfl, rfl, rfl⟩, fun i _ _ => e171 i⟩ (fun i _ => e171 _) hG
  have r6 : mm_cq (mm_call mm_ms (mm_tb L xs) (d + 20)) 68 [mm_R 170, mm_I (nI b)] w5 ml (fun o a b => o = none ∧ b = ml ∧ C 0 a) := by
    refine cc_bg (d := d + 18) (k := 0) (t := wd (ml 2 x)) (o := 1) (s := 0) (l := 0) (T := 0) (A := A1) (B := B1) (h := h1) (φ := φ) (K := w5 171) (ci := 0) (n := b) (arg := v) hj rfl hW (by decide) (by decide) (fun _ w e174 e175 => ⟨⟨by decide, by decide⟩, ⟨by decide, by decide, by omega, by decide⟩, ⟨sp, by omega⟩, hlen, ⟨0, e174.trans g174, e175.trans g175, ?_, ?_⟩, ⟨b, b1, ?_, b1, BL_r, by omega, by omega⟩, by omega⟩) (by decide) (by decide) (fun _ w _ => ?_) ?_
    · rw [h0, eAS]
      omega
    · rw [h0, eAS]
      exact hG5
    · rw [h0]
      exact b2
    · intro z A2 B2 h2 s2 l2 o2 p2 K2 φ2 w' T' he hZG hW2 hp2 _ _ hG2 _
      have eO := OUT_e et eb grd he
      have hTell : ∀ Q' : mm_QQ, (∀ w2, FTl w' w2 → RWl (w2 162 1) (w2 163) (TLD m A B) → Q' none w2 ml) → mm_cq (mm_call mm_ms (mm_tb L xs) (d + 20)) 81 [mm_R 170, mm_L (ml 14 0), mm_I (w' 170 8 - f_width (ml 14 0))] w' ml Q' := fun Q' hq => by
        obtain ⟨⟨z1, z2⟩, ⟨z3, z4⟩, z5, -⟩ := id hZG
        have hb3 := run_bt hIJ hJ x1 ((hpJ 195 0 (pg_nod (by decide) (by decide))).trans x2) y1 ((hpJ 196 0 (pg_nod (by decide) (by decide))).trans y2) (b := b) (by rw [hpJ 197 0 (pg_nod (by decide) (by decide))]; exact eb) (by omega) ((rd_c hI (fun c t a b q => hpJ c t (pg_row a (by omega) (by omega))) (hpJ 176 41 rfl) (fun i => hpJ 211 i rfl) 5 x A B 0 0 x1).trans grd) (by rw [ev_c (fun c i a b => hpJ c i (pg_nod a b)) 360]; exact he) z5
        rw [GVt_c (TW_I hI) (fun t ht c a b => hpJ c t (pg_row a (by omega) (by omega))) y1] at hb3
        rw [eS] at hW2 hG2
        rw [f14, width_wd hcly, hW2.2.2.1.1, nI_sb (by omega)]
        refine cc_tell (d := d + 2) (h := h2) (p := p2) (φ := φ2) (K := K2) (A := A2) (B := B2) hI hT (by omega) (by omega) 5 (ty := y) (a := wd (ml 2 x)) (v := z) (l := []) y1 hcly dy.2 (by omega) hW2.2.1 hG2 hb3 (RWl_z hW2.2.2.2.2.2.2) (fun w2 f2 r2 => hq w2 f2 ?_)
        rw [TLD_e et eb ey grd he, if_pos rfl]
        exact r2
      have h10 : w' 170 10 ≤ 0 := by
        rw [hW2.2.2.1.2.2.1]
        decide
      exact hCi T' w' (fun hi => bk_X6_work_C_58 (mm_call_m _) (fun _ => h92' w' _ hi eO.symm hW2.2.2.2.2.2.1 hTell) (fun _ _ => h92' w' _ hi eO.symm hW2.2.2.2.2.2.1 hTell) (fun _ z => absurd h10 z))
    · intro e z A2 B2 h2 s2 l2 o2 w' T' he hne _ h5 h01 _
      have eO := OUT_e et eb grd he
      have hRz : RWl (w' 162 1) (w' 163) (TLD m A B) := by
        rw [TLD_e et eb ey grd he, if_neg hne]
        exact RWl_z h01
      exact hCi T' w' (fun hi => bk_X6_work_C_58 (mm_call_m _) (fun _ => h92 w' _ e hne eO.symm h5 hRz) (fun _ _ => h92 w' _ e hne eO.symm h5 hRz) (fun _ _ => en_X9_goesOn (bk_X9_goesOn_0 (mm_call_m _) (fun _ => bk_X6_work_C_79 (s0 := 0) (mm_call_m _) (fun _ => h92 w' _ e hne eO.symm h5 hRz) (fun z => absurd rfl z)) (fun z => absurd (h5.symm.trans z) hne))))
  refine mm_cq_m (mm_call_m _) (mm_cq_a r6 (sc_X6_beginNode_C (d := d + 18) (Q := fun _ n1 _ => mm_IC n1) hIC5 (fun n1 n2 a _ => a))) (fun o n1 n2 ⟨⟨e1, e2, hc⟩, hi⟩ => ?_)
  obtain rfl : ml = n2 := e2.symm
  subst e1
  exact bk_X6_work_C_55 (mm_call_m _) (hCe 0 n1 hc hi)
end MMT
