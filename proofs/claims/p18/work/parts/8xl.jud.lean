/-! ===== the copies stand between two calls ===== -/
/-- node p of f is the same in both worlds -/
def EQn (m : mm_P) (ml : mm_G) (w : mm_P) (wl : mm_G) (f p : Nat) : Prop := w 4 p = m 4 p ∧ (∀ i, i < 4 → w 6 (4 * p + i) = m 6 (4 * p + i)) ∧ wl (19 + f) p = ml (19 + f) p ∧ (m 4 p = 14 → w 10 (k_cg m p) = m 10 (k_cg m p) ∧ SHO wl (m 6 (4 * p + 2)) = SHO ml (m 6 (4 * p + 2)) ∧ SHO wl (m 6 (4 * p + 3)) = SHO ml (m 6 (4 * p + 3)))
/-- what a copy rests on is the same in both worlds -/
def EQt (m : mm_P) (ml : mm_G) (w : mm_P) (wl : mm_G) (t : CTy) : Prop := wl 13 t.1 = ml 13 t.1 ∧ wl 14 t.1 = ml 14 t.1 ∧ w 15 t.1 = m 15 t.1 ∧ ∀ p, BL m (m 15 t.1).toNatClampNeg p → EQn m ml w wl t.1 p
section MCE
variable {m w a b : mm_P} {ml wl al bl : mm_G} {f n : Nat} {A B : Int64} {C C' : List CTy} {t : CTy}
theorem ct_e (h : EQn m ml w wl f n) (k : m 4 n = 14) : k_cg w n = k_cg m n ∧ k_ca w wl A B n = k_ca m ml A B n ∧ k_cb w wl A B n = k_cb m ml A B n := by
  obtain ⟨-, h6, -, hc⟩ := h
  obtain ⟨-, s2, s3⟩ := hc k
  refine ⟨?_, ?_, ?_⟩
  · unfold k_cg
    rw [show w 6 (4 * n) = m 6 (4 * n) from h6 0 (by decide)]
  · unfold k_ca
    rw [h6 2 (by decide), s2]
  · unfold k_cb
    rw [h6 3 (by decide), s3]
theorem cst_e (h : EQn m ml w wl f n) : k_cst w wl f A B C n = k_cst m ml f A B C n := by
  by_cases k : m 4 n = 14
  · obtain ⟨eg, ea, eb⟩ := ct_e (A := A) (B := B) h k
    have et : k_ct w wl A B n = k_ct m ml A B n := by
      unfold k_ct
      rw [eg, ea, eb]
    unfold k_cst
    rw [h.1, h.2.2.1, et, ea, eb, eg, (h.2.2.2 k).1]
  · unfold k_cst
    rw [h.1, h.2.2.1, if_neg k, if_neg k]
theorem cfs_e : ∀ (l : List Nat) (C : List CTy), (∀ n, n ∈ l → EQn m ml w wl f n) → k_cfs w wl f A B l C = k_cfs m ml f A B l C
  | [], _, _ => rfl
  | n :: r, C, h => by
    show (match k_cst w wl f A B C n with
      | none => none
      | some C' => k_cfs w wl f A B r C') = (match k_cst m ml f A B C n with
      | none => none
      | some C' => k_cfs m ml f A B r C')
    rw [cst_e (h n (List.mem_cons.mpr (.inl rfl)))]
    cases k_cst m ml f A B C n with
    | none => rfl
    | some C' => exact cfs_e r C' (fun n hn => h n (List.mem_cons.mpr (.inr hn)))
theorem po_e (h : EQt m ml w wl t) : k_po w 12 (w 15 t.1).toNatClampNeg [] = k_po m 12 (m 15 t.1).toNatClampNeg [] := by
  rw [h.2.2.1]
  refine po_c 12 _ [] (fun p hp => ?_)
  obtain ⟨h4, h6, -⟩ := h.2.2.2 p hp
  refine ⟨h4, fun i hi => ?_⟩
  have hf := f_parts_in (m 4 p)
  have hp3 : (f_parts (m 4 p)).toInt ≤ 3 := by rcases hf with hp | hp | hp | hp <;> (rw [hp]; decide)
  unfold k_part
  rw [h4, h6 1 (by decide), h6 i (by omega)]
theorem con_e (h : EQt m ml w wl t) : k_con w wl C t = k_con m ml C t := by
  unfold k_con
  rw [h.1, h.2.1, po_e h, cfs_e _ C (fun n hn => h.2.2.2 n ((po_new 12 _ [] n hn).resolve_left List.not_mem_nil))]
theorem cal_e {P : CTy → Prop} (h1 : ∀ t, P t → EQt m ml w wl t) (h2 : ∀ C C' t, P t → (∀ s, s ∈ C → P s) → k_con m ml C t = some C' → ∀ s, s ∈ C' → P s) : ∀ (k i : Nat) (C : List CTy), (∀ s, s ∈ C → P s) → k_cal w wl k i C = k_cal m ml k i C := by
  intro k
  induction k with
  | zero => exact fun _ _ _ => rfl
  | succ k ih =>
    intro i C hC
    unfold k_cal
    by_cases c : C.length ≤ i
    · rw [if_pos c, if_pos c]
    · have ht := hC (C.getD i k_c0) (mem_getD.mpr ⟨i, by omega, rfl⟩)
      rw [if_neg c, if_neg c, con_e (h1 _ ht)]
      cases e : k_con m ml C (C.getD i k_c0) with
      | none => rfl
      | some C' => exact ih (i + 1) C' (h2 C C' _ ht hC e)
theorem WRn_e {i : Nat} (h : EQn m ml w wl t.1 n) (h39 : b (39 + i) n = a (39 + i) n) (h100 : b (100 + i) n = a (100 + i) n) (hr : WRn m ml a i t C n) : WRn w wl b i t C n := by
  obtain ⟨u1, u2, u3⟩ := hr
  unfold WRn
  rw [h.2.2.1, h.1, h39, h100]
  refine ⟨u1, u2, fun k => ?_⟩
  obtain ⟨j, j1, j2, j3⟩ := u3 k
  obtain ⟨eg, ea, eb⟩ := ct_e (A := t.2.1) (B := t.2.2) h k
  refine ⟨j, j1, j2.trans ?_, j3⟩
  unfold k_ct
  rw [eg, ea, eb]
theorem PRC_e {i : Nat} (h : EQt m ml w wl (C.getD i k_c0)) (h35 : bl 35 i = al 35 i) (h36 : b 36 i = a 36 i) (h37 : b 37 i = a 37 i) (h39 : ∀ n, b (39 + i) n = a (39 + i) n) (h100 : ∀ n, b (100 + i) n = a (100 + i) n) (hr : PRC m ml a al C i) : PRC w wl b bl C i := by
  obtain ⟨r1, r2, r3, r4, r5, r6⟩ := hr
  unfold PRC
  rw [h.1, h.2.1, h35, h36, h37, po_e h]
  exact ⟨r1, r2, r3, r4, r5, fun n hn => WRn_e (h.2.2.2 n ((po_new 12 _ [] n hn).resolve_left List.not_mem_nil)) (h39 n) (h100 n) (r6 n hn)⟩
/-- the copies that a copy calls are of the program -/
theorem cfs_u {NB ND NF b : Nat} (hW : WJ NB ND NF m) (hf : f < NF) (hU : UR m f) (hb : b < ND) (hb15 : m 15 f = nI b) : ∀ (l : List Nat) (C C' : List CTy), k_cfs m ml f A B l C = some C' → (∀ n, n ∈ l → BL m b n) → (∀ s, s ∈ C → s.1 < 12 ∧ UR m s.1) → ∀ s, s ∈ C' → s.1 < 12 ∧ UR m s.1
  | [], C, C', h, _, hC => by
    have : C = C' := Option.some.inj h
    rw [← this]
    exact hC
  | n :: r, C, C', h, hl, hC => by
    have hND := hW.1.2.2.1
    have hNF := hW.1.2.2.2
    have e97 : (m 9 7).toInt = NF := by rw [hW.1.1.2.2]; exact mm_tI (by omega)
    replace h : (match k_cst m ml f A B C n with
      | none => none
      | some C' => k_cfs m ml f A B r C') = some C' := h
    cases e : k_cst m ml f A B C n with
    | none =>
      rw [e] at h
      cases h
    | some C1 =>
      rw [e] at h
      refine cfs_u hW hf hU hb hb15 r C1 C' h (fun n hn => hl n (List.mem_cons.mpr (.inr hn))) (fun s hs => ?_)
      rcases cst_some e with q | ⟨k, q⟩
      · rw [q] at hs
        exact hC s hs
      · rw [q] at hs
        rcases List.mem_append.mp hs with y | y
        · exact hC s y
        · rw [List.mem_singleton.mp y]
          have hbl := hl n (List.mem_cons.mpr (.inl rfl))
          have hn := BL_le hND hW.2.1 hb hbl
          obtain ⟨c2, -⟩ := ((hW.2.1 n (by omega)).2.2.2 k).2
          obtain ⟨g, eg, g1, g2, -⟩ := mm_of c2.1 c2.2
          have hg12 : g < 12 := by omega
          have hgc : k_cg m n = g := by
            unfold k_cg
            rw [eg]
            exact nI_clamp (by omega)
          show k_cg m n < 12 ∧ UR m (k_cg m n)
          rw [hgc]
          refine ⟨hg12, ?_⟩
          have hde : DE m f g := ⟨b, by omega, by omega, hb15, n, hbl, k, eg⟩
          rcases hU with y | y
          · rw [y] at hde
            exact .inr (RCH_1 hg12 hde)
          · exact .inr (RCH_s (by omega) hg12 y hde)
theorem con_u {NB ND NF : Nat} (hW : WJ NB ND NF m) (hV2 : ¬ V2 m) (ht : t.1 < 12 ∧ UR m t.1) (hC : ∀ s, s ∈ C → s.1 < 12 ∧ UR m s.1) (h : k_con m ml C t = some C') : ∀ s, s ∈ C' → s.1 < 12 ∧ UR m s.1 := by
  have hND := hW.1.2.2.1
  obtain ⟨hf, b, b1, b2⟩ := UR_b hW hV2 ht.1 ht.2
  unfold k_con at h
  split at h
  · cases h
  · rw [b2, nI_clamp (by omega)] at h
    exact cfs_u hW hf ht.2 b1 b2 _ C C' h (fun n hn => (po_new 12 b [] n hn).resolve_left List.not_mem_nil) hC
/-- the class's copies, as they stand -/
def VC (m : mm_P) (ml : mm_G) : Prop := (¬ m 0 9 = 0 → m 0 10 = -3) ∧ (m 0 9 = 0 → (CC m ml = none ∧ m 0 10 = -4) ∨ ∃ C, CC m ml = some C ∧ m 0 10 = nI C.length ∧ CRw m ml C ∧ (∀ s, s ∈ C → s.1 < 12 ∧ UR m s.1) ∧ ∀ i, i < C.length → PRC m ml m ml C i)
theorem VC_e {P : CTy → Prop} (h : VC m ml) (h09 : w 0 9 = m 0 9) (h010 : w 0 10 = m 0 10) (hr : ∀ c i, 31 ≤ c → c ≤ 159 → w c i = m c i ∧ wl c i = ml c i) (hp : m 0 9 = 0 → P k_c0 ∧ (∀ t, P t → EQt m ml w wl t) ∧ (∀ C C' t, P t → (∀ s, s ∈ C → P s) → k_con m ml C t = some C' → ∀ s, s ∈ C' → P s) ∧ (∀ s : CTy, s.1 < 12 → UR m s.1 → P s) ∧ ∀ f, f < 12 → UR m f → UR w f) : VC w wl := by
  unfold VC
  rw [h09, h010]
  refine ⟨h.1, fun z => ?_⟩
  obtain ⟨p0, p1, p2, p3, p4⟩ := hp z
  have ecc : CC w wl = CC m ml := cal_e p1 p2 62 0 [k_c0] (fun s hs => by rw [List.mem_singleton.mp hs]; exact p0)
  rw [ecc]
  rcases h.2 z with q | ⟨C, c1, c2, c3, c4, c5⟩
  · exact .inl q
  · refine .inr ⟨C, c1, c2, ⟨(hr 31 12 (by decide) (by decide)).1.trans c3.1, c3.2.1, fun i hi => ?_⟩, fun s hs => ⟨(c4 s hs).1, p4 s.1 (c4 s hs).1 (c4 s hs).2⟩, fun i hi => ?_⟩
    · rw [(hr 32 i (by decide) (by decide)).1, (hr 33 i (by decide) (by decide)).2, (hr 34 i (by decide) (by decide)).2]
      exact c3.2.2 i hi
    · have h60 := c3.2.1
      have ht := c4 _ (mem_getD.mpr ⟨i, hi, rfl⟩)
      exact PRC_e (p1 _ (p3 _ ht.1 ht.2)) (hr 35 i (by decide) (by decide)).2 (hr 36 i (by decide) (by decide)).1 (hr 37 i (by decide) (by decide)).1 (fun n => (hr (39 + i) n (by omega) (by omega)).1) (fun n => (hr (100 + i) n (by omega) (by omega)).1) (c5 i hi)
/-- nodes under n are nodes of the other world too -/
theorem blw_e {ND NB : Nat} (hND : ND ≤ 200) (hok : ∀ q, q < ND → okK NB m q) (h4 : ∀ p, p < ND → w 4 p = m 4 p) (h6 : ∀ p, p < ND → ∀ i, i < 4 → w 6 (4 * p + i) = m 6 (4 * p + i)) : ∀ (j n p : Nat), n < ND → blw m j n p → blw w j n p := by
  intro j
  induction j with
  | zero => exact fun n p _ h => h
  | succ j ih =>
    intro n p hn h
    rcases h with h | ⟨i, i1, h⟩
    · exact .inl h
    · obtain ⟨q, q1, q2⟩ := k_part_r (hok n hn) i1
      have hf := f_parts_in (m 4 n)
      have hp3 : (f_parts (m 4 n)).toInt ≤ 3 := by rcases hf with hp | hp | hp | hp <;> (rw [hp]; decide)
      have ek : k_part w n i = k_part m n i := by
        unfold k_part
        rw [h4 n hn, h6 n hn 1 (by decide), h6 n hn i (by omega)]
      rw [q2, nI_clamp (by omega)] at h
      refine .inr ⟨i, by rw [h4 n hn]; exact i1, ?_⟩
      rw [ek, q2, nI_clamp (by omega)]
      exact ih q p (by omega) h
theorem UR_e {NB ND NF f : Nat} (hW : WJ NB ND NF m) (h97 : w 9 7 = m 9 7) (h15 : ∀ i, i < 12 → w 15 i = m 15 i) (h4 : ∀ p, p < ND → w 4 p = m 4 p) (h6 : ∀ p, p < ND → ∀ i, i < 4 → w 6 (4 * p + i) = m 6 (4 * p + i)) (h : UR m f) : UR w f := by
  have hND := hW.1.2.2.1
  have e97 : (m 9 7).toInt = NF := by rw [hW.1.1.2.2]; exact mm_tI (by have := hW.1.2.2.2; omega)
  refine h.imp_right (RCH_m (by decide) (fun a g ha hg ⟨b, b1, b2, b3, n, ⟨j, n1⟩, n2, n3⟩ => ?_))
  have hb : b < ND := by
    rcases hW.2.2.2.1 a (by omega) with y | ⟨b', y1, y2⟩
    · exact absurd (b3.symm.trans y) (nI_ne (by omega))
    · have : b = b' := nI_inj (by omega) (by omega) (b3.symm.trans y2)
      omega
  have hn := BL_le hND hW.2.1 hb ⟨j, n1⟩
  exact ⟨b, b1, by rw [h97]; exact b2, (h15 a ha).trans b3, n, ⟨j, blw_e hND hW.2.1 h4 h6 j b n hb n1⟩, (h4 n (by omega)).trans n2, (h6 n (by omega) 0 (by decide)).trans n3⟩
theorem EQt_of {NB ND NF : Nat} (hW : WJ NB ND NF m) (hV2 : ¬ V2 m) (ht : t.1 < 12) (hU : UR m t.1) (h13 : wl 13 t.1 = ml 13 t.1) (h14 : wl 14 t.1 = ml 14 t.1) (h15 : w 15 t.1 = m 15 t.1) (hn : ∀ p, p < ND → EQn m ml w wl t.1 p) : EQt m ml w wl t := by
  have hND := hW.1.2.2.1
  obtain ⟨hf, b, b1, b2⟩ := UR_b hW hV2 ht hU
  refine ⟨h13, h14, h15, fun p hp => hn p ?_⟩
  rw [b2, nI_clamp (by omega)] at hp
  have := BL_le hND hW.2.1 b1 hp
  omega
theorem CC_k {NB ND NF : Nat} (hW : WJ NB ND NF m) (hV2 : ¬ V2 m) (hE : ∀ t : CTy, t.1 < 12 → UR m t.1 → EQt m ml w wl t) : CC w wl = CC m ml :=
  cal_e (P := fun t => t.1 < 12 ∧ UR m t.1) (fun t ht => hE t ht.1 ht.2) (fun C C' t ht hC hk => con_u hW hV2 ht hC hk) 62 0 [k_c0] (fun s hs => by rw [List.mem_singleton.mp hs]; exact ⟨by decide, .inl rfl⟩)
theorem EQt_all (h4 : ∀ i, w 4 i = m 4 i) (h6 : ∀ i, w 6 i = m 6 i) (h10 : ∀ i, w 10 i = m 10 i) (h15 : ∀ i, w 15 i = m 15 i) (hl : ∀ c i, (c = 2 ∨ c = 13 ∨ c = 14 ∨ 19 ≤ c) → wl c i = ml c i) : EQt m ml w wl t := by
  have hS : ∀ v, SHO wl v = SHO ml v := fun v => by
    unfold SHO
    rw [hl 2 _ (.inl rfl)]
  exact ⟨hl 13 _ (by omega), hl 14 _ (by omega), h15 _, fun p _ => ⟨h4 p, fun i _ => h6 _, hl _ p (by omega), fun _ => ⟨h10 _, hS _, hS _⟩⟩⟩
theorem UR_all {f : Nat} (hf : f < 12) (h4 : ∀ i, w 4 i = m 4 i) (h6 : ∀ i, w 6 i = m 6 i) (h15 : ∀ i, w 15 i = m 15 i) (h97 : w 9 7 = m 9 7) (h10 : ∀ i, w 10 i = m 10 i) (h : UR m f) : UR w f :=
  h.imp_right (fun q => (RCH_pb (PB_of (fun c i q => by rcases q with rfl | rfl | ⟨rfl, rfl⟩ | rfl | rfl; exact h4 i; exact h6 i; exact h97; exact h10 i; exact h15 i)) (by decide)).mpr q)
/-- only cells of the reference changed -/
theorem VC_lo (h : VC m ml) (hp : ∀ c i, c < 176 → w c i = m c i) : VC w ml :=
  VC_e (P := fun _ => True) h (hp 0 9 (by decide)) (hp 0 10 (by decide)) (fun c i _ q => ⟨hp c i (by omega), rfl⟩) (fun _ => ⟨trivial, fun t _ => EQt_all (hp 4 · (by decide)) (hp 6 · (by decide)) (hp 10 · (by decide)) (hp 15 · (by decide)) (fun _ _ _ => rfl), fun _ _ _ _ _ _ _ _ => trivial, fun _ _ _ => trivial, fun f hf q => UR_all hf (hp 4 · (by decide)) (hp 6 · (by decide)) (hp 15 · (by decide)) (hp 9 7 (by decide)) (hp 10 · (by decide)) q⟩)
/-- cells that the copies don't rest on changed -/
def mm_vcW (W : List (Nat × Nat × Nat)) : Bool := !(mm_wr W 9 7) && (!(mm_wr W 0 9) && (!(mm_wr W 0 10) && ([2, 4, 6, 10, 13, 14, 15].all (mm_avC W) && (List.range 141).all (fun j => mm_avC W (19 + j)))))
theorem vc_fr {W : List (Nat × Nat × Nat)} (hW : mm_vcW W = true) : (mm_wr W 9 7 = false ∧ mm_wr W 0 9 = false ∧ mm_wr W 0 10 = false) ∧ ∀ c i, (c = 2 ∨ c = 4 ∨ c = 6 ∨ c = 10 ∨ c = 13 ∨ c = 14 ∨ c = 15 ∨ (19 ≤ c ∧ c ≤ 159)) → mm_wr W c i = false := by
  unfold mm_vcW at hW
  simp only [Bool.and_eq_true, Bool.not_eq_true'] at hW
  obtain ⟨w97, w09, w010, wc, wr⟩ := hW
  refine ⟨⟨w97, w09, w010⟩, fun c i q => ?_⟩
  have hv : ∀ c, [2, 4, 6, 10, 13, 14, 15].contains c = true → mm_wr W c i = false := fun c q => mm_avC_s (List.all_eq_true.mp wc c (List.contains_iff_mem.mp q))
  rcases q with rfl | rfl | rfl | rfl | rfl | rfl | rfl | ⟨q1, q2⟩
  · exact hv 2 rfl
  · exact hv 4 rfl
  · exact hv 6 rfl
  · exact hv 10 rfl
  · exact hv 13 rfl
  · exact hv 14 rfl
  · exact hv 15 rfl
  · have h1 : mm_avC W (19 + (c - 19)) = true := List.all_eq_true.mp wr (c - 19) (List.mem_range.mpr (by omega))
    rw [show 19 + (c - 19) = c by omega] at h1
    exact mm_avC_s h1
theorem VP_00 (h : VP m ml 0) : ¬ V2 m := fun q => by
  rcases h with ⟨e, -⟩ | ⟨e, -⟩ | ⟨e, -⟩ | ⟨e, -⟩ | ⟨-, -, b, -⟩
  iterate 4 exact absurd e (by decide)
  exact b q
theorem CK_WJ (h : CK m ml) : ∃ NB ND NF, IM m NB ND NF ∧ TC NB m ml ∧ NC ND m ∧ FC NF m ml ∧ WJ NB ND NF m := by
  obtain ⟨hIC, ⟨NB, ND, NF, hI, hT, hN, hF⟩, -⟩ := id h.1.1
  exact ⟨NB, ND, NF, hI, hT, hN, hF, WJ_of hI hT hN hF h.2.1⟩
/-- VC over what is like it -/
theorem VC_k {NB ND NF : Nat} (hUV : UV m ml) (hW : WJ NB ND NF m) (h : VC m ml) (h09 : w 0 9 = m 0 9) (h010 : w 0 10 = m 0 10) (hr : ∀ c i, 31 ≤ c → c ≤ 159 → w c i = m c i ∧ wl c i = ml c i) (h97 : w 9 7 = m 9 7) (h15 : ∀ i, i < 12 → w 15 i = m 15 i ∧ wl 13 i = ml 13 i ∧ wl 14 i = ml 14 i) (hn : ∀ f p, f < 12 → p < ND → EQn m ml w wl f p) : VC w wl := by
  refine VC_e (P := fun t => t.1 < 12 ∧ UR m t.1) h h09 h010 hr (fun z => ?_)
  have hV2 : ¬ V2 m := VP_00 (by rw [← z]; exact hUV.2)
  exact ⟨⟨by decide, .inl rfl⟩, fun t ht => EQt_of hW hV2 ht.1 ht.2 (h15 _ ht.1).2.1 (h15 _ ht.1).2.2 (h15 _ ht.1).1 (fun p hp => hn _ p ht.1 hp), fun C C' t ht hC hk => con_u hW hV2 ht hC hk, fun s a b => ⟨a, b⟩, fun f hf q => UR_e hW h97 (fun i hi => (h15 i hi).1) (fun p hp => (hn 0 p (by decide) hp).1) (fun p hp => (hn 0 p (by decide) hp).2.1) q⟩
theorem VC_f {W : List (Nat × Nat × Nat)} (hCK : CK m ml) (h : VC m ml) (hW : mm_vcW W = true) (hf : mm_fw W m ml w wl) : VC w wl := by
  obtain ⟨⟨w97, w09, w010⟩, hc⟩ := vc_fr hW
  obtain ⟨NB, ND, NF, hI, hT, hN, hF, hWJ⟩ := CK_WJ hCK
  have e : ∀ c i, (c = 2 ∨ c = 4 ∨ c = 6 ∨ c = 10 ∨ c = 13 ∨ c = 14 ∨ c = 15 ∨ (19 ≤ c ∧ c ≤ 159)) → w c i = m c i ∧ wl c i = ml c i := fun c i q => hf c i (hc c i q)
  have hS : ∀ v, SHO wl v = SHO ml v := fun v => by
    unfold SHO
    rw [(e 2 _ (.inl rfl)).2]
  exact VC_k hCK.2 hWJ h (hf 0 9 w09).1 (hf 0 10 w010).1 (fun c i q1 q2 => e c i (by omega)) (hf 9 7 w97).1 (fun i hi => ⟨(e 15 i (by omega)).1, (e 13 i (by omega)).2, (e 14 i (by omega)).2⟩) (fun f p hf hp => ⟨(e 4 p (by omega)).1, fun i _ => (e 6 _ (by omega)).1, (e (19 + f) p (by omega)).2, fun _ => ⟨(e 10 _ (by omega)).1, hS _, hS _⟩⟩)
end MCE
section MMT
variable {L : Nat} {xs : Nat → Int32} {d : Nat} {Q : mm_QQ} {mi : mm_P} {ml : mm_G} {lim : Nat × Nat} {NB ND NF : Nat}
theorem mk_w {c i : Nat} (q : c = 2 ∨ c = 4 ∨ c = 6 ∨ c = 10 ∨ c = 13 ∨ c = 14 ∨ c = 15 ∨ (19 ≤ c ∧ c ≤ 30)) : mm_wr mm_w_X0_makeAll c i = false := by
  have h : ∀ j, j < 31 → (j = 2 ∨ j = 4 ∨ j = 6 ∨ j = 10 ∨ j = 13 ∨ j = 14 ∨ j = 15 ∨ (19 ≤ j ∧ j ≤ 30)) → mm_avC mm_w_X0_makeAll j = true := by decide +kernel
  exact mm_avC_s (h c (by omega) q)
/-- judgeAnew(): the copies -/
theorem vx_judgeAnew (hIC : mm_IC mi) (hW : WJ NB ND NF mi) (hQ : ∀ n1 n2, mm_IC n1 → mm_fw mm_w_X11_judgeAnew mi ml n1 n2 → VP mi ml (n1 0 9) → VC n1 n2 → Q none n1 n2) : mm_cq (mm_call mm_ms (mm_tb L xs) (d + 19)) 149 [mm_R 0] mi ml Q := by
  have h1 : mm_cq (mm_call mm_ms (mm_tb L xs) (d + 19)) 149 [mm_R 0] mi ml (fun o n1 n2 => o = none ∧ mm_IC n1 ∧ mm_fw mm_w_X11_judgeAnew mi ml n1 n2 ∧ VP mi ml (n1 0 9)) := sx_judgeAnew (d := d) hIC hW (fun n1 n2 a b c => ⟨rfl, a, b, c⟩)
  have h2 : mm_cq (mm_call mm_ms (mm_tb L xs) (d + 19)) 149 [mm_R 0] mi ml (fun _ n1 n2 => VC n1 n2) := by
    refine en_X11_judgeAnew (bk_X11_judgeAnew_0 (mm_call_m _) ?_)
    have h3 : mm_cq (mm_call mm_ms (mm_tb L xs) (d + 18)) 50 [mm_R 17] mi ml (fun o n1 n2 => (n2 = ml ∧ ∃ v, o = some (mm_I v) ∧ MW mi n1 ∧ VP mi ml v) ∧ mm_IC n1) := mm_cq_m (mm_call_m _) (mm_cq_a (sx_judgeProgram (d := d) hW (Q := fun o n1 n2 => n2 = ml ∧ ∃ v, o = some (mm_I v) ∧ MW mi n1 ∧ VP mi ml v) (fun w v hm hv => ⟨rfl, v, rfl, hm, hv⟩)) (sc_X4_judgeProgram (Q := fun o n1 n2 => mm_IC n1) hIC (fun v n1 n2 a _ => a))) (fun o n1 n2 z => z)
    refine mm_cq_m (mm_call_m _) h3 (fun o n1 n2 ⟨⟨e0, v, e, hm, hv⟩, hi⟩ => ?_)
    subst e e0
    refine bk_X11_judgeAnew_8 (mm_call_m _) (fun z => ?_) (fun z => ?_)
    · have e9 : mm_u (mm_u n1 0 9 v) 0 10 (-3) 0 9 = v := (mm_u_f (by decide)).trans mm_u_s
      exact ⟨fun _ => mm_u_s, fun y => absurd (e9.symm.trans y) z⟩
    · have hi' : mm_IC (mm_u n1 0 9 v) := mm_IC_n hi (by decide) (by decide) (by decide) (by decide) (by decide)
      have hcl : ∀ c i, ¬ c = 7 → ¬ c = 8 → ¬ (c = 3 ∧ i = 6) → ¬ (c = 0 ∧ i = 9) → mm_u n1 0 9 v c i = mi c i := fun c i a b e g => (mm_u_o g).trans (hm c i a b e)
      have hW' : WJ NB ND NF (mm_u n1 0 9 v) := WJ_c hW (fun c i q => hcl c i (by omega) (by omega) (by omega) (by omega))
      have hV2 : ¬ V2 (mm_u n1 0 9 v) := VP_00 (ml := n2) (by
        rw [← z]
        exact VP_pb (PB_of (fun c i q => hcl c i (by omega) (by omega) (by omega) (by omega))) (fun _ _ _ _ _ _ => ⟨rfl, rfl⟩) hv)
      generalize hw1 : mm_u n1 0 9 v = w1 at hi' hW' hV2
      have e09 : w1 0 9 = 0 := by rw [← hw1, mm_u_s, z]
      have m1 : mm_cq (mm_call mm_ms (mm_tb L xs) (d + 18)) 1 [mm_R 31] w1 n2 (fun o k1 k2 => (CC w1 n2 = none ∧ o = some (mm_I (-4))) ∨ ∃ C, CC w1 n2 = some C ∧ o = some (mm_I (nI C.length)) ∧ XW w1 k1 n2 k2 ∧ CRw k1 k2 C ∧ (∀ s, s ∈ C → UR w1 s.1) ∧ ∀ i, i < C.length → PRC w1 n2 k1 k2 C i) := sx_makeAll (d := d) hW' hV2 (fun q w wl => .inl ⟨q, rfl⟩) (fun C q w wl a b c e => .inr ⟨C, q, rfl, a, b, c, e⟩)
      have m2 : mm_cq (mm_call mm_ms (mm_tb L xs) (d + 18)) 1 [mm_R 31] w1 n2 (fun o k1 k2 => mm_fw mm_w_X0_makeAll w1 n2 k1 k2) := sc_X0_makeAll hi' (fun u k1 k2 ki kf => kf)
      refine mm_cq_m (mm_call_m _) (mm_cq_a m1 m2) (fun o k1 k2 ⟨hc, kf⟩ => ?_)
      have k09 : k1 0 9 = 0 := (kf 0 9 (by decide +kernel)).1.trans e09
      have k97 : k1 9 7 = w1 9 7 := (kf 9 7 (by decide +kernel)).1
      have hk : ∀ c i, (c = 2 ∨ c = 4 ∨ c = 6 ∨ c = 10 ∨ c = 13 ∨ c = 14 ∨ c = 15 ∨ (19 ≤ c ∧ c ≤ 30)) → ∀ x, (mm_u k1 0 10 x c i = w1 c i ∧ k2 c i = n2 c i) := fun c i q x => ⟨(mm_u_e (by omega)).trans (kf c i (mk_w q)).1, (kf c i (mk_w q)).2⟩
      have hS : ∀ u, SHO k2 u = SHO n2 u := fun u => by
        unfold SHO
        rw [(hk 2 _ (.inl rfl) 0).2]
      have hE : ∀ (x : Int32) (t : CTy), t.1 < 12 → EQt w1 n2 (mm_u k1 0 10 x) k2 t := fun x t ht => ⟨(hk 13 _ (by omega) x).2, (hk 14 _ (by omega) x).2, (hk 15 _ (by omega) x).1, fun p _ => ⟨(hk 4 p (by omega) x).1, fun i _ => (hk 6 _ (by omega) x).1, (hk (19 + t.1) p (by omega) x).2, fun _ => ⟨(hk 10 _ (by omega) x).1, hS _, hS _⟩⟩⟩
      have hcc : ∀ x, CC (mm_u k1 0 10 x) k2 = CC w1 n2 := fun x => CC_k hW' hV2 (fun t ht _ => hE x t ht)
      rcases hc with ⟨q, rfl⟩ | ⟨C, q, rfl, hx, hC, hU, hP⟩
      · refine bk_X11_judgeAnew_26 (mm_call_m _) ⟨fun y => absurd ((mm_u_f (by decide)).trans k09) y, fun _ => .inl ⟨(hcc _).trans q, mm_u_s⟩⟩
      · have hr12 : ∀ s, s ∈ C → s.1 < 12 := fun s hs => by
          obtain ⟨e, e1, e2⟩ := mem_getD.mp hs
          have := (hC.2.2 e e1).1
          rw [e2] at this
          exact this
        refine bk_X11_judgeAnew_26 (mm_call_m _) ⟨fun y => absurd ((mm_u_f (by decide)).trans k09) y, fun _ => .inr ⟨C, (hcc _).trans q, mm_u_s, CRw_c hC (mm_u_e (by decide)) (fun _ => mm_u_e (by decide)) (fun _ => rfl) (fun _ => rfl), fun s hs => ⟨hr12 s hs, UR_e hW' ((mm_u_e (by decide)).trans k97) (fun i _ => (hk 15 i (by omega) _).1) (fun p _ => (hk 4 p (by omega) _).1) (fun p _ i _ => (hk 6 _ (by omega) _).1) (hU s hs)⟩, fun i hi => ?_⟩⟩
        have h60 := hC.2.1
        exact PRC_e (hE _ _ (hr12 _ (mem_getD.mpr ⟨i, hi, rfl⟩))) rfl (mm_u_e (by decide)) (mm_u_e (by decide)) (fun n => mm_u_e (by omega)) (fun n => mm_u_e (by omega)) (hP i hi)
  exact mm_cq_m (mm_call_m _) (mm_cq_a h1 h2) (fun o n1 n2 ⟨⟨e, a, b, c⟩, g⟩ => by subst e; exact hQ n1 n2 a b c g)
/-! pair() and list() -/
theorem VC_t {x : Int64} (hCK : CK mi ml) (h : VC mi ml) (hN8 : NB ≤ 200) (hT : TC NB mi ml) : VC (mm_u mi 1 1 (nI (NB + 1))) (mm_u ml 2 NB x) := by
  obtain ⟨NB', ND, NF, hI, hT', hN, hF, hW⟩ := CK_WJ hCK
  have hNB := hI.1.1
  have hND := hI.1.2.1
  have eB : NB = NB' := nI_inj (by omega) (by omega) (hT.1.symm.trans hT'.1)
  subst eB
  refine VC_k hCK.2 hW h (mm_u_e (by decide)) (mm_u_e (by decide)) (fun c i q1 q2 => ⟨mm_u_e (by omega), mm_u_e (by omega)⟩) (mm_u_e (by decide)) (fun i _ => ⟨mm_u_e (by decide), mm_u_e (by decide), mm_u_e (by decide)⟩) (fun f p hf hp => ⟨mm_u_e (by decide), fun i _ => mm_u_e (by decide), mm_u_e (by omega), fun k => ?_⟩)
  obtain ⟨-, -, c3, c4⟩ := (hW.2.1 p hp).2.2.2 k
  have hS : ∀ {v : Int32}, (v = -1 ∨ tyN NB v) → SHO (mm_u ml 2 NB x) v = SHO ml v := fun {v} hv => by
    rcases hv with q | ⟨t, t1, t2⟩
    · unfold SHO
      rw [if_pos q, if_pos q]
    · rw [SHO_t (by omega) t2, SHO_t (by omega) t2]
      exact mm_u_f (by omega)
  exact ⟨mm_u_e (by decide), hS c3, hS c4⟩
theorem vx_pair {x1 x2 : Int32} (hCK : CK mi ml) (h : VC mi ml) : mm_cq (mm_call mm_ms (mm_tb L xs) (d + 20)) 141 [mm_R 0, mm_I x1, mm_I x2] mi ml (fun _ n1 n2 => VC n1 n2) := by
  obtain ⟨NB, ND, NF, hI, hT, hN, hF, hW⟩ := CK_WJ hCK
  have hNB := hI.1.1
  exact sx_X11_pair (d := d + 17) hT hNB.2 (fun _ => h) (fun _ _ _ _ _ _ _ => h) (fun _ _ _ _ _ _ _ _ _ _ => h) (fun _ _ _ _ _ _ _ _ _ => h) (fun _ _ _ _ _ _ _ _ _ => VC_t hCK h hNB.2 hT)
theorem vx_list {x1 : Int32} (hCK : CK mi ml) (h : VC mi ml) : mm_cq (mm_call mm_ms (mm_tb L xs) (d + 20)) 142 [mm_R 0, mm_I x1] mi ml (fun _ n1 n2 => VC n1 n2) := by
  obtain ⟨NB, ND, NF, hI, hT, hN, hF, hW⟩ := CK_WJ hCK
  have hNB := hI.1.1
  exact sx_X11_list (d := d + 17) hT hNB.2 (fun _ => h) (fun _ _ _ _ => h) (fun _ _ _ _ _ _ _ => h) (fun _ _ _ _ _ _ => h) (fun _ _ _ _ _ _ => VC_t hCK h hNB.2 hT)
theorem vx_node {k a b c e : Int32} (hCK : CK mi ml) (h : VC mi ml) : mm_cq (mm_call mm_ms (mm_tb L xs) (d + 20)) 144 [mm_R 0, mm_I k, mm_I a, mm_I b, mm_I c, mm_I e] mi ml (fun _ n1 n2 => VC n1 n2) := by
  obtain ⟨NB, ND, NF, hI, hT, hN, hF, hW⟩ := CK_WJ hCK
  have hND := hI.1.2.1
  have hNF := hI.1.2.2
  have hdp : ∀ n, n < ND → 1 ≤ (mi 5 n).toInt ∧ (mi 5 n).toInt ≤ 12 := fun n hn => (dep_of hI hN n hn).1
  refine sy_X11_node (dep := mi 5) hCK.1.1.1 hT.1 hI.1.1.2 hN.1 hND hF.1 hNF (fun _ _ => rfl) hdp (fun _ => h) (fun _ _ => h) (fun _ _ _ => h) (fun _ _ hlt v n1 n2 _ _ _ hn1 hn2 _ => ?_)
  subst hn1
  have h4 : ∀ i, i < ND → A7 mi ND k v a b c e 4 i = mi 4 i := fun i hi => A7_o (by omega) (by omega) (by omega) (by omega)
  have h6 : ∀ i, i < 4 * ND → A7 mi ND k v a b c e 6 i = mi 6 i := fun i hi => A7_o (by omega) (by omega) (by omega) (by omega)
  have hoth : ∀ c' i, ¬ c' = 3 → ¬ c' = 4 → ¬ c' = 5 → ¬ c' = 6 → A7 mi ND k v a b c e c' i = mi c' i := fun c' i q1 q2 q3 q4 => A7_o (by omega) (by omega) (by omega) (by omega)
  have hS : ∀ u, SHO n2 u = SHO ml u := fun u => by
    unfold SHO
    rw [hn2 2 _ (by omega)]
  exact VC_k hCK.2 hW h (hoth 0 9 (by decide) (by decide) (by decide) (by decide)) (hoth 0 10 (by decide) (by decide) (by decide) (by decide)) (fun c' i q1 q2 => ⟨hoth c' i (by omega) (by omega) (by omega) (by omega), hn2 c' i (by omega)⟩) (hoth 9 7 (by decide) (by decide) (by decide) (by decide)) (fun i hi => ⟨hoth 15 i (by decide) (by decide) (by decide) (by decide), hn2 13 i (by omega), hn2 14 i (by omega)⟩) (fun f p hf hp => ⟨h4 p hp, fun i hi => h6 _ (by omega), hn2 (19 + f) p (by omega), fun _ => ⟨hoth 10 _ (by decide) (by decide) (by decide) (by decide), hS _, hS _⟩⟩)
/-! body() -/
theorem vx_body {x1 x2 : Int32} (hCK : CK mi ml) (hVC : VC mi ml) : mm_cq (mm_call mm_ms (mm_tb L xs) (d + 20)) 148 [mm_R 0, mm_I x1, mm_I x2] mi ml (fun _ n1 n2 => VC n1 n2) := by
  obtain ⟨hIC, ⟨NB, ND, NF, hI, hT, hN, hF⟩, h51, h41, hin⟩ := id hCK.1.1
  have hND := hI.1.2.1
  have hNF := hI.1.2.2
  have e97 : (mi 9 7).toInt = NF := by rw [hF.1]; exact mm_tI (by omega)
  have hWJ := WJ_of hI hT hN hF hCK.2.1
  have n1 : ∀ {P : Prop}, (1 : Int32) = 0 → P := fun z => absurd z (by decide)
  have n0 : ∀ {P : Prop}, ¬ (0 : Int32) = 0 → P := fun z => absurd rfl z
  have h22 : mm_WQ (mm_call mm_ms (mm_tb L xs) (d + 19)) (mm_tb L xs) mm_m148 (mm_li mm_m148) (fun _ n1 n2 => VC n1 n2) 22 [some (mm_R 0), some (mm_I x1), some (mm_I x2)] [] mi ml := bk_X11_body_22 (mm_call_m _) hVC
  refine en_X11_body (bk_X11_body_0 (mm_call_m _) (sx_has2 hF.1 hNF (fun f f1 f2 => bk_X11_body_8 (s0 := 1) (mm_call_m _) n1 (fun _ => sx_has7 hN.1 hND (fun n e1 e2 => bk_X11_body_19 (s0 := 1) (mm_call_m _) (fun _ => ?_) n1) (fun q => bk_X11_body_19 (s0 := 0) (mm_call_m _) n0 (fun _ => h22)))) (fun q => bk_X11_body_8 (s0 := 0) (mm_call_m _) (fun _ => h22) n0)))
  subst f2 e2
  refine sx_usesUnder (d := d + 3) hWJ.1 hWJ.2.1 hWJ.2.2.1 e1 (fun w u c hM h36 hc hu => bk_X11_body_39 (mm_call_m _) ?_)
  have hw97 : w 9 7 = nI NF := (hM 9 7 (by decide) (by decide) (by decide)).trans hF.1
  refine en_X2_giveBody (bk_X2_giveBody_0 (mm_call_m _) (sx_has2 hw97 hNF (fun t _ _ => bk_X2_giveBody_5 (s0 := 1) (mm_call_m _) n1 (fun _ => vp_in_nI (by omega) (by decide)) (fun _ => vp_in_nI (by omega) (by decide)) (fun _ => bk_X2_giveBody_22 (mm_call_m _) (bk_X11_body_42 (mm_call_m _) ?_))) (fun q => absurd rfl (q f f1))))
  rw [nI_clamp (by omega)]
  have hIC2 : mm_IC (mm_u (mm_u w 15 f (nI n)) 16 f u) := by
    refine mm_IC_n (mm_IC_n (IC_mw hIC hM h36 hc) ?_ ?_ ?_ ?_ ?_) ?_ ?_ ?_ ?_ ?_ <;> decide
  have hcl : ∀ c i, ¬ c = 7 → ¬ c = 8 → ¬ (c = 3 ∧ i = 6) → ¬ (c = 15 ∧ i = f) → ¬ (c = 16 ∧ i = f) → mm_u (mm_u w 15 f (nI n)) 16 f u c i = mi c i := fun c i a b e g k => by
    rw [mm_u_o k, mm_u_o g]
    exact hM c i a b e
  have h4 : ∀ i, mm_u (mm_u w 15 f (nI n)) 16 f u 4 i = mi 4 i := fun i => hcl 4 i (by decide) (by decide) (by omega) (by omega) (by omega)
  have h6 : ∀ i, mm_u (mm_u w 15 f (nI n)) 16 f u 6 i = mi 6 i := fun i => hcl 6 i (by decide) (by decide) (by omega) (by omega) (by omega)
  have h97 : mm_u (mm_u w 15 f (nI n)) 16 f u 9 7 = mi 9 7 := hcl 9 7 (by decide) (by decide) (by omega) (by omega) (by omega)
  have h15 : mm_u (mm_u w 15 f (nI n)) 16 f u 15 f = nI n := (mm_u_e (by decide)).trans mm_u_s
  have hUT2 : UT (mm_u (mm_u w 15 f (nI n)) 16 f u) := fun a g ha hg => by
    by_cases haf : a = f
    · subst haf
      unfold EU
      rw [mm_u_s, hu g hg]
      constructor
      · intro q
        exact ⟨n, by omega, by rw [h97]; omega, h15, (CAL_c h4 h6).mpr q⟩
      · rintro ⟨b, b1, b2, b3, b4⟩
        have : n = b := nI_inj (by omega) (by omega) (h15.symm.trans b3)
        subst this
        exact (CAL_c h4 h6).mp b4
    · have e1 : mm_u (mm_u w 15 f (nI n)) 16 f u 16 a = mi 16 a := hcl 16 a (by decide) (by decide) (by omega) (by omega) (by omega)
      have e2 : mm_u (mm_u w 15 f (nI n)) 16 f u 15 a = mi 15 a := hcl 15 a (by decide) (by decide) (by omega) (by omega) (by omega)
      have h0 := hCK.2.1 a g ha hg
      unfold EU at h0 ⊢
      rw [e1, h0]
      constructor
      · rintro ⟨b, b1, b2, b3, b4⟩
        exact ⟨b, b1, by rw [h97]; exact b2, e2.trans b3, (CAL_c h4 h6).mpr b4⟩
      · rintro ⟨b, b1, b2, b3, b4⟩
        rw [h97] at b2
        exact ⟨b, b1, b2, e2.symm.trans b3, (CAL_c h4 h6).mp b4⟩
  have hW2 : WJ NB ND NF (mm_u (mm_u w 15 f (nI n)) 16 f u) := by
    obtain ⟨⟨⟨k1, k2, k3⟩, k4⟩, g2, g3, g4, g5⟩ := hWJ
    have kp : ∀ a i, k_part (mm_u (mm_u w 15 f (nI n)) 16 f u) a i = k_part mi a i := fun a i => by
      unfold k_part
      rw [h4, h6, h6]
    have h5 : ∀ i, mm_u (mm_u w 15 f (nI n)) 16 f u 5 i = mi 5 i := fun i => hcl 5 i (by decide) (by decide) (by omega) (by omega) (by omega)
    refine ⟨⟨⟨(hcl 1 1 (by decide) (by decide) (by omega) (by omega) (by omega)).trans k1, (hcl 3 5 (by decide) (by decide) (by omega) (by omega) (by omega)).trans k2, h97.trans k3⟩, k4⟩, fun q hq => okK_e (g2 q hq) (fun c i q => hcl c i (by omega) (by omega) (by omega) (by omega) (by omega)), fun q hq => ⟨by rw [h5]; exact (g3 q hq).1, fun i hi => ?_⟩, fun a ha => ?_, hUT2⟩
    · rw [h4] at hi
      rw [kp, h5, h5]
      exact (g3 q hq).2 i hi
    · by_cases haf : a = f
      · rw [haf, h15]
        exact .inr ⟨n, e1, rfl⟩
      · rw [hcl 15 a (by decide) (by decide) (by omega) (by omega) (by omega)]
        exact g4 a ha
  exact vx_judgeAnew hIC2 hW2 (fun k1 k2 _ _ _ hc => bk_X11_body_46 (mm_call_m _) hc)
/-! function() -/
theorem vf_101 {x1 x2 x3 : Int32} {x4 x6 : Int64} {x8 : Int32} {w0 : mm_P} (hW : WJ NB ND NF w0) : ∀ (j i : Nat) (w : mm_P) (wl : mm_G), i + j = ND → mm_IC w → (∀ c k, ¬ (19 ≤ c ∧ c ≤ 30) → w c k = w0 c k) → mm_WQ (mm_call mm_ms (mm_tb L xs) (d + 19)) (mm_tb L xs) mm_m147 lim (fun _ n1 n2 => VC n1 n2) 101 [some (mm_R 0), some (mm_I x1), some (mm_I x2), some (mm_I x3), some (mm_L x4), none, some (mm_L x6), none, some (mm_I x8), some (mm_I (nI i))] [] w wl := by
  have hND := hW.1.2.2.1
  intro j
  induction j with
  | zero =>
    intro i w wl h hIC hw
    have hi : i = ND := by omega
    subst hi
    have hWw : WJ NB i NF w := WJ_c hW (fun c k q => hw c k (by omega))
    refine bk_X11_function_101 (mm_call_m _) (en_X7_size (bk_X7_size_0 (mm_call_m _) (bk_X11_function_110 (mm_call_m _) (fun _ => ?_) (fun z => ?_))))
    · exact vx_judgeAnew hIC hWw (fun n1 n2 _ _ _ hc => bk_X11_function_132 (mm_call_m _) hc)
    · exact absurd (by rw [hWw.1.1.2.1]; exact Int32.le_refl _) z
  | succ j ih =>
    intro i w wl h hIC hw
    have h35 : w 3 5 = nI ND := (hw 3 5 (by omega)).trans hW.1.1.2.1
    refine bk_X11_function_101 (mm_call_m _) (en_X7_size (bk_X7_size_0 (mm_call_m _) (bk_X11_function_110 (mm_call_m _) (fun z => ?_) (fun z => ?_))))
    · have := mm_leI z
      rw [h35, mm_tI (by omega), mm_tI (by omega)] at this
      omega
    · refine sc_X4_fillNode hIC (fun n1 n2 hi hf => bk_X11_function_122 (mm_call_m _) ?_)
      rw [show nI i + 1 = nI (i + 1) from (nI_succ i).symm]
      exact ih (i + 1) n1 n2 (by omega) hi (fun c k q => ((hf c k (fill_w q)).1).trans (hw c k q))
theorem vx_function {x1 x2 x3 : Int32} (hCK : CK mi ml) (hVC : VC mi ml) : mm_cq (mm_call mm_ms (mm_tb L xs) (d + 20)) 147 [mm_R 0, mm_I x1, mm_I x2, mm_I x3] mi ml (fun _ n1 n2 => VC n1 n2) := by
  obtain ⟨hIC, ⟨NB, ND, NF, hI, hT, hN, hF⟩, h51, h41, hin⟩ := id hCK.1.1
  have hNB := hI.1.1
  have hND := hI.1.2.1
  have hNF := hI.1.2.2
  have e97 : (mi 9 7).toInt = NF := by rw [hF.1]; exact mm_tI (by omega)
  have hWJ := WJ_of hI hT hN hF hCK.2.1
  have n1 : ∀ {P : Prop}, (1 : Int32) = 0 → P := fun z => absurd z (by decide)
  have n0 : ∀ {P : Prop}, ¬ (0 : Int32) = 0 → P := fun z => absurd rfl z
  have h31 : mm_WQ (mm_call mm_ms (mm_tb L xs) (d + 19)) (mm_tb L xs) mm_m147 (mm_li mm_m147) (fun _ n1 n2 => VC n1 n2) 31 [some (mm_R 0), some (mm_I x1), some (mm_I x2), some (mm_I x3), none, none, none, none, none, none] [] mi ml := bk_X11_function_31 (mm_call_m _) hVC
  refine en_X11_function (bk_X11_function_0 (mm_call_m _) (fun _ => h31) (fun _ _ => h31) (fun _ _ => sx_has8 hT.1 hNB.2 (fun t t1 t2 => bk_X11_function_17 (s0 := 1) (mm_call_m _) n1 (fun _ => sx_has8 hT.1 hNB.2 (fun u u1 u2 => bk_X11_function_28 (s0 := 1) (mm_call_m _) (fun _ => ?_) n1) (fun _ => bk_X11_function_28 (s0 := 0) (mm_call_m _) n0 (fun _ => h31)))) (fun _ => bk_X11_function_17 (s0 := 0) (mm_call_m _) (fun _ => h31) n0)))
  subst t2 u2
  have h72 : mm_WQ (mm_call mm_ms (mm_tb L xs) (d + 19)) (mm_tb L xs) mm_m147 (mm_li mm_m147) (fun _ n1 n2 => VC n1 n2) 72 [some (mm_R 0), some (mm_I x1), some (mm_I (nI t)), some (mm_I (nI u)), some (mm_L (ml 2 t)), none, some (mm_L (ml 2 u)), none, none, none] [] mi ml := bk_X11_function_72 (mm_call_m _) hVC
  refine sx_shapeOf hT.1 hNB.2 t1 (bk_X11_function_42 (mm_call_m _) (sx_shapeOf hT.1 hNB.2 u1 (bk_X11_function_52 (mm_call_m _) (sx_lettersAllow (fun _ => bk_X11_function_60 (s0 := 1) (mm_call_m _) n1 (fun _ => sx_lettersAllow (fun _ => bk_X11_function_69 (s0 := 1) (mm_call_m _) (fun _ => ?_) n1) (fun _ => bk_X11_function_69 (s0 := 0) (mm_call_m _) n0 (fun _ => h72)))) (fun _ => bk_X11_function_60 (s0 := 0) (mm_call_m _) (fun _ => h72) n0)))))
  refine sx_add2 hF.1 hNF (fun q => bk_X11_function_89 (s0 := -4) (mm_call_m _) (fun _ => bk_X11_function_132 (mm_call_m _) hVC) (fun w => absurd rfl w)) (fun hlt => bk_X11_function_89 (mm_call_m _) (fun q => ?_) (fun _ => ?_))
  · exfalso
    have := congrArg Int32.toInt q
    rw [mm_tI (by omega), mm_tn4] at this
    omega
  · have hIC' : mm_IC (F5 mi NF x1 (nI t) (nI u)) := by
      unfold F5
      refine mm_IC_97 (mm_IC_n (mm_IC_n (mm_IC_n (mm_IC_n hIC ?_ ?_ ?_ ?_ ?_) ?_ ?_ ?_ ?_ ?_) ?_ ?_ ?_ ?_ ?_) ?_ ?_ ?_ ?_ ?_) (by rw [mm_tI (by omega)]; omega) <;> decide
    have h4 : ∀ i, F5 mi NF x1 (nI t) (nI u) 4 i = mi 4 i := fun i => F5_o (by omega) (by omega)
    have h5 : ∀ i, F5 mi NF x1 (nI t) (nI u) 5 i = mi 5 i := fun i => F5_o (by omega) (by omega)
    have h6 : ∀ i, F5 mi NF x1 (nI t) (nI u) 6 i = mi 6 i := fun i => F5_o (by omega) (by omega)
    have h16 : ∀ i, F5 mi NF x1 (nI t) (nI u) 16 i = mi 16 i := fun i => F5_o (by omega) (by omega)
    have h15 : ∀ i, ¬ i = NF → F5 mi NF x1 (nI t) (nI u) 15 i = mi 15 i := fun i q => F5_o (by omega) (by omega)
    have v15 : F5 mi NF x1 (nI t) (nI u) 15 NF = -1 := F5_v.2.2.2.1
    have v97 : F5 mi NF x1 (nI t) (nI u) 9 7 = nI (NF + 1) := F5_v.2.2.2.2
    have e97' : (F5 mi NF x1 (nI t) (nI u) 9 7).toInt = (NF : Int) + 1 := by rw [v97, mm_tI (by omega)]; omega
    have hUT2 : UT (F5 mi NF x1 (nI t) (nI u)) := fun a g ha hg => by
      have h0 := hCK.2.1 a g ha hg
      unfold EU at h0 ⊢
      rw [h16, h0]
      constructor
      · rintro ⟨b, b1, b2, b3, b4⟩
        exact ⟨b, b1, by omega, (h15 a (by omega)).trans b3, (CAL_c h4 h6).mpr b4⟩
      · rintro ⟨b, b1, b2, b3, b4⟩
        by_cases haN : a = NF
        · rw [haN, v15] at b3
          exact absurd b3.symm (nI_ne (by omega))
        · exact ⟨b, b1, by omega, (h15 a haN).symm.trans b3, (CAL_c h4 h6).mp b4⟩
    have hW2 : WJ NB ND (NF + 1) (F5 mi NF x1 (nI t) (nI u)) := by
      obtain ⟨⟨⟨k1, k2, k3⟩, k4, k5, k6⟩, g2, g3, g4, g5⟩ := hWJ
      have kp : ∀ a i, k_part (F5 mi NF x1 (nI t) (nI u)) a i = k_part mi a i := fun a i => by
        unfold k_part
        rw [h4, h6, h6]
      refine ⟨⟨⟨(F5_o (by omega) (by omega)).trans k1, (F5_o (by omega) (by omega)).trans k2, v97⟩, k4, k5, by omega⟩, fun q hq => okK_e (g2 q hq) (fun c i q => F5_o (by omega) (by omega)), fun q hq => ⟨by rw [h5]; exact (g3 q hq).1, fun i hi => ?_⟩, fun a ha => ?_, hUT2⟩
      · rw [h4] at hi
        rw [kp, h5, h5]
        exact (g3 q hq).2 i hi
      · by_cases haN : a = NF
        · rw [haN]
          exact .inl v15
        · rw [h15 a haN]
          exact g4 a (by omega)
    exact vf_101 hW2 ND 0 _ _ (by omega) hIC' (fun _ _ _ => rfl)
end MMT
/-- what is alike between two calls, and the class's shapes, uses, verdict and copies -/
def CV (m : mm_P) (ml : mm_G) : Prop := CK m ml ∧ VC m ml
theorem VC_0 : VC mm_i0 mm_l0 := by
  have r : ∀ c i x, mm_n0 c i x = true → mm_i0 c i = x := fun c i x h => mm_n0_s h
  refine ⟨fun _ => r 0 10 (-3) (by decide +kernel), fun z => ?_⟩
  rw [r 0 9 1 (by decide +kernel)] at z
  exact absurd z (by decide)
theorem CV_0 : CV mm_i0 mm_l0 := ⟨CK_0, VC_0⟩
theorem CV_p {m n : mm_P} {ml : mm_G} (h : CV m ml) (hp : PR m n) : CV n ml := ⟨CK_p h.1 hp, VC_lo h.2 (fun c i q => hp c i (pg_low q))⟩
theorem CV_rf {m n w : mm_P} {ml : mm_G} {r : Nat} (h : CV m ml) (hp : PR m n) (hr : RF n w) (h51 : w 176 51 = nI r) (hr2 : r ≤ 100) : CV w ml := ⟨CK_rf h.1 hp hr h51 hr2, VC_lo h.2 (fun c i q => (hr.1 c i (by omega) (by omega)).trans (hp c i (pg_low q)))⟩
theorem CV_f {W : List (Nat × Nat × Nat)} {m n1 : mm_P} {ml n2 : mm_G} (h : CV m ml) (hW : mm_stW W = true) (hW2 : ((List.range 12).all (fun j => mm_avC W (19 + j))) = true) (hW3 : mm_uvW W = true) (hW4 : mm_vcW W = true) (hIC : mm_IC n1) (hf : mm_fw W m ml n1 n2) : CV n1 n2 := ⟨CK_f h.1 hW hW2 hW3 hIC hf, VC_f h.1 h.2 hW4 hf⟩
section MMT
variable {L : Nat} {xs : Nat → Int32} {d D : Nat} {mi : mm_P} {ml : mm_G} {NB ND NF : Nat}
theorem lv_up {C : Type} {f : C → mm_V} {c c' : Nat} {As As' : List mm_V} {Q' : C → C → mm_P → mm_G → Prop} (hl : mm_cq (mm_call mm_ms (mm_tb L xs) D) c As mi ml (fun o n1 n2 => ∃ v, o = some (f v) ∧ mm_cq (mm_call mm_ms (mm_tb L xs) D) c' As' n1 n2 (fun o2 n3 n4 => ∃ v2, o2 = some (f v2) ∧ (v = v2 ∧ CK n3 n4)))) (hc : mm_cq (mm_call mm_ms (mm_tb L xs) D) c As mi ml (fun _ n1 n2 => VC n1 n2 ∧ FIx n1)) (hm : ∀ n1 n2 NB ND NF, VC n1 n2 → IM n1 NB ND NF → (0 ≤ (n1 176 41).toInt ∧ (n1 176 41).toInt ≤ 16) → mm_cq (mm_call mm_ms (mm_tb L xs) D) c' As' n1 n2 (fun _ n3 n4 => VC n3 n4)) (hQ : ∀ v n m2, CV n m2 → Q' v v n m2) : mm_cq (mm_call mm_ms (mm_tb L xs) D) c As mi ml (fun o n1 n2 => ∃ v, o = some (f v) ∧ mm_cq (mm_call mm_ms (mm_tb L xs) D) c' As' n1 n2 (fun o2 n3 n4 => ∃ v2, o2 = some (f v2) ∧ Q' v v2 n3 n4)) :=
  mm_cq_m (mm_call_m _) (mm_up (P := fun v v2 n m2 => v = v2 ∧ CK n m2) (F := fun n1 n2 => VC n1 n2 ∧ FIx n1) (G := VC) hl hc (fun n1 n2 ⟨hu, ⟨NB, ND, NF, hI⟩, h41⟩ => hm n1 n2 NB ND NF hu hI h41)) (fun o n1 n2 ⟨v, e, z⟩ => ⟨v, e, mm_cq_m (mm_call_m _) z (fun o2 n3 n4 ⟨v2, e2, ⟨e3, h3⟩, h4⟩ => ⟨v2, e2, by subst e3; exact hQ v n3 n4 ⟨h3, h4⟩⟩)⟩)
theorem cv_c {W : List (Nat × Nat × Nat)} {n1 : mm_P} {n2 : mm_G} (h : CV mi ml) (hW : mm_vcW W = true) (hh : mm_hiW W = true) (hf : mm_fw W mi ml n1 n2) : VC n1 n2 ∧ FIx n1 := ⟨VC_f h.1 h.2 hW hf, ck_i h.1 hh hf⟩
theorem lv_pair {x1 x2 : Int32} {Q' : Int32 → Int32 → mm_P → mm_G → Prop} (hCV : CV mi ml) (hQ : ∀ v n m2, CV n m2 → Q' v v n m2) : mm_cq (mm_call mm_ms (mm_tb L xs) (d + 20)) 141 [mm_R 0, mm_I x1, mm_I x2] mi ml (fun o n1 n2 => ∃ v, o = some (mm_I v) ∧ mm_cq (mm_call mm_ms (mm_tb L xs) (d + 20)) 176 [mm_R 176, mm_I x1, mm_I x2] n1 n2 (fun o2 n3 n4 => ∃ v2, o2 = some (mm_I v2) ∧ Q' v v2 n3 n4)) :=
  lv_up (C := Int32) (f := mm_I) (lk_pair (Q' := fun v v2 n m2 => v = v2 ∧ CK n m2) hCV.1 (fun v n m2 h => ⟨rfl, h⟩)) (mm_cq_m (mm_call_m _) (mm_cq_a (vx_pair hCV.1 hCV.2) (sc_X11_pair (Q := fun _ n1 n2 => FIx n1) hCV.1.1.1.1 (fun v n1 n2 hi hf => ck_i hCV.1 (by decide +kernel) hf))) (fun o n1 n2 z => z)) (fun n1 n2 NB ND NF hu hI h41 => sp_pair hI (fun n NB' v a b => VC_lo hu b.1)) hQ
theorem lv_list {x1 : Int32} {Q' : Int32 → Int32 → mm_P → mm_G → Prop} (hCV : CV mi ml) (hQ : ∀ v n m2, CV n m2 → Q' v v n m2) : mm_cq (mm_call mm_ms (mm_tb L xs) (d + 20)) 142 [mm_R 0, mm_I x1] mi ml (fun o n1 n2 => ∃ v, o = some (mm_I v) ∧ mm_cq (mm_call mm_ms (mm_tb L xs) (d + 20)) 177 [mm_R 176, mm_I x1] n1 n2 (fun o2 n3 n4 => ∃ v2, o2 = some (mm_I v2) ∧ Q' v v2 n3 n4)) :=
  lv_up (C := Int32) (f := mm_I) (lk_list (Q' := fun v v2 n m2 => v = v2 ∧ CK n m2) hCV.1 (fun v n m2 h => ⟨rfl, h⟩)) (mm_cq_m (mm_call_m _) (mm_cq_a (vx_list hCV.1 hCV.2) (sc_X11_list (Q := fun _ n1 n2 => FIx n1) hCV.1.1.1.1 (fun v n1 n2 hi hf => ck_i hCV.1 (by decide +kernel) hf))) (fun o n1 n2 z => z)) (fun n1 n2 NB ND NF hu hI h41 => sp_list hI (fun n NB' v a b => VC_lo hu b.1)) hQ
theorem lv_type {x1 x2 : Int32} {Q' : Int32 → Int32 → mm_P → mm_G → Prop} (hCV : CV mi ml) (hQ : ∀ v n m2, CV n m2 → Q' v v n m2) : mm_cq (mm_call mm_ms (mm_tb L xs) (d + 20)) 143 [mm_R 0, mm_I x1, mm_I x2] mi ml (fun o n1 n2 => ∃ v, o = some (mm_I v) ∧ mm_cq (mm_call mm_ms (mm_tb L xs) (d + 20)) 179 [mm_R 176, mm_I x1, mm_I x2] n1 n2 (fun o2 n3 n4 => ∃ v2, o2 = some (mm_I v2) ∧ Q' v v2 n3 n4)) :=
  lv_up (C := Int32) (f := mm_I) (lk_type (Q' := fun v v2 n m2 => v = v2 ∧ CK n m2) hCV.1 (fun v n m2 h => ⟨rfl, h⟩)) (sc_X11_type (Q := fun _ n1 n2 => VC n1 n2 ∧ FIx n1) hCV.1.1.1.1 (fun v n1 n2 hi hf => cv_c hCV (by decide +kernel) (by decide +kernel) hf)) (fun n1 n2 NB ND NF hu hI h41 => sp_type hI (fun v => hu)) hQ
theorem lv_node {k a b c e : Int32} {Q' : Int32 → Int32 → mm_P → mm_G → Prop} (hCV : CV mi ml) (hQ : ∀ v n m2, CV n m2 → Q' v v n m2) : mm_cq (mm_call mm_ms (mm_tb L xs) (d + 20)) 144 [mm_R 0, mm_I k, mm_I a, mm_I b, mm_I c, mm_I e] mi ml (fun o n1 n2 => ∃ v, o = some (mm_I v) ∧ mm_cq (mm_call mm_ms (mm_tb L xs) (d + 20)) 189 [mm_R 176, mm_I k, mm_I a, mm_I b, mm_I c, mm_I e] n1 n2 (fun o2 n3 n4 => ∃ v2, o2 = some (mm_I v2) ∧ Q' v v2 n3 n4)) :=
  lv_up (C := Int32) (f := mm_I) (lk_node (Q' := fun v v2 n m2 => v = v2 ∧ CK n m2) hCV.1 (fun v n m2 h => ⟨rfl, h⟩)) (mm_cq_m (mm_call_m _) (mm_cq_a (vx_node hCV.1 hCV.2) (sc_X11_node (Q := fun _ n1 n2 => FIx n1) hCV.1.1.1.1 (fun v n1 n2 hi hf => ck_i hCV.1 (by decide +kernel) hf))) (fun o n1 n2 z => z)) (fun n1 n2 NB ND NF hu hI h41 => sp_node hI (fun n ND' v a b => VC_lo hu b.1)) hQ
theorem lv_function {x1 x2 x3 : Int32} {Q' : Int32 → Int32 → mm_P → mm_G → Prop} (hCV : CV mi ml) (hQ : ∀ v n m2, CV n m2 → Q' v v n m2) : mm_cq (mm_call mm_ms (mm_tb L xs) (d + 20)) 147 [mm_R 0, mm_I x1, mm_I x2, mm_I x3] mi ml (fun o n1 n2 => ∃ v, o = some (mm_I v) ∧ mm_cq (mm_call mm_ms (mm_tb L xs) (d + 20)) 190 [mm_R 176, mm_I x1, mm_I x2, mm_I x3] n1 n2 (fun o2 n3 n4 => ∃ v2, o2 = some (mm_I v2) ∧ Q' v v2 n3 n4)) :=
  lv_up (C := Int32) (f := mm_I) (lk_function (Q' := fun v v2 n m2 => v = v2 ∧ CK n m2) hCV.1 (fun v n m2 h => ⟨rfl, h⟩)) (mm_cq_m (mm_call_m _) (mm_cq_a (vx_function hCV.1 hCV.2) (sc_X11_function (Q := fun _ n1 n2 => FIx n1) hCV.1.1.1.1 (fun v n1 n2 hi hf => ck_i hCV.1 (by decide +kernel) hf))) (fun o n1 n2 z => z)) (fun n1 n2 NB ND NF hu hI h41 => sp_function hI (fun n NF' v a b => VC_lo hu b.1)) hQ
theorem lv_body {x1 x2 : Int32} {Q' : Int32 → Int32 → mm_P → mm_G → Prop} (hCV : CV mi ml) (hQ : ∀ v n m2, CV n m2 → Q' v v n m2) : mm_cq (mm_call mm_ms (mm_tb L xs) (d + 20)) 148 [mm_R 0, mm_I x1, mm_I x2] mi ml (fun o n1 n2 => ∃ v, o = some (mm_I v) ∧ mm_cq (mm_call mm_ms (mm_tb L xs) (d + 20)) 191 [mm_R 176, mm_I x1, mm_I x2] n1 n2 (fun o2 n3 n4 => ∃ v2, o2 = some (mm_I v2) ∧ Q' v v2 n3 n4)) :=
  lv_up (C := Int32) (f := mm_I) (lk_body (Q' := fun v v2 n m2 => v = v2 ∧ CK n m2) hCV.1 (fun v n m2 h => ⟨rfl, h⟩)) (mm_cq_m (mm_call_m _) (mm_cq_a (vx_body hCV.1 hCV.2) (sc_X11_body (Q := fun _ n1 n2 => FIx n1) hCV.1.1.1.1 (fun v n1 n2 hi hf => ck_i hCV.1 (by decide +kernel) hf))) (fun o n1 n2 z => z)) (fun n1 n2 NB ND NF hu hI h41 => sp_body hI (fun n v a b => VC_lo hu b.1)) hQ
theorem lv_count {x1 : Int32} {Q' : Int32 → Int32 → mm_P → mm_G → Prop} (hCV : CV mi ml) (hQ : ∀ v n m2, CV n m2 → Q' v v n m2) : mm_cq (mm_call mm_ms (mm_tb L xs) (d + 20)) 162 [mm_R 0, mm_I x1] mi ml (fun o n1 n2 => ∃ v, o = some (mm_I v) ∧ mm_cq (mm_call mm_ms (mm_tb L xs) (d + 20)) 233 [mm_R 176, mm_I x1] n1 n2 (fun o2 n3 n4 => ∃ v2, o2 = some (mm_I v2) ∧ Q' v v2 n3 n4)) :=
  lv_up (C := Int32) (f := mm_I) (lk_count (Q' := fun v v2 n m2 => v = v2 ∧ CK n m2) hCV.1 (fun v n m2 h => ⟨rfl, h⟩)) (sc_X11_count (Q := fun _ n1 n2 => VC n1 n2 ∧ FIx n1) hCV.1.1.1.1 (fun v n1 n2 hi hf => cv_c hCV (by decide +kernel) (by decide +kernel) hf)) (fun n1 n2 NB ND NF hu hI h41 => sp_count (fun _ => hu) (fun _ v => hu)) hQ
theorem lv_digest {Q' : Int64 → Int64 → mm_P → mm_G → Prop} (hCV : CV mi ml) (hQ : ∀ v n m2, CV n m2 → Q' v v n m2) : mm_cq (mm_call mm_ms (mm_tb L xs) (d + 20)) 163 [mm_R 0] mi ml (fun o n1 n2 => ∃ v, o = some (mm_L v) ∧ mm_cq (mm_call mm_ms (mm_tb L xs) (d + 20)) 235 [mm_R 176] n1 n2 (fun o2 n3 n4 => ∃ v2, o2 = some (mm_L v2) ∧ Q' v v2 n3 n4)) :=
  lv_up (C := Int64) (f := mm_L) (lk_digest (Q' := fun v v2 n m2 => v = v2 ∧ CK n m2) hCV.1 (fun v n m2 h => ⟨rfl, h⟩)) (sc_X11_digest (Q := fun _ n1 n2 => VC n1 n2 ∧ FIx n1) hCV.1.1.1.1 (fun v n1 n2 hi hf => cv_c hCV (by decide +kernel) (by decide +kernel) hf)) (fun n1 n2 NB ND NF hu hI h41 => sp_digest hI (fun v => hu)) hQ
theorem lv_input {x1 : Int32} {Q' : Int32 → Int32 → mm_P → mm_G → Prop} (hCV : CV mi ml) (hQ : ∀ v n m2, CV n m2 → Q' v v n m2) : mm_cq (mm_call mm_ms (mm_tb L xs) (d + 20)) 156 [mm_R 0, mm_I x1] mi ml (fun o n1 n2 => ∃ v, o = some (mm_I v) ∧ mm_cq (mm_call mm_ms (mm_tb L xs) (d + 20)) 211 [mm_R 176, mm_I x1] n1 n2 (fun o2 n3 n4 => ∃ v2, o2 = some (mm_I v2) ∧ Q' v v2 n3 n4)) :=
  lv_up (C := Int32) (f := mm_I) (lk_input (Q' := fun v v2 n m2 => v = v2 ∧ CK n m2) hCV.1 (fun v n m2 h => ⟨rfl, h⟩)) (sc_X11_input (Q := fun _ n1 n2 => VC n1 n2 ∧ FIx n1) hCV.1.1.1.1 (fun v n1 n2 hi hf => cv_c hCV (by decide +kernel) (by decide +kernel) hf)) (fun n1 n2 NB ND NF hu hI h41 => sp_input h41 (fun _ => hu) (fun _ _ => VC_lo hu (fun c i q => by rw [mm_u_e (by omega), mm_u_e (by omega)]))) hQ
theorem lv_empty {Q' : Int32 → Int32 → mm_P → mm_G → Prop} (hCV : CV mi ml) (hQ : ∀ v n m2, CV n m2 → Q' v v n m2) : mm_cq (mm_call mm_ms (mm_tb L xs) (d + 20)) 157 [mm_R 0] mi ml (fun o n1 n2 => ∃ v, o = some (mm_I v) ∧ mm_cq (mm_call mm_ms (mm_tb L xs) (d + 20)) 212 [mm_R 176] n1 n2 (fun o2 n3 n4 => ∃ v2, o2 = some (mm_I v2) ∧ Q' v v2 n3 n4)) :=
  lv_up (C := Int32) (f := mm_I) (lk_empty (Q' := fun v v2 n m2 => v = v2 ∧ CK n m2) hCV.1 (fun v n m2 h => ⟨rfl, h⟩)) (sc_X11_empty (Q := fun _ n1 n2 => VC n1 n2 ∧ FIx n1) hCV.1.1.1.1 (fun v n1 n2 hi hf => cv_c hCV (by decide +kernel) (by decide +kernel) hf)) (fun n1 n2 NB ND NF hu hI h41 => sp_empty (VC_lo hu (fun c i q => mm_u_e (by omega)))) hQ
theorem lv_typeIn {x1 x2 : Int32} {Q' : Int32 → Int32 → mm_P → mm_G → Prop} (hCV : CV mi ml) (hQ : ∀ v n m2, CV n m2 → Q' v v n m2) : mm_cq (mm_call mm_ms (mm_tb L xs) (d + 20)) 150 [mm_R 0, mm_I x1, mm_I x2] mi ml (fun o n1 n2 => ∃ v, o = some (mm_I v) ∧ mm_cq (mm_call mm_ms (mm_tb L xs) (d + 20)) 195 [mm_R 176, mm_I x1, mm_I x2] n1 n2 (fun o2 n3 n4 => ∃ v2, o2 = some (mm_I v2) ∧ Q' v v2 n3 n4)) :=
  lv_up (C := Int32) (f := mm_I) (lk_typeIn (Q' := fun v v2 n m2 => v = v2 ∧ CK n m2) hCV.1 (fun v n m2 h => ⟨rfl, h⟩)) (sc_X11_typeIn (Q := fun _ n1 n2 => VC n1 n2 ∧ FIx n1) hCV.1.1.1.1 (fun v n1 n2 hi hf => cv_c hCV (by decide +kernel) (by decide +kernel) hf)) (fun n1 n2 NB ND NF hu hI h41 => sp_typeIn hI (fun w v hp => VC_lo hu (fun c i q => hp c i (pg_low q)))) hQ
theorem lv_wrong {x1 : Int32} {Q' : Int32 → Int32 → mm_P → mm_G → Prop} (hCV : CV mi ml) (hQ : ∀ v n m2, CV n m2 → Q' v v n m2) : mm_cq (mm_call mm_ms (mm_tb L xs) (d + 20)) 151 [mm_R 0, mm_I x1] mi ml (fun o n1 n2 => ∃ v, o = some (mm_I v) ∧ mm_cq (mm_call mm_ms (mm_tb L xs) (d + 20)) 197 [mm_R 176, mm_I x1] n1 n2 (fun o2 n3 n4 => ∃ v2, o2 = some (mm_I v2) ∧ Q' v v2 n3 n4)) :=
  lv_up (C := Int32) (f := mm_I) (lk_wrong (Q' := fun v v2 n m2 => v = v2 ∧ CK n m2) hCV.1 (fun v n m2 h => ⟨rfl, h⟩)) (sc_X11_wrong (Q := fun _ n1 n2 => VC n1 n2 ∧ FIx n1) hCV.1.1.1.1 (fun v n1 n2 hi hf => cv_c hCV (by decide +kernel) (by decide +kernel) hf)) (fun n1 n2 NB ND NF hu hI h41 => sp_wrong hI (fun w v hp => VC_lo hu (fun c i q => hp c i (pg_low q)))) hQ
theorem lv_reaches {x1 x2 : Int32} {Q' : Int32 → Int32 → mm_P → mm_G → Prop} (hCV : CV mi ml) (hQ : ∀ v n m2, CV n m2 → Q' v v n m2) : mm_cq (mm_call mm_ms (mm_tb L xs) (d + 20)) 152 [mm_R 0, mm_I x1, mm_I x2] mi ml (fun o n1 n2 => ∃ v, o = some (mm_I v) ∧ mm_cq (mm_call mm_ms (mm_tb L xs) (d + 20)) 199 [mm_R 176, mm_I x1, mm_I x2] n1 n2 (fun o2 n3 n4 => ∃ v2, o2 = some (mm_I v2) ∧ Q' v v2 n3 n4)) :=
  lv_up (C := Int32) (f := mm_I) (lk_reaches (Q' := fun v v2 n m2 => v = v2 ∧ CK n m2) hCV.1 (fun v n m2 h => ⟨rfl, h⟩)) (sc_X11_reaches (Q := fun _ n1 n2 => VC n1 n2 ∧ FIx n1) hCV.1.1.1.1 (fun v n1 n2 hi hf => cv_c hCV (by decide +kernel) (by decide +kernel) hf)) (fun n1 n2 NB ND NF hu hI h41 => sp_reaches hI (fun w v hp => VC_lo hu (fun c i q => hp c i (pg_low q)))) hQ
theorem lv_judge {Q' : Int32 → Int32 → mm_P → mm_G → Prop} (hCV : CV mi ml) (hQ : ∀ v n m2, CV n m2 → Q' v v n m2) : mm_cq (mm_call mm_ms (mm_tb L xs) (d + 20)) 153 [mm_R 0] mi ml (fun o n1 n2 => ∃ v, o = some (mm_I v) ∧ mm_cq (mm_call mm_ms (mm_tb L xs) (d + 20)) 202 [mm_R 176] n1 n2 (fun o2 n3 n4 => ∃ v2, o2 = some (mm_I v2) ∧ Q' v v2 n3 n4)) :=
  lv_up (C := Int32) (f := mm_I) (lk_judge (Q' := fun v v2 n m2 => v = v2 ∧ CK n m2) hCV.1 (fun v n m2 h => ⟨rfl, h⟩)) (sc_X11_judge (Q := fun _ n1 n2 => VC n1 n2 ∧ FIx n1) hCV.1.1.1.1 (fun v n1 n2 hi hf => cv_c hCV (by decide +kernel) (by decide +kernel) hf)) (fun n1 n2 NB ND NF hu hI h41 => sp_judge hI (fun w v hp _ => VC_lo hu (fun c i q => hp c i (pg_low q)))) hQ
end MMT
