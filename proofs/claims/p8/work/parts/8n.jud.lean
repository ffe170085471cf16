/-! ===== the type of a node as the class finds it ===== -/
def f_alw (l : Int32) (x : Int64) : Prop := (f_letters x &&& ((if l = 2 then 3 else l) ^^^ (-1))) = 0
def KLT (m : mm_P) (ml : mm_G) (n : Nat) : Int32 := if SHO ml (m 6 (4 * n + 2)) = -1 then 0 else if SHO ml (m 6 (4 * n + 3)) = -1 then 1 else 2
def KCK (NF : Nat) (m : mm_P) (ml : mm_G) (f n : Nat) (a : Int64) : Prop := ((m 6 (4 * n)).toInt < (NF : Int) ∧ m 10 (m 6 (4 * n)).toNatClampNeg = KLT m ml n) ∧ (f_alw (m 10 f) (SHO ml (m 6 (4 * n + 2))) ∧ f_alw (m 10 f) (SHO ml (m 6 (4 * n + 3)))) ∧ ¬ a = -1 ∧ a = f_with (ml 13 (m 6 (4 * n)).toNatClampNeg) (SHO ml (m 6 (4 * n + 2))) (SHO ml (m 6 (4 * n + 3)))
noncomputable def KCH (NF : Nat) (m : mm_P) (ml : mm_G) (f n : Nat) (a : Int64) : Int64 := pik (KCK NF m ml f n a) (f_with (ml 14 (m 6 (4 * n)).toNatClampNeg) (SHO ml (m 6 (4 * n + 2))) (SHO ml (m 6 (4 * n + 3)))) (-1)
noncomputable def FSK (NF : Nat) (m : mm_P) (ml : mm_G) (f n : Nat) (a b c : Int64) : Int64 :=
  if m 4 n = 0 then 0 else if m 4 n = 1 then 1 else if m 4 n = 2 then ml 13 f
  else if m 4 n = 3 then (if a = 0 ∧ b = 0 then 0 else -1)
  else if m 4 n = 4 then (if a = 0 ∧ b = 0 then 1 else -1)
  else if m 4 n = 5 then (if a = 1 ∧ b = c then b else -1)
  else if m 4 n = 6 then f_pr a b
  else if m 4 n = 7 then (if f_kd a = 4 then f_fs a else -1)
  else if m 4 n = 8 then (if f_kd a = 4 then f_sc a else -1)
  else if m 4 n = 9 then (pik (f_alw (m 10 f) (SHO ml (m 6 (4 * n)))) (f_ls (SHO ml (m 6 (4 * n)))) (-1))
  else if m 4 n = 10 then (if b = f_ls a then b else -1)
  else if m 4 n = 11 then (if f_kd a = 5 then 1 else -1)
  else if m 4 n = 12 then (if f_kd a = 5 then f_fs a else -1)
  else if m 4 n = 13 then (if f_kd a = 5 then a else -1)
  else KCH NF m ml f n a
/-- rows of node n of the class, as findShape() wants them -/
def okK (NB : Nat) (m : mm_P) (n : Nat) : Prop := (0 ≤ (m 4 n).toInt ∧ (m 4 n).toInt ≤ 14) ∧ (¬ m 4 n = 14 → ∀ i : Nat, (i : Int) < (f_parts (m 4 n)).toInt → ∃ p, p < n ∧ m 6 (4 * n + i) = nI p) ∧ (m 4 n = 9 → tyN NB (m 6 (4 * n))) ∧ (m 4 n = 14 → (∃ p, p < n ∧ m 6 (4 * n + 1) = nI p) ∧ (0 ≤ (m 6 (4 * n)).toInt ∧ (m 6 (4 * n)).toInt < 12) ∧ (m 6 (4 * n + 2) = -1 ∨ tyN NB (m 6 (4 * n + 2))) ∧ (m 6 (4 * n + 3) = -1 ∨ tyN NB (m 6 (4 * n + 3))))
def k_part (m : mm_P) (n i : Nat) : Int32 := if m 4 n = 14 then m 6 (4 * n + 1) else m 6 (4 * n + i)
def ksh (S : Nat → Int64) (m : mm_P) (n i : Nat) : Int64 := if (i : Int) < (f_parts (m 4 n)).toInt then S (k_part m n i).toNatClampNeg else -1
def KW (NB ND NF : Nat) (m : mm_P) : Prop := (m 1 1 = nI NB ∧ m 3 5 = nI ND ∧ m 9 7 = nI NF) ∧ NB ≤ 200 ∧ ND ≤ 200 ∧ NF ≤ 12
theorem k_part_r {NB n i : Nat} {m : mm_P} (h : okK NB m n) (hi : (i : Int) < (f_parts (m 4 n)).toInt) : ∃ p, p < n ∧ k_part m n i = nI p := by
  unfold k_part
  by_cases k : m 4 n = 14
  · rw [if_pos k]
    exact (h.2.2.2 k).1
  · rw [if_neg k]
    exact h.2.1 k i hi
section MFK
variable {NF : Nat} {m : mm_P} {ml : mm_G} {f n : Nat} {a b c : Int64}
theorem FSK_0 (k : m 4 n = 0) : FSK NF m ml f n a b c = 0 := by
  unfold FSK
  rw [k]
  rfl
theorem FSK_1 (k : m 4 n = 1) : FSK NF m ml f n a b c = 1 := by
  unfold FSK
  rw [k]
  rfl
theorem FSK_2 (k : m 4 n = 2) : FSK NF m ml f n a b c = ml 13 f := by
  unfold FSK
  rw [k]
  rfl
theorem FSK_3 (k : m 4 n = 3) : FSK NF m ml f n a b c = (if a = 0 ∧ b = 0 then 0 else -1) := by
  unfold FSK
  rw [k]
  rfl
theorem FSK_4 (k : m 4 n = 4) : FSK NF m ml f n a b c = (if a = 0 ∧ b = 0 then 1 else -1) := by
  unfold FSK
  rw [k]
  rfl
theorem FSK_5 (k : m 4 n = 5) : FSK NF m ml f n a b c = (if a = 1 ∧ b = c then b else -1) := by
  unfold FSK
  rw [k]
  rfl
theorem FSK_6 (k : m 4 n = 6) : FSK NF m ml f n a b c = f_pr a b := by
  unfold FSK
  rw [k]
  rfl
theorem FSK_7 (k : m 4 n = 7) : FSK NF m ml f n a b c = (if f_kd a = 4 then f_fs a else -1) := by
  unfold FSK
  rw [k]
  rfl
theorem FSK_8 (k : m 4 n = 8) : FSK NF m ml f n a b c = (if f_kd a = 4 then f_sc a else -1) := by
  unfold FSK
  rw [k]
  rfl
theorem FSK_9 (k : m 4 n = 9) : FSK NF m ml f n a b c = (pik (f_alw (m 10 f) (SHO ml (m 6 (4 * n)))) (f_ls (SHO ml (m 6 (4 * n)))) (-1)) := by
  unfold FSK
  rw [k]
  rfl
theorem FSK_10 (k : m 4 n = 10) : FSK NF m ml f n a b c = (if b = f_ls a then b else -1) := by
  unfold FSK
  rw [k]
  rfl
theorem FSK_11 (k : m 4 n = 11) : FSK NF m ml f n a b c = (if f_kd a = 5 then 1 else -1) := by
  unfold FSK
  rw [k]
  rfl
theorem FSK_12 (k : m 4 n = 12) : FSK NF m ml f n a b c = (if f_kd a = 5 then f_fs a else -1) := by
  unfold FSK
  rw [k]
  rfl
theorem FSK_13 (k : m 4 n = 13) : FSK NF m ml f n a b c = (if f_kd a = 5 then a else -1) := by
  unfold FSK
  rw [k]
  rfl
theorem FSK_14 (k : m 4 n = 14) : FSK NF m ml f n a b c = KCH NF m ml f n a := by
  unfold FSK
  rw [k]
  rfl
/-- found from types and functions alone -/
theorem FSK_l {wl : mm_G} (h2 : wl 2 = ml 2) (h13 : wl 13 = ml 13) (h14 : wl 14 = ml 14) : FSK NF m wl f n a b c = FSK NF m ml f n a b c := by
  have hS : ∀ v, SHO wl v = SHO ml v := fun v => by
    unfold SHO
    rw [h2]
  have hK : KCK NF m wl f n a = KCK NF m ml f n a := by
    unfold KCK KLT
    rw [hS, hS, h13]
  have hC : KCH NF m wl f n a = KCH NF m ml f n a := by
    unfold KCH
    rw [hS, hS, h14]
    by_cases q : KCK NF m ml f n a
    · rw [pik_t q, pik_t (by rw [hK]; exact q)]
    · rw [pik_f q, pik_f (by rw [hK]; exact q)]
  unfold FSK
  rw [hC, h13, hS]
end MFK
section MMK
variable {L : Nat} {xs : Nat → Int32} {d : Nat} {Q : mm_QQ} {mi : mm_P} {ml : mm_G} {lim : Nat × Nat} {NB ND NF : Nat}
theorem sx_shapeIn {f : Nat} {x : Int32} (hK : KW NB ND NF mi) (hf : f < NF) (h1 : ∀ p, p < ND → x = nI p → Q (some (mm_L (ml (19 + f) p))) mi ml) (h0 : ¬ ndN ND x → Q (some (mm_L (-1))) mi ml) : mm_cq (mm_call mm_ms (mm_tb L xs) (d + 2)) 43 [mm_R 17, mm_I (nI f), mm_I x] mi ml Q := by
  obtain ⟨⟨k1, k2, k3⟩, n1, n2, n3⟩ := hK
  have z1 : ∀ {P : Prop}, (1 : Int32) = 0 → P := fun z => absurd z (by decide)
  have z0 : ∀ {P : Prop}, ¬ (0 : Int32) = 0 → P := fun z => absurd rfl z
  refine en_X4_shapeIn (bk_X4_shapeIn_0 (mm_call_m _) (sx_has2 k3 n3 (fun t t1 t2 => bk_X4_shapeIn_8 (s0 := 1) (mm_call_m _) z1 (fun _ => sx_has7 k2 n2 (fun p p1 p2 => bk_X4_shapeIn_19 (s0 := 1) (mm_call_m _) z1 (fun _ => vp_in_nI (by omega) (by decide)) (fun _ => ?_)) (fun q => bk_X4_shapeIn_19 (s0 := 0) (mm_call_m _) (fun _ => bk_X4_shapeIn_33 (mm_call_m _) (h0 q)) z0 z0))) (fun q => absurd rfl (q f hf))))
  rw [p2, nI_clamp (by omega), nI_clamp (by omega)]
  have := h1 p p1 p2
  exact mm_alq_r (mm_row19 (by omega)) (vp_in_nI (by omega) (by decide)) this
theorem sx_kind7 {n : Nat} (hK : KW NB ND NF mi) (hn : n < ND) (hQ : Q (some (mm_I (mi 4 n))) mi ml) : mm_cq (mm_call mm_ms (mm_tb L xs) (d + 2)) 94 [mm_R 3, mm_I (nI n)] mi ml Q := by
  obtain ⟨⟨k1, k2, k3⟩, n1, n2, n3⟩ := hK
  refine en_X7_kindOf (bk_X7_kindOf_0 (mm_call_m _) (sx_has7 k2 n2 (fun u _ _ => bk_X7_kindOf_5 (s0 := 1) (mm_call_m _) (fun z => absurd z (by decide)) (fun _ => vp_in_nI (by omega) (by decide)) (fun _ => ?_)) (fun a => absurd ⟨n, hn, rfl⟩ a)))
  rw [nI_clamp (by omega)]
  exact hQ
theorem sx_partOf7 {n i : Nat} (hK : KW NB ND NF mi) (hn : n < ND) (hi : i < 3) (ok : okK NB mi n) (h1 : (i : Int) < (f_parts (mi 4 n)).toInt → Q (some (mm_I (k_part mi n i))) mi ml) (h0 : ¬ (i : Int) < (f_parts (mi 4 n)).toInt → Q (some (mm_I (-1))) mi ml) : mm_cq (mm_call mm_ms (mm_tb L xs) (d + 2)) 98 [mm_R 3, mm_I (nI n), mm_I (nI i)] mi ml Q := by
  obtain ⟨⟨k1, k2, k3⟩, n1, n2, n3⟩ := hK
  have hk := ok.1
  have e4 : nI n * 4 = nI (4 * n) := by
    refine Int32.toInt_inj.mp ?_
    rw [mm_m4e (by rw [mm_tI (by omega)]; omega), mm_tI (by omega), mm_tI (by omega)]
    omega
  have ea : ∀ j, j < 4 → nI n * 4 + nI j = nI (4 * n + j) := fun j hj => by rw [e4, nI_a (by omega)]
  have ea1 : nI n * 4 + 1 = nI (4 * n + 1) := ea 1 (by decide)
  have ei : (nI i).toInt = i := mm_tI (by omega)
  have en : (nI n).toNatClampNeg = n := nI_clamp (by omega)
  have e15 : (nI 15).toInt = 15 := mm_tI (by decide)
  have e44 : (4 : Int32).toInt = 4 := rfl
  have z1 : ∀ {P : Prop}, (1 : Int32) = 0 → P := fun z => absurd z (by decide)
  have z0 : ∀ {P : Prop}, ¬ (0 : Int32) = 0 → P := fun z => absurd rfl z
  refine en_X7_partOf (bk_X7_partOf_0 (mm_call_m _) (sx_has7 k2 n2 (fun u _ _ => bk_X7_partOf_5 (s0 := 1) (mm_call_m _) z1 (fun _ z => ?_) (fun _ _ _ => vp_in_nI (by omega) (by decide)) (fun _ _ _ z => ?_) (fun _ _ _ _ z => ?_) (fun _ _ _ _ _ => ?_) (fun _ _ _ _ _ _ _ => ?_) (fun _ _ _ _ _ z z2 => ?_) (fun _ _ _ _ _ _ _ => ?_) (fun _ _ _ _ _ z z2 => ?_) (fun _ _ _ _ _ z => bk_X7_partOf_47 (mm_call_m _) (h0 ?_)) (fun _ _ z => ?_)) (fun a => absurd ⟨n, hn, rfl⟩ a)))
  · have := mm_ltI z
    rw [ei, mm_tt0] at this
    omega
  · have := mm_ltI z
    rw [en, mm_tt0] at this
    omega
  · have := mm_leI z
    rw [en, e15] at this
    omega
  · rw [en]
    exact mm_vpr ⟨hk.1, by omega⟩
  · rw [ea i (by omega)]
    exact vp_in_nI (by omega) (by decide)
  · rw [en, parts_e hk] at z
    rw [en] at z2
    have := mm_ltI z
    rw [ei] at this
    have hq := h1 this
    unfold k_part at hq
    rw [if_neg z2] at hq
    rw [ea i (by omega), nI_clamp (by omega)]
    exact hq
  · rw [ea1]
    exact vp_in_nI (by omega) (by decide)
  · rw [en, parts_e hk] at z
    rw [en] at z2
    have := mm_ltI z
    rw [ei] at this
    have hq := h1 this
    unfold k_part at hq
    rw [if_pos z2] at hq
    rw [ea1, nI_clamp (by omega)]
    exact hq
  · rw [en, parts_e hk] at z
    have := mm_nltI z
    rw [ei] at this
    omega
  · have := mm_nltI z
    rw [ei, e44] at this
    omega
theorem sx_partShape {f n i : Nat} (hK : KW NB ND NF mi) (hf : f < NF) (hn : n < ND) (hi : i < 3) (ok : okK NB mi n) (hQ : Q (some (mm_L (ksh (ml (19 + f)) mi n i))) mi ml) : mm_cq (mm_call mm_ms (mm_tb L xs) (d + 3)) 44 [mm_R 17, mm_I (nI f), mm_I (nI n), mm_I (nI i)] mi ml Q := by
  have hND := hK.2.2.1
  unfold ksh at hQ
  refine en_X4_partShape (bk_X4_partShape_0 (mm_call_m _) (sx_partOf7 hK hn hi ok (fun q => ?_) (fun q => ?_)))
  · rw [if_pos q] at hQ
    obtain ⟨p, p1, p2⟩ := k_part_r ok q
    rw [p2, nI_clamp (by omega)] at hQ
    refine bk_X4_partShape_11 (mm_call_m _) (sx_shapeIn hK hf (fun u u1 u2 => bk_X4_partShape_14 (mm_call_m _) ?_) (fun z => absurd ⟨p, by omega, p2⟩ z))
    have : p = u := nI_inj (by omega) (by omega) (p2.symm.trans u2)
    rw [← this]
    exact hQ
  · rw [if_neg q] at hQ
    refine bk_X4_partShape_11 (mm_call_m _) (sx_shapeIn hK hf (fun u u1 u2 => absurd u2.symm (nI_ne (by omega))) (fun _ => bk_X4_partShape_14 (mm_call_m _) hQ))
theorem sx_SHO {v : Int32} (hK : KW NB ND NF mi) (hv : v = -1 ∨ tyN NB v) (hQ : Q (some (mm_L (SHO ml v))) mi ml) : mm_cq (mm_call mm_ms (mm_tb L xs) (d + 2)) 112 [mm_R 1, mm_I v] mi ml Q := by
  obtain ⟨⟨k1, k2, k3⟩, n1, n2, n3⟩ := hK
  rcases hv with rfl | ⟨t, t1, rfl⟩
  · unfold SHO at hQ
    rw [if_pos rfl] at hQ
    exact en_X8_shapeOf (bk_X8_shapeOf_0 (mm_call_m _) (sx_has8 k1 n1 (fun u u1 u2 => absurd u2.symm (nI_ne (by omega))) (fun _ => bk_X8_shapeOf_5 (s0 := 0) (mm_call_m _) (fun _ => hQ) (fun z => absurd rfl z) (fun z => absurd rfl z))))
  · rw [SHO_t (by omega) rfl] at hQ
    exact sx_shapeOf k1 n1 t1 hQ
theorem sx_letters2 {f : Nat} (hK : KW NB ND NF mi) (hf : f < NF) (hQ : Q (some (mm_I (mi 10 f))) mi ml) : mm_cq (mm_call mm_ms (mm_tb L xs) (d + 2)) 25 [mm_R 9, mm_I (nI f)] mi ml Q := by
  obtain ⟨⟨k1, k2, k3⟩, n1, n2, n3⟩ := hK
  refine en_X2_lettersOf (bk_X2_lettersOf_0 (mm_call_m _) (sx_has2 k3 n3 (fun u _ _ => bk_X2_lettersOf_5 (s0 := 1) (mm_call_m _) (fun z => absurd z (by decide)) (fun _ => vp_in_nI (by omega) (by decide)) (fun _ => ?_)) (fun a => absurd rfl (a f hf))))
  rw [nI_clamp (by omega)]
  exact hQ
theorem sx_argShape {f : Nat} (hK : KW NB ND NF mi) (hf : f < NF) (hQ : Q (some (mm_L (ml 13 f))) mi ml) : mm_cq (mm_call mm_ms (mm_tb L xs) (d + 2)) 26 [mm_R 9, mm_I (nI f)] mi ml Q := by
  obtain ⟨⟨k1, k2, k3⟩, n1, n2, n3⟩ := hK
  refine en_X2_argumentShape (bk_X2_argumentShape_0 (mm_call_m _) (sx_has2 k3 n3 (fun u _ _ => bk_X2_argumentShape_5 (s0 := 1) (mm_call_m _) (fun z => absurd z (by decide)) (fun _ => vp_in_nI (by omega) (by decide)) (fun _ => ?_)) (fun a => absurd rfl (a f hf))))
  rw [nI_clamp (by omega)]
  exact hQ
theorem sx_resShape {f : Nat} (hK : KW NB ND NF mi) (hf : f < NF) (hQ : Q (some (mm_L (ml 14 f))) mi ml) : mm_cq (mm_call mm_ms (mm_tb L xs) (d + 2)) 27 [mm_R 9, mm_I (nI f)] mi ml Q := by
  obtain ⟨⟨k1, k2, k3⟩, n1, n2, n3⟩ := hK
  refine en_X2_resultShape (bk_X2_resultShape_0 (mm_call_m _) (sx_has2 k3 n3 (fun u _ _ => bk_X2_resultShape_5 (s0 := 1) (mm_call_m _) (fun z => absurd z (by decide)) (fun _ => vp_in_nI (by omega) (by decide)) (fun _ => ?_)) (fun a => absurd rfl (a f hf))))
  rw [nI_clamp (by omega)]
  exact hQ
theorem sx_callShape {f n : Nat} {a : Int64} (hK : KW NB ND NF mi) (hf : f < NF) (hn : n < ND) (ok : okK NB mi n) (k : mi 4 n = 14) (hQ : Q (some (mm_L (KCH NF mi ml f n a))) mi ml) : mm_cq (mm_call mm_ms (mm_tb L xs) (d + 17)) 48 [mm_R 17, mm_I (nI f), mm_I (nI n), mm_L a] mi ml Q := by
  obtain ⟨⟨k1, k2, k3⟩, n1, n2, n3⟩ := id hK
  obtain ⟨c1, c2, c3, c4⟩ := ok.2.2.2 k
  obtain ⟨g, eg, g12, g0, egc⟩ := mm_of c2.1 c2.2
  have z1 : ∀ {P : Prop}, (1 : Int32) = 0 → P := fun z => absurd z (by decide)
  have z0 : ∀ {P : Prop}, ¬ (0 : Int32) = 0 → P := fun z => absurd rfl z
  have hno : ¬ KCK NF mi ml f n a → Q (some (mm_L (-1))) mi ml := fun q => by
    unfold KCH at hQ
    rw [pik_f q] at hQ
    exact hQ
  have hyes : KCK NF mi ml f n a → Q (some (mm_L (f_with (ml 14 g) (SHO ml (mi 6 (4 * n + 2))) (SHO ml (mi 6 (4 * n + 3)))))) mi ml := fun q => by
    unfold KCH at hQ
    rw [pik_t q, egc] at hQ
    exact hQ
  have hgo : ∀ x10 : Int32, x10 = KLT mi ml n → mm_cq (mm_call mm_ms (mm_tb L xs) (d + 16)) 24 [mm_R 9, mm_I (nI g)] mi ml (fun o m1 m2 => mm_WQ (mm_call mm_ms (mm_tb L xs) (d + 16)) (mm_tb L xs) mm_m48 (mm_li mm_m48) Q 85 [some (mm_R 17), some (mm_I (nI f)), some (mm_I (nI n)), some (mm_L a), none, some (mm_I (nI g)), some (mm_L (SHO ml (mi 6 (4 * n + 2)))), none, some (mm_L (SHO ml (mi 6 (4 * n + 3)))), none, some (mm_I x10), none] (o.toList ++ []) m1 m2) := by
    intro x10 hx
    refine sx_has2 k3 n3 (fun u u1 u2 => bk_X4_callShape_85 (s0 := 1) (mm_call_m _) z1 (fun _ => ?_)) (fun q => bk_X4_callShape_85 (s0 := 0) (mm_call_m _) (fun _ => bk_X4_callShape_110 (mm_call_m _) (hno (fun z => ?_))) z0)
    · have hg : g < NF := by
        have : g = u := nI_inj (by omega) (by omega) u2
        omega
      refine sx_letters2 hK hg (bk_X4_callShape_97 (mm_call_m _) (fun z => bk_X4_callShape_110 (mm_call_m _) (hno (fun y => z ?_))) (fun zl za => sx_letters2 hK hf (bk_X4_callShape_122 (mm_call_m _) (sx_lettersAllow (fun w1 => bk_X4_callShape_131 (s0 := 1) (mm_call_m _) z1 (fun _ => sx_lettersAllow (fun w2 => bk_X4_callShape_141 (s0 := 1) (mm_call_m _) (fun _ => sx_argShape hK hg (bk_X4_callShape_158 (mm_call_m _) (sp_X10_withLetters (bk_X4_callShape_165 (mm_call_m _) (fun zc => sx_resShape hK hg (bk_X4_callShape_182 (mm_call_m _) (sp_X10_withLetters (bk_X4_callShape_189 (mm_call_m _) (hyes ?_))))) (fun zc => hno (fun y => zc ?_)))))) z1) (fun w2 => bk_X4_callShape_141 (s0 := 0) (mm_call_m _) z0 (fun _ => bk_X4_callShape_144 (mm_call_m _) (hno (fun y => w2 y.2.1.2)))))) (fun w1 => bk_X4_callShape_131 (s0 := 0) (mm_call_m _) (fun _ => bk_X4_callShape_144 (mm_call_m _) (hno (fun y => w1 y.2.1.1))) z0)))) (fun _ za => bk_X4_callShape_110 (mm_call_m _) (hno (fun y => y.2.2.1 (lg_eq.mp za)))))
      · have := y.1.2
        rw [egc] at this
        exact this.trans hx.symm
      · refine ⟨⟨by rw [eg, mm_tI (by omega)]; omega, by rw [egc]; exact zl.trans hx⟩, ⟨w1, w2⟩, fun q => za (lg_eq.mpr q), ?_⟩
        rw [egc]
        exact lg_eq.mp zc
      · have := y.2.2.2
        rw [egc] at this
        exact lg_eq.mpr this
    · have := z.1.1
      rw [eg, mm_tI (by omega)] at this
      exact q g (by omega) rfl
  refine en_X4_callShape (bk_X4_callShape_0 (mm_call_m _) (sx_wantedAt (i := 0) k2 n2 hn (by decide) (bk_X4_callShape_9 (mm_call_m _) (sx_wantedAt (i := 2) k2 n2 hn (by decide) (bk_X4_callShape_24 (mm_call_m _) (sx_SHO hK c3 (bk_X4_callShape_27 (mm_call_m _) (sx_wantedAt (i := 3) k2 n2 hn (by decide) (bk_X4_callShape_42 (mm_call_m _) (sx_SHO hK c4 (bk_X4_callShape_45 (mm_call_m _) (fun y z => ?_) (fun y z => ?_) (fun y => ?_)))))))))))) <;> rw [show mi 6 (4 * n + 0) = nI g from eg]
  · refine hgo 2 ?_
    unfold KLT
    rw [if_neg (fun q => y (lg_eq.mpr q)), if_neg (fun q => z (lg_eq.mpr q))]
  · refine hgo 1 ?_
    unfold KLT
    rw [if_neg (fun q => y (lg_eq.mpr q)), if_pos (lg_eq.mp z)]
  · refine hgo 0 ?_
    unfold KLT
    rw [if_pos (lg_eq.mp y)]
theorem sx_overList {k : Int32} {a : Int64} (h11 : f_kd a = 5 → k = nI 11 → Q (some (mm_L 1)) mi ml) (h12 : f_kd a = 5 → k = nI 12 → Q (some (mm_L (f_fs a))) mi ml) (h13 : f_kd a = 5 → k = nI 13 → Q (some (mm_L a)) mi ml) (hno : f_kd a = 5 → ¬ k = nI 11 → ¬ k = nI 12 → ¬ k = nI 13 → Q (some (mm_L (-1))) mi ml) (hn : ¬ f_kd a = 5 → Q (some (mm_L (-1))) mi ml) : mm_cq (mm_call mm_ms (mm_tb L xs) (d + 3)) 46 [mm_R 17, mm_I k, mm_L a] mi ml Q :=
  en_X4_shapeOverList (bk_X4_shapeOverList_0 (mm_call_m _) (sp_X10_kindOf (bk_X4_shapeOverList_4 (mm_call_m _) h11 (fun z y => sp_X10_firstOf (bk_X4_shapeOverList_46 (mm_call_m _) (h12 z y))) h13 hno hn)))
theorem sx_findShape {f n : Nat} (hK : KW NB ND NF mi) (hf : f < NF) (hn : n < ND) (ok : okK NB mi n) (hQ : Q (some (mm_L (FSK NF mi ml f n (ksh (ml (19 + f)) mi n 0) (ksh (ml (19 + f)) mi n 1) (ksh (ml (19 + f)) mi n 2)))) mi ml) : mm_cq (mm_call mm_ms (mm_tb L xs) (d + 18)) 45 [mm_R 17, mm_I (nI f), mm_I (nI n)] mi ml Q := by
  obtain ⟨⟨k1, k2, k3⟩, n1, n2, n3⟩ := id hK
  have hk := ok.1
  have z1 : ∀ {P : Prop}, (1 : Int32) = 0 → P := fun z => absurd z (by decide)
  have z0 : ∀ {P : Prop}, ¬ (0 : Int32) = 0 → P := fun z => absurd rfl z
  have hq : ∀ {x : Int64}, FSK NF mi ml f n (ksh (ml (19 + f)) mi n 0) (ksh (ml (19 + f)) mi n 1) (ksh (ml (19 + f)) mi n 2) = x → Q (some (mm_L x)) mi ml := fun e => by
    rw [e] at hQ
    exact hQ
  clear hQ
  refine en_X4_findShape (bk_X4_findShape_0 (mm_call_m _) (sx_partShape (i := 0) hK hf hn (by decide) ok (bk_X4_findShape_7 (mm_call_m _) (sx_partShape (i := 1) hK hf hn (by decide) ok (bk_X4_findShape_15 (mm_call_m _) (sx_kind7 hK hn ?_))))))
  generalize hA : ksh (ml (19 + f)) mi n 0 = A at hq ⊢
  generalize hB : ksh (ml (19 + f)) mi n 1 = B at hq ⊢
  have h286 : (mi 4 n = nI 11 ∨ mi 4 n = nI 12 ∨ mi 4 n = nI 13) → mm_cq (mm_call mm_ms (mm_tb L xs) (d + 17)) 94 [mm_R 3, mm_I (nI n)] mi ml (fun o m1 m2 => mm_WQ (mm_call mm_ms (mm_tb L xs) (d + 17)) (mm_tb L xs) mm_m45 (mm_li mm_m45) Q 286 [some (mm_R 17), some (mm_I (nI f)), some (mm_I (nI n)), some (mm_L A), none, some (mm_L B), none] (o.toList ++ [mm_R 17]) m1 m2) := fun hkk => by
    refine sx_kind7 hK hn (bk_X4_findShape_286 (mm_call_m _) (sx_overList (fun a b => bk_X4_findShape_290 (mm_call_m _) (hq ?_)) (fun a b => bk_X4_findShape_290 (mm_call_m _) (hq ?_)) (fun a b => bk_X4_findShape_290 (mm_call_m _) (hq ?_)) (fun a b c e => ?_) (fun a => bk_X4_findShape_290 (mm_call_m _) (hq ?_))))
    · rw [FSK_11 b, if_pos a]
    · rw [FSK_12 b, if_pos a]
    · rw [FSK_13 b, if_pos a]
    · rcases hkk with q | q | q
      · exact absurd q b
      · exact absurd q c
      · exact absurd q e
    · rcases hkk with q | q | q
      · rw [FSK_11 q, if_neg a]
      · rw [FSK_12 q, if_neg a]
      · rw [FSK_13 q, if_neg a]
  refine bk_X4_findShape_25 (mm_call_m _) (fun k => hq (FSK_0 k)) (fun k => hq (FSK_1 k)) (fun k => ?_) (fun k z => ?_) (fun k z y => ?_) (fun k z y => ?_) (fun k z => ?_) (fun k z y => ?_) (fun k z y => ?_) (fun k z => ?_) (fun k z => ?_) (fun k => ?_) (fun k => ?_) (fun k => ?_) (fun k => ?_) (fun k => ?_) (fun k => h286 (.inl k)) (fun k => h286 (.inr (.inl k))) (fun k => h286 (.inr (.inr k))) (fun k => ?_) (fun k0 k1 k2 k3 k4 k5 k6 k7 k8 k9 k10 k11 k12 k13 k14 => ?_)
  · exact sx_argShape hK hf (bk_X4_findShape_112 (mm_call_m _) (hq (FSK_2 k)))
  · exact bk_X4_findShape_130 (mm_call_m _) (hq (by rw [FSK_3 k, if_neg (fun q => z (lg_eq.mpr q.1))]))
  · exact bk_X4_findShape_130 (mm_call_m _) (hq (by rw [FSK_3 k, if_neg (fun q => y (lg_eq.mpr q.2))]))
  · exact hq (by rw [FSK_3 k, if_pos ⟨lg_eq.mp z, lg_eq.mp y⟩])
  · exact bk_X4_findShape_151 (mm_call_m _) (hq (by rw [FSK_4 k, if_neg (fun q => z (lg_eq.mpr q.1))]))
  · exact bk_X4_findShape_151 (mm_call_m _) (hq (by rw [FSK_4 k, if_neg (fun q => y (lg_eq.mpr q.2))]))
  · exact hq (by rw [FSK_4 k, if_pos ⟨lg_eq.mp z, lg_eq.mp y⟩])
  · exact bk_X4_findShape_179 (mm_call_m _) (hq (by rw [FSK_5 k, if_neg (fun q => z (lg_eq.mpr q.1))]))
  · exact sx_partShape (i := 2) hK hf hn (by decide) ok (bk_X4_findShape_170 (mm_call_m _) (fun y => bk_X4_findShape_179 (mm_call_m _) (hq (by rw [FSK_5 k, if_neg (fun q => y (lg_eq.mpr q.2))]))) (fun y => hq (by rw [FSK_5 k, if_pos ⟨lg_eq.mp z, lg_eq.mp y⟩])))
  · exact sp_X10_pairOf (bk_X4_findShape_189 (mm_call_m _) (hq (FSK_6 k)))
  · exact sp_X10_kindOf (bk_X4_findShape_194 (mm_call_m _) (fun z => hq (by rw [FSK_7 k, if_neg z])) (fun z => sp_X10_firstOf (bk_X4_findShape_202 (mm_call_m _) (hq (by rw [FSK_7 k, if_pos z])))))
  · exact sp_X10_kindOf (bk_X4_findShape_213 (mm_call_m _) (fun z => hq (by rw [FSK_8 k, if_neg z])) (fun z => sp_X10_secondOf (bk_X4_findShape_221 (mm_call_m _) (hq (by rw [FSK_8 k, if_pos z])))))
  · refine sx_wantedAt (i := 0) k2 n2 hn (by decide) (bk_X4_findShape_243 (mm_call_m _) (sx_SHO hK (.inr (ok.2.2.1 k)) (bk_X4_findShape_246 (mm_call_m _) ?_)))
    refine en_X4_nilShape (bk_X4_nilShape_0 (mm_call_m _) (sx_letters2 hK hf (bk_X4_nilShape_8 (mm_call_m _) (sx_lettersAllow (fun w => bk_X4_nilShape_12 (s0 := 1) (mm_call_m _) z1 (fun _ => sp_X10_listOf (bk_X4_nilShape_19 (mm_call_m _) (bk_X4_findShape_249 (mm_call_m _) (hq ?_))))) (fun w => bk_X4_nilShape_12 (s0 := 0) (mm_call_m _) (fun _ => bk_X4_findShape_249 (mm_call_m _) (hq ?_)) z0)))))
    · rw [FSK_9 k, pik_t (P := f_alw (mi 10 f) (SHO ml (mi 6 (4 * n)))) w]
      rfl
    · rw [FSK_9 k, pik_f (P := f_alw (mi 10 f) (SHO ml (mi 6 (4 * n)))) w]
  · exact sp_X10_listOf (bk_X4_findShape_256 (mm_call_m _) (fun z => hq (by rw [FSK_10 k, if_neg (fun q => z (lg_eq.mpr q))])) (fun z => hq (by rw [FSK_10 k, if_pos (lg_eq.mp z)])))
  · exact sx_callShape hK hf hn ok k (bk_X4_findShape_276 (mm_call_m _) (hq (FSK_14 k)))
  · exfalso
    obtain ⟨j, ej, j1, j2, -⟩ := mm_of (n := 15) hk.1 (by omega)
    rw [ej] at k0 k1 k2 k3 k4 k5 k6 k7 k8 k9 k10 k11 k12 k13 k14
    rcases (show j = 0 ∨ j = 1 ∨ j = 2 ∨ j = 3 ∨ j = 4 ∨ j = 5 ∨ j = 6 ∨ j = 7 ∨ j = 8 ∨ j = 9 ∨ j = 10 ∨ j = 11 ∨ j = 12 ∨ j = 13 ∨ j = 14 by omega) with rfl | rfl | rfl | rfl | rfl | rfl | rfl | rfl | rfl | rfl | rfl | rfl | rfl | rfl | rfl
    · exact k0 rfl
    · exact k1 rfl
    · exact k2 rfl
    · exact k3 rfl
    · exact k4 rfl
    · exact k5 rfl
    · exact k6 rfl
    · exact k7 rfl
    · exact k8 rfl
    · exact k9 rfl
    · exact k10 rfl
    · exact k11 rfl
    · exact k12 rfl
    · exact k13 rfl
    · exact k14 rfl
/-- all functions' types of node n -/
theorem fill_2 {n : Nat} (hK : KW NB ND NF mi) (hn : n < ND) (ok : okK NB mi n) (hQ : ∀ n2 : mm_G, (∀ c i, ¬ (19 ≤ c ∧ c < 19 + NF ∧ i = n) → n2 c i = ml c i) → (∀ f, f < NF → n2 (19 + f) n = FSK NF mi ml f n (ksh (ml (19 + f)) mi n 0) (ksh (ml (19 + f)) mi n 1) (ksh (ml (19 + f)) mi n 2)) → Q none mi n2) : ∀ (j f : Nat) (wl : mm_G), f + j = NF → (∀ c i, ¬ (19 ≤ c ∧ c < 19 + NF ∧ i = n) → wl c i = ml c i) → (∀ g, g < f → wl (19 + g) n = FSK NF mi ml g n (ksh (ml (19 + g)) mi n 0) (ksh (ml (19 + g)) mi n 1) (ksh (ml (19 + g)) mi n 2)) → mm_WQ (mm_call mm_ms (mm_tb L xs) (d + 18)) (mm_tb L xs) mm_m41 lim Q 2 [some (mm_R 17), some (mm_I (nI n)), some (mm_I (nI f))] [] mi wl := by
  obtain ⟨⟨k1, k2, k3⟩, n1, n2, n3⟩ := id hK
  have e12 : (12 : Int32).toInt = 12 := rfl
  have e200 : (200 : Int32).toInt = 200 := rfl
  intro j
  induction j with
  | zero =>
    intro f wl h hF hS
    have hi : f = NF := by omega
    subst hi
    refine bk_X4_fillNode_2 (mm_call_m _) (en_X2_size (bk_X2_size_0 (mm_call_m _) (bk_X4_fillNode_10 (mm_call_m _) (fun _ => hQ wl hF hS) (fun z => absurd ?_ z))))
    rw [k3]
    exact Int32.le_refl _
  | succ j ih =>
    intro f wl h hF hS
    have hf : f < NF := by omega
    refine bk_X4_fillNode_2 (mm_call_m _) (en_X2_size (bk_X2_size_0 (mm_call_m _) (bk_X4_fillNode_10 (mm_call_m _) (fun z => ?_) (fun _ => sx_findShape hK hf hn ok (bk_X4_fillNode_22 (mm_call_m _) ?_)))))
    · have := mm_leI z
      rw [k3, mm_tI (by omega), mm_tI (by omega)] at this
      omega
    · refine en_X4_setShape (bk_X4_setShape_0 (mm_call_m _) (fun z => ?_) (fun _ z => ?_) (fun _ _ z => ?_) (fun _ _ _ z => ?_) (fun _ _ _ _ => vp_in_nI (by omega) (by decide)) (fun _ _ _ _ => ?_))
      · have := mm_ltI z
        rw [mm_tI (by omega), mm_tt0] at this
        omega
      · have := mm_leI z
        rw [mm_tI (by omega), e12] at this
        omega
      · have := mm_ltI z
        rw [mm_tI (by omega), mm_tt0] at this
        omega
      · have := mm_leI z
        rw [mm_tI (by omega), e200] at this
        omega
      · rw [nI_clamp (by omega), nI_clamp (by omega)]
        refine mm_alq_r (mm_row19 (by omega)) (vp_in_nI (by omega) (by decide)) (bk_X4_setShape_30 (mm_call_m _) (bk_X4_fillNode_25 (mm_call_m _) ?_))
        rw [show nI f + 1 = nI (f + 1) from (nI_succ f).symm]
        have hrow : ∀ c, (c < 19 ∨ 31 ≤ c) → wl c = ml c := fun c hc => funext fun i => hF c i (by omega)
        have hval : FSK NF mi wl f n (ksh (wl (19 + f)) mi n 0) (ksh (wl (19 + f)) mi n 1) (ksh (wl (19 + f)) mi n 2) = FSK NF mi ml f n (ksh (ml (19 + f)) mi n 0) (ksh (ml (19 + f)) mi n 1) (ksh (ml (19 + f)) mi n 2) := by
          have hk : ∀ i, ksh (wl (19 + f)) mi n i = ksh (ml (19 + f)) mi n i := fun i => by
            unfold ksh
            split
            · rename_i q
              obtain ⟨p, p1, p2⟩ := k_part_r ok q
              rw [p2, nI_clamp (by omega)]
              exact hF _ _ (by omega)
            · rfl
          rw [hk, hk, hk]
          exact FSK_l (hrow 2 (by omega)) (hrow 13 (by omega)) (hrow 14 (by omega))
        refine ih (f + 1) _ (by omega) (fun c i q => ?_) (fun g hg => ?_)
        · have : ¬ (c = 19 + f ∧ i = n) := fun z => q (by omega)
          rw [show mm_u wl (19 + f) n _ c i = wl c i from by
            by_cases hc : c = 19 + f
            · subst hc
              exact mm_u_f (fun z => this ⟨rfl, z⟩)
            · exact mm_u_e hc]
          exact hF c i q
        · by_cases hgf : g = f
          · subst hgf
            rw [mm_u_s]
            exact hval
          · rw [mm_u_e (by omega)]
            exact hS g (by omega)
theorem sx_fillNode {n : Nat} (hK : KW NB ND NF mi) (hn : n < ND) (ok : okK NB mi n) (hQ : ∀ n2 : mm_G, (∀ c i, ¬ (19 ≤ c ∧ c < 19 + NF ∧ i = n) → n2 c i = ml c i) → (∀ f, f < NF → n2 (19 + f) n = FSK NF mi ml f n (ksh (ml (19 + f)) mi n 0) (ksh (ml (19 + f)) mi n 1) (ksh (ml (19 + f)) mi n 2)) → Q none mi n2) : mm_cq (mm_call mm_ms (mm_tb L xs) (d + 19)) 41 [mm_R 17, mm_I (nI n)] mi ml Q :=
  en_X4_fillNode (bk_X4_fillNode_0 (mm_call_m _) (fill_2 hK hn ok hQ NF 0 ml (by omega) (fun _ _ _ => rfl) (fun g hg => absurd hg (Nat.not_lt_zero _))))
end MMK
