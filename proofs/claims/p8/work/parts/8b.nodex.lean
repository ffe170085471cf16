/-! ===== node() of both ===== -/
def A7 (w : mm_P) (n : Nat) (k v a b c e : Int32) : mm_P := mm_u (mm_u (mm_u (mm_u (mm_u (mm_u (mm_u w 4 n k) 5 n v) 6 (4 * n) a) 6 (4 * n + 1) b) 6 (4 * n + 2) c) 6 (4 * n + 3) e) 3 5 (nI (n + 1))
theorem A7_o {w : mm_P} {n c' i : Nat} {k v a b c e : Int32} (h4 : ¬ (c' = 4 ∧ i = n)) (h5 : ¬ (c' = 5 ∧ i = n)) (h6 : ¬ (c' = 6 ∧ 4 * n ≤ i ∧ i < 4 * n + 4)) (h3 : ¬ (c' = 3 ∧ i = 5)) : A7 w n k v a b c e c' i = w c' i := by
  unfold A7
  rw [mm_u_o (by omega), mm_u_o (by omega), mm_u_o (by omega), mm_u_o (by omega), mm_u_o (by omega), mm_u_o (by omega), mm_u_o (by omega)]
theorem A7_v {w : mm_P} {n : Nat} {k v a b c e : Int32} : A7 w n k v a b c e 4 n = k ∧ A7 w n k v a b c e 5 n = v ∧ A7 w n k v a b c e 6 (4 * n) = a ∧ A7 w n k v a b c e 6 (4 * n + 1) = b ∧ A7 w n k v a b c e 6 (4 * n + 2) = c ∧ A7 w n k v a b c e 6 (4 * n + 3) = e ∧ A7 w n k v a b c e 3 5 = nI (n + 1) := by
  unfold A7
  refine ⟨?_, ?_, ?_, ?_, ?_, ?_, mm_u_s⟩
  · rw [mm_u_o (by omega), mm_u_o (by omega), mm_u_o (by omega), mm_u_o (by omega), mm_u_o (by omega), mm_u_o (by omega), mm_u_s]
  · rw [mm_u_o (by omega), mm_u_o (by omega), mm_u_o (by omega), mm_u_o (by omega), mm_u_o (by omega), mm_u_s]
  · rw [mm_u_o (by omega), mm_u_o (by omega), mm_u_o (by omega), mm_u_o (by omega), mm_u_s]
  · rw [mm_u_o (by omega), mm_u_o (by omega), mm_u_o (by omega), mm_u_s]
  · rw [mm_u_o (by omega), mm_u_o (by omega), mm_u_s]
  · rw [mm_u_o (by omega), mm_u_s]
theorem NDP_r {ND NB : Nat} {dep : Nat → Int32} {k a b c e : Int32} (hND : ND ≤ 200) (hd : ∀ n, n < ND → 1 ≤ (dep n).toInt ∧ (dep n).toInt ≤ 12) (ok : okB NB ND k a b c e) : (1 ≤ NDP dep k a b c ∧ NDP dep k a b c ≤ 13) ∧ (k = 14 → (dep b.toNatClampNeg).toInt < NDP dep k a b c) ∧ (¬ k = 14 → (1 ≤ (f_parts k).toInt → (dep a.toNatClampNeg).toInt < NDP dep k a b c) ∧ (2 ≤ (f_parts k).toInt → (dep b.toNatClampNeg).toInt < NDP dep k a b c) ∧ (3 ≤ (f_parts k).toInt → (dep c.toNatClampNeg).toInt < NDP dep k a b c)) := by
  have hdr : ∀ {x : Int32}, ndN ND x → 1 ≤ (dep x.toNatClampNeg).toInt ∧ (dep x.toNatClampNeg).toInt ≤ 12 := fun {x} ⟨p, p1, p2⟩ => by
    rw [p2, nI_clamp (by omega)]
    exact hd p p1
  obtain ⟨-, -, k14, -, kps⟩ := ok
  unfold NDP
  by_cases z : k = 14
  · rw [if_pos z]
    have := hdr (k14 z).2.1
    exact ⟨by omega, fun _ => by omega, fun q => absurd z q⟩
  · rw [if_neg z]
    obtain ⟨pa, pb, pc⟩ := kps z
    have ha : 1 ≤ (f_parts k).toInt → _ := fun q => hdr (pa q)
    have hb : 2 ≤ (f_parts k).toInt → _ := fun q => hdr (pb q)
    have hc : 3 ≤ (f_parts k).toInt → _ := fun q => hdr (pc q)
    by_cases p0 : (f_parts k).toInt ≤ 0
    · rw [if_pos p0]
      exact ⟨by omega, fun q => absurd q z, fun _ => ⟨fun q => by omega, fun q => by omega, fun q => by omega⟩⟩
    · rw [if_neg p0]
      have ha' := ha (by omega)
      by_cases p1 : (f_parts k).toInt ≤ 1
      · rw [if_pos (by omega), if_pos p1]
        exact ⟨by omega, fun q => absurd q z, fun _ => ⟨fun q => by omega, fun q => by omega, fun q => by omega⟩⟩
      · have hb' := hb (by omega)
        have m1 : mxi (dep a.toNatClampNeg).toInt (dep b.toNatClampNeg).toInt = (dep a.toNatClampNeg).toInt ∧ (dep b.toNatClampNeg).toInt ≤ (dep a.toNatClampNeg).toInt ∨ mxi (dep a.toNatClampNeg).toInt (dep b.toNatClampNeg).toInt = (dep b.toNatClampNeg).toInt ∧ (dep a.toNatClampNeg).toInt ≤ (dep b.toNatClampNeg).toInt := by
          unfold mxi
          split
          · exact .inr ⟨rfl, by omega⟩
          · exact .inl ⟨rfl, by omega⟩
        by_cases p2 : (f_parts k).toInt ≤ 2
        · rw [if_pos p2, if_neg p1]
          exact ⟨by omega, fun q => absurd q z, fun _ => ⟨fun q => by omega, fun q => by omega, fun q => by omega⟩⟩
        · have hc' := hc (by omega)
          rw [if_neg p2]
          have m2 : ∀ y : Int, mxi y (dep c.toNatClampNeg).toInt = y ∧ (dep c.toNatClampNeg).toInt ≤ y ∨ mxi y (dep c.toNatClampNeg).toInt = (dep c.toNatClampNeg).toInt ∧ y ≤ (dep c.toNatClampNeg).toInt := fun y => by
            unfold mxi
            split
            · exact .inr ⟨rfl, by omega⟩
            · exact .inl ⟨rfl, by omega⟩
          have m3 := m2 (mxi (dep a.toNatClampNeg).toInt (dep b.toNatClampNeg).toInt)
          exact ⟨by omega, fun q => absurd q z, fun _ => ⟨fun q => by omega, fun q => by omega, fun q => by omega⟩⟩
section MMT
variable {L : Nat} {xs : Nat → Int32} {d : Nat} {Q : mm_QQ} {mi : mm_P} {ml : mm_G} {lim : Nat × Nat} {NB ND NF : Nat}
theorem sx_add7 {dep : Nat → Int32} {k a b c e : Int32} (h35 : mi 3 5 = nI ND) (hND : ND ≤ 200) (h5 : ∀ n, n < ND → mi 5 n = dep n) (hd : ∀ n, n < ND → 1 ≤ (dep n).toInt ∧ (dep n).toInt ≤ 12) (hk : 0 ≤ k.toInt ∧ k.toInt ≤ 14) (h14 : k = 14 → ndN ND b) (hps : ¬ k = 14 → PS ND k a b c) (hfull : ND = 200 → Q (some (mm_I (-4))) mi ml) (hnew : ND < 200 → ∀ v : Int32, v.toInt = NDP dep k a b c → Q (some (mm_I (nI ND))) (A7 mi ND k v a b c e) ml) : mm_cq (mm_call mm_ms (mm_tb L xs) (d + 4)) 102 [mm_R 3, mm_I k, mm_I a, mm_I b, mm_I c, mm_I e] mi ml Q := by
  have hlt : mi 3 5 < 200 → ND < 200 := fun z => by
    have := mm_ltI z
    rw [h35, mm_tI (by omega), mm_tt200] at this
    omega
  have e4 : ND < 200 → mi 3 5 * 4 = nI (4 * ND) := fun z => by
    rw [h35]
    refine Int32.toInt_inj.mp ?_
    rw [mm_m4e (by rw [mm_tI (by omega)]; omega), mm_tI (by omega), mm_tI (by omega)]
    omega
  have ea : ∀ j, j ≤ 4 → ∀ q : Int32, q = nI j → ND < 200 → nI (4 * ND) + q = nI (4 * ND + j) := fun j hj q hq z => by rw [hq, nI_a (by omega)]
  refine en_X7_add (bk_X7_add_0 (mm_call_m _) (fun z _ => ?_) (fun z _ => ?_) (fun z z2 => ?_) (fun z => hfull ?_))
  · rw [h35]
    exact vp_in_nI (hlt z) (by decide)
  · have hl := hlt z
    rw [e4 hl, h35, nI_clamp (by omega)]
    refine sx_depthOver (dep := dep) ((mm_u_e (by decide)).trans h35) hND (fun n hn => (mm_u_e (by decide)).trans (h5 n hn)) hd hk h14 hps (fun v hv => ?_)
    have v0 : ∀ j, j < 4 → vp_in (nI (4 * ND + j)) 800 := fun j hj => vp_in_nI (by omega) (by decide)
    have h1 := ea 1 (by decide) 1 rfl hl
    have h2 := ea 2 (by decide) 2 rfl hl
    have h3 := ea 3 (by decide) 3 rfl hl
    refine bk_X7_add_63 (mm_call_m _) (vp_in_nI hl (by decide)) (v0 0 (by decide)) (by rw [h1]; exact v0 1 (by decide)) (by rw [h2]; exact v0 2 (by decide)) (by rw [h3]; exact v0 3 (by decide)) ?_
    rw [h1, h2, h3, nI_clamp (by omega), nI_clamp (by omega), nI_clamp (by omega), nI_clamp (by omega), nI_clamp (by omega), mm_u_e (by decide), h35, show nI ND + 1 = nI (ND + 1) from (nI_succ ND).symm]
    exact hnew hl v hv
  · exfalso
    have hl := hlt z
    rw [e4 hl, ea 3 (by decide) 3 rfl hl] at z2
    have := mm_nltI z2
    rw [mm_tI (by omega), mm_tI (by omega)] at this
    omega
  · have := mm_nltI z
    rw [h35, mm_tI (by omega), mm_tt200] at this
    omega
theorem sx_X11_node {dep : Nat → Int32} {k a b c e : Int32} (hIC : mm_IC mi) (h11 : mi 1 1 = nI NB) (hNB : NB ≤ 200) (h35 : mi 3 5 = nI ND) (hND : ND ≤ 200) (h5 : ∀ n, n < ND → mi 5 n = dep n) (hd : ∀ n, n < ND → 1 ≤ (dep n).toInt ∧ (dep n).toInt ≤ 12) (hbad : ¬ okB NB ND k a b c e → Q (some (mm_I (-2))) mi ml) (hno : okB NB ND k a b c e → 12 < NDP dep k a b c → Q (some (mm_I (-3))) mi ml) (hfull : okB NB ND k a b c e → NDP dep k a b c ≤ 12 → ND = 200 → Q (some (mm_I (-4))) mi ml) (hnew : okB NB ND k a b c e → NDP dep k a b c ≤ 12 → ND < 200 → ∀ (v : Int32) n1 n2, v.toInt = NDP dep k a b c → mm_IC n1 → mm_fw mm_w_X4_fillNode (A7 mi ND k v a b c e) ml n1 n2 → Q (some (mm_I (nI ND))) n1 n2) : mm_cq (mm_call mm_ms (mm_tb L xs) (d + 20)) 144 [mm_R 0, mm_I k, mm_I a, mm_I b, mm_I c, mm_I e] mi ml Q := by
  have n1 : ∀ {P : Prop}, (1 : Int32) = 0 → P := fun z => absurd z (by decide)
  have n0 : ∀ {P : Prop}, ¬ (0 : Int32) = 0 → P := fun z => absurd rfl z
  refine en_X11_node (bk_X11_node_0 (mm_call_m _) (sx_wanted h11 hNB h35 hND (fun ok => bk_X11_node_11 (s0 := 1) (mm_call_m _) (fun _ => ?_) n1) (fun ok => bk_X11_node_11 (s0 := 0) (mm_call_m _) n0 (fun _ => hbad ok))))
  have k14 : k = 14 → ndN ND b := fun z => (ok.2.2.1 z).2.1
  have kps : ¬ k = 14 → PS ND k a b c := ok.2.2.2.2
  refine sx_depthOver h35 hND h5 hd ok.1 k14 kps (fun v hv => bk_X11_node_29 (mm_call_m _) (fun z => ?_) (fun z => hno ok ?_))
  · have z' := mm_leI z
    rw [hv, mm_tt12] at z'
    refine sx_add7 h35 hND h5 hd ok.1 k14 kps (fun q => bk_X11_node_51 (s0 := -4) (mm_call_m _) (fun _ => bk_X11_node_69 (mm_call_m _) (hfull ok z' q)) (fun q => absurd rfl q)) (fun hl v2 hv2 => bk_X11_node_51 (mm_call_m _) (fun q => ?_) (fun _ => ?_))
    · exfalso
      have := congrArg Int32.toInt q
      rw [mm_tI (by omega), mm_tn4] at this
      omega
    · have hIC' : mm_IC (A7 mi ND k v2 a b c e) := by
        unfold A7
        refine mm_IC_35 (mm_IC_n (mm_IC_n (mm_IC_n (mm_IC_n (mm_IC_n (mm_IC_n hIC ?_ ?_ ?_ ?_ ?_) ?_ ?_ ?_ ?_ ?_) ?_ ?_ ?_ ?_ ?_) ?_ ?_ ?_ ?_ ?_) ?_ ?_ ?_ ?_ ?_) ?_ ?_ ?_ ?_ ?_) (by rw [mm_tI (by omega)]; omega) <;> decide
      exact sc_X4_fillNode hIC' (fun m1 m2 hi hf => bk_X11_node_69 (mm_call_m _) (hnew ok z' hl v2 m1 m2 hv2 hi hf))
  · have := mm_nleI z
    rw [hv, mm_tt12] at this
    exact this
/-- mayBe() of the model, exact -/
theorem mayBe_149x {x1 x2 x3 x4 x5 : Int32} (hI : IM mi NB ND NF) (hk : 0 ≤ x1.toInt ∧ x1.toInt ≤ 14) (hp1 : 1 ≤ (f_parts x1).toInt) (h1 : PS ND x1 x2 x3 x4 → Q (some (mm_I 1)) mi ml) (h0 : ¬ PS ND x1 x2 x3 x4 → Q (some (mm_I 0)) mi ml) : mm_WQ (mm_call mm_ms (mm_tb L xs) (d + 2)) (mm_tb L xs) mm_m188 lim Q 149 [some (mm_R 176), some (mm_I x1), some (mm_I x2), some (mm_I x3), some (mm_I x4), some (mm_I x5), none] [mm_I (f_parts x1)] mi ml := by
  have n1 : ∀ {P : Prop}, (1 : Int32) = 0 → P := fun z => absurd z (by decide)
  have n0 : ∀ {P : Prop}, ¬ (0 : Int32) = 0 → P := fun z => absurd rfl z
  have hnd : ∀ {x : Int32}, (∀ n, n < ND → ¬ x = nI n) → ¬ ndN ND x := fun h ⟨n, n1, n2⟩ => h n n1 n2
  have h192 : ¬ PS ND x1 x2 x3 x4 → mm_WQ (mm_call mm_ms (mm_tb L xs) (d + 2)) (mm_tb L xs) mm_m188 lim Q 192 [some (mm_R 176), some (mm_I x1), some (mm_I x2), some (mm_I x3), some (mm_I x4), some (mm_I x5), some (mm_I (f_parts x1))] [] mi ml := fun z => bk_X12_mayBe_192 (mm_call_m _) (h0 z)
  have h173 : ndN ND x2 → (2 ≤ (f_parts x1).toInt → ndN ND x3) → mm_WQ (mm_call mm_ms (mm_tb L xs) (d + 2)) (mm_tb L xs) mm_m188 lim Q 173 [some (mm_R 176), some (mm_I x1), some (mm_I x2), some (mm_I x3), some (mm_I x4), some (mm_I x5), some (mm_I (f_parts x1))] [] mi ml := fun a b => by
    have h188 : (3 ≤ (f_parts x1).toInt → ndN ND x4) → mm_WQ (mm_call mm_ms (mm_tb L xs) (d + 2)) (mm_tb L xs) mm_m188 lim Q 188 [some (mm_R 176), some (mm_I x1), some (mm_I x2), some (mm_I x3), some (mm_I x4), some (mm_I x5), some (mm_I (f_parts x1))] [] mi ml := fun c => bk_X12_mayBe_188 (mm_call_m _) (h1 ⟨fun _ => a, b, c⟩)
    refine bk_X12_mayBe_173 (mm_call_m _) (fun z => h188 (fun y => ?_)) (fun z => sp_nod hI (fun n e1 e2 => bk_X12_mayBe_185 (s0 := 1) (mm_call_m _) n1 (fun _ => h188 (fun _ => ⟨n, e1, e2⟩))) (fun q => bk_X12_mayBe_185 (s0 := 0) (mm_call_m _) (fun _ => h192 (fun p => hnd q (p.2.2 ?_))) n0))
    · have := mm_ltI z
      rw [mm_tt3] at this
      omega
    · have := mm_nltI z
      rw [mm_tt3] at this
      omega
  refine bk_X12_mayBe_149 (mm_call_m _) (sp_nod hI (fun n e1 e2 => bk_X12_mayBe_156 (s0 := 1) (mm_call_m _) n1 (fun _ z => h173 ⟨n, e1, e2⟩ (fun y => ?_)) (fun _ z => sp_nod hI (fun k k1 k2 => bk_X12_mayBe_170 (s0 := 1) (mm_call_m _) n1 (fun _ => h173 ⟨n, e1, e2⟩ (fun _ => ⟨k, k1, k2⟩))) (fun q => bk_X12_mayBe_170 (s0 := 0) (mm_call_m _) (fun _ => h192 (fun p => hnd q (p.2.1 ?_))) n0))) (fun q => bk_X12_mayBe_156 (s0 := 0) (mm_call_m _) (fun _ => h192 (fun p => hnd q (p.1 hp1))) n0 n0))
  · have := mm_ltI z
    rw [mm_tt2] at this
    omega
  · have := mm_nltI z
    rw [mm_tt2] at this
    omega
theorem sx_typn {x : Int32} (hI : IM mi NB ND NF) (h1 : (x = -1 ∨ tyN NB x) → Q (some (mm_I 1)) mi ml) (h0 : ¬ (x = -1 ∨ tyN NB x) → Q (some (mm_I 0)) mi ml) : mm_cq (mm_call mm_ms (mm_tb L xs) (d + 3)) 187 [mm_R 176, mm_I x] mi ml Q :=
  en_X12_isTypeOrNone (bk_X12_isTypeOrNone_0 (mm_call_m _) (fun z => bk_X12_isTypeOrNone_13 (mm_call_m _) (h1 (.inl z))) (fun z => sp_typ hI (fun t t1 t2 => bk_X12_isTypeOrNone_10 (s0 := 1) (mm_call_m _) (fun z => absurd z (by decide)) (fun _ => bk_X12_isTypeOrNone_13 (mm_call_m _) (h1 (.inr ⟨t, t1, t2⟩)))) (fun q => bk_X12_isTypeOrNone_10 (s0 := 0) (mm_call_m _) (fun _ => h0 (fun p => by
    rcases p with p | ⟨t, t1, t2⟩
    · exact z p
    · exact q t t1 t2)) (fun z => absurd rfl z))))
theorem sx_mayBe {x1 x2 x3 x4 x5 : Int32} (hI : IM mi NB ND NF) (hk : 0 ≤ x1.toInt ∧ x1.toInt ≤ 14) (h1 : okB NB ND x1 x2 x3 x4 x5 → Q (some (mm_I 1)) mi ml) (h0 : ¬ okB NB ND x1 x2 x3 x4 x5 → Q (some (mm_I 0)) mi ml) : mm_cq (mm_call mm_ms (mm_tb L xs) (d + 4)) 188 [mm_R 176, mm_I x1, mm_I x2, mm_I x3, mm_I x4, mm_I x5] mi ml Q := by
  have n1 : ∀ {P : Prop}, (1 : Int32) = 0 → P := fun z => absurd z (by decide)
  have n0 : ∀ {P : Prop}, ¬ (0 : Int32) = 0 → P := fun z => absurd rfl z
  have ps0 : f_parts x1 = 0 → PS ND x1 x2 x3 x4 := fun q => by
    unfold PS
    rw [q, mm_tt0]
    exact ⟨fun z => absurd z (by decide), fun z => absurd z (by decide), fun z => absurd z (by decide)⟩
  have hok : ¬ x1 = 1 → ¬ x1 = 9 → ¬ x1 = 14 → PS ND x1 x2 x3 x4 → okB NB ND x1 x2 x3 x4 x5 := fun m1 m9 m14 p => ⟨hk, fun q => absurd q m1, fun q => absurd q m14, fun q => absurd q m9, fun _ => p⟩
  have hp : 1 ≤ (f_parts x1).toInt → ¬ x1 = 1 → ¬ x1 = 9 → ¬ x1 = 14 → mm_cq (mm_call mm_ms (mm_tb L xs) (d + 3)) 185 [mm_I x1] mi ml (fun o n1 n2 => mm_WQ (mm_call mm_ms (mm_tb L xs) (d + 3)) (mm_tb L xs) mm_m188 (mm_li mm_m188) Q 149 [some (mm_R 176), some (mm_I x1), some (mm_I x2), some (mm_I x3), some (mm_I x4), some (mm_I x5), none] (o.toList ++ []) n1 n2) := fun a m1 m9 m14 => sp_X12_partsOf (mayBe_149x (d := d + 1) hI hk a (fun p => h1 (hok m1 m9 m14 p)) (fun p => h0 (fun q => p (q.2.2.2.2 m14))))
  have hq : ∀ {k : Int32}, x1 = k → 1 ≤ (f_parts k).toInt → ¬ k = 1 → ¬ k = 9 → ¬ k = 14 → mm_cq (mm_call mm_ms (mm_tb L xs) (d + 3)) 185 [mm_I x1] mi ml (fun o n1 n2 => mm_WQ (mm_call mm_ms (mm_tb L xs) (d + 3)) (mm_tb L xs) mm_m188 (mm_li mm_m188) Q 149 [some (mm_R 176), some (mm_I x1), some (mm_I x2), some (mm_I x3), some (mm_I x4), some (mm_I x5), none] (o.toList ++ []) n1 n2) := fun e a m1 m9 m14 => hp (by rw [e]; exact a) (fun q => m1 (e.symm.trans q)) (fun q => m9 (e.symm.trans q)) (fun q => m14 (e.symm.trans q))
  have h143 : ¬ okB NB ND x1 x2 x3 x4 x5 → mm_WQ (mm_call mm_ms (mm_tb L xs) (d + 3)) (mm_tb L xs) mm_m188 (mm_li mm_m188) Q 143 [some (mm_R 176), some (mm_I x1), some (mm_I x2), some (mm_I x3), some (mm_I x4), some (mm_I x5), none] [] mi ml := fun z => bk_X12_mayBe_143 (mm_call_m _) (h0 z)
  have hl : ∀ {k : Int32}, x1 = k → f_parts k = 0 → ¬ k = 1 → ¬ k = 9 → ¬ k = 14 → okB NB ND x1 x2 x3 x4 x5 := fun e a m1 m9 m14 => hok (fun q => m1 (e.symm.trans q)) (fun q => m9 (e.symm.trans q)) (fun q => m14 (e.symm.trans q)) (ps0 (by rw [e]; exact a))
  refine en_X12_mayBe (bk_X12_mayBe_0 (mm_call_m _) (fun z => h1 (hl z (by decide) (by decide) (by decide) (by decide))) (fun z => ?_) (fun z => h1 (hl z (by decide) (by decide) (by decide) (by decide))) (fun z => hq z (by decide) (by decide) (by decide) (by decide)) (fun z => hq z (by decide) (by decide) (by decide) (by decide)) (fun z => hq z (by decide) (by decide) (by decide) (by decide)) (fun z => hq z (by decide) (by decide) (by decide) (by decide)) (fun z => hq z (by decide) (by decide) (by decide) (by decide)) (fun z => hq z (by decide) (by decide) (by decide) (by decide)) (fun z => ?_) (fun z => hq z (by decide) (by decide) (by decide) (by decide)) (fun z => hq z (by decide) (by decide) (by decide) (by decide)) (fun z => hq z (by decide) (by decide) (by decide) (by decide)) (fun z => hq z (by decide) (by decide) (by decide) (by decide)) (fun z => ?_) (fun z0 z1 z2 z3 z4 z5 z6 z7 z8 z9 z10 z11 z12 z13 z14 => ?_))
  · have z' : x1 = 1 := z
    refine sp_in (fun a b => bk_X12_mayBe_84 (s0 := 1) (mm_call_m _) (.inr rfl) (h1 ⟨hk, fun _ => ?_, fun q => ?_, fun q => ?_, fun _ => ps0 (by rw [z']; decide)⟩)) (fun w => bk_X12_mayBe_84 (s0 := 0) (mm_call_m _) (.inl rfl) (h0 (fun p => w ?_)))
    · rw [mm_tt0] at a
      rw [mm_tt1] at b
      rcases (show x2.toInt = 0 ∨ x2.toInt = 1 by omega) with q | q
      · exact .inl (Int32.toInt_inj.mp q)
      · exact .inr (Int32.toInt_inj.mp q)
    · rw [z'] at q
      exact absurd q (by decide)
    · rw [z'] at q
      exact absurd q (by decide)
    · rcases p.2.1 z' with q | q <;> rw [q] <;> decide
  · have z' : x1 = 9 := z
    refine sp_typ hI (fun t t1 t2 => bk_X12_mayBe_90 (s0 := 1) (mm_call_m _) (.inr rfl) (h1 ⟨hk, fun q => ?_, fun q => ?_, fun _ => ⟨t, t1, t2⟩, fun _ => ps0 (by rw [z']; decide)⟩)) (fun w => bk_X12_mayBe_90 (s0 := 0) (mm_call_m _) (.inl rfl) (h0 (fun p => ?_)))
    · rw [z'] at q
      exact absurd q (by decide)
    · rw [z'] at q
      exact absurd q (by decide)
    · obtain ⟨t, t1, t2⟩ := p.2.2.2.1 z'
      exact w t t1 t2
  · have z' : x1 = 14 := z
    have h11 : (11 : Int32).toInt = 11 := rfl
    have hb : (¬ ((0 ≤ x2.toInt ∧ x2.toInt < 12) ∧ ndN ND x3 ∧ (x4 = -1 ∨ tyN NB x4) ∧ (x5 = -1 ∨ tyN NB x5) ∧ (x4 = -1 → x5 = -1))) → ¬ okB NB ND x1 x2 x3 x4 x5 := fun w p => w (p.2.2.1 z')
    have hg : ((0 ≤ x2.toInt ∧ x2.toInt < 12) ∧ ndN ND x3 ∧ (x4 = -1 ∨ tyN NB x4) ∧ (x5 = -1 ∨ tyN NB x5) ∧ (x4 = -1 → x5 = -1)) → okB NB ND x1 x2 x3 x4 x5 := fun w => ⟨hk, fun q => by rw [z'] at q; exact absurd q (by decide), fun _ => w, fun q => by rw [z'] at q; exact absurd q (by decide), fun q => absurd z' q⟩
    refine sp_in (fun a b => bk_X12_mayBe_98 (s0 := 1) (mm_call_m _) n1 (fun _ => sp_nod hI (fun p p1 p2 => bk_X12_mayBe_106 (s0 := 1) (mm_call_m _) n1 (fun _ => sx_typn hI (fun t => bk_X12_mayBe_115 (s0 := 1) (mm_call_m _) n1 (fun _ => sx_typn hI (fun u => ?_) (fun u => bk_X12_mayBe_124 (s0 := 0) (mm_call_m _) (fun _ => h143 (hb (fun w => u w.2.2.2.1))) n0 n0 n0))) (fun t => bk_X12_mayBe_115 (s0 := 0) (mm_call_m _) (fun _ => h143 (hb (fun w => t w.2.2.1))) n0))) (fun q => bk_X12_mayBe_106 (s0 := 0) (mm_call_m _) (fun _ => h143 (hb (fun w => by obtain ⟨n, e1, e2⟩ := w.2.1; exact q n e1 e2))) n0))) (fun q => bk_X12_mayBe_98 (s0 := 0) (mm_call_m _) (fun _ => h143 (hb (fun w => q (by rw [mm_tt0, h11]; omega)))) n0)
    rw [mm_tt0] at a
    rw [h11] at b
    have h139 : (x4 = -1 → x5 = -1) → mm_WQ (mm_call mm_ms (mm_tb L xs) (d + 3)) (mm_tb L xs) mm_m188 (mm_li mm_m188) Q 139 [some (mm_R 176), some (mm_I x1), some (mm_I x2), some (mm_I x3), some (mm_I x4), some (mm_I x5), none] [] mi ml := fun c => bk_X12_mayBe_139 (mm_call_m _) (h1 (hg ⟨⟨a, by omega⟩, ⟨p, p1, p2⟩, t, u, c⟩))
    exact bk_X12_mayBe_124 (s0 := 1) (mm_call_m _) n1 (fun _ y => h139 (fun w => absurd w y)) (fun _ y y2 => h143 (hb (fun w => y2 (w.2.2.2.2 y)))) (fun _ _ y => h139 (fun _ => y))
  · exfalso
    obtain ⟨q, rfl, q2, -, -⟩ := mm_of (n := 15) hk.1 (by omega)
    rcases (show q = 0 ∨ q = 1 ∨ q = 2 ∨ q = 3 ∨ q = 4 ∨ q = 5 ∨ q = 6 ∨ q = 7 ∨ q = 8 ∨ q = 9 ∨ q = 10 ∨ q = 11 ∨ q = 12 ∨ q = 13 ∨ q = 14 by omega) with rfl | rfl | rfl | rfl | rfl | rfl | rfl | rfl | rfl | rfl | rfl | rfl | rfl | rfl | rfl
    · exact z0 rfl
    · exact z1 rfl
    · exact z2 rfl
    · exact z3 rfl
    · exact z4 rfl
    · exact z5 rfl
    · exact z6 rfl
    · exact z7 rfl
    · exact z8 rfl
    · exact z9 rfl
    · exact z10 rfl
    · exact z11 rfl
    · exact z12 rfl
    · exact z13 rfl
    · exact z14 rfl
end MMT
