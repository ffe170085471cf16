/-! ===== wrong(): class and model find the same node ===== -/
theorem LW_c {P R : Nat → Prop} {v : Int32} (e : ∀ n, P n ↔ R n) (h : LW P v) : LW R v := by
  rcases h with ⟨a, b⟩ | ⟨n, n0, n1, n2, n3⟩
  · exact .inl ⟨a, fun n q => b n ((e n).mpr q)⟩
  · exact .inr ⟨n, n0, n1, (e n).mp n2, fun k hk q => n3 k hk ((e k).mpr q)⟩
theorem least_of {P : Nat → Prop} : ∀ (b n : Nat), n < b → P n → ∃ k, k ≤ n ∧ P k ∧ ∀ j, j < k → ¬ P j := by
  intro b
  induction b with
  | zero => exact fun n h => absurd h (Nat.not_lt_zero _)
  | succ b ih =>
    intro n hn hp
    by_cases h : ∃ j, j < n ∧ P j
    · obtain ⟨j, j1, j2⟩ := h
      obtain ⟨k, k1, k2, k3⟩ := ih j (by omega) j2
      exact ⟨k, by omega, k2, k3⟩
    · exact ⟨n, Nat.le_refl _, hp, fun j hj hq => h ⟨j, hj, hq⟩⟩
/-- it is enough to look at those of which the least is one -/
theorem LW_sub {P R : Nat → Prop} {v : Int32} (h0 : ∀ n, R n → P n) (h1 : ∀ n, P n → (∀ k, k < n → ¬ P k) → R n) (h : LW R v) : LW P v := by
  rcases h with ⟨a, b⟩ | ⟨n, n0, n1, n2, n3⟩
  · refine .inl ⟨a, fun n q => ?_⟩
    obtain ⟨k, -, k2, k3⟩ := least_of (n + 1) n (Nat.lt_succ_self n) q
    exact b k (h1 k k2 k3)
  · refine .inr ⟨n, n0, n1, h0 n n2, fun j hj q => ?_⟩
    obtain ⟨k, k1, k2, k3⟩ := least_of (j + 1) j (Nat.lt_succ_self j) q
    exact n3 k (by omega) (h1 k k2 k3)
theorem MF_P {c0 : Nat} {m n : mm_P} (h : MF c0 m n) (hc : c0 = 198 ∨ c0 = 199 ∨ c0 = 200) : PR m n := PR_mf h hc
section MWR
variable {NB ND NF : Nat} {m w : mm_P} {ml : mm_G} {f b n p : Nat}
theorem kf_part {i : Nat} (hI : IM m NB ND NF) (hN : NC ND m) (hn : n < ND) (hi : (i : Int) < (f_parts (m 188 n)).toInt) : k_part m n i = f_part m n (nI i) := by
  obtain ⟨e4, e5, e0, e1, e2, e3⟩ := hN.2 n hn
  have hp := f_parts_in (m 188 n)
  have hp3 : (f_parts (m 188 n)).toInt ≤ 3 := by rcases hp with hp | hp | hp | hp <;> (rw [hp]; decide)
  unfold k_part f_part
  rw [e4]
  by_cases k : m 188 n = 14
  · rw [if_pos k, if_pos k]
    exact e1 (.inr k)
  · rw [if_neg k, if_neg k]
    rcases (show i = 0 ∨ i = 1 ∨ i = 2 by omega) with rfl | rfl | rfl
    · rw [if_pos (show nI 0 = 0 from rfl)]
      refine e0 (fun z => ?_)
      rw [z, show f_parts 2 = 0 from by decide, mm_tt0] at hi
      omega
    · rw [if_neg (by decide), if_pos (show nI 1 = 1 from rfl)]
      exact e1 (.inl (by omega))
    · rw [if_neg (by decide), if_neg (by decide)]
      exact e2 (.inl (by omega))
/-- nodes are at most 12 deep, their parts less -/
theorem dep_of (hI : IM m NB ND NF) (hN : NC ND m) : ∀ q, q < ND → (1 ≤ (m 5 q).toInt ∧ (m 5 q).toInt ≤ 12) ∧ ∀ i : Nat, (i : Int) < (f_parts (m 4 q)).toInt → (m 5 (k_part m q i).toNatClampNeg).toInt < (m 5 q).toInt := by
  intro q hq
  have hND := hI.1.2.1
  have ok := hI.2.2.2.2.1 q hq
  obtain ⟨e4, e5, -⟩ := hN.2 q hq
  refine ⟨by rw [e5]; exact ok.2.1, fun i hi => ?_⟩
  rw [e4] at hi
  have hp := f_parts_in (m 188 q)
  have hp3 : (f_parts (m 188 q)).toInt ≤ 3 := by rcases hp with hp | hp | hp | hp <;> (rw [hp]; decide)
  have ei : (nI i).toInt = i := mm_tI (by omega)
  obtain ⟨p, p1, p2, p3⟩ := f_part_r (i := nI i) ok (by omega) (by omega)
  rw [kf_part hI hN hq hi, p2, nI_clamp (by omega), e5, (hN.2 p (by omega)).2.1]
  exact p3
/-- marked are the nodes under the body -/
theorem mb_blw (hI : IM m NB ND NF) (hN : NC ND m) (h8 : ∀ c i, 188 ≤ c → c ≤ 197 → w c i = m c i) (hM : MC ND w 0) : ∀ (k n : Nat), n < ND → ¬ w 199 n = 0 → blw m k n p → ¬ w 199 p = 0 := by
  intro k
  induction k with
  | zero =>
    intro n _ h1 h
    have h' : p = n := h
    rw [h']
    exact h1
  | succ k ih =>
    intro n hn h1 h
    have hND := hI.1.2.1
    rcases h with h | ⟨i, i1, h⟩
    · rw [h]
      exact h1
    · have i1' := i1
      rw [(hN.2 n hn).1] at i1'
      have hp := f_parts_in (m 188 n)
      have hp3 : (f_parts (m 188 n)).toInt ≤ 3 := by rcases hp with hp | hp | hp | hp <;> (rw [hp]; decide)
      have ei : (nI i).toInt = i := mm_tI (by omega)
      rw [kf_part hI hN hn i1'] at h
      obtain ⟨q, q1, q2, -⟩ := f_part_r (i := nI i) (hI.2.2.2.2.1 n hn) (by omega) (by omega)
      have h2 := hM n (Nat.zero_le _) hn h1 (nI i) (by omega) (by rw [h8 188 n (by decide) (by decide)]; omega)
      rw [f_part_c h8, q2, nI_clamp (by omega)] at h2
      rw [q2, nI_clamp (by omega)] at h
      exact ih q (by omega) h2 h
theorem isIn_iff (hI : IM m NB ND NF) (hN : NC ND m) (h8 : ∀ c i, 188 ≤ c → c ≤ 197 → w c i = m c i) (hb : b < ND) (hfb : m 197 f = nI b) (hS : SI (fun p => BL m b p) ND w) (hM : MB ND w f) (hp : p < ND) : ¬ w 199 p = 0 ↔ BL m b p :=
  ⟨hS p hp, fun ⟨k, h⟩ => mb_blw hI hN h8 hM.2 k b hb (hM.1 b hb ((h8 197 f (by decide) (by decide)).trans hfb)) h⟩
theorem BL_cl (hI : IM m NB ND NF) (hN : NC ND m) (h8 : ∀ c i, 188 ≤ c → c ≤ 197 → w c i = m c i) (q : Nat) (hq : q < ND) (h : BL m b q) (i : Int32) (i0 : 0 ≤ i.toInt) (i1 : i.toInt < (f_parts (w 188 q)).toInt) : BL m b (f_part w q i).toNatClampNeg := by
  rw [h8 188 q (by decide) (by decide)] at i1
  have hp := f_parts_in (m 188 q)
  have hp3 : (f_parts (m 188 q)).toInt ≤ 3 := by rcases hp with hp | hp | hp | hp <;> (rw [hp]; decide)
  obtain ⟨k, ek, k1, k2, -⟩ := mm_of i0 (show i.toInt < 3 by omega)
  have hk : (nI k).toInt = k := mm_tI (by omega)
  rw [ek, hk] at i1
  rw [f_part_c h8, ek, ← kf_part hI hN hq i1]
  exact BL_t h (BL_p (by rw [(hN.2 q hq).1]; exact i1) BL_r)
end MWR
/-- n is marked, has no type, and its parts have -/
def WRM (m : mm_P) (n : Nat) : Prop := (¬ m 199 n = 0 ∧ m 198 n = -1) ∧ ∀ i : Int32, 0 ≤ i.toInt → i.toInt < (f_parts (m 188 n)).toInt → ¬ m 198 (f_part m n i).toNatClampNeg = -1
section MMT
variable {L : Nat} {xs : Nat → Int32} {d : Nat} {Q : mm_QQ} {mi : mm_P} {ml : mm_G} {lim : Nat × Nat}
theorem wrongx_72 {n NB ND NF : Nat} {x1 : Int32} (hI : IM mi NB ND NF) (hn : n < ND) (h36 : ¬ WRM mi n → ∀ x3 x4, mm_WQ (mm_call mm_ms (mm_tb L xs) (d + 1)) (mm_tb L xs) mm_m197 (mm_li mm_m197) Q 36 [some (mm_R 176), some (mm_I x1), some (mm_I (nI n + 1)), x3, x4] [] mi ml) (hQ : WRM mi n → Q (some (mm_I (nI n))) mi ml) : ∀ (j i : Nat) {x3 : Int32}, 4 ≤ i + j → i ≤ 4 → (x3 = 0 → ¬ WRM mi n) → (¬ x3 = 0 → (¬ mi 199 n = 0 ∧ mi 198 n = -1) ∧ ∀ k : Int32, 0 ≤ k.toInt → k.toInt < (i : Int) → k.toInt < (f_parts (mi 188 n)).toInt → ¬ mi 198 (f_part mi n k).toNatClampNeg = -1) → mm_WQ (mm_call mm_ms (mm_tb L xs) (d + 1)) (mm_tb L xs) mm_m197 (mm_li mm_m197) Q 72 [some (mm_R 176), some (mm_I x1), some (mm_I (nI n)), some (mm_I x3), some (mm_I (nI i))] [] mi ml := by
  have hND := hI.1.2.1
  have vn : vp_in (nI n) 200 := vp_in_nI (by omega) (by decide)
  have en : (nI n).toNatClampNeg = n := nI_clamp (by omega)
  have hp := f_parts_in (mi 188 n)
  have hp3 : (f_parts (mi 188 n)).toInt ≤ 3 := by rcases hp with hp | hp | hp | hp <;> (rw [hp]; decide)
  intro j
  induction j with
  | zero =>
    intro i x3 h1 h2 hz hnz
    have ei : (nI i).toInt = i := mm_tI (by omega)
    refine bk_X12_wrong_72 (mm_call_m _) vn ?_
    rw [en]
    have hle : f_parts (mi 188 n) ≤ nI i := by rw [Int32.le_iff_toInt_le, ei]; omega
    exact sp_X12_partsOf (bk_X12_wrong_83 (mm_call_m _) (fun _ y => h36 (hz y) _ _) (fun _ y => hQ ⟨(hnz y).1, fun k k0 k1 => (hnz y).2 k k0 (by omega) k1⟩) (fun z => absurd hle z) (fun z => absurd hle z))
  | succ j ih =>
    intro i x3 h1 h2 hz hnz
    have ei : (nI i).toInt = i := mm_tI (by omega)
    have es : nI i + 1 = nI (i + 1) := (nI_succ i).symm
    refine bk_X12_wrong_72 (mm_call_m _) vn ?_
    rw [en]
    have hlt : ¬ f_parts (mi 188 n) ≤ nI i → (i : Int) < (f_parts (mi 188 n)).toInt := fun z => by
      rw [Int32.le_iff_toInt_le, ei] at z
      omega
    have h72z : ¬ f_parts (mi 188 n) ≤ nI i → ¬ WRM mi n → mm_WQ (mm_call mm_ms (mm_tb L xs) (d + 1)) (mm_tb L xs) mm_m197 (mm_li mm_m197) Q 110 [some (mm_R 176), some (mm_I x1), some (mm_I (nI n)), some (mm_I x3), some (mm_I (nI i))] [] mi ml := fun z y => by
      have := hlt z
      refine bk_X12_wrong_110 (mm_call_m _) ?_
      rw [es]
      exact ih (i + 1) (by omega) (by omega) (fun _ => y) (fun q => absurd rfl q)
    refine sp_X12_partsOf (bk_X12_wrong_83 (mm_call_m _) (fun _ y => h36 (hz y) _ _) (fun z y => hQ ⟨(hnz y).1, fun k k0 k1 => (hnz y).2 k k0 (by have := mm_leI z; omega) k1⟩) (fun z y => h72z z (hz y)) (fun z y => ?_))
    have z' := hlt z
    obtain ⟨p, p1, p2, -⟩ := f_part_r (i := nI i) (hI.2.2.2.2.1 n hn) (by omega) (by omega)
    refine sp_X12_partOf (by omega) (bk_X12_wrong_101 (mm_call_m _) ?_ (fun u => h72z z (fun q => q.2 (nI i) (by omega) (by omega) u)) (fun u => ?_))
    · rw [p2]
      exact vp_in_nI (by omega) (by decide)
    · rw [es]
      refine ih (i + 1) (by omega) (by omega) (fun q => absurd q (by decide)) (fun _ => ⟨(hnz y).1, fun k k0 k1 k2 => ?_⟩)
      by_cases hk : k = nI i
      · rw [hk]
        exact u
      · exact (hnz y).2 k k0 (by
          have : ¬ k.toInt = (nI i).toInt := fun y => hk (Int32.toInt_inj.mp y)
          omega) k2
theorem wrongx_36 {NB ND NF : Nat} {x1 : Int32} (hI : IM mi NB ND NF) (hQ : ∀ v, LW (fun n => n < ND ∧ WRM mi n) v → Q (some (mm_I v)) mi ml) : ∀ (j n : Nat) {x3 x4 : Option mm_V}, n + j = ND → (∀ k, k < n → ¬ WRM mi k) → mm_WQ (mm_call mm_ms (mm_tb L xs) (d + 1)) (mm_tb L xs) mm_m197 (mm_li mm_m197) Q 36 [some (mm_R 176), some (mm_I x1), some (mm_I (nI n)), x3, x4] [] mi ml := by
  have hND := hI.1.2.1
  have e13 := (ix hI).1
  intro j
  induction j with
  | zero =>
    intro n x3 x4 h hL
    have hn : n = ND := by omega
    subst hn
    have hle : mi 176 13 ≤ nI n := by rw [hI.2.1.2.1]; exact Int32.le_refl _
    exact bk_X12_wrong_36 (mm_call_m _) (fun _ => hQ _ (.inl ⟨rfl, fun k q => hL k q.1 q.2⟩)) (fun z => absurd hle z) (fun z => absurd hle z) (fun z => absurd hle z) (fun z => absurd hle z) (fun z => absurd hle z)
  | succ j ih =>
    intro n x3 x4 h hL
    have hlt : ¬ mi 176 13 ≤ nI n := by
      rw [Int32.le_iff_toInt_le, e13, mm_tI (by omega)]
      omega
    have vn : vp_in (nI n) 200 := vp_in_nI (by omega) (by decide)
    have en : (nI n).toNatClampNeg = n := nI_clamp (by omega)
    have es : nI n + 1 = nI (n + 1) := (nI_succ n).symm
    have h36 : ¬ WRM mi n → ∀ x3 x4, mm_WQ (mm_call mm_ms (mm_tb L xs) (d + 1)) (mm_tb L xs) mm_m197 (mm_li mm_m197) Q 36 [some (mm_R 176), some (mm_I x1), some (mm_I (nI n + 1)), x3, x4] [] mi ml := fun y x3 x4 => by
      rw [es]
      refine ih (n + 1) (by omega) (fun k hk => ?_)
      by_cases hkn : k = n
      · rw [hkn]
        exact y
      · exact hL k (by omega)
    have hf : WRM mi n → Q (some (mm_I (nI n))) mi ml := fun y => hQ _ (.inr ⟨n, by omega, rfl, ⟨by omega, y⟩, fun k hk q => hL k hk q.2⟩)
    have h67 : ∀ {x3 x4 : Option mm_V}, ¬ WRM mi n → mm_WQ (mm_call mm_ms (mm_tb L xs) (d + 1)) (mm_tb L xs) mm_m197 (mm_li mm_m197) Q 67 [some (mm_R 176), some (mm_I x1), some (mm_I (nI n)), x3, x4] [] mi ml := fun {x3 x4} y => bk_X12_wrong_67 (mm_call_m _) (wrongx_72 hI (by omega) h36 hf 4 0 (by omega) (by omega) (fun _ => y) (fun q => absurd rfl q))
    refine bk_X12_wrong_36 (mm_call_m _) (fun z => absurd z hlt) (fun _ => vn) (fun _ z => ?_) (fun _ _ => vn) (fun _ _ z => ?_) (fun _ y z => ?_) <;> rw [en] at z
    · exact h67 (fun q => q.1.1 z)
    · exact h67 (fun q => z q.1.2)
    · rw [en] at y
      exact wrongx_72 hI (by omega) h36 hf 4 0 (by omega) (by omega) (fun q => absurd q (by decide)) (fun _ => ⟨⟨y, z⟩, fun k k0 k1 => by omega⟩)
/-- what the model answers -/
theorem mx_wrong {x1 v : Int32} {NF : Nat} {Q' : Int32 → Int32 → mm_P → mm_G → Prop} (h97 : mi 9 7 = nI NF) (hNF : NF ≤ 12) (hCJ : CJ mi ml) (h2 : (∀ f, f < NF → ¬ x1 = nI f) → v = -2) (h3 : ∀ f, f < NF → x1 = nI f → mi 15 f = -1 → v = -3) (h1 : ∀ f b, f < NF → x1 = nI f → b < 200 → mi 15 f = nI b → LW (fun n => BL mi b n ∧ ml (19 + f) n = -1) v) (hQ : ∀ v n m2, CJ n m2 → Q' v v n m2) : mm_cq (mm_call mm_ms (mm_tb L xs) (d + 20)) 197 [mm_R 176, mm_I x1] mi ml (fun o2 n3 n4 => ∃ v2, o2 = some (mm_I v2) ∧ Q' v v2 n3 n4) := by
  obtain ⟨hIC, ⟨NB, ND, NF', hI, hT, hN, hF⟩, h51, h41, hin⟩ := id hCJ.1
  have hNB := hI.1.1
  have hND := hI.1.2.1
  have hNF' := hI.1.2.2
  have eNF : NF' = NF := nI_inj (by omega) (by omega) (hF.1.symm.trans h97)
  subst eNF
  have hJ := hCJ.2 ND NF' hN.1 hF.1 hND hNF'
  have n1 : ∀ {P : Prop}, (1 : Int32) = 0 → P := fun z => absurd z (by decide)
  have n0 : ∀ {P : Prop}, ¬ (0 : Int32) = 0 → P := fun z => absurd rfl z
  refine en_X12_wrong (bk_X12_wrong_0 (mm_call_m _) (sp_fun hI (fun f f1 f2 => ?_) (fun q => bk_X12_wrong_5 (s0 := 0) (mm_call_m _) n0 n0 n0 (fun _ => ⟨-2, rfl, ?_⟩))))
  · have ef : (nI f).toNatClampNeg = f := nI_clamp (by omega)
    have h15 : mi 15 f = mi 197 f := (hF.2 f f1).2.2.2.1
    refine bk_X12_wrong_5 (s0 := 1) (mm_call_m _) (fun _ => by rw [f2]; exact vp_in_nI (by omega) (by decide)) (fun _ z => ?_) (fun _ z => ⟨-3, rfl, ?_⟩) n1 <;> rw [f2, ef] at z
    · obtain ⟨b, b1, b2⟩ := (hI.2.2.2.2.2.1 f f1).2.2.2.resolve_left z
      have hv := h1 f b f1 f2 (by omega) (h15.trans b2)
      rw [f2]
      refine sx_goThrough (JT_XS hI hT hN hF hJ f1) (fun w TY hG => bk_X12_wrong_29 (mm_call_m _) ?_)
      have h8 : ∀ c i, 188 ≤ c → c ≤ 197 → w c i = mi c i := fun c i p q => hG.1 c i (pg_nod p q)
      refine sx_mark (IM_c hI hG.1) f1 (S := fun p => BL mi b p) (fun q q1 q2 i i0 i1 => BL_cl hI hN h8 q q1 q2 i i0 i1) (fun b' b1' b2' => ?_) (fun w2 g1 gS gM => bk_X12_wrong_34 (mm_call_m _) ?_)
      · have : b = b' := nI_inj (by omega) (by omega) (b2.symm.trans ((h8 197 f (by decide) (by decide)).symm.trans b2'))
        rw [← this]
        exact BL_r
      have hpw : PR mi w2 := PR_t hG.1 (PR_mf g1 (by omega))
      have h8' : ∀ c i, 188 ≤ c → c ≤ 197 → w2 c i = mi c i := fun c i p q => hpw c i (pg_nod p q)
      have hI2 := IM_c hI hpw
      have hin' : ∀ p, p < ND → (¬ w2 199 p = 0 ↔ BL mi b p) := fun p hp => isIn_iff hI hN h8' b1 b2 gS gM hp
      have hty : ∀ p, p < ND → (w2 198 p = -1 ↔ ml (19 + f) p = -1) := fun p hp => by
        rw [g1 198 p (by decide)]
        rcases hG.2.2.2.1 p hp with ⟨q1, q2⟩ | ⟨r, q1, q2, q3, q4⟩
        · exact ⟨fun _ => q2, fun _ => q1⟩
        · have := vd_lt q2 hNB.2 hG.2.1.1.2.1.2
          have hr0 := (SHV_r (TX_W hG.2.1) q2 q3).1.1
          rw [q4] at hr0
          exact ⟨fun y => absurd (q1.symm.trans y) (nI_ne (by omega)), fun y => by rw [y, mm_lln] at hr0; omega⟩
      have hle : ∀ p, BL mi b p → p < ND := fun p hp => by
        have := BL_le hND (fun q hq => okK_of hI hN hq) b1 hp
        omega
      refine wrongx_36 hI2 (fun v2 hv2 => ⟨v2, rfl, ?_⟩) ND 0 (by omega) (fun k hk => absurd hk (Nat.not_lt_zero _))
      have hL := LW_sub (P := fun n => BL mi b n ∧ ml (19 + f) n = -1) (fun n q => ⟨(hin' n q.1).mp q.2.1.1, (hty n q.1).mp q.2.1.2⟩) (fun n q q2 => ?_) hv2
      · rw [LW_u (fun _ => Iff.rfl) hv hL]
        exact hQ _ _ _ (CJ_p hCJ hpw)
      · have hn := hle n q.1
        refine ⟨hn, ⟨(hin' n hn).mpr q.1, (hty n hn).mpr q.2⟩, fun i i0 i1 y => ?_⟩
        obtain ⟨p, p1, p2, -⟩ := f_part_r (hI2.2.2.2.2.1 n hn) i0 i1
        have hbl := BL_cl hI hN h8' n hn q.1 i i0 i1
        rw [p2, nI_clamp (by omega)] at y hbl
        exact q2 p p1 ⟨hbl, (hty p (by omega)).mp y⟩
    · rw [h3 f f1 f2 (h15.trans z)]
      exact hQ _ _ _ hCJ
  · rw [h2 q]
    exact hQ _ _ _ hCJ
theorem IC_mw {m w : mm_P} {c : Nat} (h : mm_IC m) (hM : MW m w) (h36 : w 3 6 = nI c) (hc : c ≤ 200) : mm_IC w := by
  unfold mm_IC
  rw [hM 1 1 (by decide) (by decide) (by decide), hM 3 5 (by decide) (by decide) (by decide), h36, hM 9 7 (by decide) (by decide) (by decide), hM 31 12 (by decide) (by decide) (by decide), hM 160 1 (by decide) (by decide) (by decide), mm_tI (by omega)]
  exact ⟨h.1, h.2.1, ⟨by omega, by omega⟩, h.2.2.2⟩
theorem CJ_mw {m w : mm_P} {c : Nat} (h : CJ m ml) (hM : MW m w) (h36 : w 3 6 = nI c) (hc : c ≤ 200) : CJ w ml :=
  CJ_c h (CO_c h.1 (IC_mw h.1.1 hM h36 hc) (fun a i q => hM a i (by unfold stC stM at q; omega) (by unfold stC stM at q; omega) (by unfold stC stM at q; omega)) (by rw [hM 176 51 (by decide) (by decide) (by decide)]; exact h.1.2.2.1) (fun _ _ _ => rfl)) (hM 3 5 (by decide) (by decide) (by decide)) (hM 9 7 (by decide) (by decide) (by decide)) (fun a i q => hM a i (by omega) (by omega) (by omega)) (fun _ _ _ => rfl) (fun _ _ _ _ _ => rfl)
theorem sx_bodyOf {f NF : Nat} (h97 : mi 9 7 = nI NF) (hNF : NF ≤ 12) (hf : f < NF) (h : Q (some (mm_I (mi 15 f))) mi ml) : mm_cq (mm_call mm_ms (mm_tb L xs) (d + 2)) 28 [mm_R 9, mm_I (nI f)] mi ml Q := by
  have ef : (nI f).toNatClampNeg = f := nI_clamp (by omega)
  refine en_X2_bodyOf (bk_X2_bodyOf_0 (mm_call_m _) (sx_has2 h97 hNF (fun t t1 t2 => bk_X2_bodyOf_5 (s0 := 1) (mm_call_m _) (fun z => absurd z (by decide)) (fun _ => vp_in_nI (by omega) (by decide)) (fun _ => ?_)) (fun q => absurd rfl (q f hf))))
  rw [ef]
  exact h
theorem lx_wrong {x1 : Int32} {Q' : Int32 → Int32 → mm_P → mm_G → Prop} (hCJ : CJ mi ml) (hQ : ∀ v n m2, CJ n m2 → Q' v v n m2) : mm_cq (mm_call mm_ms (mm_tb L xs) (d + 20)) 151 [mm_R 0, mm_I x1] mi ml (fun o n1 n2 => ∃ v, o = some (mm_I v) ∧ mm_cq (mm_call mm_ms (mm_tb L xs) (d + 20)) 197 [mm_R 176, mm_I x1] n1 n2 (fun o2 n3 n4 => ∃ v2, o2 = some (mm_I v2) ∧ Q' v v2 n3 n4)) := by
  obtain ⟨hIC, ⟨NB, ND, NF, hI, hT, hN, hF⟩, h51, h41, hin⟩ := id hCJ.1
  have hNB := hI.1.1
  have hND := hI.1.2.1
  have hNF := hI.1.2.2
  have hK := KW_of hI hT hN hF
  have n1 : ∀ {P : Prop}, (1 : Int32) = 0 → P := fun z => absurd z (by decide)
  have n0 : ∀ {P : Prop}, ¬ (0 : Int32) = 0 → P := fun z => absurd rfl z
  refine en_X11_wrong (bk_X11_wrong_0 (mm_call_m _) (sx_has2 hF.1 hNF (fun f f1 f2 => ?_) (fun q => bk_X11_wrong_8 (s0 := 0) (mm_call_m _) n0 (fun _ => ⟨-2, rfl, mx_wrong hF.1 hNF hCJ (fun _ => rfl) (fun f f1 f2 => absurd f2 (q f f1)) (fun f b f1 f2 => absurd f2 (q f f1)) hQ⟩))))
  subst f2
  have hinj : ∀ g, g < NF → nI f = nI g → g = f := fun g g1 g2 => (nI_inj (by omega) (by omega) g2).symm
  refine bk_X11_wrong_8 (s0 := 1) (mm_call_m _) (fun _ => sx_bodyOf hF.1 hNF f1 (bk_X11_wrong_22 (mm_call_m _) (fun z => ?_) (fun z => ⟨-3, rfl, mx_wrong hF.1 hNF hCJ (fun q => absurd rfl (q f f1)) (fun _ _ _ _ => rfl) (fun g b g1 g2 b1 b2 => ?_) hQ⟩))) n1
  · have h15 : mi 15 f = mi 197 f := (hF.2 f f1).2.2.2.1
    obtain ⟨b, b1, b2⟩ := (hI.2.2.2.2.2.1 f f1).2.2.2.resolve_left (fun y => z (h15.trans y))
    have hb : mi 15 f = nI b := h15.trans b2
    refine en_X4_leastWrong (bk_X4_leastWrong_0 (mm_call_m _) (sx_bodyOf hF.1 hNF f1 (bk_X4_leastWrong_12 (mm_call_m _) ?_)))
    rw [hb]
    refine sx_meetUnder (d := d + 3) hK (fun q hq => okK_of hI hN hq) (dep_of hI hN) b1 (fun w c hM h36 hc m1 m2 => bk_X4_leastWrong_15 (mm_call_m _) (lw_19 (d := d + 16) (KW_mw hK hM) f1 h36 hc (fun i hi => ?_) (fun v hv => bk_X11_wrong_37 (mm_call_m _) ⟨v, rfl, mx_wrong (NF := NF) ?_ hNF (CJ_mw hCJ hM h36 hc) (fun q => absurd rfl (q f f1)) (fun g g1 g2 y => ?_) (fun g b' g1 g2 b1' y => ?_) hQ⟩) c 0 (-1) (by omega) (.inl ⟨rfl, fun n ⟨⟨e, e1, _⟩, _⟩ => absurd e1 (Nat.not_lt_zero _)⟩)))
    · obtain ⟨p, p1, p2⟩ := m1 i hi
      have := BL_le hND (fun q hq => okK_of hI hN hq) b1 p2
      exact ⟨p, by omega, p1⟩
    · exact (hM 9 7 (by decide) (by decide) (by decide)).trans hF.1
    · rw [hinj g g1 g2, hM 15 f (by decide) (by decide) (by omega), hb] at y
      exact absurd y (nI_ne (by omega))
    · have eg := hinj g g1 g2
      subst eg
      rw [hM 15 g (by decide) (by decide) (by omega), hb] at y
      have eb : b = b' := nI_inj (by omega) (by omega) y
      subst eb
      refine LW_c (fun n => ?_) hv
      rw [BL_c (m := mi) (fun i => hM 4 i (by decide) (by decide) (by omega)) (fun i => hM 6 i (by decide) (by decide) (by omega))]
      constructor
      · rintro ⟨⟨e, e1, e2⟩, q1, q2⟩
        obtain ⟨p, p1, p2⟩ := m1 e e1
        have hpb := BL_le hND (fun q hq => okK_of hI hN hq) b1 p2
        have : p = n := nI_inj (by omega) (by omega) (p1.symm.trans e2)
        rw [← this] at q2 ⊢
        exact ⟨p2, q2⟩
      · rintro ⟨q1, q2⟩
        obtain ⟨i, i1, i2⟩ := m2 n q1
        have hpb := BL_le hND (fun q hq => okK_of hI hN hq) b1 q1
        exact ⟨⟨i, i1, i2⟩, by omega, q2⟩
  · have eg := hinj g g1 g2
    subst eg
    rw [z] at b2
    exact absurd b2.symm (nI_ne (by omega))
end MMT
