/-! ===== node(): what it wants, how deep it is, in both ===== -/
def PS (ND : Nat) (k a b c : Int32) : Prop := (1 ≤ (f_parts k).toInt → ndN ND a) ∧ (2 ≤ (f_parts k).toInt → ndN ND b) ∧ (3 ≤ (f_parts k).toInt → ndN ND c)
def okB (NB ND : Nat) (k a b c e : Int32) : Prop := (0 ≤ k.toInt ∧ k.toInt ≤ 14) ∧ (k = 1 → a = 0 ∨ a = 1) ∧ okA NB ND k a b c e
def mxi (a b : Int) : Int := if a < b then b else a
theorem mxi_1 {a b : Int} : mxi (1 + a) (1 + b) = 1 + mxi a b := by
  unfold mxi
  split <;> split <;> omega
theorem mxi_m {x y : Int32} : (f_most x y).toInt = mxi x.toInt y.toInt := by
  unfold f_most mxi
  split
  · rename_i h
    rw [Int32.le_iff_toInt_le] at h
    split <;> omega
  · rename_i h
    rw [Int32.le_iff_toInt_le] at h
    rw [if_neg (by omega)]
theorem mxi_c {x y : Int32} : (if x < y then y else x).toInt = mxi x.toInt y.toInt := by
  unfold mxi
  by_cases h : x < y
  · rw [if_pos h, if_pos (Int32.lt_iff_toInt_lt.mp h)]
  · rw [if_neg h, if_neg (fun q => h (Int32.lt_iff_toInt_lt.mpr q))]
theorem mxi_r {a b lo hi : Int} (ha : lo ≤ a ∧ a ≤ hi) (hb : lo ≤ b ∧ b ≤ hi) : lo ≤ mxi a b ∧ mxi a b ≤ hi := by
  unfold mxi
  split <;> omega
/-- how deep a node would be -/
def NDP (dep : Nat → Int32) (k a b c : Int32) : Int := if k = 14 then 1 + (dep b.toNatClampNeg).toInt else if (f_parts k).toInt ≤ 0 then 1 else 1 + (if (f_parts k).toInt ≤ 2 then (if (f_parts k).toInt ≤ 1 then (dep a.toNatClampNeg).toInt else mxi (dep a.toNatClampNeg).toInt (dep b.toNatClampNeg).toInt) else mxi (mxi (dep a.toNatClampNeg).toInt (dep b.toNatClampNeg).toInt) (dep c.toNatClampNeg).toInt)
theorem parts_e {k : Int32} (hk : 0 ≤ k.toInt ∧ k.toInt ≤ 14) : mm_parts.getD k.toNatClampNeg 0 = f_parts k := by
  obtain ⟨q, rfl, q2, -, -⟩ := mm_of (n := 15) hk.1 (by omega)
  rcases (show q = 0 ∨ q = 1 ∨ q = 2 ∨ q = 3 ∨ q = 4 ∨ q = 5 ∨ q = 6 ∨ q = 7 ∨ q = 8 ∨ q = 9 ∨ q = 10 ∨ q = 11 ∨ q = 12 ∨ q = 13 ∨ q = 14 by omega) with rfl | rfl | rfl | rfl | rfl | rfl | rfl | rfl | rfl | rfl | rfl | rfl | rfl | rfl | rfl <;> decide
section MMT
variable {L : Nat} {xs : Nat → Int32} {d : Nat} {Q : mm_QQ} {mi : mm_P} {ml : mm_G} {lim : Nat × Nat} {NB ND : Nat}
theorem sx_parts7 {k : Int32} (hk : 0 ≤ k.toInt ∧ k.toInt ≤ 14) (h : Q (some (mm_I (f_parts k))) mi ml) : mm_cq (mm_call mm_ms (mm_tb L xs) (d + 1)) 96 [mm_R 3, mm_I k] mi ml Q :=
  sp_X7_partsOf (fun _ _ => by rw [parts_e hk]; exact h) (fun q => absurd ⟨hk.1, by omega⟩ q)
theorem sx_has7 {x : Int32} (h35 : mi 3 5 = nI ND) (hND : ND ≤ 200) (h1 : ∀ t, t < ND → x = nI t → Q (some (mm_I 1)) mi ml) (h0 : ¬ ndN ND x → Q (some (mm_I 0)) mi ml) : mm_cq (mm_call mm_ms (mm_tb L xs) (d + 1)) 92 [mm_R 3, mm_I x] mi ml Q := by
  have e : (mi 3 5).toInt = ND := by rw [h35]; exact mm_tI (by omega)
  refine sp_X7_has (fun a b _ => ?_) (fun a => h0 (fun ⟨t, ht, z⟩ => a ?_))
  · obtain ⟨t, t1, t2, t3, t4⟩ := mm_of a b
    exact h1 t (by omega) t1
  · rw [z, e, mm_tI (by omega)]
    omega
theorem sx_depthOf7 {n : Nat} (h35 : mi 3 5 = nI ND) (hND : ND ≤ 200) (hn : n < ND) (hQ : Q (some (mm_I (mi 5 n))) mi ml) : mm_cq (mm_call mm_ms (mm_tb L xs) (d + 2)) 101 [mm_R 3, mm_I (nI n)] mi ml Q := by
  refine en_X7_depthOf (bk_X7_depthOf_0 (mm_call_m _) (sx_has7 h35 hND (fun u _ _ => bk_X7_depthOf_5 (s0 := 1) (mm_call_m _) (fun z => absurd z (by decide)) (fun _ => vp_in_nI (by omega) (by decide)) (fun _ => ?_)) (fun a => absurd ⟨n, hn, rfl⟩ a)))
  rw [nI_clamp (by omega)]
  exact hQ
theorem sx_partsStand {k a b c : Int32} (h35 : mi 3 5 = nI ND) (hND : ND ≤ 200) (hk : 0 ≤ k.toInt ∧ k.toInt ≤ 14) (h1 : PS ND k a b c → Q (some (mm_I 1)) mi ml) (h0 : ¬ PS ND k a b c → Q (some (mm_I 0)) mi ml) : mm_cq (mm_call mm_ms (mm_tb L xs) (d + 2)) 99 [mm_R 3, mm_I k, mm_I a, mm_I b, mm_I c] mi ml Q := by
  have n1 : ∀ {P : Prop}, (1 : Int32) = 0 → P := fun z => absurd z (by decide)
  have n0 : ∀ {P : Prop}, ¬ (0 : Int32) = 0 → P := fun z => absurd rfl z
  have h54 : ¬ PS ND k a b c → mm_WQ (mm_call mm_ms (mm_tb L xs) (d + 1)) (mm_tb L xs) mm_m99 (mm_li mm_m99) Q 54 [some (mm_R 3), some (mm_I k), some (mm_I a), some (mm_I b), some (mm_I c), some (mm_I (f_parts k))] [] mi ml := fun z => bk_X7_partsStand_54 (mm_call_m _) (h0 z)
  have h35' : (1 ≤ (f_parts k).toInt → ndN ND a) → (2 ≤ (f_parts k).toInt → ndN ND b) → mm_WQ (mm_call mm_ms (mm_tb L xs) (d + 1)) (mm_tb L xs) mm_m99 (mm_li mm_m99) Q 35 [some (mm_R 3), some (mm_I k), some (mm_I a), some (mm_I b), some (mm_I c), some (mm_I (f_parts k))] [] mi ml := fun x y => by
    refine bk_X7_partsStand_35 (mm_call_m _) (fun z => bk_X7_partsStand_50 (mm_call_m _) (h1 ⟨x, y, fun q => ?_⟩)) (fun z => sx_has7 h35 hND (fun t t1 t2 => bk_X7_partsStand_47 (s0 := 1) (mm_call_m _) n1 (fun _ => bk_X7_partsStand_50 (mm_call_m _) (h1 ⟨x, y, fun _ => ⟨t, t1, t2⟩⟩))) (fun q => bk_X7_partsStand_47 (s0 := 0) (mm_call_m _) (fun _ => h54 (fun p => q (p.2.2 ?_))) n0))
    · have := mm_ltI z
      rw [mm_tt3] at this
      omega
    · have := mm_nltI z
      rw [mm_tt3] at this
      omega
  have h21 : (1 ≤ (f_parts k).toInt → ndN ND a) → mm_WQ (mm_call mm_ms (mm_tb L xs) (d + 1)) (mm_tb L xs) mm_m99 (mm_li mm_m99) Q 21 [some (mm_R 3), some (mm_I k), some (mm_I a), some (mm_I b), some (mm_I c), some (mm_I (f_parts k))] [] mi ml := fun x => by
    refine bk_X7_partsStand_21 (mm_call_m _) (fun z => h35' x (fun q => ?_)) (fun z => sx_has7 h35 hND (fun t t1 t2 => bk_X7_partsStand_32 (s0 := 1) (mm_call_m _) n1 (fun _ => h35' x (fun _ => ⟨t, t1, t2⟩))) (fun q => bk_X7_partsStand_32 (s0 := 0) (mm_call_m _) (fun _ => h54 (fun p => q (p.2.1 ?_))) n0))
    · have := mm_ltI z
      rw [mm_tt2] at this
      omega
    · have := mm_nltI z
      rw [mm_tt2] at this
      omega
  refine en_X7_partsStand (bk_X7_partsStand_0 (mm_call_m _) (sx_parts7 hk (bk_X7_partsStand_5 (mm_call_m _) (fun z => h21 (fun q => ?_)) (fun z => sx_has7 h35 hND (fun t t1 t2 => bk_X7_partsStand_18 (s0 := 1) (mm_call_m _) n1 (fun _ => h21 (fun _ => ⟨t, t1, t2⟩))) (fun q => bk_X7_partsStand_18 (s0 := 0) (mm_call_m _) (fun _ => h54 (fun p => q (p.1 ?_))) n0)))))
  · have := mm_ltI z
    rw [mm_tt1] at this
    omega
  · have := mm_nltI z
    rw [mm_tt1] at this
    omega
/-- depthOver() of the class -/
theorem sx_depthOver {dep : Nat → Int32} {k a b c : Int32} (h35 : mi 3 5 = nI ND) (hND : ND ≤ 200) (h5 : ∀ n, n < ND → mi 5 n = dep n) (hd : ∀ n, n < ND → 1 ≤ (dep n).toInt ∧ (dep n).toInt ≤ 12) (hk : 0 ≤ k.toInt ∧ k.toInt ≤ 14) (h14 : k = 14 → ndN ND b) (hps : ¬ k = 14 → PS ND k a b c) (hQ : ∀ v : Int32, v.toInt = NDP dep k a b c → Q (some (mm_I v)) mi ml) : mm_cq (mm_call mm_ms (mm_tb L xs) (d + 3)) 100 [mm_R 3, mm_I k, mm_I a, mm_I b, mm_I c] mi ml Q := by
  have hdep : ∀ {x : Int32} (Q' : mm_QQ), ndN ND x → (Q' (some (mm_I (dep x.toNatClampNeg))) mi ml) → mm_cq (mm_call mm_ms (mm_tb L xs) (d + 2)) 101 [mm_R 3, mm_I x] mi ml Q' := fun {x} Q' ⟨p, p1, p2⟩ q => by
    rw [p2, nI_clamp (by omega), ← h5 p p1] at q
    rw [p2]
    exact sx_depthOf7 h35 hND p1 q
  have hdr : ∀ {x : Int32}, ndN ND x → 1 ≤ (dep x.toNatClampNeg).toInt ∧ (dep x.toNatClampNeg).toInt ≤ 12 := fun {x} ⟨p, p1, p2⟩ => by
    rw [p2, nI_clamp (by omega)]
    exact hd p p1
  refine en_X7_depthOver (bk_X7_depthOver_0 (mm_call_m _) (fun z => ?_) (fun z => hdep _ (h14 z) (bk_X7_depthOver_12 (mm_call_m _) (hQ _ ?_))))
  · obtain ⟨pa, pb, pc⟩ := hps z
    refine sx_parts7 hk ?_
    have hfin : ∀ y : Int32, 0 ≤ y.toInt → y.toInt ≤ 12 → 1 + y.toInt = NDP dep k a b c → mm_WQ (mm_call mm_ms (mm_tb L xs) (d + 2)) (mm_tb L xs) mm_m100 (mm_li mm_m100) Q 73 [some (mm_R 3), some (mm_I k), some (mm_I a), some (mm_I b), some (mm_I c), some (mm_I (f_parts k)), some (mm_I y)] [] mi ml := fun y y0 y1 e => bk_X7_depthOver_73 (mm_call_m _) (hQ _ (by rw [mm_1p y0 (by omega)]; exact e))
    have h54 : ∀ y : Int32, 0 ≤ y.toInt → y.toInt ≤ 12 → ((f_parts k).toInt ≤ 2 → 1 + y.toInt = NDP dep k a b c) → (¬ (f_parts k).toInt ≤ 2 → y.toInt = mxi (dep a.toNatClampNeg).toInt (dep b.toNatClampNeg).toInt) → mm_WQ (mm_call mm_ms (mm_tb L xs) (d + 2)) (mm_tb L xs) mm_m100 (mm_li mm_m100) Q 54 [some (mm_R 3), some (mm_I k), some (mm_I a), some (mm_I b), some (mm_I c), some (mm_I (f_parts k)), some (mm_I y)] [] mi ml := fun y y0 y1 e2 e3 => by
      refine bk_X7_depthOver_54 (mm_call_m _) (fun q => hfin y y0 y1 (e2 (by have := mm_leI q; rw [mm_tt2] at this; exact this))) (fun q => ?_)
      have q' := mm_nleI q
      rw [mm_tt2] at q'
      have hc := hdr (pc (by omega))
      refine hdep _ (pc (by omega)) (bk_X7_depthOver_68 (mm_call_m _) ?_)
      have hm := mxi_r (lo := 0) (hi := 12) ⟨y0, y1⟩ (show 0 ≤ (dep c.toNatClampNeg).toInt ∧ (dep c.toNatClampNeg).toInt ≤ 12 by omega)
      refine hfin _ (by rw [mxi_c]; exact hm.1) (by rw [mxi_c]; exact hm.2) ?_
      rw [mxi_c, e3 (by omega)]
      unfold NDP
      rw [if_neg z, if_neg (by omega), if_neg (by omega)]
    have h36 : ∀ y : Int32, 0 ≤ y.toInt → y.toInt ≤ 12 → ((f_parts k).toInt ≤ 1 → 1 + y.toInt = NDP dep k a b c) → (¬ (f_parts k).toInt ≤ 1 → y.toInt = (dep a.toNatClampNeg).toInt) → mm_WQ (mm_call mm_ms (mm_tb L xs) (d + 2)) (mm_tb L xs) mm_m100 (mm_li mm_m100) Q 36 [some (mm_R 3), some (mm_I k), some (mm_I a), some (mm_I b), some (mm_I c), some (mm_I (f_parts k)), some (mm_I y)] [] mi ml := fun y y0 y1 e2 e3 => by
      refine bk_X7_depthOver_36 (mm_call_m _) (fun q => ?_) (fun q => ?_)
      · have q' := mm_leI q
        rw [mm_tt1] at q'
        exact h54 y y0 y1 (fun _ => e2 q') (fun w => by omega)
      · have q' := mm_nleI q
        rw [mm_tt1] at q'
        have hb := hdr (pb (by omega))
        refine hdep _ (pb (by omega)) (bk_X7_depthOver_49 (mm_call_m _) ?_)
        have hm := mxi_r (lo := 0) (hi := 12) ⟨y0, y1⟩ (show 0 ≤ (dep b.toNatClampNeg).toInt ∧ (dep b.toNatClampNeg).toInt ≤ 12 by omega)
        refine h54 _ (by rw [mxi_c]; exact hm.1) (by rw [mxi_c]; exact hm.2) (fun w => ?_) (fun w => ?_)
        · rw [mxi_c, e3 (by omega)]
          unfold NDP
          rw [if_neg z, if_neg (by omega), if_pos w, if_neg (by omega)]
        · rw [mxi_c, e3 (by omega)]
    refine bk_X7_depthOver_19 (mm_call_m _) (fun q => ?_) (fun q => ?_)
    · have q' := mm_leI q
      rw [mm_tt0] at q'
      refine h36 0 (by decide) (by decide) (fun _ => ?_) (fun w => by omega)
      unfold NDP
      rw [if_neg z, if_pos q', mm_tt0]
      rfl
    · have q' := mm_nleI q
      rw [mm_tt0] at q'
      have ha := hdr (pa (by omega))
      refine hdep _ (pa (by omega)) (bk_X7_depthOver_34 (mm_call_m _) (h36 _ (by omega) (by omega) (fun w => ?_) (fun _ => rfl)))
      unfold NDP
      rw [if_neg z, if_neg (by omega), if_pos (by omega), if_pos w]
  · have hb := hdr (h14 z)
    rw [mm_1p (by omega) (by omega)]
    unfold NDP
    rw [if_pos z]
/-- wantedStands() of the class -/
theorem sx_callTypes {c e : Int32} (h11 : mi 1 1 = nI NB) (hNB : NB ≤ 200) (h1 : ((c = -1 ∨ tyN NB c) ∧ (e = -1 ∨ tyN NB e) ∧ (c = -1 → e = -1)) → Q (some (mm_I 1)) mi ml) (h0 : ¬ ((c = -1 ∨ tyN NB c) ∧ (e = -1 ∨ tyN NB e) ∧ (c = -1 → e = -1)) → Q (some (mm_I 0)) mi ml) : mm_cq (mm_call mm_ms (mm_tb L xs) (d + 2)) 146 [mm_R 0, mm_I c, mm_I e] mi ml Q := by
  have n1 : ∀ {P : Prop}, (1 : Int32) = 0 → P := fun z => absurd z (by decide)
  have n0 : ∀ {P : Prop}, ¬ (0 : Int32) = 0 → P := fun z => absurd rfl z
  refine en_X11_callTypesStand (bk_X11_callTypesStand_0 (mm_call_m _) (fun z => sx_has8 h11 hNB (fun t t1 t2 => bk_X11_callTypesStand_24 (s0 := 1) (mm_call_m _) n1 (fun _ q => bk_X11_callTypesStand_43 (mm_call_m _) (h1 ⟨.inr ⟨t, t1, t2⟩, .inl q, fun w => absurd w z⟩)) (fun _ q => sx_has8 h11 hNB (fun u u1 u2 => bk_X11_callTypesStand_40 (s0 := 1) (mm_call_m _) n1 (fun _ => bk_X11_callTypesStand_43 (mm_call_m _) (h1 ⟨.inr ⟨t, t1, t2⟩, .inr ⟨u, u1, u2⟩, fun w => absurd w z⟩))) (fun w => bk_X11_callTypesStand_40 (s0 := 0) (mm_call_m _) (fun _ => bk_X11_callTypesStand_47 (mm_call_m _) (h0 (fun p => ?_))) n0))) (fun w => bk_X11_callTypesStand_24 (s0 := 0) (mm_call_m _) (fun _ => bk_X11_callTypesStand_47 (mm_call_m _) (h0 (fun p => ?_))) n0 n0)) (fun z q => h0 (fun p => absurd (p.2.2 z) q)) (fun z q => h1 ⟨.inl z, .inl q, fun _ => q⟩))
  · obtain ⟨u, u1, u2⟩ := p.2.1.resolve_left q
    exact w u u1 u2
  · obtain ⟨u, u1, u2⟩ := p.1.resolve_left z
    exact w u u1 u2
theorem sx_wanted {k a b c e : Int32} (h11 : mi 1 1 = nI NB) (hNB : NB ≤ 200) (h35 : mi 3 5 = nI ND) (hND : ND ≤ 200) (h1 : okB NB ND k a b c e → Q (some (mm_I 1)) mi ml) (h0 : ¬ okB NB ND k a b c e → Q (some (mm_I 0)) mi ml) : mm_cq (mm_call mm_ms (mm_tb L xs) (d + 3)) 145 [mm_R 0, mm_I k, mm_I a, mm_I b, mm_I c, mm_I e] mi ml Q := by
  have n1 : ∀ {P : Prop}, (1 : Int32) = 0 → P := fun z => absurd z (by decide)
  have n0 : ∀ {P : Prop}, ¬ (0 : Int32) = 0 → P := fun z => absurd rfl z
  have ps0 : ∀ {k : Int32}, f_parts k = 0 → PS ND k a b c := fun q => by
    unfold PS
    rw [q, mm_tt0]
    exact ⟨fun z => absurd z (by decide), fun z => absurd z (by decide), fun z => absurd z (by decide)⟩
  have hk1 : ∀ {k : Int32}, k = 1 → (a = 0 ∨ a = 1) → okB NB ND k a b c e := fun z q => by
    subst z
    exact ⟨⟨by decide, by decide⟩, fun _ => q, fun z => absurd z (by decide), fun z => absurd z (by decide), fun _ => ps0 (by decide)⟩
  have h96 : (k = 14 → ¬ ((0 ≤ a.toInt ∧ a.toInt < 12) ∧ ndN ND b ∧ (c = -1 ∨ tyN NB c) ∧ (e = -1 ∨ tyN NB e) ∧ (c = -1 → e = -1))) → k = 14 → mm_WQ (mm_call mm_ms (mm_tb L xs) (d + 2)) (mm_tb L xs) mm_m145 (mm_li mm_m145) Q 96 [some (mm_R 0), some (mm_I k), some (mm_I a), some (mm_I b), some (mm_I c), some (mm_I e)] [] mi ml := fun q z => bk_X11_wantedStands_96 (mm_call_m _) (h0 (fun p => q z (p.2.2.1 z)))
  refine en_X11_wantedStands (bk_X11_wantedStands_0 (mm_call_m _) (fun z q => bk_X11_wantedStands_45 (mm_call_m _) (h1 (hk1 z (.inl q)))) (fun z q q2 => h0 (fun p => by rcases p.2.1 z with w | w; exact q w; exact q2 w)) (fun z _ q => bk_X11_wantedStands_45 (mm_call_m _) (h1 (hk1 z (.inr q)))) (fun z => ?_) (fun z q => h96 (fun _ p => ?_) z) (fun z _ q => h96 (fun _ p => ?_) z) (fun z q q2 => ?_) (fun z1 z9 z14 => ?_))
  · have z' : k = 9 := z
    subst z'
    refine sx_has8 h11 hNB (fun t t1 t2 => bk_X11_wantedStands_59 (s0 := 1) (mm_call_m _) (.inr rfl) (h1 ⟨⟨by decide, by decide⟩, fun q => absurd q (by decide), fun q => absurd q (by decide), fun _ => ⟨t, t1, t2⟩, fun _ => ps0 (by decide)⟩)) (fun w => bk_X11_wantedStands_59 (s0 := 0) (mm_call_m _) (.inl rfl) (h0 (fun p => ?_)))
    obtain ⟨u, u1, u2⟩ := p.2.2.2.1 rfl
    exact w u u1 u2
  · have := mm_ltI q
    rw [mm_tt0] at this
    omega
  · have := mm_leI q
    rw [mm_tt12] at this
    omega
  · have q' := mm_nltI q
    have q2' := mm_nleI q2
    rw [mm_tt0] at q'
    rw [mm_tt12] at q2'
    have z' : k = 14 := z
    subst z'
    refine sx_has7 h35 hND (fun p p1 p2 => bk_X11_wantedStands_78 (s0 := 1) (mm_call_m _) n1 (fun _ => sx_callTypes h11 hNB (fun w => bk_X11_wantedStands_89 (s0 := 1) (mm_call_m _) n1 (fun _ => h1 ⟨⟨by decide, by decide⟩, fun q => absurd q (by decide), fun _ => ⟨⟨q', q2'⟩, ⟨p, p1, p2⟩, w⟩, fun q => absurd q (by decide), fun q => absurd rfl q⟩)) (fun w => bk_X11_wantedStands_89 (s0 := 0) (mm_call_m _) (fun _ => h96 (fun _ p => w p.2.2) rfl) n0))) (fun w => bk_X11_wantedStands_78 (s0 := 0) (mm_call_m _) (fun _ => h96 (fun _ p => w p.2.1) rfl) n0)
  · have m1 : ¬ k = 1 := z1
    have m9 : ¬ k = 9 := z9
    have m14 : ¬ k = 14 := z14
    refine sp_X7_isKind (fun a1 a2 => bk_X11_wantedStands_106 (s0 := 1) (mm_call_m _) n1 (fun _ => sx_partsStand h35 hND ⟨a1, a2⟩ (fun p => bk_X11_wantedStands_121 (s0 := 1) (mm_call_m _) n1 (fun _ => h1 ⟨⟨a1, a2⟩, fun q => absurd q m1, fun q => absurd q m14, fun q => absurd q m9, fun _ => p⟩)) (fun p => bk_X11_wantedStands_121 (s0 := 0) (mm_call_m _) (fun _ => bk_X11_wantedStands_128 (mm_call_m _) (h0 (fun q => p (q.2.2.2.2 m14)))) n0))) (fun w => bk_X11_wantedStands_106 (s0 := 0) (mm_call_m _) (fun _ => bk_X11_wantedStands_128 (mm_call_m _) (h0 (fun q => w q.1))) n0)
end MMT
