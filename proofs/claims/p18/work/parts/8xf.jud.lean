/-! ===== the order in which nodes are met ===== -/
def k_pfo (g : Nat → List Nat → List Nat) : Nat → Nat → List Nat → List Nat
  | _, 0, l => l
  | i, j + 1, l => k_pfo g (i + 1) j (g i l)
/-- nodes under n behind l: parts from left to right, then n, each once -/
def k_po (m : mm_P) : Nat → Nat → List Nat → List Nat
  | 0, _, l => l
  | k + 1, n, l => if n ∈ l then l else k_pfo (fun i l => k_po m k (k_part m n i).toNatClampNeg l) 0 (f_parts (m 4 n)).toInt.toNat l ++ [n]
theorem pfo_P {g : Nat → List Nat → List Nat} {P : List Nat → Prop} : ∀ (j i : Nat) (l : List Nat), (∀ e l, i ≤ e → e < i + j → P l → P (g e l)) → P l → P (k_pfo g i j l)
  | 0, _, _, _, h => h
  | j + 1, i, l, hg, h => pfo_P j (i + 1) (g i l) (fun e l a b q => hg e l (by omega) (by omega) q) (hg i l (Nat.le_refl _) (by omega) h)
theorem pfo_c {g g' : Nat → List Nat → List Nat} : ∀ (j i : Nat) (l : List Nat), (∀ e l, i ≤ e → e < i + j → g e l = g' e l) → k_pfo g i j l = k_pfo g' i j l
  | 0, _, _, _ => rfl
  | j + 1, i, l, h => by
    unfold k_pfo
    rw [h i l (Nat.le_refl _) (by omega)]
    exact pfo_c j (i + 1) _ (fun e l a b => h e l (by omega) (by omega))
theorem pfo_s {g : Nat → List Nat → List Nat} : ∀ (j i : Nat) (l : List Nat), k_pfo g i (j + 1) l = g (i + j) (k_pfo g i j l)
  | 0, _, _ => rfl
  | j + 1, i, l => by
    have h := pfo_s (g := g) j (i + 1) (g i l)
    have e : i + (j + 1) = i + 1 + j := by omega
    rw [e]
    exact h
section MPO
variable {m w : mm_P} {NB ND : Nat}
theorem po_in {k n : Nat} {l : List Nat} (h : n ∈ l) : k_po m (k + 1) n l = l := by
  unfold k_po
  rw [if_pos h]
theorem po_out {k n : Nat} {l : List Nat} (h : ¬ n ∈ l) : k_po m (k + 1) n l = k_pfo (fun i l => k_po m k (k_part m n i).toNatClampNeg l) 0 (f_parts (m 4 n)).toInt.toNat l ++ [n] := by
  show (if n ∈ l then l else k_pfo (fun i l => k_po m k (k_part m n i).toNatClampNeg l) 0 (f_parts (m 4 n)).toInt.toNat l ++ [n]) = _
  rw [if_neg h]
theorem po_sub : ∀ (k n : Nat) (l : List Nat) (p : Nat), p ∈ l → p ∈ k_po m k n l := by
  intro k
  induction k with
  | zero => exact fun n l p h => h
  | succ k ih =>
    intro n l p h
    by_cases hn : n ∈ l
    · rw [po_in hn]
      exact h
    · rw [po_out hn]
      exact List.mem_append.mpr (.inl (pfo_P (P := fun l => p ∈ l) _ 0 l (fun e l _ _ q => ih _ l p q) h))
theorem f_parts_n (k : Int32) : ((f_parts k).toInt.toNat : Int) = (f_parts k).toInt ∧ (f_parts k).toInt.toNat ≤ 3 := by
  have hp := f_parts_in k
  rcases hp with hp | hp | hp | hp <;> (rw [hp]; decide)
/-- what is met lies under n -/
theorem po_new : ∀ (k n : Nat) (l : List Nat) (p : Nat), p ∈ k_po m k n l → p ∈ l ∨ BL m n p := by
  intro k
  induction k with
  | zero => exact fun n l p h => .inl h
  | succ k ih =>
    intro n l p h
    by_cases hn : n ∈ l
    · rw [po_in hn] at h
      exact .inl h
    · rw [po_out hn] at h
      rcases List.mem_append.mp h with h | h
      · revert h
        refine pfo_P (P := fun l' => p ∈ l' → p ∈ l ∨ BL m n p) _ 0 l (fun e l' _ h2 q q2 => ?_) (fun q => .inl q)
        rcases ih _ l' p q2 with y | y
        · exact q y
        · have := f_parts_n (m 4 n)
          exact .inr (BL_p (i := e) (by omega) y)
      · rw [List.mem_singleton.mp h]
        exact .inr BL_r
theorem po_self {k n : Nat} {l : List Nat} : n ∈ k_po m (k + 1) n l := by
  by_cases hn : n ∈ l
  · rw [po_in hn]
    exact hn
  · rw [po_out hn]
    exact List.mem_append.mpr (.inr (List.mem_singleton.mpr rfl))
/-- the same order where the nodes under n are the same -/
theorem po_c : ∀ (k n : Nat) (l : List Nat), (∀ p, BL m n p → w 4 p = m 4 p ∧ ∀ i : Nat, (i : Int) < (f_parts (m 4 p)).toInt → k_part w p i = k_part m p i) → k_po w k n l = k_po m k n l := by
  intro k
  induction k with
  | zero => exact fun _ _ _ => rfl
  | succ k ih =>
    intro n l h
    obtain ⟨h4, hk⟩ := h n BL_r
    by_cases hn : n ∈ l
    · rw [po_in hn, po_in hn]
    · rw [po_out hn, po_out hn, h4]
      congr 1
      refine pfo_c _ 0 l (fun e l' _ h2 => ?_)
      have := f_parts_n (m 4 n)
      have he : (e : Int) < (f_parts (m 4 n)).toInt := by omega
      rw [hk e he]
      exact ih _ l' (fun p hp => h p (BL_p he hp))
end MPO
/-- the list l stands in the class's row of those that were met -/
def ML (w : mm_P) (l : List Nat) : Prop := w 3 6 = nI l.length ∧ ∀ i, i < l.length → w 8 i = nI (l.getD i 0)
theorem getD_app {l : List Nat} {n i : Nat} (h : i < l.length) : (l ++ [n]).getD i 0 = l.getD i 0 := by
  rw [List.getD_eq_getElem?_getD, List.getD_eq_getElem?_getD, List.getElem?_append_left h]
theorem getD_last {l : List Nat} {n : Nat} : (l ++ [n]).getD l.length 0 = n := by
  rw [List.getD_eq_getElem?_getD, List.getElem?_append_right (Nat.le_refl _), Nat.sub_self]
  rfl
section MMM
variable {L : Nat} {xs : Nat → Int32} {d : Nat} {ml : mm_G} {NB ND NF : Nat} {m0 : mm_P}
theorem meet_x (hK : KW NB ND NF m0) (hok : ∀ q, q < ND → okK NB m0 q) (hdep : ∀ q, q < ND → 1 ≤ (m0 5 q).toInt ∧ ∀ i : Nat, (i : Int) < (f_parts (m0 4 q)).toInt → (m0 5 (k_part m0 q i).toNatClampNeg).toInt < (m0 5 q).toInt) : ∀ (k n lev : Nat) (l : List Nat) (w : mm_P) {Q : mm_QQ}, n < ND → (m0 5 n).toInt ≤ k → 1 ≤ lev → lev + k ≤ 13 → MW m0 w → ML w l → (∀ p, p ≤ n → (¬ w 7 p = 0 ↔ p ∈ l)) → l.length + lev ≤ hz (w 7) 200 + 1 → (∀ w', MW m0 w' → ML w' (k_po m0 k n l) → (∀ p, p ≤ n → (¬ w' 7 p = 0 ↔ p ∈ k_po m0 k n l)) → (∀ p, n < p → w' 7 p = w 7 p) → (k_po m0 k n l).length + hz (w 7) 200 = l.length + hz (w' 7) 200 → Q none w' ml) → mm_cq (mm_call mm_ms (mm_tb L xs) (d + k + 2)) 104 [mm_R 3, mm_I (nI n), mm_I (nI lev)] w ml Q := by
  obtain ⟨⟨k1, k2, k3⟩, n1, n2, n3⟩ := id hK
  have z1 : ∀ {P : Prop}, (1 : Int32) = 0 → P := fun z => absurd z (by decide)
  have e12 : (12 : Int32).toInt = 12 := rfl
  have e200 : (200 : Int32).toInt = 200 := rfl
  intro k
  induction k with
  | zero =>
    intro n lev l w Q hn hd
    have := (hdep n hn).1
    omega
  | succ k ih =>
    intro n lev l w Q hn hd hl1 hl hM hL hS hcnt hQ
    have ok := hok n hn
    have en : (nI n).toNatClampNeg = n := nI_clamp (by omega)
    have vn : vp_in (nI n) 200 := vp_in_nI (by omega) (by decide)
    have hKw := KW_mw hK hM
    have hle : hz (w 7) 200 ≤ 200 := hz_le
    have e4 : w 4 n = m0 4 n := hM 4 n (by decide) (by decide) (by omega)
    show mm_cq (mm_call mm_ms (mm_tb L xs) ((d + k + 2) + 1)) 104 [mm_R 3, mm_I (nI n), mm_I (nI lev)] w ml Q
    refine en_X7_meet (bk_X7_meet_0 (mm_call_m _) (sx_has7 (d := d + k + 1) hKw.1.2.1 n2 (fun t t1 t2 => bk_X7_meet_5 (s0 := 1) (mm_call_m _) z1 (fun _ z => ?_) (fun _ _ => vn) (fun _ _ _ => vn) (fun _ _ _ => vn) (fun _ _ z => ?_) (fun _ _ z => bk_X7_meet_23 (mm_call_m _) ?_)) (fun q => absurd ⟨n, hn, rfl⟩ q)))
    · have := mm_ltI z
      rw [e12, mm_tI (by omega)] at this
      omega
    · rw [en] at z ⊢
      rw [e4]
      have hnl : ¬ n ∈ l := fun y => (hS n (Nat.le_refl _)).mpr y z
      rw [po_out hnl] at hQ
      have hM1 : MW m0 (mm_u w 7 n 1) := fun c i a b e => (mm_u_e a).trans (hM c i a b e)
      have hs7 : hz (mm_u w 7 n 1 7) 200 = hz (w 7) 200 + 1 := hz_set z (by rw [mm_u_s]; decide) (fun i hi => mm_u_f hi) (by omega)
      obtain ⟨hpn1, hpn3⟩ := f_parts_n (m0 4 n)
      refine sx_parts7 (d := d + k + 1) ok.1 (bk_X7_meet_41 (mm_call_m _) ?_)
      have hloop : ∀ (j i : Nat) (wi : mm_P), i + j = (f_parts (m0 4 n)).toInt.toNat → MW m0 wi → ML wi (k_pfo (fun i l => k_po m0 k (k_part m0 n i).toNatClampNeg l) 0 i l) → (∀ p, p < n → (¬ wi 7 p = 0 ↔ p ∈ k_pfo (fun i l => k_po m0 k (k_part m0 n i).toNatClampNeg l) 0 i l)) → ¬ wi 7 n = 0 → (∀ p, n < p → wi 7 p = w 7 p) → (k_pfo (fun i l => k_po m0 k (k_part m0 n i).toNatClampNeg l) 0 i l).length + hz (w 7) 200 + 1 = l.length + hz (wi 7) 200 → mm_WQ (mm_call mm_ms (mm_tb L xs) (d + k + 2)) (mm_tb L xs) mm_m104 (mm_li mm_m104) Q 45 [some (mm_R 3), some (mm_I (nI n)), some (mm_I (nI lev)), some (mm_I (f_parts (m0 4 n))), some (mm_I (nI i))] [] wi ml := by
        intro j
        induction j with
        | zero =>
          intro i wi h hMi hLi hSi hni hup hct
          have hi : i = (f_parts (m0 4 n)).toInt.toNat := by omega
          subst hi
          generalize hgl : k_pfo (fun i l => k_po m0 k (k_part m0 n i).toNatClampNeg l) 0 (f_parts (m0 4 n)).toInt.toNat l = li at hLi hSi hct hQ
          obtain ⟨a1, a2⟩ := hLi
          have hle2 : hz (wi 7) 200 ≤ 200 := hz_le
          have hci : li.length < 200 := by omega
          have eci : (nI li.length).toNatClampNeg = li.length := nI_clamp (by omega)
          refine bk_X7_meet_45 (mm_call_m _) (fun _ z2 => ?_) (fun _ _ => ?_) (fun _ _ => bk_X7_meet_98 (mm_call_m _) ?_) (fun z2 => absurd ?_ z2)
          · have := mm_leI z2
            rw [a1, e200, mm_tI (by omega)] at this
            omega
          · rw [a1]
            exact vp_in_nI hci (by decide)
          · rw [a1, eci, show nI li.length + 1 = nI (li.length + 1) from (nI_succ li.length).symm]
            have h7 : ∀ p, mm_u (mm_u wi 3 6 (nI (li.length + 1))) 8 li.length (nI n) 7 p = wi 7 p := fun p => by rw [mm_u_e (by decide), mm_u_e (by decide)]
            have h77 : mm_u (mm_u wi 3 6 (nI (li.length + 1))) 8 li.length (nI n) 7 = wi 7 := funext h7
            refine hQ _ (fun c i a b e => ?_) ⟨?_, fun i hi => ?_⟩ (fun p hp => ?_) (fun p hp => ?_) ?_
            · rw [mm_u_e b, mm_u_o e]
              exact hMi c i a b e
            · rw [mm_u_e (by decide), mm_u_s, List.length_append]
              rfl
            · rw [List.length_append] at hi
              have hi' : i < li.length + 1 := hi
              by_cases hic : i = li.length
              · subst hic
                rw [mm_u_s, getD_last]
              · rw [mm_u_f hic, mm_u_e (by decide), getD_app (by omega)]
                exact a2 i (by omega)
            · rw [h7, List.mem_append, List.mem_singleton]
              by_cases hpn' : p = n
              · rw [hpn']
                exact ⟨fun _ => .inr rfl, fun _ => hni⟩
              · rw [hSi p (by omega)]
                exact ⟨fun q => .inl q, fun q => q.elim id (fun q => absurd q hpn')⟩
            · rw [h7]
              exact hup p hp
            · rw [h77, List.length_append]
              show li.length + 1 + hz (w 7) 200 = _
              omega
          · rw [Int32.le_iff_toInt_le, mm_tI (by omega)]
            omega
        | succ j ihj =>
          intro i wi h hMi hLi hSi hni hup hct
          have hnle : ∀ {P : Prop}, f_parts (m0 4 n) ≤ nI i → P := fun y => by
            have := mm_leI y
            rw [mm_tI (by omega)] at this
            omega
          have hi : (i : Int) < (f_parts (m0 4 n)).toInt := by omega
          obtain ⟨r, r1, r2⟩ := k_part_r ok hi
          have er : (k_part m0 n i).toNatClampNeg = r := by rw [r2, nI_clamp (by omega)]
          have hkp : k_part wi n i = k_part m0 n i := by
            unfold k_part
            rw [hMi 4 n (by decide) (by decide) (by omega), hMi 6 _ (by decide) (by decide) (by omega), hMi 6 _ (by decide) (by decide) (by omega)]
          have hdr := (hdep n hn).2 i hi
          rw [er] at hdr
          have hps := pfo_s (g := fun i l => k_po m0 k (k_part m0 n i).toNatClampNeg l) i 0 l
          rw [Nat.zero_add, er] at hps
          generalize hgl : k_pfo (fun i l => k_po m0 k (k_part m0 n i).toNatClampNeg l) 0 i l = li at hLi hSi hct hps
          refine bk_X7_meet_45 (mm_call_m _) (fun y => hnle y) (fun y => hnle y) (fun y => hnle y) (fun _ => sx_partOf7 (d := d + k) (KW_mw hK hMi) hn (by omega) (okK_mw ok hMi) (fun _ => bk_X7_meet_59 (mm_call_m _) ?_) (fun y => absurd (by rw [hMi 4 n (by decide) (by decide) (by omega)]; exact hi) y))
          rw [hkp, r2, show nI lev + 1 = nI (lev + 1) from (nI_succ lev).symm]
          refine ih r (lev + 1) li wi (by omega) (by omega) (by omega) (by omega) hMi hLi (fun p hp => hSi p (by omega)) (by omega) (fun w' hM' hL' hS' hup' hct' => bk_X7_meet_65 (mm_call_m _) ?_)
          rw [show nI i + 1 = nI (i + 1) from (nI_succ i).symm]
          refine ihj (i + 1) w' (by omega) hM' (by rw [hps]; exact hL') (fun p hp => ?_) (by rw [hup' n r1]; exact hni) (fun p hp => (hup' p (by omega)).trans (hup p hp)) (by rw [hps]; omega)
          rw [hps]
          by_cases hpr : p ≤ r
          · exact hS' p hpr
          · rw [hup' p (by omega), hSi p hp]
            refine ⟨fun q => po_sub k r li p q, fun q => ?_⟩
            rcases po_new k r li p q with y | y
            · exact y
            · have := BL_le n2 hok (show r < ND by omega) y
              omega
      refine hloop (f_parts (m0 4 n)).toInt.toNat 0 (mm_u w 7 n 1) (by omega) hM1 ⟨(mm_u_e (by decide)).trans hL.1, fun i hi => (mm_u_e (by decide)).trans (hL.2 i hi)⟩ (fun p hp => ?_) (by rw [mm_u_s]; decide) (fun p hp => mm_u_f (by omega)) (by rw [hs7]; show l.length + _ + 1 = _; omega)
      rw [mm_u_f (by omega)]
      exact hS p (by omega)
    · rw [en] at z
      have hnl : n ∈ l := (hS n (Nat.le_refl _)).mp z
      rw [po_in hnl] at hQ
      exact hQ w hM hL hS (fun _ _ => rfl) rfl
/-- meetUnder(): met are the nodes under n, in order -/
theorem sx_meetOrder {n : Nat} {Q : mm_QQ} (hK : KW NB ND NF m0) (hok : ∀ q, q < ND → okK NB m0 q) (hdep : ∀ q, q < ND → (1 ≤ (m0 5 q).toInt ∧ (m0 5 q).toInt ≤ 12) ∧ ∀ i : Nat, (i : Int) < (f_parts (m0 4 q)).toInt → (m0 5 (k_part m0 q i).toNatClampNeg).toInt < (m0 5 q).toInt) (hn : n < ND) (hQ : ∀ w, MW m0 w → ML w (k_po m0 12 n []) → (k_po m0 12 n []).length ≤ 200 → Q none w ml) : mm_cq (mm_call mm_ms (mm_tb L xs) (d + 15)) 103 [mm_R 3, mm_I (nI n)] m0 ml Q := by
  have hND := hK.2.2.1
  refine en_X7_meetUnder (bk_X7_meetUnder_0 (mm_call_m _) (sx_fill (d := d + 13) (fun w' f1 f2 => bk_X7_meetUnder_8 (mm_call_m _) ?_)))
  have h7 : ∀ p, p < 200 → mm_u w' 3 6 0 7 p = 0 := fun p hp => (mm_u_e (by decide)).trans (f2 p hp)
  have hz0 : hz (mm_u w' 3 6 0 7) 200 = 0 := hz_zero (fun p hp => h7 p hp)
  refine meet_x (d := d) hK hok (fun q hq => ⟨(hdep q hq).1.1, (hdep q hq).2⟩) 12 n 1 [] (mm_u w' 3 6 0) hn (hdep n hn).1.2 (by decide) (by decide) (fun c i a b e => (mm_u_o e).trans (f1 c i a)) ⟨mm_u_s, fun i hi => absurd hi (Nat.not_lt_zero _)⟩ (fun p hp => ⟨fun q => absurd (h7 p (by omega)) q, fun q => absurd q (List.not_mem_nil)⟩) (by show 0 + 1 ≤ _; omega) (fun w hM hL _ _ hct => bk_X7_meetUnder_19 (mm_call_m _) (hQ w hM hL ?_))
  have hle : hz (w 7) 200 ≤ 200 := hz_le
  have hct' : (k_po m0 12 n []).length + hz (mm_u w' 3 6 0 7) 200 = 0 + hz (w 7) 200 := hct
  omega
end MMM
