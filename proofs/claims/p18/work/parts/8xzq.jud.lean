/-! ===== the copies as the machine of copies finds them ===== -/
/-- parts of what is met are met -/
def POC (m : mm_P) (l : List Nat) : Prop := ∀ q, q ∈ l → ∀ i : Nat, (i : Int) < (f_parts (m 4 q)).toInt → kpt m q i ∈ l
section MPQ
variable {m : mm_P} {ml : mm_G} {NB ND NF : Nat}
theorem pfo_all {g : Nat → List Nat → List Nat} {n : Nat} (hs : ∀ e l p, p ∈ l → p ∈ g e l) : ∀ (j i : Nat) (l : List Nat), (∀ e l, i ≤ e → e < i + j → POC m l → POC m (g e l) ∧ kpt m n e ∈ g e l) → POC m l → POC m (k_pfo g i j l) ∧ (∀ p, p ∈ l → p ∈ k_pfo g i j l) ∧ ∀ e, i ≤ e → e < i + j → kpt m n e ∈ k_pfo g i j l := by
  intro j
  induction j with
  | zero => exact fun i l _ h => ⟨h, fun p q => q, fun e a b => absurd b (by omega)⟩
  | succ j ih =>
    intro i l hg h
    obtain ⟨a1, a2⟩ := hg i l (Nat.le_refl _) (by omega) h
    obtain ⟨b1, b2, b3⟩ := ih (i + 1) (g i l) (fun e l a b q => hg e l (by omega) (by omega) q) a1
    refine ⟨b1, fun p q => b2 p (hs i l p q), fun e e1 e2 => ?_⟩
    by_cases c : e = i
    · rw [c]
      exact b2 _ a2
    · exact b3 e (by omega) (by omega)
theorem po_cl (hW : WJ NB ND NF m) : ∀ (k n : Nat) (l : List Nat), n < ND → (m 5 n).toInt ≤ k → POC m l → POC m (k_po m k n l) ∧ n ∈ k_po m k n l := by
  have hND := hW.1.2.2.1
  intro k
  induction k with
  | zero =>
    intro n l hn hk
    have := (hW.2.2.1 n hn).1.1
    omega
  | succ k ih =>
    intro n l hn hk hl
    by_cases c : n ∈ l
    · rw [po_in c]
      exact ⟨hl, c⟩
    · rw [po_out c]
      have hp := f_parts_n (m 4 n)
      obtain ⟨b1, b2, b3⟩ := pfo_all (n := n) (fun e l p q => po_sub k (k_part m n e).toNatClampNeg l p q) (f_parts (m 4 n)).toInt.toNat 0 l (fun e l e1 e2 q => by
        have he : (e : Int) < (f_parts (m 4 n)).toInt := by omega
        obtain ⟨p, p1, p2⟩ := k_part_r (hW.2.1 n hn) he
        have hd := (hW.2.2.1 n hn).2 e he
        have ek : (k_part m n e).toNatClampNeg = p := by rw [p2]; exact nI_clamp (by omega)
        rw [ek] at hd
        have := ih p l (by omega) (by omega) q
        unfold kpt
        rw [ek]
        exact this) hl
      refine ⟨fun q hq i hi => ?_, List.mem_append.mpr (.inr (List.mem_singleton.mpr rfl))⟩
      rcases List.mem_append.mp hq with y | y
      · exact List.mem_append.mpr (.inl (b1 q y i hi))
      · rw [List.mem_singleton.mp y] at hi ⊢
        exact List.mem_append.mpr (.inl (b3 i (Nat.zero_le _) (by omega)))
theorem po_blw {l : List Nat} {p : Nat} (hl : POC m l) : ∀ (k n : Nat), n ∈ l → blw m k n p → p ∈ l := by
  intro k
  induction k with
  | zero =>
    intro n hn h
    have e : p = n := h
    rw [e]
    exact hn
  | succ k ih =>
    intro n hn h
    rcases h with h | ⟨i, i1, h⟩
    · rw [h]
      exact hn
    · exact ih _ (hl n hn i i1) h
theorem po_bl (hW : WJ NB ND NF m) {b p : Nat} (hb : b < ND) (h : BL m b p) : p ∈ k_po m 12 b [] := by
  obtain ⟨k, hk⟩ := h
  have hd := (hW.2.2.1 b hb).1.2
  obtain ⟨c1, c2⟩ := po_cl hW 12 b [] hb (by omega) (fun q hq => absurd hq List.not_mem_nil)
  exact po_blw c1 k b c2 hk
/-- letters' shapes of a copy -/
def OKL (t : CTy) : Prop := (t.2.1 = -1 ∨ CLs t.2.1) ∧ (t.2.2 = -1 ∨ CLs t.2.2)
theorem cfs_P {f : Nat} {A B : Int64} (hPG : PGC NB ND NF m ml) (hA : A = -1 ∨ CLs A) (hB : B = -1 ∨ CLs B) : ∀ (l : List Nat) (C C' : List CTy), k_cfs m ml f A B l C = some C' → (∀ n, n ∈ l → n < ND) → (∀ s, s ∈ C → OKL s) → (∃ S, C = k_c0 :: S) → (∀ s, s ∈ C' → OKL s) ∧ ∃ S, C' = k_c0 :: S
  | [], C, C', h, _, hC, hh => by
    have : C = C' := Option.some.inj h
    rw [← this]
    exact ⟨hC, hh⟩
  | n :: r, C, C', h, hl, hC, hh => by
    replace h : (match k_cst m ml f A B C n with
      | none => none
      | some C' => k_cfs m ml f A B r C') = some C' := h
    cases e : k_cst m ml f A B C n with
    | none =>
      rw [e] at h
      cases h
    | some C1 =>
      rw [e] at h
      have hn := hl n (List.mem_cons.mpr (.inl rfl))
      refine cfs_P hPG hA hB r C1 C' h (fun n hn => hl n (List.mem_cons.mpr (.inr hn))) (fun s hs => ?_) ?_
      · rcases cst_some e with q | ⟨k, q⟩
        · rw [q] at hs
          exact hC s hs
        · rw [q] at hs
          rcases List.mem_append.mp hs with y | y
          · exact hC s y
          · rw [List.mem_singleton.mp y]
            obtain ⟨c1, c2, c3, c4⟩ := ((hPG.1.2.1 n hn).2.2.2 k)
            refine ⟨?_, ?_⟩
            · rcases SHO_cn hPG c3 with z | z
              · refine .inl ?_
                show f_with (SHO ml (m 6 (4 * n + 2))) A B = -1
                rw [z]
                exact with_m1
              · exact wl_CL hA hB z
            · rcases SHO_cn hPG c4 with z | z
              · refine .inl ?_
                show f_with (SHO ml (m 6 (4 * n + 3))) A B = -1
                rw [z]
                exact with_m1
              · exact wl_CL hA hB z
      · obtain ⟨S, hS⟩ := hh
        rcases cst_some e with q | ⟨k, q⟩
        · exact ⟨S, q.trans hS⟩
        · exact ⟨S ++ [k_ct m ml A B n], by rw [q, hS]; rfl⟩
theorem cal_P (hPG : PGC NB ND NF m ml) (hV2 : ¬ V2 m) : ∀ (k i : Nat) (C R : List CTy), k_cal m ml k i C = some R → (∀ s, s ∈ C → (s.1 < 12 ∧ UR m s.1) ∧ OKL s) → (∃ S, C = k_c0 :: S) → (∀ s, s ∈ R → OKL s) ∧ ∃ S, R = k_c0 :: S := by
  intro k
  induction k with
  | zero =>
    intro i C R h
    cases h
  | succ k ih =>
    intro i C R h hC hh
    replace h : (if C.length ≤ i then some C else match k_con m ml C (C.getD i k_c0) with
      | none => none
      | some C' => k_cal m ml k (i + 1) C') = some R := h
    by_cases c : C.length ≤ i
    · rw [if_pos c] at h
      rw [← Option.some.inj h]
      exact ⟨fun s hs => (hC s hs).2, hh⟩
    · rw [if_neg c] at h
      have ht := hC _ (mem_getD.mpr ⟨i, by omega, rfl⟩)
      cases e : k_con m ml C (C.getD i k_c0) with
      | none =>
        rw [e] at h
        cases h
      | some C' =>
        rw [e] at h
        have hu := con_u hPG.1 hV2 ht.1 (fun s hs => (hC s hs).1) e
        have hND := hPG.1.1.2.2.1
        obtain ⟨hf, b, b1, b2⟩ := UR_b hPG.1 hV2 ht.1.1 ht.1.2
        have e2 := e
        unfold k_con at e2
        split at e2
        · cases e2
        · rw [b2, nI_clamp (by omega)] at e2
          obtain ⟨g1, g2⟩ := cfs_P hPG ht.2.1 ht.2.2 _ C C' e2 (fun n hn => by
            have := BL_le hND hPG.1.2.1 b1 ((po_new 12 b [] n hn).resolve_left List.not_mem_nil)
            omega) (fun s hs => (hC s hs).2) hh
          exact ih (i + 1) C' R h (fun s hs => ⟨hu s hs, g1 s hs⟩) g2
theorem with_nn : ∀ (k : Nat) (S : Int64), CN k S → ¬ f_with S (-1) (-1) = -1 → CLs S ∧ f_with S (-1) (-1) = S := by
  intro k
  induction k with
  | zero => exact fun S h => h.elim
  | succ k ih =>
    intro S h hn
    rcases h with h | ⟨x, y, hx, hy, d1, d2, rfl⟩ | ⟨x, hx, d1, rfl⟩
    · rcases S4_c h with rfl | rfl | rfl | rfl
      · exact ⟨CLs_0, with_0.1⟩
      · exact ⟨CLs_1, with_0.2.1⟩
      · exact absurd with_0.2.2.1 hn
      · exact absurd with_0.2.2.2 hn
    · have cx : CNS x := ⟨k, hx⟩
      have cy : CNS y := ⟨k, hy⟩
      rw [with_pr cx cy d1 d2] at hn ⊢
      have nx : ¬ f_with x (-1) (-1) = -1 := fun e => hn (by rw [e]; exact pr_n1)
      have ny : ¬ f_with y (-1) (-1) = -1 := fun e => hn (by rw [e]; exact pr_n2)
      obtain ⟨a1, a2⟩ := ih x hx nx
      obtain ⟨b1, b2⟩ := ih y hy ny
      rw [a2, b2]
      exact ⟨CLs_pr a1 b1 d1 d2, rfl⟩
    · have cx : CNS x := ⟨k, hx⟩
      rw [with_ls cx d1] at hn ⊢
      have nx : ¬ f_with x (-1) (-1) = -1 := fun e => hn (by rw [e]; exact ls_n1)
      obtain ⟨a1, a2⟩ := ih x hx nx
      rw [a2]
      exact ⟨CLs_ls a1 d1, rfl⟩
/-- a program with copies -/
theorem CPG_of (hCV : CV m ml) (h09 : m 0 9 = 0) {Cl : List CTy} (hcc : CC m ml = some Cl) (hCR : CRw m ml Cl) (hUR : ∀ s, s ∈ Cl → s.1 < 12 ∧ UR m s.1) (hPR : ∀ i, i < Cl.length → PRC m ml m ml Cl i) : ∃ NB ND NF, IM m NB ND NF ∧ TC NB m ml ∧ FC NF m ml ∧ 0 < NF ∧ CPG NB ND NF m ml Cl ∧ 0 < Cl.length ∧ Cl.getD 0 k_c0 = k_c0 := by
  obtain ⟨NB, ND, NF, hI, hT, hN, hF, hW⟩ := CK_WJ hCV.1
  have hNB := hI.1.1
  have hND := hI.1.2.1
  have hNF := hI.1.2.2
  have hJT := hCV.1.1.2 ND NF hN.1 hF.1 hND hNF
  have hV : VP m ml 0 := by
    have h := hCV.1.2.2
    rw [h09] at h
    exact h
  have hVn : ¬ V1 m ∧ ¬ V2 m ∧ ¬ V3 m ml := by
    rcases hV with ⟨e, -⟩ | ⟨e, -⟩ | ⟨e, -⟩ | ⟨e, -⟩ | ⟨-, a, b, c, -⟩
    iterate 4 exact absurd e (by decide)
    exact ⟨a, b, c⟩
  have e97 : (m 9 7).toInt = NF := by rw [hF.1]; exact mm_tI (by omega)
  have hNF0 : 0 < NF := by
    by_cases c : 0 < NF
    · exact c
    · exact absurd (.inl (by omega)) hVn.1
  have hWT : WTY NB 200 m := ⟨hNB.2, by decide, fun t ht => hI.2.2.1 t (by unfold vd at ht; omega)⟩
  have hcn : ∀ t, t < NB → CNS (ml 2 t) := fun t ht => by
    rw [← SHV_ml hWT hT ht]
    exact (TF_v hWT (.inl ht) (by have := hI.2.2.2.1 t ht; omega)).1
  have hPG : PGC NB ND NF m ml := ⟨hW, hJT, hcn, fun f hf => by
    obtain ⟨o1, ⟨t, t1, t2, -⟩, ⟨u, u1, u2, -⟩, -⟩ := hI.2.2.2.2.2.1 f hf
    obtain ⟨-, -, -, -, f13, f14⟩ := hF.2 f hf
    rw [t2, nI_clamp (by omega)] at f13
    rw [u2, nI_clamp (by omega)] at f14
    rw [f13, f14]
    exact ⟨hcn t t1, hcn u u1⟩⟩
  obtain ⟨hOK, S0, hS0⟩ := cal_P hPG hVn.2.1 62 0 [k_c0] Cl hcc (fun s hs => by
    rw [List.mem_singleton.mp hs]
    exact ⟨⟨by decide, .inl rfl⟩, .inl rfl, .inl rfl⟩) ⟨[], rfl⟩
  refine ⟨NB, ND, NF, hI, hT, hF, hNF0, ⟨hPG, hN, ⟨hCR.1, hCR.2.1⟩, fun i hi => ?_⟩, by rw [hS0]; exact Nat.succ_pos _, by rw [hS0]; rfl⟩
  have hm := mem_getD.mpr ⟨i, hi, (rfl : Cl.getD i k_c0 = Cl.getD i k_c0)⟩
  have hu := hUR _ hm
  have ho := hOK _ hm
  obtain ⟨hf, b, b1, b2⟩ := UR_b hW hVn.2.1 hu.1 hu.2
  have hOT : OKT NF (Cl.getD i k_c0) := ⟨hf, ho⟩
  obtain ⟨r1, r2, r3, r4, r5, r6⟩ := hPR i hi
  have cA := (wl_CL hOT.2.1 hOT.2.2 (hPG.2.2.2 _ hf).1).resolve_left r2
  have cR := (wl_CL hOT.2.1 hOT.2.2 (hPG.2.2.2 _ hf).2).resolve_left r3
  have hb3 : ml (19 + (Cl.getD i k_c0).1) b = ml 14 (Cl.getD i k_c0).1 := by
    by_cases c : ml (19 + (Cl.getD i k_c0).1) b = ml 14 (Cl.getD i k_c0).1
    · exact c
    · exact absurd ⟨_, b, hu.1, hu.2, by omega, by omega, b2, c⟩ hVn.2.2
  refine ⟨hOT, (hCR.2.2 i hi).2.1, ⟨cA, cR, r4.trans (width_wd cA), r5.trans (width_wd cR)⟩, b, b1, b2, ?_, ?_, fun n hn => ?_⟩
  · obtain ⟨-, -, -, f15, -⟩ := hF.2 _ hf
    rw [← f15]
    exact b2
  · unfold sgm cRS
    rw [hb3]
  · rw [b2, nI_clamp (by omega)] at r6
    obtain ⟨w1, w2, w3⟩ := r6 n (po_bl hW b1 hn)
    have hnN := BL_le hND hW.2.1 b1 hn
    have cs := (sg_n hPG hOT (show n < ND by omega) w2).2
    exact ⟨w2, w1.trans (width_wd cs), w3⟩
end MPQ
