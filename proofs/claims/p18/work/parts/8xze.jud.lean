/-! ===== what is alike between two calls, with the count of runs ===== -/
def RU (m : mm_P) : Prop := m 0 11 = m 176 46 ∧ 0 ≤ (m 0 11).toInt ∧ (m 0 11).toInt ≤ 160
theorem RU_e {m n : mm_P} (h : RU m) (h1 : n 0 11 = m 0 11) (h2 : n 176 46 = m 176 46) : RU n := by
  unfold RU
  rw [h1, h2]
  exact h
/-- what was told last is alike -/
def RRw (m : mm_P) : Prop := (¬ m 176 47 = 0 → m 162 1 = 0) ∧ (m 176 47 = 0 → m 162 1 = m 176 51 ∧ ∀ i : Nat, (i : Int) < (m 176 51).toInt → m 163 i = m 214 i)
theorem RR_e {m n : mm_P} (h : RRw m) (h1 : n 162 1 = m 162 1) (h3 : ∀ i, n 163 i = m 163 i) (h47 : n 176 47 = m 176 47) (h51 : n 176 51 = m 176 51) (h14 : ∀ i, n 214 i = m 214 i) : RRw n := by
  refine ⟨fun z => ?_, fun z => ?_⟩
  · rw [h47] at z
    rw [h1]
    exact h.1 z
  · rw [h47] at z
    obtain ⟨a, b⟩ := h.2 z
    refine ⟨by rw [h1, h51]; exact a, fun i hi => ?_⟩
    rw [h51] at hi
    rw [h3 i, h14 i]
    exact b i hi
def SR (m : mm_P) : Prop := TRN m ∧ RU m ∧ RRw m
theorem SR_lo {m n : mm_P} (h : SR m) (hp : ∀ c i, (c < 176 ∨ (c = 176 ∧ (i = 46 ∨ i = 47 ∨ i = 51)) ∨ c = 214) → n c i = m c i) : SR n :=
  ⟨TRN_e h.1 (hp 3 5 (by omega)) (fun i => hp 4 i (by omega)) (fun i => hp 6 i (by omega)), RU_e h.2.1 (hp 0 11 (by omega)) (hp 176 46 (by omega)), RR_e h.2.2 (hp 162 1 (by omega)) (fun i => hp 163 i (by omega)) (hp 176 47 (by omega)) (hp 176 51 (by omega)) (fun i => hp 214 i (by omega))⟩
theorem SR_p {m n : mm_P} (h : SR m) (hp : PR m n) : SR n := SR_lo h (fun c i q => by
  rcases q with q | ⟨rfl, rfl | rfl | rfl⟩ | rfl
  · exact hp c i (pg_low q)
  · exact hp 176 46 rfl
  · exact hp 176 47 rfl
  · exact hp 176 51 rfl
  · exact hp 214 i rfl)
theorem SR_k {m n : mm_P} (h : SR m) (b : KO m n) : SR n := SR_lo h (fun c i q => by
  rcases q with q | ⟨rfl, rfl | rfl | rfl⟩ | rfl
  · exact b.1 c i q
  · exact b.2.2.2.1
  · exact b.2.2.2.2.1
  · exact b.2.2.1
  · exact b.2.2.2.2.2 i)
def mm_srW (W : List (Nat × Nat × Nat)) : Bool := !(mm_wr W 3 5) && (!(mm_wr W 0 11) && (mm_avC W 4 && (mm_avC W 6 && (!(mm_wr W 162 1) && mm_avC W 163))))
theorem SR_f {W : List (Nat × Nat × Nat)} {m n : mm_P} {ml n2 : mm_G} (h : SR m) (hW : mm_srW W = true) (hh : mm_hiW W = true) (hf : mm_fw W m ml n n2) : SR n := by
  unfold mm_srW at hW
  simp only [Bool.and_eq_true, Bool.not_eq_true'] at hW
  obtain ⟨w35, w011, w4, w6, w1, w3⟩ := hW
  exact ⟨TRN_e h.1 (hf 3 5 w35).1 (fun i => (hf 4 i (mm_avC_s w4)).1) (fun i => (hf 6 i (mm_avC_s w6)).1), RU_e h.2.1 (hf 0 11 w011).1 (hf 176 46 (mm_hi_f hh (by decide))).1, RR_e h.2.2 (hf 162 1 w1).1 (fun i => (hf 163 i (mm_avC_s w3)).1) (hf 176 47 (mm_hi_f hh (by decide))).1 (hf 176 51 (mm_hi_f hh (by decide))).1 (fun i => (hf 214 i (mm_hi_f hh (by decide))).1)⟩
/-- as CV, with the TRUTH nodes' numbers, the count of runs, the told rows -/
def CKR (m : mm_P) (ml : mm_G) : Prop := CV m ml ∧ SR m
theorem CKR_0 : CKR mm_i0 mm_l0 := by
  have r : ∀ c i x, mm_n0 c i x = true → mm_i0 c i = x := fun c i x h => mm_n0_s h
  have e1 : mm_i0 0 11 = 0 := r 0 11 0 (by decide +kernel)
  have e2 : mm_i0 176 46 = 0 := r 176 46 0 (by decide +kernel)
  have e3 : mm_i0 3 5 = 0 := r 3 5 0 (by decide +kernel)
  have e4 : mm_i0 162 1 = 0 := r 162 1 0 (by decide +kernel)
  have e5 : mm_i0 176 51 = 0 := r 176 51 0 (by decide +kernel)
  refine ⟨CV_0, fun n hn _ => ?_, ⟨e1.trans e2.symm, ?_, ?_⟩, fun _ => e4, fun _ => ⟨e4.trans e5.symm, fun i hi => ?_⟩⟩
  · rw [e3, mm_tt0] at hn
    omega
  · rw [e1]
    decide
  · rw [e1]
    decide
  · rw [e5, mm_tt0] at hi
    omega
theorem CKR_p {m n : mm_P} {ml : mm_G} (h : CKR m ml) (hp : PR m n) : CKR n ml := ⟨CV_p h.1 hp, SR_p h.2 hp⟩
theorem CKR_f {W : List (Nat × Nat × Nat)} {m n1 : mm_P} {ml n2 : mm_G} (h : CKR m ml) (hW : mm_stW W = true) (hW2 : ((List.range 12).all (fun j => mm_avC W (19 + j))) = true) (hW3 : mm_uvW W = true) (hW4 : mm_vcW W = true) (hW5 : mm_srW W = true) (hh : mm_hiW W = true) (hIC : mm_IC n1) (hf : mm_fw W m ml n1 n2) : CKR n1 n2 := ⟨CV_f h.1 hW hW2 hW3 hW4 hIC hf, SR_f h.2 hW5 hh hf⟩
section MMT
variable {L : Nat} {xs : Nat → Int32} {d D : Nat} {mi : mm_P} {ml : mm_G} {NB ND NF : Nat}
theorem sr_c {W : List (Nat × Nat × Nat)} {n1 : mm_P} {n2 : mm_G} (h : CKR mi ml) (hW : mm_srW W = true) (hh : mm_hiW W = true) (hf : mm_fw W mi ml n1 n2) : SR n1 ∧ FIx n1 := ⟨SR_f h.2 hW hh hf, ck_i h.1.1 hh hf⟩
theorem sr_node {k a b c e : Int32} (hCK : CK mi ml) (h : SR mi) : mm_cq (mm_call mm_ms (mm_tb L xs) (d + 20)) 144 [mm_R 0, mm_I k, mm_I a, mm_I b, mm_I c, mm_I e] mi ml (fun _ n1 _ => SR n1) := by
  obtain ⟨NB, ND, NF, hI, hT, hN, hF, hW⟩ := CK_WJ hCK
  have hND := hI.1.2.1
  have hNF := hI.1.2.2
  have hdp : ∀ n, n < ND → 1 ≤ (mi 5 n).toInt ∧ (mi 5 n).toInt ≤ 12 := fun n hn => (dep_of hI hN n hn).1
  refine sy_X11_node (dep := mi 5) hCK.1.1.1 hT.1 hI.1.1.2 hN.1 hND hF.1 hNF (fun _ _ => rfl) hdp (fun _ => h) (fun _ _ => h) (fun _ _ _ => h) (fun hok _ hlt v n1 n2 _ _ _ hn1 _ _ => ?_)
  subst hn1
  have hoth : ∀ c' i, ¬ (c' = 4 ∧ i = ND) → ¬ (c' = 5 ∧ i = ND) → ¬ (c' = 6 ∧ 4 * ND ≤ i ∧ i < 4 * ND + 4) → ¬ (c' = 3 ∧ i = 5) → A7 mi ND k v a b c e c' i = mi c' i := fun c' i q1 q2 q3 q4 => A7_o q1 q2 q3 q4
  obtain ⟨t1, t2⟩ := h
  refine ⟨fun n hn k1 => ?_, ?_⟩
  · rw [A7_v.2.2.2.2.2.2, mm_tI (by omega)] at hn
    by_cases q : n = ND
    · subst q
      rw [A7_v.1] at k1
      rw [A7_v.2.2.1]
      exact hok.2.1 k1
    · rw [hoth 4 n (by omega) (by omega) (by omega) (by omega)] at k1
      rw [hoth 6 (4 * n) (by omega) (by omega) (by omega) (by omega)]
      refine t1 n ?_ k1
      rw [hN.1, mm_tI (by omega)]
      omega
  · have ho : ∀ c' i', ¬ (c' = 3 ∨ c' = 4 ∨ c' = 5 ∨ c' = 6) → A7 mi ND k v a b c e c' i' = mi c' i' := fun c' i' q => hoth c' i' (by omega) (by omega) (by omega) (by omega)
    exact ⟨RU_e t2.1 (ho 0 11 (by decide)) (ho 176 46 (by decide)), RR_e t2.2 (ho 162 1 (by decide)) (fun i => ho 163 i (by decide)) (ho 176 47 (by decide)) (ho 176 51 (by decide)) (fun i => ho 214 i (by decide))⟩
theorem lr_up {C : Type} {f : C → mm_V} {c c' : Nat} {As As' : List mm_V} {Q' : C → C → mm_P → mm_G → Prop} (hl : mm_cq (mm_call mm_ms (mm_tb L xs) D) c As mi ml (fun o n1 n2 => ∃ v, o = some (f v) ∧ mm_cq (mm_call mm_ms (mm_tb L xs) D) c' As' n1 n2 (fun o2 n3 n4 => ∃ v2, o2 = some (f v2) ∧ (v = v2 ∧ CV n3 n4)))) (hc : mm_cq (mm_call mm_ms (mm_tb L xs) D) c As mi ml (fun _ n1 _ => SR n1 ∧ FIx n1)) (hm : ∀ n1 n2 NB ND NF, SR n1 → IM n1 NB ND NF → (0 ≤ (n1 176 41).toInt ∧ (n1 176 41).toInt ≤ 16) → mm_cq (mm_call mm_ms (mm_tb L xs) D) c' As' n1 n2 (fun _ n3 _ => SR n3)) (hQ : ∀ v n m2, CKR n m2 → Q' v v n m2) : mm_cq (mm_call mm_ms (mm_tb L xs) D) c As mi ml (fun o n1 n2 => ∃ v, o = some (f v) ∧ mm_cq (mm_call mm_ms (mm_tb L xs) D) c' As' n1 n2 (fun o2 n3 n4 => ∃ v2, o2 = some (f v2) ∧ Q' v v2 n3 n4)) :=
  mm_cq_m (mm_call_m _) (mm_up (P := fun v v2 n m2 => v = v2 ∧ CV n m2) (F := fun n1 _ => SR n1 ∧ FIx n1) (G := fun n _ => SR n) hl hc (fun n1 n2 ⟨hu, ⟨NB, ND, NF, hI⟩, h41⟩ => hm n1 n2 NB ND NF hu hI h41)) (fun o n1 n2 ⟨v, e, z⟩ => ⟨v, e, mm_cq_m (mm_call_m _) z (fun o2 n3 n4 ⟨v2, e2, ⟨e3, h3⟩, h4⟩ => ⟨v2, e2, by subst e3; exact hQ v n3 n4 ⟨h3, h4⟩⟩)⟩)
theorem lr_pair {x1 x2 : Int32} {Q' : Int32 → Int32 → mm_P → mm_G → Prop} (hCR : CKR mi ml) (hQ : ∀ v n m2, CKR n m2 → Q' v v n m2) : mm_cq (mm_call mm_ms (mm_tb L xs) (d + 20)) 141 [mm_R 0, mm_I x1, mm_I x2] mi ml (fun o n1 n2 => ∃ v, o = some (mm_I v) ∧ mm_cq (mm_call mm_ms (mm_tb L xs) (d + 20)) 176 [mm_R 176, mm_I x1, mm_I x2] n1 n2 (fun o2 n3 n4 => ∃ v2, o2 = some (mm_I v2) ∧ Q' v v2 n3 n4)) :=
  lr_up (C := Int32) (f := mm_I) (lv_pair (Q' := fun v v2 n m2 => v = v2 ∧ CV n m2) hCR.1 (fun v n m2 h => ⟨rfl, h⟩)) (sc_X11_pair (Q := fun _ n1 _ => SR n1 ∧ FIx n1) hCR.1.1.1.1.1 (fun v n1 n2 hi hf => sr_c hCR (by decide +kernel) (by decide +kernel) hf)) (fun n1 n2 NB ND NF hu hI h41 => sp_pair hI (fun n NB' v a b => SR_k hu b)) hQ
theorem lr_list {x1 : Int32} {Q' : Int32 → Int32 → mm_P → mm_G → Prop} (hCR : CKR mi ml) (hQ : ∀ v n m2, CKR n m2 → Q' v v n m2) : mm_cq (mm_call mm_ms (mm_tb L xs) (d + 20)) 142 [mm_R 0, mm_I x1] mi ml (fun o n1 n2 => ∃ v, o = some (mm_I v) ∧ mm_cq (mm_call mm_ms (mm_tb L xs) (d + 20)) 177 [mm_R 176, mm_I x1] n1 n2 (fun o2 n3 n4 => ∃ v2, o2 = some (mm_I v2) ∧ Q' v v2 n3 n4)) :=
  lr_up (C := Int32) (f := mm_I) (lv_list (Q' := fun v v2 n m2 => v = v2 ∧ CV n m2) hCR.1 (fun v n m2 h => ⟨rfl, h⟩)) (sc_X11_list (Q := fun _ n1 _ => SR n1 ∧ FIx n1) hCR.1.1.1.1.1 (fun v n1 n2 hi hf => sr_c hCR (by decide +kernel) (by decide +kernel) hf)) (fun n1 n2 NB ND NF hu hI h41 => sp_list hI (fun n NB' v a b => SR_k hu b)) hQ
theorem lr_type {x1 x2 : Int32} {Q' : Int32 → Int32 → mm_P → mm_G → Prop} (hCR : CKR mi ml) (hQ : ∀ v n m2, CKR n m2 → Q' v v n m2) : mm_cq (mm_call mm_ms (mm_tb L xs) (d + 20)) 143 [mm_R 0, mm_I x1, mm_I x2] mi ml (fun o n1 n2 => ∃ v, o = some (mm_I v) ∧ mm_cq (mm_call mm_ms (mm_tb L xs) (d + 20)) 179 [mm_R 176, mm_I x1, mm_I x2] n1 n2 (fun o2 n3 n4 => ∃ v2, o2 = some (mm_I v2) ∧ Q' v v2 n3 n4)) :=
  lr_up (C := Int32) (f := mm_I) (lv_type (Q' := fun v v2 n m2 => v = v2 ∧ CV n m2) hCR.1 (fun v n m2 h => ⟨rfl, h⟩)) (sc_X11_type (Q := fun _ n1 _ => SR n1 ∧ FIx n1) hCR.1.1.1.1.1 (fun v n1 n2 hi hf => sr_c hCR (by decide +kernel) (by decide +kernel) hf)) (fun n1 n2 NB ND NF hu hI h41 => sp_type hI (fun v => hu)) hQ
theorem lr_node {k a b c e : Int32} {Q' : Int32 → Int32 → mm_P → mm_G → Prop} (hCR : CKR mi ml) (hQ : ∀ v n m2, CKR n m2 → Q' v v n m2) : mm_cq (mm_call mm_ms (mm_tb L xs) (d + 20)) 144 [mm_R 0, mm_I k, mm_I a, mm_I b, mm_I c, mm_I e] mi ml (fun o n1 n2 => ∃ v, o = some (mm_I v) ∧ mm_cq (mm_call mm_ms (mm_tb L xs) (d + 20)) 189 [mm_R 176, mm_I k, mm_I a, mm_I b, mm_I c, mm_I e] n1 n2 (fun o2 n3 n4 => ∃ v2, o2 = some (mm_I v2) ∧ Q' v v2 n3 n4)) :=
  lr_up (C := Int32) (f := mm_I) (lv_node (Q' := fun v v2 n m2 => v = v2 ∧ CV n m2) hCR.1 (fun v n m2 h => ⟨rfl, h⟩)) (mm_cq_m (mm_call_m _) (mm_cq_a (sr_node hCR.1.1 hCR.2) (sc_X11_node (Q := fun _ n1 _ => FIx n1) hCR.1.1.1.1.1 (fun v n1 n2 hi hf => ck_i hCR.1.1 (by decide +kernel) hf))) (fun o n1 n2 z => z)) (fun n1 n2 NB ND NF hu hI h41 => sp_node hI (fun n ND' v a b => SR_k hu b)) hQ
theorem lr_function {x1 x2 x3 : Int32} {Q' : Int32 → Int32 → mm_P → mm_G → Prop} (hCR : CKR mi ml) (hQ : ∀ v n m2, CKR n m2 → Q' v v n m2) : mm_cq (mm_call mm_ms (mm_tb L xs) (d + 20)) 147 [mm_R 0, mm_I x1, mm_I x2, mm_I x3] mi ml (fun o n1 n2 => ∃ v, o = some (mm_I v) ∧ mm_cq (mm_call mm_ms (mm_tb L xs) (d + 20)) 190 [mm_R 176, mm_I x1, mm_I x2, mm_I x3] n1 n2 (fun o2 n3 n4 => ∃ v2, o2 = some (mm_I v2) ∧ Q' v v2 n3 n4)) :=
  lr_up (C := Int32) (f := mm_I) (lv_function (Q' := fun v v2 n m2 => v = v2 ∧ CV n m2) hCR.1 (fun v n m2 h => ⟨rfl, h⟩)) (sc_X11_function (Q := fun _ n1 _ => SR n1 ∧ FIx n1) hCR.1.1.1.1.1 (fun v n1 n2 hi hf => sr_c hCR (by decide +kernel) (by decide +kernel) hf)) (fun n1 n2 NB ND NF hu hI h41 => sp_function hI (fun n NF' v a b => SR_k hu b)) hQ
theorem lr_body {x1 x2 : Int32} {Q' : Int32 → Int32 → mm_P → mm_G → Prop} (hCR : CKR mi ml) (hQ : ∀ v n m2, CKR n m2 → Q' v v n m2) : mm_cq (mm_call mm_ms (mm_tb L xs) (d + 20)) 148 [mm_R 0, mm_I x1, mm_I x2] mi ml (fun o n1 n2 => ∃ v, o = some (mm_I v) ∧ mm_cq (mm_call mm_ms (mm_tb L xs) (d + 20)) 191 [mm_R 176, mm_I x1, mm_I x2] n1 n2 (fun o2 n3 n4 => ∃ v2, o2 = some (mm_I v2) ∧ Q' v v2 n3 n4)) :=
  lr_up (C := Int32) (f := mm_I) (lv_body (Q' := fun v v2 n m2 => v = v2 ∧ CV n m2) hCR.1 (fun v n m2 h => ⟨rfl, h⟩)) (sc_X11_body (Q := fun _ n1 _ => SR n1 ∧ FIx n1) hCR.1.1.1.1.1 (fun v n1 n2 hi hf => sr_c hCR (by decide +kernel) (by decide +kernel) hf)) (fun n1 n2 NB ND NF hu hI h41 => sp_body hI (fun n v a b => SR_k hu b)) hQ
theorem lr_count {x1 : Int32} {Q' : Int32 → Int32 → mm_P → mm_G → Prop} (hCR : CKR mi ml) (hQ : ∀ v n m2, CKR n m2 → Q' v v n m2) : mm_cq (mm_call mm_ms (mm_tb L xs) (d + 20)) 162 [mm_R 0, mm_I x1] mi ml (fun o n1 n2 => ∃ v, o = some (mm_I v) ∧ mm_cq (mm_call mm_ms (mm_tb L xs) (d + 20)) 233 [mm_R 176, mm_I x1] n1 n2 (fun o2 n3 n4 => ∃ v2, o2 = some (mm_I v2) ∧ Q' v v2 n3 n4)) :=
  lr_up (C := Int32) (f := mm_I) (lv_count (Q' := fun v v2 n m2 => v = v2 ∧ CV n m2) hCR.1 (fun v n m2 h => ⟨rfl, h⟩)) (sc_X11_count (Q := fun _ n1 _ => SR n1 ∧ FIx n1) hCR.1.1.1.1.1 (fun v n1 n2 hi hf => sr_c hCR (by decide +kernel) (by decide +kernel) hf)) (fun n1 n2 NB ND NF hu hI h41 => sp_count (fun _ => hu) (fun _ v => hu)) hQ
theorem lr_digest {Q' : Int64 → Int64 → mm_P → mm_G → Prop} (hCR : CKR mi ml) (hQ : ∀ v n m2, CKR n m2 → Q' v v n m2) : mm_cq (mm_call mm_ms (mm_tb L xs) (d + 20)) 163 [mm_R 0] mi ml (fun o n1 n2 => ∃ v, o = some (mm_L v) ∧ mm_cq (mm_call mm_ms (mm_tb L xs) (d + 20)) 235 [mm_R 176] n1 n2 (fun o2 n3 n4 => ∃ v2, o2 = some (mm_L v2) ∧ Q' v v2 n3 n4)) :=
  lr_up (C := Int64) (f := mm_L) (lv_digest (Q' := fun v v2 n m2 => v = v2 ∧ CV n m2) hCR.1 (fun v n m2 h => ⟨rfl, h⟩)) (sc_X11_digest (Q := fun _ n1 _ => SR n1 ∧ FIx n1) hCR.1.1.1.1.1 (fun v n1 n2 hi hf => sr_c hCR (by decide +kernel) (by decide +kernel) hf)) (fun n1 n2 NB ND NF hu hI h41 => sp_digest hI (fun v => hu)) hQ
theorem lr_input {x1 : Int32} {Q' : Int32 → Int32 → mm_P → mm_G → Prop} (hCR : CKR mi ml) (hQ : ∀ v n m2, CKR n m2 → Q' v v n m2) : mm_cq (mm_call mm_ms (mm_tb L xs) (d + 20)) 156 [mm_R 0, mm_I x1] mi ml (fun o n1 n2 => ∃ v, o = some (mm_I v) ∧ mm_cq (mm_call mm_ms (mm_tb L xs) (d + 20)) 211 [mm_R 176, mm_I x1] n1 n2 (fun o2 n3 n4 => ∃ v2, o2 = some (mm_I v2) ∧ Q' v v2 n3 n4)) :=
  lr_up (C := Int32) (f := mm_I) (lv_input (Q' := fun v v2 n m2 => v = v2 ∧ CV n m2) hCR.1 (fun v n m2 h => ⟨rfl, h⟩)) (sc_X11_input (Q := fun _ n1 _ => SR n1 ∧ FIx n1) hCR.1.1.1.1.1 (fun v n1 n2 hi hf => sr_c hCR (by decide +kernel) (by decide +kernel) hf)) (fun n1 n2 NB ND NF hu hI h41 => sp_input h41 (fun _ => hu) (fun _ _ => SR_lo hu (fun c i q => by rw [mm_u_o (by omega), mm_u_o (by omega)]))) hQ
theorem lr_empty {Q' : Int32 → Int32 → mm_P → mm_G → Prop} (hCR : CKR mi ml) (hQ : ∀ v n m2, CKR n m2 → Q' v v n m2) : mm_cq (mm_call mm_ms (mm_tb L xs) (d + 20)) 157 [mm_R 0] mi ml (fun o n1 n2 => ∃ v, o = some (mm_I v) ∧ mm_cq (mm_call mm_ms (mm_tb L xs) (d + 20)) 212 [mm_R 176] n1 n2 (fun o2 n3 n4 => ∃ v2, o2 = some (mm_I v2) ∧ Q' v v2 n3 n4)) :=
  lr_up (C := Int32) (f := mm_I) (lv_empty (Q' := fun v v2 n m2 => v = v2 ∧ CV n m2) hCR.1 (fun v n m2 h => ⟨rfl, h⟩)) (sc_X11_empty (Q := fun _ n1 _ => SR n1 ∧ FIx n1) hCR.1.1.1.1.1 (fun v n1 n2 hi hf => sr_c hCR (by decide +kernel) (by decide +kernel) hf)) (fun n1 n2 NB ND NF hu hI h41 => sp_empty (SR_lo hu (fun c i q => mm_u_o (by omega)))) hQ
theorem lr_typeIn {x1 x2 : Int32} {Q' : Int32 → Int32 → mm_P → mm_G → Prop} (hCR : CKR mi ml) (hQ : ∀ v n m2, CKR n m2 → Q' v v n m2) : mm_cq (mm_call mm_ms (mm_tb L xs) (d + 20)) 150 [mm_R 0, mm_I x1, mm_I x2] mi ml (fun o n1 n2 => ∃ v, o = some (mm_I v) ∧ mm_cq (mm_call mm_ms (mm_tb L xs) (d + 20)) 195 [mm_R 176, mm_I x1, mm_I x2] n1 n2 (fun o2 n3 n4 => ∃ v2, o2 = some (mm_I v2) ∧ Q' v v2 n3 n4)) :=
  lr_up (C := Int32) (f := mm_I) (lv_typeIn (Q' := fun v v2 n m2 => v = v2 ∧ CV n m2) hCR.1 (fun v n m2 h => ⟨rfl, h⟩)) (sc_X11_typeIn (Q := fun _ n1 _ => SR n1 ∧ FIx n1) hCR.1.1.1.1.1 (fun v n1 n2 hi hf => sr_c hCR (by decide +kernel) (by decide +kernel) hf)) (fun n1 n2 NB ND NF hu hI h41 => sp_typeIn hI (fun w v hp => SR_p hu hp)) hQ
theorem lr_wrong {x1 : Int32} {Q' : Int32 → Int32 → mm_P → mm_G → Prop} (hCR : CKR mi ml) (hQ : ∀ v n m2, CKR n m2 → Q' v v n m2) : mm_cq (mm_call mm_ms (mm_tb L xs) (d + 20)) 151 [mm_R 0, mm_I x1] mi ml (fun o n1 n2 => ∃ v, o = some (mm_I v) ∧ mm_cq (mm_call mm_ms (mm_tb L xs) (d + 20)) 197 [mm_R 176, mm_I x1] n1 n2 (fun o2 n3 n4 => ∃ v2, o2 = some (mm_I v2) ∧ Q' v v2 n3 n4)) :=
  lr_up (C := Int32) (f := mm_I) (lv_wrong (Q' := fun v v2 n m2 => v = v2 ∧ CV n m2) hCR.1 (fun v n m2 h => ⟨rfl, h⟩)) (sc_X11_wrong (Q := fun _ n1 _ => SR n1 ∧ FIx n1) hCR.1.1.1.1.1 (fun v n1 n2 hi hf => sr_c hCR (by decide +kernel) (by decide +kernel) hf)) (fun n1 n2 NB ND NF hu hI h41 => sp_wrong hI (fun w v hp => SR_p hu hp)) hQ
theorem lr_reaches {x1 x2 : Int32} {Q' : Int32 → Int32 → mm_P → mm_G → Prop} (hCR : CKR mi ml) (hQ : ∀ v n m2, CKR n m2 → Q' v v n m2) : mm_cq (mm_call mm_ms (mm_tb L xs) (d + 20)) 152 [mm_R 0, mm_I x1, mm_I x2] mi ml (fun o n1 n2 => ∃ v, o = some (mm_I v) ∧ mm_cq (mm_call mm_ms (mm_tb L xs) (d + 20)) 199 [mm_R 176, mm_I x1, mm_I x2] n1 n2 (fun o2 n3 n4 => ∃ v2, o2 = some (mm_I v2) ∧ Q' v v2 n3 n4)) :=
  lr_up (C := Int32) (f := mm_I) (lv_reaches (Q' := fun v v2 n m2 => v = v2 ∧ CV n m2) hCR.1 (fun v n m2 h => ⟨rfl, h⟩)) (sc_X11_reaches (Q := fun _ n1 _ => SR n1 ∧ FIx n1) hCR.1.1.1.1.1 (fun v n1 n2 hi hf => sr_c hCR (by decide +kernel) (by decide +kernel) hf)) (fun n1 n2 NB ND NF hu hI h41 => sp_reaches hI (fun w v hp => SR_p hu hp)) hQ
theorem lr_judge {Q' : Int32 → Int32 → mm_P → mm_G → Prop} (hCR : CKR mi ml) (hQ : ∀ v n m2, CKR n m2 → Q' v v n m2) : mm_cq (mm_call mm_ms (mm_tb L xs) (d + 20)) 153 [mm_R 0] mi ml (fun o n1 n2 => ∃ v, o = some (mm_I v) ∧ mm_cq (mm_call mm_ms (mm_tb L xs) (d + 20)) 202 [mm_R 176] n1 n2 (fun o2 n3 n4 => ∃ v2, o2 = some (mm_I v2) ∧ Q' v v2 n3 n4)) :=
  lr_up (C := Int32) (f := mm_I) (lv_judge (Q' := fun v v2 n m2 => v = v2 ∧ CV n m2) hCR.1 (fun v n m2 h => ⟨rfl, h⟩)) (sc_X11_judge (Q := fun _ n1 _ => SR n1 ∧ FIx n1) hCR.1.1.1.1.1 (fun v n1 n2 hi hf => sr_c hCR (by decide +kernel) (by decide +kernel) hf)) (fun n1 n2 NB ND NF hu hI h41 => sp_judge hI (fun w v hp _ => SR_p hu hp)) hQ
theorem lr_copies {Q' : Int32 → Int32 → mm_P → mm_G → Prop} (hCR : CKR mi ml) (hQ : ∀ v n m2, CKR n m2 → Q' v v n m2) : mm_cq (mm_call mm_ms (mm_tb L xs) (d + 20)) 154 [mm_R 0] mi ml (fun o n1 n2 => ∃ v, o = some (mm_I v) ∧ mm_cq (mm_call mm_ms (mm_tb L xs) (d + 20)) 209 [mm_R 176] n1 n2 (fun o2 n3 n4 => ∃ v2, o2 = some (mm_I v2) ∧ Q' v v2 n3 n4)) :=
  lr_up (C := Int32) (f := mm_I) (lv_copies (Q' := fun v v2 n m2 => v = v2 ∧ CV n m2) hCR.1 (fun v n m2 h => ⟨rfl, h⟩)) (sc_X11_copies (Q := fun _ n1 _ => SR n1 ∧ FIx n1) hCR.1.1.1.1.1 (fun v n1 n2 hi hf => sr_c hCR (by decide +kernel) (by decide +kernel) hf)) (fun n1 n2 NB ND NF hu hI h41 => sp_copies hI (fun w v hp => SR_p hu hp)) hQ
theorem lr_copy {x1 x2 : Int32} {Q' : Int32 → Int32 → mm_P → mm_G → Prop} (hCR : CKR mi ml) (hQ : ∀ v n m2, CKR n m2 → Q' v v n m2) : mm_cq (mm_call mm_ms (mm_tb L xs) (d + 20)) 155 [mm_R 0, mm_I x1, mm_I x2] mi ml (fun o n1 n2 => ∃ v, o = some (mm_I v) ∧ mm_cq (mm_call mm_ms (mm_tb L xs) (d + 20)) 210 [mm_R 176, mm_I x1, mm_I x2] n1 n2 (fun o2 n3 n4 => ∃ v2, o2 = some (mm_I v2) ∧ Q' v v2 n3 n4)) :=
  lr_up (C := Int32) (f := mm_I) (lv_copy (Q' := fun v v2 n m2 => v = v2 ∧ CV n m2) hCR.1 (fun v n m2 h => ⟨rfl, h⟩)) (sc_X11_copy (Q := fun _ n1 _ => SR n1 ∧ FIx n1) hCR.1.1.1.1.1 (fun v n1 n2 hi hf => sr_c hCR (by decide +kernel) (by decide +kernel) hf)) (fun n1 n2 NB ND NF hu hI h41 => sp_copy hI (fun w v hp => SR_p hu hp)) hQ
end MMT
