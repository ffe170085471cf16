/-! ===== copies: how they are found ===== -/
abbrev CTy : Type := Nat × Int64 × Int64
def k_c0 : CTy := (0, -1, -1)
def k_cg (m : mm_P) (n : Nat) : Nat := (m 6 (4 * n)).toNatClampNeg
def k_ca (m : mm_P) (ml : mm_G) (A B : Int64) (n : Nat) : Int64 := f_with (SHO ml (m 6 (4 * n + 2))) A B
def k_cb (m : mm_P) (ml : mm_G) (A B : Int64) (n : Nat) : Int64 := f_with (SHO ml (m 6 (4 * n + 3))) A B
/-- the copy that a call wants -/
def k_ct (m : mm_P) (ml : mm_G) (A B : Int64) (n : Nat) : CTy := (k_cg m n, k_ca m ml A B n, k_cb m ml A B n)
def k_cst (m : mm_P) (ml : mm_G) (f : Nat) (A B : Int64) (C : List CTy) (n : Nat) : Option (List CTy) :=
  if f_with (ml (19 + f) n) A B = -1 then none
  else if m 4 n = 14 then
    (if (¬ m 10 (k_cg m n) ≤ 0 ∧ k_ca m ml A B n = -1) ∨ (¬ m 10 (k_cg m n) ≤ 1 ∧ k_cb m ml A B n = -1) then none
    else if k_ct m ml A B n ∈ C then some C
    else if C.length < 60 then some (C ++ [k_ct m ml A B n]) else none)
  else some C
def k_cfs (m : mm_P) (ml : mm_G) (f : Nat) (A B : Int64) : List Nat → List CTy → Option (List CTy)
  | [], C => some C
  | n :: r, C => match k_cst m ml f A B C n with
    | none => none
    | some C' => k_cfs m ml f A B r C'
def k_con (m : mm_P) (ml : mm_G) (C : List CTy) (t : CTy) : Option (List CTy) :=
  if f_with (ml 13 t.1) t.2.1 t.2.2 = -1 ∨ f_with (ml 14 t.1) t.2.1 t.2.2 = -1 then none
  else k_cfs m ml t.1 t.2.1 t.2.2 (k_po m 12 (m 15 t.1).toNatClampNeg []) C
def k_cal (m : mm_P) (ml : mm_G) : Nat → Nat → List CTy → Option (List CTy)
  | 0, _, _ => none
  | k + 1, i, C => if C.length ≤ i then some C else match k_con m ml C (C.getD i k_c0) with
    | none => none
    | some C' => k_cal m ml k (i + 1) C'
/-- the copies of the program; none: they would be too many, or a type too deep -/
def CC (m : mm_P) (ml : mm_G) : Option (List CTy) := k_cal m ml 62 0 [k_c0]
theorem getD_appC {C : List CTy} {t : CTy} {i : Nat} (h : i < C.length) : (C ++ [t]).getD i k_c0 = C.getD i k_c0 := by
  rw [List.getD_eq_getElem?_getD, List.getD_eq_getElem?_getD, List.getElem?_append_left h]
theorem getD_appS {C S : List CTy} {i : Nat} (h : i < C.length) : (C ++ S).getD i k_c0 = C.getD i k_c0 := by
  rw [List.getD_eq_getElem?_getD, List.getD_eq_getElem?_getD, List.getElem?_append_left h]
theorem getD_lastC {C : List CTy} {t : CTy} : (C ++ [t]).getD C.length k_c0 = t := by
  rw [List.getD_eq_getElem?_getD, List.getElem?_append_right (Nat.le_refl _), Nat.sub_self]
  rfl
theorem mem_getD {C : List CTy} {t : CTy} : t ∈ C ↔ ∃ e, e < C.length ∧ C.getD e k_c0 = t := by
  rw [List.mem_iff_getElem]
  constructor
  · rintro ⟨e, h, q⟩
    refine ⟨e, h, ?_⟩
    rw [List.getD_eq_getElem?_getD, List.getElem?_eq_getElem h]
    exact q
  · rintro ⟨e, h, q⟩
    refine ⟨e, h, ?_⟩
    rw [List.getD_eq_getElem?_getD, List.getElem?_eq_getElem h] at q
    exact q
theorem mem_getN {l : List Nat} {e : Nat} (h : e < l.length) : l.getD e 0 ∈ l := by
  rw [List.getD_eq_getElem?_getD, List.getElem?_eq_getElem h]
  exact List.getElem_mem h
theorem drop_s {l : List Nat} {e : Nat} (h : e < l.length) : l.drop e = l.getD e 0 :: l.drop (e + 1) := by
  rw [List.getD_eq_getElem?_getD, List.getElem?_eq_getElem h]
  exact List.drop_eq_getElem_cons h
/-- the copies stand in the class's rows -/
def CRw (w : mm_P) (wl : mm_G) (C : List CTy) : Prop := w 31 12 = nI C.length ∧ C.length ≤ 60 ∧ ∀ i, i < C.length → (C.getD i k_c0).1 < 12 ∧ w 32 i = nI (C.getD i k_c0).1 ∧ wl 33 i = (C.getD i k_c0).2.1 ∧ wl 34 i = (C.getD i k_c0).2.2
/-- what makeAll() may change -/
def XW (m w : mm_P) (ml wl : mm_G) : Prop := (∀ c i, ¬ c = 7 → ¬ c = 8 → ¬ (c = 3 ∧ i = 6) → ¬ (31 ≤ c ∧ c ≤ 159) → w c i = m c i) ∧ ∀ c i, ¬ (33 ≤ c ∧ c ≤ 35) → wl c i = ml c i
def WRn (m : mm_P) (ml : mm_G) (w : mm_P) (i : Nat) (t : CTy) (C : List CTy) (n : Nat) : Prop := w (39 + i) n = f_width (f_with (ml (19 + t.1) n) t.2.1 t.2.2) ∧ ¬ f_with (ml (19 + t.1) n) t.2.1 t.2.2 = -1 ∧ (m 4 n = 14 → ∃ j, j < C.length ∧ C.getD j k_c0 = k_ct m ml t.2.1 t.2.2 n ∧ w (100 + i) n = nI j)
/-- copy i is whole -/
def PRC (m : mm_P) (ml : mm_G) (w : mm_P) (wl : mm_G) (C : List CTy) (i : Nat) : Prop := wl 35 i = f_with (ml 13 (C.getD i k_c0).1) (C.getD i k_c0).2.1 (C.getD i k_c0).2.2 ∧ ¬ f_with (ml 13 (C.getD i k_c0).1) (C.getD i k_c0).2.1 (C.getD i k_c0).2.2 = -1 ∧ ¬ f_with (ml 14 (C.getD i k_c0).1) (C.getD i k_c0).2.1 (C.getD i k_c0).2.2 = -1 ∧ w 36 i = f_width (f_with (ml 13 (C.getD i k_c0).1) (C.getD i k_c0).2.1 (C.getD i k_c0).2.2) ∧ w 37 i = f_width (f_with (ml 14 (C.getD i k_c0).1) (C.getD i k_c0).2.1 (C.getD i k_c0).2.2) ∧ ∀ n, n ∈ k_po m 12 (m 15 (C.getD i k_c0).1).toNatClampNeg [] → WRn m ml w i (C.getD i k_c0) C n
/-- more copies do no harm -/
theorem WRn_app {m w : mm_P} {ml : mm_G} {C S : List CTy} {t : CTy} {i n : Nat} (h : WRn m ml w i t C n) : WRn m ml w i t (C ++ S) n := by
  obtain ⟨a, b, c⟩ := h
  refine ⟨a, b, fun k => ?_⟩
  obtain ⟨j, j1, j2, j3⟩ := c k
  exact ⟨j, by rw [List.length_append]; exact Nat.lt_add_right _ j1, (getD_appS j1).trans j2, j3⟩
theorem PRC_app {m w : mm_P} {ml wl : mm_G} {C S : List CTy} {i : Nat} (hi : i < C.length) (h : PRC m ml w wl C i) : PRC m ml w wl (C ++ S) i := by
  unfold PRC at h ⊢
  rw [getD_appS hi]
  exact ⟨h.1, h.2.1, h.2.2.1, h.2.2.2.1, h.2.2.2.2.1, fun n hn => WRn_app (h.2.2.2.2.2 n hn)⟩
theorem PRC_w {m w w' : mm_P} {ml wl wl' : mm_G} {C : List CTy} {i : Nat} (h : PRC m ml w wl C i) (h36 : w' 36 i = w 36 i) (h37 : w' 37 i = w 37 i) (h39 : ∀ n, w' (39 + i) n = w (39 + i) n) (h100 : ∀ n, w' (100 + i) n = w (100 + i) n) (h35 : wl' 35 i = wl 35 i) : PRC m ml w' wl' C i := by
  refine ⟨h35.trans h.1, h.2.1, h.2.2.1, h36.trans h.2.2.2.1, h37.trans h.2.2.2.2.1, fun n hn => ?_⟩
  obtain ⟨a, b, c⟩ := h.2.2.2.2.2 n hn
  refine ⟨(h39 n).trans a, b, fun k => ?_⟩
  obtain ⟨j, j1, j2, j3⟩ := c k
  exact ⟨j, j1, j2, (h100 n).trans j3⟩
section MMC
variable {L : Nat} {xs : Nat → Int32} {d : Nat} {Q : mm_QQ} {lim : Nat × Nat} {NB ND NF : Nat} {m : mm_P} {ml : mm_G}
theorem XW_r : XW m m ml ml := ⟨fun _ _ _ _ _ _ => rfl, fun _ _ _ => rfl⟩
theorem WJ_xw {w : mm_P} {wl : mm_G} (h : WJ NB ND NF m) (hx : XW m w ml wl) : WJ NB ND NF w := WJ_c h (fun c i q => hx.1 c i (by omega) (by omega) (by omega) (by omega))
theorem po_xw {w : mm_P} {wl : mm_G} {k b : Nat} {l : List Nat} (hx : XW m w ml wl) : k_po w k b l = k_po m k b l := po_c k b l (fun p _ => by
  have h4 : w 4 p = m 4 p := hx.1 4 p (by decide) (by decide) (by omega) (by omega)
  refine ⟨h4, fun i _ => ?_⟩
  unfold k_part
  rw [h4, hx.1 6 _ (by decide) (by decide) (by omega) (by omega), hx.1 6 _ (by decide) (by decide) (by omega) (by omega)])
/-! findOrAdd() -/
theorem fa_3 {w : mm_P} {wl : mm_G} {C : List CTy} {g : Nat} {a b : Int64} (hg : g < 12) (hC : CRw w wl C) (h1 : ∀ j, j < C.length → C.getD j k_c0 = (g, a, b) → Q (some (mm_I (nI j))) w wl) (h2 : ¬ (g, a, b) ∈ C → C.length < 60 → CRw (mm_u (mm_u w 32 C.length (nI g)) 31 12 (nI (C.length + 1))) (mm_u (mm_u wl 33 C.length a) 34 C.length b) (C ++ [(g, a, b)]) → Q (some (mm_I (nI C.length))) (mm_u (mm_u w 32 C.length (nI g)) 31 12 (nI (C.length + 1))) (mm_u (mm_u wl 33 C.length a) 34 C.length b)) (h3 : ¬ (g, a, b) ∈ C → ¬ C.length < 60 → Q (some (mm_I (-4))) w wl) : ∀ (j i : Nat), i + j = C.length → (∀ e, e < i → ¬ C.getD e k_c0 = (g, a, b)) → mm_WQ (mm_call mm_ms (mm_tb L xs) d) (mm_tb L xs) mm_m2 lim Q 3 [some (mm_R 31), some (mm_I (nI g)), some (mm_L a), none, some (mm_L b), none, some (mm_I (nI i))] [] w wl := by
  obtain ⟨c1, c2, c3⟩ := id hC
  have e60 : (60 : Int32).toInt = 60 := rfl
  intro j
  induction j with
  | zero =>
    intro i h hA
    have hi : i = C.length := by omega
    have hno : ¬ (g, a, b) ∈ C := fun q => by
      obtain ⟨e, e1, e2⟩ := mem_getD.mp q
      exact hA e (by omega) e2
    have hle : w 31 12 ≤ nI i := by rw [c1, hi]; exact Int32.le_refl _
    refine bk_X0_findOrAdd_3 (mm_call_m _) (fun _ => bk_X0_findOrAdd_64 (mm_call_m _) (fun z => ?_) (fun z => ?_) (fun z => ?_) (fun z => ?_) (fun z => h3 hno (fun q => z ?_))) (fun z => absurd hle z) (fun z => absurd hle z) (fun z => absurd hle z) (fun z => absurd hle z) (fun z => absurd hle z) (fun z => absurd hle z) (fun z => absurd hle z) (fun z => absurd hle z)
    · have := mm_ltI z
      rw [c1, mm_tI (by omega), e60] at this
      rw [c1]
      exact vp_in_nI (by omega) (by decide)
    · have := mm_ltI z
      rw [c1, mm_tI (by omega), e60] at this
      rw [c1]
      exact vp_in_nI (by omega) (by decide)
    · have := mm_ltI z
      rw [c1, mm_tI (by omega), e60] at this
      rw [c1]
      exact vp_in_nI (by omega) (by decide)
    · have hlt := mm_ltI z
      rw [c1, mm_tI (by omega), e60] at hlt
      rw [c1, nI_clamp (by omega), show nI C.length + 1 = nI (C.length + 1) from (nI_succ C.length).symm]
      refine h2 hno (by omega) ⟨?_, ?_, fun e he => ?_⟩
      · rw [mm_u_s, List.length_append]
        rfl
      · rw [List.length_append]
        show C.length + 1 ≤ 60
        omega
      · have he' : e < C.length + 1 := by
          rw [List.length_append] at he
          exact he
        by_cases hec : e = C.length
        · subst hec
          rw [getD_lastC, mm_u_e (by decide), mm_u_s, mm_u_e (by decide), mm_u_s, mm_u_s]
          exact ⟨hg, rfl, rfl, rfl⟩
        · rw [getD_appC (by omega), mm_u_e (by decide), mm_u_f hec, mm_u_e (by decide), mm_u_f hec, mm_u_f hec, mm_u_e (by decide)]
          exact c3 e (by omega)
    · rw [c1, Int32.lt_iff_toInt_lt, mm_tI (by omega), e60]
      omega
  | succ j ih =>
    intro i h hA
    have hlt : ¬ w 31 12 ≤ nI i := by
      rw [c1, Int32.le_iff_toInt_le, mm_tI (by omega), mm_tI (by omega)]
      omega
    have h60 : ¬ (60 : Int32) ≤ nI i := by
      rw [Int32.le_iff_toInt_le, e60, mm_tI (by omega)]
      omega
    have vi : vp_in (nI i) 60 := vp_in_nI (by omega) (by decide)
    have ei : (nI i).toNatClampNeg = i := nI_clamp (by omega)
    obtain ⟨q0, q1, q2, q3⟩ := c3 i (by omega)
    have h58 : ¬ C.getD i k_c0 = (g, a, b) → mm_WQ (mm_call mm_ms (mm_tb L xs) d) (mm_tb L xs) mm_m2 lim Q 58 [some (mm_R 31), some (mm_I (nI g)), some (mm_L a), none, some (mm_L b), none, some (mm_I (nI i))] [] w wl := fun q => by
      refine bk_X0_findOrAdd_58 (mm_call_m _) ?_
      rw [show nI i + 1 = nI (i + 1) from (nI_succ i).symm]
      refine ih (i + 1) (by omega) (fun e he => ?_)
      by_cases hei : e = i
      · rw [hei]
        exact q
      · exact hA e (by omega)
    refine bk_X0_findOrAdd_3 (mm_call_m _) (fun z => absurd z hlt) (fun _ z => absurd z h60) (fun _ _ => vi) (fun _ _ z => h58 (fun q => z ?_)) (fun _ _ _ => vi) (fun _ _ _ z => h58 (fun q => z ?_)) (fun _ _ _ _ => vi) (fun _ _ _ _ z => h58 (fun q => z ?_)) (fun _ _ z z2 z3 => h1 i (by omega) ?_)
    · rw [ei, q1, q]
    · rw [ei, q2, q]
      exact lg_eq.mpr rfl
    · rw [ei, q3, q]
      exact lg_eq.mpr rfl
    · rw [ei] at z z2 z3
      rw [q1] at z
      have y2 := lg_eq.mp z2
      have y3 := lg_eq.mp z3
      rw [q2] at y2
      rw [q3] at y3
      have y1 : (C.getD i k_c0).1 = g := nI_inj (by omega) (by omega) z
      exact Prod.ext y1 (Prod.ext y2 y3)
theorem sx_findOrAdd {w : mm_P} {wl : mm_G} {C : List CTy} {g : Nat} {a b : Int64} (hg : g < 12) (hC : CRw w wl C) (h1 : ∀ j, j < C.length → C.getD j k_c0 = (g, a, b) → Q (some (mm_I (nI j))) w wl) (h2 : ¬ (g, a, b) ∈ C → C.length < 60 → CRw (mm_u (mm_u w 32 C.length (nI g)) 31 12 (nI (C.length + 1))) (mm_u (mm_u wl 33 C.length a) 34 C.length b) (C ++ [(g, a, b)]) → Q (some (mm_I (nI C.length))) (mm_u (mm_u w 32 C.length (nI g)) 31 12 (nI (C.length + 1))) (mm_u (mm_u wl 33 C.length a) 34 C.length b)) (h3 : ¬ (g, a, b) ∈ C → ¬ C.length < 60 → Q (some (mm_I (-4))) w wl) : mm_cq (mm_call mm_ms (mm_tb L xs) (d + 1)) 2 [mm_R 31, mm_I (nI g), mm_L a, mm_L b] w wl Q :=
  en_X0_findOrAdd (bk_X0_findOrAdd_0 (mm_call_m _) (fa_3 hg hC h1 h2 h3 C.length 0 (by omega) (fun e he => absurd he (Nat.not_lt_zero _))))
/-! copyForCall() -/
theorem sx_copyForCall {w : mm_P} {wl : mm_G} {C : List CTy} {n g : Nat} {A B : Int64} (hW : WJ NB ND NF m) (hx : XW m w ml wl) (hn : n < ND) (hk : m 4 n = 14) (hg : g < NF) (h6 : m 6 (4 * n) = nI g) (hC : CRw w wl C) (h0 : (¬ m 10 g ≤ 0 ∧ k_ca m ml A B n = -1) ∨ (¬ m 10 g ≤ 1 ∧ k_cb m ml A B n = -1) → Q (some (mm_I (-4))) w wl) (h1 : ¬ ((¬ m 10 g ≤ 0 ∧ k_ca m ml A B n = -1) ∨ (¬ m 10 g ≤ 1 ∧ k_cb m ml A B n = -1)) → ∀ j, j < C.length → C.getD j k_c0 = (g, k_ca m ml A B n, k_cb m ml A B n) → Q (some (mm_I (nI j))) w wl) (h2 : ¬ ((¬ m 10 g ≤ 0 ∧ k_ca m ml A B n = -1) ∨ (¬ m 10 g ≤ 1 ∧ k_cb m ml A B n = -1)) → ¬ (g, k_ca m ml A B n, k_cb m ml A B n) ∈ C → C.length < 60 → CRw (mm_u (mm_u w 32 C.length (nI g)) 31 12 (nI (C.length + 1))) (mm_u (mm_u wl 33 C.length (k_ca m ml A B n)) 34 C.length (k_cb m ml A B n)) (C ++ [(g, k_ca m ml A B n, k_cb m ml A B n)]) → Q (some (mm_I (nI C.length))) (mm_u (mm_u w 32 C.length (nI g)) 31 12 (nI (C.length + 1))) (mm_u (mm_u wl 33 C.length (k_ca m ml A B n)) 34 C.length (k_cb m ml A B n))) (h3 : ¬ ((¬ m 10 g ≤ 0 ∧ k_ca m ml A B n = -1) ∨ (¬ m 10 g ≤ 1 ∧ k_cb m ml A B n = -1)) → ¬ (g, k_ca m ml A B n, k_cb m ml A B n) ∈ C → ¬ C.length < 60 → Q (some (mm_I (-4))) w wl) : mm_cq (mm_call mm_ms (mm_tb L xs) (d + 10)) 4 [mm_R 31, mm_I (nI n), mm_L A, mm_L B] w wl Q := by
  have hWw := WJ_xw hW hx
  obtain ⟨hKw, hok, -⟩ := id hWw
  obtain ⟨⟨k1, k2, k3⟩, n1, n2, n3⟩ := id hKw
  have e4 : w 4 n = m 4 n := hx.1 4 n (by decide) (by decide) (by omega) (by omega)
  have e6 : ∀ i, w 6 i = m 6 i := fun i => hx.1 6 i (by decide) (by decide) (by omega) (by omega)
  have e10 : w 10 g = m 10 g := hx.1 10 g (by decide) (by decide) (by omega) (by omega)
  obtain ⟨-, -, c3, c4⟩ := (hok n hn).2.2.2 (e4.trans hk)
  have hS : ∀ {v : Int32}, (v = -1 ∨ tyN NB v) → SHO wl v = SHO ml v := fun {v} hv => by
    rcases hv with h | ⟨t, t1, t2⟩
    · unfold SHO
      rw [if_pos h, if_pos h]
    · rw [SHO_t (by omega) t2, SHO_t (by omega) t2]
      exact hx.2 2 t (by omega)
  have ea : f_with (SHO wl (w 6 (4 * n + 2))) A B = k_ca m ml A B n := by
    unfold k_ca
    rw [hS c3, e6]
  have eb : f_with (SHO wl (w 6 (4 * n + 3))) A B = k_cb m ml A B n := by
    unfold k_cb
    rw [hS c4, e6]
  have h102 : ¬ ((¬ m 10 g ≤ 0 ∧ k_ca m ml A B n = -1) ∨ (¬ m 10 g ≤ 1 ∧ k_cb m ml A B n = -1)) → mm_WQ (mm_call mm_ms (mm_tb L xs) (d + 9)) (mm_tb L xs) mm_m4 (mm_li mm_m4) Q 102 [some (mm_R 31), some (mm_I (nI n)), some (mm_L A), none, some (mm_L B), none, some (mm_I (nI g)), some (mm_I (m 10 g)), some (mm_L (k_ca m ml A B n)), none, some (mm_L (k_cb m ml A B n)), none] [] w wl := fun q =>
    bk_X0_copyForCall_102 (mm_call_m _) (sx_findOrAdd (by omega) hC (fun j j1 j2 => bk_X0_copyForCall_112 (mm_call_m _) (h1 q j j1 j2)) (fun y y2 y3 => bk_X0_copyForCall_112 (mm_call_m _) (h2 q y y2 y3)) (fun y y2 => bk_X0_copyForCall_112 (mm_call_m _) (h3 q y y2)))
  refine en_X0_copyForCall (bk_X0_copyForCall_0 (mm_call_m _) (sx_wantedAt (i := 0) k2 n2 hn (by decide) ?_))
  rw [show w 6 (4 * n + 0) = nI g from (e6 _).trans h6]
  refine bk_X0_copyForCall_9 (mm_call_m _) (sx_letters2 hKw hg ?_)
  rw [e10]
  refine bk_X0_copyForCall_20 (mm_call_m _) (sx_wantedAt (i := 2) k2 n2 hn (by decide) (bk_X0_copyForCall_35 (mm_call_m _) (sx_SHO hKw c3 (bk_X0_copyForCall_38 (mm_call_m _) (sp_X10_withLetters ?_)))))
  rw [ea]
  refine bk_X0_copyForCall_44 (mm_call_m _) (sx_wantedAt (i := 3) k2 n2 hn (by decide) (bk_X0_copyForCall_59 (mm_call_m _) (sx_SHO hKw c4 (bk_X0_copyForCall_62 (mm_call_m _) (sp_X10_withLetters ?_)))))
  rw [eb]
  have h84 : ¬ (¬ m 10 g ≤ 0 ∧ k_ca m ml A B n = -1) → mm_WQ (mm_call mm_ms (mm_tb L xs) (d + 9)) (mm_tb L xs) mm_m4 (mm_li mm_m4) Q 84 [some (mm_R 31), some (mm_I (nI n)), some (mm_L A), none, some (mm_L B), none, some (mm_I (nI g)), some (mm_I (m 10 g)), some (mm_L (k_ca m ml A B n)), none, some (mm_L (k_cb m ml A B n)), none] [] w wl := fun q =>
    bk_X0_copyForCall_84 (mm_call_m _) (fun z => h102 (fun y => y.elim q (fun y => y.1 z))) (fun z z2 => h102 (fun y => y.elim q (fun y => z2 (lg_eq.mpr y.2)))) (fun z z2 => bk_X0_copyForCall_99 (mm_call_m _) (h0 (.inr ⟨z, lg_eq.mp z2⟩)))
  exact bk_X0_copyForCall_68 (mm_call_m _) (fun z => h84 (fun y => y.1 z)) (fun z z2 => bk_X0_copyForCall_99 (mm_call_m _) (h0 (.inl ⟨z, lg_eq.mp z2⟩))) (fun z z2 => h84 (fun y => z2 (lg_eq.mpr y.2)))
theorem cst_some {m : mm_P} {ml : mm_G} {f n : Nat} {A B : Int64} {C C' : List CTy} (h : k_cst m ml f A B C n = some C') : C' = C ∨ (m 4 n = 14 ∧ C' = C ++ [k_ct m ml A B n]) := by
  unfold k_cst at h
  split at h
  · cases h
  · split at h
    · rename_i k
      split at h
      · cases h
      · split at h
        · exact .inl (Option.some.inj h).symm
        · split at h
          · exact .inr ⟨k, (Option.some.inj h).symm⟩
          · cases h
    · exact .inl (Option.some.inj h).symm
/-! makeOne(): the walk over the nodes -/
def KPi (i : Nat) (w0 w : mm_P) (wl0 wl : mm_G) : Prop := (∀ e, w 36 e = w0 36 e ∧ w 37 e = w0 37 e ∧ wl 35 e = wl0 35 e) ∧ ∀ i', i' < 60 → ¬ i' = i → ∀ n, w (39 + i') n = w0 (39 + i') n ∧ w (100 + i') n = w0 (100 + i') n
theorem CRw_c {w w' : mm_P} {wl wl' : mm_G} {C : List CTy} (h : CRw w wl C) (h31 : w' 31 12 = w 31 12) (h32 : ∀ i, w' 32 i = w 32 i) (h33 : ∀ i, wl' 33 i = wl 33 i) (h34 : ∀ i, wl' 34 i = wl 34 i) : CRw w' wl' C :=
  ⟨h31.trans h.1, h.2.1, fun i hi => by rw [h32, h33, h34]; exact h.2.2 i hi⟩
theorem ML_c {w w' : mm_P} {l : List Nat} (h : ML w l) (h36 : w' 3 6 = w 3 6) (h8 : ∀ i, w' 8 i = w 8 i) : ML w' l := ⟨h36.trans h.1, fun i hi => (h8 i).trans (h.2 i hi)⟩
theorem mo_131 {i : Nat} {x3 x5 : Int64} {t : CTy} {l : List Nat} {C0 : List CTy} {R : Option (List CTy)} {w0 : mm_P} {wl0 : mm_G} (hW : WJ NB ND NF m) (hV2 : ¬ V2 m) (hi : i < 60) (ht : t.1 < NF) (hU : UR m t.1) (hlen : l.length ≤ 200) (hl : ∀ n, n ∈ l → n < ND ∧ ∃ b, b < 200 ∧ m 15 t.1 = nI b ∧ BL m b n) (h0 : R = none → ∀ w wl, Q (some (mm_I 0)) w wl) (h1 : ∀ C, R = some C → ∀ w wl, XW m w ml wl → CRw w wl C → (∀ s, s ∈ C → UR m s.1) → (∃ S, C = C0 ++ S) → (∀ e, e < l.length → WRn m ml w i t C (l.getD e 0)) → KPi i w0 w wl0 wl → Q (some (mm_I 1)) w wl) : ∀ (j e : Nat) (C : List CTy) (w : mm_P) (wl : mm_G) {x8 x9 x11 : Option mm_V}, e + j = l.length → k_cfs m ml t.1 t.2.1 t.2.2 (l.drop e) C = R → XW m w ml wl → ML w l → CRw w wl C → (∀ s, s ∈ C → UR m s.1) → (∃ S, C = C0 ++ S) → i < C.length → C.getD i k_c0 = t → (∀ e', e' < e → WRn m ml w i t C (l.getD e' 0)) → KPi i w0 w wl0 wl → mm_WQ (mm_call mm_ms (mm_tb L xs) (d + 10)) (mm_tb L xs) mm_m3 lim Q 131 [some (mm_R 31), some (mm_I (nI i)), some (mm_I (nI t.1)), some (mm_L x3), none, some (mm_L x5), none, some (mm_I (nI e)), x8, x9, none, x11] [] w wl := by
  have hND := hW.1.2.2.1
  have hNF := hW.1.2.2.2
  have e97 : (m 9 7).toInt = NF := by rw [hW.1.1.2.2]; exact mm_tI (by omega)
  intro j
  induction j with
  | zero =>
    intro e C w wl x8 x9 x11 h hR hx hL hC hUC hpre hiC hit hA hKP
    have he : e = l.length := by omega
    refine bk_X0_makeOne_131 (mm_call_m _) (en_X7_metSize (bk_X7_metSize_0 (mm_call_m _) (bk_X0_makeOne_140 (mm_call_m _) (fun _ => ?_) (fun z => absurd ?_ z))))
    · rw [he, List.drop_length] at hR
      exact h1 C hR.symm w wl hx hC hUC hpre (fun e' h' => hA e' (by omega)) hKP
    · rw [hL.1, he]
      exact Int32.le_refl _
  | succ j ih =>
    intro e C w wl x8 x9 x11 h hR hx hL hC hUC hpre hiC hit hA hKP
    have hel : e < l.length := by omega
    rw [drop_s hel] at hR
    generalize hn : l.getD e 0 = n at hR
    have hnl : n ∈ l := by rw [← hn]; exact mem_getN hel
    obtain ⟨hnN, b, b1, b2, b3⟩ := hl n hnl
    have hWw := WJ_xw hW hx
    obtain ⟨hKw, hok, -⟩ := id hWw
    obtain ⟨⟨k1, k2, k3⟩, n1, n2, n3⟩ := id hKw
    have ei : (nI i).toNatClampNeg = i := nI_clamp (by omega)
    have en : (nI n).toNatClampNeg = n := nI_clamp (by omega)
    have vi : vp_in (nI i) 60 := vp_in_nI hi (by decide)
    have vn : vp_in (nI n) 200 := vp_in_nI (by omega) (by decide)
    obtain ⟨q0, q1, q2, q3⟩ := hC.2.2 i hiC
    rw [hit] at q0 q1 q2 q3
    have e4 : w 4 n = m 4 n := hx.1 4 n (by decide) (by decide) (by omega) (by omega)
    have e19 : wl (19 + t.1) n = ml (19 + t.1) n := hx.2 _ n (by omega)
    -- the node is found: the next one
    have hgo : ∀ (T : Int32) (C' : List CTy) (w' : mm_P) (wl' : mm_G), XW m w' ml wl' → ML w' l → CRw w' wl' C' → (∀ s, s ∈ C' → UR m s.1) → (∃ S, C' = C ++ S) → KPi i w w' wl wl' → (∀ n, w' (39 + i) n = w (39 + i) n ∧ w' (100 + i) n = w (100 + i) n) → ¬ f_with (ml (19 + t.1) n) t.2.1 t.2.2 = -1 → (m 4 n = 14 → ∃ j, j < C'.length ∧ C'.getD j k_c0 = k_ct m ml t.2.1 t.2.2 n ∧ T = nI j) → k_cfs m ml t.1 t.2.1 t.2.2 (l.drop (e + 1)) C' = R → mm_cq (mm_call mm_ms (mm_tb L xs) (d + 10)) 92 [mm_R 3, mm_I (nI n)] w' wl' (fun o n1 n2 => mm_WQ (mm_call mm_ms (mm_tb L xs) (d + 10)) (mm_tb L xs) mm_m3 lim Q 244 [some (mm_R 31), some (mm_I (nI i)), some (mm_I (nI t.1)), some (mm_L x3), none, some (mm_L x5), none, some (mm_I (nI e)), some (mm_I (nI n)), some (mm_L (f_with (ml (19 + t.1) n) t.2.1 t.2.2)), none, some (mm_I T)] (o.toList ++ []) n1 n2) := fun T C' w' wl' hx' hL' hC' hUC' hpre' hKP' hrow hS hT hR' => by
      have hKw' := (WJ_xw hW hx').1
      obtain ⟨S', hS'⟩ := hpre'
      have hiC' : i < C'.length := by rw [hS', List.length_append]; exact Nat.lt_add_right _ hiC
      refine sx_has7 hKw'.1.2.1 hKw'.2.2.1 (fun _ _ _ => bk_X0_makeOne_244 (s0 := 1) (mm_call_m _) (fun _ => vi) (fun _ => sp_X10_widthOf (bk_X0_makeOne_262 (mm_call_m _) ?_)) (fun z => absurd z (by decide))) (fun y => absurd ⟨n, hnN, rfl⟩ y)
      rw [ei, en]
      refine mm_alq_r (mm_row39 hi) vn ⟨vi, mm_alq_r (mm_row100 hi) vn ?_⟩
      rw [show nI e + 1 = nI (e + 1) from (nI_succ e).symm]
      have ho : ∀ c k, ¬ (c = 39 + i ∧ k = n) → ¬ (c = 100 + i ∧ k = n) → mm_u (mm_u w' (39 + i) n (f_width (f_with (ml (19 + t.1) n) t.2.1 t.2.2))) (100 + i) n T c k = w' c k := fun c k a1 a2 => by rw [mm_u_o a2, mm_u_o a1]
      have h39 : mm_u (mm_u w' (39 + i) n (f_width (f_with (ml (19 + t.1) n) t.2.1 t.2.2))) (100 + i) n T (39 + i) n = f_width (f_with (ml (19 + t.1) n) t.2.1 t.2.2) := by rw [mm_u_e (by omega), mm_u_s]
      have hnew : WRn m ml (mm_u (mm_u w' (39 + i) n (f_width (f_with (ml (19 + t.1) n) t.2.1 t.2.2))) (100 + i) n T) i t C' n := ⟨h39, hS, fun k => by
        obtain ⟨j', j1, j2, j3⟩ := hT k
        exact ⟨j', j1, j2, by rw [mm_u_s]; exact j3⟩⟩
      refine ih (e + 1) C' _ wl' (by omega) hR' ⟨fun c k a1 a2 a3 a4 => (ho c k (by omega) (by omega)).trans (hx'.1 c k a1 a2 a3 a4), hx'.2⟩ (ML_c hL' (ho 3 6 (by omega) (by omega)) (fun k => ho 8 k (by omega) (by omega))) (CRw_c hC' (ho 31 12 (by omega) (by omega)) (fun k => ho 32 k (by omega) (by omega)) (fun _ => rfl) (fun _ => rfl)) hUC' ?_ hiC' ?_ (fun e' he' => ?_) ⟨fun k => ?_, fun i' hi' hne k => ?_⟩
      · obtain ⟨S0, hS0⟩ := hpre
        exact ⟨S0 ++ S', by rw [hS', hS0, List.append_assoc]⟩
      · rw [hS', getD_appS hiC]
        exact hit
      · by_cases hee : e' = e
        · rw [hee, hn]
          exact hnew
        · by_cases hnn : l.getD e' 0 = n
          · rw [hnn]
            exact hnew
          · have hold := hA e' (by omega)
            rw [hS']
            refine WRn_app ?_
            obtain ⟨u1, u2, u3⟩ := hold
            refine ⟨by rw [ho _ _ (by omega) (by omega), (hrow _).1]; exact u1, u2, fun k => ?_⟩
            obtain ⟨j', j1, j2, j3⟩ := u3 k
            exact ⟨j', j1, j2, by rw [ho _ _ (by omega) (by omega), (hrow _).2]; exact j3⟩
      · obtain ⟨a1, a2, a3⟩ := hKP'.1 k
        obtain ⟨b1', b2', b3'⟩ := hKP.1 k
        exact ⟨by rw [ho 36 k (by omega) (by omega), a1, b1'], by rw [ho 37 k (by omega) (by omega), a2, b2'], a3.trans b3'⟩
      · obtain ⟨a1, a2⟩ := hKP'.2 i' hi' hne k
        obtain ⟨b1', b2'⟩ := hKP.2 i' hi' hne k
        exact ⟨by rw [ho _ k (by omega) (by omega), a1, b1'], by rw [ho _ k (by omega) (by omega), a2, b2']⟩
    have h247 : R = none → ∀ (w' : mm_P) (wl' : mm_G) (T : Int32) (S : Int64), mm_WQ (mm_call mm_ms (mm_tb L xs) (d + 10)) (mm_tb L xs) mm_m3 lim Q 247 [some (mm_R 31), some (mm_I (nI i)), some (mm_I (nI t.1)), some (mm_L x3), none, some (mm_L x5), none, some (mm_I (nI e)), some (mm_I (nI n)), some (mm_L S), none, some (mm_I T)] [] w' wl' := fun q w' wl' T S => bk_X0_makeOne_247 (mm_call_m _) (h0 q w' wl')
    have hKr : KPi i w w wl wl := ⟨fun _ => ⟨rfl, rfl, rfl⟩, fun _ _ _ _ => ⟨rfl, rfl⟩⟩
    refine bk_X0_makeOne_131 (mm_call_m _) (en_X7_metSize (bk_X7_metSize_0 (mm_call_m _) (bk_X0_makeOne_140 (mm_call_m _) (fun z => ?_) (fun _ => sx_metAt hL.1 hlen hel (bk_X0_makeOne_152 (mm_call_m _) ?_)))))
    · have := mm_leI z
      rw [hL.1, mm_tI (by omega), mm_tI (by omega)] at this
      omega
    rw [hL.2 e hel, hn]
    refine sx_shapeIn hKw ht (fun p p1 p2 => bk_X0_makeOne_164 (mm_call_m _) vi vi (sp_X10_withLetters (bk_X0_makeOne_179 (mm_call_m _) (sx_kind7 hKw hnN ?_)))) (fun y => absurd ⟨n, hnN, rfl⟩ y)
    have epn : n = p := nI_inj (by omega) (by omega) p2
    subst epn
    rw [ei, q2, q3, e19, e4]
    have hcs : k_cfs m ml t.1 t.2.1 t.2.2 (n :: l.drop (e + 1)) C = (match k_cst m ml t.1 t.2.1 t.2.2 C n with
      | none => none
      | some C' => k_cfs m ml t.1 t.2.1 t.2.2 (l.drop (e + 1)) C') := rfl
    rw [hcs] at hR
    by_cases hsh : f_with (ml (19 + t.1) n) t.2.1 t.2.2 = -1
    · -- too deep
      have hno : R = none := by
        have hc : k_cst m ml t.1 t.2.1 t.2.2 C n = none := by
          unfold k_cst
          rw [if_pos hsh]
        rw [hc] at hR
        exact hR.symm
      refine bk_X0_makeOne_190 (mm_call_m _) (fun _ _ => h247 hno _ _ _ _) (fun _ z => absurd (lg_eq.mpr hsh) z) (fun _ z => absurd (lg_eq.mpr hsh) z) (fun _ => vi) (fun _ => vi) (fun k => ?_)
      obtain ⟨c2, -⟩ := ((hok n hnN).2.2.2 (e4.trans k)).2
      rw [hx.1 6 _ (by decide) (by decide) (by omega) (by omega)] at c2
      obtain ⟨g, eg, g1, g2, -⟩ := mm_of c2.1 c2.2
      have hg12 : g < 12 := by omega
      have hde : DE m t.1 g := ⟨b, b1, by omega, b2, n, b3, k, eg⟩
      have hUg : UR m g := by
        rcases hU with y | y
        · rw [y] at hde
          exact .inr (RCH_1 hg12 hde)
        · exact .inr (RCH_s (by omega) hg12 y hde)
      have hgN : g < NF := by
        by_cases c : g < NF
        · exact c
        · exact absurd ⟨g, hg12, hUg, .inl (by omega)⟩ hV2
      rw [ei, q2, q3]
      refine sx_copyForCall (d := d) hW hx hnN k hgN eg hC (fun _ => ?_) (fun _ j' _ _ => ?_) (fun _ _ _ _ => ?_) (fun _ _ _ => ?_) <;> exact bk_X0_makeOne_213 (mm_call_m _) (fun _ => h247 hno _ _ _ _) (fun z => absurd (lg_eq.mpr hsh) z) (fun z => absurd (lg_eq.mpr hsh) z)
    · by_cases k : m 4 n = 14
      · obtain ⟨c2, -⟩ := ((hok n hnN).2.2.2 (e4.trans k)).2
        rw [hx.1 6 _ (by decide) (by decide) (by omega) (by omega)] at c2
        obtain ⟨g, eg, g1, g2, egc⟩ := mm_of c2.1 c2.2
        have hg12 : g < 12 := by omega
        have hde : DE m t.1 g := ⟨b, b1, by omega, b2, n, b3, k, eg⟩
        have hUg : UR m g := by
          rcases hU with y | y
          · rw [y] at hde
            exact .inr (RCH_1 hg12 hde)
          · exact .inr (RCH_s (by omega) hg12 y hde)
        have hgN : g < NF := by
          by_cases c : g < NF
          · exact c
          · exact absurd ⟨g, hg12, hUg, .inl (by omega)⟩ hV2
        have ecg : k_cg m n = g := egc
        have ect : k_ct m ml t.2.1 t.2.2 n = (g, k_ca m ml t.2.1 t.2.2 n, k_cb m ml t.2.1 t.2.2 n) := by
          unfold k_ct
          rw [ecg]
        have hcst : k_cst m ml t.1 t.2.1 t.2.2 C n = (if (¬ m 10 g ≤ 0 ∧ k_ca m ml t.2.1 t.2.2 n = -1) ∨ (¬ m 10 g ≤ 1 ∧ k_cb m ml t.2.1 t.2.2 n = -1) then none else if (g, k_ca m ml t.2.1 t.2.2 n, k_cb m ml t.2.1 t.2.2 n) ∈ C then some C else if C.length < 60 then some (C ++ [(g, k_ca m ml t.2.1 t.2.2 n, k_cb m ml t.2.1 t.2.2 n)]) else none) := by
          unfold k_cst
          rw [if_neg hsh, if_pos k, ecg, ect]
        have hz : ∀ (T : Int32) (w' : mm_P) (wl' : mm_G), R = none → T = -4 → mm_WQ (mm_call mm_ms (mm_tb L xs) (d + 10)) (mm_tb L xs) mm_m3 lim Q 213 [some (mm_R 31), some (mm_I (nI i)), some (mm_I (nI t.1)), some (mm_L x3), none, some (mm_L x5), none, some (mm_I (nI e)), some (mm_I (nI n)), some (mm_L (f_with (ml (19 + t.1) n) t.2.1 t.2.2)), none, x11] [mm_I T] w' wl' := fun T w' wl' hno hT => bk_X0_makeOne_213 (mm_call_m _) (fun z => absurd (lg_eq.mp z) hsh) (fun _ _ => h247 hno _ _ _ _) (fun _ z => absurd hT z)
        have h4n : ∀ j' : Nat, j' < 200 → ¬ nI j' = -4 := fun j' hj' q => by
          have := congrArg Int32.toInt q
          rw [mm_tI (by omega), mm_tn4] at this
          omega
        refine bk_X0_makeOne_190 (mm_call_m _) (fun z => absurd k z) (fun z => absurd k z) (fun z => absurd k z) (fun _ => vi) (fun _ => vi) (fun _ => ?_)
        rw [ei, q2, q3]
        refine sx_copyForCall (d := d) hW hx hnN k hgN eg hC (fun y => hz _ _ _ ?_ rfl) (fun y j' j1 j2 => bk_X0_makeOne_213 (mm_call_m _) (fun z => absurd (lg_eq.mp z) hsh) (fun _ z => absurd z (h4n j' (by have := hC.2.1; omega))) (fun _ _ => hgo (nI j') C w wl hx hL hC hUC ⟨[], (List.append_nil C).symm⟩ hKr (fun _ => ⟨rfl, rfl⟩) hsh (fun _ => ⟨j', j1, j2.trans ect.symm, rfl⟩) ?_)) (fun y y2 y3 y4 => bk_X0_makeOne_213 (mm_call_m _) (fun z => absurd (lg_eq.mp z) hsh) (fun _ z => absurd z (h4n C.length (by omega))) (fun _ _ => hgo (nI C.length) (C ++ [(g, k_ca m ml t.2.1 t.2.2 n, k_cb m ml t.2.1 t.2.2 n)]) _ _ ?_ ?_ y4 (fun s hs => ?_) ⟨_, rfl⟩ ?_ ?_ hsh (fun _ => ⟨C.length, ?_, ?_, rfl⟩) ?_)) (fun y y2 y3 => hz _ _ _ ?_ rfl)
        · rw [hcst, if_pos y] at hR
          exact hR.symm
        · rw [hcst, if_neg y, if_pos (mem_getD.mpr ⟨j', j1, j2⟩)] at hR
          exact hR
        · exact ⟨fun c k' a1 a2 a3 a4 => by rw [mm_u_e (by omega), mm_u_e (by omega)]; exact hx.1 c k' a1 a2 a3 a4, fun c k' a1 => by rw [mm_u_e (by omega), mm_u_e (by omega)]; exact hx.2 c k' a1⟩
        · exact ML_c hL (by rw [mm_u_e (by decide), mm_u_e (by decide)]) (fun k' => by rw [mm_u_e (by decide), mm_u_e (by decide)])
        · rcases List.mem_append.mp hs with q | q
          · exact hUC s q
          · rw [List.mem_singleton.mp q]
            exact hUg
        · exact ⟨fun k' => ⟨by rw [mm_u_e (by decide), mm_u_e (by decide)], by rw [mm_u_e (by decide), mm_u_e (by decide)], by rw [mm_u_e (by decide), mm_u_e (by decide)]⟩, fun i' hi' _ k' => ⟨by rw [mm_u_e (by omega), mm_u_e (by omega)], by rw [mm_u_e (by omega), mm_u_e (by omega)]⟩⟩
        · exact fun k' => ⟨by rw [mm_u_e (by omega), mm_u_e (by omega)], by rw [mm_u_e (by omega), mm_u_e (by omega)]⟩
        · rw [List.length_append]
          exact Nat.lt_succ_self _
        · rw [getD_lastC]
          exact ect.symm
        · rw [hcst, if_neg y, if_neg y2, if_pos y3] at hR
          exact hR
        · rw [hcst, if_neg y, if_neg y2, if_neg y3] at hR
          exact hR.symm
      · have hc : k_cst m ml t.1 t.2.1 t.2.2 C n = some C := by
          unfold k_cst
          rw [if_neg hsh, if_neg k]
        rw [hc] at hR
        exact bk_X0_makeOne_190 (mm_call_m _) (fun _ z => absurd (lg_eq.mp z) hsh) (fun _ _ z => absurd z (by decide)) (fun _ _ _ => hgo 0 C w wl hx hL hC hUC ⟨[], (List.append_nil C).symm⟩ hKr (fun _ => ⟨rfl, rfl⟩) hsh (fun z => absurd z k) hR) (fun z => absurd z k) (fun z => absurd z k) (fun z => absurd z k)
def KPx (i : Nat) (w0 w : mm_P) (wl0 wl : mm_G) : Prop := ∀ i', i' < 60 → ¬ i' = i → w 36 i' = w0 36 i' ∧ w 37 i' = w0 37 i' ∧ wl 35 i' = wl0 35 i' ∧ ∀ n, w (39 + i') n = w0 (39 + i') n ∧ w (100 + i') n = w0 (100 + i') n
theorem UR_b {f : Nat} (hW : WJ NB ND NF m) (hV2 : ¬ V2 m) (hf : f < 12) (hU : UR m f) : f < NF ∧ ∃ b, b < ND ∧ m 15 f = nI b := by
  have hNF := hW.1.2.2.2
  have e97 : (m 9 7).toInt = NF := by rw [hW.1.1.2.2]; exact mm_tI (by omega)
  have hfN : f < NF := by
    by_cases c : f < NF
    · exact c
    · exact absurd ⟨f, hf, hU, .inl (by omega)⟩ hV2
  exact ⟨hfN, (hW.2.2.2.1 f hfN).resolve_left (fun y => hV2 ⟨f, hf, hU, .inr y⟩)⟩
/-! makeOne() -/
theorem sx_makeOne {i : Nat} {C : List CTy} {w : mm_P} {wl : mm_G} (hW : WJ NB ND NF m) (hV2 : ¬ V2 m) (hC : CRw w wl C) (hUC : ∀ s, s ∈ C → UR m s.1) (hi : i < C.length) (hx : XW m w ml wl) (h0 : k_con m ml C (C.getD i k_c0) = none → ∀ w' wl', Q (some (mm_I 0)) w' wl') (h1 : ∀ C', k_con m ml C (C.getD i k_c0) = some C' → ∀ w' wl', XW m w' ml wl' → CRw w' wl' C' → (∀ s, s ∈ C' → UR m s.1) → (∃ S, C' = C ++ S) → PRC m ml w' wl' C' i → KPx i w w' wl wl' → Q (some (mm_I 1)) w' wl') : mm_cq (mm_call mm_ms (mm_tb L xs) (d + 17)) 3 [mm_R 31, mm_I (nI i)] w wl Q := by
  have hND := hW.1.2.2.1
  have hNF := hW.1.2.2.2
  have h60 := hC.2.1
  obtain ⟨q0, q1, q2, q3⟩ := hC.2.2 i hi
  generalize hit : C.getD i k_c0 = t at q0 q1 q2 q3 h0 h1
  have htC : t ∈ C := mem_getD.mpr ⟨i, hi, hit⟩
  have hU := hUC t htC
  obtain ⟨ht, b, b1, b2⟩ := UR_b hW hV2 q0 hU
  have hWw := WJ_xw hW hx
  obtain ⟨hKw, hok, hdep, -⟩ := id hWw
  obtain ⟨⟨k1, k2, k3⟩, n1, n2, n3⟩ := id hKw
  have ei : (nI i).toNatClampNeg = i := nI_clamp (by omega)
  have vi : vp_in (nI i) 60 := vp_in_nI (by omega) (by decide)
  have e13 : wl 13 t.1 = ml 13 t.1 := hx.2 13 _ (by omega)
  have e14 : wl 14 t.1 = ml 14 t.1 := hx.2 14 _ (by omega)
  have h83 : k_con m ml C t = none → ∀ (y3 y5 : Int64) (w' : mm_P) (wl' : mm_G), mm_WQ (mm_call mm_ms (mm_tb L xs) (d + 16)) (mm_tb L xs) mm_m3 (mm_li mm_m3) Q 83 [some (mm_R 31), some (mm_I (nI i)), some (mm_I (nI t.1)), some (mm_L y3), none, some (mm_L y5), none, none, none, none, none, none] [] w' wl' := fun q y3 y5 w' wl' => bk_X0_makeOne_83 (mm_call_m _) (h0 q w' wl')
  refine en_X0_makeOne (bk_X0_makeOne_0 (mm_call_m _) (sp_X0_has (fun _ _ _ => bk_X0_makeOne_5 (s0 := 1) (mm_call_m _) (fun _ => vi) (fun _ => ?_) (fun z => absurd z (by decide))) (fun z => absurd ⟨?_, ?_, ?_⟩ z)))
  · rw [ei, q1]
    refine sx_argShape hKw ht (bk_X0_makeOne_25 (mm_call_m _) vi vi (sp_X10_withLetters (bk_X0_makeOne_40 (mm_call_m _) (sx_resShape hKw ht (bk_X0_makeOne_49 (mm_call_m _) vi vi (sp_X10_withLetters ?_))))))
    rw [ei, q2, q3, e13, e14]
    refine bk_X0_makeOne_64 (mm_call_m _) (fun z => h83 ?_ _ _ _ _) (fun _ _ => vi) (fun z z2 => sp_X10_widthOf (bk_X0_makeOne_101 (mm_call_m _) vi (sp_X10_widthOf (bk_X0_makeOne_112 (mm_call_m _) vi ?_)))) (fun _ z => h83 ?_ _ _ _ _)
    · unfold k_con
      rw [if_pos (.inl (lg_eq.mp z))]
    · rw [ei]
      have z' : ¬ f_with (ml 13 t.1) t.2.1 t.2.2 = -1 := fun y => z (lg_eq.mpr y)
      have z2' : ¬ f_with (ml 14 t.1) t.2.1 t.2.2 = -1 := fun y => z2 (lg_eq.mpr y)
      have hcon : k_con m ml C t = k_cfs m ml t.1 t.2.1 t.2.2 (k_po m 12 b []) C := by
        unfold k_con
        rw [if_neg (fun y => y.elim z' z2'), b2, nI_clamp (by omega)]
      generalize hw1 : mm_u (mm_u w 36 i (f_width (f_with (ml 13 t.1) t.2.1 t.2.2))) 37 i (f_width (f_with (ml 14 t.1) t.2.1 t.2.2)) = w1
      generalize hl1 : mm_u wl 35 i (f_with (ml 13 t.1) t.2.1 t.2.2) = wl1
      have o1 : ∀ c k, ¬ (c = 36 ∧ k = i) → ¬ (c = 37 ∧ k = i) → w1 c k = w c k := fun c k a1 a2 => by rw [← hw1, mm_u_o a2, mm_u_o a1]
      have v36 : w1 36 i = f_width (f_with (ml 13 t.1) t.2.1 t.2.2) := by rw [← hw1, mm_u_e (by decide), mm_u_s]
      have v37 : w1 37 i = f_width (f_with (ml 14 t.1) t.2.1 t.2.2) := by rw [← hw1, mm_u_s]
      have o2 : ∀ c k, ¬ (c = 35 ∧ k = i) → wl1 c k = wl c k := fun c k a1 => by rw [← hl1, mm_u_o a1]
      have v35 : wl1 35 i = f_with (ml 13 t.1) t.2.1 t.2.2 := by rw [← hl1, mm_u_s]
      have hx1 : XW m w1 ml wl1 := ⟨fun c k a1 a2 a3 a4 => (o1 c k (by omega) (by omega)).trans (hx.1 c k a1 a2 a3 a4), fun c k a1 => (o2 c k (by omega)).trans (hx.2 c k a1)⟩
      have hW1 := WJ_xw hW hx1
      have hC1 : CRw w1 wl1 C := CRw_c hC (o1 31 12 (by omega) (by omega)) (fun k => o1 32 k (by omega) (by omega)) (fun k => o2 33 k (by omega)) (fun k => o2 34 k (by omega))
      refine sx_bodyOf hW1.1.1.2.2 n3 ht (bk_X0_makeOne_125 (mm_call_m _) ?_)
      rw [hx1.1 15 t.1 (by decide) (by decide) (by omega) (by omega), b2]
      refine sx_meetOrder (d := d + 1) hW1.1 hW1.2.1 hW1.2.2.1 b1 (fun w2 hM2 hL2 hlen => bk_X0_makeOne_128 (mm_call_m _) ?_)
      rw [po_xw hx1] at hL2 hlen
      have hx2 : XW m w2 ml wl1 := ⟨fun c k a1 a2 a3 a4 => (hM2 c k a1 a2 a3).trans (hx1.1 c k a1 a2 a3 a4), hx1.2⟩
      have hC2 : CRw w2 wl1 C := CRw_c hC1 (hM2 31 12 (by decide) (by decide) (by omega)) (fun k => hM2 32 k (by decide) (by decide) (by omega)) (fun _ => rfl) (fun _ => rfl)
      refine mo_131 (d := d + 6) (C0 := C) (w0 := w2) (wl0 := wl1) (R := k_con m ml C t) hW hV2 (by omega) ht hU hlen (fun n hn => ?_) h0 (fun C' hR w' wl' hx' hC' hU' hpre hWR hKP => h1 C' hR w' wl' hx' hC' hU' hpre ?_ (fun i' hi' hne => ?_)) (k_po m 12 b []).length 0 C w2 wl1 (by omega) (by rw [List.drop_zero, hcon]) hx2 hL2 hC2 hUC ⟨[], (List.append_nil C).symm⟩ hi hit (fun e' he' => absurd he' (Nat.not_lt_zero _)) ⟨fun _ => ⟨rfl, rfl, rfl⟩, fun _ _ _ _ => ⟨rfl, rfl⟩⟩
      · have hbl := (po_new 12 b [] n hn).resolve_left List.not_mem_nil
        have := BL_le hND hW.2.1 b1 hbl
        exact ⟨by omega, b, by omega, b2, hbl⟩
      · obtain ⟨S, hS⟩ := hpre
        have eC : C'.getD i k_c0 = t := by rw [hS, getD_appS hi]; exact hit
        unfold PRC
        rw [eC]
        obtain ⟨a1, a2, a3⟩ := hKP.1 i
        refine ⟨a3.trans v35, z', z2', a1.trans ((hM2 36 i (by decide) (by decide) (by omega)).trans v36), a2.trans ((hM2 37 i (by decide) (by decide) (by omega)).trans v37), fun n hn => ?_⟩
        rw [b2, nI_clamp (by omega)] at hn
        obtain ⟨e, e1, e2⟩ := List.mem_iff_getElem.mp hn
        have := hWR e e1
        rw [List.getD_eq_getElem?_getD, List.getElem?_eq_getElem e1] at this
        rw [← e2]
        exact this
      · obtain ⟨a1, a2, a3⟩ := hKP.1 i'
        refine ⟨a1.trans ((hM2 36 i' (by decide) (by decide) (by omega)).trans (o1 36 i' (by omega) (by omega))), a2.trans ((hM2 37 i' (by decide) (by decide) (by omega)).trans (o1 37 i' (by omega) (by omega))), a3.trans (o2 35 i' (by omega)), fun n => ?_⟩
        obtain ⟨b1', b2'⟩ := hKP.2 i' hi' hne n
        exact ⟨b1'.trans ((hM2 _ n (by omega) (by omega) (by omega)).trans (o1 _ n (by omega) (by omega))), b2'.trans ((hM2 _ n (by omega) (by omega) (by omega)).trans (o1 _ n (by omega) (by omega)))⟩
    · unfold k_con
      rw [if_pos (.inr (lg_eq.mp z))]
  · rw [mm_tI (by omega)]
    omega
  · rw [hC.1, mm_tI (by omega), mm_tI (by omega)]
    omega
  · rw [mm_tI (by omega)]
    omega
/-! makeAll() -/
theorem ma_19 {R : Option (List CTy)} (hW : WJ NB ND NF m) (hV2 : ¬ V2 m) (h0 : R = none → ∀ w wl, Q (some (mm_I (-4))) w wl) (h1 : ∀ C, R = some C → ∀ w wl, XW m w ml wl → CRw w wl C → (∀ s, s ∈ C → UR m s.1) → (∀ i, i < C.length → PRC m ml w wl C i) → Q (some (mm_I (nI C.length))) w wl) : ∀ (k i : Nat) (C : List CTy) (w : mm_P) (wl : mm_G), i + k = 62 → i ≤ C.length → k_cal m ml k i C = R → XW m w ml wl → CRw w wl C → (∀ s, s ∈ C → UR m s.1) → (∀ i', i' < i → PRC m ml w wl C i') → mm_WQ (mm_call mm_ms (mm_tb L xs) (d + 17)) (mm_tb L xs) mm_m1 lim Q 19 [some (mm_R 31), some (mm_I (nI i))] [] w wl := by
  have e60 : (60 : Int32).toInt = 60 := rfl
  intro k
  induction k with
  | zero =>
    intro i C w wl h hi hR hx hC
    have := hC.2.1
    omega
  | succ k ih =>
    intro i C w wl h hi hR hx hC hU hP
    have h60 := hC.2.1
    unfold k_cal at hR
    by_cases c : C.length ≤ i
    · rw [if_pos c] at hR
      have hle : w 31 12 ≤ nI i := by
        rw [hC.1, Int32.le_iff_toInt_le, mm_tI (by omega), mm_tI (by omega)]
        omega
      refine bk_X0_makeAll_19 (mm_call_m _) (fun _ => bk_X0_makeAll_50 (mm_call_m _) ?_) (fun z => absurd hle z) (fun z => absurd hle z)
      rw [hC.1]
      exact h1 C hR.symm w wl hx hC hU (fun i' hi' => hP i' (by omega))
    · rw [if_neg c] at hR
      have hlt : ¬ w 31 12 ≤ nI i := by
        rw [hC.1, Int32.le_iff_toInt_le, mm_tI (by omega), mm_tI (by omega)]
        omega
      have hl60 : ¬ (60 : Int32) ≤ nI i := by
        rw [Int32.le_iff_toInt_le, e60, mm_tI (by omega)]
        omega
      refine bk_X0_makeAll_19 (mm_call_m _) (fun z => absurd z hlt) (fun _ z => absurd z hl60) (fun _ _ => sx_makeOne (d := d) hW hV2 hC hU (by omega) hx (fun q w' wl' => bk_X0_makeAll_38 (mm_call_m _) (fun z => absurd rfl z) (fun _ => h0 ?_ w' wl')) (fun C' q w' wl' hx' hC' hU' hpre hPi hK => bk_X0_makeAll_38 (mm_call_m _) (fun _ => ?_) (fun z => absurd z (by decide))))
      · rw [q] at hR
        exact hR.symm
      · rw [q] at hR
        rw [show nI i + 1 = nI (i + 1) from (nI_succ i).symm]
        obtain ⟨S, hS⟩ := hpre
        have hlen : C.length ≤ C'.length := by rw [hS, List.length_append]; exact Nat.le_add_right _ _
        refine ih (i + 1) C' w' wl' (by omega) (by omega) hR hx' hC' hU' (fun i' hi' => ?_)
        by_cases hii : i' = i
        · rw [hii]
          exact hPi
        · obtain ⟨a1, a2, a3, a4⟩ := hK i' (by omega) hii
          have hold := PRC_w (hP i' (by omega)) a1 a2 (fun n => (a4 n).1) (fun n => (a4 n).2) a3
          rw [hS]
          exact PRC_app (by omega) hold
/-- makeAll(): all copies, or none -/
theorem sx_makeAll (hW : WJ NB ND NF m) (hV2 : ¬ V2 m) (h0 : CC m ml = none → ∀ w wl, Q (some (mm_I (-4))) w wl) (h1 : ∀ C, CC m ml = some C → ∀ w wl, XW m w ml wl → CRw w wl C → (∀ s, s ∈ C → UR m s.1) → (∀ i, i < C.length → PRC m ml w wl C i) → Q (some (mm_I (nI C.length))) w wl) : mm_cq (mm_call mm_ms (mm_tb L xs) (d + 18)) 1 [mm_R 31] m ml Q := by
  refine en_X0_makeAll (bk_X0_makeAll_0 (mm_call_m _) ?_)
  have hC0 : CRw (mm_u m 31 12 0) ml [] := ⟨mm_u_s, Nat.zero_le _, fun i hi => absurd hi (Nat.not_lt_zero _)⟩
  refine sx_findOrAdd (d := d + 16) (g := 0) (a := -1) (b := -1) (C := []) (by decide) hC0 (fun j j1 => absurd j1 (Nat.not_lt_zero _)) (fun _ _ hC1 => bk_X0_makeAll_16 (mm_call_m _) ?_) (fun _ z => absurd (by decide) z)
  refine ma_19 (d := d) hW hV2 h0 h1 62 0 [k_c0] _ _ (by omega) (Nat.zero_le _) rfl ⟨fun c k a1 a2 a3 a4 => by rw [mm_u_e (by omega), mm_u_e (by omega), mm_u_e (by omega)], fun c k a1 => by rw [mm_u_e (by omega), mm_u_e (by omega)]⟩ hC1 (fun s hs => ?_) (fun i' hi' => absurd hi' (Nat.not_lt_zero _))
  rw [List.mem_singleton.mp hs]
  exact .inl rfl
end MMC
