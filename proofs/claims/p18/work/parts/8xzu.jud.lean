/-! ===== what is told: the model ===== -/
/-- links of a list -/
def elsF (B : HF) : Nat → Int32 → List Nat
  | 0, _ => []
  | n + 1, v => if v = -1 then [] else v.toNatClampNeg :: elsF B n (B v.toNatClampNeg)
/-- what is told of a value of type t -/
def tlv (m : mm_P) (A B : HF) : Nat → Nat → Int32 → List Int32
  | 0, _, v => [v]
  | k + 1, t, v => if m 177 t = 4 then tlv m A B k (m 178 t).toNatClampNeg (A v.toNatClampNeg) ++ tlv m A B k (m 179 t).toNatClampNeg (B v.toNatClampNeg) else if m 177 t = 5 then nI (elsF B 104 v).length :: (elsF B 104 v).flatMap (fun a => tlv m A B k (m 178 t).toNatClampNeg (A a)) else [v]
/-- a row r of how many n holds the first hundred of l -/
def RWl (n : Int32) (r : HF) (l : List Int32) : Prop := n = nI (min 100 l.length) ∧ ∀ i, i < min 100 l.length → r i = l.getD i 0
theorem RWl_f {n : Int32} {r : HF} {l l' : List Int32} (h : RWl n r l) (h1 : 100 ≤ l.length) : RWl n r (l ++ l') := by
  have e : min 100 (l ++ l').length = min 100 l.length := by
    rw [List.length_append]
    omega
  refine ⟨by rw [e]; exact h.1, fun i hi => ?_⟩
  rw [e] at hi
  rw [h.2 i hi, List.getD_eq_getElem?_getD, List.getD_eq_getElem?_getD, List.getElem?_append_left (by omega)]
theorem RWl_z {n : Int32} {r : HF} (h : n = 0) : RWl n r [] := ⟨h, fun i hi => absurd hi (Nat.not_lt_zero _)⟩
theorem getD_one {l : List Int32} {x : Int32} : (l ++ [x]).getD l.length 0 = x := by
  rw [List.getD_eq_getElem?_getD, List.getElem?_append_right (Nat.le_refl _), Nat.sub_self]
  rfl
theorem RWl_a {n : Int32} {r r' : HF} {l : List Int32} {x : Int32} (h : RWl n r l) (h1 : l.length < 100) (hx : r' l.length = x) (hr : ∀ i, ¬ i = l.length → r' i = r i) : RWl (nI (l.length + 1)) r' (l ++ [x]) := by
  have e : min 100 (l ++ [x]).length = l.length + 1 := by
    rw [List.length_append]
    show min 100 (l.length + 1) = _
    omega
  refine ⟨by rw [e], fun i hi => ?_⟩
  rw [e] at hi
  by_cases c : i = l.length
  · rw [c, hx, getD_one]
  · rw [hr i c, h.2 i (by omega), List.getD_eq_getElem?_getD, List.getD_eq_getElem?_getD, List.getElem?_append_left (by omega)]
theorem RWl_n {n : Int32} {r : HF} {l : List Int32} (h : RWl n r l) : n = nI (min 100 l.length) := h.1
/-- rows that are alike -/
def EQl (l l' : List Int32) : Prop := min 100 l.length = min 100 l'.length ∧ ∀ i, i < min 100 l.length → l.getD i 0 = l'.getD i 0
theorem RWl_e {n : Int32} {r : HF} {l l' : List Int32} (h : RWl n r l) (h' : RWl n r l') : EQl l l' := by
  have e : min 100 l.length = min 100 l'.length := nI_ij (by omega) (by omega) (h.1.symm.trans h'.1)
  exact ⟨e, fun i hi => (h.2 i hi).symm.trans (h'.2 i (by omega))⟩
theorem RWl_t {n : Int32} {r : HF} {l l' : List Int32} (h : RWl n r l) (e : EQl l l') : RWl n r l' := ⟨by rw [← e.1]; exact h.1, fun i hi => (h.2 i (by rw [e.1]; exact hi)).trans (e.2 i (by rw [e.1]; exact hi))⟩
theorem els_st {P : BR} {b : Nat} {A B : HF} {h : Nat} (hh : h ≤ 6000) : ∀ (n : Nat) (v : Int32), bLn P n b A B h v → ∀ f, n ≤ f → elsF B f v = elsF B n v := by
  intro n
  induction n with
  | zero =>
    intro v hv f hf
    have e : v = -1 := hv
    cases f with
    | zero => rfl
    | succ f =>
      show (if v = -1 then [] else v.toNatClampNeg :: elsF B f (B v.toNatClampNeg)) = []
      rw [if_pos e]
  | succ n ih =>
    intro v hv f hf
    obtain ⟨f', rfl⟩ : ∃ f', f = f' + 1 := ⟨f - 1, by omega⟩
    show (if v = -1 then [] else v.toNatClampNeg :: elsF B f' (B v.toNatClampNeg)) = (if v = -1 then [] else v.toNatClampNeg :: elsF B n (B v.toNatClampNeg))
    by_cases c : v = -1
    · rw [if_pos c, if_pos c]
    · rw [if_neg c, if_neg c]
      obtain ⟨a, a1, a2, a3, a4⟩ := hv.resolve_left c
      rw [a2, nI_clamp (by omega), ih _ a4 f' (by omega)]
theorem els_m {B : HF} : ∀ (n : Nat), elsF B n (-1) = []
  | 0 => rfl
  | n + 1 => by
    show (if (-1 : Int32) = -1 then [] else _) = []
    rw [if_pos rfl]
theorem els_c {B : HF} {n a : Nat} (ha : a < 2 ^ 31) : elsF B (n + 1) (nI a) = a :: elsF B n (B a) := by
  have hx : ¬ nI a = -1 := fun q => by
    have := congrArg Int32.toInt q
    rw [mm_tI ha] at this
    have : (-1 : Int32).toInt = -1 := rfl
    omega
  show (if nI a = -1 then [] else (nI a).toNatClampNeg :: elsF B n (B (nI a).toNatClampNeg)) = _
  rw [if_neg hx, nI_clamp ha]
theorem els_le {B : HF} : ∀ (n : Nat) (v : Int32), (elsF B n v).length ≤ n
  | 0, _ => Nat.le_refl _
  | n + 1, v => by
    show (if v = -1 then [] else v.toNatClampNeg :: elsF B n (B v.toNatClampNeg)).length ≤ n + 1
    split
    · exact Nat.zero_le _
    · exact Nat.succ_le_succ (els_le n _)
/-- the model stands so while it tells -/
def TTl (m : mm_P) (A B : HF) (w : mm_P) (l : List Int32) : Prop := RG m w ∧ (∀ a, w 212 a = A a ∧ w 213 a = B a) ∧ RWl (w 176 51) (w 214) l ∧ w 176 47 = 0
theorem TTl_u {m w : mm_P} {A B : HF} {l : List Int32} {c i : Nat} {x : Int32} (h : TTl m A B w l) (hc : 215 ≤ c) : TTl m A B (mm_u w c i x) l := by
  obtain ⟨h1, h2, h3, h4⟩ := h
  refine ⟨RG_u h1 (by omega), fun a => ?_, ?_, ?_⟩
  · rw [mm_u_e (by omega), mm_u_e (by omega)]
    exact h2 a
  · rw [mm_u_e (by omega), show mm_u w c i x 214 = w 214 from funext fun j => mm_u_e (by omega)]
    exact h3
  · rw [mm_u_e (by omega)]
    exact h4
theorem TTl_f {m w : mm_P} {A B : HF} {l r t : List Int32} (h : TTl m A B w l) (h1 : 100 ≤ w 176 51) (e : l ++ r = t) : TTl m A B w t := by
  have h2 := mm_leI h1
  rw [h.2.2.1.1, mm_tt100, mm_tI (by omega)] at h2
  rw [← e]
  exact ⟨h.1, h.2.1, RWl_f h.2.2.1 (by omega), h.2.2.2⟩
section MMT
variable {L : Nat} {xs : Nat → Int32} {d : Nat} {Q : mm_QQ} {ml : mm_G} {lim : Nat × Nat}
theorem sx_tells {m w : mm_P} {A B : HF} {l : List Int32} {x : Int32} (h : TTl m A B w l) (hQ : ∀ w', TTl m A B w' (l ++ [x]) → (∀ c i, 219 ≤ c → w' c i = w c i) → Q none w' ml) : mm_cq (mm_call mm_ms (mm_tb L xs) (d + 1)) 218 [mm_R 176, mm_I x] w ml Q := by
  obtain ⟨h1, h2, h3, h4⟩ := id h
  have hr : ¬ 100 ≤ w 176 51 → l.length < 100 := fun z => by
    have z' := mm_nleI z
    rw [h3.1, mm_tI (by omega), mm_tt100] at z'
    omega
  refine en_X12_tells (bk_X12_tells_0 (mm_call_m _) (fun z => bk_X12_tells_29 (mm_call_m _) (hQ w (TTl_f h z rfl) (fun _ _ _ => rfl))) (fun z => ?_) (fun z => bk_X12_tells_29 (mm_call_m _) (hQ _ ?_ (fun c i q => ?_))))
  · have := hr z
    rw [h3.1]
    exact vp_in_nI (by omega) (by decide)
  · have := hr z
    have e51 : w 176 51 = nI l.length := by rw [h3.1, show min 100 l.length = l.length by omega]
    rw [e51, nI_clamp (by omega), show nI l.length + 1 = nI (l.length + 1) from (nI_succ _).symm]
    refine ⟨RG_u (RG_u h1 (by omega)) (by omega), fun a => ?_, ?_, ?_⟩
    · rw [mm_u_e (by decide), mm_u_e (by decide), mm_u_e (by decide), mm_u_e (by decide)]
      exact h2 a
    · rw [mm_u_s]
      exact RWl_a h3 this ((mm_u_e (by decide)).trans mm_u_s) (fun i hi => (mm_u_e (by decide)).trans (mm_u_f hi))
    · rw [mm_u_f (by decide), mm_u_e (by decide)]
      exact h4
  · rw [mm_u_e (by omega), mm_u_e (by omega)]
theorem lenx_4 {P : BR} {b : Nat} {A B : HF} {h : Nat} {w : mm_P} {x1 v0 : Int32} {N : Nat} (hh : h < 6000) (hB : ∀ a, w 213 a = B a) (hN : N < 1000) (hQ : Q (some (mm_I (nI N))) w ml) : ∀ (n c : Nat) (v : Int32), bLn P n b A B h v → c + (elsF B n v).length = N → mm_WQ (mm_call mm_ms (mm_tb L xs) d) (mm_tb L xs) mm_m219 lim Q 4 [some (mm_R 176), some (mm_I x1), some (mm_I (nI c)), some (mm_I v)] [] w ml := by
  intro n
  induction n with
  | zero =>
    intro c v hv hc
    have e : v = -1 := hv
    have hc' : c = N := hc
    subst hc'
    exact bk_X12_lengthOf_4 (mm_call_m _) (fun _ => hQ) (fun z => absurd e z) (fun z => absurd e z)
  | succ n ih =>
    intro c v hv hc
    refine bk_X12_lengthOf_4 (mm_call_m _) (fun z => ?_) (fun z => ?_) (fun z => ?_)
    · rw [z, els_m] at hc
      have hc' : c = N := hc
      subst hc'
      exact hQ
    · obtain ⟨a, a1, a2, a3, a4⟩ := hv.resolve_left z
      rw [a2]
      exact vp_in_nI (by omega) (by decide)
    · obtain ⟨a, a1, a2, a3, a4⟩ := hv.resolve_left z
      rw [a2, els_c (by omega), List.length_cons] at hc
      rw [a2, nI_clamp (by omega), hB a, show nI c + 1 = nI (c + 1) from (nI_succ c).symm]
      exact ih _ _ a4 (by omega)
theorem sx_lengthOf {P : BR} {A B : HF} {h : Nat} {w : mm_P} {v : Int32} (hh : h < 6000) (hB : ∀ a, w 213 a = B a) (hv : bL P 104 A B h v) (hQ : Q (some (mm_I (nI (elsF B 104 v).length))) w ml) : mm_cq (mm_call mm_ms (mm_tb L xs) (d + 1)) 219 [mm_R 176, mm_I v] w ml Q := by
  obtain ⟨n, n1, hn⟩ := hv
  have e := els_st (by omega) n v hn 104 n1
  have hl := els_le (B := B) n v
  rw [e] at hQ
  exact en_X12_lengthOf (bk_X12_lengthOf_0 (mm_call_m _) (lenx_4 (N := (elsF B n v).length) (v0 := v) hh hB (by omega) hQ n 0 v hn (by omega)))
variable {x1 x2 : Int32}
/-- the entry on top of the row of what is to be told -/
theorem tellx_28 {n t : Nat} {w : mm_P} {v : Int32} {x4 x5 : Option mm_V} (hn : n < 15) (ht : t < 8000) (h219 : w 219 n = nI t) (h220 : w 220 n = v) (hex : 100 ≤ w 176 51 → Q none w ml)
    (h1 : ¬ 2 ≤ w 177 t → mm_cq (mm_call mm_ms (mm_tb L xs) d) 218 [mm_R 176, mm_I v] w ml (fun o n1 n2 => mm_WQ (mm_call mm_ms (mm_tb L xs) d) (mm_tb L xs) mm_m220 lim Q 77 [some (mm_R 176), some (mm_I x1), some (mm_I x2), some (mm_I (nI n)), some (mm_I (nI t)), some (mm_I v)] (o.toList ++ []) n1 n2))
    (h4 : w 177 t = 4 → vp_in v 6000 ∧ mm_WQ (mm_call mm_ms (mm_tb L xs) d) (mm_tb L xs) mm_m220 lim Q 28 [some (mm_R 176), some (mm_I x1), some (mm_I x2), some (mm_I (nI (n + 2))), some (mm_I (nI t)), some (mm_I v)] [] (mm_u (mm_u (mm_u (mm_u (mm_u (mm_u w 219 n (w 179 t)) 220 n (w 213 v.toNatClampNeg)) 221 n 0) 219 (n + 1) (w 178 t)) 220 (n + 1) (w 212 v.toNatClampNeg)) 221 (n + 1) 0) ml)
    (h5 : 2 ≤ w 177 t → ¬ w 177 t = 4 → w 221 n = 0 → mm_cq (mm_call mm_ms (mm_tb L xs) d) 219 [mm_R 176, mm_I v] w ml (fun o n1 n2 => mm_WQ (mm_call mm_ms (mm_tb L xs) d) (mm_tb L xs) mm_m220 lim Q 182 [some (mm_R 176), some (mm_I x1), some (mm_I x2), some (mm_I (nI n)), some (mm_I (nI t)), some (mm_I v)] (o.toList ++ [mm_R 176]) n1 n2))
    (h6 : 2 ≤ w 177 t → ¬ w 177 t = 4 → ¬ w 221 n = 0 → mm_WQ (mm_call mm_ms (mm_tb L xs) d) (mm_tb L xs) mm_m220 lim Q 185 [some (mm_R 176), some (mm_I x1), some (mm_I x2), some (mm_I (nI n)), some (mm_I (nI t)), some (mm_I v)] [] w ml) :
    mm_WQ (mm_call mm_ms (mm_tb L xs) d) (mm_tb L xs) mm_m220 lim Q 28 [some (mm_R 176), some (mm_I x1), some (mm_I x2), some (mm_I (nI (n + 1))), x4, x5] [] w ml := by
  by_cases hf : 100 ≤ w 176 51
  · have hpos : ¬ nI (n + 1) ≤ 0 := by
      rw [Int32.le_iff_toInt_le, mm_tI (by omega), mm_tt0]
      omega
    have hx := bk_X12_tellsAll_253 (call := mm_call mm_ms (mm_tb L xs) d) (mm_call_m _) (L := L) (xs := xs) (lim := lim) (x1 := x1) (x2 := x2) (x3 := nI (n + 1)) (x4 := x4) (x5 := x5) (hex hf)
    exact bk_X12_tellsAll_28 (mm_call_m _) (fun z => absurd z hpos) (fun _ _ => hx) (fun _ z => absurd hf z) (fun _ z => absurd hf z) (fun _ z => absurd hf z) (fun _ z => absurd hf z) (fun _ z => absurd hf z) (fun _ z => absurd hf z) (fun _ z => absurd hf z) (fun _ z => absurd hf z) (fun _ z => absurd hf z) (fun _ z => absurd hf z) (fun _ z => absurd hf z) (fun _ z => absurd hf z) (fun _ z => absurd hf z) (fun _ z => absurd hf z) (fun _ z => absurd hf z) (fun _ z => absurd hf z) (fun _ z => absurd hf z) (fun _ z => absurd hf z) (fun _ z => absurd hf z)
  · have hdec : nI (n + 1) + (-1) = nI n := mm_dec n (by omega)
    have en : (nI n).toNatClampNeg = n := nI_clamp (by omega)
    have et : (nI t).toNatClampNeg = t := nI_clamp (by omega)
    have hpos : ¬ nI (n + 1) ≤ 0 := by
      rw [Int32.le_iff_toInt_le, mm_tI (by omega), mm_tt0]
      omega
    have vn : vp_in (nI (n + 1) + (-1)) 16 := by rw [hdec]; exact vp_in_nI (by omega) (by decide)
    have vt : vp_in (w 219 (nI (n + 1) + (-1)).toNatClampNeg) 8000 := by rw [hdec, en, h219]; exact vp_in_nI ht (by decide)
    have vn1 : vp_in (nI (n + 1) + (-1) + 1) 16 := by rw [hdec, show nI n + 1 = nI (n + 1) from (nI_succ n).symm]; exact vp_in_nI (by omega) (by decide)
    refine bk_X12_tellsAll_28 (mm_call_m _) (fun z => absurd z hpos) (fun _ z => absurd z hf) (fun _ _ => vn) (fun _ _ => vn) (fun _ _ => vt) (fun _ _ _ => vt) (fun _ _ _ _ => vn) (fun _ _ a b c => ?_) (fun _ _ a b c => ?_) (fun _ _ _ _ => vt) (fun _ _ _ _ => vn) (fun _ _ _ b => ?_) (fun _ _ _ _ => vn) (fun _ _ _ _ => vn) (fun _ _ _ _ => vt) (fun _ _ _ _ => vn1) (fun _ _ _ b => ?_) (fun _ _ _ _ => vn1) (fun _ _ _ _ => vn1) (fun _ _ _ b => bk_X12_tellsAll_250 (mm_call_m _) ?_) (fun _ _ a => ?_)
    · rw [hdec, en, h219, et] at a b
      rw [hdec, en] at c
      rw [hdec, en, h219, h220]
      exact h6 a b c
    · rw [hdec, en, h219, et] at a b
      rw [hdec, en] at c
      rw [hdec, en, h219, h220]
      exact h5 a b c
    · rw [hdec, en, h219, et] at b
      rw [hdec, en, h220]
      exact (h4 b).1
    · rw [hdec, en, h219, et] at b
      rw [hdec, en, h220]
      exact (h4 b).1
    · rw [hdec, en, h219, et] at b
      rw [hdec, en, h219, h220, et, show nI n + 1 = nI (n + 1) from (nI_succ n).symm, show nI (n + 1) + 1 = nI (n + 2) from (nI_succ (n + 1)).symm, nI_clamp (by omega), mm_nb0]
      exact (h4 b).2
    · rw [hdec, en, h219, et] at a
      rw [hdec, en, h219, h220]
      exact h1 a
theorem tellx_list {NB ND NF n t a h k : Nat} {m : mm_P} {A B : HF} {total : List Int32} (hI : IM m NB ND NF) (hh : h < 6000) (hn : n < 14) (ht : t < NB) (h178 : m 178 t = nI a) (ha : a < NB) (k5 : m 177 t = 5) (hE : ∀ w, TTl m A B w total → Q none w ml)
    (run : ∀ {w : mm_P} {v : Int32} {l : List Int32} {x4 x5 : Option mm_V}, TTl m A B w l → w 219 (n + 1) = nI a → w 220 (n + 1) = v → w 221 (n + 1) = 0 → GVt gB m bI bI a 104 A B h v → (∃ r, l ++ tlv m A B k a v ++ r = total) → (∀ w' x4' x5', TTl m A B w' (l ++ tlv m A B k a v) → TE (n + 1) w w' → mm_WQ (mm_call mm_ms (mm_tb L xs) (d + 1)) (mm_tb L xs) mm_m220 lim Q 28 [some (mm_R 176), some (mm_I x1), some (mm_I x2), some (mm_I (nI (n + 1))), x4', x5'] [] w' ml) → mm_WQ (mm_call mm_ms (mm_tb L xs) (d + 1)) (mm_tb L xs) mm_m220 lim Q 28 [some (mm_R 176), some (mm_I x1), some (mm_I x2), some (mm_I (nI (n + 2))), x4, x5] [] w ml) :
    ∀ (j : Nat) {w0 w : mm_P} {v : Int32} {l : List Int32}, bLn (GVt gB m bI bI a) j 104 A B h v → TTl m A B w l → w 219 n = nI t → TE n w0 w → (∃ r, l ++ (elsF B j v).flatMap (fun b => tlv m A B k a (A b)) ++ r = total) → (∀ w' x4' x5', TTl m A B w' (l ++ (elsF B j v).flatMap (fun b => tlv m A B k a (A b))) → TE n w0 w' → mm_WQ (mm_call mm_ms (mm_tb L xs) (d + 1)) (mm_tb L xs) mm_m220 lim Q 28 [some (mm_R 176), some (mm_I x1), some (mm_I x2), some (mm_I (nI n)), x4', x5'] [] w' ml) → mm_WQ (mm_call mm_ms (mm_tb L xs) (d + 1)) (mm_tb L xs) mm_m220 lim Q 185 [some (mm_R 176), some (mm_I x1), some (mm_I x2), some (mm_I (nI n)), some (mm_I (nI t)), some (mm_I v)] [] w ml := by
  have hNB := hI.1.1
  intro j
  induction j with
  | zero =>
    intro w0 w v l hv hT h219 hTE hr hK
    have e : v = -1 := hv
    have hK' := fun x4' x5' => hK w x4' x5' (by rw [show (elsF B 0 v).flatMap (fun b => tlv m A B k a (A b)) = [] from rfl, List.append_nil]; exact hT) hTE
    exact bk_X12_tellsAll_185 (mm_call_m _) (fun _ => bk_X12_tellsAll_250 (mm_call_m _) (hK' _ _)) (fun z => absurd e z) (fun z => absurd e z) (fun z => absurd e z) (fun z => absurd e z) (fun z => absurd e z) (fun z => absurd e z) (fun z => absurd e z) (fun z => absurd e z) (fun z => absurd e z)
  | succ j ih =>
    intro w0 w v l hv hT h219 hTE hr hK
    have vn : vp_in (nI n) 16 := vp_in_nI (by omega) (by decide)
    have vn1 : vp_in (nI n + 1) 16 := by rw [show nI n + 1 = nI (n + 1) from (nI_succ n).symm]; exact vp_in_nI (by omega) (by decide)
    have vt : vp_in (nI t) 8000 := vp_in_nI (by omega) (by decide)
    have en : (nI n).toNatClampNeg = n := nI_clamp (by omega)
    have vv : ¬ v = -1 → vp_in v 6000 := fun z => by
      obtain ⟨b, b1, b2, b3, b4⟩ := hv.resolve_left z
      rw [b2]
      exact vp_in_nI (by omega) (by decide)
    refine bk_X12_tellsAll_185 (mm_call_m _) (fun z => bk_X12_tellsAll_250 (mm_call_m _) (hK w _ _ ?_ hTE)) (fun z => vv z) (fun _ => vn) (fun _ => vn) (fun _ => vt) (fun _ => vn1) (fun z => vv z) (fun _ => vn1) (fun _ => vn1) (fun z => bk_X12_tellsAll_250 (mm_call_m _) ?_)
    · rw [z, els_m]
      show TTl m A B w (l ++ [])
      rw [List.append_nil]
      exact hT
    obtain ⟨b, b1, b2, b3, b4⟩ := hv.resolve_left z
    have e178 : w 178 t = nI a := (hT.1.1 178 t (by decide) (by decide)).trans h178
    have e77 : w 177 t = 5 := (hT.1.1 177 t (by decide) (by decide)).trans k5
    rw [b2, els_c (by omega), List.flatMap_cons] at hr hK
    rw [b2, en, nI_clamp (by omega), nI_clamp (by omega), show nI n + 1 = nI (n + 1) from (nI_succ n).symm, show nI (n + 1) + 1 = nI (n + 2) from (nI_succ (n + 1)).symm, nI_clamp (by omega), mm_nb0, (hT.2.1 b).1, (hT.2.1 b).2, e178]
    have hT' : TTl m A B (mm_u (mm_u (mm_u (mm_u (mm_u w 220 n (B b)) 221 n (vp_nar .boolean 1)) 219 (n + 1) (nI a)) 220 (n + 1) (A b)) 221 (n + 1) 0) l := TTl_u (TTl_u (TTl_u (TTl_u (TTl_u hT (by decide)) (by decide)) (by decide)) (by decide)) (by decide)
    have hu : ∀ c i, i < n → mm_u (mm_u (mm_u (mm_u (mm_u w 220 n (B b)) 221 n (vp_nar .boolean 1)) 219 (n + 1) (nI a)) 220 (n + 1) (A b)) 221 (n + 1) 0 c i = w c i := fun c i q => by
      rw [mm_u_o (by omega), mm_u_o (by omega), mm_u_o (by omega), mm_u_o (by omega), mm_u_o (by omega)]
    refine run (v := A b) hT' ?_ ?_ mm_u_s b3 ?_ (fun w' y4 y5 q1 q2 => ?_)
    · rw [mm_u_e (by decide), mm_u_e (by decide), mm_u_s]
    · rw [mm_u_e (by decide), mm_u_s]
    · obtain ⟨r, hr⟩ := hr
      exact ⟨_, by rw [← List.append_assoc, List.append_assoc _ _ r] at hr; exact hr⟩
    · have f219 : w' 219 n = nI t := by
        rw [q2 219 n (by decide) (by decide) (by omega), mm_u_o (by omega), mm_u_o (by omega), mm_u_o (by omega), mm_u_o (by omega), mm_u_o (by omega)]
        exact h219
      have f220 : w' 220 n = B b := by
        rw [q2 220 n (by decide) (by decide) (by omega), mm_u_o (by omega), mm_u_o (by omega), mm_u_o (by omega), mm_u_o (by omega), mm_u_s]
      have f221 : ¬ w' 221 n = 0 := by
        rw [q2 221 n (by decide) (by decide) (by omega), mm_u_o (by omega), mm_u_o (by omega), mm_u_o (by omega), mm_u_s]
        decide
      have g77 : w' 177 t = 5 := (q1.1.1 177 t (by decide) (by decide)).trans k5
      have hr2 : ∃ r, l ++ tlv m A B k a (A b) ++ (elsF B j (B b)).flatMap (fun b => tlv m A B k a (A b)) ++ r = total := by
        obtain ⟨r, hr⟩ := hr
        exact ⟨r, by rw [← List.append_assoc] at hr; exact hr⟩
      refine tellx_28 (t := t) (v := B b) (by omega) (by omega) f219 f220 (fun z => ?_) (fun z => ?_) (fun z => ?_) (fun _ _ z => absurd z f221) (fun _ _ _ => ih b4 q1 f219 (TE_t hTE (fun c i x y q => (q2 c i x y (by omega)).trans (hu c i q))) hr2 (fun w2 z4 z5 g1 g2 => hK w2 z4 z5 (by rw [← List.append_assoc]; exact g1) g2))
      · obtain ⟨r, hr⟩ := hr2
        rw [List.append_assoc] at hr
        exact hE w' (TTl_f q1 z hr)
      · rw [g77] at z
        exact absurd z (by decide)
      · rw [g77] at z
        exact absurd z (by decide)
theorem tellx_run {NB ND NF h : Nat} {m : mm_P} {A B : HF} {total : List Int32} (hI : IM m NB ND NF) (hh : h < 6000) (hE : ∀ w, TTl m A B w total → Q none w ml) : ∀ (k : Nat) {n t : Nat} {w : mm_P} {v : Int32} {l : List Int32} {x4 x5 : Option mm_V}, n + k < 14 → t < NB → m 181 t = 0 → m 182 t = 0 → (m 180 t).toInt ≤ k + 1 → TTl m A B w l → w 219 n = nI t → w 220 n = v → w 221 n = 0 → GVt gB m bI bI t 104 A B h v → (∃ r, l ++ tlv m A B (k + 1) t v ++ r = total) → (∀ w' x4' x5', TTl m A B w' (l ++ tlv m A B (k + 1) t v) → TE n w w' → mm_WQ (mm_call mm_ms (mm_tb L xs) (d + 1)) (mm_tb L xs) mm_m220 lim Q 28 [some (mm_R 176), some (mm_I x1), some (mm_I x2), some (mm_I (nI n)), x4', x5'] [] w' ml) → mm_WQ (mm_call mm_ms (mm_tb L xs) (d + 1)) (mm_tb L xs) mm_m220 lim Q 28 [some (mm_R 176), some (mm_I x1), some (mm_I x2), some (mm_I (nI (n + 1))), x4, x5] [] w ml := by
  have hNB := hI.1.1
  have hTW := TW_I hI
  have hD := hI.2.2.2.1
  intro k
  induction k with
  | zero =>
    intro n t w v l x4 x5 hn ht hc1 hc2 hk hT h219 h220 h221 hv hr hK
    have e77 : w 177 t = m 177 t := hT.1.1 177 t (by decide) (by decide)
    have hb : m 177 t = 0 ∨ m 177 t = 1 := by
      rcases hI.2.2.1 t ht with q | ⟨a, q1, q2, q3⟩ | ⟨a, b, q1, q2, q3, q4, q5⟩
      · exact bs_cl q hc1 hc2
      · exfalso
        have da := hD a (by omega)
        rw [q3.2.2.2.1, mm_1p (by omega) (by omega)] at hk
        omega
      · exfalso
        have da := hD a (by omega)
        have db := hD b (by omega)
        have hm' := f_most_r (x := m 180 a) (y := m 180 b) (lo := 1) (hi := 5) da.1 db.1
        rw [q5.2.2.2.1, mm_1p (by omega) (by omega)] at hk
        omega
    have h2 : ¬ 2 ≤ w 177 t := by rw [e77]; rcases hb with e | e <;> (rw [e]; decide)
    have etl : tlv m A B (0 + 1) t v = [v] := by
      show (if m 177 t = 4 then _ else if m 177 t = 5 then _ else [v]) = [v]
      rcases hb with e | e <;> rw [e, if_neg (by decide), if_neg (by decide)]
    rw [etl] at hr hK
    refine tellx_28 (t := t) (v := v) (by omega) (by omega) h219 h220 (fun z => ?_) (fun _ => sx_tells hT (fun w' q1 q2 => bk_X12_tellsAll_77 (mm_call_m _) (bk_X12_tellsAll_250 (mm_call_m _) (hK w' _ _ q1 (fun c i a b q => q2 c i a))))) (fun z => ?_) (fun z => absurd z h2) (fun z => absurd z h2)
    · obtain ⟨r, hr⟩ := hr
      rw [List.append_assoc] at hr
      exact hE w (TTl_f hT z hr)
    rw [e77] at z
    rcases hb with e | e <;> (rw [e] at z; exact absurd z (by decide))
  | succ k ih =>
    intro n t w v l x4 x5 hn ht hc1 hc2 hk hT h219 h220 h221 hv hr hK
    have e77 : w 177 t = m 177 t := hT.1.1 177 t (by decide) (by decide)
    have e78 : w 178 t = m 178 t := hT.1.1 178 t (by decide) (by decide)
    have e79 : w 179 t = m 179 t := hT.1.1 179 t (by decide) (by decide)
    have hex : 100 ≤ w 176 51 → Q none w ml := fun z => by
      obtain ⟨r, hr⟩ := hr
      rw [List.append_assoc] at hr
      exact hE w (TTl_f hT z hr)
    refine tellx_28 (t := t) (v := v) (by omega) (by omega) h219 h220 hex (fun z => ?_) (fun z => ?_) (fun z z2 _ => ?_) (fun _ _ z => absurd h221 z)
    · rw [e77] at z
      have etl : tlv m A B (k + 1 + 1) t v = [v] := by
        show (if m 177 t = 4 then _ else if m 177 t = 5 then _ else [v]) = [v]
        rw [if_neg (fun e => z (by rw [e]; decide)), if_neg (fun e => z (by rw [e]; decide))]
      rw [etl] at hK
      exact sx_tells hT (fun w' q1 q2 => bk_X12_tellsAll_77 (mm_call_m _) (bk_X12_tellsAll_250 (mm_call_m _) (hK w' _ _ q1 (fun c i a b q => q2 c i a))))
    · rw [e77] at z
      obtain ⟨a, b, a1, a2, a3, a4, a5, a6, a7, a8⟩ := GVt_4 (G := gB) (SA := bI) (SB := bI) hTW (.inl ht) z
      have da := hD a (by omega)
      have db := hD b (by omega)
      have hm' := f_most_r (x := m 180 a) (y := m 180 b) (lo := 1) (hi := 5) da.1 db.1
      have hk' := hk
      rw [a8.2.2.2.1, mm_1p (by omega) (by omega)] at hk'
      obtain ⟨⟨c1, c2⟩, c3, c4⟩ := cl_4 hD (by omega) (by omega) a8 hc1 hc2
      rw [a7] at hv
      obtain ⟨p, p1, p2, p3, p4⟩ := hv
      have etl : tlv m A B (k + 1 + 1) t v = tlv m A B (k + 1) a (A p) ++ tlv m A B (k + 1) b (B p) := by
        show (if m 177 t = 4 then tlv m A B (k + 1) (m 178 t).toNatClampNeg (A v.toNatClampNeg) ++ tlv m A B (k + 1) (m 179 t).toNatClampNeg (B v.toNatClampNeg) else _) = _
        rw [if_pos z, a5, a6, p2, nI_clamp (by omega), nI_clamp (by omega), nI_clamp (by omega)]
      rw [etl] at hr hK
      rw [p2]
      refine ⟨vp_in_nI (by omega) (by decide), ?_⟩
      rw [nI_clamp (by omega), (hT.2.1 p).1, (hT.2.1 p).2, e78, e79, a5, a6]
      have hT' : TTl m A B (mm_u (mm_u (mm_u (mm_u (mm_u (mm_u w 219 n (nI b)) 220 n (B p)) 221 n 0) 219 (n + 1) (nI a)) 220 (n + 1) (A p)) 221 (n + 1) 0) l := TTl_u (TTl_u (TTl_u (TTl_u (TTl_u (TTl_u hT (by decide)) (by decide)) (by decide)) (by decide)) (by decide)) (by decide)
      refine ih (n := n + 1) (t := a) (v := A p) (by omega) (by omega) c1 c2 (by omega) hT' ?_ ?_ mm_u_s p3 ?_ (fun w' y4 y5 q1 q2 => ?_)
      · rw [mm_u_e (by decide), mm_u_e (by decide), mm_u_s]
      · rw [mm_u_e (by decide), mm_u_s]
      · obtain ⟨r, hr⟩ := hr
        exact ⟨_, by rw [← List.append_assoc, List.append_assoc _ _ r] at hr; exact hr⟩
      · refine ih (n := n) (t := b) (v := B p) (by omega) (by omega) c3 c4 (by omega) q1 ?_ ?_ ?_ p4 ?_ (fun w'' y4 y5 g1 g2 => hK w'' y4 y5 (by rw [← List.append_assoc]; exact g1) (fun c i x y q => ?_))
        · rw [q2 219 n (by decide) (by decide) (by omega), mm_u_o (by omega), mm_u_o (by omega), mm_u_o (by omega), mm_u_o (by omega), mm_u_o (by omega), mm_u_s]
        · rw [q2 220 n (by decide) (by decide) (by omega), mm_u_o (by omega), mm_u_o (by omega), mm_u_o (by omega), mm_u_o (by omega), mm_u_s]
        · rw [q2 221 n (by decide) (by decide) (by omega), mm_u_o (by omega), mm_u_o (by omega), mm_u_o (by omega), mm_u_s]
        · obtain ⟨r, hr⟩ := hr
          exact ⟨r, by rw [← List.append_assoc] at hr; exact hr⟩
        · rw [g2 c i x y q, q2 c i x y (by omega), mm_u_o (by omega), mm_u_o (by omega), mm_u_o (by omega), mm_u_o (by omega), mm_u_o (by omega), mm_u_o (by omega)]
    · rw [e77] at z z2
      have k5 : m 177 t = 5 := by
        rcases hI.2.2.1 t ht with q | ⟨a, q1, q2, q3⟩ | ⟨a, b, q1, q2, q3, q4, q5⟩
        · rcases bs_cl q hc1 hc2 with e | e <;> (rw [e] at z; exact absurd z (by decide))
        · exact q3.1
        · exact absurd q5.1 z2
      obtain ⟨a, a1, a2, a3, a4, a8⟩ := GVt_5 (G := gB) (SA := bI) (SB := bI) hTW (.inl ht) k5
      have da := hD a (by omega)
      have hk' := hk
      rw [a8.2.2.2.1, mm_1p (by omega) (by omega)] at hk'
      obtain ⟨c1, c2⟩ := cl_5 hD (by omega) a8 hc1 hc2
      rw [a4] at hv
      have etl : tlv m A B (k + 1 + 1) t v = [nI (elsF B 104 v).length] ++ (elsF B 104 v).flatMap (fun b => tlv m A B (k + 1) a (A b)) := by
        show (if m 177 t = 4 then _ else if m 177 t = 5 then nI (elsF B 104 v).length :: (elsF B 104 v).flatMap (fun b => tlv m A B (k + 1) (m 178 t).toNatClampNeg (A b)) else _) = _
        rw [if_neg (by rw [k5]; decide), if_pos k5, a3, nI_clamp (by omega)]
        rfl
      obtain ⟨j, j1, hj⟩ := id hv
      have ej := els_st (by omega) j v hj 104 j1
      rw [etl, ej] at hr hK
      refine sx_lengthOf hh (fun a => (hT.2.1 a).2) hv ?_
      rw [ej]
      refine bk_X12_tellsAll_182 (mm_call_m _) (sx_tells hT (fun w' q1 q2 => ?_))
      exact tellx_list (h := h) (k := k + 1) hI hh (by omega) ht a3 (by omega) k5 hE (fun {w v l x4 x5} b1 b2 b3 b4 b5 b6 b7 => ih (n := n + 1) (t := a) (v := v) (by omega) (by omega) c1 c2 (by omega) b1 b2 b3 b4 b5 b6 b7) j hj q1 ((q2 219 n (by decide)).trans h219) (fun c i x y q => q2 c i x) (by
        obtain ⟨r, hr⟩ := hr
        exact ⟨r, by rw [← List.append_assoc] at hr; exact hr⟩) (fun w2 y4 y5 g1 g2 => hK w2 y4 y5 (by rw [← List.append_assoc]; exact g1) g2)
/-- tellsAll(), exact -/
theorem sx_tellsAll {NB ND NF h t : Nat} {m w : mm_P} {v : Int32} (hI : IM m NB ND NF) (hh : h < 6000) (hp : RG m w) (ht : t < NB) (hc1 : m 181 t = 0) (hc2 : m 182 t = 0) (hv : GVt gB m bI bI t 104 (w 212) (w 213) h v) (h47 : w 176 47 = 0) (hQ : ∀ w', RG m w' → RWl (w' 176 51) (w' 214) (tlv m (w 212) (w 213) 5 t v) → w' 176 47 = 0 → Q none w' ml) : mm_cq (mm_call mm_ms (mm_tb L xs) (d + 2)) 220 [mm_R 176, mm_I (nI t), mm_I v] w ml Q := by
  have v0 : vp_in 0 16 := vp_in_nI (n := 0) (by decide) (by decide)
  have e0 : ((0 : Int32).toNatClampNeg) = 0 := rfl
  have hE : ∀ w', TTl m (w 212) (w 213) w' (tlv m (w 212) (w 213) 5 t v) → Q none w' ml := fun w' q => hQ w' q.1 q.2.2.1 q.2.2.2
  have hT0 : TTl m (w 212) (w 213) (mm_u w 176 51 0) [] := ⟨RG_u hp (by omega), fun a => ⟨mm_u_e (by decide), mm_u_e (by decide)⟩, RWl_z mm_u_s, (mm_u_f (by decide)).trans h47⟩
  refine en_X12_tellsAll (bk_X12_tellsAll_0 (mm_call_m _) v0 v0 v0 ?_)
  rw [mm_nb0, e0]
  have hD := hI.2.2.2.1 t ht
  refine tellx_run (h := h) (total := tlv m (w 212) (w 213) 5 t v) hI hh hE 4 (n := 0) (t := t) (v := v) (l := []) (by decide) ht hc1 hc2 (by omega) (TTl_u (TTl_u (TTl_u hT0 (by decide)) (by decide)) (by decide)) ?_ ?_ mm_u_s hv ⟨[], by rw [List.append_nil]; rfl⟩ (fun w' y4 y5 q1 q2 => ?_)
  · rw [mm_u_e (by decide), mm_u_e (by decide), mm_u_s]
  · rw [mm_u_e (by decide), mm_u_s]
  · have hle : nI 0 ≤ 0 := by decide
    exact bk_X12_tellsAll_28 (mm_call_m _) (fun _ => bk_X12_tellsAll_253 (mm_call_m _) (hE w' q1)) (fun z => absurd hle z) (fun z => absurd hle z) (fun z => absurd hle z) (fun z => absurd hle z) (fun z => absurd hle z) (fun z => absurd hle z) (fun z => absurd hle z) (fun z => absurd hle z) (fun z => absurd hle z) (fun z => absurd hle z) (fun z => absurd hle z) (fun z => absurd hle z) (fun z => absurd hle z) (fun z => absurd hle z) (fun z => absurd hle z) (fun z => absurd hle z) (fun z => absurd hle z) (fun z => absurd hle z) (fun z => absurd hle z) (fun z => absurd hle z)
end MMT
