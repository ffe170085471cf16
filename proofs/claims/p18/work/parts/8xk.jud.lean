/-! ===== copies of the model: which they are ===== -/
/-- a type, or none; -1 where it is too deep -/
def TYW (NB TY : Nat) (w : mm_P) (x : Int32) (A : Int64) : Prop := (x = -1 ∧ A = -1) ∨ ∃ t, x = nI t ∧ vd NB TY t ∧ SHV w t = A
theorem gl_le (c : Int32) : ∀ (j : Nat) (S : Int64), k_gl c j S ≤ j := by
  intro j
  induction j with
  | zero => exact fun S => Nat.le_refl _
  | succ j ih =>
    intro S
    rw [gl_s]
    have hu : ∀ x, x ≤ j → k_un x ≤ j + 1 := fun x hx => by
      unfold k_un
      split <;> omega
    split
    · omega
    · split
      · exact hu _ (Nat.max_le.mpr ⟨ih _, ih _⟩)
      · split
        · exact hu _ (ih _)
        · omega
theorem with_n {A B : Int64} : f_with (-1) A B = -1 := by
  unfold f_with
  rw [wl_s, if_neg (by decide), if_neg (by decide), if_neg (by decide), if_neg (by decide)]
theorem nlt_0 {m : mm_P} {n : Nat} : nlt m n ≤ 0 ↔ m 191 n = -1 := by
  unfold nlt
  by_cases h : m 191 n = -1
  · rw [if_pos h]
    exact ⟨fun _ => h, fun _ => Int32.le_refl _⟩
  · rw [if_neg h]
    refine ⟨fun q => ?_, fun q => absurd q h⟩
    by_cases h2 : m 192 n = -1
    · rw [if_pos h2] at q
      exact absurd q (by decide)
    · rw [if_neg h2] at q
      exact absurd q (by decide)
theorem nlt_1 {m : mm_P} {n : Nat} (h0 : m 191 n = -1 → m 192 n = -1) : nlt m n ≤ 1 ↔ m 192 n = -1 := by
  unfold nlt
  by_cases h : m 191 n = -1
  · rw [if_pos h]
    exact ⟨fun _ => h0 h, fun _ => by decide⟩
  · rw [if_neg h]
    by_cases h2 : m 192 n = -1
    · rw [if_pos h2]
      exact ⟨fun _ => h2, fun _ => Int32.le_refl _⟩
    · rw [if_neg h2]
      exact ⟨fun q => absurd q (by decide), fun q => absurd q h2⟩
section MXC
variable {NB TY TZ : Nat} {w w' m : mm_P} {v x : Int32} {A B : Int64} {C : List CTy}
theorem TYE (hW : WTY NB TY w) (hU : TU NB TY w) (hv : TYV NB TY w v A) (hx : TYW NB TY w x B) (h : x = -1 ∨ ¬ B = -1) : v = x ↔ A = B := by
  rcases hx with ⟨x1, x2⟩ | ⟨u, u1, u2, u3⟩
  · rw [x1, x2]
    exact TYV_N hW hv
  · have hu8 := vd_lt u2 hW.1 hW.2.1
    have hB : ¬ B = -1 := h.resolve_left (fun y => nI_ne (t := u) (by omega) (u1.symm.trans y))
    rcases hv with ⟨v1, v2⟩ | ⟨t, t1, t2, t3, t4⟩
    · rw [v1, v2, u1]
      exact ⟨fun y => absurd y.symm (nI_ne (by omega)), fun y => absurd y.symm hB⟩
    · rw [t1, u1, ← t4, ← u3]
      exact (SHV_iff hW hU t2 u2 t3).symm
theorem TYN (hW : WTY NB TY w) (hv : TYV NB TY w v A) (hx : TYW NB TY w x B) (h : ¬ x = -1) (hB : B = -1) : ¬ v = x := fun e => by
  rcases hx with ⟨x1, -⟩ | ⟨u, u1, u2, u3⟩
  · exact h x1
  · have hu8 := vd_lt u2 hW.1 hW.2.1
    rcases hv with ⟨v1, -⟩ | ⟨t, t1, t2, t3, t4⟩
    · exact h (e.symm.trans v1)
    · have ht8 := vd_lt t2 hW.1 hW.2.1
      have : t = u := nI_inj (by omega) (by omega) (t1.symm.trans (e.trans u1))
      subst this
      have hr := (SHV_r hW t2 t3).1.1
      rw [u3, hB, mm_lln] at hr
      omega
theorem TYW_d (hW : WTY NB TY w) (hx : TYW NB TY w x B) (h : ¬ x = -1) : vp_in x 8000 ∧ (5 < w 180 x.toNatClampNeg → B = -1) ∧ (¬ 5 < w 180 x.toNatClampNeg → ¬ B = -1) := by
  rcases hx with ⟨x1, -⟩ | ⟨u, u1, u2, u3⟩
  · exact absurd x1 h
  · have hu8 := vd_lt u2 hW.1 hW.2.1
    rw [u1, nI_clamp (by omega)]
    refine ⟨vp_in_nI hu8 (by decide), fun z => ?_, fun z q => ?_⟩
    · have := mm_ltI z
      rw [mm_tt5] at this
      rw [← u3]
      exact SHV_n hW u2 (by omega)
    · refine z ?_
      rw [Int32.lt_iff_toInt_lt, mm_tt5]
      by_cases c : (w 180 u).toInt ≤ 5
      · have hr := (SHV_r hW u2 c).1.1
        rw [u3, q, mm_lln] at hr
        omega
      · omega
theorem TYW_V (hW : WTY NB TY w) (hx : TYW NB TY w x B) (h : x = -1 ∨ ¬ B = -1) : TYV NB TY w x B := by
  rcases hx with q | ⟨u, u1, u2, u3⟩
  · exact .inl q
  · have hu8 := vd_lt u2 hW.1 hW.2.1
    have hB : ¬ B = -1 := h.resolve_left (fun y => nI_ne (t := u) (by omega) (u1.symm.trans y))
    refine .inr ⟨u, u1, u2, ?_, u3⟩
    by_cases c : (w 180 u).toInt ≤ 5
    · exact c
    · exact absurd (u3.symm.trans (SHV_n hW u2 c)) hB
theorem TYW_c (hW : WTY NB TY w) (hl : TY ≤ TZ) (hr : ∀ t, vd NB TY t → ∀ c, 177 ≤ c → c ≤ 183 → w' c t = w c t) (h : TYW NB TY w x A) : TYW NB TZ w' x A := by
  rcases h with h | ⟨t, t1, t2, t3⟩
  · exact .inl h
  · exact .inr ⟨t, t1, vd_le t2 hl, (SHV_c hW hr t2).trans t3⟩
theorem CRM_c (hW : WTY NB TY w) (hl : TY ≤ TZ) (hr : ∀ t, vd NB TY t → ∀ c, 177 ≤ c → c ≤ 183 → w' c t = w c t) (h31 : w' 176 31 = w 176 31) (hk : ∀ c i, 204 ≤ c → c ≤ 206 → w' c i = w c i) (h : CRM NB TY m w C) : CRM NB TZ m w' C :=
  ⟨h31.trans h.1, h.2.1, fun i hi => by
    obtain ⟨a, b, c, e, f, g⟩ := h.2.2 i hi
    rw [hk 204 i (by decide) (by decide), hk 205 i (by decide) (by decide), hk 206 i (by decide) (by decide)]
    exact ⟨a, b, TYV_c hW hl hr c, TYV_c hW hl hr e, f, g⟩⟩
theorem CRM_add {g : Nat} {x2 x3 : Int32} (hW : WTY NB TY w) (hC : CRM NB TY m w C) (hg : g < 12) (h2 : TYV NB TY w x2 A) (h3 : TYV NB TY w x3 B) (hA : 0 < (m 194 g).toInt → ¬ A = -1) (hB : 1 < (m 194 g).toInt → ¬ B = -1) (h60 : C.length < 60) (hw : mm_u (mm_u (mm_u (mm_u w 204 C.length (nI g)) 205 C.length x2) 206 C.length x3) 176 31 (nI (C.length + 1)) = w') : CRM NB TY m w' (C ++ [(g, A, B)]) := by
  have ho : ∀ c i, ¬ (204 ≤ c ∧ c ≤ 206 ∧ i = C.length) → ¬ c = 176 → w' c i = w c i := fun c i a b => by
    rw [← hw, mm_u_e b, mm_u_o (by omega), mm_u_o (by omega), mm_u_o (by omega)]
  have hr : ∀ t, vd NB TY t → ∀ c, 177 ≤ c → c ≤ 183 → w' c t = w c t := fun t _ c a b => ho c t (by omega) (by omega)
  have e204 : w' 204 C.length = nI g := by rw [← hw, mm_u_e (by decide), mm_u_e (by decide), mm_u_e (by decide), mm_u_s]
  have e205 : w' 205 C.length = x2 := by rw [← hw, mm_u_e (by decide), mm_u_e (by decide), mm_u_s]
  have e206 : w' 206 C.length = x3 := by rw [← hw, mm_u_e (by decide), mm_u_s]
  refine ⟨?_, ?_, fun i hi => ?_⟩
  · rw [← hw, mm_u_s, List.length_append]
    rfl
  · rw [List.length_append]
    show C.length + 1 ≤ 60
    omega
  · have hi' : i < C.length + 1 := by
      rw [List.length_append] at hi
      exact hi
    by_cases hc : i = C.length
    · rw [hc, getD_lastC, e204, e205, e206]
      exact ⟨hg, rfl, TYV_c hW (Nat.le_refl _) hr h2, TYV_c hW (Nat.le_refl _) hr h3, hA, hB⟩
    · obtain ⟨a, b, c, e, f, g⟩ := hC.2.2 i (by omega)
      rw [getD_appC (by omega), ho 204 i (by omega) (by decide), ho 205 i (by omega) (by decide), ho 206 i (by omega) (by decide)]
      exact ⟨a, b, TYV_c hW (Nat.le_refl _) hr c, TYV_c hW (Nat.le_refl _) hr e, f, g⟩
theorem NRQ_c {ND f n : Nat} {ml : mm_G} (h : NRQ ND m ml w f n) (hk : ∀ c i, 201 ≤ c → c ≤ 203 → w' c i = w c i) : NRQ ND m ml w' f n := fun a a1 a2 b b1 b2 => NRX_c (h a a1 a2 b b1 b2) (hk 201 _ (by decide) (by decide)) (hk 202 _ (by decide) (by decide)) (hk 203 _ (by decide) (by decide))
theorem OL_c {l : List Nat} (h : OL w l) (h36 : w' 176 36 = w 176 36) (h7 : ∀ i, w' 207 i = w 207 i) : OL w' l := ⟨h36.trans h.1, fun i hi => (h7 i).trans (h.2 i hi)⟩
theorem PU_k (hN : NB ≤ 200) (h8 : TZ ≤ 8000) (h7 : TY ≤ 8000) {T0 : Nat} (hl : TY ≤ T0) (h : PU NB T0 TZ x) (hv : TYV NB TY w x A) : TZ = T0 := by
  rcases h with q | ⟨r, r1, r2, r3⟩
  · exact q.2
  · have hr8 := vd_lt r2 hN h8
    rcases hv with v | ⟨t, t1, t2, -⟩
    · exact absurd (r1.symm.trans v.1) (nI_ne (by omega))
    · have ht8 := vd_lt t2 hN h7
      have : r = t := nI_inj (by omega) (by omega) (r1.symm.trans t1)
      subst this
      exact r3 (vd_le t2 hl)
theorem wthn_p {z : Nat} {l : Int32} (hz : z < 200) (hp : PR m w) (h : wthn m z l) : wthn w z l := by
  unfold wthn at h ⊢
  rw [hp 181 z (pg_row (by decide) (by decide) hz), hp 182 z (pg_row (by decide) (by decide) hz)]
  exact h
end MXC
/-- what follows() keeps -/
def FY (NB ND NF TY : Nat) (m : mm_P) (ml : mm_G) (w : mm_P) (C : List CTy) : Prop := TX w NB TY ∧ CRM NB TY m w C ∧ TY ≤ 200 + 30 * C.length ∧ NRQ ND m ml w NF 0 ∧ ∀ s, s ∈ C → UR m s.1
theorem CJ_at {NB ND NF : Nat} {m w : mm_P} {ml : mm_G} (hCJ : CJ m ml) (hI : IM m NB ND NF) (hp : PR m w) : IM w NB ND NF ∧ TC NB w ml ∧ NC ND w ∧ FC NF w ml ∧ ∀ f, f < NF → XS NB ND NF (ml (19 + f)) w ml f := by
  have hNB := hI.1.1
  have hND := hI.1.2.1
  have hNF := hI.1.2.2
  have hIw := IM_c hI hp
  have hCJw := CJ_p hCJ hp
  obtain ⟨hIC', ⟨NB', ND', NF', hI', hT', hN', hF'⟩, -⟩ := id hCJw.1
  have eB : NB' = NB := nI_inj (by have := hI'.1.1; omega) (by omega) (hI'.2.1.1.symm.trans hIw.2.1.1)
  have eD : ND' = ND := nI_inj (by have := hI'.1.2.1; omega) (by omega) (hI'.2.1.2.1.symm.trans hIw.2.1.2.1)
  have eF : NF' = NF := nI_inj (by have := hI'.1.2.2; omega) (by omega) (hI'.2.1.2.2.symm.trans hIw.2.1.2.2)
  subst eB eD eF
  exact ⟨hI', hT', hN', hF', fun f hf => JT_XS hI' hT' hN' hF' (hCJw.2 ND' NF' hN'.1 hF'.1 hND hNF) hf⟩
section MMT
variable {L : Nat} {xs : Nat → Int32} {d : Nat} {Q : mm_QQ} {mi : mm_P} {ml : mm_G} {lim : Nat × Nat} {NB ND NF TY : Nat}
/-- put(): a type of a function in a copy of it -/
theorem sx_letter {z : Nat} {l fa fb : Int32} {A B : Int64} (hT : TX mi NB TY) (hD : DN NB mi) (hTC : TC NB mi ml) (hz : z < NB) (hwt : wthn mi z l) (hA : TYV NB TY mi fa A) (hB : TYV NB TY mi fb B) (hlA : 0 < l.toInt → ¬ A = -1) (hlB : 1 < l.toInt → ¬ B = -1) (hb : TY ≤ 7985) (hQ : ∀ n r TZ, TX n NB TZ → TY ≤ TZ → TZ ≤ TY + 15 → vd NB TZ r → (vd NB TY r → TZ = TY) → MKP TY mi n → SHV n r = f_with (ml 2 z) A B → Q (some (mm_I (nI r))) n ml) : mm_cq (mm_call mm_ms (mm_tb L xs) (d + 5)) 181 [mm_R 176, mm_I (nI z), mm_I fa, mm_I fb] mi ml Q := by
  have hW := TX_W hT
  have h200 := hT.1.2.1.1
  refine sx_put hT hD hz (fun q => ?_) (fun q => ?_) hb (fun n r TZ a b c e g k o => hQ n r TZ a b c e g k ?_)
  · obtain ⟨-, t, t1, -, t2, -⟩ := TYV_T hW hA (hlA (hwt.1.resolve_left q))
    exact ⟨t, t2, t1⟩
  · obtain ⟨-, t, t1, -, t2, -⟩ := TYV_T hW hB (hlB (hwt.2.resolve_left q))
    exact ⟨t, t2, t1⟩
  · have hv : ∀ t, vd NB TY t → ∀ c, 177 ≤ c → c ≤ 183 → n c t = mi c t := fun t ht c h1 h2 => MKP_v k hW.1 h200 ht h1 h2
    have hDn := DN_c hD (n := n) (fun t ht => hv t (.inl ht))
    have hTn : TC NB n ml := TC_c hTC (k 1 1 (by omega) (by omega) (by omega)) (fun t ht => hv t (.inl ht)) (fun _ _ => rfl)
    have hS : ∀ {v : Int32} {S : Int64}, TYV NB TY mi v S → ∀ r', vd NB TZ r' → nI r' = v → SHV n r' = S := fun {v S} hv' r' hr' e => by
      have hr8 := vd_lt hr' hW.1 a.1.2.1.2
      rcases hv' with ⟨q, -⟩ | ⟨t, t1, t2, t3, t4⟩
      · exact absurd (e.trans q) (nI_ne (by omega))
      · have ht8 := vd_lt t2 hW.1 hW.2.1
        have : r' = t := nI_inj (by omega) (by omega) (e.trans t1)
        subst this
        exact (SHV_c hW hv t2).trans t4
    exact wl_SB (TX_W a) hDn hTn (hS hA) (hS hB) 4 6 z r (by omega) hz e (by have := (hDn z hz).1.2; omega) o
/-! copied() -/
theorem cp_3 {C : List CTy} {g : Nat} {x2 x3 : Int32} {A B : Int64} {m : mm_P} (hC : CRM NB TY m mi C) (hW : WTY NB TY mi) (hU : TU NB TY mi) (hg : g < 12) (h2 : TYW NB TY mi x2 A) (h3 : TYW NB TY mi x3 B) (h1 : ¬ ((¬ x2 = -1 ∧ A = -1) ∨ (¬ x3 = -1 ∧ B = -1)) → ∀ e, e < C.length → C.getD e k_c0 = (g, A, B) → mi 205 e = x2 → mi 206 e = x3 → Q (some (mm_I 1)) mi ml) (h0 : ((¬ x2 = -1 ∧ A = -1) ∨ (¬ x3 = -1 ∧ B = -1)) ∨ (¬ ((¬ x2 = -1 ∧ A = -1) ∨ (¬ x3 = -1 ∧ B = -1)) ∧ ¬ (g, A, B) ∈ C ∧ ¬ C.length < 60) → Q (some (mm_I 0)) mi ml) (hN : ¬ ((¬ x2 = -1 ∧ A = -1) ∨ (¬ x3 = -1 ∧ B = -1)) → ¬ (g, A, B) ∈ C → C.length < 60 → Q (some (mm_I 1)) (mm_u (mm_u (mm_u (mm_u mi 204 C.length (nI g)) 205 C.length x2) 206 C.length x3) 176 31 (nI (C.length + 1))) ml) : ∀ (j i : Nat), i + j = C.length → (∀ e, e < i → ¬ (mi 204 e = nI g ∧ mi 205 e = x2 ∧ mi 206 e = x3)) → mm_WQ (mm_call mm_ms (mm_tb L xs) d) (mm_tb L xs) mm_m206 lim Q 3 [some (mm_R 176), some (mm_I (nI g)), some (mm_I x2), some (mm_I x3), some (mm_I (nI i))] [] mi ml := by
  have hC1 := hC.1
  have hC60 := hC.2.1
  have ex : ∀ {x : Int32} {S : Int64}, ¬ (¬ x = -1 ∧ S = -1) → (x = -1 ∨ ¬ S = -1) := fun {x S} q => by
    by_cases c : x = -1
    · exact .inl c
    · exact .inr (fun z => q ⟨c, z⟩)
  intro j
  induction j with
  | zero =>
    intro i h hA
    have hi : i = C.length := by omega
    have hle : mi 176 31 ≤ nI i := by rw [hC1, hi]; exact Int32.le_refl _
    have hno : ¬ ((¬ x2 = -1 ∧ A = -1) ∨ (¬ x3 = -1 ∧ B = -1)) → ¬ (g, A, B) ∈ C := fun hb q => by
      obtain ⟨e, e1, e2⟩ := mem_getD.mp q
      obtain ⟨c1, c2, c3, c4, -⟩ := hC.2.2 e e1
      rw [e2] at c1 c2 c3 c4
      exact hA e (by omega) ⟨c2, (TYE hW hU c3 h2 (ex (fun y => hb (.inl y)))).mpr rfl, (TYE hW hU c4 h3 (ex (fun y => hb (.inr y)))).mpr rfl⟩
    have h92 : (((¬ x2 = -1 ∧ A = -1) ∨ (¬ x3 = -1 ∧ B = -1)) ∨ ¬ C.length < 60) → mm_WQ (mm_call mm_ms (mm_tb L xs) d) (mm_tb L xs) mm_m206 lim Q 92 [some (mm_R 176), some (mm_I (nI g)), some (mm_I x2), some (mm_I x3), some (mm_I (nI i))] [] mi ml := fun y => bk_X12_copied_92 (mm_call_m _) (h0 (by
      by_cases hb : (¬ x2 = -1 ∧ A = -1) ∨ (¬ x3 = -1 ∧ B = -1)
      · exact .inl hb
      · exact .inr ⟨hb, hno hb, y.resolve_left hb⟩))
    have h60 : ¬ mi 176 31 = 60 → C.length < 60 := fun z => by
      have : ¬ C.length = 60 := fun q => z (by rw [hC1, q]; rfl)
      omega
    have h94 : ¬ mi 176 31 = 60 → (x2 = -1 ∨ ¬ A = -1) → (x3 = -1 ∨ ¬ B = -1) → mm_WQ (mm_call mm_ms (mm_tb L xs) d) (mm_tb L xs) mm_m206 lim Q 94 [some (mm_R 176), some (mm_I (nI g)), some (mm_I x2), some (mm_I x3), some (mm_I (nI i))] [] mi ml := fun z y y2 => by
      have hb : ¬ ((¬ x2 = -1 ∧ A = -1) ∨ (¬ x3 = -1 ∧ B = -1)) := fun q => by
        rcases q with ⟨a, b⟩ | ⟨a, b⟩
        · exact y.elim a (fun k => k b)
        · exact y2.elim a (fun k => k b)
      have hlt := h60 z
      have vi : vp_in (mi 176 31) 60 := by
        rw [hC1]
        exact vp_in_nI hlt (by decide)
      refine bk_X12_copied_94 (mm_call_m _) vi vi vi ?_
      rw [hC1, nI_clamp (by omega), show nI C.length + 1 = nI (C.length + 1) from (nI_succ C.length).symm]
      exact hN hb (hno hb) hlt
    have h77 : ¬ mi 176 31 = 60 → (x2 = -1 ∨ ¬ A = -1) → mm_WQ (mm_call mm_ms (mm_tb L xs) d) (mm_tb L xs) mm_m206 lim Q 77 [some (mm_R 176), some (mm_I (nI g)), some (mm_I x2), some (mm_I x3), some (mm_I (nI i))] [] mi ml := fun z y => bk_X12_copied_77 (mm_call_m _) (fun q => h94 z y (.inl q)) (fun q => (TYW_d hW h3 q).1) (fun q q2 => h94 z y (.inr ((TYW_d hW h3 q).2.2 (fun r => by
      have a := mm_leI q2
      have b := mm_ltI r
      omega)))) (fun q q2 => h92 (.inl (.inr ⟨q, (TYW_d hW h3 q).2.1 (by
      have a := mm_nleI q2
      rw [Int32.lt_iff_toInt_lt]
      exact a)⟩)))
    exact bk_X12_copied_3 (mm_call_m _) (fun _ z => h92 (.inr (fun q => by
      rw [hC1] at z
      have := congrArg Int32.toInt z
      rw [mm_tI (by omega)] at this
      have e60 : (60 : Int32).toInt = 60 := rfl
      omega))) (fun _ z q => h77 z (.inl q)) (fun _ _ q => (TYW_d hW h2 q).1) (fun _ _ q q2 => h92 (.inl (.inl ⟨q, (TYW_d hW h2 q).2.1 q2⟩))) (fun _ z q q2 => h77 z (.inr ((TYW_d hW h2 q).2.2 q2))) (fun z => absurd hle z) (fun z => absurd hle z) (fun z => absurd hle z) (fun z => absurd hle z) (fun z => absurd hle z) (fun z => absurd hle z) (fun z => absurd hle z)
  | succ j ih =>
    intro i h hA
    have hlt : ¬ mi 176 31 ≤ nI i := by
      rw [hC1, Int32.le_iff_toInt_le, mm_tI (by omega), mm_tI (by omega)]
      omega
    have ei : (nI i).toNatClampNeg = i := nI_clamp (by omega)
    have vi : vp_in (nI i) 60 := vp_in_nI (by omega) (by decide)
    obtain ⟨c1, c2, c3, c4, -⟩ := hC.2.2 i (by omega)
    have h47 : ¬ (mi 204 i = nI g ∧ mi 205 i = x2 ∧ mi 206 i = x3) → mm_WQ (mm_call mm_ms (mm_tb L xs) d) (mm_tb L xs) mm_m206 lim Q 47 [some (mm_R 176), some (mm_I (nI g)), some (mm_I x2), some (mm_I x3), some (mm_I (nI i))] [] mi ml := fun q => by
      refine bk_X12_copied_47 (mm_call_m _) ?_
      rw [show nI i + 1 = nI (i + 1) from (nI_succ i).symm]
      refine ih (i + 1) (by omega) (fun e he => ?_)
      by_cases hei : e = i
      · rw [hei]
        exact q
      · exact hA e (by omega)
    refine bk_X12_copied_3 (mm_call_m _) (fun z => absurd z hlt) (fun z => absurd z hlt) (fun z => absurd z hlt) (fun z => absurd z hlt) (fun z => absurd z hlt) (fun _ => vi) (fun _ z => h47 (fun q => z (by rw [ei]; exact q.1))) (fun _ _ => vi) (fun _ _ z => h47 (fun q => z (by rw [ei]; exact q.2.1))) (fun _ _ _ => vi) (fun _ _ _ z => h47 (fun q => z (by rw [ei]; exact q.2.2))) (fun _ a b c => ?_)
    rw [ei] at a b c
    have hb : ¬ ((¬ x2 = -1 ∧ A = -1) ∨ (¬ x3 = -1 ∧ B = -1)) := fun q => by
      rcases q with ⟨q1, q2⟩ | ⟨q1, q2⟩
      · exact TYN hW c3 h2 q1 q2 b
      · exact TYN hW c4 h3 q1 q2 c
    refine h1 hb i (by omega) (Prod.ext ?_ (Prod.ext ?_ ?_)) b c
    · exact nI_inj (by omega) (by omega) (c2.symm.trans a)
    · exact (TYE hW hU c3 h2 (ex (fun y => hb (.inl y)))).mp b
    · exact (TYE hW hU c4 h3 (ex (fun y => hb (.inr y)))).mp c
theorem sx_copied {C : List CTy} {g : Nat} {x2 x3 : Int32} {A B : Int64} {m : mm_P} (hC : CRM NB TY m mi C) (hW : WTY NB TY mi) (hU : TU NB TY mi) (hg : g < 12) (h2 : TYW NB TY mi x2 A) (h3 : TYW NB TY mi x3 B) (h1 : ¬ ((¬ x2 = -1 ∧ A = -1) ∨ (¬ x3 = -1 ∧ B = -1)) → ∀ e, e < C.length → C.getD e k_c0 = (g, A, B) → mi 205 e = x2 → mi 206 e = x3 → Q (some (mm_I 1)) mi ml) (h0 : ((¬ x2 = -1 ∧ A = -1) ∨ (¬ x3 = -1 ∧ B = -1)) ∨ (¬ ((¬ x2 = -1 ∧ A = -1) ∨ (¬ x3 = -1 ∧ B = -1)) ∧ ¬ (g, A, B) ∈ C ∧ ¬ C.length < 60) → Q (some (mm_I 0)) mi ml) (hN : ¬ ((¬ x2 = -1 ∧ A = -1) ∨ (¬ x3 = -1 ∧ B = -1)) → ¬ (g, A, B) ∈ C → C.length < 60 → Q (some (mm_I 1)) (mm_u (mm_u (mm_u (mm_u mi 204 C.length (nI g)) 205 C.length x2) 206 C.length x3) 176 31 (nI (C.length + 1))) ml) : mm_cq (mm_call mm_ms (mm_tb L xs) (d + 1)) 206 [mm_R 176, mm_I (nI g), mm_I x2, mm_I x3] mi ml Q :=
  en_X12_copied (bk_X12_copied_0 (mm_call_m _) (cp_3 hC hW hU hg h2 h3 h1 h0 hN C.length 0 (by omega) (fun e he => absurd he (Nat.not_lt_zero _))))
/-! follows(): the walk over the nodes -/
theorem fw_44 {f c b : Nat} {A B : Int64} {l : List Nat} {R : Option (List CTy)} {C0 : List CTy} {m : mm_P} (hCJ : CJ m ml) (hI : IM m NB ND NF) (hf : f < NF) (hU : UR m f) (hb : b < ND) (hb15 : m 15 f = nI b) (hS : ¬ ml (19 + f) b = -1) (hll : l.length ≤ 200) (hl : ∀ n, n ∈ l → BL m b n) (h0 : R = none → ∀ w, PR m w → Q (some (mm_I 0)) w ml) (h1 : ∀ C', R = some C' → ∀ w TZ, PR m w → FY NB ND NF TZ m ml w C' → (∃ S, C' = C0 ++ S) → Q (some (mm_I 1)) w ml) : ∀ (j i TY : Nat) (C : List CTy) (w : mm_P) {x4 x5 x6 x7 : Option mm_V}, i + j = l.length → k_cfs m ml f A B (l.drop i) C = R → PR m w → FY NB ND NF TY m ml w C → OL w l → c < C.length → C.getD c k_c0 = (f, A, B) → (∃ S, C = C0 ++ S) → mm_WQ (mm_call mm_ms (mm_tb L xs) (d + 5)) (mm_tb L xs) mm_m207 lim Q 44 [some (mm_R 176), some (mm_I (nI c)), some (mm_I (nI f)), some (mm_I (nI i)), x4, x5, x6, x7] [] w ml := by
  have hNB := hI.1.1
  have hND := hI.1.2.1
  have hNF := hI.1.2.2
  obtain ⟨-, hTCm, hNm, hFm, hXm⟩ := CJ_at hCJ hI (PR_r (m := m))
  have e97 : (m 9 7).toInt = NF := by rw [hFm.1]; exact mm_tI (by omega)
  intro j
  induction j with
  | zero =>
    intro i TY C w x4 x5 x6 x7 h hR hp hF hO hcC hcf hpre
    have hi : i = l.length := by omega
    have hle : w 176 36 ≤ nI i := by rw [hO.1, hi]; exact Int32.le_refl _
    rw [hi, List.drop_length] at hR
    exact bk_X12_follows_44 (mm_call_m _) (fun _ => h1 C hR.symm w TY hp hF hpre) (fun z => absurd hle z) (fun z => absurd hle z) (fun z => absurd hle z) (fun z => absurd hle z) (fun z => absurd hle z)
  | succ j ih =>
    intro i TY C w x4 x5 x6 x7 h hR hp hF hO hcC hcf hpre
    obtain ⟨hT, hC, hTY, hNQ, hUC⟩ := id hF
    have hW := TX_W hT
    have h200 := hT.1.2.1.1
    have hC60 := hC.2.1
    have hil : i < l.length := by omega
    rw [drop_s hil] at hR
    generalize hn : l.getD i 0 = n at hR
    have hnl : n ∈ l := by rw [← hn]; exact mem_getN hil
    have hbl := hl n hnl
    have hnN : n < ND := by
      have := BL_le hND (fun q hq => okK_of hI hNm hq) hb hbl
      omega
    have hSn : ¬ ml (19 + f) n = -1 := typed_BL (hXm f hf) hNm hb hS hbl
    have hlt : ¬ w 176 36 ≤ nI i := by
      rw [hO.1, Int32.le_iff_toInt_le, mm_tI (by omega), mm_tI (by omega)]
      omega
    have ei : (nI i).toNatClampNeg = i := nI_clamp (by omega)
    have e207 : w 207 i = nI n := by rw [hO.2 i hil, hn]
    have vn : vp_in (nI n) 200 := vp_in_nI (by omega) (by decide)
    have en : (nI n).toNatClampNeg = n := nI_clamp (by omega)
    have vc : vp_in (nI c) 60 := vp_in_nI (by omega) (by decide)
    have ec : (nI c).toNatClampNeg = c := nI_clamp (by omega)
    have v24 : vp_in (200 * nI f + nI n) 2400 := by
      rw [rx2 (by omega) (by omega)]
      exact vp_in_nI (by omega) (by decide)
    have e24 : (200 * nI f + nI n).toNatClampNeg = 200 * f + n := by
      rw [rx2 (by omega) (by omega)]
      exact nI_clamp (by omega)
    obtain ⟨c1, c2, c3, c4, c5, c6⟩ := hC.2.2 c hcC
    rw [hcf] at c1 c2 c3 c4 c5 c6
    obtain ⟨r1, r2, r3, r4, r5, r6⟩ := (hNQ f (by omega) hU n hnN (.inl hf)).resolve_left hSn
    have hD := with_D (A := A) (B := B) r1 (fun q => (TYV_T hW c3 (c5 (r5 q))).1) (fun q => (TYV_T hW c4 (c6 (r6 q))).1)
    have hcs : k_cfs m ml f A B (n :: l.drop (i + 1)) C = (match k_cst m ml f A B C n with
      | none => none
      | some C' => k_cfs m ml f A B (l.drop (i + 1)) C') := rfl
    rw [hcs] at hR
    have hgo : ∀ (w' : mm_P) (TZ : Nat) (C' : List CTy) {x4 x5 x6 x7 : Option mm_V}, PR m w' → FY NB ND NF TZ m ml w' C' → OL w' l → (∃ S, C' = C ++ S) → k_cfs m ml f A B (l.drop (i + 1)) C' = R → mm_WQ (mm_call mm_ms (mm_tb L xs) (d + 5)) (mm_tb L xs) mm_m207 lim Q 44 [some (mm_R 176), some (mm_I (nI c)), some (mm_I (nI f)), some (mm_I (nI i + 1)), x4, x5, x6, x7] [] w' ml := fun w' TZ C' {x4 x5 x6 x7} a b e g k => by
      rw [show nI i + 1 = nI (i + 1) from (nI_succ i).symm]
      obtain ⟨S, hS⟩ := g
      obtain ⟨S0, hS0⟩ := hpre
      refine ih (i + 1) TZ C' w' (by omega) k a b e ?_ ?_ ⟨S0 ++ S, ?_⟩
      · rw [hS, List.length_append]
        exact Nat.lt_add_right _ hcC
      · rw [hS, getD_appS hcC]
        exact hcf
      · rw [hS, hS0, List.append_assoc]
    refine bk_X12_follows_44 (mm_call_m _) (fun z => absurd z hlt) (fun _ => vp_in_nI (by omega) (by decide)) (fun _ => ?_) (fun _ => ?_) (fun _ => ?_) (fun _ => ?_) <;> rw [ei, e207]
    iterate 3 exact v24
    rw [e24]
    have hg2 := gl_le 2 7 (ml (19 + f) n)
    have hg3 := gl_le 3 7 (ml (19 + f) n)
    refine sx_deepIn (A := A) (B := B) hW (by omega) r2 r3 r4 (by omega) (by omega) (fun z => ⟨c3, c5 (r5 z)⟩) (fun z => ⟨c4, c6 (r6 z)⟩) (fun v hv => ?_)
    have hDD : (k_DD 7 (ml (19 + f) n) A B : Int) = v.toInt := by
      rw [hv]
      rfl
    by_cases hsh : f_with (ml (19 + f) n) A B = -1
    · have hno : R = none := by
        have hc : k_cst m ml f A B C n = none := by
          unfold k_cst
          rw [if_pos hsh]
        rw [hc] at hR
        exact hR.symm
      have h5 : ¬ v ≤ 5 := fun z => by
        have z' := mm_leI z
        rw [mm_tt5, ← hDD] at z'
        rcases hD with ⟨-, q⟩ | ⟨q, -⟩
        · rw [hsh] at q
          exact CNS_n q
        · omega
      exact bk_X12_follows_96 (mm_call_m _) (fun z => absurd z h5) (fun z => absurd z h5) (fun z => absurd z h5) (fun z => absurd z h5) (fun z => absurd z h5) (fun z => absurd z h5) (fun z => absurd z h5) (fun z => absurd z h5) (fun _ => h0 hno w hp)
    · have h5 : v ≤ 5 := by
        rcases hD with ⟨q, -⟩ | ⟨-, q⟩
        · rw [Int32.le_iff_toInt_le, mm_tt5, ← hDD]
          omega
        · exact absurd q hsh
      have hk8 : ∀ k, w 188 k = m 188 k := fun k => hp 188 k (pg_nod (by decide) (by decide))
      by_cases k : m 4 n = 14
      · have k188 : m 188 n = 14 := (hNm.2 n hnN).1.symm.trans k
        obtain ⟨g, g1, g2, g3, g4, g5⟩ := call_K (hXm f hf) hnN k188 hSn
        have e6 : m 6 (4 * n) = nI g := ((hNm.2 n hnN).2.2.1 (by rw [k188]; decide)).trans g2
        have e62 : m 6 (4 * n + 2) = m 191 n := (hNm.2 n hnN).2.2.2.2.1 (.inr k188)
        have e63 : m 6 (4 * n + 3) = m 192 n := (hNm.2 n hnN).2.2.2.2.2 k188
        have hgc : k_cg m n = g := by
          unfold k_cg
          rw [e6]
          exact nI_clamp (by omega)
        have hUg : UR m g := by
          have hde : DE m f g := ⟨b, by omega, by omega, hb15, n, hbl, k, e6⟩
          rcases hU with y | y
          · rw [y] at hde
            exact .inr (RCH_1 (by omega) hde)
          · exact .inr (RCH_s (by omega) (by omega) y hde)
        have e10 : m 10 g = nlt m n := ((hFm.2 g g1).1).trans g3
        have h12 : m 191 n = -1 → m 192 n = -1 := ((hI.2.2.2.2.1 n hnN).2.2.2.2 k188).2.2.2.2
        have hkA : ∀ z, m 191 n = nI z → z < NB → k_ca m ml A B n = f_with (ml 2 z) A B := fun z q hz => by
          unfold k_ca
          rw [e62, SHO_t (by omega) q]
        have hkB : ∀ z, m 192 n = nI z → z < NB → k_cb m ml A B n = f_with (ml 2 z) A B := fun z q hz => by
          unfold k_cb
          rw [e63, SHO_t (by omega) q]
        have hkA0 : m 191 n = -1 → k_ca m ml A B n = -1 := fun q => by
          unfold k_ca SHO
          rw [e62, if_pos q]
          exact with_n
        have hkB0 : m 192 n = -1 → k_cb m ml A B n = -1 := fun q => by
          unfold k_cb SHO
          rw [e63, if_pos q]
          exact with_n
        have hcst : k_cst m ml f A B C n = (if (¬ m 10 g ≤ 0 ∧ k_ca m ml A B n = -1) ∨ (¬ m 10 g ≤ 1 ∧ k_cb m ml A B n = -1) then none else if (g, k_ca m ml A B n, k_cb m ml A B n) ∈ C then some C else if C.length < 60 then some (C ++ [(g, k_ca m ml A B n, k_cb m ml A B n)]) else none) := by
          unfold k_cst k_ct
          rw [if_neg hsh, if_pos k, hgc]
        rw [hcst] at hR
        have h192 : ∀ (w2 : mm_P) (T1 T2 : Nat) (x y : Int32) {y5 : Int32} {x7 : Option mm_V}, MKP TY w w2 → TX w2 NB T2 → TY ≤ T1 → T1 ≤ T2 → T1 ≤ 8000 → T2 ≤ TY + 30 → PU NB TY T1 x → PU NB T1 T2 y → TYW NB T2 w2 x (k_ca m ml A B n) → TYW NB T2 w2 y (k_cb m ml A B n) → (x = -1 ↔ m 191 n = -1) → (y = -1 ↔ m 192 n = -1) → mm_WQ (mm_call mm_ms (mm_tb L xs) (d + 5)) (mm_tb L xs) mm_m207 lim Q 192 [some (mm_R 176), some (mm_I (nI c)), some (mm_I (nI f)), some (mm_I (nI i)), some (mm_I (nI n)), some (mm_I y5), some (mm_I x), x7] [mm_I y] w2 ml := by
          intro w2 T1 T2 x y y5 x7 hm hT2 l1 l2 l8 l3 hpx hpy hx hy hxn hyn
          have hpw : PR w w2 := PR_mkp hm h200
          have hpm : PR m w2 := PR_t hp hpw
          have hk9 : ∀ c i, 188 ≤ c → w2 c i = w c i := fun c i q => MKP_h hm q
          have hv2 : ∀ t, vd NB TY t → ∀ c, 177 ≤ c → c ≤ 183 → w2 c t = w c t := fun t ht c q1 q2 => MKP_v hm hW.1 h200 ht q1 q2
          have h31 : w2 176 31 = w 176 31 := hm 176 31 (by omega) (by omega) (by omega)
          have hC2 : CRM NB T2 m w2 C := CRM_c hW (by omega) hv2 h31 (fun c i q1 q2 => hk9 c i (by omega)) hC
          have hO2 : OL w2 l := OL_c hO (hm 176 36 (by omega) (by omega) (by omega)) (fun i => hk9 207 i (by decide))
          have hNQ2 : NRQ ND m ml w2 NF 0 := NRQ_c hNQ (fun c i q1 q2 => hk9 c i (by omega))
          have hiA : (¬ m 10 g ≤ 0) ↔ ¬ x = -1 := by rw [e10, nlt_0, hxn]
          have hiB : (¬ m 10 g ≤ 1) ↔ ¬ y = -1 := by rw [e10, nlt_1 h12, hyn]
          have hib : ((¬ m 10 g ≤ 0 ∧ k_ca m ml A B n = -1) ∨ (¬ m 10 g ≤ 1 ∧ k_cb m ml A B n = -1)) ↔ ((¬ x = -1 ∧ k_ca m ml A B n = -1) ∨ (¬ y = -1 ∧ k_cb m ml A B n = -1)) := by rw [hiA, hiB]
          refine bk_X12_follows_192 (mm_call_m _) vn ?_
          rw [en, show w2 189 n = nI g from (hk9 189 n (by decide)).trans ((hp 189 n (pg_nod (by decide) (by decide))).trans g2)]
          refine sx_copied (d := d + 4) hC2 (TX_W hT2) hT2.2.2 (by omega) hx hy (fun hb e e1 e2 e3 e4 => bk_X12_follows_209 (mm_call_m _) (fun _ => bk_X12_follows_214 (mm_call_m _) ?_) (fun z => absurd z (by decide))) (fun hb => bk_X12_follows_209 (mm_call_m _) (fun z => absurd rfl z) (fun _ => h0 ?_ w2 hpm)) (fun hb hno h60 => bk_X12_follows_209 (mm_call_m _) (fun _ => bk_X12_follows_214 (mm_call_m _) ?_) (fun z => absurd z (by decide)))
          · obtain ⟨-, -, q1, q2, -⟩ := hC.2.2 e e1
            rw [← hk9 205 e (by decide), e3] at q1
            rw [← hk9 206 e (by decide), e4] at q2
            have eT1 := PU_k (w := w) hW.1 l8 hW.2.1 (Nat.le_refl _) hpx q1
            have eT2 := PU_k (w := w) hW.1 hT2.1.2.1.2 hW.2.1 l1 hpy q2
            rw [eT2, eT1] at hT2 hC2
            refine hgo w2 TY C hpm ⟨hT2, hC2, hTY, hNQ2, hUC⟩ hO2 ⟨[], (List.append_nil C).symm⟩ ?_
            rw [if_neg (fun q => hb (hib.mp q)), if_pos (mem_getD.mpr ⟨e, e1, e2⟩)] at hR
            exact hR
          · rcases hb with hb | ⟨hb, hno, h60⟩
            · rw [if_pos (hib.mpr hb)] at hR
              exact hR.symm
            · rw [if_neg (fun q => hb (hib.mp q)), if_neg hno, if_neg h60] at hR
              exact hR.symm
          · rw [if_neg (fun q => hb (hib.mp q)), if_neg hno, if_pos h60] at hR
            have xV := TYW_V (TX_W hT2) hx (by
              by_cases q : x = -1
              · exact .inl q
              · exact .inr (fun z => hb (.inl ⟨q, z⟩)))
            have yV := TYW_V (TX_W hT2) hy (by
              by_cases q : y = -1
              · exact .inl q
              · exact .inr (fun z => hb (.inr ⟨q, z⟩)))
            generalize hw3 : mm_u (mm_u (mm_u (mm_u w2 204 C.length (nI g)) 205 C.length x) 206 C.length y) 176 31 (nI (C.length + 1)) = w3
            have ho3 : ∀ c i, ¬ (204 ≤ c ∧ c ≤ 206) → ¬ (c = 176 ∧ i = 31) → w3 c i = w2 c i := fun c i a b => by
              rw [← hw3, mm_u_o b, mm_u_e (by omega), mm_u_e (by omega), mm_u_e (by omega)]
            have hp3 : PR w2 w3 := by
              rw [← hw3]
              exact PR_u (PR_u (PR_u (PR_u PR_r rfl) rfl) rfl) rfl
            have hC3 := CRM_add (TX_W hT2) hC2 (show g < 12 by omega) xV yV (fun z => fun q => hb (.inl ⟨hiA.mp (fun y => by
              have := mm_leI y
              rw [(hFm.2 g g1).1, mm_tt0] at this
              omega), q⟩)) (fun z => fun q => hb (.inr ⟨hiB.mp (fun y => by
              have := mm_leI y
              rw [(hFm.2 g g1).1, mm_tt1] at this
              omega), q⟩)) h60 hw3
            refine hgo w3 T2 (C ++ [(g, k_ca m ml A B n, k_cb m ml A B n)]) (PR_t hpm hp3) ⟨TX_c hT2 (ho3 176 0 (by omega) (by omega)) (ho3 176 1 (by omega) (by omega)) (fun c i q1 q2 => ho3 c i (by omega) (by omega)), hC3, ?_, NRQ_c hNQ2 (fun c i q1 q2 => ho3 c i (by omega) (by omega)), fun s hs => ?_⟩ (OL_c hO2 (ho3 176 36 (by omega) (by omega)) (fun i => ho3 207 i (by omega) (by omega))) ⟨_, rfl⟩ hR
            · rw [List.length_append]
              show T2 ≤ 200 + 30 * (C.length + 1)
              omega
            · rcases List.mem_append.mp hs with q | q
              · exact hUC s q
              · rw [List.mem_singleton.mp q]
                exact hUg
        have h152 : ∀ (w1 : mm_P) (T1 : Nat) (x : Int32) {y5 : Int32} {x6 x7 : Option mm_V}, MKP TY w w1 → TX w1 NB T1 → TY ≤ T1 → T1 ≤ TY + 15 → PU NB TY T1 x → TYW NB T1 w1 x (k_ca m ml A B n) → (x = -1 ↔ m 191 n = -1) → mm_WQ (mm_call mm_ms (mm_tb L xs) (d + 5)) (mm_tb L xs) mm_m207 lim Q 152 [some (mm_R 176), some (mm_I (nI c)), some (mm_I (nI f)), some (mm_I (nI i)), some (mm_I (nI n)), some (mm_I y5), x6, x7] [mm_I x] w1 ml := by
          intro w1 T1 x y5 x6 x7 hm hT1 l1 l2 hpx hx hxn
          have hpw : PR w w1 := PR_mkp hm h200
          have hpm : PR m w1 := PR_t hp hpw
          have hk9 : ∀ c i, 188 ≤ c → w1 c i = w c i := fun c i q => MKP_h hm q
          have hv1 : ∀ t, vd NB TY t → ∀ c, 177 ≤ c → c ≤ 183 → w1 c t = w c t := fun t ht c q1 q2 => MKP_v hm hW.1 h200 ht q1 q2
          obtain ⟨hI1, hTC1, -⟩ := CJ_at hCJ hI hpm
          have e192 : w1 192 n = m 192 n := (hpm 192 n (pg_nod (by decide) (by decide)))
          refine bk_X12_follows_152 (mm_call_m _) vn (fun _ => vn) (fun _ => vc) (fun _ => vc) (fun z => ?_) (fun z => ?_)
          · rw [en, e192] at z
            obtain ⟨u, u1, u2, u3⟩ := g5.resolve_left z
            rw [en, ec, e192, u2, hk9 205 c (by decide), hk9 206 c (by decide)]
            refine sx_letter (d := d) hT1 hI1.2.2.2.1 hTC1 u1 (wthn_p (by omega) hpm u3) (TYV_c hW l1 hv1 c3) (TYV_c hW l1 hv1 c4) c5 c6 (by omega) (fun w2 r T2 a1 a2 a3 a4 a5 a6 a7 => ?_)
            have h8 := a1.1.2.1.2
            have hr8 := vd_lt a4 hW.1 h8
            exact h192 w2 T1 T2 x (nI r) (MKP_t hm l1 a6) a1 l1 a2 hT1.1.2.1.2 (by omega) hpx (.inr ⟨r, rfl, a4, a5⟩) (TYW_c (TX_W hT1) a2 (fun t ht c q1 q2 => MKP_v a6 hW.1 hT1.1.2.1.1 ht q1 q2) hx) (.inr ⟨r, rfl, a4, a7.trans (hkB u u2 u1).symm⟩) hxn ⟨fun q => absurd q (nI_ne (by omega)), fun q => absurd q z⟩
          · rw [en, e192] at z
            exact h192 w1 T1 T1 x (-1) hm hT1 l1 (Nat.le_refl _) hT1.1.2.1.2 (by omega) hpx (.inl ⟨rfl, rfl⟩) hx (.inl ⟨rfl, hkB0 z⟩) hxn ⟨fun _ => z, fun _ => rfl⟩
        obtain ⟨hIw, hTCw, -⟩ := CJ_at hCJ hI hp
        have e191 : w 191 n = m 191 n := hp 191 n (pg_nod (by decide) (by decide))
        refine bk_X12_follows_96 (mm_call_m _) (fun _ => vn) (fun _ z => absurd ?_ z) (fun _ _ => vn) (fun _ _ _ => vn) (fun _ _ _ => vc) (fun _ _ _ => vc) (fun _ _ z => ?_) (fun _ _ z => ?_) (fun z => absurd h5 z)
        · rw [en, hk8]
          exact k188
        · rw [en, e191] at z
          obtain ⟨u, u1, u2, u3⟩ := g4.resolve_left z
          rw [en, ec, e191, u2]
          refine sx_letter (d := d) hT hIw.2.2.2.1 hTCw u1 (wthn_p (by omega) hp u3) c3 c4 c5 c6 (by omega) (fun w1 r T1 a1 a2 a3 a4 a5 a6 a7 => ?_)
          have hr8 := vd_lt a4 hW.1 a1.1.2.1.2
          exact h152 w1 T1 (nI r) a6 a1 a2 a3 (.inr ⟨r, rfl, a4, a5⟩) (.inr ⟨r, rfl, a4, a7.trans (hkA u u2 u1).symm⟩) ⟨fun q => absurd q (nI_ne (by omega)), fun q => absurd q z⟩
        · rw [en, e191] at z
          exact h152 w TY (-1) MKP_r hT (Nat.le_refl _) (by omega) (.inl ⟨rfl, rfl⟩) (.inl ⟨rfl, hkA0 z⟩) ⟨fun _ => z, fun _ => rfl⟩
      · have hc : k_cst m ml f A B C n = some C := by
          unfold k_cst
          rw [if_neg hsh, if_neg k]
        rw [hc] at hR
        have hne : ¬ w 188 n = 14 := fun q => k ((hNm.2 n hnN).1.trans ((hk8 n).symm.trans q))
        refine bk_X12_follows_96 (mm_call_m _) (fun _ => vn) (fun _ _ => bk_X12_follows_214 (mm_call_m _) (hgo w TY C hp hF hO ⟨[], (List.append_nil C).symm⟩ hR)) (fun _ z => absurd ?_ hne) (fun _ z => absurd ?_ hne) (fun _ z => absurd ?_ hne) (fun _ z => absurd ?_ hne) (fun _ z => absurd ?_ hne) (fun _ z => absurd ?_ hne) (fun z => absurd h5 z) <;> (rw [en] at z; exact z)
/-- follows(): one copy, and those that it calls -/
theorem sx_follows {c : Nat} {C : List CTy} {m : mm_P} (hCJ : CJ m ml) (hI : IM m NB ND NF) (hV2 : ¬ V2 m) (hV3 : ¬ V3 m ml) (hp : PR m mi) (hF : FY NB ND NF TY m ml mi C) (hc : c < C.length) (h0 : k_con m ml C (C.getD c k_c0) = none → ∀ w, PR m w → Q (some (mm_I 0)) w ml) (h1 : ∀ C', k_con m ml C (C.getD c k_c0) = some C' → ∀ w TZ, PR m w → FY NB ND NF TZ m ml w C' → (∃ S, C' = C ++ S) → Q (some (mm_I 1)) w ml) : mm_cq (mm_call mm_ms (mm_tb L xs) (d + 6)) 207 [mm_R 176, mm_I (nI c)] mi ml Q := by
  have hNB := hI.1.1
  have hND := hI.1.2.1
  have hNF := hI.1.2.2
  obtain ⟨hT, hC, hTY, hNQ, hUC⟩ := id hF
  have hW := TX_W hT
  have hC60 := hC.2.1
  obtain ⟨c1, c2, c3, c4, c5, c6⟩ := hC.2.2 c hc
  have htC : C.getD c k_c0 ∈ C := mem_getD.mpr ⟨c, hc, rfl⟩
  generalize hct : C.getD c k_c0 = t at c1 c2 c3 c4 c5 c6 htC h0 h1
  obtain ⟨f, A, B⟩ := t
  replace c1 : f < 12 := c1
  replace c2 : mi 204 c = nI f := c2
  replace c3 : TYV NB TY mi (mi 205 c) A := c3
  replace c4 : TYV NB TY mi (mi 206 c) B := c4
  replace c5 : 0 < (m 194 f).toInt → ¬ A = -1 := c5
  replace c6 : 1 < (m 194 f).toInt → ¬ B = -1 := c6
  have hU : UR m f := hUC _ htC
  obtain ⟨-, hTCm, hNm, hFm, hXm⟩ := CJ_at hCJ hI (PR_r (m := m))
  obtain ⟨hIw, hTCw, hNw, hFw, -⟩ := CJ_at hCJ hI hp
  obtain ⟨hfN, b, b1, hb15, hb197, hSb⟩ := UR_S hI hTCm hFm hV2 hV3 c1 hU
  obtain ⟨o1, ⟨x, o2, o3, o4⟩, ⟨y, o5, o6, o7⟩, o8⟩ := hI.2.2.2.2.2.1 f hfN
  have vc : vp_in (nI c) 60 := vp_in_nI (by omega) (by decide)
  have ec : (nI c).toNatClampNeg = c := nI_clamp (by omega)
  have vf : vp_in (nI f) 12 := vp_in_nI c1 (by decide)
  have ef : (nI f).toNatClampNeg = f := nI_clamp (by omega)
  have s13 : ml 13 f = SHV mi x := by
    rw [(hFm.2 f hfN).2.2.2.2.1, o3, nI_clamp (by omega)]
    exact (SHV_ml hW hTCw o2).symm
  have s14 : ml 14 f = SHV mi y := by
    rw [(hFm.2 f hfN).2.2.2.2.2, o6, nI_clamp (by omega)]
    exact (SHV_ml hW hTCw o5).symm
  have e195 : mi 195 f = nI x := (hp 195 f (pg_nod (by decide) (by decide))).trans o3
  have e196 : mi 196 f = nI y := (hp 196 f (pg_nod (by decide) (by decide))).trans o6
  have hlet : ∀ z, z < NB → wthn m z (m 194 f) → (0 < k_gl 2 7 (SHV mi z) → 0 < (m 194 f).toInt) ∧ (0 < k_gl 3 7 (SHV mi z) → 1 < (m 194 f).toInt) := fun z hz hw => by
    have hwz := wthn_p (by omega) hp hw
    have hf := TF_v hW (.inl hz) (hIw.2.2.2.1 z hz).1.2
    have hdp := dpn_r (CNS_V hf.1)
    obtain ⟨q2, q3⟩ := hf.2.2.2.2 7 (by omega)
    refine ⟨fun q => hwz.1.resolve_left (fun r => ?_), fun q => hwz.2.resolve_left (fun r => ?_)⟩
    · rw [r, mm_tt0] at q2
      omega
    · rw [r, mm_tt0] at q3
      omega
  have h35 : k_con m ml C (f, A, B) = none → mm_WQ (mm_call mm_ms (mm_tb L xs) (d + 5)) (mm_tb L xs) mm_m207 (mm_li mm_m207) Q 35 [some (mm_R 176), some (mm_I (nI c)), some (mm_I (nI f)), none, none, none, none, none] [] mi ml := fun q => bk_X12_follows_35 (mm_call_m _) (h0 q mi hp)
  refine en_X12_follows (bk_X12_follows_0 (mm_call_m _) vc ?_ ?_) <;> rw [ec, c2]
  · exact vf
  rw [ef, e195]
  refine sx_isTooDeep (A := A) (B := B) hW (.inl o2) (hIw.2.2.2.1 x o2).1.2 (by omega) (fun z => ⟨c3, c5 ((hlet x o2 o4).1 z)⟩) (fun z => ⟨c4, c6 ((hlet x o2 o4).2 z)⟩) (fun q => bk_X12_follows_18 (s0 := 1) (mm_call_m _) (fun _ => h35 ?_) (fun z => absurd z (by decide)) (fun z => absurd z (by decide))) (fun q => bk_X12_follows_18 (s0 := 0) (mm_call_m _) (fun z => absurd rfl z) (fun _ => vf) (fun _ => ?_))
  · unfold k_con
    rw [if_pos (.inl (by rw [s13]; exact q))]
  rw [ef, e196]
  refine sx_isTooDeep (A := A) (B := B) hW (.inl o5) (hIw.2.2.2.1 y o5).1.2 (by omega) (fun z => ⟨c3, c5 ((hlet y o5 o7).1 z)⟩) (fun z => ⟨c4, c6 ((hlet y o5 o7).2 z)⟩) (fun q' => bk_X12_follows_32 (s0 := 1) (mm_call_m _) (fun z => absurd z (by decide)) (fun _ => h35 ?_)) (fun q' => bk_X12_follows_32 (s0 := 0) (mm_call_m _) (fun _ => ?_) (fun z => absurd rfl z))
  · unfold k_con
    rw [if_pos (.inr (by rw [s14]; exact q'))]
  have hcon : k_con m ml C (f, A, B) = k_cfs m ml f A B (k_po m 12 b []) C := by
    unfold k_con
    rw [if_neg (fun z => z.elim (fun z => q (by rw [← s13]; exact z)) (fun z => q' (by rw [← s14]; exact z))), hb15, nI_clamp (by omega)]
  refine sx_findOrder hIw hNw hfN b1 ((hp 197 f (pg_nod (by decide) (by decide))).trans hb197) (fun w hO hL hlen => bk_X12_follows_42 (mm_call_m _) ?_)
  have epo : k_po mi 12 b [] = k_po m 12 b [] := po_c 12 b [] (fun p _ => by
    have h4 : mi 4 p = m 4 p := hp 4 p (pg_low (by decide))
    refine ⟨h4, fun i _ => ?_⟩
    unfold k_part
    rw [h4, hp 6 _ (pg_low (by decide)), hp 6 _ (pg_low (by decide))])
  rw [epo] at hL hlen
  have hpw := PR_of hO
  have hro : ∀ t, vd NB TY t → ∀ c, 177 ≤ c → c ≤ 183 → w c t = mi c t := fun t _ c q1 q2 => hO c t (by omega) (by omega)
  exact fw_44 (d := d) (C0 := C) (R := k_con m ml C (f, A, B)) hCJ hI hfN hU b1 hb15 hSb hlen (fun n hn => (po_new 12 b [] n hn).resolve_left List.not_mem_nil) h0 h1 (k_po m 12 b []).length 0 TY C w (by omega) (by rw [List.drop_zero, hcon]) (PR_t hp hpw) ⟨TX_c hT (hO 176 0 (by omega) (by omega)) (hO 176 1 (by omega) (by omega)) (fun c i q1 q2 => hO c i (by omega) (by omega)), CRM_c hW (Nat.le_refl _) hro (hO 176 31 (by omega) (by omega)) (fun c i q1 q2 => hO c i (by omega) (by omega)) hC, hTY, NRQ_c hNQ (fun c i q1 q2 => hO c i (by omega) (by omega)), hUC⟩ hL hc hct ⟨[], (List.append_nil C).symm⟩
/-! findCopies() -/
theorem fc_162 {R : Option (List CTy)} {m : mm_P} (hCJ : CJ m ml) (hI : IM m NB ND NF) (hV2 : ¬ V2 m) (hV3 : ¬ V3 m ml) (h0 : R = none → ∀ w, PR m w → Q (some (mm_I (-4))) w ml) (h1 : ∀ C, R = some C → ∀ w TZ, PR m w → FY NB ND NF TZ m ml w C → Q (some (mm_I (nI C.length))) w ml) : ∀ (k i TY : Nat) (C : List CTy) (w : mm_P) {x2 x3 : Option mm_V}, i + k = 62 → i ≤ C.length → k_cal m ml k i C = R → PR m w → FY NB ND NF TY m ml w C → mm_WQ (mm_call mm_ms (mm_tb L xs) (d + 6)) (mm_tb L xs) mm_m208 lim Q 162 [some (mm_R 176), some (mm_I (nI i)), x2, x3] [] w ml := by
  intro k
  induction k with
  | zero =>
    intro i TY C w x2 x3 h hi hR hp hF
    have := hF.2.1.2.1
    omega
  | succ k ih =>
    intro i TY C w x2 x3 h hi hR hp hF
    have hC1 := hF.2.1.1
    have h60 := hF.2.1.2.1
    unfold k_cal at hR
    by_cases c : C.length ≤ i
    · rw [if_pos c] at hR
      have hle : w 176 31 ≤ nI i := by
        rw [hC1, Int32.le_iff_toInt_le, mm_tI (by omega), mm_tI (by omega)]
        omega
      refine bk_X12_findCopies_162 (mm_call_m _) (fun _ => ?_) (fun z => absurd hle z)
      rw [hC1]
      exact h1 C hR.symm w TY hp hF
    · rw [if_neg c] at hR
      have hlt : ¬ w 176 31 ≤ nI i := by
        rw [hC1, Int32.le_iff_toInt_le, mm_tI (by omega), mm_tI (by omega)]
        omega
      refine bk_X12_findCopies_162 (mm_call_m _) (fun z => absurd z hlt) (fun _ => sx_follows (d := d) hCJ hI hV2 hV3 hp hF (by omega) (fun q w' hp' => bk_X12_findCopies_175 (mm_call_m _) (fun z => absurd rfl z) (fun _ => h0 ?_ w' hp')) (fun C' q w' TZ hp' hF' hpre => bk_X12_findCopies_175 (mm_call_m _) (fun _ => ?_) (fun z => absurd z (by decide))))
      · rw [q] at hR
        exact hR.symm
      · rw [q] at hR
        rw [show nI i + 1 = nI (i + 1) from (nI_succ i).symm]
        obtain ⟨S, hS⟩ := hpre
        have hlen : C.length ≤ C'.length := by rw [hS, List.length_append]; exact Nat.le_add_right _ _
        exact ih (i + 1) TZ C' w' (by omega) (by omega) hR hp' hF'
/-- what judge() of the model says, and the table that it leaves -/
theorem sx_mjudge2 (hCJ : CJ mi ml) (hI : IM mi NB ND NF) (hQ : ∀ w v, PR mi w → VP mi ml v → (v = 0 → RTB mi w) → Q (some (mm_I v)) w ml) : mm_cq (mm_call mm_ms (mm_tb L xs) (d + 9)) 202 [mm_R 176] mi ml Q := by
  obtain ⟨-, hTCm, hNm, hFm, hXm⟩ := CJ_at hCJ hI (PR_r (m := mi))
  have g1 : mm_cq (mm_call mm_ms (mm_tb L xs) (d + 9)) 202 [mm_R 176] mi ml (fun o n1 n2 => n2 = ml ∧ ∃ v, o = some (mm_I v) ∧ PR mi n1 ∧ VP mi ml v) := sx_mjudge hCJ (fun w v a b => ⟨rfl, v, rfl, a, b⟩)
  have g2 : mm_cq (mm_call mm_ms (mm_tb L xs) (d + 9)) 202 [mm_R 176] mi ml (fun o n1 n2 => n2 = ml ∧ ∃ v, o = some (mm_I v) ∧ PR mi n1 ∧ (v = 0 → JO NB ND NF n1)) := sp_judge hI (fun w v a b => ⟨rfl, v, rfl, a, b⟩)
  refine mm_cq_m (mm_call_m _) (mm_cq_a g1 g2) (fun o n1 n2 ⟨⟨e1, v, e2, a1, a2⟩, ⟨_, v', e3, _, a4⟩⟩ => ?_)
  subst e1 e2
  have ev : v = v' := by
    injection e3 with e4
    injection e4
  subst ev
  refine hQ n1 v a1 a2 (fun hv f hf hu => ?_)
  have hJ := a4 hv
  rcases hu with hu | hu
  · exact .inl hu
  · have hst : ∀ a g, a < 12 → g < 12 → used n1 a → DE mi a g → used n1 g := fun a g ha hg q he => by
      have haN := DE_lt hFm hI.1.2.2 he
      exact hJ.2.2.2 a g ha q hg (DR_c a1 ((DE_DR hI hNm hFm haN).mp he))
    exact hu (fun g => used n1 g) (fun g hg he => hst 0 g (by decide) hg (.inl rfl) he) (fun h g hh hg q he => hst h g hh hg q he)
/-- findCopies(): the copies of the program -/
theorem sx_findCopies (hCJ : CJ mi ml) (hI : IM mi NB ND NF) (hQ : ∀ w v, PR mi w → ((∃ u, VP mi ml u ∧ ¬ u = 0 ∧ v = -3) ∨ (VP mi ml 0 ∧ CC mi ml = none ∧ v = -4) ∨ (VP mi ml 0 ∧ ∃ C TY, CC mi ml = some C ∧ FY NB ND NF TY mi ml w C ∧ v = nI C.length)) → Q (some (mm_I v)) w ml) : mm_cq (mm_call mm_ms (mm_tb L xs) (d + 10)) 208 [mm_R 176] mi ml Q := by
  have hNB := hI.1.1
  have hND := hI.1.2.1
  have hNF := hI.1.2.2
  refine en_X12_findCopies (bk_X12_findCopies_0 (mm_call_m _) (sx_mjudge2 hCJ hI (fun w v hp hV hR => bk_X12_findCopies_4 (mm_call_m _) (fun z => ?_) (fun z => hQ w _ hp (.inl ⟨v, hV, z, rfl⟩)))))
  have hR0 := hR z
  rw [z] at hV
  have hV2 : ¬ V2 mi := fun q => by
    rcases hV with ⟨e, -⟩ | ⟨e, -⟩ | ⟨e, -⟩ | ⟨e, -⟩ | ⟨-, -, b, -⟩
    iterate 4 exact absurd e (by decide)
    exact b q
  have hV3 : ¬ V3 mi ml := fun q => by
    rcases hV with ⟨e, -⟩ | ⟨e, -⟩ | ⟨e, -⟩ | ⟨e, -⟩ | ⟨-, -, -, b, -⟩
    iterate 4 exact absurd e (by decide)
    exact b q
  have hV1 : ¬ V1 mi := fun q => by
    rcases hV with ⟨e, -⟩ | ⟨e, -⟩ | ⟨e, -⟩ | ⟨e, -⟩ | ⟨-, b, -⟩
    iterate 4 exact absurd e (by decide)
    exact b q
  obtain ⟨-, hTCm, hNm, hFm, hXm⟩ := CJ_at hCJ hI (PR_r (m := mi))
  have e97 : (mi 9 7).toInt = NF := by rw [hFm.1]; exact mm_tI (by omega)
  have hl0 : (mi 194 0).toInt = 0 := by
    have hN0 : 0 < NF := by
      by_cases q : 0 < NF
      · exact q
      · exact absurd (.inl (by omega)) hV1
    have e0 : mi 10 0 = 0 := by
      by_cases q : mi 10 0 = 0
      · exact q
      · exact absurd (.inr q) hV1
    rw [← (hFm.2 0 hN0).1, e0]
    rfl
  have hIw := IM_c hI hp
  refine cx_12 (d := d + 1) (m := mi) hCJ hI (fun w2 y1 y2 y3 k1 k2 k3 => ?_) NF 0 w (by omega) hp hR0 (fun a a1 a2 b b1 b2 => absurd b2 (by omega))
  have hI2 := IM_c hI k1
  refine sx_forgets (N := NB) (by rw [hI2.2.1.1]; exact mm_tI (by omega)) hNB.2 (fun n hfg hint => bk_X12_findCopies_147 (mm_call_m _) ?_)
  obtain ⟨t1, t2⟩ := TS_fg hI2 hfg
  have hpn : PR mi n := PR_t k1 t2
  obtain ⟨hIn, hTCn, -⟩ := CJ_at hCJ hI hpn
  have hTX : TX n NB 200 := ⟨t1, fun t ht => hint t (by rcases ht with q | q <;> omega), TC_TU ⟨hNB.2, by decide, t1.2.2.2.2.2.2⟩ hTCn⟩
  have hn : ∀ c i, 188 ≤ c → n c i = w2 c i := fun c i q => hfg.1 c i (by omega) (by omega)
  have hp0 : PR mi (mm_u n 176 31 0) := PR_u hpn rfl
  have hT0 : TX (mm_u n 176 31 0) NB 200 := TX_c hTX (mm_u_f (by decide)) (mm_u_f (by decide)) (fun c i _ _ => mm_u_e (by omega))
  have hC0 : CRM NB 200 mi (mm_u n 176 31 0) [] := ⟨mm_u_s, Nat.zero_le _, fun i hi => absurd hi (Nat.not_lt_zero _)⟩
  have hN0 : NRQ ND mi ml (mm_u n 176 31 0) NF 0 := NRQ_c k3 (fun c i q1 q2 => (mm_u_e (by omega)).trans (hn c i (by omega)))
  refine sx_copied (d := d + 8) (C := []) (g := 0) (A := -1) (B := -1) hC0 (TX_W hT0) hT0.2.2 (by decide) (.inl ⟨rfl, rfl⟩) (.inl ⟨rfl, rfl⟩) (fun _ e e1 => absurd e1 (Nat.not_lt_zero _)) (fun q => ?_) (fun _ _ _ => bk_X12_findCopies_159 (mm_call_m _) ?_)
  · rcases q with (⟨q, -⟩ | ⟨q, -⟩) | ⟨-, -, q⟩
    · exact absurd rfl q
    · exact absurd rfl q
    · exact absurd (by decide) q
  · generalize hw3 : mm_u (mm_u (mm_u (mm_u (mm_u n 176 31 0) 204 ([] : List CTy).length (nI 0)) 205 ([] : List CTy).length (-1)) 206 ([] : List CTy).length (-1)) 176 31 (nI (([] : List CTy).length + 1)) = w3
    have ho3 : ∀ c i, ¬ (204 ≤ c ∧ c ≤ 206) → ¬ (c = 176 ∧ i = 31) → w3 c i = mm_u n 176 31 0 c i := fun c i a b => by
      rw [← hw3, mm_u_o b, mm_u_e (by omega), mm_u_e (by omega), mm_u_e (by omega)]
    have hp3 : PR mi w3 := by
      rw [← hw3]
      exact PR_u (PR_u (PR_u (PR_u hp0 rfl) rfl) rfl) rfl
    have hC3 := CRM_add (TX_W hT0) hC0 (show 0 < 12 by decide) (.inl ⟨rfl, rfl⟩) (.inl ⟨rfl, rfl⟩) (fun z => absurd z (by rw [hl0]; omega)) (fun z => absurd z (by rw [hl0]; omega)) (by decide) hw3
    refine fc_162 (d := d + 3) (m := mi) hCJ hI hV2 hV3 (fun q w hp => hQ w _ hp (.inr (.inl ⟨hV, q, rfl⟩))) (fun C q w TZ hp hF => hQ w _ hp (.inr (.inr ⟨hV, C, TZ, q, hF, rfl⟩))) 62 0 200 [k_c0] w3 (by omega) (Nat.zero_le _) rfl hp3 ⟨TX_c hT0 (ho3 176 0 (by omega) (by omega)) (ho3 176 1 (by omega) (by omega)) (fun c i q1 q2 => ho3 c i (by omega) (by omega)), hC3, by omega, NRQ_c hN0 (fun c i q1 q2 => ho3 c i (by omega) (by omega)), fun s hs => ?_⟩
    rw [List.mem_singleton.mp hs]
    exact .inl rfl
end MMT
