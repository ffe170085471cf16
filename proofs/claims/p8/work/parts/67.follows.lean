/-! ===== follows() of the model ===== -/
def NR (ND : Nat) (w : mm_P) : Prop := ∀ f, f < 12 → used w f → ∀ n, n < ND → (¬ w 202 (200 * f + n) ≤ 0 → 0 < (w 194 f).toInt) ∧ (¬ w 203 (200 * f + n) ≤ 0 → 1 < (w 194 f).toInt)
def FI (NB ND NF TY C : Nat) (w : mm_P) : Prop := IM w NB ND NF ∧ JO NB ND NF w ∧ TS w NB TY ∧ CR NB TY C w ∧ TY ≤ 200 + 30 * C ∧ NR ND w
theorem NR_c {ND : Nat} {w w' : mm_P} (h194 : ∀ i, w' 194 i = w 194 i) (h200 : ∀ i, w' 200 i = w 200 i) (h202 : ∀ i, w' 202 i = w 202 i) (h203 : ∀ i, w' 203 i = w 203 i) (h : NR ND w) : NR ND w' := fun f f1 f2 n n1 => by
  rw [h194, h202, h203]
  exact h f f1 ((used_c h200).mp f2) n n1
theorem FI_c {NB ND NF TY TZ C : Nat} {w w' : mm_P} (h : FI NB ND NF TY C w) (hp : PR w w') (hT : TS w' NB TZ) (hl : TY ≤ TZ) (hl2 : TZ ≤ 200 + 30 * C) (h31 : w' 176 31 = w 176 31) (hk : ∀ c i, 200 ≤ c → c ≤ 206 → w' c i = w c i) : FI NB ND NF TZ C w' := by
  obtain ⟨h1, h2, h3, ⟨h4, h5, h6⟩, h7, h8⟩ := h
  have h194 : ∀ i, w' 194 i = w 194 i := fun i => hp 194 i (pg_nod (by decide) (by decide))
  have h200 : ∀ i, w' 200 i = w 200 i := fun i => hk 200 i (by decide) (by decide)
  exact ⟨IM_c h1 hp, JO_c hp h200 h2, hT, ⟨h31.trans h4, h5, fun c hc => CRo_c hl h200 h194 (hk 204 c (by decide) (by decide)) (hk 205 c (by decide) (by decide)) (hk 206 c (by decide) (by decide)) (h6 c hc)⟩, hl2, NR_c h194 h200 (fun i => hk 202 i (by decide) (by decide)) (fun i => hk 203 i (by decide) (by decide)) h8⟩
theorem rx2 {f n : Nat} (hf : f < 12) (hn : n < 200) : (200 : Int32) * nI f + nI n = nI (200 * f + n) := by
  have e1 : (nI f).toInt = f := mm_tI (by omega)
  have e2 : (nI n).toInt = n := mm_tI (by omega)
  have e3 : (200 * nI f).toInt = 200 * f := by
    rw [mm_imul] <;> rw [mm_tt200, e1] <;> omega
  refine Int32.toInt_inj.mp ?_
  rw [Int32.toInt_add, e3, e2, mm_tI (by omega), Int.bmod_eq_of_le] <;> omega
/-- row c is a copy of f -/
theorem CRo_f {NB TY c f : Nat} {w : mm_P} (h : CRo NB TY w c) (hf : f < 12) (e : w 204 c = nI f) : used w f ∧ (w 205 c = -1 ∨ vv NB TY (w 205 c)) ∧ (w 206 c = -1 ∨ vv NB TY (w 206 c)) ∧ (0 < (w 194 f).toInt → vv NB TY (w 205 c)) ∧ (1 < (w 194 f).toInt → vv NB TY (w 206 c)) := by
  obtain ⟨g, f1, f2, f3, f4, f5, f6, f7⟩ := h
  have e2 : g = f := nI_ij (by omega) (by omega) (f3.symm.trans e)
  subst e2
  exact ⟨f2, f4, f5, f6, f7⟩
theorem neg1_nI {r : Nat} (h : r < 2 ^ 31) (e : (-1 : Int32) = nI r) : False := by
  have := congrArg Int32.toInt e
  rw [mm_tI h] at this
  have e2 : (-1 : Int32).toInt = -1 := rfl
  omega
/-- what a put() in follows() gives -/
def PU (NB TY TZ : Nat) (x : Int32) : Prop := (x = -1 ∧ TZ = TY) ∨ ∃ r, x = nI r ∧ vd NB TZ r ∧ (vd NB TY r → TZ = TY)
section MMT
variable {L : Nat} {xs : Nat → Int32} {d : Nat} {Q : mm_QQ} {mi : mm_P} {ml : mm_G} {lim : Nat × Nat}
theorem follows_44 {f c NB ND NF o : Nat} {m : mm_P} (hf : f < NF) (hQ0 : ∀ w, PR m w → (∀ i, w 200 i = m 200 i) → Q (some (mm_I 0)) w ml) (hQ1 : ∀ w TY C, PR m w → (∀ i, w 200 i = m 200 i) → FI NB ND NF TY C w → c < C → Q (some (mm_I 1)) w ml) : ∀ (j i TY C : Nat) (w : mm_P) {x4 x5 x6 x7 : Option mm_V}, i + j = o → PR m w → (∀ i, w 200 i = m 200 i) → FI NB ND NF TY C w → OR ND w w f o → w 204 c = nI f → c < C → mm_WQ (mm_call mm_ms (mm_tb L xs) (d + 5)) (mm_tb L xs) mm_m207 lim Q 44 [some (mm_R 176), some (mm_I (nI c)), some (mm_I (nI f)), some (mm_I (nI i)), x4, x5, x6, x7] [] w ml := by
  intro j
  induction j with
  | zero =>
    intro i TY C w x4 x5 x6 x7 h hp h2 hF hO hc hcC
    have hi : i = o := by omega
    subst hi
    have hle : w 176 36 ≤ nI i := by rw [hO.1]; exact Int32.le_refl _
    exact bk_X12_follows_44 (mm_call_m _) (fun _ => hQ1 w TY C hp h2 hF hcC) (fun z => absurd hle z) (fun z => absurd hle z) (fun z => absurd hle z) (fun z => absurd hle z) (fun z => absurd hle z)
  | succ j ih =>
    intro i TY C w x4 x5 x6 x7 h hp h2 hF hO hc hcC
    obtain ⟨hI, hJ, hT, hC, hl, hN⟩ := id hF
    have hC60 := hC.2.1
    have hND := hI.1.2.1
    have hNF := hI.1.2.2
    have hNB := hI.1.1.2
    have hlt : ¬ w 176 36 ≤ nI i := by
      rw [hO.1, Int32.le_iff_toInt_le, mm_tI (by have := hO.2.1; omega), mm_tI (by have := hO.2.1; omega)]
      omega
    have ei : (nI i).toNatClampNeg = i := nI_clamp (by have := hO.2.1; omega)
    obtain ⟨n, n1, n2, n3⟩ := hO.2.2 i (by omega)
    have vn : vp_in (nI n) 200 := vp_in_nI (by omega) (by decide)
    have en : (nI n).toNatClampNeg = n := nI_clamp (by omega)
    have vc : vp_in (nI c) 60 := vp_in_nI (by omega) (by decide)
    have ec : (nI c).toNatClampNeg = c := nI_clamp (by omega)
    have v24 : vp_in (200 * nI f + nI n) 2400 := by
      rw [rx2 (by omega) (by omega)]
      exact vp_in_nI (by omega) (by decide)
    have e24 : (200 * nI f + nI n).toNatClampNeg = 200 * f + n := by
      rw [rx2 (by omega) (by omega)]
      exact nI_clamp (by omega)
    obtain ⟨r1, r2, r3, r4, r5⟩ := CRo_f (hC.2.2 c hcC) (by omega) hc
    have hNn := hN f (by omega) r1 n n1
    have hgo : ∀ (w' : mm_P) (TZ C' : Nat) {x4 x5 x6 x7 : Option mm_V}, PR m w' → (∀ i, w' 200 i = m 200 i) → FI NB ND NF TZ C' w' → OR ND w' w' f o → w' 204 c = nI f → c < C' → mm_WQ (mm_call mm_ms (mm_tb L xs) (d + 5)) (mm_tb L xs) mm_m207 lim Q 44 [some (mm_R 176), some (mm_I (nI c)), some (mm_I (nI f)), some (mm_I (nI i + 1)), x4, x5, x6, x7] [] w' ml := fun w' TZ C' {x4 x5 x6 x7} a b c e g k => by
      rw [show nI i + 1 = nI (i + 1) from (nI_succ i).symm]
      exact ih (i + 1) TZ C' w' (by omega) a b c e g k
    refine bk_X12_follows_44 (mm_call_m _) (fun z => absurd z hlt) (fun _ => vp_in_nI (by have := hO.2.1; omega) (by decide)) (fun _ => ?_) (fun _ => ?_) (fun _ => ?_) (fun _ => ?_) <;> rw [ei, n2]
    iterate 3 exact v24
    rw [e24]
    refine sp_deepIn hT (by omega) (fun z => r4 (hNn.1 z)) (fun z => r5 (hNn.2 z)) (fun v => bk_X12_follows_96 (mm_call_m _) (fun _ => vn) (fun _ _ => bk_X12_follows_214 (mm_call_m _) (hgo w TY C hp h2 hF hO hc hcC)) (fun _ _ => vn) (fun _ _ _ => vn) (fun _ _ _ => vc) (fun _ _ _ => vc) (fun _ k z => ?_) (fun _ k z => ?_) (fun _ => hQ0 w hp h2))
    all_goals
      rw [en] at k
      have hW := hJ.2.2.1 f (by omega) r1
      obtain ⟨g, g1, g2, g3, g4, g5⟩ := WTy_call hI hW n3 k
      have hug : used w g := hJ.2.2.2 f g (by omega) r1 (by omega) ⟨n, n1, n3, k, g2⟩
      have h192 : ∀ (w2 : mm_P) (T1 T2 : Nat) (x y : Int32) {x5 x7 : Option mm_V}, MKP TY w w2 → TS w2 NB T2 → TY ≤ T1 → T1 ≤ T2 → T2 ≤ TY + 30 → PU NB TY T1 x → PU NB T1 T2 y → (0 < (w 194 g).toInt → ¬ x = -1) → (1 < (w 194 g).toInt → ¬ y = -1) → mm_WQ (mm_call mm_ms (mm_tb L xs) (d + 5)) (mm_tb L xs) mm_m207 lim Q 192 [some (mm_R 176), some (mm_I (nI c)), some (mm_I (nI f)), some (mm_I (nI i)), some (mm_I (nI n)), some (mm_I (200 * nI f + nI n)), some (mm_I x), x7] [mm_I y] w2 ml := by
        intro w2 T1 T2 x y x5 x7 hm hT2 l1 l2 l3 hx hy hgx hgy
        have hT200 := hT.2.1.1
        have hpw : PR w w2 := PR_mkp hm hT200
        have hpm : PR m w2 := PR_t hp hpw
        have hk8 : ∀ c i, 188 ≤ c → w2 c i = w c i := fun c i q => MKP_h hm q
        have h200' : ∀ i, w2 200 i = m 200 i := fun i => (hk8 200 i (by decide)).trans (h2 i)
        have h31 : w2 176 31 = nI C := (hm 176 31 (by omega) (by omega) (by omega)).trans hC.1
        have h8k : ∀ {T : Nat} {r : Nat}, T ≤ 8000 → vd NB T r → r < 8000 := fun hT8 hr => vd_lt hr hNB hT8
        have hvx : x = -1 ∨ vv NB T2 x := by
          rcases hx with q | ⟨r, q1, q2, -⟩
          · exact .inl q.1
          · exact .inr ⟨r, vd_le q2 l2, q1⟩
        have hvy : y = -1 ∨ vv NB T2 y := by
          rcases hy with q | ⟨r, q1, q2, -⟩
          · exact .inl q.1
          · exact .inr ⟨r, q2, q1⟩
        have hvp : ∀ {v : Int32}, (v = -1 ∨ vv NB T2 v) → v = -1 ∨ vp_in v 8000 := fun q => q.imp_right (fun ⟨a, a1, a2⟩ => by
          rw [a2]
          exact vp_in_nI (h8k hT2.2.1.2 a1) (by decide))
        have hOR : ∀ w3, PR w w3 → w3 176 36 = w 176 36 → (∀ i, w3 207 i = w 207 i) → OR ND w3 w3 f o := fun w3 a b e => ⟨b.trans hO.1, hO.2.1, fun i hi => by
          obtain ⟨n, n1, n2, n3⟩ := hO.2.2 i hi
          exact ⟨n, n1, (e i).trans n2, IB_c a n3⟩⟩
        refine bk_X12_follows_192 (mm_call_m _) vn ?_
        rw [en, show w2 189 n = nI g from (hk8 189 n (by decide)).trans g2]
        refine sp_copied h31 hC60 (hvp hvx) (hvp hvy) (fun c' q1 q2 q3 q4 => ?_) (bk_X12_follows_209 (mm_call_m _) (fun z => absurd rfl z) (fun _ => hQ0 w2 hpm h200')) (fun hC' => ?_)
        · have hrow := hC.2.2 c' q1
          obtain ⟨f', f1, f2, f3, f4, f5, -⟩ := hrow
          rw [hk8 205 c' (by decide)] at q3
          rw [hk8 206 c' (by decide)] at q4
          rw [q3] at f4
          rw [q4] at f5
          have eT1 : T1 = TY := by
            rcases hx with q | ⟨r, r1, r2, r3⟩
            · exact q.2
            · have hr8 := vd_lt r2 hNB (by have := hT2.2.1.2; omega)
              rcases f4 with z | ⟨a, a1, a2⟩
              · exact absurd (z.symm.trans r1) (fun e => neg1_nI (by omega) e)
              · have ha8 := vd_lt a1 hNB hT.2.1.2
                have e : a = r := nI_ij (by omega) (by omega) (a2.symm.trans r1)
                subst e
                exact r3 a1
          have eT2 : T2 = TY := by
            rcases hy with q | ⟨r, r1, r2, r3⟩
            · omega
            · have hr8 := vd_lt r2 hNB hT2.2.1.2
              rcases f5 with z | ⟨a, a1, a2⟩
              · exact absurd (z.symm.trans r1) (fun e => neg1_nI (by omega) e)
              · have ha8 := vd_lt a1 hNB hT.2.1.2
                have e : a = r := nI_ij (by omega) (by omega) (a2.symm.trans r1)
                subst e
                have := r3 (vd_le a1 l1)
                omega
          refine bk_X12_follows_209 (mm_call_m _) (fun _ => bk_X12_follows_214 (mm_call_m _) (hgo w2 T2 C hpm h200' (FI_c hF hpw hT2 (by omega) (by omega) (h31.trans hC.1.symm) (fun c i a _ => hk8 c i (by omega))) (hOR w2 hpw (hm 176 36 (by omega) (by omega) (by omega)) (fun i => hk8 207 i (by decide))) ((hk8 204 c (by decide)).trans hc) hcC)) (fun z => absurd z (by decide))
        · refine bk_X12_follows_209 (mm_call_m _) (fun _ => bk_X12_follows_214 (mm_call_m _) ?_) (fun z => absurd z (by decide))
          have hpn : PR w2 (mm_u (mm_u (mm_u (mm_u w2 204 C (nI g)) 205 C x) 206 C y) 176 31 (nI (C + 1))) := PR_u (PR_u (PR_u (PR_u PR_r rfl) rfl) rfl) rfl
          have hoth : ∀ c i, ¬ c = 204 → ¬ c = 205 → ¬ c = 206 → ¬ c = 176 → mm_u (mm_u (mm_u (mm_u w2 204 C (nI g)) 205 C x) 206 C y) 176 31 (nI (C + 1)) c i = w2 c i := fun c i a b e k => by
            rw [mm_u_e k, mm_u_e e, mm_u_e b, mm_u_e a]
          have h176 : ∀ i, ¬ i = 31 → mm_u (mm_u (mm_u (mm_u w2 204 C (nI g)) 205 C x) 206 C y) 176 31 (nI (C + 1)) 176 i = w2 176 i := fun i a => by
            rw [mm_u_f a, mm_u_e (by decide), mm_u_e (by decide), mm_u_e (by decide)]
          have hrow : ∀ c' k, 204 ≤ c' → c' ≤ 206 → ¬ k = C → mm_u (mm_u (mm_u (mm_u w2 204 C (nI g)) 205 C x) 206 C y) 176 31 (nI (C + 1)) c' k = w2 c' k := fun c' k a b e => by
            rw [mm_u_e (by omega)]
            unfold mm_u
            simp only [e, if_false]
            simp
          have hp3 := PR_t hpw hpn
          refine hgo _ T2 (C + 1) (PR_t hp hp3) (fun i => (hoth 200 i (by decide) (by decide) (by decide) (by decide)).trans (h200' i)) ⟨IM_c hI hp3, JO_c hp3 (fun i => (hoth 200 i (by decide) (by decide) (by decide) (by decide)).trans (hk8 200 i (by decide))) hJ, TS_c hT2 (h176 0 (by decide)) (h176 1 (by decide)) (fun c i a b => hoth c i (by omega) (by omega) (by omega) (by omega)), ⟨mm_u_s, by omega, fun k hk => ?_⟩, by omega, NR_c (fun i => (hoth 194 i (by decide) (by decide) (by decide) (by decide)).trans (hk8 194 i (by decide))) (fun i => (hoth 200 i (by decide) (by decide) (by decide) (by decide)).trans (hk8 200 i (by decide))) (fun i => (hoth 202 i (by decide) (by decide) (by decide) (by decide)).trans (hk8 202 i (by decide))) (fun i => (hoth 203 i (by decide) (by decide) (by decide) (by decide)).trans (hk8 203 i (by decide))) hN⟩ (hOR _ hp3 ((h176 36 (by decide)).trans (hm 176 36 (by omega) (by omega) (by omega))) (fun i => (hoth 207 i (by decide) (by decide) (by decide) (by decide)).trans (hk8 207 i (by decide)))) ((hrow 204 c (by decide) (by decide) (by omega)).trans ((hk8 204 c (by decide)).trans hc)) (by omega)
          have h194' : ∀ i, mm_u (mm_u (mm_u (mm_u w2 204 C (nI g)) 205 C x) 206 C y) 176 31 (nI (C + 1)) 194 i = w 194 i := fun i => (hoth 194 i (by decide) (by decide) (by decide) (by decide)).trans (hk8 194 i (by decide))
          have h200'' : ∀ i, mm_u (mm_u (mm_u (mm_u w2 204 C (nI g)) 205 C x) 206 C y) 176 31 (nI (C + 1)) 200 i = w 200 i := fun i => (hoth 200 i (by decide) (by decide) (by decide) (by decide)).trans (hk8 200 i (by decide))
          by_cases hkC : k = C
          · subst hkC
            refine ⟨g, by omega, (used_c h200'').mpr hug, ?_, ?_, ?_, fun z => ?_, fun z => ?_⟩
            · rw [mm_u_e (by decide), mm_u_e (by decide), mm_u_e (by decide), mm_u_s]
            · rw [mm_u_e (by decide), mm_u_e (by decide), mm_u_s]
              exact hvx
            · rw [mm_u_e (by decide), mm_u_s]
              exact hvy
            · rw [h194'] at z
              rw [mm_u_e (by decide), mm_u_e (by decide), mm_u_s]
              exact hvx.resolve_left (hgx z)
            · rw [h194'] at z
              rw [mm_u_e (by decide), mm_u_s]
              exact hvy.resolve_left (hgy z)
          · refine CRo_c (by omega) h200'' h194' ?_ ?_ ?_ (hC.2.2 k (by omega)) <;> rw [hrow _ k (by decide) (by decide) hkC] <;> exact hk8 _ k (by decide)
      have h152 : ∀ (w1 : mm_P) (T1 : Nat) (x : Int32) {x6 x7 : Option mm_V}, MKP TY w w1 → TS w1 NB T1 → TY ≤ T1 → T1 ≤ TY + 15 → PU NB TY T1 x → (0 < (w 194 g).toInt → ¬ x = -1) → mm_WQ (mm_call mm_ms (mm_tb L xs) (d + 5)) (mm_tb L xs) mm_m207 lim Q 152 [some (mm_R 176), some (mm_I (nI c)), some (mm_I (nI f)), some (mm_I (nI i)), some (mm_I (nI n)), some (mm_I (200 * nI f + nI n)), x6, x7] [mm_I x] w1 ml := by
        intro w1 T1 x x6 x7 hm hT1 l1 l2 hx hgx
        have hT200 := hT.2.1.1
        have hk8 : ∀ c i, 188 ≤ c → w1 c i = w c i := fun c i q => MKP_h hm q
        refine bk_X12_follows_152 (mm_call_m _) vn (fun _ => vn) (fun _ => vc) (fun _ => vc) (fun z => ?_) (fun z => ?_) <;> rw [en, hk8 192 n (by decide)] at z
        · rw [en, ec, hk8 192 n (by decide), hk8 205 c (by decide), hk8 206 c (by decide)]
          obtain ⟨t, t1, t2, t3⟩ := g5 (g3.2 z)
          have hrow : ∀ c, 177 ≤ c → c ≤ 183 → w1 c t = w c t := fun c a b => MKP_v hm hNB hT200 (.inl t1) a b
          rw [t2]
          refine sp_put hT1 (DN_c hI.2.2.2.1 (fun t ht c a b => MKP_v hm hNB hT200 (.inl ht) a b)) t1 (fun q => ?_) (fun q => ?_) (by omega) (fun w2 r T2 a1 a2 a3 a4 a5 a6 a7 => h192 w2 T1 T2 x (nI r) (x5 := none) (MKP_t hm l1 a6) a1 l1 a2 (by omega) hx (.inr ⟨r, rfl, a4, a5⟩) hgx (fun _ e => neg1_nI (by have := vd_lt a4 hNB a1.2.1.2; omega) e.symm))
          · rw [hrow 181 (by decide) (by decide)] at q
            obtain ⟨a, b1, b2⟩ := vv_le (r4 (t3.1.resolve_left q)) l1
            exact ⟨a, b1, b2⟩
          · rw [hrow 182 (by decide) (by decide)] at q
            obtain ⟨a, b1, b2⟩ := vv_le (r5 (t3.2.resolve_left q)) l1
            exact ⟨a, b1, b2⟩
        · exact h192 w1 T1 T1 x (-1) (x5 := none) hm hT1 l1 (Nat.le_refl _) (by omega) hx (.inl ⟨rfl, rfl⟩) hgx (fun q => by
            obtain ⟨t, t1, t2, -⟩ := g5 q
            exact absurd (z.symm.trans t2) (fun e => neg1_nI (by omega) e))
    · rw [en] at z
      rw [en, ec]
      obtain ⟨t, t1, t2, t3⟩ := g4 (g3.1 z)
      rw [t2]
      refine sp_put hT hI.2.2.2.1 t1 (fun q => ?_) (fun q => ?_) (by omega) (fun w2 r T2 a1 a2 a3 a4 a5 a6 a7 => h152 w2 T2 (nI r) a6 a1 a2 a3 (.inr ⟨r, rfl, a4, a5⟩) (fun _ e => neg1_nI (by have := vd_lt a4 hNB a1.2.1.2; omega) e.symm))
      · exact r4 (t3.1.resolve_left q)
      · exact r5 (t3.2.resolve_left q)
    · rw [en] at z
      exact h152 w TY (-1) MKP_r hT (Nat.le_refl _) (by omega) (.inl ⟨rfl, rfl⟩) (fun q => by
        obtain ⟨t, t1, t2, -⟩ := g4 q
        exact absurd (z.symm.trans t2) (fun e => neg1_nI (by omega) e))
end MMT
