/-! ===== endRead(), reads() of the model ===== -/
/-- the heap only grew -/
def HX (h : Nat) (w w' : mm_P) : Prop := ∀ a, a < h → w' 212 a = w 212 a ∧ w' 213 a = w 213 a
theorem HX_r {h : Nat} {w : mm_P} : HX h w w := fun _ _ => ⟨rfl, rfl⟩
theorem HX_t {h h' : Nat} {w w' w'' : mm_P} (a : HX h w w') (hl : h ≤ h') (b : HX h' w' w'') : HX h w w'' := fun i q => ⟨(b i (by omega)).1.trans (a i q).1, (b i (by omega)).2.trans (a i q).2⟩
theorem HX_c {h : Nat} {w : mm_P} {x y : Int32} : HX h w (Wc w h x y) := fun a q => ⟨Wc_o (by omega) (by omega) (by omega), Wc_o (by omega) (by omega) (by omega)⟩
theorem HX_e {h : Nat} {w w' : mm_P} (h1 : ∀ a, w' 212 a = w 212 a) (h2 : ∀ a, w' 213 a = w 213 a) : HX h w w' := fun a _ => ⟨h1 a, h2 a⟩
theorem HX_s {S : ST} {h h' : Nat} {w w' : mm_P} {v : Int32} (hS : mST S) (hl : h ≤ h') (hx : HX h w w') (q : S (w 212) (w 213) h v) : S (w' 212) (w' 213) h' v := hS _ _ _ _ _ _ hl hx v q
/-- rows of levels and more, as they were -/
def FQ (w w' : mm_P) : Prop := ∀ c i, (215 ≤ c ∨ (c = 176 ∧ ¬ i = 42 ∧ ¬ i = 43)) → w' c i = w c i
section MMT
variable {L : Nat} {xs : Nat → Int32} {d : Nat} {Q : mm_QQ} {ml : mm_G} {lim : Nat × Nat}
theorem rd_89 {m : mm_P} {dd many : Nat} {S : ST} {x2 : Int32} {h0 : Nat} {w0 : mm_P} (hS : mST S) (hd : dd < 8) (hm : many ≤ 4) (hh0 : h0 < 4500) (hQ : ∀ w' h' v, RF m w' → w' 176 43 = nI h' → h0 ≤ h' → h' ≤ h0 + many → HX h0 w0 w' → FQ w0 w' → w' 176 42 = w0 176 42 → sLs S (w' 212) (w' 213) h' v → Q (some (mm_I v)) w' ml) : ∀ (j h : Nat) (w : mm_P) {x3 x4 : Int32}, j ≤ many → h + j = h0 + many → h0 ≤ h → RF m w → w 176 43 = nI h → HX h0 w0 w → FQ w0 w → w 176 42 = w0 176 42 → sLs S (w 212) (w 213) h x3 → (∀ i, i < j → S (w 212) (w 213) h (w 218 (5 * dd + i))) → x4 = pj j → mm_WQ (mm_call mm_ms (mm_tb L xs) (d + 1)) (mm_tb L xs) mm_m216 lim Q 89 [some (mm_R 176), some (mm_I (nI dd)), some (mm_I x2), some (mm_I x3), some (mm_I x4)] [] w ml := by
  intro j
  induction j with
  | zero =>
    intro h w x3 x4 hj hh hl hp h43 hx hr h42 hs hv e
    have hneg : x4 < 0 := by rw [e]; decide
    exact bk_X12_endRead_89 (mm_call_m _) (fun _ => hQ w h x3 hp h43 hl (by omega) hx hr h42 hs) (fun z => absurd hneg z) (fun z => absurd hneg z)
  | succ j ih =>
    intro h w x3 x4 hj hh hl hp h43 hx hr h42 hs hv e
    have e' : x4 = nI j := e
    subst e'
    have hneg : ¬ nI j < 0 := by
      rw [Int32.lt_iff_toInt_lt, mm_tI (by omega), mm_tt0]
      omega
    have ei : 5 * nI dd + nI j = nI (5 * dd + j) := by rw [r5 (by omega), nI_a (by omega)]
    refine bk_X12_endRead_89 (mm_call_m _) (fun z => absurd z hneg) (fun _ => ?_) (fun _ => ?_) <;> rw [ei]
    · exact vp_in_nI (by omega) (by decide)
    · rw [nI_clamp (by omega)]
      refine sp_cell h43 (by omega) (bk_X12_endRead_110 (mm_call_m _) ?_)
      have hsx : ∀ {S : ST} {v : Int32}, mST S → S (w 212) (w 213) h v → S (Wc w h (w 218 (5 * dd + j)) x3 212) (Wc w h (w 218 (5 * dd + j)) x3 213) (h + 1) v := fun hS q => HX_s hS (by omega) HX_c q
      refine ih (h + 1) _ (by omega) (by omega) (by omega) (RF_c hp) Wc_v.2.2 (HX_t hx hl HX_c) (fun c i q => (Wc_o (by omega) (by omega) (by omega)).trans (hr c i q)) ((Wc_o (by omega) (by omega) (by omega)).trans h42) ?_ (fun i hi => ?_) (pj_d j (by omega))
      · refine sLs_link (by omega) ?_ ?_
        · rw [Wc_v.1]
          exact hsx hS (hv j (by omega))
        · rw [Wc_v.2.1]
          exact hsx (mST_ls hS) hs
      · rw [Wc_o (by omega) (by omega) (by omega)]
        exact hsx hS (hv i (by omega))
theorem rd_end {NB ND NF dd t many h e : Nat} {m w : mm_P} (hI : IM m NB ND NF) (hin : (m 176 41).toInt ≤ 16) (hp : RF m w) (hd : dd < 8) (ht : t < NB) (h215 : w 215 dd = nI t) (h216 : w 216 dd = nI many) (hm : many ≤ 4) (hm2 : m 177 t = 4 → many = 2) (hm0 : ¬ m 177 t = 4 → ¬ m 177 t = 5 → many = 0) (h43 : w 176 43 = nI h) (hh : h < 4000) (h42 : w 176 42 = nI e) (he : e < 1000000) (hc4 : m 177 t = 4 → ∀ a b, m 178 t = nI a → m 179 t = nI b → a < NB → b < NB → SVt m sAny sAny a (w 212) (w 213) h (w 218 (5 * dd)) ∧ SVt m sAny sAny b (w 212) (w 213) h (w 218 (5 * dd + 1))) (hc5 : m 177 t = 5 → ∀ a, m 178 t = nI a → a < NB → ∀ i, i < many → SVt m sAny sAny a (w 212) (w 213) h (w 218 (5 * dd + i))) (hQ : ∀ w' h' e' v, RF m w' → w' 176 43 = nI h' → h ≤ h' → h' ≤ h + many → w' 176 42 = nI e' → e ≤ e' → e' ≤ e + 1 → (1 ≤ many → e' = e) → HX h w w' → FQ w w' → SVt m sAny sAny t (w' 212) (w' 213) h' v → Q (some (mm_I v)) w' ml) : mm_cq (mm_call mm_ms (mm_tb L xs) (d + 2)) 216 [mm_R 176, mm_I (nI dd)] w ml Q := by
  have hNB := hI.1.1
  have hTW := TW_I hI
  have vd8 : vp_in (nI dd) 8 := vp_in_nI hd (by decide)
  have ed : (nI dd).toNatClampNeg = dd := nI_clamp (by omega)
  have vt : vp_in (w 215 (nI dd).toNatClampNeg) 8000 := by rw [ed, h215]; exact vp_in_nI (by omega) (by decide)
  have et : (w 215 (nI dd).toNatClampNeg).toNatClampNeg = t := by rw [ed, h215]; exact nI_clamp (by omega)
  have e77 : w 177 t = m 177 t := hp.1 177 t (by decide) (by decide)
  have h41 : (w 176 41).toInt ≤ 16 := by rw [hp.2 41 (by omega)]; exact hin
  have hx : ∀ x (e' : Nat), (m 177 t = 0 ∨ m 177 t = 1) → e' = e + 1 → Q (some (mm_I x)) (mm_u w 176 42 (nI e')) ml := fun x e' k q => by
    refine hQ _ h e' x (RF_u hp (by omega)) (by rw [mm_u_f (by decide)]; exact h43) (Nat.le_refl _) (by omega) mm_u_s (by omega) (by omega) (fun z => ?_) (HX_e (fun _ => mm_u_e (by decide)) (fun _ => mm_u_e (by decide))) (fun c i _ => mm_u_o (by omega)) ?_
    · have := hm0 (by rcases k with k | k <;> (rw [k]; decide)) (by rcases k with k | k <;> (rw [k]; decide))
      omega
    · rw [SVt_01 k]
      trivial
  refine en_X12_endRead (bk_X12_endRead_0 (mm_call_m _) vd8 vt (fun _ => vt) (fun _ _ => vt) (fun _ _ _ => vd8) (fun z z1 z4 => ?_) (fun _ _ _ => ?_) (fun _ _ _ => ?_) (fun z z1 z4 => ?_) (fun z z1 => ?_) (fun z => ?_))
  · rw [et, e77] at z z1 z4
    have hls : ∃ S, mST S ∧ (m 177 t = 5 → SVt m sAny sAny t = sLs S) ∧ (∀ i, i < many → S (w 212) (w 213) h (w 218 (5 * dd + i))) ∧ (¬ m 177 t = 5 → many = 0 ∧ SVt m sAny sAny t = sAny) := by
      by_cases k5 : m 177 t = 5
      · obtain ⟨a, a1, a2, a3, a4, -⟩ := SVt_5 (SA := sAny) (SB := sAny) hTW (.inl ht) k5
        exact ⟨_, SVt_m mST_any mST_any a, fun _ => a4, hc5 k5 a a3 (by omega), fun q => absurd k5 q⟩
      · have hm' := hm0 z4 k5
        refine ⟨sAny, mST_any, fun q => absurd q k5, fun i hi => by omega, fun _ => ⟨hm', ?_⟩⟩
        unfold SVt
        rw [SV_s z4 k5]
        split
        · rfl
        · split <;> rfl
    obtain ⟨S, s1, s2, s3, s4⟩ := hls
    refine rd_89 (d := d) (m := m) (h0 := h) (w0 := w) s1 hd hm (by omega) (fun w' h' v g1 g2 g3 g4 g5 g6 g7 g8 => hQ w' h' e v g1 g2 g3 g4 (g7.trans h42) (Nat.le_refl _) (by omega) (fun _ => rfl) g5 g6 ?_) many h w (Nat.le_refl _) rfl (Nat.le_refl _) hp h43 HX_r (fun _ _ _ => rfl) rfl sLs_nil s3 ?_
    · by_cases k5 : m 177 t = 5
      · rw [s2 k5]
        exact g8
      · rw [(s4 k5).2]
        trivial
    · rw [ed, h216]
      exact pj_d' many (by omega)
  · rw [r5 (by omega)]
    exact vp_in_nI (by omega) (by decide)
  · rw [r5 (by omega), show nI (5 * dd) + 1 = nI (5 * dd + 1) from (nI_succ _).symm]
    exact vp_in_nI (by omega) (by decide)
  · rw [et, e77] at z4
    rw [r5 (by omega), show nI (5 * dd) + 1 = nI (5 * dd + 1) from (nI_succ _).symm, nI_clamp (by omega), nI_clamp (by omega)]
    obtain ⟨a, b, a1, a2, a3, a4, a5, a6, a7, -⟩ := SVt_4 (SA := sAny) (SB := sAny) hTW (.inl ht) z4
    obtain ⟨c1, c2⟩ := hc4 z4 a b a5 a6 (by omega) (by omega)
    have hm' := hm2 z4
    refine sp_cell h43 (by omega) (bk_X12_endRead_76 (mm_call_m _) (hQ _ (h + 1) e _ (RF_c hp) Wc_v.2.2 (by omega) (by omega) ((Wc_o (by omega) (by omega) (by omega)).trans h42) (Nat.le_refl _) (by omega) (fun _ => rfl) HX_c (fun c i q => Wc_o (by omega) (by omega) (by omega)) ?_))
    rw [a7]
    refine ⟨h, by omega, rfl, ?_, ?_⟩
    · rw [Wc_v.1]
      exact HX_s (SVt_m mST_any mST_any a) (by omega) HX_c c1
    · rw [Wc_v.2.1]
      exact HX_s (SVt_m mST_any mST_any b) (by omega) HX_c c2
  · rw [et, e77] at z1
    exact sp_nextInput h42 he h41 (fun x => bk_X12_endRead_35 (mm_call_m _) (fun _ => hx 0 _ (.inr z1) rfl) (fun _ => hx 1 _ (.inr z1) rfl))
  · rw [et, e77] at z
    exact sp_nextInput h42 he h41 (fun x => bk_X12_endRead_20 (mm_call_m _) (hx x _ (.inl z) rfl))
def cn : Nat → Nat
  | 0 => 0
  | k + 1 => 4 * cn k + 4
def en : Nat → Nat
  | 0 => 1
  | k + 1 => 4 * en k + 4
/-- the part i of a type that is read -/
def ptT (m : mm_P) (t i : Nat) : Int32 := if m 177 t = 4 then (if i = 1 then m 179 t else m 178 t) else m 178 t
/-- a type begins at level dd -/
def RB (m : mm_P) (w : mm_P) (dd t many : Nat) : Prop := w 215 dd = nI t ∧ w 216 dd = nI many ∧ many ≤ 4 ∧ (m 177 t = 4 → many = 2) ∧ (¬ m 177 t = 4 → ¬ m 177 t = 5 → many = 0)
/-- below level dd all is as it was -/
def RLv (dd : Nat) (w w' : mm_P) : Prop := (∀ c i, 215 ≤ c → c ≤ 217 → i < dd → w' c i = w c i) ∧ (∀ i, i < 5 * dd → w' 218 i = w 218 i) ∧ ∀ c i, (219 ≤ c ∨ (c = 176 ∧ ¬ i = 42 ∧ ¬ i = 43)) → w' c i = w c i
theorem RLv_t {dd : Nat} {w w' w'' : mm_P} (h : RLv dd w w') (h2 : RLv dd w' w'') : RLv dd w w'' := ⟨fun c i a b e => (h2.1 c i a b e).trans (h.1 c i a b e), fun i a => (h2.2.1 i a).trans (h.2.1 i a), fun c i a => (h2.2.2 c i a).trans (h.2.2 c i a)⟩
/-- how the value of a type at level dd is come to: what is left behind -/
def RO (NB : Nat) (m w w' : mm_P) (k dd t h e h' e' : Nat) (v : Int32) : Prop := RF m w' ∧ w' 176 43 = nI h' ∧ h ≤ h' ∧ h' ≤ h + cn k ∧ w' 176 42 = nI e' ∧ e ≤ e' ∧ e' ≤ e + en k ∧ HX h w w' ∧ RLv dd w w' ∧ SVt m sAny sAny t (w' 212) (w' 213) h' v
theorem rd_loop {NB ND NF dd t many k h e : Nat} {m w0 : mm_P} {x1 : Int32} (hI : IM m NB ND NF) (hin : (m 176 41).toInt ≤ 16) (hd : dd < 8) (hd1 : 1 ≤ many → dd < 7) (ht : t < NB) (hB : RB m w0 dd t many) (hh : h + cn (k + 1) < 4000) (he : e + en (k + 1) < 10000)
  (run : ∀ a, a < NB → (m 180 a).toInt < (m 180 t).toInt → ∀ {w : mm_P} {h e many' : Nat} {x3 : Int32} {x4 x5 : Option mm_V}, 1 ≤ many → RF m w → RB m w (dd + 1) a many' → w 217 (dd + 1) = 0 → w 176 43 = nI h → w 176 42 = nI e → h + cn k < 4000 → e + en k < 10000 → (∀ w' h' e' v x3' x4' x5', RO NB m w w' k (dd + 1) a h e h' e' v → mm_WQ (mm_call mm_ms (mm_tb L xs) (d + 2)) (mm_tb L xs) mm_m217 lim Q 100 [some (mm_R 176), some (mm_I x1), some (mm_I (nI (dd + 1))), some (mm_I x3'), x4', x5'] [mm_I v] w' ml) → mm_WQ (mm_call mm_ms (mm_tb L xs) (d + 2)) (mm_tb L xs) mm_m217 lim Q 15 [some (mm_R 176), some (mm_I x1), some (mm_I (nI (dd + 1))), some (mm_I x3), x4, x5] [] w ml)
  (hK : ∀ w' h' e' v x3' x4' x5', RO NB m w0 w' (k + 1) dd t h e h' e' v → mm_WQ (mm_call mm_ms (mm_tb L xs) (d + 2)) (mm_tb L xs) mm_m217 lim Q 100 [some (mm_R 176), some (mm_I x1), some (mm_I (nI dd)), some (mm_I x3'), x4', x5'] [mm_I v] w' ml) :
  ∀ (j c : Nat) (w : mm_P) (h1 e1 : Nat) {x3 : Int32} {x4 x5 : Option mm_V}, c + j = many → RF m w → RB m w dd t many → w 217 dd = nI c → w 176 43 = nI h1 → w 176 42 = nI e1 → h ≤ h1 → h1 ≤ h + c * cn k → e ≤ e1 → e1 ≤ e + c * (en k + 1) → HX h w0 w → RLv dd w0 w → (∀ i, i < c → SVt m sAny sAny (ptT m t i).toNatClampNeg (w 212) (w 213) h1 (w 218 (5 * dd + i))) → mm_WQ (mm_call mm_ms (mm_tb L xs) (d + 2)) (mm_tb L xs) mm_m217 lim Q 15 [some (mm_R 176), some (mm_I x1), some (mm_I (nI dd)), some (mm_I x3), x4, x5] [] w ml := by
  have hNB := hI.1.1
  have hTW := TW_I hI
  have hD := hI.2.2.2.1
  obtain ⟨-, -, B3, B4, B5⟩ := id hB
  have hck : ∀ c, c ≤ 4 → c * cn k ≤ 4 * cn k := fun c q => Nat.mul_le_mul_right _ q
  have hek : ∀ c, c ≤ 4 → c * (en k + 1) ≤ 4 * (en k + 1) := fun c q => Nat.mul_le_mul_right _ q
  have ecn : cn (k + 1) = 4 * cn k + 4 := rfl
  have een : en (k + 1) = 4 * en k + 4 := rfl
  have hdn : ¬ nI dd < 0 := by
    rw [Int32.lt_iff_toInt_lt, mm_tI (by omega), mm_tt0]
    omega
  have vd8 : vp_in (nI dd) 8 := vp_in_nI hd (by decide)
  have ed : (nI dd).toNatClampNeg = dd := nI_clamp (by omega)
  intro j
  induction j with
  | zero =>
    intro c w h1 e1 x3 x4 x5 hj hp hBw h217 h43 h42 l1 l2 l3 l4 hx hr hv
    have hc : c = many := by omega
    subst hc
    have hcc := hck c B3
    have hee := hek c B3
    have hle : w 216 (nI dd).toNatClampNeg ≤ w 217 (nI dd).toNatClampNeg := by
      rw [ed, hBw.2.1, h217]
      exact Int32.le_refl _
    refine bk_X12_reads_15 (mm_call_m _) (fun z => absurd z hdn) (fun _ => vd8) (fun _ => vd8) (fun _ _ => ?_) (fun _ z => absurd hle z) (fun _ z => absurd hle z) (fun _ z => absurd hle z) (fun _ z => absurd hle z) (fun _ z => absurd hle z) (fun _ z => absurd hle z) (fun _ z => absurd hle z)
    refine rd_end (h := h1) (e := e1) hI hin hp hd ht hBw.1 hBw.2.1 B3 B4 B5 h43 (by omega) h42 (by omega) (fun z a b ea eb la lb => ?_) (fun z a ea la i hi => ?_) (fun w' h' e' v g1 g2 g3 g4 g5 g6 g7 g8 g9 g10 g11 => hK w' h' e' v _ _ _ ⟨g1, g2, by omega, by omega, g5, by omega, ?_, HX_t hx l1 g9, ⟨fun c i a b q => (g10 c i (.inl a)).trans (hr.1 c i a b q), fun i q => (g10 218 i (.inl (by decide))).trans (hr.2.1 i q), fun c i q => (g10 c i (by omega)).trans (hr.2.2 c i q)⟩, g11⟩)
    · have hc2 := B4 z
      have v0 := hv 0 (by omega)
      have v1 := hv 1 (by omega)
      unfold ptT at v0 v1
      rw [if_pos z, if_neg (by decide), ea, nI_clamp (by omega)] at v0
      rw [if_pos z, if_pos rfl, eb, nI_clamp (by omega)] at v1
      exact ⟨v0, v1⟩
    · have v0 := hv i hi
      unfold ptT at v0
      rw [if_neg (by rw [z]; decide), ea, nI_clamp (by omega)] at v0
      exact v0
    · by_cases q : 1 ≤ c
      · have := g8 q
        omega
      · have : c = 0 := by omega
        subst this
        omega
  | succ j ih =>
    intro c w h1 e1 x3 x4 x5 hj hp hBw h217 h43 h42 l1 l2 l3 l4 hx hr hv
    have hcm : c + 1 ≤ many := by omega
    have hd7 := hd1 (by omega)
    have hcc := hck (c + 1) (by omega)
    have hee := hek (c + 1) (by omega)
    rw [Nat.add_mul, Nat.one_mul] at hcc hee
    have hlt : ¬ w 216 (nI dd).toNatClampNeg ≤ w 217 (nI dd).toNatClampNeg := by
      rw [ed, hBw.2.1, h217, Int32.le_iff_toInt_le, mm_tI (by omega), mm_tI (by omega)]
      omega
    have e15 : w 215 (nI dd).toNatClampNeg = nI t := by rw [ed]; exact hBw.1
    have et : (w 215 (nI dd).toNatClampNeg).toNatClampNeg = t := by rw [e15]; exact nI_clamp (by omega)
    have vt : vp_in (w 215 (nI dd).toNatClampNeg) 8000 := by rw [e15]; exact vp_in_nI (by omega) (by decide)
    have e77 : ∀ t c, 177 ≤ c → c ≤ 183 → w c t = m c t := fun t c a b => hp.1 c t (by omega) (by omega)
    have es : nI dd + 1 = nI (dd + 1) := (nI_succ dd).symm
    -- the part that comes next
    have hgo : ∀ a x4 x5, a < NB → (m 180 a).toInt < (m 180 t).toInt → ptT m t c = nI a → mm_cq (mm_call mm_ms (mm_tb L xs) (d + 2)) 215 [mm_R 176, mm_I (nI (dd + 1)), mm_I (nI a)] w ml (fun o n1 n2 => mm_WQ (mm_call mm_ms (mm_tb L xs) (d + 2)) (mm_tb L xs) mm_m217 lim Q 92 [some (mm_R 176), some (mm_I x1), some (mm_I (nI (dd + 1))), some (mm_I x3), some (mm_I x4), some (mm_I x5)] (o.toList ++ []) n1 n2) := fun a y4 y5 a1 a2 a3 => by
      refine sp_beginRead (e := e1) (by omega) (by omega) h42 (by omega) (by rw [hp.2 41 (by omega)]; exact hin) (fun w1 e2 many' b1 b2 b3 b4 b5 b6 b7 b8 b9 b10 => bk_X12_reads_92 (mm_call_m _) ?_)
      rw [e77 a 177 (by decide) (by decide)] at b2 b3
      have hp1 : RF m w1 := ⟨fun c i q q2 => (b6 c i (by omega) (by omega)).trans (hp.1 c i q q2), fun i q => (b6 176 i (by omega) (by omega)).trans (hp.2 i q)⟩
      refine run a a1 a2 (many' := many') (h := h1) (e := e2) (by omega) hp1 ⟨b7, b9, b1, b2, b3⟩ b8 ((b6 176 43 (by omega) (by omega)).trans h43) b10 (by omega) (by omega) (fun w2 h2 e3 v y3 y4 y5 ho => ?_)
      obtain ⟨o1, o2, o3, o4, o5, o6, o7, o8, o9, o10⟩ := ho
      have ex : nI (dd + 1) + (-1) = nI dd := mm_dec dd (by omega)
      have e217 : w2 217 dd = nI c := (o9.1 217 dd (by decide) (by decide) (by omega)).trans ((b6 217 dd (by omega) (by omega)).trans h217)
      have v5 : 5 * nI dd + nI c = nI (5 * dd + c) := by rw [r5 (by omega), nI_a (by omega)]
      refine bk_X12_reads_100 (mm_call_m _) (fun z => ?_) (fun _ => ?_) (fun _ => ?_) (fun _ => ?_) (fun _ => ?_) (fun _ => ?_)
      · rw [ex] at z
        exact absurd z hdn
      · rw [ex]
        exact vd8
      · rw [ex, ed, e217, v5]
        exact vp_in_nI (by omega) (by decide)
      · rw [ex]
        exact vd8
      · rw [ex]
        exact vd8
      rw [ex, ed, e217, v5, nI_clamp (by omega), show nI c + 1 = nI (c + 1) from (nI_succ c).symm]
      have h18 : ∀ i, i < 5 * dd + c → w2 218 i = w 218 i := fun i q => (o9.2.1 i (by omega)).trans (b6 218 i (by omega) (by omega))
      have hq : ∀ c' i, (c' = 215 ∨ c' = 216 ∨ c' = 217) → i < dd + 1 → w2 c' i = w c' i := fun c' i q q2 => (o9.1 c' i (by omega) (by omega) q2).trans (b6 c' i (by omega) (by omega))
      have hu : ∀ c' i, ¬ (c' = 218 ∧ i = 5 * dd + c) → ¬ (c' = 217 ∧ i = dd) → mm_u (mm_u w2 218 (5 * dd + c) v) 217 dd (nI (c + 1)) c' i = w2 c' i := fun c' i q q2 => by rw [mm_u_o q2, mm_u_o q]
      have hxw : HX h1 w w2 := fun a q => ⟨(o8 a q).1.trans (b6 212 a (by omega) (by omega)), (o8 a q).2.trans (b6 213 a (by omega) (by omega))⟩
      have hxu : ∀ h, HX h w2 (mm_u (mm_u w2 218 (5 * dd + c) v) 217 dd (nI (c + 1))) := fun h => HX_e (fun a => hu 212 a (by omega) (by omega)) (fun a => hu 213 a (by omega) (by omega))
      refine ih (c + 1) _ h2 e3 (by omega) (RF_u (RF_u o1 (by omega)) (by omega)) ⟨(hu 215 dd (by omega) (by omega)).trans ((hq 215 dd (by omega) (by omega)).trans hBw.1), (hu 216 dd (by omega) (by omega)).trans ((hq 216 dd (by omega) (by omega)).trans hBw.2.1), B3, B4, B5⟩ mm_u_s ((hu 176 43 (by omega) (by omega)).trans o2) ((hu 176 42 (by omega) (by omega)).trans o5) (by omega) ?_ (by omega) ?_ (HX_t hx l1 (HX_t hxw o3 (hxu h2))) ⟨fun c' i q q2 q3 => (hu c' i (by omega) (by omega)).trans ((hq c' i (by omega) (by omega)).trans (hr.1 c' i q q2 q3)), fun i q => (hu 218 i (by omega) (by omega)).trans ((h18 i (by omega)).trans (hr.2.1 i q)), fun c' i q => (hu c' i (by omega) (by omega)).trans ((o9.2.2 c' i q).trans ((b6 c' i (by omega) (by omega)).trans (hr.2.2 c' i q)))⟩ (fun i hi => ?_)
      · rw [Nat.add_mul, Nat.one_mul]
        omega
      · rw [Nat.add_mul, Nat.one_mul]
        omega
      · have hm1 : ∀ x, mST (SVt m sAny sAny x) := fun x => SVt_m mST_any mST_any x
        by_cases hic : i = c
        · subst hic
          have ev : mm_u (mm_u w2 218 (5 * dd + i) v) 217 dd (nI (i + 1)) 218 (5 * dd + i) = v := by rw [mm_u_e (by decide), mm_u_s]
          rw [ev, a3, nI_clamp (by omega)]
          exact HX_s (hm1 _) (Nat.le_refl _) (hxu h2) o10
        · rw [hu 218 (5 * dd + i) (by omega) (by omega), h18 (5 * dd + i) (by omega)]
          exact HX_s (hm1 _) (Nat.le_refl _) (hxu h2) (HX_s (hm1 _) o3 hxw (hv i (by omega)))
    have k45 : m 177 t = 4 ∨ m 177 t = 5 := by
      by_cases q4 : m 177 t = 4
      · exact .inl q4
      · by_cases q5 : m 177 t = 5
        · exact .inr q5
        · have := B5 q4 q5
          omega
    have h73 : ∀ x5, (m 177 t = 4 → ¬ c = 1) → mm_WQ (mm_call mm_ms (mm_tb L xs) (d + 2)) (mm_tb L xs) mm_m217 lim Q 73 [some (mm_R 176), some (mm_I x1), some (mm_I (nI dd)), some (mm_I x3), some (mm_I (nI t)), x5] [] w ml := fun x5 hc1 => by
      refine bk_X12_reads_73 (mm_call_m _) (vp_in_nI (by omega) (by decide)) ?_
      rw [es, nI_clamp (by omega), e77 t 178 (by decide) (by decide)]
      rcases k45 with k4 | k5
      · obtain ⟨a, b, a1, a2, a3, a4, a5, a6, a7, a8⟩ := SVt_4 (SA := sAny) (SB := sAny) hTW (.inl ht) k4
        have da := hD a (by omega)
        have db := hD b (by omega)
        have hm' := f_most_r (x := m 180 a) (y := m 180 b) (lo := 1) (hi := 5) da.1 db.1
        rw [a5]
        refine hgo a _ _ (by omega) ?_ ?_
        · rw [a8.2.2.2.1, mm_1p (by omega) (by omega)]
          omega
        · unfold ptT
          rw [if_pos k4, if_neg (hc1 k4)]
          exact a5
      · obtain ⟨a, a1, a2, a3, a4, a8⟩ := SVt_5 (SA := sAny) (SB := sAny) hTW (.inl ht) k5
        have da := hD a (by omega)
        rw [a3]
        refine hgo a _ _ (by omega) ?_ ?_
        · rw [a8.2.2.2.1, mm_1p (by omega) (by omega)]
          omega
        · unfold ptT
          rw [if_neg (by rw [k5]; decide)]
          exact a3
    refine bk_X12_reads_15 (mm_call_m _) (fun z => absurd z hdn) (fun _ => vd8) (fun _ => vd8) (fun _ z => absurd z hlt) (fun _ _ => vd8) (fun _ _ => vt) (fun _ _ z => ?_) (fun _ _ _ => vd8) (fun _ _ z z1 => ?_) (fun _ _ _ _ => vt) (fun _ _ z z1 => ?_)
    · rw [et, e77 t 177 (by decide) (by decide)] at z
      rw [e15]
      exact h73 _ (fun q => absurd q z)
    · rw [ed, h217] at z1
      rw [e15]
      refine h73 _ (fun _ q => z1 ?_)
      rw [q]
      rfl
    · rw [et, e77 t 177 (by decide) (by decide)] at z
      rw [ed, h217] at z1
      have hc1 : c = 1 := nI_ij (by omega) (by decide) (z1.trans (show (1 : Int32) = nI 1 from rfl))
      rw [es, et, e77 t 179 (by decide) (by decide)]
      obtain ⟨a, b, a1, a2, a3, a4, a5, a6, a7, a8⟩ := SVt_4 (SA := sAny) (SB := sAny) hTW (.inl ht) z
      have da := hD a (by omega)
      have db := hD b (by omega)
      have hm' := f_most_r (x := m 180 a) (y := m 180 b) (lo := 1) (hi := 5) da.1 db.1
      rw [a6]
      refine hgo b _ _ (by omega) ?_ ?_
      · rw [a8.2.2.2.1, mm_1p (by omega) (by omega)]
        omega
      · unfold ptT
        rw [if_pos z, if_pos hc1]
        exact a6
theorem reads_run {NB ND NF : Nat} {m : mm_P} {x1 : Int32} (hI : IM m NB ND NF) (hin : (m 176 41).toInt ≤ 16) : ∀ (k : Nat) {dd t many h e : Nat} {w : mm_P} {x3 : Int32} {x4 x5 : Option mm_V}, dd + k < 8 → t < NB → (m 180 t).toInt ≤ k + 1 → RF m w → RB m w dd t many → w 217 dd = 0 → w 176 43 = nI h → w 176 42 = nI e → h + cn (k + 1) < 4000 → e + en (k + 1) < 10000 → (∀ w' h' e' v x3' x4' x5', RO NB m w w' (k + 1) dd t h e h' e' v → mm_WQ (mm_call mm_ms (mm_tb L xs) (d + 2)) (mm_tb L xs) mm_m217 lim Q 100 [some (mm_R 176), some (mm_I x1), some (mm_I (nI dd)), some (mm_I x3'), x4', x5'] [mm_I v] w' ml) → mm_WQ (mm_call mm_ms (mm_tb L xs) (d + 2)) (mm_tb L xs) mm_m217 lim Q 15 [some (mm_R 176), some (mm_I x1), some (mm_I (nI dd)), some (mm_I x3), x4, x5] [] w ml := by
  have hD := hI.2.2.2.1
  have hTW := TW_I hI
  have hmany : ∀ {t many : Nat} {w : mm_P} {dd : Nat}, t < NB → RB m w dd t many → 1 ≤ many → 2 ≤ (m 180 t).toInt := fun {t many w dd} ht hB hm => by
    by_cases q4 : m 177 t = 4
    · obtain ⟨a, b, a1, a2, a3, a4, a5, a6, a7, a8⟩ := SVt_4 (SA := sAny) (SB := sAny) hTW (.inl ht) q4
      have da := hD a (by omega)
      have db := hD b (by omega)
      have hm' := f_most_r (x := m 180 a) (y := m 180 b) (lo := 1) (hi := 5) da.1 db.1
      rw [a8.2.2.2.1, mm_1p (by omega) (by omega)]
      omega
    · by_cases q5 : m 177 t = 5
      · obtain ⟨a, a1, a2, a3, a4, a8⟩ := SVt_5 (SA := sAny) (SB := sAny) hTW (.inl ht) q5
        have da := hD a (by omega)
        rw [a8.2.2.2.1, mm_1p (by omega) (by omega)]
        omega
      · have := hB.2.2.2.2 q4 q5
        omega
  intro k
  induction k with
  | zero =>
    intro dd t many h e w x3 x4 x5 hd ht hk hp hB h217 h43 h42 hh he hK
    have h0 : many = 0 := by
      by_cases q : 1 ≤ many
      · have := hmany ht hB q
        omega
      · omega
    exact rd_loop (k := 0) (h := h) (e := e) hI hin (by omega) (by omega) ht hB hh he (fun a _ _ {w h e many' x3 x4 x5} q => absurd q (by omega)) hK many 0 w h e (by omega) hp hB h217 h43 h42 (Nat.le_refl _) (by omega) (Nat.le_refl _) (by omega) HX_r ⟨fun _ _ _ _ _ => rfl, fun _ _ => rfl, fun _ _ _ => rfl⟩ (fun i q => absurd q (Nat.not_lt_zero _))
  | succ k ih =>
    intro dd t many h e w x3 x4 x5 hd ht hk hp hB h217 h43 h42 hh he hK
    exact rd_loop (k := k + 1) (h := h) (e := e) hI hin (by omega) (by omega) ht hB hh he (fun a a1 a2 {w h e many' x3 x4 x5} _ b1 b2 b3 b4 b5 b6 b7 b8 => ih (dd := dd + 1) (by omega) a1 (by omega) b1 b2 b3 b4 b5 b6 b7 b8) hK many 0 w h e (by omega) hp hB h217 h43 h42 (Nat.le_refl _) (by omega) (Nat.le_refl _) (by omega) HX_r ⟨fun _ _ _ _ _ => rfl, fun _ _ => rfl, fun _ _ _ => rfl⟩ (fun i q => absurd q (Nat.not_lt_zero _))
/-- reads() -/
theorem sp_reads {NB ND NF t : Nat} {m w : mm_P} (hI : IM m NB ND NF) (hin : (m 176 41).toInt ≤ 16) (hp : RF m w) (ht : t < NB) (h43 : w 176 43 = nI 0) (hQ : ∀ w' h' v, RF m w' → w' 176 43 = nI h' → h' ≤ 1400 → (∀ c i, (219 ≤ c ∨ (c = 176 ∧ ¬ i = 42 ∧ ¬ i = 43)) → w' c i = w c i) → SVt m sAny sAny t (w' 212) (w' 213) h' v → Q (some (mm_I v)) w' ml) : mm_cq (mm_call mm_ms (mm_tb L xs) (d + 3)) 217 [mm_R 176, mm_I (nI t)] w ml Q := by
  have hNB := hI.1.1
  have hD := hI.2.2.2.1 t ht
  have c5 : cn (4 + 1) = 1364 := by decide
  have e5 : en (4 + 1) = 2388 := by decide
  refine en_X12_reads (bk_X12_reads_0 (mm_call_m _) (sp_beginRead (dd := 0) (e := 0) (by decide) (by omega) mm_u_s (by decide) (by rw [mm_u_f (by decide), hp.2 41 (by omega)]; exact hin) (fun w1 e2 many b1 b2 b3 b4 b5 b6 b7 b8 b9 b10 => ?_)))
  have e77 : mm_u w 176 42 0 177 t = m 177 t := (mm_u_e (by decide)).trans (hp.1 177 t (by decide) (by decide))
  rw [e77] at b2 b3
  have hp0 : RF m (mm_u w 176 42 0) := RF_u hp (by omega)
  have hp1 : RF m w1 := ⟨fun c i q q2 => (b6 c i (by omega) (by omega)).trans (hp0.1 c i q q2), fun i q => (b6 176 i (by omega) (by omega)).trans (hp0.2 i q)⟩
  refine reads_run hI hin 4 (dd := 0) (t := t) (many := many) (h := 0) (e := e2) (by decide) ht (by omega) hp1 ⟨b7, b9, b1, b2, b3⟩ b8 ((b6 176 43 (by omega) (by omega)).trans ((mm_u_f (by decide)).trans h43)) b10 (by omega) (by omega) (fun w2 h2 e3 v y3 y4 y5 ho => ?_)
  obtain ⟨o1, o2, o3, o4, o5, o6, o7, o8, o9, o10⟩ := ho
  have hneg : nI 0 + (-1) < 0 := by decide
  refine bk_X12_reads_100 (mm_call_m _) (fun _ => ?_) (fun z => absurd hneg z) (fun z => absurd hneg z) (fun z => absurd hneg z) (fun z => absurd hneg z) (fun z => absurd hneg z)
  refine bk_X12_reads_15 (mm_call_m _) (fun _ => ?_) (fun z => absurd hneg z) (fun z => absurd hneg z) (fun z => absurd hneg z) (fun z => absurd hneg z) (fun z => absurd hneg z) (fun z => absurd hneg z) (fun z => absurd hneg z) (fun z => absurd hneg z) (fun z => absurd hneg z) (fun z => absurd hneg z)
  exact hQ w2 h2 v o1 o2 (by omega) (fun c i q => (o9.2.2 c i q).trans ((b6 c i (by omega) (by omega)).trans (mm_u_o (by omega)))) o10
end MMT
