/-! ===== callType() of the model ===== -/
/-- the type of a CALL, as callType() finds it -/
def CT (NB NF TY : Nat) (w : mm_P) (f n r : Nat) : Prop := ∃ g, g < NF ∧ w 189 n = nI g ∧ ((¬ w 191 n = -1 → 0 < (w 194 g).toInt) ∧ (¬ w 192 n = -1 → 1 < (w 194 g).toInt)) ∧ (0 < (w 194 g).toInt → ∃ t, t < NB ∧ w 191 n = nI t ∧ wthn w t (w 194 f)) ∧ (1 < (w 194 g).toInt → ∃ t, t < NB ∧ w 192 n = nI t ∧ wthn w t (w 194 f)) ∧ ∃ x y ra, x < NB ∧ y < NB ∧ w 195 g = nI x ∧ w 196 g = nI y ∧ vd NB TY ra ∧ w 198 (w 190 n).toNatClampNeg = nI ra ∧ SB NB TY w (w 191 n) (w 192 n) 4 x ra ∧ SB NB TY w (w 191 n) (w 192 n) 4 y r
theorem MKP_h {TY c i : Nat} {m n : mm_P} (h : MKP TY m n) (h1 : 188 ≤ c) : n c i = m c i := h c i (by omega) (by omega) (by omega)
theorem CT_c {NB ND NF TY TZ : Nat} {m n : mm_P} (hI : IM m NB ND NF) (hT : 200 ≤ TY) (hl : TY ≤ TZ) (h : MKP TY m n) {f k r : Nat} (hr : vd NB TY r) (hc : CT NB NF TY m f k r) : CT NB NF TZ n f k r := by
  obtain ⟨g, g1, g2, g2x, g3, g4, x, y, ra, ex, ey, g5, g6, g7, g8, g9, g10⟩ := hc
  have hNB : NB ≤ 200 := hI.1.1.2
  have hv : ∀ t, vd NB TY t → ∀ c, 177 ≤ c → c ≤ 183 → n c t = m c t := fun t ht c h1 h2 => MKP_v h hNB hT ht h1 h2
  have hw : ∀ t l, t < NB → wthn m t l → wthn n t l := fun t l ht q => by
    unfold wthn
    rw [hv t (.inl ht) 181 (by decide) (by decide), hv t (.inl ht) 182 (by decide) (by decide)]
    exact q
  unfold CT
  rw [MKP_h h (c := 189) (by decide), MKP_h h (c := 191) (by decide), MKP_h h (c := 192) (by decide), MKP_h h (c := 190) (by decide), MKP_h h (c := 198) (by decide)]
  refine ⟨g, g1, g2, by rw [MKP_h h (c := 194) (by decide)]; exact g2x, fun z => ?_, fun z => ?_, x, y, ra, ex, ey, (MKP_h h (by decide)).trans g5, (MKP_h h (by decide)).trans g6, vd_le g7 hl, g8, SB_c hNB hT hl hv 4 ex g7 g9, SB_c hNB hT hl hv 4 ey hr g10⟩
  · rw [MKP_h h (by decide)] at z ⊢
    obtain ⟨t, t1, t2, t3⟩ := g3 z
    exact ⟨t, t1, t2, hw t _ t1 t3⟩
  · rw [MKP_h h (by decide)] at z ⊢
    obtain ⟨t, t1, t2, t3⟩ := g4 z
    exact ⟨t, t1, t2, hw t _ t1 t3⟩
section MMT
variable {L : Nat} {xs : Nat → Int32} {d : Nat} {Q : mm_QQ} {mi : mm_P} {ml : mm_G} {lim : Nat × Nat}
theorem callType_108 {f n g NB ND NF TY : Nat} {x6 : Int32} (hI : IM mi NB ND NF) (hT : TS mi NB TY) (hn : n < ND) (hk : mi 188 n = 14) (hg : g < NF) (hga : mi 189 n = nI g) (hl : mi 194 g = x6) (hX : (¬ mi 191 n = -1 → 0 < x6.toInt) ∧ (¬ mi 192 n = -1 → 1 < x6.toInt)) (hC : 0 < x6.toInt → ∃ t, t < NB ∧ mi 191 n = nI t ∧ wthn mi t (mi 194 f)) (hD : 1 < x6.toInt → ∃ t, t < NB ∧ mi 192 n = nI t ∧ wthn mi t (mi 194 f)) (hb : TY ≤ 7970) (hQ : ∀ w v TZ, TS w NB TZ → TY ≤ TZ → TZ ≤ TY + 30 → MKP TY mi w → (v = -1 ∨ ∃ r, v = nI r ∧ vd NB TZ r ∧ CT NB NF TZ w f n r) → Q (some (mm_I v)) w ml) : mm_WQ (mm_call mm_ms (mm_tb L xs) (d + 5)) (mm_tb L xs) mm_m192 lim Q 108 [some (mm_R 176), some (mm_I (nI f)), some (mm_I (nI n)), some (mm_I (nI g)), some (mm_I (mi 191 n)), some (mm_I (mi 192 n)), some (mm_I x6)] [] mi ml := by
  obtain ⟨⟨⟨i1, i2⟩, i3, i4⟩, i5, i6, i7, i8, i9, i10⟩ := id hI
  obtain ⟨b1, b2, b3, b4, b5⟩ := i8 n hn
  obtain ⟨c1, ⟨p, p1, p2, p3⟩, c3, c4, c5⟩ := b5 hk
  obtain ⟨o1, ⟨x, o2, o3, o4⟩, ⟨y, o5, o6, o7⟩, o8⟩ := i9 g hg
  have vn : vp_in (nI n) 200 := vp_in_nI (by omega) (by decide)
  have vg : vp_in (nI g) 12 := vp_in_nI (by omega) (by decide)
  have en : (nI n).toNatClampNeg = n := nI_clamp (by omega)
  have eg : (nI g).toNatClampNeg = g := nI_clamp (by omega)
  have ep : (nI p).toNatClampNeg = p := nI_clamp (by omega)
  refine bk_X12_callType_108 (mm_call_m _) vn ?_ vg ?_
  · rw [en, p2]
    exact vp_in_nI (by omega) (by decide)
  · rw [en, eg, o3]
    have hA : ∀ {z : Nat}, wthn mi z (mi 194 g) → ¬ mi 181 z = 0 → ∃ r, vd NB TY r ∧ mi 191 n = nI r := fun hz hz1 => by
      obtain ⟨t, t1, t2, -⟩ := hC (by rw [← hl]; exact hz.1.resolve_left hz1)
      exact ⟨t, .inl t1, t2⟩
    have hB : ∀ {z : Nat}, wthn mi z (mi 194 g) → ¬ mi 182 z = 0 → ∃ r, vd NB TY r ∧ mi 192 n = nI r := fun hz hz1 => by
      obtain ⟨t, t1, t2, -⟩ := hD (by rw [← hl]; exact hz.2.resolve_left hz1)
      exact ⟨t, .inl t1, t2⟩
    refine sp_put hT i7 o2 (hA o4) (hB o4) (by omega) (fun w1 ra T1 w1a w1b w1c w1d w1e w1f w1g => ?_)
    have hk1 : ∀ c i, 188 ≤ c → w1 c i = mi c i := fun c i h1 => MKP_h w1f h1
    refine bk_X12_callType_133 (mm_call_m _) (fun _ => vg) (fun z => ?_) (fun _ => hQ w1 (-1) T1 w1a w1b (by omega) w1f (.inl rfl))
    rw [eg, hk1 196 g (by decide), o6]
    have hv1 : ∀ t, t < NB → ∀ c, 177 ≤ c → c ≤ 183 → w1 c t = mi c t := fun t ht c h1 h2 => MKP_v w1f i2 hT.2.1.1 (.inl ht) h1 h2
    refine sp_put w1a (DN_c i7 hv1) o5 (fun q => ?_) (fun q => ?_) (by omega) (fun w2 r T2 w2a w2b w2c w2d w2e w2f w2g => bk_X12_callType_152 (mm_call_m _) (hQ w2 (nI r) T2 w2a (by omega) (by omega) (MKP_t w1f w1b w2f) (.inr ⟨r, rfl, w2d, g, hg, ?_, ?_⟩)))
    · rw [hv1 y o5 181 (by decide) (by decide)] at q
      obtain ⟨r, r1, r2⟩ := hA o7 q
      exact ⟨r, vd_le r1 w1b, r2⟩
    · rw [hv1 y o5 182 (by decide) (by decide)] at q
      obtain ⟨r, r1, r2⟩ := hB o7 q
      exact ⟨r, vd_le r1 w1b, r2⟩
    · exact ((MKP_h w2f (by decide)).trans (hk1 189 n (by decide))).trans hga
    · have hk2 : ∀ c i, 188 ≤ c → w2 c i = mi c i := fun c i h1 => (MKP_h w2f h1).trans (hk1 c i h1)
      have hv2 : ∀ t, t < NB → ∀ c, 177 ≤ c → c ≤ 183 → w2 c t = mi c t := fun t ht c h1 h2 => (MKP_v w2f i2 (by have := hT.2.1.1; omega) (.inl ht) h1 h2).trans (hv1 t ht c h1 h2)
      have hw : ∀ t l, t < NB → wthn mi t l → wthn w2 t l := fun t l ht q => by
        unfold wthn
        rw [hv2 t ht 181 (by decide) (by decide), hv2 t ht 182 (by decide) (by decide)]
        exact q
      rw [hk2 194 g (by decide), hk2 194 f (by decide), hk2 191 n (by decide), hk2 192 n (by decide), hk2 190 n (by decide), hk2 195 g (by decide), hk2 196 g (by decide), hl]
      refine ⟨hX, fun q => ?_, fun q => ?_, x, y, ra, o2, o5, o3, o6, vd_le w1d w2b, ?_, SB_c i2 (by have := hT.2.1.1; omega) w2b (fun t ht c h1 h2 => MKP_v w2f i2 (by have := hT.2.1.1; omega) ht h1 h2) 4 o2 w1d w1g, w2g⟩
      · obtain ⟨t, t1, t2, t3⟩ := hC q
        exact ⟨t, t1, t2, hw t _ t1 t3⟩
      · obtain ⟨t, t1, t2, t3⟩ := hD q
        exact ⟨t, t1, t2, hw t _ t1 t3⟩
      · rw [hk2 198 _ (by decide)]
        exact z
theorem sp_callType {f n NB ND NF TY : Nat} (hI : IM mi NB ND NF) (hT : TS mi NB TY) (hf : f < NF) (hn : n < ND) (hk : mi 188 n = 14) (hb : TY ≤ 7970) (hQ : ∀ w v TZ, TS w NB TZ → TY ≤ TZ → TZ ≤ TY + 30 → MKP TY mi w → (v = -1 ∨ ∃ r, v = nI r ∧ vd NB TZ r ∧ CT NB NF TZ w f n r) → Q (some (mm_I v)) w ml) : mm_cq (mm_call mm_ms (mm_tb L xs) (d + 6)) 192 [mm_R 176, mm_I (nI f), mm_I (nI n)] mi ml Q := by
  obtain ⟨⟨⟨i1, i2⟩, i3, i4⟩, ⟨i5a, i5b, i5c⟩, i6, i7, i8, i9, i10⟩ := id hI
  obtain ⟨b1, b2, b3, b4, b5⟩ := i8 n hn
  obtain ⟨c1, c2, c3, c4, c5⟩ := b5 hk
  obtain ⟨g, eg, g12, -, -⟩ := mm_of c1.1 c1.2
  have vn : vp_in (nI n) 200 := vp_in_nI (by omega) (by decide)
  have en : (nI n).toNatClampNeg = n := nI_clamp (by omega)
  have egc : (nI g).toNatClampNeg = g := nI_clamp (by omega)
  have efc : (nI f).toNatClampNeg = f := nI_clamp (by omega)
  have vf : vp_in (nI f) 12 := vp_in_nI (by omega) (by decide)
  have hno : ∀ {x4 x5 x6 x3 : Int32}, mm_WQ (mm_call mm_ms (mm_tb L xs) (d + 5)) (mm_tb L xs) mm_m192 (mm_li mm_m192) Q 106 [some (mm_R 176), some (mm_I (nI f)), some (mm_I (nI n)), some (mm_I x3), some (mm_I x4), some (mm_I x5), some (mm_I x6)] [] mi ml := bk_X12_callType_106 (mm_call_m _) (hQ mi (-1) TY hT (Nat.le_refl _) (by omega) MKP_r (.inl rfl))
  have hgo : ∀ x6 : Int32, (0 < x6.toInt → ¬ mi 191 n = -1) → (1 < x6.toInt → ¬ mi 192 n = -1) → ((¬ mi 191 n = -1 → 0 < x6.toInt) ∧ (¬ mi 192 n = -1 → 1 < x6.toInt)) → mm_cq (mm_call mm_ms (mm_tb L xs) (d + 5)) 184 [mm_R 176, mm_I (nI g)] mi ml (fun o n1 n2 => mm_WQ (mm_call mm_ms (mm_tb L xs) (d + 5)) (mm_tb L xs) mm_m192 (mm_li mm_m192) Q 51 [some (mm_R 176), some (mm_I (nI f)), some (mm_I (nI n)), some (mm_I (nI g)), some (mm_I (mi 191 n)), some (mm_I (mi 192 n)), some (mm_I x6)] (o.toList ++ []) n1 n2) := by
    intro x6 h4 h5 hX
    refine sp_X12_isFunction (by rw [i5c, mm_tI (by omega)]; omega) (fun q1 q2 => ?_) (fun _ => bk_X12_callType_51 (s0 := 0) (mm_call_m _) (fun _ => hno) (fun z => absurd rfl z) (fun z => absurd rfl z) (fun z => absurd rfl z) (fun z => absurd rfl z) (fun z => absurd rfl z))
    have hg : g < NF := by
      rw [i5c, mm_tI (show NF < 2 ^ 31 by omega), mm_tI (show g < 2 ^ 31 by omega)] at q2
      omega
    have h191 : 0 < x6.toInt → ∃ t, t < NB ∧ mi 191 n = nI t := fun q => c3.resolve_left (h4 q)
    have h192 : 1 < x6.toInt → ∃ t, t < NB ∧ mi 192 n = nI t := fun q => c4.resolve_left (h5 q)
    -- behind the first type's letters
    have h85 : mi 194 g = x6 → (0 < x6.toInt → ∃ t, t < NB ∧ mi 191 n = nI t ∧ wthn mi t (mi 194 f)) → mm_WQ (mm_call mm_ms (mm_tb L xs) (d + 5)) (mm_tb L xs) mm_m192 (mm_li mm_m192) Q 85 [some (mm_R 176), some (mm_I (nI f)), some (mm_I (nI n)), some (mm_I (nI g)), some (mm_I (mi 191 n)), some (mm_I (mi 192 n)), some (mm_I x6)] [] mi ml := by
      intro hl hC
      refine bk_X12_callType_85 (mm_call_m _) (fun z => ?_) (fun _ => vf) (fun z => ?_) <;> rw [Int32.le_iff_toInt_le, mm_tt1] at z
      · exact callType_108 hI hT hn hk hg eg hl hX hC (fun q => absurd q (by omega)) hb hQ
      · obtain ⟨t, t1, t2⟩ := h192 (by omega)
        rw [efc]
        have : mm_cq (mm_call mm_ms (mm_tb L xs) (d + 5)) 180 [mm_R 176, mm_I (nI t), mm_I (mi 194 f)] mi ml (fun o n1 n2 => mm_WQ (mm_call mm_ms (mm_tb L xs) (d + 5)) (mm_tb L xs) mm_m192 (mm_li mm_m192) Q 103 [some (mm_R 176), some (mm_I (nI f)), some (mm_I (nI n)), some (mm_I (nI g)), some (mm_I (mi 191 n)), some (mm_I (mi 192 n)), some (mm_I x6)] (o.toList ++ []) n1 n2) := sp_X12_isWithin (by omega) (fun hw => bk_X12_callType_103 (s0 := 1) (mm_call_m _) (fun _ => callType_108 hI hT hn hk hg eg hl hX hC (fun _ => ⟨t, t1, t2, hw⟩) hb hQ) (fun q => absurd q (by decide))) (fun _ => bk_X12_callType_103 (s0 := 0) (mm_call_m _) (fun q => absurd rfl q) (fun _ => hno))
        rw [← t2] at this
        exact this
    refine bk_X12_callType_51 (s0 := 1) (mm_call_m _) (fun q => absurd q (by decide)) (fun _ => vp_in_nI (by omega) (by decide)) (fun _ _ => hno) (fun _ z w => ?_) (fun _ _ _ => vf) (fun _ z w => ?_)
    · rw [egc] at z
      rw [Int32.le_iff_toInt_le, mm_tt0] at w
      exact h85 z (fun q => absurd q (by omega))
    · rw [egc] at z
      rw [Int32.le_iff_toInt_le, mm_tt0] at w
      obtain ⟨t, t1, t2⟩ := h191 (by omega)
      rw [efc]
      have : mm_cq (mm_call mm_ms (mm_tb L xs) (d + 5)) 180 [mm_R 176, mm_I (nI t), mm_I (mi 194 f)] mi ml (fun o n1 n2 => mm_WQ (mm_call mm_ms (mm_tb L xs) (d + 5)) (mm_tb L xs) mm_m192 (mm_li mm_m192) Q 82 [some (mm_R 176), some (mm_I (nI f)), some (mm_I (nI n)), some (mm_I (nI g)), some (mm_I (mi 191 n)), some (mm_I (mi 192 n)), some (mm_I x6)] (o.toList ++ []) n1 n2) := sp_X12_isWithin (by omega) (fun hw => bk_X12_callType_82 (s0 := 1) (mm_call_m _) (fun q => absurd q (by decide)) (fun _ => h85 z (fun _ => ⟨t, t1, t2, hw⟩))) (fun _ => bk_X12_callType_82 (s0 := 0) (mm_call_m _) (fun _ => hno) (fun q => absurd rfl q))
      rw [← t2] at this
      exact this
  refine en_X12_callType (bk_X12_callType_0 (mm_call_m _) vn vn vn (fun z w => ?_) (fun z w => ?_) (fun z => ?_)) <;> rw [en] at z ⊢ <;> rw [eg]
  · rw [en] at w
    exact hgo 2 (fun _ => z) (fun _ => w) ⟨fun _ => by decide, fun _ => by decide⟩
  · rw [en] at w
    exact hgo 1 (fun _ => z) (fun q => absurd q (by rw [mm_tt1]; omega)) ⟨fun _ => by decide, fun q => absurd w q⟩
  · exact hgo 0 (fun q => absurd q (by rw [mm_tt0]; omega)) (fun q => absurd q (by rw [mm_tt0]; omega)) ⟨fun q => absurd z q, fun q => absurd (c5 z) q⟩
end MMT
