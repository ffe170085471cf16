/-! ===== the model's program: what holds of it; small methods over it ===== -/
def f_parts (k : Int32) : Int32 := if k < 3 then 0 else if k = 9 then 0 else if k = 5 then 3 else if k = 3 ∨ k = 4 ∨ k = 6 ∨ k = 10 then 2 else 1
/-- a part of node n: ahead of it, and less deep -/
def pa (m : mm_P) (n : Nat) (v : Int32) : Prop := ∃ p : Nat, p < n ∧ v = nI p ∧ (m 193 p).toInt < (m 193 n).toInt
def tyN (NB : Nat) (v : Int32) : Prop := ∃ t : Nat, t < NB ∧ v = nI t
def okN (NB : Nat) (m : mm_P) (n : Nat) : Prop := (0 ≤ (m 188 n).toInt ∧ (m 188 n).toInt ≤ 14) ∧ (1 ≤ (m 193 n).toInt ∧ (m 193 n).toInt ≤ 12) ∧ (¬ m 188 n = 14 → (1 ≤ (f_parts (m 188 n)).toInt → pa m n (m 189 n)) ∧ (2 ≤ (f_parts (m 188 n)).toInt → pa m n (m 190 n)) ∧ (3 ≤ (f_parts (m 188 n)).toInt → pa m n (m 191 n))) ∧ (m 188 n = 9 → tyN NB (m 189 n)) ∧ (m 188 n = 14 → (0 ≤ (m 189 n).toInt ∧ (m 189 n).toInt < 12) ∧ pa m n (m 190 n) ∧ (m 191 n = -1 ∨ tyN NB (m 191 n)) ∧ (m 192 n = -1 ∨ tyN NB (m 192 n)) ∧ (m 191 n = -1 → m 192 n = -1))
def wthn (m : mm_P) (t : Nat) (l : Int32) : Prop := (m 181 t = 0 ∨ 0 < l.toInt) ∧ (m 182 t = 0 ∨ 1 < l.toInt)
def okF (NB ND : Nat) (m : mm_P) (f : Nat) : Prop := (0 ≤ (m 194 f).toInt ∧ (m 194 f).toInt ≤ 2) ∧ (∃ t, t < NB ∧ m 195 f = nI t ∧ wthn m t (m 194 f)) ∧ (∃ t, t < NB ∧ m 196 f = nI t ∧ wthn m t (m 194 f)) ∧ (m 197 f = -1 ∨ ∃ n, n < ND ∧ m 197 f = nI n)
/-- the program of the model: NB numbered types, ND nodes, NF functions -/
def IM (m : mm_P) (NB ND NF : Nat) : Prop := ((4 ≤ NB ∧ NB ≤ 200) ∧ ND ≤ 200 ∧ NF ≤ 12) ∧ (m 176 0 = nI NB ∧ m 176 13 = nI ND ∧ m 176 20 = nI NF) ∧ (∀ t, t < NB → wT NB 200 m t) ∧ DN NB m ∧ (∀ n, n < ND → okN NB m n) ∧ (∀ f, f < NF → okF NB ND m f) ∧ (m 177 0 = 0 ∧ m 177 1 = 1 ∧ m 177 2 = 2 ∧ m 177 3 = 3)
/-- places of the program (and what lasts beside it) -/
def pg (c i : Nat) : Bool := match Nat.beq c 176 with
  | true => !([1, 31, 36, 42, 43, 62, 64, 66].contains i)
  | false => match Nat.ble 177 c, Nat.ble c 183 with
    | true, true => Nat.blt i 200
    | _, _ => match Nat.ble 188 c, Nat.ble c 197 with
      | true, true => true
      | _, _ => Nat.blt c 176 || Nat.beq c 211 || Nat.beq c 214
def PR (m n : mm_P) : Prop := ∀ c i, pg c i = true → n c i = m c i
theorem PR_r {m : mm_P} : PR m m := fun _ _ _ => rfl
theorem PR_t {m n p : mm_P} (h1 : PR m n) (h2 : PR n p) : PR m p := fun c i h => (h2 c i h).trans (h1 c i h)
theorem PR_u {m n : mm_P} {c i : Nat} {x : Int32} (h : PR m n) (hc : pg c i = false) : PR m (mm_u n c i x) := fun a b q => by
  unfold mm_u
  split
  · rename_i q1
    split
    · rename_i q2
      rw [q1, q2, hc] at q
      cases q
    · exact h a b q
  · exact h a b q
theorem pg_row {c i : Nat} (h1 : 177 ≤ c) (h2 : c ≤ 183) (h3 : i < 200) : pg c i = true := by
  unfold pg
  have : Nat.beq c 176 = false := by
    cases hb : Nat.beq c 176 with
    | false => rfl
    | true => exact absurd (Nat.eq_of_beq_eq_true hb) (by omega)
  rw [this, Nat.ble_eq_true_of_le h1, Nat.ble_eq_true_of_le h2]
  exact Nat.ble_eq_true_of_le h3
theorem pg_nod {c i : Nat} (h1 : 188 ≤ c) (h2 : c ≤ 197) : pg c i = true := by
  have h : ∀ c, c < 198 → 188 ≤ c → pg c i = true := by
    intro c hc hl
    rcases (show c = 188 ∨ c = 189 ∨ c = 190 ∨ c = 191 ∨ c = 192 ∨ c = 193 ∨ c = 194 ∨ c = 195 ∨ c = 196 ∨ c = 197 by omega) with rfl | rfl | rfl | rfl | rfl | rfl | rfl | rfl | rfl | rfl <;> rfl
  exact h c (by omega) h1
theorem pa_c {m n : mm_P} {k : Nat} {v : Int32} (h : pa m k v) (hr : ∀ i, n 193 i = m 193 i) : pa n k v := by
  obtain ⟨p, h1, h2, h3⟩ := h
  exact ⟨p, h1, h2, by rw [hr, hr]; exact h3⟩
theorem IM_c {m n : mm_P} {NB ND NF : Nat} (h : IM m NB ND NF) (hp : PR m n) : IM n NB ND NF := by
  obtain ⟨a1, ⟨a2, a3, a4⟩, a5, a6, a7, a8, a9, a10, a11, a12⟩ := h
  have hrow : ∀ t, t < NB → ∀ c, 177 ≤ c → c ≤ 183 → n c t = m c t := fun t ht c h1 h2 => hp c t (pg_row h1 h2 (by omega))
  have hn : ∀ c i, 188 ≤ c → c ≤ 197 → n c i = m c i := fun c i h1 h2 => hp c i (pg_nod h1 h2)
  refine ⟨a1, ⟨(hp 176 0 rfl).trans a2, (hp 176 13 rfl).trans a3, (hp 176 20 rfl).trans a4⟩, fun t ht => ?_, DN_c a6 hrow, fun k hk => ?_, fun f hf => ?_, ?_⟩
  · rcases a5 t ht with q | ⟨a, q1, q2, q3⟩ | ⟨a, b, q1, q2, q3, q4, q5⟩
    · exact .inl (bs_c q (hrow t ht))
    · exact .inr (.inl ⟨a, q1, q2, en5_c q3 (hrow t ht) (hrow a (by omega))⟩)
    · exact .inr (.inr ⟨a, b, q1, q2, q3, q4, en4_c q5 (hrow t ht) (hrow a (by omega)) (hrow b (by omega))⟩)
  · obtain ⟨b1, b2, b3, b4, b5⟩ := a7 k hk
    have h193 : ∀ i, n 193 i = m 193 i := fun i => hn 193 i (by decide) (by decide)
    unfold okN
    rw [hn 188 k (by decide) (by decide), hn 189 k (by decide) (by decide), hn 190 k (by decide) (by decide), hn 191 k (by decide) (by decide), hn 192 k (by decide) (by decide), h193]
    exact ⟨b1, b2, fun z => ⟨fun y => pa_c ((b3 z).1 y) h193, fun y => pa_c ((b3 z).2.1 y) h193, fun y => pa_c ((b3 z).2.2 y) h193⟩, b4, fun z => ⟨(b5 z).1, pa_c (b5 z).2.1 h193, (b5 z).2.2⟩⟩
  · obtain ⟨b1, ⟨t, b2, b3, b4⟩, ⟨u, b5, b6, b7⟩, b8⟩ := a8 f hf
    unfold okF wthn
    rw [hn 194 f (by decide) (by decide), hn 195 f (by decide) (by decide), hn 196 f (by decide) (by decide), hn 197 f (by decide) (by decide)]
    refine ⟨b1, ⟨t, b2, b3, ?_⟩, ⟨u, b5, b6, ?_⟩, b8⟩
    · rw [hrow t b2 181 (by decide) (by decide), hrow t b2 182 (by decide) (by decide)]
      exact b4
    · rw [hrow u b5 181 (by decide) (by decide), hrow u b5 182 (by decide) (by decide)]
      exact b7
  · rw [hrow 0 (by omega) 177 (by decide) (by decide), hrow 1 (by omega) 177 (by decide) (by decide), hrow 2 (by omega) 177 (by decide) (by decide), hrow 3 (by omega) 177 (by decide) (by decide)]
    exact ⟨a9, a10, a11, a12⟩
theorem PR_mkp {TY : Nat} {m n : mm_P} (h : MKP TY m n) (hT : 200 ≤ TY) : PR m n := fun c i q => by
  refine h c i (fun z => ?_) (fun z => ?_) (fun z => ?_)
  · unfold pg at q
    have : Nat.beq c 176 = false := by
      cases hb : Nat.beq c 176 with
      | false => rfl
      | true => exact absurd (Nat.eq_of_beq_eq_true hb) (by omega)
    rw [this, Nat.ble_eq_true_of_le z.1, Nat.ble_eq_true_of_le z.2.1] at q
    have := Nat.le_of_ble_eq_true q
    omega
  · have e : ∀ c, c = 184 ∨ c = 185 ∨ c = 186 ∨ c = 187 → pg c i = false := by
      rintro c (rfl | rfl | rfl | rfl) <;> rfl
    rw [e c (by omega)] at q
    cases q
  · obtain ⟨rfl, rfl⟩ := z
    exact absurd q (by decide)
section MMT
variable {L : Nat} {xs : Nat → Int32} {d : Nat} {Q : mm_QQ} {mi : mm_P} {ml : mm_G} {lim : Nat × Nat}
theorem sp_put {x NB TY : Nat} {fa fb : Int32} (hT : TS mi NB TY) (hD : DN NB mi) (hx : x < NB) (hfa : ¬ mi 181 x = 0 → ∃ r, vd NB TY r ∧ fa = nI r) (hfb : ¬ mi 182 x = 0 → ∃ r, vd NB TY r ∧ fb = nI r) (hb : TY ≤ 7985) (hQ : ∀ n r TZ, TS n NB TZ → TY ≤ TZ → TZ ≤ TY + 15 → vd NB TZ r → (vd NB TY r → TZ = TY) → MKP TY mi n → SB NB TZ n fa fb 4 x r → Q (some (mm_I (nI r))) n ml) : mm_cq (mm_call mm_ms (mm_tb L xs) (d + 5)) 181 [mm_R 176, mm_I (nI x), mm_I fa, mm_I fb] mi ml Q := by
  have v0 : vp_in 0 64 := vp_in_nI (n := 0) (by decide) (by decide)
  have e0 : ((0 : Int32).toNatClampNeg) = 0 := rfl
  refine en_X12_put (bk_X12_put_0 (mm_call_m _) v0 v0 ?_)
  rw [mm_nb0, e0]
  have h16 : 2 ^ 4 = 16 := rfl
  refine put_run 4 (x := x) (p := 0) (q := 0) (TY := TY) (TS_c hT (by rw [mm_u_e (by decide), mm_u_e (by decide)]) (by rw [mm_u_e (by decide), mm_u_e (by decide)]) (fun c i _ _ => by rw [mm_u_e (by omega), mm_u_e (by omega)])) (DN_c hD (fun t _ c _ _ => by rw [mm_u_e (by omega), mm_u_e (by omega)])) hx (by rw [mm_u_e (by decide), mm_u_e (by decide)]; exact (hD x hx).1.2) (fun z => hfa (by rw [mm_u_e (by decide), mm_u_e (by decide)] at z; exact z)) (fun z => hfb (by rw [mm_u_e (by decide), mm_u_e (by decide)] at z; exact z)) (by omega) (by omega) (by omega) (by rw [mm_u_e (by decide), mm_u_s]) mm_u_s (fun w' r TZ x6' po => ?_)
  obtain ⟨po1, ⟨po2, po3⟩, po4, po5, po6, po7, po8, po9, po10⟩ := po
  have hz : ¬ ¬ (nI 0 ≤ (0 : Int32)) := fun z => z (by decide)
  refine bk_X12_put_20 (mm_call_m _) (fun _ => v0) (fun _ => ?_) (fun z => absurd z hz) (fun z => absurd z hz) (fun z => absurd z hz) (fun z => absurd z hz) (fun z => absurd z hz) (fun z => absurd z hz) (fun z => absurd z hz) (fun z => absurd z hz) (fun z => absurd z hz) (fun z => absurd z hz) (fun z => absurd z hz) (fun z => absurd z hz) (fun z => absurd z hz) (fun z => absurd z hz) (fun z => absurd z hz) (fun z => absurd z hz) (fun z => absurd z hz) (fun z => absurd z hz) (fun z => absurd z hz) (fun z => absurd z hz) (fun z => absurd z hz) (fun z => absurd z hz) (fun z => absurd z hz) (fun z => absurd z hz) (fun z => absurd z hz) (fun z => absurd z hz)
  rw [e0, po9]
  exact hQ w' r TZ po1 po2 (by omega) po4 po5 (MKP_t (MKP_u (MKP_u MKP_r (by decide) (by decide)) (by decide) (by decide)) (Nat.le_refl _) po6) po10
theorem sp_X12_partsOf {k : Int32} (h : Q (some (mm_I (f_parts k))) mi ml) : mm_cq (mm_call mm_ms (mm_tb L xs) (d + 1)) 185 [mm_I k] mi ml Q := by
  unfold f_parts at h
  refine en_X12_partsOf (bk_X12_partsOf_0 (mm_call_m _) (fun z => bk_X12_partsOf_11 (mm_call_m _) ?_) (fun z1 z2 z3 z4 => bk_X12_partsOf_46 (mm_call_m _) ?_) (fun z1 z2 z3 z4 z5 => bk_X12_partsOf_46 (mm_call_m _) ?_) (fun z1 z2 z3 z4 z5 z6 => bk_X12_partsOf_46 (mm_call_m _) ?_) (fun z1 z2 z3 z4 z5 z6 z7 => ?_) (fun z1 z2 z3 z4 z5 z6 z7 => bk_X12_partsOf_46 (mm_call_m _) ?_) (fun z1 z2 z3 => ?_) (fun z1 z2 => bk_X12_partsOf_11 (mm_call_m _) ?_))
  · rw [if_pos z] at h; exact h
  · rw [if_neg z1, if_neg z2, if_neg z3, if_pos (.inl z4)] at h; exact h
  · rw [if_neg z1, if_neg z2, if_neg z3, if_pos (.inr (.inl z5))] at h; exact h
  · rw [if_neg z1, if_neg z2, if_neg z3, if_pos (.inr (.inr (.inl z6)))] at h; exact h
  · rw [if_neg z1, if_neg z2, if_neg z3, if_neg (fun q => by rcases q with q | q | q | q; exact z4 q; exact z5 q; exact z6 q; exact z7 q)] at h; exact h
  · rw [if_neg z1, if_neg z2, if_neg z3, if_pos (.inr (.inr (.inr z7)))] at h; exact h
  · rw [if_neg z1, if_neg z2, if_pos z3] at h; exact h
  · rw [if_neg z1, if_pos z2] at h; exact h
/-- part i of a node, as it stands in the rows -/
def f_part (m : mm_P) (n : Nat) (i : Int32) : Int32 := if m 188 n = 14 then m 190 n else if i = 0 then m 189 n else if i = 1 then m 190 n else m 191 n
theorem sp_X12_partOf {n : Nat} {i : Int32} (hn : n < 200) (h : Q (some (mm_I (f_part mi n i))) mi ml) : mm_cq (mm_call mm_ms (mm_tb L xs) (d + 1)) 186 [mm_R 176, mm_I (nI n), mm_I i] mi ml Q := by
  have hv : vp_in (nI n) 200 := vp_in_nI hn (by decide)
  have hc : (nI n).toNatClampNeg = n := nI_clamp (by omega)
  unfold f_part at h
  refine en_X12_partOf (bk_X12_partOf_0 (mm_call_m _) hv (fun _ _ _ => hv) (fun z1 z2 z3 => ?_) (fun _ _ _ => hv) (fun z1 z2 z3 => ?_) (fun _ _ => hv) (fun z1 z2 => ?_) (fun _ => hv) (fun z1 => ?_)) <;> rw [hc] at z1 ⊢
  · rw [if_neg z1, if_neg z2, if_neg z3] at h; exact h
  · rw [if_neg z1, if_neg z2, if_pos z3] at h; exact h
  · rw [if_neg z1, if_pos z2] at h; exact h
  · rw [if_pos z1] at h; exact h
/-- the parts that a node has stand ahead of it -/
theorem f_part_r {NB n : Nat} {m : mm_P} {i : Int32} (h : okN NB m n) (h0 : 0 ≤ i.toInt) (h1 : i.toInt < (f_parts (m 188 n)).toInt) : pa m n (f_part m n i) := by
  obtain ⟨b1, b2, b3, b4, b5⟩ := h
  unfold f_part
  by_cases hk : m 188 n = 14
  · rw [if_pos hk]
    exact (b5 hk).2.1
  · rw [if_neg hk]
    by_cases hi0 : i = 0
    · rw [if_pos hi0]
      exact (b3 hk).1 (by omega)
    · rw [if_neg hi0]
      have g0 : ¬ i.toInt = 0 := fun q => hi0 (Int32.toInt_inj.mp q)
      by_cases hi1 : i = 1
      · rw [if_pos hi1]
        exact (b3 hk).2.1 (by omega)
      · rw [if_neg hi1]
        have g1 : ¬ i.toInt = 1 := fun q => hi1 (Int32.toInt_inj.mp q)
        exact (b3 hk).2.2 (by omega)
theorem sp_X12_isWithin {t : Nat} {l : Int32} (ht : t < 8000) (h1 : wthn mi t l → Q (some (mm_I 1)) mi ml) (h0 : ¬ wthn mi t l → Q (some (mm_I 0)) mi ml) : mm_cq (mm_call mm_ms (mm_tb L xs) (d + 1)) 180 [mm_R 176, mm_I (nI t), mm_I l] mi ml Q := by
  have hv : vp_in (nI t) 8000 := vp_in_nI ht (by decide)
  have hc : (nI t).toNatClampNeg = t := nI_clamp (by omega)
  have h13 : (mi 181 t = 0 ∨ 0 < l.toInt) → mm_WQ (mm_call mm_ms (mm_tb L xs) d) (mm_tb L xs) mm_m180 (mm_li mm_m180) Q 13 [some (mm_R 176), some (mm_I (nI t)), some (mm_I l)] [] mi ml := fun hA => by
    refine bk_X12_isWithin_13 (mm_call_m _) hv (fun z => bk_X12_isWithin_27 (mm_call_m _) (h1 ⟨hA, .inl ?_⟩)) (fun z w => bk_X12_isWithin_31 (mm_call_m _) (h0 (fun q => ?_))) (fun z w => bk_X12_isWithin_27 (mm_call_m _) (h1 ⟨hA, .inr ?_⟩)) <;> rw [hc] at z
    · exact z
    · rw [Int32.le_iff_toInt_le, mm_tt1] at w
      rcases q.2 with q | q
      · exact z q
      · omega
    · rw [Int32.le_iff_toInt_le, mm_tt1] at w
      omega
  refine en_X12_isWithin (bk_X12_isWithin_0 (mm_call_m _) hv (fun z => h13 (.inl ?_)) (fun z w => bk_X12_isWithin_31 (mm_call_m _) (h0 (fun q => ?_))) (fun z w => h13 (.inr ?_))) <;> rw [hc] at z
  · exact z
  · rw [Int32.le_iff_toInt_le, mm_tt0] at w
    rcases q.1 with q | q
    · exact z q
    · omega
  · rw [Int32.le_iff_toInt_le, mm_tt0] at w
    omega
end MMT
