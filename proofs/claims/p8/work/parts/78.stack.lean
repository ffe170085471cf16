/-! ===== a run of the model: its stack; calls(), begins(), goesOn(), both() ===== -/
/-- the argument of the function that is worked -/
def AR (NB : Nat) (m : mm_P) (f : Nat) (SA SB : ST) (w : mm_P) (h op : Nat) : Prop := ∃ x, x < NB ∧ m 195 f = nI x ∧ SVt m SA SB x (w 212) (w 213) h (w 225 (op - 1))
/-- entries 0 .. k - 1 wait for a value of S in the function f; v values and op functions lie below -/
def WA (NB ND NF : Nat) (m w : mm_P) (h : Nat) : Nat → Nat → Nat → Nat → mm_P → ST → ST → ST → Prop
  | 0 => fun v op _ _ _ _ S => v = 0 ∧ op = 1 ∧ ∃ y, y < NB ∧ m 196 0 = nI y ∧ S = SVt m sAny sAny y
  | k + 1 => fun v op f wf SA SB S => ∃ n, n < ND ∧ w 222 k = nI n ∧ ((IB ND m f n ∧ (k : Int) + (m 193 n).toInt ≤ 12 * op ∧ ((w 223 k = 1 ∧ 1 ≤ (f_parts (m 188 n)).toInt ∧ S = NW wf SA SB (f_part m n 0) ∧ WA NB ND NF m w h k v op f wf SA SB (NW wf SA SB (nI n))) ∨ (w 223 k = 2 ∧ f_parts (m 188 n) = 2 ∧ S = NW wf SA SB (m 190 n) ∧ ∃ v', v = v' + 1 ∧ NW wf SA SB (m 189 n) (w 212) (w 213) h (w 224 v') ∧ WA NB ND NF m w h k v' op f wf SA SB (NW wf SA SB (nI n))) ∨ (w 223 k = 3 ∧ S = NW wf SA SB (nI n) ∧ WA NB ND NF m w h k v op f wf SA SB S))) ∨ (w 223 k = 4 ∧ ∃ op' f' wf' TY' SA' SB', op = op' + 1 ∧ 1 ≤ op' ∧ AC NB ND NF m f' wf' TY' ∧ (mST SA' ∧ mST SB') ∧ AR NB m f' SA' SB' w h op' ∧ IB ND m f' n ∧ (k : Int) + (m 193 n).toInt ≤ 12 * op' ∧ S = NW wf' SA' SB' (nI n) ∧ WA NB ND NF m w h k v op' f' wf' SA' SB' S))
def BS (NB ND NF : Nat) (m w : mm_P) (h s op f : Nat) (wf : mm_P) (TY : Nat) (SA SB : ST) : Prop := RF m w ∧ w 176 43 = nI h ∧ (w 176 48 = nI s ∧ s ≤ 600) ∧ (w 176 66 = nI op ∧ 1 ≤ op ∧ op ≤ 30) ∧ AC NB ND NF m f wf TY ∧ (mST SA ∧ mST SB) ∧ AR NB m f SA SB w h op ∧ w 176 51 = 0
/-- node n begins, on top of k entries -/
def EV (NB ND NF : Nat) (m w : mm_P) (k v h s op f : Nat) (wf : mm_P) (TY : Nat) (SA SB : ST) (n : Nat) : Prop := BS NB ND NF m w h s op f wf TY SA SB ∧ (w 176 62 = nI (k + 1) ∧ w 176 64 = nI v) ∧ (w 222 k = nI n ∧ w 223 k = 0) ∧ (n < ND ∧ IB ND m f n ∧ (k : Int) + (m 193 n).toInt ≤ 12 * op) ∧ h + k ≤ 1400 + s ∧ WA NB ND NF m w h k v op f wf SA SB (NW wf SA SB (nI n))
/-- a value came, k entries wait -/
def RE (NB ND NF : Nat) (m w : mm_P) (k v h s op f : Nat) (wf : mm_P) (TY : Nat) (SA SB : ST) (S : ST) : Prop := BS NB ND NF m w h s op f wf TY SA SB ∧ (w 176 62 = nI k ∧ w 176 64 = nI (v + 1)) ∧ S (w 212) (w 213) h (w 224 v) ∧ h + k ≤ 1400 + s ∧ WA NB ND NF m w h k v op f wf SA SB S
/-- only what lies above is another -/
def AG (k v h o : Nat) (w w' : mm_P) : Prop := ∀ c i, ¬ (c = 222 ∧ k ≤ i) → ¬ (c = 223 ∧ k ≤ i) → ¬ (c = 224 ∧ v ≤ i) → ¬ (c = 225 ∧ o ≤ i) → ¬ (c = 212 ∧ h ≤ i) → ¬ (c = 213 ∧ h ≤ i) → ¬ (c = 176 ∧ 42 ≤ i ∧ ¬ i = 51) → w' c i = w c i
theorem AG_RF {k v h o : Nat} {m w w' : mm_P} (a : AG k v h o w w') (q : RF m w) : RF m w' := ⟨fun c i x y => (a c i (by omega) (by omega) (by omega) (by omega) (by omega) (by omega) (by omega)).trans (q.1 c i x y), fun i x => (a 176 i (by omega) (by omega) (by omega) (by omega) (by omega) (by omega) (by omega)).trans (q.2 i x)⟩
theorem AG_HX {k v h o : Nat} {w w' : mm_P} (a : AG k v h o w w') : HX h w w' := fun i q => ⟨a 212 i (by omega) (by omega) (by omega) (by omega) (by omega) (by omega) (by omega), a 213 i (by omega) (by omega) (by omega) (by omega) (by omega) (by omega) (by omega)⟩
theorem AG_AR {NB k v h h' o op f : Nat} {m w w' : mm_P} {SA SB : ST} (a : AG k v h o w w') (hl : h ≤ h') (hop : 1 ≤ op) (ho : op ≤ o) (hm : mST SA ∧ mST SB) (q : AR NB m f SA SB w h op) : AR NB m f SA SB w' h' op := by
  obtain ⟨x, x1, x2, x3⟩ := q
  refine ⟨x, x1, x2, ?_⟩
  rw [a 225 (op - 1) (by omega) (by omega) (by omega) (by omega) (by omega) (by omega) (by omega)]
  exact HX_s (SVt_m hm.1 hm.2 x) hl (AG_HX a) x3
theorem AG_BS {NB ND NF k v h h' o s s' op f TY : Nat} {m w w' wf : mm_P} {SA SB : ST} (a : AG k v h o w w') (hl : h ≤ h') (ho : op ≤ o) (h43 : w' 176 43 = nI h') (h48 : w' 176 48 = nI s') (hs : s' ≤ 600) (h66 : w' 176 66 = nI op) (q : BS NB ND NF m w h s op f wf TY SA SB) : BS NB ND NF m w' h' s' op f wf TY SA SB := by
  obtain ⟨q1, q2, q3, q4, q5, q6, q7, q8⟩ := q
  exact ⟨AG_RF a q1, h43, ⟨h48, hs⟩, ⟨h66, q4.2⟩, q5, q6, AG_AR a hl q4.2.1 ho q6 q7, (a 176 51 (by omega) (by omega) (by omega) (by omega) (by omega) (by omega) (by omega)).trans q8⟩
theorem AG_WA {NB ND NF h h' o K V : Nat} {m w w' : mm_P} (a : AG K V h o w w') (hl : h ≤ h') : ∀ (k : Nat) {v op f : Nat} {wf : mm_P} {SA SB S : ST}, k ≤ K → v ≤ V → op ≤ o + 1 → mST SA ∧ mST SB → WA NB ND NF m w h k v op f wf SA SB S → WA NB ND NF m w' h' k v op f wf SA SB S
  | 0, v, op, f, wf, SA, SB, S, _, _, _, _, q => q
  | k + 1, v, op, f, wf, SA, SB, S, hk, hv, ho, hm, q => by
    unfold WA at q ⊢
    obtain ⟨n, n1, n2, q⟩ := q
    have e222 : w' 222 k = w 222 k := a 222 k (by omega) (by omega) (by omega) (by omega) (by omega) (by omega) (by omega)
    have e223 : w' 223 k = w 223 k := a 223 k (by omega) (by omega) (by omega) (by omega) (by omega) (by omega) (by omega)
    refine ⟨n, n1, e222.trans n2, ?_⟩
    rw [e223]
    rcases q with ⟨i1, i2, q⟩ | ⟨i1, op', f', wf', TY', SA', SB', i2, i3, i4, i5, i6, i7, i8, i9, i10⟩
    · refine .inl ⟨i1, i2, ?_⟩
      rcases q with ⟨j1, j2, j3, j4⟩ | ⟨j1, j2, j3, v', j4, j5, j6⟩ | ⟨j1, j2, j3⟩
      · exact .inl ⟨j1, j2, j3, AG_WA a hl k (by omega) hv ho hm j4⟩
      · refine .inr (.inl ⟨j1, j2, j3, v', j4, ?_, AG_WA a hl k (by omega) (by omega) ho hm j6⟩)
        rw [a 224 v' (by omega) (by omega) (by omega) (by omega) (by omega) (by omega) (by omega)]
        exact HX_s (NW_m hm.1 hm.2 _) hl (AG_HX a) j5
      · exact .inr (.inr ⟨j1, j2, AG_WA a hl k (by omega) hv ho hm j3⟩)
    · exact .inr ⟨i1, op', f', wf', TY', SA', SB', i2, i3, i4, i5, AG_AR a hl i3 (by omega) i5 i6, i7, i8, i9, AG_WA a hl k (by omega) hv (by omega) i5 i10⟩
theorem WA_v {NB ND NF h : Nat} {m w : mm_P} : ∀ (k : Nat) {v op f : Nat} {wf : mm_P} {SA SB S : ST}, WA NB ND NF m w h k v op f wf SA SB S → v ≤ k
  | 0, v, op, f, wf, SA, SB, S, q => by
    unfold WA at q
    omega
  | k + 1, v, op, f, wf, SA, SB, S, q => by
    unfold WA at q
    obtain ⟨n, n1, n2, q⟩ := q
    rcases q with ⟨i1, i2, q⟩ | ⟨i1, op', f', wf', TY', SA', SB', i2, i3, i4, i5, i6, i7, i8, i9, i10⟩
    · rcases q with ⟨j1, j2, j3, j4⟩ | ⟨j1, j2, j3, v', j4, j5, j6⟩ | ⟨j1, j2, j3⟩
      · have := WA_v k j4
        omega
      · have := WA_v k j6
        omega
      · have := WA_v k j3
        omega
    · have := WA_v k i10
      omega
theorem IB_part {ND f n : Nat} {m : mm_P} {i : Int32} (h : IB ND m f n) (hn : n < ND) (h0 : 0 ≤ i.toInt) (h1 : i.toInt < (f_parts (m 188 n)).toInt) : IB ND m f (f_part m n i).toNatClampNeg := fun P h2 h3 => h3 n hn (h P h2 h3) i h0 h1
theorem kd14 {kd : Int32} (h0 : 0 ≤ kd.toInt ∧ kd.toInt ≤ 14) (hp : 1 ≤ (f_parts kd).toInt) (h2 : ¬ f_parts kd = 2) (h5 : ¬ kd = 5) (h7 : ¬ kd = 7) (h8 : ¬ kd = 8) (h11 : ¬ kd = 11) (h12 : ¬ kd = 12) (h13 : ¬ kd = 13) : kd = 14 := by
  obtain ⟨q, rfl, q2, -, -⟩ := mm_of (n := 15) h0.1 (by omega)
  rcases (show q = 0 ∨ q = 1 ∨ q = 2 ∨ q = 3 ∨ q = 4 ∨ q = 5 ∨ q = 6 ∨ q = 7 ∨ q = 8 ∨ q = 9 ∨ q = 10 ∨ q = 11 ∨ q = 12 ∨ q = 13 ∨ q = 14 by omega) with rfl | rfl | rfl | rfl | rfl | rfl | rfl | rfl | rfl | rfl | rfl | rfl | rfl | rfl | rfl
  all_goals first
    | rfl
    | exact absurd rfl h5
    | exact absurd rfl h7
    | exact absurd rfl h8
    | exact absurd rfl h11
    | exact absurd rfl h12
    | exact absurd rfl h13
    | exact absurd hp (by decide)
    | exact absurd (by decide) h2
section MMT
variable {L : Nat} {xs : Nat → Int32} {d : Nat} {Q : mm_QQ} {ml : mm_G} {lim : Nat × Nat} {w : mm_P}
theorem sp_calls {op k g : Nat} {x : Int32} (h66 : w 176 66 = nI op) (hop : op ≤ 30) (h62 : w 176 62 = nI k) (hk : k < 400) (hg : g < 12) (h0 : op = 30 → Q (some (mm_I 0)) w ml) (h1 : op < 30 → ∀ y, Q (some (mm_I 1)) (Wb (mm_u (mm_u (mm_u w 225 op x) 176 66 (nI (op + 1))) 176 50 y) k (w 197 g)) ml) : mm_cq (mm_call mm_ms (mm_tb L xs) (d + 2)) 224 [mm_R 176, mm_I (nI g), mm_I x] w ml Q := by
  have hlt : ¬ w 176 66 = 30 → op < 30 := fun z => by
    rw [h66] at z
    by_cases q : op = 30
    · subst q
      exact absurd rfl z
    · omega
  have eo : (nI op).toNatClampNeg = op := nI_clamp (by omega)
  have es : nI op + 1 = nI (op + 1) := (nI_succ op).symm
  refine en_X12_calls (bk_X12_calls_0 (mm_call_m _) (fun z => ?_) (fun z => ?_) (fun z => h0 (nI_ij (by omega) (by decide) (h66.symm.trans (z.trans (show (30 : Int32) = nI 30 from rfl))))))
  · rw [h66]
    exact vp_in_nI (hlt z) (by decide)
  · have hl := hlt z
    rw [h66, eo, es]
    refine sp_most (bk_X12_calls_43 (mm_call_m _) (vp_in_nI hg (by decide)) ?_)
    rw [nI_clamp (by omega), mm_u_e (by decide), mm_u_e (by decide)]
    refine sp_begin (k := k) ?_ hk (bk_X12_calls_56 (mm_call_m _) (h1 hl _))
    rw [mm_u_f (by decide), mm_u_f (by decide), mm_u_e (by decide)]
    exact h62
theorem sp_begins {k v s op n : Nat} (h62 : w 176 62 = nI (k + 1)) (hk : k + 1 < 400) (h64 : w 176 64 = nI v) (hv : v < 800) (h48 : w 176 48 = nI s) (hs : s ≤ 600) (h66 : w 176 66 = nI op) (hop : 1 ≤ op ∧ op ≤ 30) (hn : n < 200) (hz : Q (some (mm_I 2)) w ml)
    (hL : s < 600 → ∀ x, ((w 188 n = 0 ∨ w 188 n = 1) ∨ (w 188 n = 2 ∧ x = w 225 (op - 1)) ∨ (w 188 n = 9 ∧ x = -1)) → Q (some (mm_I 0)) (Wg (mm_u w 176 48 (nI (s + 1))) v k x) ml)
    (hN : s < 600 → ¬ w 188 n = 0 → ¬ w 188 n = 1 → ¬ w 188 n = 2 → ¬ w 188 n = 9 → Q (some (mm_I 0)) (Wb (mm_u (mm_u w 176 48 (nI (s + 1))) 223 k 1) (k + 1) (f_part w n 0)) ml) :
    mm_cq (mm_call mm_ms (mm_tb L xs) (d + 2)) 225 [mm_R 176, mm_I (nI n)] w ml Q := by
  have hlt : ¬ w 176 48 = 600 → s < 600 := fun z => by
    rw [h48] at z
    by_cases q : s = 600
    · subst q
      exact absurd rfl z
    · omega
  have vn : vp_in (nI n) 200 := vp_in_nI hn (by decide)
  have en : (nI n).toNatClampNeg = n := nI_clamp (by omega)
  have e48 : w 176 48 + 1 = nI (s + 1) := by rw [h48]; exact (nI_succ s).symm
  have e62 : w 176 62 - 1 = nI k := by rw [h62, mm_dec' k (by omega)]
  have v62 : vp_in (w 176 62 - 1) 400 := by rw [e62]; exact vp_in_nI (by omega) (by decide)
  have e66 : w 176 66 - 1 = nI (op - 1) := by
    rw [h66, show op = (op - 1) + 1 by omega, mm_dec' (op - 1) (by omega)]
    rfl
  have v66 : vp_in (w 176 66 - 1) 30 := by rw [e66]; exact vp_in_nI (by omega) (by decide)
  have hg : ∀ (x : Int32) (Q' : mm_QQ), Q' none (Wg (mm_u w 176 48 (nI (s + 1))) v k x) ml → mm_cq (mm_call mm_ms (mm_tb L xs) (d + 1)) 222 [mm_R 176, mm_I x] (mm_u w 176 48 (w 176 48 + 1)) ml Q' := fun x Q' q => by
    rw [e48]
    exact sp_gives (by rw [mm_u_f (by decide)]; exact h64) hv (by rw [mm_u_f (by decide)]; exact h62) (by omega) q
  have hb : (s < 600) → ¬ w 188 n = 0 → ¬ w 188 n = 1 → ¬ w 188 n = 2 → ¬ w 188 n = 9 → mm_cq (mm_call mm_ms (mm_tb L xs) (d + 1)) 186 [mm_R 176, mm_I (nI n), mm_I 0] (mm_u (mm_u w 176 48 (w 176 48 + 1)) 223 ((w 176 62 - 1).toNatClampNeg) 1) ml (fun o n1 n2 => mm_WQ (mm_call mm_ms (mm_tb L xs) (d + 1)) (mm_tb L xs) mm_m225 (mm_li mm_m225) Q 142 [some (mm_R 176), some (mm_I (nI n))] (o.toList ++ [mm_R 176]) n1 n2) := fun z a b c e => by
    rw [e48, e62, nI_clamp (by omega)]
    refine sp_X12_partOf hn (bk_X12_begins_142 (mm_call_m _) (sp_begin (k := k + 1) ?_ (by omega) (bk_X12_begins_145 (mm_call_m _) ?_)))
    · rw [mm_u_e (by decide), mm_u_f (by decide)]
      exact h62
    · have ep : f_part (mm_u (mm_u w 176 48 (nI (s + 1))) 223 k 1) n 0 = f_part w n 0 := f_part_c (fun c i x y => by rw [mm_u_e (by omega), mm_u_e (by omega)])
      rw [ep]
      exact hN z a b c e
  refine en_X12_begins (bk_X12_begins_0 (mm_call_m _) (fun _ => vn) (fun _ _ => vn) (fun z a => ?_) (fun _ _ => vn) (fun z a => ?_) (fun _ _ => v66) (fun z a => ?_) (fun _ _ => v62) (fun z a => ?_) (fun _ _ => v62) (fun z a => ?_) (fun _ _ => v62) (fun z a => ?_) (fun _ _ => v62) (fun z a => ?_) (fun _ _ => v62) (fun z a => ?_) (fun _ _ => v62) (fun z a => ?_) (fun z a => ?_) (fun _ _ _ _ _ _ _ _ _ _ _ => v62) (fun z a0 a1 a2 _ _ _ _ _ _ a9 => ?_) (fun _ => hz))
  · rw [en] at a
    exact hg _ _ (bk_X12_begins_94 (mm_call_m _) (bk_X12_begins_145 (mm_call_m _) (hL (hlt z) _ (.inl (.inl a)))))
  · rw [en] at a
    exact hg _ _ (bk_X12_begins_94 (mm_call_m _) (bk_X12_begins_145 (mm_call_m _) (hL (hlt z) _ (.inl (.inr a)))))
  · rw [en] at a
    rw [e66, nI_clamp (by omega)]
    exact hg _ _ (bk_X12_begins_112 (mm_call_m _) (bk_X12_begins_145 (mm_call_m _) (hL (hlt z) _ (.inr (.inl ⟨a, rfl⟩)))))
  iterate 6
    · rw [en] at a
      exact hb (hlt z) (by rw [a]; decide) (by rw [a]; decide) (by rw [a]; decide) (by rw [a]; decide)
  · rw [en] at a
    exact hg _ _ (bk_X12_begins_120 (mm_call_m _) (bk_X12_begins_145 (mm_call_m _) (hL (hlt z) _ (.inr (.inr ⟨a, rfl⟩)))))
  · rw [en] at a0 a1 a2 a9
    exact hb (hlt z) a0 a1 a2 a9
theorem sp_goesOn {k v op n : Nat} (h62 : w 176 62 = nI (k + 1)) (hk : k + 1 < 400) (h64 : w 176 64 = nI (v + 1)) (hv : v < 800) (h66 : w 176 66 = nI op) (hop : op ≤ 30) (hn : n < 200) (h14k : 0 ≤ (w 188 n).toInt ∧ (w 188 n).toInt ≤ 14) (hpp : 1 ≤ (f_parts (w 188 n)).toInt)
    (h2 : f_parts (w 188 n) = 2 → Q (some (mm_I 0)) (Wb (mm_u w 223 k 2) (k + 1) (w 190 n)) ml)
    (h5 : w 188 n = 5 → ∀ x, (x = w 190 n ∨ x = w 191 n) → Q (some (mm_I 0)) (Wb (mm_u (mm_u w 176 64 (nI v)) 223 k 3) (k + 1) x) ml)
    (h7 : w 188 n = 7 → ∃ a, a < 6000 ∧ w 224 v = nI a ∧ Q (some (mm_I 0)) (Wg (mm_u w 176 64 (nI v)) v k (w 212 a)) ml)
    (h8 : w 188 n = 8 → ∃ a, a < 6000 ∧ w 224 v = nI a ∧ Q (some (mm_I 0)) (Wg (mm_u w 176 64 (nI v)) v k (w 213 a)) ml)
    (h11 : w 188 n = 11 → ∀ x, Q (some (mm_I 0)) (Wg (mm_u w 176 64 (nI v)) v k x) ml)
    (h12 : w 188 n = 12 → ¬ w 224 v = -1 → ∃ a, a < 6000 ∧ w 224 v = nI a ∧ Q (some (mm_I 0)) (Wg (mm_u w 176 64 (nI v)) v k (w 212 a)) ml)
    (h13 : w 188 n = 13 → ¬ w 224 v = -1 → ∃ a, a < 6000 ∧ w 224 v = nI a ∧ Q (some (mm_I 0)) (Wg (mm_u w 176 64 (nI v)) v k (w 213 a)) ml)
    (hE : Q (some (mm_I 1)) (mm_u w 176 64 (nI v)) ml)
    (h14 : w 188 n = 14 → ∃ g, g < 12 ∧ w 189 n = nI g ∧ (op < 30 → ∀ y, Q (some (mm_I 0)) (Wb (mm_u (mm_u (mm_u (mm_u (mm_u w 176 64 (nI v)) 223 k 4) 225 op (w 224 v)) 176 66 (nI (op + 1))) 176 50 y) (k + 1) (w 197 g)) ml) ∧ Q (some (mm_I 3)) (mm_u (mm_u w 176 64 (nI v)) 223 k 4) ml) :
    mm_cq (mm_call mm_ms (mm_tb L xs) (d + 3)) 226 [mm_R 176, mm_I (nI n)] w ml Q := by
  have vn : vp_in (nI n) 200 := vp_in_nI hn (by decide)
  have en : (nI n).toNatClampNeg = n := nI_clamp (by omega)
  have e62 : w 176 62 - 1 = nI k := by rw [h62, mm_dec' k (by omega)]
  have v62 : vp_in (w 176 62 - 1) 400 := by rw [e62]; exact vp_in_nI (by omega) (by decide)
  have ek : (nI k).toNatClampNeg = k := nI_clamp (by omega)
  refine en_X12_goesOn (bk_X12_goesOn_0 (mm_call_m _) vn ?_)
  rw [en]
  refine sp_X12_partsOf (bk_X12_goesOn_11 (mm_call_m _) (fun n2 => ?_) (fun _ => v62) (fun _ => vn) (fun e2 => ?_))
  · refine sp_takes h64 hv ?_
    have u62 : mm_u w 176 64 (nI v) 176 62 = nI (k + 1) := by rw [mm_u_f (by decide)]; exact h62
    have u64 : mm_u w 176 64 (nI v) 176 64 = nI v := mm_u_s
    have u62' : mm_u w 176 64 (nI v) 176 62 - 1 = nI k := by rw [u62, mm_dec' k (by omega)]
    have hu : ∀ c i, ¬ c = 176 → mm_u w 176 64 (nI v) c i = w c i := fun c i q => mm_u_e q
    have w62 : vp_in (mm_u w 176 64 (nI v) 176 62 - 1) 400 := by rw [u62']; exact vp_in_nI (by omega) (by decide)
    have hg : ∀ (x : Int32) (Q' : mm_QQ), Q' none (Wg (mm_u w 176 64 (nI v)) v k x) ml → mm_cq (mm_call mm_ms (mm_tb L xs) (d + 2)) 222 [mm_R 176, mm_I x] (mm_u w 176 64 (nI v)) ml Q' := fun x Q' q => sp_gives u64 hv u62 (by omega) q
    have hno : ∀ {P : Prop} {c : Int32}, w 188 n = c → f_parts c = 2 → P := fun e q => absurd (by rw [e]; exact q) n2
    have hno0 : ∀ {P : Prop} {c : Int32}, w 188 n = c → f_parts c = 0 → P := fun e q => by
      rw [e, q] at hpp
      exact absurd hpp (by decide)
    have h5' : ∀ x, w 188 n = 5 → (x = w 190 n ∨ x = w 191 n) → ∀ y3, mm_cq (mm_call mm_ms (mm_tb L xs) (d + 2)) 221 [mm_R 176, mm_I x] (mm_u (mm_u w 176 64 (nI v)) 223 ((mm_u w 176 64 (nI v) 176 62 - 1).toNatClampNeg) 3) ml (fun o n1 n2 => mm_WQ (mm_call mm_ms (mm_tb L xs) (d + 2)) (mm_tb L xs) mm_m226 (mm_li mm_m226) Q 132 [some (mm_R 176), some (mm_I (nI n)), some (mm_I (w 188 n)), some (mm_I y3)] (o.toList ++ []) n1 n2) := fun x a b y3 => by
      rw [u62', ek]
      exact sp_begin (k := k + 1) (by rw [mm_u_e (by decide)]; exact u62) (by omega) (bk_X12_goesOn_132 (mm_call_m _) (h5 a x b))
    have h14' : w 188 n = 14 → vp_in (mm_u w 176 64 (nI v) 176 62 - 1) 400 ∧ mm_cq (mm_call mm_ms (mm_tb L xs) (d + 2)) 224 [mm_R 176, mm_I (mm_u w 176 64 (nI v) 189 n), mm_I (w 224 v)] (mm_u (mm_u w 176 64 (nI v)) 223 ((mm_u w 176 64 (nI v) 176 62 - 1).toNatClampNeg) 4) ml (fun o n1 n2 => mm_WQ (mm_call mm_ms (mm_tb L xs) (d + 2)) (mm_tb L xs) mm_m226 (mm_li mm_m226) Q 231 [some (mm_R 176), some (mm_I (nI n)), some (mm_I (w 188 n)), some (mm_I (w 224 v))] (o.toList ++ []) n1 n2) := fun e => by
      obtain ⟨g, g1, g2, g3, g4⟩ := h14 e
      refine ⟨w62, ?_⟩
      rw [u62', ek, hu 189 n (by decide), g2]
      refine sp_calls (op := op) (k := k + 1) ?_ hop ?_ (by omega) g1 (fun _ => bk_X12_goesOn_231 (mm_call_m _) (fun _ => g4) (fun z => absurd rfl z)) (fun hl y => bk_X12_goesOn_231 (mm_call_m _) (fun z => absurd z (by decide)) (fun _ => ?_))
      · rw [mm_u_e (by decide), mm_u_f (by decide)]
        exact h66
      · rw [mm_u_e (by decide)]
        exact u62
      · rw [mm_u_e (by decide), hu 197 g (by decide)]
        exact g3 hl y
    refine bk_X12_goesOn_43 (mm_call_m _) (fun _ => w62) (fun _ _ => vn) (fun a z => ?_) (fun _ _ => vn) (fun a z => ?_) (fun _ => w62) (fun _ => vn) (fun a => hno a (by decide)) (fun a => ?_) (fun a => ?_) (fun a => ?_) (fun a => ?_) (fun _ => w62) (fun _ => vn) (fun a => hno0 a (by decide)) (fun _ => w62) (fun _ => vn) (fun a => hno a (by decide)) (fun a _ => hg _ _ (bk_X12_goesOn_172 (mm_call_m _) (h11 a _))) (fun a _ => hg _ _ (bk_X12_goesOn_172 (mm_call_m _) (h11 a _))) (fun a _ b => absurd a b) (fun a _ b => absurd a b) (fun a z _ => ?_) (fun a z _ => ?_) (fun _ _ => hE) (fun a z _ => ?_) (fun a z _ => ?_) (fun a _ b => absurd (a.symm.trans b) (by decide)) (fun a _ b => absurd (a.symm.trans b) (by decide)) (fun _ _ => hE) (fun _ _ _ _ _ _ _ _ _ => w62) (fun _ _ _ _ _ _ _ _ _ => vn) (fun a5 _ a7 a8 _ _ a11 a12 a13 => ?_)
    · rw [en, hu 191 n (by decide)]
      exact h5' _ a (.inr rfl) _
    · rw [en, hu 190 n (by decide)]
      exact h5' _ a (.inl rfl) _
    · obtain ⟨b, b1, b2, b3⟩ := h7 a
      rw [b2]
      exact vp_in_nI b1 (by decide)
    · obtain ⟨b, b1, b2, b3⟩ := h7 a
      rw [b2, nI_clamp (by omega), hu 212 b (by decide)]
      exact hg _ _ (bk_X12_goesOn_144 (mm_call_m _) b3)
    · obtain ⟨b, b1, b2, b3⟩ := h8 a
      rw [b2]
      exact vp_in_nI b1 (by decide)
    · obtain ⟨b, b1, b2, b3⟩ := h8 a
      rw [b2, nI_clamp (by omega), hu 213 b (by decide)]
      exact hg _ _ (bk_X12_goesOn_156 (mm_call_m _) b3)
    · obtain ⟨b, b1, b2, b3⟩ := h12 a z
      rw [b2]
      exact vp_in_nI b1 (by decide)
    · obtain ⟨b, b1, b2, b3⟩ := h12 a z
      rw [b2, nI_clamp (by omega), hu 212 b (by decide)]
      exact hg _ _ (bk_X12_goesOn_206 (mm_call_m _) b3)
    · obtain ⟨b, b1, b2, b3⟩ := h13 a z
      rw [b2]
      exact vp_in_nI b1 (by decide)
    · obtain ⟨b, b1, b2, b3⟩ := h13 a z
      rw [b2, nI_clamp (by omega), hu 213 b (by decide)]
      exact hg _ _ (bk_X12_goesOn_206 (mm_call_m _) b3)
    · rw [en]
      exact (h14' (kd14 h14k hpp n2 a5 a7 a8 a11 a12 a13)).2
  · rw [e62, ek, en]
    exact sp_begin (k := k + 1) (by rw [mm_u_e (by decide)]; exact h62) (by omega) (bk_X12_goesOn_37 (mm_call_m _) (h2 e2))
theorem sp_both {k v h n : Nat} (h62 : w 176 62 = nI (k + 1)) (hk : k + 1 < 400) (h64 : w 176 64 = nI (v + 2)) (hv : v + 1 < 800) (h43 : w 176 43 = nI h) (hh : h < 6000) (hn : n < 200)
    (hA : (w 188 n = 3 ∨ w 188 n = 4) → ∀ x, Q (some (mm_I 0)) (Wg (mm_u (mm_u w 176 64 (nI (v + 1))) 176 64 (nI v)) v k x) ml)
    (hC : ¬ w 188 n = 3 → ¬ w 188 n = 4 → ∀ w3, (w3 = mm_u (mm_u w 176 64 (nI (v + 1))) 176 64 (nI v) ∨ ∃ y, w3 = mm_u (mm_u (mm_u w 176 64 (nI (v + 1))) 176 64 (nI v)) 176 49 y) → Q (some (mm_I 0)) (Wg (Wc w3 h (w 224 v) (w 224 (v + 1))) v k (nI h)) ml)
    (h4 : Q (some (mm_I 4)) (mm_u (mm_u w 176 64 (nI (v + 1))) 176 64 (nI v)) ml) :
    mm_cq (mm_call mm_ms (mm_tb L xs) (d + 2)) 227 [mm_R 176, mm_I (nI n)] w ml Q := by
  have vn : vp_in (nI n) 200 := vp_in_nI hn (by decide)
  have en : (nI n).toNatClampNeg = n := nI_clamp (by omega)
  refine en_X12_both (bk_X12_both_0 (mm_call_m _) (sp_takes (v := v + 1) h64 (by omega) (bk_X12_both_4 (mm_call_m _) (sp_takes (v := v) mm_u_s (by omega) ?_))))
  rw [mm_u_e (by decide)]
  have u62 : mm_u (mm_u w 176 64 (nI (v + 1))) 176 64 (nI v) 176 62 = nI (k + 1) := by rw [mm_u_f (by decide), mm_u_f (by decide)]; exact h62
  have u43 : mm_u (mm_u w 176 64 (nI (v + 1))) 176 64 (nI v) 176 43 = nI h := by rw [mm_u_f (by decide), mm_u_f (by decide)]; exact h43
  have u64 : mm_u (mm_u w 176 64 (nI (v + 1))) 176 64 (nI v) 176 64 = nI v := mm_u_s
  have e188 : mm_u (mm_u w 176 64 (nI (v + 1))) 176 64 (nI v) 188 n = w 188 n := by rw [mm_u_e (by decide), mm_u_e (by decide)]
  have hg : ∀ (x : Int32) (w3 : mm_P) (Q' : mm_QQ), w3 176 64 = nI v → w3 176 62 = nI (k + 1) → Q' none (Wg w3 v k x) ml → mm_cq (mm_call mm_ms (mm_tb L xs) (d + 1)) 222 [mm_R 176, mm_I x] w3 ml Q' := fun x w3 Q' a b q => sp_gives a (by omega) b (by omega) q
  have hl : ¬ w 188 n = 3 → ¬ w 188 n = 4 → ∀ y, mm_cq (mm_call mm_ms (mm_tb L xs) (d + 1)) 213 [mm_R 176, mm_I (w 224 v), mm_I (w 224 (v + 1))] (mm_u (mm_u (mm_u w 176 64 (nI (v + 1))) 176 64 (nI v)) 176 49 y) ml (fun o n1 n2 => mm_WQ (mm_call mm_ms (mm_tb L xs) (d + 1)) (mm_tb L xs) mm_m227 (mm_li mm_m227) Q 113 [some (mm_R 176), some (mm_I (nI n)), some (mm_I (w 224 (v + 1))), some (mm_I (w 224 v))] (o.toList ++ [mm_R 176]) n1 n2) := fun a b y => by
    refine sp_cell (h := h) (by rw [mm_u_f (by decide)]; exact u43) hh (bk_X12_both_113 (mm_call_m _) (hg _ _ _ ?_ ?_ (bk_X12_both_116 (mm_call_m _) (hC a b _ (.inr ⟨y, rfl⟩)))))
    · rw [Wc_o (by omega) (by omega) (by omega), mm_u_f (by decide)]
      exact u64
    · rw [Wc_o (by omega) (by omega) (by omega), mm_u_f (by decide)]
      exact u62
  refine bk_X12_both_9 (mm_call_m _) vn (fun a => ?_) (fun a _ => ?_) (fun a _ => ?_) (fun a _ => ?_) (fun _ _ => h4) (fun a => ?_) (fun a b _ _ _ => ?_) (fun _ _ _ _ _ => h4) <;> rw [en, e188] at a
  · exact hg _ _ _ u64 u62 (bk_X12_both_55 (mm_call_m _) (hA (.inl a) _))
  · exact hg _ _ _ u64 u62 (bk_X12_both_71 (mm_call_m _) (hA (.inr a) _))
  · exact hg _ _ _ u64 u62 (bk_X12_both_71 (mm_call_m _) (hA (.inr a) _))
  · exact hl (by rw [a]; decide) (by rw [a]; decide) _
  · refine sp_cell (h := h) u43 hh (bk_X12_both_80 (mm_call_m _) (hg _ _ _ ?_ ?_ (bk_X12_both_83 (mm_call_m _) (hC (by rw [a]; decide) (by rw [a]; decide) _ (.inl rfl)))))
    · rw [Wc_o (by omega) (by omega) (by omega)]
      exact u64
    · rw [Wc_o (by omega) (by omega) (by omega)]
      exact u62
  · rw [en, e188] at b
    exact hl a b _
end MMT
