/-! ===== a run of the model, exactly ===== -/
section MMT
variable {L : Nat} {xs : Nat → Int32} {d : Nat} {Q : mm_QQ} {ml : mm_G} {lim : Nat × Nat} {w : mm_P}
theorem sx_begins {k v s op n : Nat} (h62 : w 176 62 = nI (k + 1)) (hk : k + 1 < 400) (h64 : w 176 64 = nI v) (hv : v < 800) (h48 : w 176 48 = nI s) (hs : s ≤ 600) (h66 : w 176 66 = nI op) (hop : 1 ≤ op ∧ op ≤ 30) (hn : n < 200) (hz : s = 600 → Q (some (mm_I 2)) w ml)
    (hL : s < 600 → ∀ x, (((w 188 n = 0 ∨ w 188 n = 1) ∧ x = w 189 n) ∨ (w 188 n = 2 ∧ x = w 225 (op - 1)) ∨ (w 188 n = 9 ∧ x = -1)) → Q (some (mm_I 0)) (Wg (mm_u w 176 48 (nI (s + 1))) v k x) ml)
    (hN : s < 600 → ¬ w 188 n = 0 → ¬ w 188 n = 1 → ¬ w 188 n = 2 → ¬ w 188 n = 9 → Q (some (mm_I 0)) (Wb (mm_u (mm_u w 176 48 (nI (s + 1))) 223 k 1) (k + 1) (f_part w n 0)) ml) :
    mm_cq (mm_call mm_ms (mm_tb L xs) (d + 2)) 225 [mm_R 176, mm_I (nI n)] w ml Q := by
  have hlt : ¬ w 176 48 = 600 → s < 600 := fun z => by
    rw [h48] at z
    by_cases q : s = 600
    · subst q
      exact absurd rfl z
    · omega
  have vn : vp_in (nI n) 200 := vp_in_nI hn (by decide)
  have en : (nI n).toNatClampNeg = n := nI_clamp (by omega)
  have e48 : w 176 48 + 1 = nI (s + 1) := by rw [h48]; exact (nI_succ s).symm
  have e62 : w 176 62 - 1 = nI k := by rw [h62, mm_dec' k (by omega)]
  have v62 : vp_in (w 176 62 - 1) 400 := by rw [e62]; exact vp_in_nI (by omega) (by decide)
  have e66 : w 176 66 - 1 = nI (op - 1) := by
    rw [h66, show op = (op - 1) + 1 by omega, mm_dec' (op - 1) (by omega)]
    rfl
  have v66 : vp_in (w 176 66 - 1) 30 := by rw [e66]; exact vp_in_nI (by omega) (by decide)
  have hg : ∀ (x : Int32) (Q' : mm_QQ), Q' none (Wg (mm_u w 176 48 (nI (s + 1))) v k x) ml → mm_cq (mm_call mm_ms (mm_tb L xs) (d + 1)) 222 [mm_R 176, mm_I x] (mm_u w 176 48 (w 176 48 + 1)) ml Q' := fun x Q' q => by
    rw [e48]
    exact sp_gives (by rw [mm_u_f (by decide)]; exact h64) hv (by rw [mm_u_f (by decide)]; exact h62) (by omega) q
  have hb : (s < 600) → ¬ w 188 n = 0 → ¬ w 188 n = 1 → ¬ w 188 n = 2 → ¬ w 188 n = 9 → mm_cq (mm_call mm_ms (mm_tb L xs) (d + 1)) 186 [mm_R 176, mm_I (nI n), mm_I 0] (mm_u (mm_u w 176 48 (w 176 48 + 1)) 223 ((w 176 62 - 1).toNatClampNeg) 1) ml (fun o n1 n2 => mm_WQ (mm_call mm_ms (mm_tb L xs) (d + 1)) (mm_tb L xs) mm_m225 (mm_li mm_m225) Q 142 [some (mm_R 176), some (mm_I (nI n))] (o.toList ++ [mm_R 176]) n1 n2) := fun z a b c e => by
    rw [e48, e62, nI_clamp (by omega)]
    refine sp_X12_partOf hn (bk_X12_begins_142 (mm_call_m _) (sp_begin (k := k + 1) ?_ (by omega) (bk_X12_begins_145 (mm_call_m _) ?_)))
    · rw [mm_u_e (by decide), mm_u_f (by decide)]
      exact h62
    · have ep : f_part (mm_u (mm_u w 176 48 (nI (s + 1))) 223 k 1) n 0 = f_part w n 0 := f_part_c (fun c i x y => by rw [mm_u_e (by omega), mm_u_e (by omega)])
      rw [ep]
      exact hN z a b c e
  refine en_X12_begins (bk_X12_begins_0 (mm_call_m _) (fun _ => vn) (fun _ _ => vn) (fun z a => ?_) (fun _ _ => vn) (fun z a => ?_) (fun _ _ => v66) (fun z a => ?_) (fun _ _ => v62) (fun z a => ?_) (fun _ _ => v62) (fun z a => ?_) (fun _ _ => v62) (fun z a => ?_) (fun _ _ => v62) (fun z a => ?_) (fun _ _ => v62) (fun z a => ?_) (fun _ _ => v62) (fun z a => ?_) (fun z a => ?_) (fun _ _ _ _ _ _ _ _ _ _ _ => v62) (fun z a0 a1 a2 _ _ _ _ _ _ a9 => ?_) (fun z => hz (nI_ij (by omega) (by decide) (h48.symm.trans (z.trans (show (600 : Int32) = nI 600 from rfl))))))
  · rw [en] at a ⊢
    exact hg _ _ (bk_X12_begins_94 (mm_call_m _) (bk_X12_begins_145 (mm_call_m _) (hL (hlt z) _ (.inl ⟨.inl a, rfl⟩))))
  · rw [en] at a ⊢
    exact hg _ _ (bk_X12_begins_94 (mm_call_m _) (bk_X12_begins_145 (mm_call_m _) (hL (hlt z) _ (.inl ⟨.inr a, rfl⟩))))
  · rw [en] at a
    rw [e66, nI_clamp (by omega)]
    exact hg _ _ (bk_X12_begins_112 (mm_call_m _) (bk_X12_begins_145 (mm_call_m _) (hL (hlt z) _ (.inr (.inl ⟨a, rfl⟩)))))
  iterate 6
    · rw [en] at a
      exact hb (hlt z) (by rw [a]; decide) (by rw [a]; decide) (by rw [a]; decide) (by rw [a]; decide)
  · rw [en] at a
    exact hg _ _ (bk_X12_begins_120 (mm_call_m _) (bk_X12_begins_145 (mm_call_m _) (hL (hlt z) _ (.inr (.inr ⟨a, rfl⟩)))))
  · rw [en] at a0 a1 a2 a9
    exact hb (hlt z) a0 a1 a2 a9
theorem sx_goesOn {k v op n : Nat} (h62 : w 176 62 = nI (k + 1)) (hk : k + 1 < 400) (h64 : w 176 64 = nI (v + 1)) (hv : v < 800) (h66 : w 176 66 = nI op) (hop : op ≤ 30) (hn : n < 200) (h14k : 0 ≤ (w 188 n).toInt ∧ (w 188 n).toInt ≤ 14) (hpp : 1 ≤ (f_parts (w 188 n)).toInt)
    (h2 : f_parts (w 188 n) = 2 → Q (some (mm_I 0)) (Wb (mm_u w 223 k 2) (k + 1) (w 190 n)) ml)
    (h5 : w 188 n = 5 → ∀ x, ((w 224 v = 1 ∧ x = w 190 n) ∨ (¬ w 224 v = 1 ∧ x = w 191 n)) → Q (some (mm_I 0)) (Wb (mm_u (mm_u w 176 64 (nI v)) 223 k 3) (k + 1) x) ml)
    (h7 : w 188 n = 7 → ∃ a, a < 6000 ∧ w 224 v = nI a ∧ Q (some (mm_I 0)) (Wg (mm_u w 176 64 (nI v)) v k (w 212 a)) ml)
    (h8 : w 188 n = 8 → ∃ a, a < 6000 ∧ w 224 v = nI a ∧ Q (some (mm_I 0)) (Wg (mm_u w 176 64 (nI v)) v k (w 213 a)) ml)
    (h11 : w 188 n = 11 → ∀ x, ((w 224 v = -1 ∧ x = 1) ∨ (¬ w 224 v = -1 ∧ x = 0)) → Q (some (mm_I 0)) (Wg (mm_u w 176 64 (nI v)) v k x) ml)
    (h12 : w 188 n = 12 → ¬ w 224 v = -1 → ∃ a, a < 6000 ∧ w 224 v = nI a ∧ Q (some (mm_I 0)) (Wg (mm_u w 176 64 (nI v)) v k (w 212 a)) ml)
    (h13 : w 188 n = 13 → ¬ w 224 v = -1 → ∃ a, a < 6000 ∧ w 224 v = nI a ∧ Q (some (mm_I 0)) (Wg (mm_u w 176 64 (nI v)) v k (w 213 a)) ml)
    (hE : (w 188 n = 12 ∨ w 188 n = 13) → w 224 v = -1 → Q (some (mm_I 1)) (mm_u w 176 64 (nI v)) ml)
    (h14 : w 188 n = 14 → ∃ g, g < 12 ∧ w 189 n = nI g ∧ (op < 30 → ∀ y, Q (some (mm_I 0)) (Wb (mm_u (mm_u (mm_u (mm_u (mm_u w 176 64 (nI v)) 223 k 4) 225 op (w 224 v)) 176 66 (nI (op + 1))) 176 50 y) (k + 1) (w 197 g)) ml) ∧ (op = 30 → Q (some (mm_I 3)) (mm_u (mm_u w 176 64 (nI v)) 223 k 4) ml)) :
    mm_cq (mm_call mm_ms (mm_tb L xs) (d + 3)) 226 [mm_R 176, mm_I (nI n)] w ml Q := by
  have vn : vp_in (nI n) 200 := vp_in_nI hn (by decide)
  have en : (nI n).toNatClampNeg = n := nI_clamp (by omega)
  have e62 : w 176 62 - 1 = nI k := by rw [h62, mm_dec' k (by omega)]
  have v62 : vp_in (w 176 62 - 1) 400 := by rw [e62]; exact vp_in_nI (by omega) (by decide)
  have ek : (nI k).toNatClampNeg = k := nI_clamp (by omega)
  refine en_X12_goesOn (bk_X12_goesOn_0 (mm_call_m _) vn ?_)
  rw [en]
  refine sp_X12_partsOf (bk_X12_goesOn_11 (mm_call_m _) (fun n2 => ?_) (fun _ => v62) (fun _ => vn) (fun e2 => ?_))
  · refine sp_takes h64 hv ?_
    have u62 : mm_u w 176 64 (nI v) 176 62 = nI (k + 1) := by rw [mm_u_f (by decide)]; exact h62
    have u64 : mm_u w 176 64 (nI v) 176 64 = nI v := mm_u_s
    have u62' : mm_u w 176 64 (nI v) 176 62 - 1 = nI k := by rw [u62, mm_dec' k (by omega)]
    have hu : ∀ c i, ¬ c = 176 → mm_u w 176 64 (nI v) c i = w c i := fun c i q => mm_u_e q
    have w62 : vp_in (mm_u w 176 64 (nI v) 176 62 - 1) 400 := by rw [u62']; exact vp_in_nI (by omega) (by decide)
    have hg : ∀ (x : Int32) (Q' : mm_QQ), Q' none (Wg (mm_u w 176 64 (nI v)) v k x) ml → mm_cq (mm_call mm_ms (mm_tb L xs) (d + 2)) 222 [mm_R 176, mm_I x] (mm_u w 176 64 (nI v)) ml Q' := fun x Q' q => sp_gives u64 hv u62 (by omega) q
    have hno : ∀ {P : Prop} {c : Int32}, w 188 n = c → f_parts c = 2 → P := fun e q => absurd (by rw [e]; exact q) n2
    have hno0 : ∀ {P : Prop} {c : Int32}, w 188 n = c → f_parts c = 0 → P := fun e q => by
      rw [e, q] at hpp
      exact absurd hpp (by decide)
    have h5' : ∀ x, w 188 n = 5 → ((w 224 v = 1 ∧ x = w 190 n) ∨ (¬ w 224 v = 1 ∧ x = w 191 n)) → ∀ y3, mm_cq (mm_call mm_ms (mm_tb L xs) (d + 2)) 221 [mm_R 176, mm_I x] (mm_u (mm_u w 176 64 (nI v)) 223 ((mm_u w 176 64 (nI v) 176 62 - 1).toNatClampNeg) 3) ml (fun o n1 n2 => mm_WQ (mm_call mm_ms (mm_tb L xs) (d + 2)) (mm_tb L xs) mm_m226 (mm_li mm_m226) Q 132 [some (mm_R 176), some (mm_I (nI n)), some (mm_I (w 188 n)), some (mm_I y3)] (o.toList ++ []) n1 n2) := fun x a b y3 => by
      rw [u62', ek]
      exact sp_begin (k := k + 1) (by rw [mm_u_e (by decide)]; exact u62) (by omega) (bk_X12_goesOn_132 (mm_call_m _) (h5 a x b))
    have h14' : w 188 n = 14 → vp_in (mm_u w 176 64 (nI v) 176 62 - 1) 400 ∧ mm_cq (mm_call mm_ms (mm_tb L xs) (d + 2)) 224 [mm_R 176, mm_I (mm_u w 176 64 (nI v) 189 n), mm_I (w 224 v)] (mm_u (mm_u w 176 64 (nI v)) 223 ((mm_u w 176 64 (nI v) 176 62 - 1).toNatClampNeg) 4) ml (fun o n1 n2 => mm_WQ (mm_call mm_ms (mm_tb L xs) (d + 2)) (mm_tb L xs) mm_m226 (mm_li mm_m226) Q 231 [some (mm_R 176), some (mm_I (nI n)), some (mm_I (w 188 n)), some (mm_I (w 224 v))] (o.toList ++ []) n1 n2) := fun e => by
      obtain ⟨g, g1, g2, g3, g4⟩ := h14 e
      refine ⟨w62, ?_⟩
      rw [u62', ek, hu 189 n (by decide), g2]
      refine sp_calls (op := op) (k := k + 1) ?_ hop ?_ (by omega) g1 (fun q30 => bk_X12_goesOn_231 (mm_call_m _) (fun _ => g4 q30) (fun z => absurd rfl z)) (fun hl y => bk_X12_goesOn_231 (mm_call_m _) (fun z => absurd z (by decide)) (fun _ => ?_))
      · rw [mm_u_e (by decide), mm_u_f (by decide)]
        exact h66
      · rw [mm_u_e (by decide)]
        exact u62
      · rw [mm_u_e (by decide), hu 197 g (by decide)]
        exact g3 hl y
    refine bk_X12_goesOn_43 (mm_call_m _) (fun _ => w62) (fun _ _ => vn) (fun a z => ?_) (fun _ _ => vn) (fun a z => ?_) (fun _ => w62) (fun _ => vn) (fun a => hno a (by decide)) (fun a => ?_) (fun a => ?_) (fun a => ?_) (fun a => ?_) (fun _ => w62) (fun _ => vn) (fun a => hno0 a (by decide)) (fun _ => w62) (fun _ => vn) (fun a => hno a (by decide)) (fun a z => hg _ _ (bk_X12_goesOn_172 (mm_call_m _) (h11 a _ (.inr ⟨z, rfl⟩)))) (fun a z => hg _ _ (bk_X12_goesOn_172 (mm_call_m _) (h11 a _ (.inl ⟨z, rfl⟩)))) (fun a _ b => absurd a b) (fun a _ b => absurd a b) (fun a z _ => ?_) (fun a z _ => ?_) (fun a z => hE (.inl a) z) (fun a z _ => ?_) (fun a z _ => ?_) (fun a _ b => absurd (a.symm.trans b) (by decide)) (fun a _ b => absurd (a.symm.trans b) (by decide)) (fun a z => hE (.inr a) z) (fun _ _ _ _ _ _ _ _ _ => w62) (fun _ _ _ _ _ _ _ _ _ => vn) (fun a5 _ a7 a8 _ _ a11 a12 a13 => ?_)
    · rw [en, hu 191 n (by decide)]
      exact h5' _ a (.inr ⟨z, rfl⟩) _
    · rw [en, hu 190 n (by decide)]
      exact h5' _ a (.inl ⟨z, rfl⟩) _
    · obtain ⟨b, b1, b2, b3⟩ := h7 a
      rw [b2]
      exact vp_in_nI b1 (by decide)
    · obtain ⟨b, b1, b2, b3⟩ := h7 a
      rw [b2, nI_clamp (by omega), hu 212 b (by decide)]
      exact hg _ _ (bk_X12_goesOn_144 (mm_call_m _) b3)
    · obtain ⟨b, b1, b2, b3⟩ := h8 a
      rw [b2]
      exact vp_in_nI b1 (by decide)
    · obtain ⟨b, b1, b2, b3⟩ := h8 a
      rw [b2, nI_clamp (by omega), hu 213 b (by decide)]
      exact hg _ _ (bk_X12_goesOn_156 (mm_call_m _) b3)
    · obtain ⟨b, b1, b2, b3⟩ := h12 a z
      rw [b2]
      exact vp_in_nI b1 (by decide)
    · obtain ⟨b, b1, b2, b3⟩ := h12 a z
      rw [b2, nI_clamp (by omega), hu 212 b (by decide)]
      exact hg _ _ (bk_X12_goesOn_206 (mm_call_m _) b3)
    · obtain ⟨b, b1, b2, b3⟩ := h13 a z
      rw [b2]
      exact vp_in_nI b1 (by decide)
    · obtain ⟨b, b1, b2, b3⟩ := h13 a z
      rw [b2, nI_clamp (by omega), hu 213 b (by decide)]
      exact hg _ _ (bk_X12_goesOn_206 (mm_call_m _) b3)
    · rw [en]
      exact (h14' (kd14 h14k hpp n2 a5 a7 a8 a11 a12 a13)).2
  · rw [e62, ek, en]
    exact sp_begin (k := k + 1) (by rw [mm_u_e (by decide)]; exact h62) (by omega) (bk_X12_goesOn_37 (mm_call_m _) (h2 e2))
theorem sx_both {k v h n : Nat} (h62 : w 176 62 = nI (k + 1)) (hk : k + 1 < 400) (h64 : w 176 64 = nI (v + 2)) (hv : v + 1 < 800) (h43 : w 176 43 = nI h) (hh : h < 6000) (hn : n < 200)
    (hA : ∀ x, ((w 188 n = 3 ∧ x = w 224 v + w 224 (v + 1)) ∨ (w 188 n = 4 ∧ x = if w 224 (v + 1) ≤ w 224 v then 0 else 1)) → Q (some (mm_I 0)) (Wg (mm_u (mm_u w 176 64 (nI (v + 1))) 176 64 (nI v)) v k x) ml)
    (hC : ¬ w 188 n = 3 → ¬ w 188 n = 4 → ∀ w3, ((w 188 n = 6 ∧ w3 = mm_u (mm_u w 176 64 (nI (v + 1))) 176 64 (nI v)) ∨ (¬ w 188 n = 6 ∧ ¬ w 176 49 = 100 ∧ w3 = mm_u (mm_u (mm_u w 176 64 (nI (v + 1))) 176 64 (nI v)) 176 49 (w 176 49 + 1))) → Q (some (mm_I 0)) (Wg (Wc w3 h (w 224 v) (w 224 (v + 1))) v k (nI h)) ml)
    (h4 : ¬ w 188 n = 3 → ¬ w 188 n = 4 → ¬ w 188 n = 6 → w 176 49 = 100 → Q (some (mm_I 4)) (mm_u (mm_u w 176 64 (nI (v + 1))) 176 64 (nI v)) ml) :
    mm_cq (mm_call mm_ms (mm_tb L xs) (d + 2)) 227 [mm_R 176, mm_I (nI n)] w ml Q := by
  have vn : vp_in (nI n) 200 := vp_in_nI hn (by decide)
  have en : (nI n).toNatClampNeg = n := nI_clamp (by omega)
  refine en_X12_both (bk_X12_both_0 (mm_call_m _) (sp_takes (v := v + 1) h64 (by omega) (bk_X12_both_4 (mm_call_m _) (sp_takes (v := v) mm_u_s (by omega) ?_))))
  rw [mm_u_e (by decide)]
  have u62 : mm_u (mm_u w 176 64 (nI (v + 1))) 176 64 (nI v) 176 62 = nI (k + 1) := by rw [mm_u_f (by decide), mm_u_f (by decide)]; exact h62
  have u43 : mm_u (mm_u w 176 64 (nI (v + 1))) 176 64 (nI v) 176 43 = nI h := by rw [mm_u_f (by decide), mm_u_f (by decide)]; exact h43
  have u64 : mm_u (mm_u w 176 64 (nI (v + 1))) 176 64 (nI v) 176 64 = nI v := mm_u_s
  have e188 : mm_u (mm_u w 176 64 (nI (v + 1))) 176 64 (nI v) 188 n = w 188 n := by rw [mm_u_e (by decide), mm_u_e (by decide)]
  have hg : ∀ (x : Int32) (w3 : mm_P) (Q' : mm_QQ), w3 176 64 = nI v → w3 176 62 = nI (k + 1) → Q' none (Wg w3 v k x) ml → mm_cq (mm_call mm_ms (mm_tb L xs) (d + 1)) 222 [mm_R 176, mm_I x] w3 ml Q' := fun x w3 Q' a b q => sp_gives a (by omega) b (by omega) q
  have e49 : mm_u (mm_u w 176 64 (nI (v + 1))) 176 64 (nI v) 176 49 = w 176 49 := by rw [mm_u_f (by decide), mm_u_f (by decide)]
  have hl : ¬ w 188 n = 3 → ¬ w 188 n = 4 → ¬ w 188 n = 6 → ¬ w 176 49 = 100 → mm_cq (mm_call mm_ms (mm_tb L xs) (d + 1)) 213 [mm_R 176, mm_I (w 224 v), mm_I (w 224 (v + 1))] (mm_u (mm_u (mm_u w 176 64 (nI (v + 1))) 176 64 (nI v)) 176 49 (w 176 49 + 1)) ml (fun o n1 n2 => mm_WQ (mm_call mm_ms (mm_tb L xs) (d + 1)) (mm_tb L xs) mm_m227 (mm_li mm_m227) Q 113 [some (mm_R 176), some (mm_I (nI n)), some (mm_I (w 224 (v + 1))), some (mm_I (w 224 v))] (o.toList ++ [mm_R 176]) n1 n2) := fun a b c e => by
    refine sp_cell (h := h) (by rw [mm_u_f (by decide)]; exact u43) hh (bk_X12_both_113 (mm_call_m _) (hg _ _ _ ?_ ?_ (bk_X12_both_116 (mm_call_m _) (hC a b _ (.inr ⟨c, e, rfl⟩)))))
    · rw [Wc_o (by omega) (by omega) (by omega), mm_u_f (by decide)]
      exact u64
    · rw [Wc_o (by omega) (by omega) (by omega), mm_u_f (by decide)]
      exact u62
  refine bk_X12_both_9 (mm_call_m _) vn (fun a => ?_) (fun a z => ?_) (fun a z => ?_) (fun a z => ?_) (fun a z => ?_) (fun a => ?_) (fun a b c e z => ?_) (fun a b c e z => ?_) <;> rw [en, e188] at a
  · exact hg _ _ _ u64 u62 (bk_X12_both_55 (mm_call_m _) (hA _ (.inl ⟨a, rfl⟩)))
  · exact hg _ _ _ u64 u62 (bk_X12_both_71 (mm_call_m _) (hA _ (.inr ⟨a, (if_pos z).symm⟩)))
  · exact hg _ _ _ u64 u62 (bk_X12_both_71 (mm_call_m _) (hA _ (.inr ⟨a, (if_neg z).symm⟩)))
  · rw [e49] at z ⊢
    exact hl (by rw [a]; decide) (by rw [a]; decide) (by rw [a]; decide) z
  · rw [e49] at z
    exact h4 (by rw [a]; decide) (by rw [a]; decide) (by rw [a]; decide) z
  · refine sp_cell (h := h) u43 hh (bk_X12_both_80 (mm_call_m _) (hg _ _ _ ?_ ?_ (bk_X12_both_83 (mm_call_m _) (hC (by rw [a]; decide) (by rw [a]; decide) _ (.inl ⟨a, rfl⟩)))))
    · rw [Wc_o (by omega) (by omega) (by omega)]
      exact u64
    · rw [Wc_o (by omega) (by omega) (by omega)]
      exact u62
  · rw [en, e188] at b e
    rw [e49] at z ⊢
    exact hl a b e z
  · rw [en, e188] at b e
    rw [e49] at z
    exact h4 a b e z
end MMT
/-! ===== a run, apart from where it stands ===== -/
abbrev HF : Type := Nat → Int32
/-- outcome, value, heap (two rows, how many), steps, links, open -/
abbrev ZX : Type := Int32 × Int32 × HF × HF × Nat × Nat × Nat × Nat
abbrev ZE : Type := Int32 → Nat → HF → HF → Nat → Nat → Nat → Nat → ZX
def fu (f : HF) (i : Nat) (x : Int32) : HF := fun j => if j = i then x else f j
theorem fu_s {f : HF} {i : Nat} {x : Int32} : fu f i x i = x := if_pos rfl
theorem fu_o {f : HF} {i j : Nat} {x : Int32} (h : ¬ j = i) : fu f i x j = f j := if_neg h
/-- both parts came -/
def ev3 (m : mm_P) (n : Nat) (v u : Int32) (A B : HF) (h s l o : Nat) : ZX :=
  if m 188 n = 3 then (0, v + u, A, B, h, s, l, o) else if m 188 n = 4 then (0, if u ≤ v then 0 else 1, A, B, h, s, l, o) else if m 188 n = 6 then (0, nI h, fu A h v, fu B h u, h + 1, s, l, o) else if l = 100 then (4, 0, A, B, h, s, l, o) else (0, nI h, fu A h v, fu B h u, h + 1, s, l + 1, o)
/-- the first part came -/
def ev2 (m : mm_P) (E : ZE) (arg : Int32) (n : Nat) (v : Int32) (A B : HF) (h s l o : Nat) : ZX :=
  if f_parts (m 188 n) = 2 then (match E arg (m 190 n).toNatClampNeg A B h s l o with
    | (e, u, A', B', h', s', l', o') => if e = 0 then ev3 m n v u A' B' h' s' l' o' else (e, u, A', B', h', s', l', o'))
  else if m 188 n = 5 then E arg (if v = 1 then m 190 n else m 191 n).toNatClampNeg A B h s l o
  else if m 188 n = 7 then (0, A v.toNatClampNeg, A, B, h, s, l, o)
  else if m 188 n = 8 then (0, B v.toNatClampNeg, A, B, h, s, l, o)
  else if m 188 n = 11 then (0, if v = -1 then 1 else 0, A, B, h, s, l, o)
  else if m 188 n = 12 then (if v = -1 then (1, 0, A, B, h, s, l, o) else (0, A v.toNatClampNeg, A, B, h, s, l, o))
  else if m 188 n = 13 then (if v = -1 then (1, 0, A, B, h, s, l, o) else (0, B v.toNatClampNeg, A, B, h, s, l, o))
  else if o = 30 then (3, 0, A, B, h, s, l, o) else (match E v (m 197 (m 189 n).toNatClampNeg).toNatClampNeg A B h s l (o + 1) with
    | (e, u, A', B', h', s', l', _) => (e, u, A', B', h', s', l', o))
/-- node n for an argument -/
def ev (m : mm_P) : Nat → ZE
  | 0 => fun _ _ A B h s l o => (9, 0, A, B, h, s, l, o)
  | k + 1 => fun arg n A B h s l o =>
    if s = 600 then (2, 0, A, B, h, s, l, o) else if m 188 n = 0 ∨ m 188 n = 1 then (0, m 189 n, A, B, h, s + 1, l, o) else if m 188 n = 2 then (0, arg, A, B, h, s + 1, l, o) else if m 188 n = 9 then (0, -1, A, B, h, s + 1, l, o) else (match ev m k arg (f_part m n 0).toNatClampNeg A B h (s + 1) l o with
      | (e, v, A', B', h', s', l', o') => if e = 0 then ev2 m (ev m k) arg n v A' B' h' s' l' o' else (e, v, A', B', h', s', l', o'))
section ZEV
variable {m : mm_P} {k n : Nat} {arg x u e : Int32} {A B A' B' : HF} {h s l o h' s' l' o' : Nat} {E : ZE}
theorem ev_6 : ev m (k + 1) arg n A B h 600 l o = (2, 0, A, B, h, 600, l, o) := rfl
theorem ev_v (hs : ¬ s = 600) (hx : ((m 188 n = 0 ∨ m 188 n = 1) ∧ x = m 189 n) ∨ (m 188 n = 2 ∧ x = arg) ∨ (m 188 n = 9 ∧ x = -1)) : ev m (k + 1) arg n A B h s l o = (0, x, A, B, h, s + 1, l, o) := by
  show (if s = 600 then _ else if m 188 n = 0 ∨ m 188 n = 1 then _ else if m 188 n = 2 then _ else if m 188 n = 9 then _ else _) = _
  rw [if_neg hs]
  rcases hx with ⟨a, b⟩ | ⟨a, b⟩ | ⟨a, b⟩
  · rw [if_pos a, b]
  · rw [if_neg (by rw [a]; decide), if_pos a, b]
  · rw [if_neg (by rw [a]; decide), if_neg (by rw [a]; decide), if_pos a, b]
theorem ev_n (hs : ¬ s = 600) (h0 : ¬ m 188 n = 0) (h1 : ¬ m 188 n = 1) (h2 : ¬ m 188 n = 2) (h9 : ¬ m 188 n = 9) (hp : ev m k arg (f_part m n 0).toNatClampNeg A B h (s + 1) l o = (e, x, A', B', h', s', l', o')) : ev m (k + 1) arg n A B h s l o = if e = 0 then ev2 m (ev m k) arg n x A' B' h' s' l' o' else (e, x, A', B', h', s', l', o') := by
  show (if s = 600 then _ else if m 188 n = 0 ∨ m 188 n = 1 then _ else if m 188 n = 2 then _ else if m 188 n = 9 then _ else (match ev m k arg (f_part m n 0).toNatClampNeg A B h (s + 1) l o with
      | (e, v, A', B', h', s', l', o') => if e = 0 then ev2 m (ev m k) arg n v A' B' h' s' l' o' else (e, v, A', B', h', s', l', o'))) = _
  rw [if_neg hs, if_neg (fun y => y.elim h0 h1), if_neg h2, if_neg h9, hp]
theorem ev2_2 (h2 : f_parts (m 188 n) = 2) (hp : E arg (m 190 n).toNatClampNeg A B h s l o = (e, u, A', B', h', s', l', o')) : ev2 m E arg n x A B h s l o = if e = 0 then ev3 m n x u A' B' h' s' l' o' else (e, u, A', B', h', s', l', o') := by
  unfold ev2
  rw [if_pos h2, hp]
theorem ev2_5 (hk : m 188 n = 5) : ev2 m E arg n x A B h s l o = E arg (if x = 1 then m 190 n else m 191 n).toNatClampNeg A B h s l o := by
  unfold ev2
  rw [if_neg (by rw [hk]; decide), if_pos hk]
theorem ev2_7 (hk : m 188 n = 7) : ev2 m E arg n x A B h s l o = (0, A x.toNatClampNeg, A, B, h, s, l, o) := by
  unfold ev2
  rw [if_neg (by rw [hk]; decide), if_neg (by rw [hk]; decide), if_pos hk]
theorem ev2_8 (hk : m 188 n = 8) : ev2 m E arg n x A B h s l o = (0, B x.toNatClampNeg, A, B, h, s, l, o) := by
  unfold ev2
  rw [if_neg (by rw [hk]; decide), if_neg (by rw [hk]; decide), if_neg (by rw [hk]; decide), if_pos hk]
theorem ev2_11 (hk : m 188 n = 11) : ev2 m E arg n x A B h s l o = (0, if x = -1 then 1 else 0, A, B, h, s, l, o) := by
  unfold ev2
  rw [if_neg (by rw [hk]; decide), if_neg (by rw [hk]; decide), if_neg (by rw [hk]; decide), if_neg (by rw [hk]; decide), if_pos hk]
theorem ev2_12 (hk : m 188 n = 12) : ev2 m E arg n x A B h s l o = if x = -1 then (1, 0, A, B, h, s, l, o) else (0, A x.toNatClampNeg, A, B, h, s, l, o) := by
  unfold ev2
  rw [if_neg (by rw [hk]; decide), if_neg (by rw [hk]; decide), if_neg (by rw [hk]; decide), if_neg (by rw [hk]; decide), if_neg (by rw [hk]; decide), if_pos hk]
theorem ev2_13 (hk : m 188 n = 13) : ev2 m E arg n x A B h s l o = if x = -1 then (1, 0, A, B, h, s, l, o) else (0, B x.toNatClampNeg, A, B, h, s, l, o) := by
  unfold ev2
  rw [if_neg (by rw [hk]; decide), if_neg (by rw [hk]; decide), if_neg (by rw [hk]; decide), if_neg (by rw [hk]; decide), if_neg (by rw [hk]; decide), if_neg (by rw [hk]; decide), if_pos hk]
theorem ev2_14 (hk : m 188 n = 14) (ho : ¬ o = 30) (hp : E x (m 197 (m 189 n).toNatClampNeg).toNatClampNeg A B h s l (o + 1) = (e, u, A', B', h', s', l', o')) : ev2 m E arg n x A B h s l o = (e, u, A', B', h', s', l', o) := by
  unfold ev2
  rw [if_neg (by rw [hk]; decide), if_neg (by rw [hk]; decide), if_neg (by rw [hk]; decide), if_neg (by rw [hk]; decide), if_neg (by rw [hk]; decide), if_neg (by rw [hk]; decide), if_neg (by rw [hk]; decide), if_neg ho, hp]
theorem ev2_30 (hk : m 188 n = 14) : ev2 m E arg n x A B h s l 30 = (3, 0, A, B, h, s, l, 30) := by
  unfold ev2
  rw [if_neg (by rw [hk]; decide), if_neg (by rw [hk]; decide), if_neg (by rw [hk]; decide), if_neg (by rw [hk]; decide), if_neg (by rw [hk]; decide), if_neg (by rw [hk]; decide), if_neg (by rw [hk]; decide), if_pos rfl]
theorem ev3_3 (hk : m 188 n = 3) : ev3 m n x u A B h s l o = (0, x + u, A, B, h, s, l, o) := by
  unfold ev3
  rw [if_pos hk]
theorem ev3_4 (hk : m 188 n = 4) : ev3 m n x u A B h s l o = (0, if u ≤ x then 0 else 1, A, B, h, s, l, o) := by
  unfold ev3
  rw [if_neg (by rw [hk]; decide), if_pos hk]
theorem ev3_6 (hk : m 188 n = 6) : ev3 m n x u A B h s l o = (0, nI h, fu A h x, fu B h u, h + 1, s, l, o) := by
  unfold ev3
  rw [if_neg (by rw [hk]; decide), if_neg (by rw [hk]; decide), if_pos hk]
theorem ev3_n (h3 : ¬ m 188 n = 3) (h4 : ¬ m 188 n = 4) (h6 : ¬ m 188 n = 6) (hl : ¬ l = 100) : ev3 m n x u A B h s l o = (0, nI h, fu A h x, fu B h u, h + 1, s, l + 1, o) := by
  unfold ev3
  rw [if_neg h3, if_neg h4, if_neg h6, if_neg hl]
theorem ev3_100 (h3 : ¬ m 188 n = 3) (h4 : ¬ m 188 n = 4) (h6 : ¬ m 188 n = 6) : ev3 m n x u A B h s 100 o = (4, 0, A, B, h, s, 100, o) := by
  unfold ev3
  rw [if_neg h3, if_neg h4, if_neg h6, if_pos rfl]
end ZEV
/-- the run goes on: what became of the heap and the counts -/
def ZG (A B : HF) (h s o : Nat) (A' B' : HF) (h' s' l' o' : Nat) : Prop := (s < s' ∧ s' ≤ 600) ∧ (h ≤ h' ∧ h' + s ≤ h + s') ∧ l' ≤ 100 ∧ o' = o ∧ ∀ a, a < h → A' a = A a ∧ B' a = B a
/-- the model's world stands so -/
def WS (m w : mm_P) (A B : HF) (h s l o : Nat) : Prop := RG m w ∧ ((∀ i, w 212 i = A i) ∧ ∀ i, w 213 i = B i) ∧ (w 176 43 = nI h ∧ w 176 48 = nI s ∧ w 176 49 = nI l ∧ w 176 66 = nI o) ∧ w 176 51 = 0
theorem WS_c {m w w' : mm_P} {A B : HF} {h s l o : Nat} (q : WS m w A B h s l o) (hp : ∀ c i, ¬ (c = 222 ∨ c = 223 ∨ c = 224 ∨ c = 225) → ¬ (c = 176 ∧ (i = 50 ∨ i = 62 ∨ i = 64)) → w' c i = w c i) : WS m w' A B h s l o := by
  obtain ⟨q1, ⟨q2, q3⟩, ⟨q4, q5, q6, q7⟩, q8⟩ := q
  refine ⟨⟨fun c i a b => (hp c i (by omega) (by omega)).trans (q1.1 c i a b), fun i a => (hp 176 i (by omega) (by omega)).trans (q1.2 i a)⟩, ⟨fun i => (hp 212 i (by omega) (by omega)).trans (q2 i), fun i => (hp 213 i (by omega) (by omega)).trans (q3 i)⟩, ⟨(hp 176 43 (by omega) (by omega)).trans q4, (hp 176 48 (by omega) (by omega)).trans q5, (hp 176 49 (by omega) (by omega)).trans q6, (hp 176 66 (by omega) (by omega)).trans q7⟩, (hp 176 51 (by omega) (by omega)).trans q8⟩
theorem AG_t {k v h o k' v' h' o' : Nat} {w w' w2 : mm_P} (a : AG k v h o w w') (b : AG k' v' h' o' w' w2) (hk : k ≤ k') (hv : v ≤ v') (hh : h ≤ h') (ho : o ≤ o') : AG k v h o w w2 := fun c i q1 q2 q3 q4 q5 q6 q7 => (b c i (by omega) (by omega) (by omega) (by omega) (by omega) (by omega) q7).trans (a c i q1 q2 q3 q4 q5 q6 q7)
theorem fun212 {w : mm_P} {A B : HF} (h : (∀ i, w 212 i = A i) ∧ ∀ i, w 213 i = B i) : w 212 = A ∧ w 213 = B := ⟨funext h.1, funext h.2⟩
