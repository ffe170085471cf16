/-! ===== the model's table of types: it ends, and what it finds ===== -/
def hz (f : Nat → Int32) : Nat → Nat
  | 0 => 0
  | n + 1 => hz f n + (if f n = 0 then 0 else 1)
theorem hz_ex {f : Nat → Int32} : ∀ {n : Nat}, hz f n < n → ∃ k, k < n ∧ f k = 0
  | 0, h => absurd h (Nat.not_lt_zero _)
  | n + 1, h => by
    by_cases hf : f n = 0
    · exact ⟨n, Nat.lt_succ_self n, hf⟩
    · unfold hz at h
      rw [if_neg hf] at h
      obtain ⟨k, h1, h2⟩ := hz_ex (f := f) (n := n) (by omega)
      exact ⟨k, by omega, h2⟩
theorem hz_eq {f g : Nat → Int32} : ∀ {n : Nat}, (∀ k, k < n → g k = f k) → hz g n = hz f n
  | 0, _ => rfl
  | n + 1, h => by
    unfold hz
    rw [hz_eq (n := n) (fun k hk => h k (by omega)), h n (by omega)]
theorem hz_up {f g : Nat → Int32} {i : Nat} (h : ∀ k, ¬ k = i → g k = f k) : ∀ {n : Nat}, hz g n ≤ hz f n + 1
  | 0 => by show 0 ≤ _; omega
  | n + 1 => by
    unfold hz
    by_cases hn : n = i
    · rw [hz_eq (f := f) (g := g) (n := n) (fun k hk => h k (by omega))]
      split <;> split <;> omega
    · rw [h n hn]
      have := hz_up (f := f) (g := g) h (n := n)
      omega
theorem hz_zero {f : Nat → Int32} : ∀ {n : Nat}, (∀ k, k < n → f k = 0) → hz f n = 0
  | 0, _ => rfl
  | n + 1, h => by
    unfold hz
    rw [hz_zero (n := n) (fun k hk => h k (by omega)), if_pos (h n (by omega))]
theorem mm_andn (x : Int32) : 0 ≤ (x &&& 2147483647).toInt := by
  have h : (x &&& 2147483647).toBitVec.toNat ≤ 2147483647 := by
    show (x.toBitVec &&& (2147483647 : Int32).toBitVec).toNat ≤ 2147483647
    rw [BitVec.toNat_and]
    exact Nat.and_le_right
  rw [mm_ti, if_pos (by omega)]
  omega
theorem mm_idiv {x y : Int32} (hx : 0 ≤ x.toInt) (hy : 0 < y.toInt) : (x / y).toInt = x.toInt / y.toInt := by
  have h1 : x.toInt / y.toInt ≤ x.toInt := Int.ediv_le_self _ hx
  have h2 : 0 ≤ x.toInt / y.toInt := Int.ediv_nonneg hx (by omega)
  have h3 := Int32.toInt_lt x
  rw [Int32.toInt_div, Int.tdiv_eq_ediv_of_nonneg hx, Int.bmod_eq_of_le] <;> omega
theorem mm_isub {x y : Int32} (h1 : -2147483648 ≤ x.toInt - y.toInt) (h2 : x.toInt - y.toInt < 2147483648) : (x - y).toInt = x.toInt - y.toInt := by
  rw [Int32.toInt_sub, Int.bmod_eq_of_le] <;> omega
theorem mm_imul {x y : Int32} (h1 : -2147483648 ≤ x.toInt * y.toInt) (h2 : x.toInt * y.toInt < 2147483648) : (x * y).toInt = x.toInt * y.toInt := by
  rw [Int32.toInt_mul, Int.bmod_eq_of_le] <;> omega
def f_mx (a b c : Int32) : Int32 := ((((a * 31) + (b * 7919)) + (c * 104729)) &&& 2147483647) - ((((a * 31) + (b * 7919)) + (c * 104729)) &&& 2147483647) / 16384 * 16384
theorem f_mx_r (a b c : Int32) : 0 ≤ (f_mx a b c).toInt ∧ (f_mx a b c).toInt < 16384 := by
  unfold f_mx
  have h0 := mm_andn (((a * 31) + (b * 7919)) + (c * 104729))
  generalize ((((a * 31) + (b * 7919)) + (c * 104729)) &&& 2147483647) = y at h0 ⊢
  have e : (16384 : Int32).toInt = 16384 := rfl
  have h3 := Int32.toInt_lt y
  have h4 : (y / 16384).toInt = y.toInt / 16384 := by rw [mm_idiv h0 (by rw [e]; decide), e]
  have h5 : (y / 16384 * 16384).toInt = y.toInt / 16384 * 16384 := by
    rw [mm_imul] <;> rw [h4, e] <;> omega
  rw [mm_isub] <;> rw [h5] <;> omega
theorem mm_nxt {a : Nat} (h : a < 16384) : (nI a + 1) &&& 16383 = nI ((a + 1) % 16384) := by
  have e : nI a + 1 = nI (a + 1) := (nI_succ a).symm
  rw [e]
  refine Int32.toBitVec_inj.mp (BitVec.eq_of_toNat_eq ?_)
  show ((BitVec.ofNat 32 (a + 1)) &&& (BitVec.ofNat 32 16383)).toNat = (BitVec.ofNat 32 ((a + 1) % 16384)).toNat
  rw [BitVec.toNat_and, BitVec.toNat_ofNat, BitVec.toNat_ofNat, BitVec.toNat_ofNat]
  rw [Nat.mod_eq_of_lt (show a + 1 < 2 ^ 32 by omega), Nat.mod_eq_of_lt (show 16383 < 2 ^ 32 by omega), Nat.mod_eq_of_lt (show (a + 1) % 16384 < 2 ^ 32 by omega)]
  exact Nat.and_two_pow_sub_one_eq_mod (a + 1) 14
theorem mm_of {x : Int32} {n : Int} (h0 : 0 ≤ x.toInt) (h1 : x.toInt < n) : ∃ a : Nat, x = nI a ∧ (a : Int) < n ∧ a < 2 ^ 31 ∧ x.toNatClampNeg = a := by
  have h3 := Int32.toInt_lt x
  refine ⟨x.toInt.toNat, ?_, by omega, by omega, rfl⟩
  refine Int32.toInt_inj.mp ?_
  rw [mm_tI (by omega)]
  omega
section MMH
variable {L : Nat} {xs : Nat → Int32} {d : Nat} {Q : mm_QQ} {mi : mm_P} {ml : mm_G} {lim : Nat × Nat}
theorem sp_mixed {a b c : Int32} (h : Q (some (mm_I (f_mx a b c))) mi ml) : mm_cq (mm_call mm_ms (mm_tb L xs) (d + 1)) 166 [mm_I a, mm_I b, mm_I c] mi ml Q := en_X12_mixed (bk_X12_mixed_0 (mm_call_m _) (by decide) h)
theorem notes_loop {t : Int32} (hQ : ∀ k, k < 16384 → mi 184 k = 0 → Q none (mm_u mi 184 k (t + 1)) ml) : ∀ (j a : Nat), a < 16384 → mi 184 ((a + j) % 16384) = 0 → mm_WQ (mm_call mm_ms (mm_tb L xs) d) (mm_tb L xs) mm_m168 lim Q 22 [some (mm_R 176), some (mm_I t), some (mm_I (nI a))] [] mi ml
  | j, a, ha, hz0 => by
    have hv : vp_in (nI a) 16384 := vp_in_nI ha (by decide)
    have hc : (nI a).toNatClampNeg = a := nI_clamp (by omega)
    refine bk_X12_notes_22 (mm_call_m _) hv (fun _ => hv) (fun z => ?_) (fun z => ?_)
    · rw [hc] at z ⊢
      exact hQ a ha z
    · rw [hc] at z
      rw [mm_nxt ha]
      match j, hz0 with
      | 0, hz0 =>
        rw [show (a + 0) % 16384 = a by omega] at hz0
        exact absurd hz0 z
      | j + 1, hz0 =>
        refine notes_loop hQ j ((a + 1) % 16384) (by omega) ?_
        rw [show ((a + 1) % 16384 + j) % 16384 = (a + (j + 1)) % 16384 by omega]
        exact hz0
theorem sp_notes {t : Int32} (ht : 0 ≤ t.toInt ∧ t.toInt < 8000) (hn : hz (mi 184) 16384 < 16384) (hQ : ∀ k, k < 16384 → mi 184 k = 0 → Q none (mm_u mi 184 k (t + 1)) ml) : mm_cq (mm_call mm_ms (mm_tb L xs) (d + 2)) 168 [mm_R 176, mm_I t] mi ml Q := by
  have hv : vp_in t 8000 := mm_vpr ht
  refine en_X12_notes (bk_X12_notes_0 (mm_call_m _) hv hv hv (sp_mixed (bk_X12_notes_21 (mm_call_m _) ?_)))
  obtain ⟨r0, r1⟩ := f_mx_r (mi 177 t.toNatClampNeg) (mi 178 t.toNatClampNeg) (mi 179 t.toNatClampNeg)
  obtain ⟨a, ea, ha, -, -⟩ := mm_of r0 r1
  obtain ⟨z, hz1, hz2⟩ := hz_ex hn
  rw [ea]
  refine notes_loop hQ ((z + 16384 - a) % 16384) a (by omega) ?_
  rw [show (a + (z + 16384 - a) % 16384) % 16384 = z by omega]
  exact hz2
/-- entries of the table are numbers of types below B, one more -/
def tbR (m : mm_P) (B : Int) : Prop := ∀ k, k < 16384 → ¬ m 184 k = 0 → 1 ≤ (m 184 k).toInt ∧ (m 184 k).toInt ≤ B
theorem known_loop {s a b : Int32} {B : Int} (hB : B ≤ 8000) (hT : tbR mi B) (h0 : Q (some (mm_I (-1))) mi ml) (h1 : ∀ k, k < 16384 → ¬ mi 184 k = 0 → mi 177 (mi 184 k - 1).toNatClampNeg = s → mi 178 (mi 184 k - 1).toNatClampNeg = a → mi 179 (mi 184 k - 1).toNatClampNeg = b → Q (some (mm_I (mi 184 k - 1))) mi ml) : ∀ (j i : Nat) {x5 : Option mm_V}, i < 16384 → mi 184 ((i + j) % 16384) = 0 → mm_WQ (mm_call mm_ms (mm_tb L xs) d) (mm_tb L xs) mm_m169 lim Q 8 [some (mm_R 176), some (mm_I s), some (mm_I a), some (mm_I b), some (mm_I (nI i)), x5] [] mi ml
  | j, i, x5, hi, hz0 => by
    have hv : vp_in (nI i) 16384 := vp_in_nI hi (by decide)
    have hc : (nI i).toNatClampNeg = i := nI_clamp (by omega)
    have hgo : ¬ mi 184 i = 0 → ∀ {y : Int32}, mm_WQ (mm_call mm_ms (mm_tb L xs) d) (mm_tb L xs) mm_m169 lim Q 65 [some (mm_R 176), some (mm_I s), some (mm_I a), some (mm_I b), some (mm_I (nI i)), some (mm_I y)] [] mi ml := by
      intro z y
      refine bk_X12_known_65 (mm_call_m _) ?_
      rw [mm_nxt hi]
      match j, hz0 with
      | 0, hz0 =>
        rw [show (i + 0) % 16384 = i by omega] at hz0
        exact absurd hz0 z
      | j + 1, hz0 =>
        refine known_loop hB hT h0 h1 j ((i + 1) % 16384) (by omega) ?_
        rw [show ((i + 1) % 16384 + j) % 16384 = (i + (j + 1)) % 16384 by omega]
        exact hz0
    have hv8 : ¬ mi 184 i = 0 → vp_in (mi 184 i - 1) 8000 := fun z => by
      have := hT i hi z
      refine mm_vpr ?_
      rw [mm_sub1 (by omega)]
      omega
    refine bk_X12_known_8 (mm_call_m _) hv ?_ ?_ ?_ ?_ ?_ ?_ ?_ ?_ ?_ <;> rw [hc]
    · exact fun _ => h0
    · exact fun _ => hv
    · exact hv8
    · exact fun z _ => hgo z
    · exact fun z _ => hv8 z
    · exact fun z _ _ => hgo z
    · exact fun z _ _ => hv8 z
    · exact fun z _ _ _ => hgo z
    · exact fun z c1 c2 c3 => h1 i hi z c1 c2 c3
theorem sp_known {s a b : Int32} {B : Int} (hB : B ≤ 8000) (hT : tbR mi B) (hn : hz (mi 184) 16384 < 16384) (h0 : Q (some (mm_I (-1))) mi ml) (h1 : ∀ k, k < 16384 → ¬ mi 184 k = 0 → mi 177 (mi 184 k - 1).toNatClampNeg = s → mi 178 (mi 184 k - 1).toNatClampNeg = a → mi 179 (mi 184 k - 1).toNatClampNeg = b → Q (some (mm_I (mi 184 k - 1))) mi ml) : mm_cq (mm_call mm_ms (mm_tb L xs) (d + 2)) 169 [mm_R 176, mm_I s, mm_I a, mm_I b] mi ml Q := by
  refine en_X12_known (bk_X12_known_0 (mm_call_m _) (sp_mixed (bk_X12_known_6 (mm_call_m _) ?_)))
  obtain ⟨r0, r1⟩ := f_mx_r s a b
  obtain ⟨i, ei, hi, -, -⟩ := mm_of r0 r1
  obtain ⟨z, hz1, hz2⟩ := hz_ex hn
  rw [ei]
  refine known_loop hB hT h0 h1 ((z + 16384 - i) % 16384) i (by omega) ?_
  rw [show (i + (z + 16384 - i) % 16384) % 16384 = z by omega]
  exact hz2
/-- behind forgets(): only the numbered are in the table -/
def mm_fg (m n : mm_P) (N : Nat) : Prop := (∀ a b, ¬ a = 184 → ¬ (a = 176 ∧ b = 1) → n a b = m a b) ∧ n 176 1 = 200 ∧ hz (n 184) 16384 ≤ N ∧ tbR n N
theorem fg_note {m n : mm_P} {N k : Nat} (h : mm_fg m n N) (hN : N < 2 ^ 31 - 1) (hk : k < 16384) : mm_fg m (mm_u n 184 k (nI N + 1)) (N + 1) := by
  obtain ⟨h1, h2, h3, h4⟩ := h
  have e : nI N + 1 = nI (N + 1) := (nI_succ N).symm
  have e2 : (nI (N + 1)).toInt = ((N + 1 : Nat) : Int) := mm_tI (by omega)
  refine ⟨fun a b q1 q2 => by rw [mm_u_e q1]; exact h1 a b q1 q2, by rw [mm_u_e (by decide)]; exact h2, ?_, fun j hj hz0 => ?_⟩
  · have := hz_up (f := n 184) (g := mm_u n 184 k (nI N + 1) 184) (i := k) (fun j hj => mm_u_f hj) (n := 16384)
    omega
  · by_cases hjk : j = k
    · subst hjk
      rw [mm_u_s, e, e2]
      omega
    · rw [mm_u_f hjk] at hz0 ⊢
      have := h4 j hj hz0
      omega
theorem forgets_2 {N : Nat} {m0 : mm_P} (hN : (m0 176 0).toInt = N) (hN2 : N ≤ 200) (hQ : ∀ n, mm_fg m0 n N → Q none n ml) : ∀ (j i : Nat) (n : mm_P), i + j = N → mm_fg m0 n i → mm_WQ (mm_call mm_ms (mm_tb L xs) (d + 2)) (mm_tb L xs) mm_m167 lim Q 31 [some (mm_R 176), some (mm_I (nI i))] [] n ml
  | j, i, n, hj, hf => by
    have hn0 : n 176 0 = m0 176 0 := hf.1 176 0 (by decide) (by decide)
    have hi : (nI i).toInt = i := mm_tI (by omega)
    refine bk_X12_forgets_31 (mm_call_m _) (fun z => ?_) (fun z => ?_)
    · rw [hn0, Int32.le_iff_toInt_le, hN, hi] at z
      have : i = N := by omega
      subst this
      exact hQ n hf
    · rw [hn0, Int32.le_iff_toInt_le, hN, hi] at z
      match j, hj with
      | 0, hj => omega
      | j + 1, hj =>
        refine sp_notes (by rw [hi]; omega) (by have := hf.2.2.1; omega) (fun k hk _ => bk_X12_forgets_44 (mm_call_m _) ?_)
        rw [show nI i + 1 = nI (i + 1) from (nI_succ i).symm]
        refine forgets_2 hN hN2 hQ j (i + 1) _ (by omega) ?_
        have := fg_note hf (by omega) hk
        rw [show nI i + 1 = nI (i + 1) from (nI_succ i).symm] at this
        exact this
theorem forgets_1 {m0 : mm_P} (hW : ∀ n, mm_fg m0 n 0 → mm_WQ (mm_call mm_ms (mm_tb L xs) d) (mm_tb L xs) mm_m167 lim Q 31 [some (mm_R 176), some (mm_I 0)] [] n ml) : ∀ (j i : Nat) (n : mm_P), i + j = 16384 → (∀ a b, ¬ a = 184 → ¬ (a = 176 ∧ b = 1) → n a b = m0 a b) → n 176 1 = 200 → (∀ k, k < i → n 184 k = 0) → mm_WQ (mm_call mm_ms (mm_tb L xs) d) (mm_tb L xs) mm_m167 lim Q 9 [some (mm_R 176), some (mm_I (nI i))] [] n ml
  | j, i, n, hj, h1, h2, h3 => by
    have hi : (nI i).toInt = i := mm_tI (by omega)
    have e : (16384 : Int32).toInt = 16384 := rfl
    refine bk_X12_forgets_9 (mm_call_m _) (fun z => ?_) (fun z => ?_) (fun z => ?_)
    · rw [Int32.le_iff_toInt_le, e, hi] at z
      refine hW n ⟨h1, h2, ?_, fun k hk hz0 => absurd (h3 k (by omega)) hz0⟩
      rw [hz_zero (fun k hk => h3 k (by omega))]
      exact Nat.le_refl _
    · rw [Int32.le_iff_toInt_le, e, hi] at z
      exact vp_in_nI (by omega) (by decide)
    · rw [Int32.le_iff_toInt_le, e, hi] at z
      match j, hj with
      | 0, hj => omega
      | j + 1, hj =>
        rw [show nI i + 1 = nI (i + 1) from (nI_succ i).symm, nI_clamp (show i < 2 ^ 31 by omega)]
        refine forgets_1 hW j (i + 1) _ (by omega) (fun a b q1 q2 => by rw [mm_u_e q1]; exact h1 a b q1 q2) (by rw [mm_u_e (by decide)]; exact h2) (fun k hk => ?_)
        by_cases hki : k = i
        · subst hki
          exact mm_u_s
        · rw [mm_u_f hki]
          exact h3 k (by omega)
theorem sp_forgets {N : Nat} (hN : (mi 176 0).toInt = N) (hN2 : N ≤ 200) (hQ : ∀ n, mm_fg mi n N → Q none n ml) : mm_cq (mm_call mm_ms (mm_tb L xs) (d + 3)) 167 [mm_R 176] mi ml Q := by
  refine en_X12_forgets (bk_X12_forgets_0 (mm_call_m _) (forgets_1 (m0 := mi) (fun n hf => forgets_2 hN hN2 hQ N 0 n (by omega) hf) 16384 0 _ (by omega) (fun a b q1 q2 => ?_) mm_u_s (fun k hk => absurd hk (Nat.not_lt_zero _))))
  unfold mm_u
  split
  · rename_i h1
    split
    · rename_i h2
      exact absurd ⟨h1, h2⟩ q2
    · rfl
  · rfl
end MMH
