/-! ===== bits of numbers (from the kit's rows) ===== -/
def bb_t (x : Int32) (i : Nat) : Bool := x.toBitVec.getLsbD i
theorem bb_ext {x y : Int32} (h : ∀ i, i < 32 → bb_t x i = bb_t y i) : x = y := Int32.toBitVec_inj.mp (BitVec.eq_of_getLsbD_eq (fun i hi => h i hi))
theorem bb_or (x y : Int32) (i : Nat) : bb_t (x ||| y) i = (bb_t x i || bb_t y i) := by unfold bb_t; rw [Int32.toBitVec_or, BitVec.getLsbD_or]
theorem bb_and (x y : Int32) (i : Nat) : bb_t (x &&& y) i = (bb_t x i && bb_t y i) := by unfold bb_t; rw [Int32.toBitVec_and, BitVec.getLsbD_and]
theorem bb_xor (x y : Int32) (i : Nat) : bb_t (x ^^^ y) i = (bb_t x i ^^ bb_t y i) := by unfold bb_t; rw [Int32.toBitVec_xor, BitVec.getLsbD_xor]
theorem bb_big {x : Int32} {i : Nat} (h : 32 ≤ i) : bb_t x i = false := BitVec.getLsbD_of_ge _ _ h
theorem bb_255 (i : Nat) : bb_t 255 i = decide (i < 8) := by
  rcases Nat.lt_or_ge i 32 with h | h
  · exact (by decide +kernel : ∀ i, i < 32 → bb_t 255 i = decide (i < 8)) i h
  · rw [bb_big h, decide_eq_false (by omega)]
theorem bb_65535 (i : Nat) : bb_t 65535 i = decide (i < 16) := by
  rcases Nat.lt_or_ge i 32 with h | h
  · exact (by decide +kernel : ∀ i, i < 32 → bb_t 65535 i = decide (i < 16)) i h
  · rw [bb_big h, decide_eq_false (by omega)]
theorem bb_m1 : ∀ i, i < 32 → bb_t (-1) i = true := by decide +kernel
theorem bb_0 (i : Nat) : bb_t 0 i = false := BitVec.getLsbD_zero
theorem bb_sl : ∀ n, n < 32 → ((nI n &&& 31).toBitVec.smod 32).toNat = n := by decide +kernel
theorem bb_su : ∀ n, n < 32 → (((nI n).toUInt32 &&& Int32.toUInt32 31).toBitVec % 32).toNat = n := by decide +kernel
theorem bb_shl (n : Nat) (hn : n < 32) (x : Int32) {i : Nat} (hi : i < 32) : bb_t (x <<< (nI n &&& 31)) i = (decide (n ≤ i) && bb_t x (i - n)) := by
  unfold bb_t
  rw [Int32.toBitVec_shiftLeft]
  show (x.toBitVec <<< ((nI n &&& 31).toBitVec.smod 32).toNat).getLsbD i = _
  rw [bb_sl n hn, BitVec.getLsbD_shiftLeft]
  rcases Nat.lt_or_ge i n with h | h
  · simp [h, Nat.not_le.mpr h]
  · simp [hi, h, Nat.not_lt.mpr h]
theorem bb_ushr (n : Nat) (hn : n < 32) (x : Int32) (i : Nat) : bb_t ((x.toUInt32 >>> ((nI n).toUInt32 &&& Int32.toUInt32 31)).toInt32) i = bb_t x (n + i) := by
  show (x.toUInt32 >>> ((nI n).toUInt32 &&& Int32.toUInt32 31)).toBitVec.getLsbD i = x.toUInt32.toBitVec.getLsbD (n + i)
  rw [UInt32.toBitVec_shiftRight]
  show (x.toUInt32.toBitVec >>> (((nI n).toUInt32 &&& Int32.toUInt32 31).toBitVec % 32).toNat).getLsbD i = _
  rw [bb_su n hn, BitVec.getLsbD_ushiftRight]
theorem bb_sshr (n : Nat) (hn : n < 32) (x : Int32) {i : Nat} (hi : i < 32) : bb_t (x >>> (nI n &&& 31)) i = if n + i < 32 then bb_t x (n + i) else bb_t x 31 := by
  unfold bb_t
  rw [Int32.toBitVec_shiftRight]
  show (x.toBitVec.sshiftRight ((nI n &&& 31).toBitVec.smod 32).toNat).getLsbD i = _
  rw [bb_sl n hn, BitVec.getLsbD_sshiftRight, BitVec.msb_eq_getLsbD_last]
  simp [hi]
/-! ===== reachedBy() of the class ===== -/
theorem bb_one : ∀ i, i < 32 → bb_t 1 i = decide (i = 0) := by decide +kernel
theorem bb_sh1 : ∀ g, g < 12 → ∀ h, h < 12 → bb_t ((1 : Int32) <<< (nI g &&& 31)) h = decide (h = g) := by decide +kernel
theorem bb_b0 (x : Int32) {g : Nat} (hg : g < 32) : bb_t ((x >>> (nI g &&& 31)) &&& 1) 0 = bb_t x g := by
  rw [bb_and, bb_one 0 (by decide), bb_sshr g hg x (by decide), if_pos (by omega)]
  simp
/-- the test of a bit -/
theorem bb_iff {x : Int32} {g : Nat} (hg : g < 32) : ((x >>> (nI g &&& 31)) &&& 1) = 0 ↔ bb_t x g = false := by
  constructor
  · intro h
    rw [← bb_b0 x hg, h]
    exact bb_0 0
  · intro h
    refine bb_ext (fun i hi => ?_)
    rw [bb_0]
    by_cases h0 : i = 0
    · rw [h0, bb_b0 x hg]
      exact h
    · rw [bb_and, bb_one i hi, decide_eq_false h0, Bool.and_false]
theorem bb_val {x : Int32} {g : Nat} (hg : g < 32) (h : bb_t x g = true) : ((x >>> (nI g &&& 31)) &&& 1) = 1 := by
  refine bb_ext (fun i hi => ?_)
  by_cases h0 : i = 0
  · rw [h0, bb_b0 x hg, h]
    rfl
  · rw [bb_and, bb_one i hi, decide_eq_false h0, Bool.and_false]
theorem bb_nt {x : Int32} {g : Nat} (hg : g < 32) (h : ¬ ((x >>> (nI g &&& 31)) &&& 1) = 0) : bb_t x g = true := by
  cases e : bb_t x g with
  | true => rfl
  | false => exact absurd ((bb_iff hg).mpr e) h
theorem bb_ort {x y : Int32} {g : Nat} : bb_t (x ||| y) g = true ↔ (bb_t x g = true ∨ bb_t y g = true) := by
  rw [bb_or, Bool.or_eq_true]
theorem bb_z {g : Nat} : ¬ bb_t 0 g = true := by
  rw [bb_0]
  decide
/-- reached from f over edges: the least closed set -/
def RCH (E : Nat → Nat → Prop) (f g : Nat) : Prop := ∀ S : Nat → Prop, (∀ g, g < 12 → E f g → S g) → (∀ h g, h < 12 → g < 12 → S h → E h g → S g) → S g
theorem RCH_1 {E : Nat → Nat → Prop} {f g : Nat} (hg : g < 12) (h : E f g) : RCH E f g := fun _ h1 _ => h1 g hg h
theorem RCH_s {E : Nat → Nat → Prop} {f h g : Nat} (hh : h < 12) (hg : g < 12) (h1 : RCH E f h) (h2 : E h g) : RCH E f g := fun S a b => b h g hh hg (h1 S a b) h2
theorem RCH_t {E : Nat → Nat → Prop} {f h g : Nat} (hh : h < 12) (h1 : RCH E f h) (h2 : RCH E h g) : RCH E f g := fun S a b => h2 S (fun k hk q => b h k hh hk (h1 S a b) q) b
theorem RCH_m {E E' : Nat → Nat → Prop} {f g : Nat} (hf : f < 12) (he : ∀ a b, a < 12 → b < 12 → E a b → E' a b) (h : RCH E f g) : RCH E' f g := fun S a b => h S (fun k hk q => a k hk (he f k hf hk q)) (fun x y hx hy s q => b x y hx hy s (he x y hx hy q))
theorem RCH_c {E E' : Nat → Nat → Prop} {f g : Nat} (hf : f < 12) (he : ∀ a b, a < 12 → b < 12 → (E a b ↔ E' a b)) : RCH E f g ↔ RCH E' f g :=
  ⟨RCH_m hf (fun a b ha hb => (he a b ha hb).mp), RCH_m hf (fun a b ha hb => (he a b ha hb).mpr)⟩
/-- how many of the first k bits are set -/
def bb_c (x : Int32) : Nat → Nat
  | 0 => 0
  | k + 1 => bb_c x k + if bb_t x k = true then 1 else 0
theorem bb_cle (x : Int32) : ∀ k, bb_c x k ≤ k
  | 0 => Nat.le_refl _
  | k + 1 => by
    have := bb_cle x k
    unfold bb_c
    split <;> omega
theorem bb_cm {x y : Int32} : ∀ k, (∀ g, g < k → bb_t x g = true → bb_t y g = true) → bb_c x k ≤ bb_c y k
  | 0, _ => Nat.le_refl _
  | k + 1, h => by
    have h1 := bb_cm k (fun g hg => h g (by omega))
    unfold bb_c
    by_cases a : bb_t x k = true
    · rw [if_pos a, if_pos (h k (by omega) a)]
      omega
    · rw [if_neg a]
      omega
theorem bb_cm1 {x y : Int32} : ∀ k, (∀ g, g < k → bb_t x g = true → bb_t y g = true) → (∃ g, g < k ∧ bb_t y g = true ∧ ¬ bb_t x g = true) → bb_c x k + 1 ≤ bb_c y k
  | 0, _, ⟨_, h, _⟩ => absurd h (Nat.not_lt_zero _)
  | k + 1, h, ⟨g, g1, g2, g3⟩ => by
    by_cases hk : g = k
    · subst hk
      have h1 := bb_cm g (fun g hg => h g (by omega))
      unfold bb_c
      rw [if_neg g3, if_pos g2]
      omega
    · have h1 := bb_cm1 k (fun g hg => h g (by omega)) ⟨g, by omega, g2, g3⟩
      unfold bb_c
      by_cases a : bb_t x k = true
      · rw [if_pos a, if_pos (h k (by omega) a)]
        omega
      · rw [if_neg a]
        omega
theorem bb_call {x : Int32} : ∀ k, k ≤ bb_c x k → ∀ g, g < k → bb_t x g = true
  | 0, _, _, h => absurd h (Nat.not_lt_zero _)
  | k + 1, h, g, hg => by
    have h1 := bb_cle x k
    unfold bb_c at h
    by_cases a : bb_t x k = true
    · rw [if_pos a] at h
      by_cases hk : g = k
      · rw [hk]
        exact a
      · exact bb_call k (by omega) g (by omega)
    · rw [if_neg a] at h
      omega
/-- the uses that stand -/
def EU (m : mm_P) (h g : Nat) : Prop := bb_t (m 16 h) g = true
def RBI (m : mm_P) (x0 x : Int32) (i : Nat) : Prop := (∀ g, g < 12 → bb_t x0 g = true → bb_t x g = true) ∧ (∀ S : Nat → Prop, (∀ g, g < 12 → bb_t x0 g = true → S g) → (∀ h g, h < 12 → g < 12 → S h → EU m h g → S g) → ∀ g, g < 12 → bb_t x g = true → S g) ∧ (∀ h, h < i → h < 12 → bb_t x0 h = true → ∀ g, g < 12 → EU m h g → bb_t x g = true)
def RBC (m : mm_P) (x : Int32) : Prop := ∀ h g, h < 12 → g < 12 → bb_t x h = true → EU m h g → bb_t x g = true
section MMT
variable {L : Nat} {xs : Nat → Int32} {d : Nat} {Q : mm_QQ} {mi : mm_P} {ml : mm_G} {lim : Nat × Nat}
theorem rb_30 {x0 x1 x3 : Int32} (hK : ∀ x x4, RBI mi x0 x 12 → mm_WQ (mm_call mm_ms (mm_tb L xs) d) (mm_tb L xs) mm_m32 lim Q 21 [some (mm_R 9), some (mm_I x1), some (mm_I x), some (mm_I (x3 + 1)), some (mm_I x4)] [] mi ml) : ∀ (j i : Nat) (x : Int32), i + j = 12 → RBI mi x0 x i → mm_WQ (mm_call mm_ms (mm_tb L xs) d) (mm_tb L xs) mm_m32 lim Q 30 [some (mm_R 9), some (mm_I x1), some (mm_I x), some (mm_I x3), some (mm_I (nI i))] [] mi ml := by
  intro j
  induction j with
  | zero =>
    intro i x h hR
    have hi : i = 12 := by omega
    subst hi
    exact bk_X2_reachedBy_30 (mm_call_m _) (fun _ => hK x _ hR) (fun z => absurd (by decide) z) (fun z => absurd (by decide) z) (fun z => absurd (by decide) z)
  | succ j ih =>
    intro i x h hR
    have hi : i < 12 := by omega
    have ei : (nI i).toNatClampNeg = i := nI_clamp (by omega)
    have hlt : ¬ (12 : Int32) ≤ nI i := by
      rw [Int32.le_iff_toInt_le, mm_tI (by omega), mm_tt12]
      omega
    obtain ⟨r1, r2, r3⟩ := id hR
    refine bk_X2_reachedBy_30 (mm_call_m _) (fun z => absurd z hlt) (fun _ z => bk_X2_reachedBy_56 (mm_call_m _) ?_) (fun _ _ => vp_in_nI hi (by decide)) (fun _ z => bk_X2_reachedBy_56 (mm_call_m _) ?_) <;> rw [show nI i + 1 = nI (i + 1) from (nI_succ i).symm]
    · have hz := (bb_iff (by omega)).mp z
      refine ih (i + 1) x (by omega) ⟨r1, r2, fun k hk k2 hx g hg he => ?_⟩
      by_cases hki : k = i
      · rw [hki] at hx
        rw [r1 i hi hx] at hz
        cases hz
      · exact r3 k (by omega) k2 hx g hg he
    · have hz := bb_nt (by omega) z
      rw [ei]
      refine ih (i + 1) _ (by omega) ⟨fun g hg hx => bb_ort.mpr (.inl (r1 g hg hx)), fun S s1 s2 g hg hx => ?_, fun k hk k2 hx g hg he => bb_ort.mpr ?_⟩
      · rcases bb_ort.mp hx with q | q
        · exact r2 S s1 s2 g hg q
        · exact s2 i g hi hg (r2 S s1 s2 i hi hz) q
      · by_cases hki : k = i
        · subst hki
          exact .inr he
        · exact .inl (r3 k (by omega) k2 hx g hg he)
theorem rb_21 {f : Nat} {x1 s : Int32} (hQ : ∀ x, (∀ g, g < 12 → bb_t s g = true → bb_t x g = true) → (∀ S : Nat → Prop, (∀ g, g < 12 → bb_t s g = true → S g) → (∀ h g, h < 12 → g < 12 → S h → EU mi h g → S g) → ∀ g, g < 12 → bb_t x g = true → S g) → RBC mi x → Q (some (mm_I x)) mi ml) : ∀ (j r : Nat) (x : Int32) {x4 : Option mm_V}, r + j = 12 → (∀ g, g < 12 → bb_t s g = true → bb_t x g = true) → (∀ S : Nat → Prop, (∀ g, g < 12 → bb_t s g = true → S g) → (∀ h g, h < 12 → g < 12 → S h → EU mi h g → S g) → ∀ g, g < 12 → bb_t x g = true → S g) → (RBC mi x ∨ r ≤ bb_c x 12) → mm_WQ (mm_call mm_ms (mm_tb L xs) d) (mm_tb L xs) mm_m32 lim Q 21 [some (mm_R 9), some (mm_I x1), some (mm_I x), some (mm_I (nI r)), x4] [] mi ml := by
  intro j
  induction j with
  | zero =>
    intro r x x4 h h1 h2 h3
    have hr : r = 12 := by omega
    subst hr
    exact bk_X2_reachedBy_21 (mm_call_m _) (fun _ => hQ x h1 h2 (h3.elim id (fun q a b _ hb _ _ => bb_call 12 q b hb))) (fun z => absurd (by decide) z)
  | succ j ih =>
    intro r x x4 h h1 h2 h3
    have hlt : ¬ (12 : Int32) ≤ nI r := by
      rw [Int32.le_iff_toInt_le, mm_tI (by omega), mm_tt12]
      omega
    refine bk_X2_reachedBy_21 (mm_call_m _) (fun z => absurd z hlt) (fun _ => rb_30 (x0 := x) (fun x' x4' hR => ?_) 12 0 x (by omega) ⟨fun _ _ q => q, fun S s1 _ g hg hx => s1 g hg hx, fun k hk => absurd hk (Nat.not_lt_zero _)⟩)
    obtain ⟨r1, r2, r3⟩ := hR
    rw [show nI r + 1 = nI (r + 1) from (nI_succ r).symm]
    refine ih (r + 1) x' (by omega) (fun g hg hx => r1 g hg (h1 g hg hx)) (fun S s1 s2 g hg hx => r2 S (fun g hg hx => h2 S s1 s2 g hg hx) s2 g hg hx) ?_
    by_cases hs : ∃ g, g < 12 ∧ bb_t x' g = true ∧ ¬ bb_t x g = true
    · refine .inr ?_
      rcases h3 with q | q
      · obtain ⟨g, g1, g2, g3⟩ := hs
        exact absurd (r2 (fun g => bb_t x g = true) (fun _ _ y => y) (fun a b ha hb y e => q a b ha hb y e) g g1 g2) g3
      · have := bb_cm1 12 (fun g hg => r1 g hg) hs
        omega
    · refine .inl (fun a b ha hb y e => r3 a ha ha ?_ b hb e)
      by_cases c : bb_t x a = true
      · exact c
      · exact absurd ⟨a, ha, y, c⟩ hs
/-- reachedBy(): a bit for each function that is reached -/
theorem sx_reachedBy {f NF : Nat} (h97 : mi 9 7 = nI NF) (hNF : NF ≤ 12) (hf : f < 12) (hE : ¬ f < NF → ∀ g, g < 12 → ¬ EU mi f g) (hQ : ∀ x, (∀ g, g < 12 → (bb_t x g = true ↔ RCH (EU mi) f g)) → Q (some (mm_I x)) mi ml) : mm_cq (mm_call mm_ms (mm_tb L xs) (d + 2)) 32 [mm_R 9, mm_I (nI f)] mi ml Q := by
  have ef : (nI f).toNatClampNeg = f := nI_clamp (by omega)
  have hgo : ∀ s : Int32, (∀ g, g < 12 → (bb_t s g = true ↔ EU mi f g)) → ∀ {x1 : Int32} {x4 : Option mm_V}, mm_WQ (mm_call mm_ms (mm_tb L xs) (d + 1)) (mm_tb L xs) mm_m32 (mm_li mm_m32) Q 21 [some (mm_R 9), some (mm_I x1), some (mm_I s), some (mm_I (nI 0)), x4] [] mi ml := fun s hs {x1 x4} => by
    refine rb_21 (s := s) (f := f) (fun x a b c => hQ x (fun g hg => ⟨fun q S s1 s2 => b S (fun g hg y => s1 g hg ((hs g hg).mp y)) s2 g hg q, fun q => q (fun g => bb_t x g = true) (fun g hg y => a g hg ((hs g hg).mpr y)) (fun k l hk hl y e => c k l hk hl y e)⟩)) 12 0 s (by omega) (fun _ _ q => q) (fun S s1 _ g hg q => s1 g hg q) (.inr (Nat.zero_le _))
  refine en_X2_reachedBy (bk_X2_reachedBy_0 (mm_call_m _) (sx_has2 h97 hNF (fun t t1 t2 => bk_X2_reachedBy_5 (s0 := 1) (mm_call_m _) (fun z => absurd z (by decide)) (fun _ => vp_in_nI hf (by decide)) (fun _ => ?_)) (fun q => bk_X2_reachedBy_5 (s0 := 0) (mm_call_m _) (fun _ => ?_) (fun z => absurd rfl z) (fun z => absurd rfl z))))
  · rw [ef]
    exact hgo (mi 16 f) (fun _ _ => Iff.rfl)
  · have hno : ¬ f < NF := fun y => q f y rfl
    exact hgo 0 (fun g hg => ⟨fun y => absurd y bb_z, fun y => absurd y (hE hno g hg)⟩)
end MMT
