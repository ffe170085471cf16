/-! ===== values of the reference and of the machine with letters ===== -/
/-- heap of the reference, cells of the machine, where the reference's cells lie, value, value -/
abbrev LR : Type := HF → HF → Nat → HF → (Nat → Nat) → Int32 → Int32 → Prop
def lI : LR := fun _ _ _ _ _ v x => x = v
def lT : LR := fun _ _ _ _ _ v x => x = v ∧ (v = 0 ∨ v = 1)
def lP (P R : LR) : LR := fun A B h K φ v x => ∃ a, a < h ∧ v = nI a ∧ x = nI (φ a) ∧ P A B h K φ (A a) (K (φ a)) ∧ R A B h K φ (B a) (K (φ a + 1))
def lLn (P : LR) : Nat → LR
  | 0 => fun _ _ _ _ _ v x => v = -1 ∧ x = 0
  | n + 1 => fun A B h K φ v x => (v = -1 ∧ x = 0) ∨ ∃ a, a < h ∧ v = nI a ∧ x = nI (φ a) ∧ P A B h K φ (A a) (K (φ a + 1)) ∧ lLn P n A B h K φ (B a) (K (φ a))
def lL (P : LR) : LR := fun A B h K φ v x => ∃ n, lLn P n A B h K φ v x
def gL : ALG LR := (lP, lL, lI, lT)
/-- the old cells are as they were -/
def LE (A B : HF) (h : Nat) (K : HF) (φ : Nat → Nat) (A' B' : HF) (h' : Nat) (K' : HF) (φ' : Nat → Nat) : Prop := h ≤ h' ∧ ∀ a, a < h → A' a = A a ∧ B' a = B a ∧ φ' a = φ a ∧ K' (φ a) = K (φ a) ∧ K' (φ a + 1) = K (φ a + 1)
def mLR (S : LR) : Prop := ∀ A B h K φ A' B' h' K' φ', LE A B h K φ A' B' h' K' φ' → ∀ v x, S A B h K φ v x → S A' B' h' K' φ' v x
theorem LE_r {A B K : HF} {h : Nat} {φ : Nat → Nat} : LE A B h K φ A B h K φ := ⟨Nat.le_refl _, fun _ _ => ⟨rfl, rfl, rfl, rfl, rfl⟩⟩
theorem LE_t {A B K A' B' K' A2 B2 K2 : HF} {h h' h2 : Nat} {φ φ' φ2 : Nat → Nat} (a : LE A B h K φ A' B' h' K' φ') (b : LE A' B' h' K' φ' A2 B2 h2 K2 φ2) : LE A B h K φ A2 B2 h2 K2 φ2 := by
  refine ⟨Nat.le_trans a.1 b.1, fun i hi => ?_⟩
  obtain ⟨a1, a2, a3, a4, a5⟩ := a.2 i hi
  obtain ⟨b1, b2, b3, b4, b5⟩ := b.2 i (Nat.lt_of_lt_of_le hi a.1)
  rw [a3] at b4 b5
  exact ⟨b1.trans a1, b2.trans a2, b3.trans a3, b4.trans a4, b5.trans a5⟩
theorem mLR_I : mLR lI := fun _ _ _ _ _ _ _ _ _ _ _ _ _ h => h
theorem mLR_T : mLR lT := fun _ _ _ _ _ _ _ _ _ _ _ _ _ h => h
theorem mLR_P {P R : LR} (hP : mLR P) (hR : mLR R) : mLR (lP P R) := fun A B h K φ A' B' h' K' φ' e v x ⟨a, a1, a2, a3, a4, a5⟩ => by
  obtain ⟨e1, e2, e3, e4, e5⟩ := e.2 a a1
  refine ⟨a, Nat.lt_of_lt_of_le a1 e.1, a2, by rw [e3]; exact a3, ?_, ?_⟩
  · rw [e1, e3, e4]
    exact hP _ _ _ _ _ _ _ _ _ _ e _ _ a4
  · rw [e2, e3, e5]
    exact hR _ _ _ _ _ _ _ _ _ _ e _ _ a5
theorem mLR_Ln {P : LR} (hP : mLR P) : ∀ n, mLR (lLn P n)
  | 0 => fun _ _ _ _ _ _ _ _ _ _ _ _ _ h => h
  | n + 1 => fun A B h K φ A' B' h' K' φ' e v x q => by
    rcases q with q | ⟨a, a1, a2, a3, a4, a5⟩
    · exact .inl q
    · obtain ⟨e1, e2, e3, e4, e5⟩ := e.2 a a1
      refine .inr ⟨a, Nat.lt_of_lt_of_le a1 e.1, a2, by rw [e3]; exact a3, ?_, ?_⟩
      · rw [e1, e3, e5]
        exact hP _ _ _ _ _ _ _ _ _ _ e _ _ a4
      · rw [e2, e3, e4]
        exact mLR_Ln hP n _ _ _ _ _ _ _ _ _ _ e _ _ a5
theorem mLR_L {P : LR} (hP : mLR P) : mLR (lL P) := fun A B h K φ A' B' h' K' φ' e v x ⟨n, q⟩ => ⟨n, mLR_Ln hP n _ _ _ _ _ _ _ _ _ _ e v x q⟩
theorem lL_nil {P : LR} {A B K : HF} {h : Nat} {φ : Nat → Nat} : lL P A B h K φ (-1) 0 := ⟨0, rfl, rfl⟩
theorem lL_link {P : LR} {A B K : HF} {h a : Nat} {φ : Nat → Nat} (ha : a < h) (h1 : P A B h K φ (A a) (K (φ a + 1))) (h2 : lL P A B h K φ (B a) (K (φ a))) : lL P A B h K φ (nI a) (nI (φ a)) := by
  obtain ⟨n, q⟩ := h2
  exact ⟨n + 1, .inr ⟨a, ha, rfl, rfl, h1, q⟩⟩
theorem lL_get {P : LR} {A B K : HF} {h : Nat} {φ : Nat → Nat} {v x : Int32} (q : lL P A B h K φ v x) : (v = -1 ∧ x = 0) ∨ ∃ a, a < h ∧ v = nI a ∧ x = nI (φ a) ∧ P A B h K φ (A a) (K (φ a + 1)) ∧ lL P A B h K φ (B a) (K (φ a)) := by
  obtain ⟨n, q⟩ := q
  cases n with
  | zero => exact .inl q
  | succ n =>
    rcases q with q | ⟨a, a1, a2, a3, a4, a5⟩
    · exact .inl q
    · exact .inr ⟨a, a1, a2, a3, a4, n, a5⟩
theorem GV_m {w : mm_P} {SA SB : LR} (hA : mLR SA) (hB : mLR SB) : ∀ k t, mLR (GV gL w SA SB k t)
  | 0, _ => mLR_I
  | k + 1, t => by
    unfold GV
    split
    · exact mLR_P (GV_m hA hB k _) (GV_m hA hB k _)
    · split
      · exact mLR_L (GV_m hA hB k _)
      · split
        · exact hA
        · split
          · exact hB
          · split
            · exact mLR_T
            · exact mLR_I
theorem GVt_m {w : mm_P} {SA SB : LR} (hA : mLR SA) (hB : mLR SB) (t : Nat) : mLR (GVt gL w SA SB t) := GV_m hA hB _ _
theorem NG_m {wf : mm_P} {SA SB : LR} (hA : mLR SA) (hB : mLR SB) (x : Int32) : mLR (NG gL wf SA SB x) := GVt_m hA hB _
/-- cells of the reference's heap lie on the machine's -/
def LHP (h p : Nat) (φ : Nat → Nat) : Prop := ∀ a, a < h → 4096 ≤ φ a ∧ φ a + 2 ≤ p
/-- the stack may have changed, the heap may have grown -/
theorem LE_k {A B K K' : HF} {h p : Nat} {φ : Nat → Nat} (hp : LHP h p φ) (hK : ∀ i, 4096 ≤ i → i < p → K' i = K i) : LE A B h K φ A B h K' φ := ⟨Nat.le_refl _, fun a ha => by
  obtain ⟨a1, a2⟩ := hp a ha
  exact ⟨rfl, rfl, rfl, hK _ a1 (by omega), hK _ (by omega) (by omega)⟩⟩
/-- a new cell -/
def fφ (φ : Nat → Nat) (h p : Nat) : Nat → Nat := fun a => if a = h then p else φ a
theorem fφ_s {φ : Nat → Nat} {h p : Nat} : fφ φ h p h = p := if_pos rfl
theorem fφ_o {φ : Nat → Nat} {h p a : Nat} (q : ¬ a = h) : fφ φ h p a = φ a := if_neg q
theorem LHP_n {h p : Nat} {φ : Nat → Nat} (hp : LHP h p φ) (h4 : 4096 ≤ p) : LHP (h + 1) (p + 2) (fφ φ h p) := fun a ha => by
  by_cases q : a = h
  · rw [q, fφ_s]
    exact ⟨h4, Nat.le_refl _⟩
  · rw [fφ_o q]
    obtain ⟨a1, a2⟩ := hp a (by omega)
    exact ⟨a1, by omega⟩
theorem LE_n {A B K K' : HF} {h p : Nat} {φ : Nat → Nat} {x y : Int32} (hp : LHP h p φ) (hK : ∀ i, 4096 ≤ i → i < p → K' i = K i) : LE A B h K φ (fu A h x) (fu B h y) (h + 1) K' (fφ φ h p) := ⟨Nat.le_succ _, fun a ha => by
  obtain ⟨a1, a2⟩ := hp a ha
  exact ⟨fu_o (by omega), fu_o (by omega), fφ_o (by omega), hK _ a1 (by omega), hK _ (by omega) (by omega)⟩⟩
