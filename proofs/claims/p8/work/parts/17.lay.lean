/-! ===== the cells that stand once both objects are made (by program) ===== -/
def mm_lc : Nat → mm_C := fun pc => (bif Nat.ble 170 pc then
  (bif Nat.ble 201 pc then
  (bif Nat.ble 214 pc then
  (bif Nat.ble 221 pc then
  (bif Nat.ble 224 pc then
  (bif Nat.ble 225 pc then .inr (.inl (0, 30)) else .inr (.inl (0, 800))) else (bif Nat.ble 222 pc then .inr (.inl (0, 400)) else .inr (.inl (2, 16)))) else (bif Nat.ble 218 pc then
  (bif Nat.ble 219 pc then .inr (.inl (0, 16)) else .inr (.inl (0, 40))) else (bif Nat.ble 215 pc then .inr (.inl (0, 8)) else .inr (.inl (0, 100))))) else (bif Nat.ble 208 pc then
  (bif Nat.ble 211 pc then
  (bif Nat.ble 212 pc then .inr (.inl (0, 6000)) else .inr (.inl (0, 16))) else (bif Nat.ble 210 pc then .inr (.inl (2, 200)) else .inr (.inl (0, 16)))) else (bif Nat.ble 204 pc then
  (bif Nat.ble 207 pc then .inr (.inl (0, 200)) else .inr (.inl (0, 60))) else .inr (.inl (0, 2400))))) else (bif Nat.ble 185 pc then
  (bif Nat.ble 194 pc then
  (bif Nat.ble 199 pc then
  (bif Nat.ble 200 pc then .inr (.inl (2, 144)) else .inr (.inl (2, 200))) else (bif Nat.ble 198 pc then .inr (.inl (0, 200)) else .inr (.inl (0, 12)))) else (bif Nat.ble 187 pc then
  (bif Nat.ble 188 pc then .inr (.inl (0, 200)) else .inr (.inl (0, 64))) else (bif Nat.ble 186 pc then .inr (.inl (2, 64)) else .inr (.inl (0, 64))))) else (bif Nat.ble 174 pc then
  (bif Nat.ble 177 pc then
  (bif Nat.ble 184 pc then .inr (.inl (0, 16384)) else .inr (.inl (0, 8000))) else (bif Nat.ble 176 pc then .inl (10, [none, none, some (some 177), some (some 178), some (some 179), some (some 180), some (some 181), some (some 182), some (some 183), some (some 184), some (some 185), some (some 186), some (some 187), none, some (some 188), some (some 189), some (some 190), some (some 191), some (some 192), some (some 193), none, some (some 194), some (some 195), some (some 196), some (some 197), some (some 198), some (some 199), some (some 200), some (some 201), some (some 202), some (some 203), none, some (some 204), some (some 205), some (some 206), some (some 207), none, some (some 208), some (some 209), some (some 210), some (some 211), none, none, none, some (some 212), some (some 213), none, none, none, none, none, none, some (some 214), some (some 215), some (some 216), some (some 217), some (some 218), some (some 219), some (some 220), some (some 221), some (some 222), some (some 223), none, some (some 224), none, some (some 225), none]) else .inr (.inl (0, 30)))) else (bif Nat.ble 171 pc then
  (bif Nat.ble 172 pc then .inr (.inl (0, 600)) else .inr (.inl (0, 8192))) else .inl (1, [some (some 3), some (some 160), some (some 162), some (some 171), some (some 172), some (some 173), some (some 174), some (some 175), none, none, none, none, some (some 9), some (some 31)]))))) else (bif Nat.ble 32 pc then
  (bif Nat.ble 160 pc then
  (bif Nat.ble 164 pc then
  (bif Nat.ble 166 pc then
  (bif Nat.ble 168 pc then .inr (.inl (0, 30)) else .inr (.inl (0, 600))) else (bif Nat.ble 165 pc then .inr (.inl (0, 8192)) else .inl (5, [some (some 3), some (some 160), some (some 162), some (some 165), some (some 166), some (some 167), some (some 168), some (some 169), none, none, none, none, some (some 9)]))) else (bif Nat.ble 162 pc then
  (bif Nat.ble 163 pc then .inr (.inl (0, 100)) else .inl (8, [some (some 163), none, none, none, none, none])) else (bif Nat.ble 161 pc then .inr (.inl (0, 16)) else .inl (3, [some (some 161), none, none])))) else (bif Nat.ble 38 pc then
  (bif Nat.ble 99 pc then
  (bif Nat.ble 100 pc then .inr (.inl (0, 200)) else .inr (.inr (0, 60, 100))) else (bif Nat.ble 39 pc then .inr (.inl (0, 200)) else .inr (.inr (0, 60, 39)))) else (bif Nat.ble 33 pc then
  (bif Nat.ble 36 pc then .inr (.inl (0, 60)) else .inr (.inl (1, 60))) else .inr (.inl (0, 60))))) else (bif Nat.ble 9 pc then
  (bif Nat.ble 17 pc then
  (bif Nat.ble 19 pc then
  (bif Nat.ble 31 pc then .inl (0, [some (some 1), some (some 3), some (some 9), some (some 17), some (some 32), some (some 33), some (some 34), some (some 35), some (some 36), some (some 37), some (some 38), some (some 99), none]) else .inr (.inl (1, 200))) else (bif Nat.ble 18 pc then .inr (.inr (1, 12, 19)) else .inl (4, [some (some 1), some (some 3), some (some 9), some (some 18)]))) else (bif Nat.ble 13 pc then
  (bif Nat.ble 15 pc then .inr (.inl (0, 12)) else .inr (.inl (1, 12))) else (bif Nat.ble 10 pc then .inr (.inl (0, 12)) else .inl (2, [some (some 10), some (some 11), some (some 12), some (some 13), some (some 14), some (some 15), some (some 16), none])))) else (bif Nat.ble 3 pc then
  (bif Nat.ble 6 pc then
  (bif Nat.ble 7 pc then .inr (.inl (0, 200)) else .inr (.inl (0, 800))) else (bif Nat.ble 4 pc then .inr (.inl (0, 200)) else .inl (6, [some (some 4), some (some 5), some (some 6), some (some 7), some (some 8), none, none]))) else (bif Nat.ble 1 pc then
  (bif Nat.ble 2 pc then .inr (.inl (1, 200)) else .inl (7, [some (some 2), none])) else .inl (9, [some (some 1), some (some 3), some (some 9), some (some 17), some (some 31), some (some 160), some (some 162), some (some 164), some (some 170), none, none, none]))))))
def mm_LAY : List mm_C := (List.range 226).map mm_lc
def mm_LF (k : Nat) : Option mm_C := match Nat.ble 226 k with
  | true => none
  | false => some (mm_lc k)
theorem mm_LF_at (r : Nat) : mm_LAY[r]? = mm_LF r := by
  unfold mm_LF mm_LAY
  rw [List.getElem?_map]
  rcases Nat.lt_or_ge r 226 with h | h
  · rw [List.getElem?_range h]
    have : Nat.ble 226 r = false := by
      cases hb : Nat.ble 226 r with
      | false => rfl
      | true => exact absurd (Nat.le_of_ble_eq_true hb) (by omega)
    rw [this]
    rfl
  · rw [List.getElem?_eq_none (by rw [List.length_range]; exact h), Nat.ble_eq_true_of_le h]
    rfl
/-- methods that make nothing -/
def mm_nal (mi : Nat) : Bool := match Nat.ble 237 mi with
  | true => false
  | false => [0, 12, 22, 34, 40, 55, 65, 90, 109, 116, 140, 165].all (fun a => !(Nat.beq a mi))
theorem mm_nal_e {mi : Nat} (h : mm_nal mi = true) : ∃ M, mm_ms[mi]? = some M ∧ mm_Mk M = 0 := by
  have hall : (List.range 237).all (fun mi => !mm_nal mi || (match mm_ms[mi]? with | some M => decide (mm_Mk M = 0) | none => false)) = true := by decide +kernel
  rcases Nat.lt_or_ge mi 237 with hl | hl
  · have h1 := List.all_eq_true.mp hall mi (List.mem_range.mpr hl)
    rw [h] at h1
    cases hM : mm_ms[mi]? with
    | none => rw [hM] at h1; simp at h1
    | some M => rw [hM] at h1; exact ⟨M, rfl, by simpa using h1⟩
  · unfold mm_nal at h
    rw [Nat.ble_eq_true_of_le hl] at h
    cases h
