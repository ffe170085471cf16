/-! ===== helpers of the specs ===== -/
def mm_li (M : mm_M) : Nat × Nat := (mm_LAY.length + mm_Mk M, mm_sl mm_LAY + mm_Ms M)
theorem mm_cq_of {L : Nat} {xs : Nat → Int32} {d mi : Nat} {As : List mm_V} {M : mm_M} {m1 : mm_P} {m2 : mm_G} {Q : mm_QQ} {ls : List (Option mm_V)} (hM : mm_ms[mi]? = some M) (hb : Nat.ble (mm_ar As).length (mm_Ml M) = true) (hls : mm_ini (mm_Ml M) As = ls) (h : mm_WQ (mm_call mm_ms (mm_tb L xs) d) (mm_tb L xs) M (mm_li M) Q 0 ls [] m1 m2) : mm_cq (mm_call mm_ms (mm_tb L xs) (d + 1)) mi As m1 m2 Q := by
  subst hls
  exact mm_call_of hM hb h
theorem mm_cq_m {call : mm_F} (hc : mm_mono call) {mi : Nat} {As : List mm_V} {m1 : mm_P} {m2 : mm_G} {Q Q' : mm_QQ} (h : mm_cq call mi As m1 m2 Q) (hQ : ∀ o n1 n2, Q o n1 n2 → Q' o n1 n2) : mm_cq call mi As m1 m2 Q' := hc _ _ _ _ _ (fun _ _ z => ⟨z.1, hQ _ _ _ z.2⟩) h
theorem mm_tt0 : (0 : Int32).toInt = 0 := rfl
theorem mm_tt1 : (1 : Int32).toInt = 1 := rfl
theorem mm_tt2 : (2 : Int32).toInt = 2 := rfl
theorem mm_tt3 : (3 : Int32).toInt = 3 := rfl
theorem mm_tt4 : (4 : Int32).toInt = 4 := rfl
theorem mm_tt5 : (5 : Int32).toInt = 5 := rfl
theorem mm_tt6 : (6 : Int32).toInt = 6 := rfl
theorem mm_tt9 : (9 : Int32).toInt = 9 := rfl
theorem mm_tt10 : (10 : Int32).toInt = 10 := rfl
theorem mm_tt11 : (11 : Int32).toInt = 11 := rfl
theorem mm_tt12 : (12 : Int32).toInt = 12 := rfl
theorem mm_tt14 : (14 : Int32).toInt = 14 := rfl
theorem mm_tt15 : (15 : Int32).toInt = 15 := rfl
theorem mm_tt16 : (16 : Int32).toInt = 16 := rfl
theorem mm_tt100 : (100 : Int32).toInt = 100 := rfl
theorem mm_tt200 : (200 : Int32).toInt = 200 := rfl
theorem mm_tn1 : (-1 : Int32).toInt = -1 := rfl
theorem mm_tn4 : (-4 : Int32).toInt = -4 := rfl
theorem mm_tI {k : Nat} (h : k < 2 ^ 31) : (nI k).toInt = k := by
  have h1 : (nI k).toBitVec.toNat = k := by
    show (BitVec.ofNat 32 k).toNat = k
    rw [BitVec.toNat_ofNat]
    exact Nat.mod_eq_of_lt (by omega)
  rw [mm_ti, h1, if_pos (by omega)]
theorem mm_sub1 {x : Int32} (h : 0 ≤ x.toInt) : (x - 1).toInt = x.toInt - 1 := by
  rw [Int32.toInt_sub, mm_tt1]
  have h2 : x.toInt < 2 ^ 31 := Int32.toInt_lt x
  rw [Int.bmod_eq_of_le] <;> omega
/-- four numbers -/
theorem mm_r4 {x : Int32} (h0 : 0 ≤ x.toInt) (h1 : x.toInt < 4) : x = 0 ∨ x = 1 ∨ x = 2 ∨ x = 3 := by
  rcases (show x.toInt = 0 ∨ x.toInt = 1 ∨ x.toInt = 2 ∨ x.toInt = 3 by omega) with h | h | h | h
  · exact .inl (Int32.toInt_inj.mp h)
  · exact .inr (.inl (Int32.toInt_inj.mp h))
  · exact .inr (.inr (.inl (Int32.toInt_inj.mp h)))
  · exact .inr (.inr (.inr (Int32.toInt_inj.mp h)))
