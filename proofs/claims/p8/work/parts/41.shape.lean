/-! ===== Shape: types as longs; what its methods answer, the world as it was ===== -/
theorem lg_ge {x y : Int64} : 0 ≤ lg_cmp x y ↔ y.toInt ≤ x.toInt := by
  unfold lg_cmp
  by_cases h1 : x > y
  · rw [if_pos h1]
    have := Int64.lt_iff_toInt_lt.mp h1
    exact ⟨fun _ => by omega, fun _ => by decide⟩
  · rw [if_neg h1]
    have h2 : ¬ y.toInt < x.toInt := fun q => h1 (Int64.lt_iff_toInt_lt.mpr q)
    by_cases h3 : x = y
    · rw [if_pos h3, h3]
      exact ⟨fun _ => Int.le_refl _, fun _ => by decide⟩
    · rw [if_neg h3]
      have h4 : ¬ x.toInt = y.toInt := fun q => h3 (Int64.toInt_inj.mp q)
      exact ⟨fun q => absurd q (by decide), fun q => by omega⟩
theorem lg_lt {x y : Int64} : lg_cmp x y < 0 ↔ x.toInt < y.toInt := by
  have h : ∀ z : Int32, z < 0 ↔ ¬ 0 ≤ z := fun z => by
    rw [Int32.lt_iff_toInt_lt, Int32.le_iff_toInt_le, mm_tt0]
    omega
  rw [h, lg_ge]
  omega
theorem lg_eq {x y : Int64} : lg_cmp x y = 0 ↔ x = y := by
  unfold lg_cmp
  by_cases h1 : x > y
  · rw [if_pos h1]
    have := Int64.lt_iff_toInt_lt.mp h1
    exact ⟨fun q => absurd q (by decide), fun q => by rw [q] at this; omega⟩
  · rw [if_neg h1]
    by_cases h3 : x = y
    · rw [if_pos h3]
      exact ⟨fun _ => h3, fun _ => rfl⟩
    · rw [if_neg h3]
      exact ⟨fun q => absurd q (by decide), fun q => absurd q h3⟩
def f_rb (t : Int64) : Int64 := if t.toInt < 4 then 0 else if t.toInt < 24 then 4 else if t.toInt < 624 then 24 else if t.toInt < 390624 then 624 else 390624
def f_rw (t : Int64) : Int64 := if t.toInt < 0 then 0 else if t.toInt < 4 then 4 else if t.toInt < 24 then 24 else if t.toInt < 624 then 624 else if t.toInt < 390624 then 390624 else 0
def f_dp (t : Int64) : Int32 := if t.toInt < 0 then 0 else if t.toInt < 4 then 1 else if t.toInt < 24 then 2 else if t.toInt < 624 then 3 else if t.toInt < 390624 then 4 else if t.toInt < 152587890624 then 5 else 0
def f_ls (t : Int64) : Int64 := if 1 ≤ (f_rw t).toInt then f_rw t + t else -1
def f_pr (t u : Int64) : Int64 := if (f_rw t).toInt < 1 then -1 else if 1 ≤ (f_rw u).toInt then ((if f_rw u < f_rw t then f_rw t else f_rw u) + ((t + 1) * (if f_rw u < f_rw t then f_rw t else f_rw u))) + u else -1
def f_kd (t : Int64) : Int32 := if t.toInt < 0 then -1 else if t.toInt < 4 then Int64.toInt32 t else if (f_rb t).toInt ≤ (t - f_rb t).toInt then 4 else 5
def f_fs (t : Int64) : Int64 := if 1 ≤ (f_rb t).toInt then (if (f_rb t).toInt ≤ (t - f_rb t).toInt then ((t - f_rb t) / f_rb t) - 1 else t - f_rb t) else -1
def f_sc (t : Int64) : Int64 := if (f_rb t).toInt < 1 then -1 else if (f_rb t).toInt ≤ (t - f_rb t).toInt then (t - f_rb t) - (t - f_rb t) / f_rb t * f_rb t else -1
theorem mm_ll0 : (0 : Int64).toInt = 0 := rfl
theorem mm_ll1 : (1 : Int64).toInt = 1 := rfl
theorem mm_ll4 : (4 : Int64).toInt = 4 := rfl
theorem mm_rm0 : (mm_rooms.getD (0 : Int32).toNatClampNeg 0) = 4 := rfl
theorem mm_rm1 : (mm_rooms.getD (1 : Int32).toNatClampNeg 0) = 24 := rfl
theorem mm_rm2 : (mm_rooms.getD (2 : Int32).toNatClampNeg 0) = 624 := rfl
theorem mm_rm3 : (mm_rooms.getD (3 : Int32).toNatClampNeg 0) = 390624 := rfl
theorem mm_rm4 : (mm_rooms.getD (4 : Int32).toNatClampNeg 0) = 152587890624 := rfl
section MMS
variable {L : Nat} {xs : Nat → Int32} {d : Nat} {Q : mm_QQ} {mi : mm_P} {ml : mm_G} {lim : Nat × Nat}
/-- a turn of roomBelow's loop -/
theorem sp_rbk {t s r : Int64} {i : Int32} (hi : 0 ≤ i.toInt ∧ i.toInt < 4) (hr : mm_rooms.getD i.toNatClampNeg 0 = r) (h1 : t.toInt < r.toInt → mm_WQ (mm_call mm_ms (mm_tb L xs) d) (mm_tb L xs) mm_m130 lim Q 5 [some (mm_L t), none, some (mm_L s), none, some (mm_I (i + 1))] [] mi ml) (h2 : r.toInt ≤ t.toInt → mm_WQ (mm_call mm_ms (mm_tb L xs) d) (mm_tb L xs) mm_m130 lim Q 5 [some (mm_L t), none, some (mm_L r), none, some (mm_I (i + 1))] [] mi ml) : mm_WQ (mm_call mm_ms (mm_tb L xs) d) (mm_tb L xs) mm_m130 lim Q 5 [some (mm_L t), none, some (mm_L s), none, some (mm_I i)] [] mi ml := by
  refine bk_X10_roomBelow_5 (mm_call_m _) (fun z => ?_) (fun _ => mm_vpr ⟨hi.1, by omega⟩) (fun _ z => bk_X10_roomBelow_34 (mm_call_m _) (h1 ?_)) (fun _ _ => mm_vpr ⟨hi.1, by omega⟩) (fun _ z => ?_)
  · rw [Int32.le_iff_toInt_le, mm_n51] at z
    omega
  · rw [lg_lt, hr] at z
    exact z
  · rw [lg_lt, hr] at z
    rw [hr]
    exact bk_X10_roomBelow_34 (mm_call_m _) (h2 (by omega))
theorem sp_X10_roomBelow {t : Int64} (h : Q (some (mm_L (f_rb t))) mi ml) : mm_cq (mm_call mm_ms (mm_tb L xs) (d + 1)) 130 [mm_L t] mi ml Q := by
  have h4 : (4 : Int64).toInt = 4 := rfl
  have h24 : (24 : Int64).toInt = 24 := rfl
  have h624 : (624 : Int64).toInt = 624 := rfl
  have h39 : (390624 : Int64).toInt = 390624 := rfl
  have hend : ∀ s : Int64, s = f_rb t → mm_WQ (mm_call mm_ms (mm_tb L xs) d) (mm_tb L xs) mm_m130 (mm_li mm_m130) Q 5 [some (mm_L t), none, some (mm_L s), none, some (mm_I 4)] [] mi ml := fun s hs => by
    refine bk_X10_roomBelow_5 (mm_call_m _) (fun _ => by rw [hs]; exact h) (fun z => ?_) (fun z => ?_) (fun z => ?_) (fun z => ?_) <;> exact absurd (by decide) z
  refine en_X10_roomBelow (bk_X10_roomBelow_0 (mm_call_m _) (sp_rbk (by decide) mm_rm0 (fun a => sp_rbk (by decide) mm_rm1 (fun b => sp_rbk (by decide) mm_rm2 (fun c => sp_rbk (by decide) mm_rm3 (fun e => hend _ ?_) (fun e => ?_)) (fun c => ?_)) (fun b => ?_)) (fun a => sp_rbk (by decide) mm_rm1 (fun b => sp_rbk (by decide) mm_rm2 (fun c => sp_rbk (by decide) mm_rm3 (fun e => hend _ ?_) (fun e => ?_)) (fun c => ?_)) (fun b => sp_rbk (by decide) mm_rm2 (fun c => sp_rbk (by decide) mm_rm3 (fun e => hend _ ?_) (fun e => ?_)) (fun c => sp_rbk (by decide) mm_rm3 (fun e => hend _ ?_) (fun e => hend _ ?_))))))
  · unfold f_rb
    rw [if_pos (by omega)]
  · omega
  · omega
  · omega
  · unfold f_rb
    rw [if_neg (by omega), if_pos (by omega)]
  · omega
  · omega
  · unfold f_rb
    rw [if_neg (by omega), if_neg (by omega), if_pos (by omega)]
  · omega
  · unfold f_rb
    rw [if_neg (by omega), if_neg (by omega), if_neg (by omega), if_pos (by omega)]
  · unfold f_rb
    rw [if_neg (by omega), if_neg (by omega), if_neg (by omega), if_neg (by omega)]
/-- a turn of roomWith's loop -/
theorem sp_rwk {t r : Int64} {i : Int32} (hi : 0 ≤ i.toInt ∧ i.toInt < 4) (hr : mm_rooms.getD i.toNatClampNeg 0 = r) (h1 : t.toInt < r.toInt → Q (some (mm_L r)) mi ml) (h2 : r.toInt ≤ t.toInt → mm_WQ (mm_call mm_ms (mm_tb L xs) d) (mm_tb L xs) mm_m129 lim Q 10 [some (mm_L t), none, some (mm_I (i + 1))] [] mi ml) : mm_WQ (mm_call mm_ms (mm_tb L xs) d) (mm_tb L xs) mm_m129 lim Q 10 [some (mm_L t), none, some (mm_I i)] [] mi ml := by
  refine bk_X10_roomWith_10 (mm_call_m _) (fun z => ?_) (fun _ => mm_vpr ⟨hi.1, by omega⟩) (fun _ z => h2 ?_) (fun _ _ => mm_vpr ⟨hi.1, by omega⟩) (fun _ z => ?_)
  · rw [Int32.le_iff_toInt_le, mm_n51] at z
    omega
  · rw [lg_ge, hr] at z
    exact z
  · rw [lg_ge, hr] at z
    rw [hr]
    exact h1 (by omega)
theorem sp_X10_roomWith {t : Int64} (h : Q (some (mm_L (f_rw t))) mi ml) : mm_cq (mm_call mm_ms (mm_tb L xs) (d + 1)) 129 [mm_L t] mi ml Q := by
  have h4 : (4 : Int64).toInt = 4 := rfl
  have h24 : (24 : Int64).toInt = 24 := rfl
  have h624 : (624 : Int64).toInt = 624 := rfl
  have h39 : (390624 : Int64).toInt = 390624 := rfl
  have hend : f_rw t = 0 → mm_WQ (mm_call mm_ms (mm_tb L xs) d) (mm_tb L xs) mm_m129 (mm_li mm_m129) Q 10 [some (mm_L t), none, some (mm_I 4)] [] mi ml := fun hs => by
    refine bk_X10_roomWith_10 (mm_call_m _) (fun _ => by rw [hs] at h; exact h) (fun z => ?_) (fun z => ?_) (fun z => ?_) (fun z => ?_) <;> exact absurd (by decide) z
  have hq : ∀ s : Int64, f_rw t = s → Q (some (mm_L s)) mi ml := fun s hs => by rw [hs] at h; exact h
  refine en_X10_roomWith (bk_X10_roomWith_0 (mm_call_m _) (fun z => sp_rwk (by decide) mm_rm0 (fun a => hq _ ?_) (fun a => sp_rwk (by decide) mm_rm1 (fun b => hq _ ?_) (fun b => sp_rwk (by decide) mm_rm2 (fun c => hq _ ?_) (fun c => sp_rwk (by decide) mm_rm3 (fun e => hq _ ?_) (fun e => hend ?_))))) (fun z => hq _ ?_)) <;> (rw [lg_ge, mm_ll0] at z; unfold f_rw)
  · rw [if_neg (by omega), if_pos (by omega)]
  · rw [if_neg (by omega), if_neg (by omega), if_pos (by omega)]
  · rw [if_neg (by omega), if_neg (by omega), if_neg (by omega), if_pos (by omega)]
  · rw [if_neg (by omega), if_neg (by omega), if_neg (by omega), if_neg (by omega), if_pos (by omega)]
  · rw [if_neg (by omega), if_neg (by omega), if_neg (by omega), if_neg (by omega), if_neg (by omega)]
  · rw [if_pos (by omega)]
/-- a turn of depthOf's loop -/
theorem sp_dpk {t r : Int64} {i : Int32} (hi : 1 ≤ i.toInt ∧ i.toInt < 6) (hr : mm_rooms.getD (i - 1).toNatClampNeg 0 = r) (h1 : t.toInt < r.toInt → Q (some (mm_I i)) mi ml) (h2 : r.toInt ≤ t.toInt → mm_WQ (mm_call mm_ms (mm_tb L xs) d) (mm_tb L xs) mm_m128 lim Q 10 [some (mm_L t), none, some (mm_I (i + 1))] [] mi ml) : mm_WQ (mm_call mm_ms (mm_tb L xs) d) (mm_tb L xs) mm_m128 lim Q 10 [some (mm_L t), none, some (mm_I i)] [] mi ml := by
  refine bk_X10_depthOf_10 (mm_call_m _) (fun z => ?_) (fun _ => mm_vpr ?_) (fun _ z => h2 ?_) (fun _ z => h1 ?_)
  · rw [Int32.lt_iff_toInt_lt, mm_n5] at z
    omega
  · rw [mm_sub1 (by omega)]
    omega
  · rw [lg_ge, hr] at z
    exact z
  · rw [lg_ge, hr] at z
    omega
theorem sp_X10_depthOf {t : Int64} (h : Q (some (mm_I (f_dp t))) mi ml) : mm_cq (mm_call mm_ms (mm_tb L xs) (d + 1)) 128 [mm_L t] mi ml Q := by
  have h4 : (4 : Int64).toInt = 4 := rfl
  have h24 : (24 : Int64).toInt = 24 := rfl
  have h624 : (624 : Int64).toInt = 624 := rfl
  have h39 : (390624 : Int64).toInt = 390624 := rfl
  have h15 : (152587890624 : Int64).toInt = 152587890624 := rfl
  have hend : f_dp t = 0 → mm_WQ (mm_call mm_ms (mm_tb L xs) d) (mm_tb L xs) mm_m128 (mm_li mm_m128) Q 10 [some (mm_L t), none, some (mm_I 6)] [] mi ml := fun hs => by
    refine bk_X10_depthOf_10 (mm_call_m _) (fun _ => by rw [hs] at h; exact h) (fun z => ?_) (fun z => ?_) (fun z => ?_) <;> exact absurd (by decide) z
  have hq : ∀ s : Int32, f_dp t = s → Q (some (mm_I s)) mi ml := fun s hs => by rw [hs] at h; exact h
  refine en_X10_depthOf (bk_X10_depthOf_0 (mm_call_m _) (fun z => sp_dpk (by decide) mm_rm0 (fun a => hq _ ?_) (fun a => sp_dpk (by decide) mm_rm1 (fun b => hq _ ?_) (fun b => sp_dpk (by decide) mm_rm2 (fun c => hq _ ?_) (fun c => sp_dpk (by decide) mm_rm3 (fun e => hq _ ?_) (fun e => sp_dpk (by decide) mm_rm4 (fun g => hq _ ?_) (fun g => hend ?_)))))) (fun z => hq _ ?_)) <;> (rw [lg_ge, mm_ll0] at z; unfold f_dp)
  · rw [if_neg (by omega), if_pos (by omega)]
  · rw [if_neg (by omega), if_neg (by omega), if_pos (by omega)]
    rfl
  · rw [if_neg (by omega), if_neg (by omega), if_neg (by omega), if_pos (by omega)]
    rfl
  · rw [if_neg (by omega), if_neg (by omega), if_neg (by omega), if_neg (by omega), if_pos (by omega)]
    rfl
  · rw [if_neg (by omega), if_neg (by omega), if_neg (by omega), if_neg (by omega), if_neg (by omega), if_pos (by omega)]
    rfl
  · rw [if_neg (by omega), if_neg (by omega), if_neg (by omega), if_neg (by omega), if_neg (by omega), if_neg (by omega)]
  · rw [if_pos (by omega)]
theorem sp_X10_listOf {t : Int64} (h : Q (some (mm_L (f_ls t))) mi ml) : mm_cq (mm_call mm_ms (mm_tb L xs) (d + 2)) 131 [mm_L t] mi ml Q := by
  refine en_X10_listOf (bk_X10_listOf_0 (mm_call_m _) (sp_X10_roomWith (bk_X10_listOf_4 (s0 := f_rw t) (mm_call_m _) (fun z => ?_) (fun z => ?_)))) <;> rw [lg_ge, mm_ll1] at z <;> unfold f_ls at h
  · rw [if_pos z] at h
    exact h
  · rw [if_neg z] at h
    exact h
theorem sp_X10_pairOf {t u : Int64} (h : Q (some (mm_L (f_pr t u))) mi ml) : mm_cq (mm_call mm_ms (mm_tb L xs) (d + 2)) 132 [mm_L t, mm_L u] mi ml Q := by
  refine en_X10_pairOf (bk_X10_pairOf_0 (mm_call_m _) (sp_X10_roomWith (bk_X10_pairOf_4 (s0 := f_rw t) (mm_call_m _) (sp_X10_roomWith (bk_X10_pairOf_10 (s0 := f_rw u) (mm_call_m _) (fun z => bk_X10_pairOf_26 (mm_call_m _) ?_) (fun z w => ?_) (fun z w => bk_X10_pairOf_26 (mm_call_m _) ?_))))))
  · rw [lg_lt, mm_ll1] at z
    unfold f_pr at h
    rw [if_pos z] at h
    exact h
  · rw [lg_lt, mm_ll1] at z
    rw [lg_ge, mm_ll1] at w
    unfold f_pr at h
    rw [if_neg z, if_pos w] at h
    exact h
  · rw [lg_lt, mm_ll1] at z
    rw [lg_ge, mm_ll1] at w
    unfold f_pr at h
    rw [if_neg z, if_neg w] at h
    exact h
theorem sp_X10_kindOf {t : Int64} (h : Q (some (mm_I (f_kd t))) mi ml) : mm_cq (mm_call mm_ms (mm_tb L xs) (d + 2)) 133 [mm_L t] mi ml Q := by
  refine en_X10_kindOf (bk_X10_kindOf_0 (mm_call_m _) (fun z w => sp_X10_roomBelow (bk_X10_kindOf_23 (s0 := f_rb t) (mm_call_m _) (fun y => ?_) (fun y => ?_))) (fun z w => ?_) (fun z => ?_))
  · rw [lg_ge, mm_ll0] at z
    rw [lg_ge, mm_ll4] at w
    rw [lg_ge] at y
    unfold f_kd at h
    rw [if_neg (by omega), if_neg (by omega), if_pos y] at h
    exact h
  · rw [lg_ge, mm_ll0] at z
    rw [lg_ge, mm_ll4] at w
    rw [lg_ge] at y
    unfold f_kd at h
    rw [if_neg (by omega), if_neg (by omega), if_neg y] at h
    exact h
  · rw [lg_ge, mm_ll0] at z
    rw [lg_ge, mm_ll4] at w
    unfold f_kd at h
    rw [if_neg (by omega), if_pos (by omega)] at h
    exact h
  · rw [lg_ge, mm_ll0] at z
    unfold f_kd at h
    rw [if_pos (by omega)] at h
    exact h
theorem sp_X10_firstOf {t : Int64} (h : Q (some (mm_L (f_fs t))) mi ml) : mm_cq (mm_call mm_ms (mm_tb L xs) (d + 2)) 134 [mm_L t] mi ml Q := by
  refine en_X10_firstOf (bk_X10_firstOf_0 (mm_call_m _) (sp_X10_roomBelow (bk_X10_firstOf_4 (s0 := f_rb t) (mm_call_m _) (fun z _ e => ?_) (fun z w => ?_) (fun z w => ?_) (fun z => ?_))))
  · rw [e] at z
    exact absurd z (by decide)
  · rw [lg_ge, mm_ll1] at z
    rw [lg_ge] at w
    unfold f_fs at h
    rw [if_pos z, if_pos w] at h
    exact h
  · rw [lg_ge, mm_ll1] at z
    rw [lg_ge] at w
    unfold f_fs at h
    rw [if_pos z, if_neg w] at h
    exact h
  · rw [lg_ge, mm_ll1] at z
    unfold f_fs at h
    rw [if_neg z] at h
    exact h
theorem sp_X10_secondOf {t : Int64} (h : Q (some (mm_L (f_sc t))) mi ml) : mm_cq (mm_call mm_ms (mm_tb L xs) (d + 2)) 135 [mm_L t] mi ml Q := by
  refine en_X10_secondOf (bk_X10_secondOf_0 (mm_call_m _) (sp_X10_roomBelow (bk_X10_secondOf_4 (s0 := f_rb t) (mm_call_m _) (fun z => bk_X10_secondOf_19 (mm_call_m _) ?_) (fun z _ e => ?_) (fun z w => ?_) (fun z w => bk_X10_secondOf_19 (mm_call_m _) ?_))))
  · rw [lg_lt, mm_ll1] at z
    unfold f_sc at h
    rw [if_pos z] at h
    exact h
  · rw [e] at z
    exact absurd (by decide) z
  · rw [lg_lt, mm_ll1] at z
    rw [lg_ge] at w
    unfold f_sc at h
    rw [if_neg z, if_pos w] at h
    exact h
  · rw [lg_lt, mm_ll1] at z
    rw [lg_ge] at w
    unfold f_sc at h
    rw [if_neg z, if_neg w] at h
    exact h
end MMS
