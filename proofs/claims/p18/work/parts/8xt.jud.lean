/-! ===== the machine with letters: a node ends ===== -/
section MMT
variable {L : Nat} {xs : Nat → Int32} {d : Nat} {Q : mm_QQ} {mi : mm_P} {ml : mm_G} {lim : Nat × Nat} {NB ND NF : Nat} {x1 : Int32}
theorem fd_0 (h : mm_cq (mm_call mm_ms (mm_tb L xs) d) 97 [mm_R 3, mm_I x1, mm_I 0] mi ml (fun o n1 n2 => mm_WQ (mm_call mm_ms (mm_tb L xs) d) (mm_tb L xs) mm_m74 (mm_li mm_m74) Q 82 [some (mm_R 164), some (mm_I x1), some (mm_I (nI 0))] (o.toList ++ [mm_R 164]) n1 n2)) : mm_cq (mm_call mm_ms (mm_tb L xs) (d + 1)) 74 [mm_R 164, mm_I x1, mm_I (nI 0)] mi ml Q :=
  en_X6_finishNode_L (bk_X6_finishNode_L_0 (mm_call_m _) (fun _ => h) (fun z => absurd z (by decide)) (fun z => absurd z (by decide)) (fun z => absurd z (by decide)) (fun z => absurd z (by decide)) (fun z => absurd z (by decide)) (fun z => absurd z (by decide)) (fun z => absurd z (by decide)) (fun z => absurd z (by decide)) (fun z => absurd z (by decide)) (fun z => absurd z (by decide)) (fun z => absurd z (by decide)) (fun z => absurd z (by decide)) (fun z => absurd z (by decide)) (fun z0 z1 z2 z3 z4 z5 z6 z7 z8 z9 z10 z11 z12 z13 => absurd rfl z0))
theorem fd_1 (h : mm_cq (mm_call mm_ms (mm_tb L xs) d) 97 [mm_R 3, mm_I x1, mm_I 0] mi ml (fun o n1 n2 => mm_WQ (mm_call mm_ms (mm_tb L xs) d) (mm_tb L xs) mm_m74 (mm_li mm_m74) Q 82 [some (mm_R 164), some (mm_I x1), some (mm_I (nI 1))] (o.toList ++ [mm_R 164]) n1 n2)) : mm_cq (mm_call mm_ms (mm_tb L xs) (d + 1)) 74 [mm_R 164, mm_I x1, mm_I (nI 1)] mi ml Q :=
  en_X6_finishNode_L (bk_X6_finishNode_L_0 (mm_call_m _) (fun z => absurd z (by decide)) (fun _ => h) (fun z => absurd z (by decide)) (fun z => absurd z (by decide)) (fun z => absurd z (by decide)) (fun z => absurd z (by decide)) (fun z => absurd z (by decide)) (fun z => absurd z (by decide)) (fun z => absurd z (by decide)) (fun z => absurd z (by decide)) (fun z => absurd z (by decide)) (fun z => absurd z (by decide)) (fun z => absurd z (by decide)) (fun z => absurd z (by decide)) (fun z0 z1 z2 z3 z4 z5 z6 z7 z8 z9 z10 z11 z12 z13 => absurd rfl z1))
theorem fd_2 (h : mm_cq (mm_call mm_ms (mm_tb L xs) d) 75 [mm_R 164] mi ml (fun o n1 n2 => mm_WQ (mm_call mm_ms (mm_tb L xs) d) (mm_tb L xs) mm_m74 (mm_li mm_m74) Q 92 [some (mm_R 164), some (mm_I x1), some (mm_I (nI 2))] (o.toList ++ []) n1 n2)) : mm_cq (mm_call mm_ms (mm_tb L xs) (d + 1)) 74 [mm_R 164, mm_I x1, mm_I (nI 2)] mi ml Q :=
  en_X6_finishNode_L (bk_X6_finishNode_L_0 (mm_call_m _) (fun z => absurd z (by decide)) (fun z => absurd z (by decide)) (fun _ => h) (fun z => absurd z (by decide)) (fun z => absurd z (by decide)) (fun z => absurd z (by decide)) (fun z => absurd z (by decide)) (fun z => absurd z (by decide)) (fun z => absurd z (by decide)) (fun z => absurd z (by decide)) (fun z => absurd z (by decide)) (fun z => absurd z (by decide)) (fun z => absurd z (by decide)) (fun z => absurd z (by decide)) (fun z0 z1 z2 z3 z4 z5 z6 z7 z8 z9 z10 z11 z12 z13 => absurd rfl z2))
theorem fd_3 (h : mm_cq (mm_call mm_ms (mm_tb L xs) d) 86 [mm_R 164] mi ml (fun o n1 n2 => mm_WQ (mm_call mm_ms (mm_tb L xs) d) (mm_tb L xs) mm_m74 (mm_li mm_m74) Q 100 [some (mm_R 164), some (mm_I x1), some (mm_I (nI 3))] (o.toList ++ [mm_R 164]) n1 n2)) : mm_cq (mm_call mm_ms (mm_tb L xs) (d + 1)) 74 [mm_R 164, mm_I x1, mm_I (nI 3)] mi ml Q :=
  en_X6_finishNode_L (bk_X6_finishNode_L_0 (mm_call_m _) (fun z => absurd z (by decide)) (fun z => absurd z (by decide)) (fun z => absurd z (by decide)) (fun _ => h) (fun z => absurd z (by decide)) (fun z => absurd z (by decide)) (fun z => absurd z (by decide)) (fun z => absurd z (by decide)) (fun z => absurd z (by decide)) (fun z => absurd z (by decide)) (fun z => absurd z (by decide)) (fun z => absurd z (by decide)) (fun z => absurd z (by decide)) (fun z => absurd z (by decide)) (fun z0 z1 z2 z3 z4 z5 z6 z7 z8 z9 z10 z11 z12 z13 => absurd rfl z3))
theorem fd_4 (h : mm_cq (mm_call mm_ms (mm_tb L xs) d) 86 [mm_R 164] mi ml (fun o n1 n2 => mm_WQ (mm_call mm_ms (mm_tb L xs) d) (mm_tb L xs) mm_m74 (mm_li mm_m74) Q 116 [some (mm_R 164), some (mm_I x1), some (mm_I (nI 4))] (o.toList ++ [mm_R 164]) n1 n2)) : mm_cq (mm_call mm_ms (mm_tb L xs) (d + 1)) 74 [mm_R 164, mm_I x1, mm_I (nI 4)] mi ml Q :=
  en_X6_finishNode_L (bk_X6_finishNode_L_0 (mm_call_m _) (fun z => absurd z (by decide)) (fun z => absurd z (by decide)) (fun z => absurd z (by decide)) (fun z => absurd z (by decide)) (fun _ => h) (fun z => absurd z (by decide)) (fun z => absurd z (by decide)) (fun z => absurd z (by decide)) (fun z => absurd z (by decide)) (fun z => absurd z (by decide)) (fun z => absurd z (by decide)) (fun z => absurd z (by decide)) (fun z => absurd z (by decide)) (fun z => absurd z (by decide)) (fun z0 z1 z2 z3 z4 z5 z6 z7 z8 z9 z10 z11 z12 z13 => absurd rfl z4))
theorem fd_6 (h : mm_cq (mm_call mm_ms (mm_tb L xs) d) 62 [mm_R 164] mi ml (fun o n1 n2 => mm_WQ (mm_call mm_ms (mm_tb L xs) d) (mm_tb L xs) mm_m74 (mm_li mm_m74) Q 138 [some (mm_R 164), some (mm_I x1), some (mm_I (nI 6))] (o.toList ++ []) n1 n2)) : mm_cq (mm_call mm_ms (mm_tb L xs) (d + 1)) 74 [mm_R 164, mm_I x1, mm_I (nI 6)] mi ml Q :=
  en_X6_finishNode_L (bk_X6_finishNode_L_0 (mm_call_m _) (fun z => absurd z (by decide)) (fun z => absurd z (by decide)) (fun z => absurd z (by decide)) (fun z => absurd z (by decide)) (fun z => absurd z (by decide)) (fun z => absurd z (by decide)) (fun _ => h) (fun z => absurd z (by decide)) (fun z => absurd z (by decide)) (fun z => absurd z (by decide)) (fun z => absurd z (by decide)) (fun z => absurd z (by decide)) (fun z => absurd z (by decide)) (fun z => absurd z (by decide)) (fun z0 z1 z2 z3 z4 z5 z6 z7 z8 z9 z10 z11 z12 z13 => absurd rfl z6))
theorem fd_7 (h : mm_cq (mm_call mm_ms (mm_tb L xs) d) 72 [mm_R 164] mi ml (fun o n1 n2 => mm_WQ (mm_call mm_ms (mm_tb L xs) d) (mm_tb L xs) mm_m74 (mm_li mm_m74) Q 146 [some (mm_R 164), some (mm_I x1), some (mm_I (nI 7))] (o.toList ++ [mm_R 164]) n1 n2)) : mm_cq (mm_call mm_ms (mm_tb L xs) (d + 1)) 74 [mm_R 164, mm_I x1, mm_I (nI 7)] mi ml Q :=
  en_X6_finishNode_L (bk_X6_finishNode_L_0 (mm_call_m _) (fun z => absurd z (by decide)) (fun z => absurd z (by decide)) (fun z => absurd z (by decide)) (fun z => absurd z (by decide)) (fun z => absurd z (by decide)) (fun z => absurd z (by decide)) (fun z => absurd z (by decide)) (fun _ => h) (fun z => absurd z (by decide)) (fun z => absurd z (by decide)) (fun z => absurd z (by decide)) (fun z => absurd z (by decide)) (fun z => absurd z (by decide)) (fun z => absurd z (by decide)) (fun z0 z1 z2 z3 z4 z5 z6 z7 z8 z9 z10 z11 z12 z13 => absurd rfl z7))
theorem fd_8 (h : mm_cq (mm_call mm_ms (mm_tb L xs) d) 72 [mm_R 164] mi ml (fun o n1 n2 => mm_WQ (mm_call mm_ms (mm_tb L xs) d) (mm_tb L xs) mm_m74 (mm_li mm_m74) Q 159 [some (mm_R 164), some (mm_I x1), some (mm_I (nI 8))] (o.toList ++ [mm_R 164]) n1 n2)) : mm_cq (mm_call mm_ms (mm_tb L xs) (d + 1)) 74 [mm_R 164, mm_I x1, mm_I (nI 8)] mi ml Q :=
  en_X6_finishNode_L (bk_X6_finishNode_L_0 (mm_call_m _) (fun z => absurd z (by decide)) (fun z => absurd z (by decide)) (fun z => absurd z (by decide)) (fun z => absurd z (by decide)) (fun z => absurd z (by decide)) (fun z => absurd z (by decide)) (fun z => absurd z (by decide)) (fun z => absurd z (by decide)) (fun _ => h) (fun z => absurd z (by decide)) (fun z => absurd z (by decide)) (fun z => absurd z (by decide)) (fun z => absurd z (by decide)) (fun z => absurd z (by decide)) (fun z0 z1 z2 z3 z4 z5 z6 z7 z8 z9 z10 z11 z12 z13 => absurd rfl z8))
theorem fd_9 (h : mm_cq (mm_call mm_ms (mm_tb L xs) d) 85 [mm_R 164, mm_I 0] mi ml (fun o n1 n2 => mm_WQ (mm_call mm_ms (mm_tb L xs) d) (mm_tb L xs) mm_m74 (mm_li mm_m74) Q 172 [some (mm_R 164), some (mm_I x1), some (mm_I (nI 9))] (o.toList ++ []) n1 n2)) : mm_cq (mm_call mm_ms (mm_tb L xs) (d + 1)) 74 [mm_R 164, mm_I x1, mm_I (nI 9)] mi ml Q :=
  en_X6_finishNode_L (bk_X6_finishNode_L_0 (mm_call_m _) (fun z => absurd z (by decide)) (fun z => absurd z (by decide)) (fun z => absurd z (by decide)) (fun z => absurd z (by decide)) (fun z => absurd z (by decide)) (fun z => absurd z (by decide)) (fun z => absurd z (by decide)) (fun z => absurd z (by decide)) (fun z => absurd z (by decide)) (fun _ => h) (fun z => absurd z (by decide)) (fun z => absurd z (by decide)) (fun z => absurd z (by decide)) (fun z => absurd z (by decide)) (fun z0 z1 z2 z3 z4 z5 z6 z7 z8 z9 z10 z11 z12 z13 => absurd rfl z9))
theorem fd_10 (h : mm_cq (mm_call mm_ms (mm_tb L xs) d) 76 [mm_R 164, mm_I x1] mi ml (fun o n1 n2 => mm_WQ (mm_call mm_ms (mm_tb L xs) d) (mm_tb L xs) mm_m74 (mm_li mm_m74) Q 180 [some (mm_R 164), some (mm_I x1), some (mm_I (nI 10))] (o.toList ++ []) n1 n2)) : mm_cq (mm_call mm_ms (mm_tb L xs) (d + 1)) 74 [mm_R 164, mm_I x1, mm_I (nI 10)] mi ml Q :=
  en_X6_finishNode_L (bk_X6_finishNode_L_0 (mm_call_m _) (fun z => absurd z (by decide)) (fun z => absurd z (by decide)) (fun z => absurd z (by decide)) (fun z => absurd z (by decide)) (fun z => absurd z (by decide)) (fun z => absurd z (by decide)) (fun z => absurd z (by decide)) (fun z => absurd z (by decide)) (fun z => absurd z (by decide)) (fun z => absurd z (by decide)) (fun _ => h) (fun z => absurd z (by decide)) (fun z => absurd z (by decide)) (fun z => absurd z (by decide)) (fun z0 z1 z2 z3 z4 z5 z6 z7 z8 z9 z10 z11 z12 z13 => absurd rfl z10))
theorem fd_11 (h : mm_cq (mm_call mm_ms (mm_tb L xs) d) 86 [mm_R 164] mi ml (fun o n1 n2 => mm_WQ (mm_call mm_ms (mm_tb L xs) d) (mm_tb L xs) mm_m74 (mm_li mm_m74) Q 188 [some (mm_R 164), some (mm_I x1), some (mm_I (nI 11))] (o.toList ++ [mm_R 164]) n1 n2)) : mm_cq (mm_call mm_ms (mm_tb L xs) (d + 1)) 74 [mm_R 164, mm_I x1, mm_I (nI 11)] mi ml Q :=
  en_X6_finishNode_L (bk_X6_finishNode_L_0 (mm_call_m _) (fun z => absurd z (by decide)) (fun z => absurd z (by decide)) (fun z => absurd z (by decide)) (fun z => absurd z (by decide)) (fun z => absurd z (by decide)) (fun z => absurd z (by decide)) (fun z => absurd z (by decide)) (fun z => absurd z (by decide)) (fun z => absurd z (by decide)) (fun z => absurd z (by decide)) (fun z => absurd z (by decide)) (fun _ => h) (fun z => absurd z (by decide)) (fun z => absurd z (by decide)) (fun z0 z1 z2 z3 z4 z5 z6 z7 z8 z9 z10 z11 z12 z13 => absurd rfl z11))
theorem fd_12 (h : mm_cq (mm_call mm_ms (mm_tb L xs) d) 77 [mm_R 164, mm_I x1] mi ml (fun o n1 n2 => mm_WQ (mm_call mm_ms (mm_tb L xs) d) (mm_tb L xs) mm_m74 (mm_li mm_m74) Q 207 [some (mm_R 164), some (mm_I x1), some (mm_I (nI 12))] (o.toList ++ []) n1 n2)) : mm_cq (mm_call mm_ms (mm_tb L xs) (d + 1)) 74 [mm_R 164, mm_I x1, mm_I (nI 12)] mi ml Q :=
  en_X6_finishNode_L (bk_X6_finishNode_L_0 (mm_call_m _) (fun z => absurd z (by decide)) (fun z => absurd z (by decide)) (fun z => absurd z (by decide)) (fun z => absurd z (by decide)) (fun z => absurd z (by decide)) (fun z => absurd z (by decide)) (fun z => absurd z (by decide)) (fun z => absurd z (by decide)) (fun z => absurd z (by decide)) (fun z => absurd z (by decide)) (fun z => absurd z (by decide)) (fun z => absurd z (by decide)) (fun _ => h) (fun z => absurd z (by decide)) (fun z0 z1 z2 z3 z4 z5 z6 z7 z8 z9 z10 z11 z12 z13 => absurd rfl z12))
theorem fd_13 (h : mm_cq (mm_call mm_ms (mm_tb L xs) d) 78 [mm_R 164] mi ml (fun o n1 n2 => mm_WQ (mm_call mm_ms (mm_tb L xs) d) (mm_tb L xs) mm_m74 (mm_li mm_m74) Q 214 [some (mm_R 164), some (mm_I x1), some (mm_I (nI 13))] (o.toList ++ []) n1 n2)) : mm_cq (mm_call mm_ms (mm_tb L xs) (d + 1)) 74 [mm_R 164, mm_I x1, mm_I (nI 13)] mi ml Q :=
  en_X6_finishNode_L (bk_X6_finishNode_L_0 (mm_call_m _) (fun z => absurd z (by decide)) (fun z => absurd z (by decide)) (fun z => absurd z (by decide)) (fun z => absurd z (by decide)) (fun z => absurd z (by decide)) (fun z => absurd z (by decide)) (fun z => absurd z (by decide)) (fun z => absurd z (by decide)) (fun z => absurd z (by decide)) (fun z => absurd z (by decide)) (fun z => absurd z (by decide)) (fun z => absurd z (by decide)) (fun z => absurd z (by decide)) (fun _ => h) (fun z0 z1 z2 z3 z4 z5 z6 z7 z8 z9 z10 z11 z12 z13 => absurd rfl z13))
/-- a value y was pushed at t; the heap ends at p' -/
def RP (w w' : mm_P) (t p : Nat) (y : Int32) (p' : Nat) : Prop := (∀ c i, ¬ (c = 165 ∧ (i = t ∨ i = p ∨ i = p + 1)) → ¬ (c = 164 ∧ (i = 8 ∨ i = 9)) → ¬ (c = 162 ∧ i = 3) → w' c i = w c i) ∧ w' 164 8 = nI (t + 1) ∧ w' 165 t = y ∧ w' 164 9 = nI p'
/-- leaves -/
theorem tn_0 {n t p k o b : Nat} (hK : KW NB ND NF mi) (hn : n < ND) (h8 : mi 164 8 = nI t) (ht : t < 4096) (h9 : mi 164 9 = nI p) (hk : k = 0 ∨ k = 1 ∨ k = 9 ∨ k = 2) (ha : k = 2 → mi 164 11 = nI (o + 1) ∧ o < 30 ∧ mi 169 o = nI b ∧ b < 4096) (hQ : ∀ y w', ((k = 0 ∨ k = 1) ∧ y = mi 6 (4 * n)) ∨ (k = 9 ∧ y = 0) ∨ (k = 2 ∧ y = mi 165 b) → RP mi w' t p y p → w' 162 3 = mi 162 3 → Q none w' ml) : mm_cq (mm_call mm_ms (mm_tb L xs) (d + 6)) 74 [mm_R 164, mm_I (nI n), mm_I (nI k)] mi ml Q := by
  have hND := hK.2.2.1
  have hp : ∀ (y : Int32), RP mi (mm_u (mm_u mi 165 t y) 164 8 (nI (t + 1))) t p y p := fun y => ⟨fun c i a b _ => by rw [mm_u_o (by omega), mm_u_o (by omega)], mm_u_s, by rw [mm_u_e (by decide), mm_u_s], by rw [mm_u_f (by decide), mm_u_e (by decide)]; exact h9⟩
  have h3 : ∀ (y : Int32), mm_u (mm_u mi 165 t y) 164 8 (nI (t + 1)) 162 3 = mi 162 3 := fun y => by rw [mm_u_e (by decide), mm_u_e (by decide)]
  rcases hk with rfl | rfl | rfl | rfl
  · refine fd_0 (sx_wantedAt (i := 0) hK.1.2.1 hND hn (by decide) (bk_X6_finishNode_L_82 (mm_call_m _) (sm_push_L h8 (by omega) (bk_X6_finishNode_L_85 (mm_call_m _) (bk_X6_finishNode_L_217 (mm_call_m _) (hQ _ _ (.inl ⟨.inl rfl, rfl⟩) (hp _) (h3 _)))))))
  · refine fd_1 (sx_wantedAt (i := 0) hK.1.2.1 hND hn (by decide) (bk_X6_finishNode_L_82 (mm_call_m _) (sm_push_L h8 (by omega) (bk_X6_finishNode_L_85 (mm_call_m _) (bk_X6_finishNode_L_217 (mm_call_m _) (hQ _ _ (.inl ⟨.inr rfl, rfl⟩) (hp _) (h3 _)))))))
  · exact fd_9 (sm_push_L h8 (by omega) (bk_X6_finishNode_L_172 (mm_call_m _) (bk_X6_finishNode_L_217 (mm_call_m _) (hQ _ _ (.inr (.inl ⟨rfl, rfl⟩)) (hp _) (h3 _)))))
  · obtain ⟨h11, ho, h169, hb⟩ := ha rfl
    have e : mi 164 11 - 1 = nI o := by rw [h11, mm_dec' o (by omega)]
    refine fd_2 (en_X6_pushArgument_L (bk_X6_pushArgument_L_0 (mm_call_m _) (fun z => ?_) (fun _ z => ?_) (fun _ _ => ?_) (fun _ _ => ?_) (fun _ _ => ?_)))
    · rw [e] at z
      have := mm_ltI z
      rw [mm_tI (by omega), mm_tt0] at this
      omega
    · rw [e] at z
      have := mm_leI z
      rw [mm_tI (by omega), mm_t30] at this
      omega
    · rw [e]
      exact vp_in_nI ho (by decide)
    · rw [e]
      exact vp_in_nI ho (by decide)
    · rw [e, nI_clamp (by omega), h169]
      exact en_X5_argumentWidth (bk_X5_argumentWidth_0 (mm_call_m _) (bk_X6_pushArgument_L_34 (mm_call_m _) (sm_from h8 (by omega) (by omega) (bk_X6_pushArgument_L_37 (mm_call_m _) (bk_X6_finishNode_L_92 (mm_call_m _) (bk_X6_finishNode_L_217 (mm_call_m _) (hQ _ _ (.inr (.inr ⟨rfl, rfl⟩)) (hp _) (h3 _))))))))
/-- one part came -/
theorem tn_1 {n t p k o : Nat} (h8 : mi 164 8 = nI (t + 1)) (ht : t < 4096) (h9 : mi 164 9 = nI p) (h11 : mi 164 11 = nI (o + 1)) (ho : o < 30) (hk : k = 7 ∨ k = 8 ∨ k = 11 ∨ k = 12 ∨ k = 13) (ha : ¬ k = 11 → (mi 165 t = 0 ∧ (k = 12 ∨ k = 13)) ∨ ∃ a, mi 165 t = nI a ∧ 0 < a ∧ a + 1 < 8192) (hQ : ∀ y w', ((k = 7 ∧ y = mi 165 (mi 165 t).toNatClampNeg) ∨ (k = 8 ∧ y = mi 165 ((mi 165 t).toNatClampNeg + 1)) ∨ (k = 11 ∧ y = if mi 165 t = 0 then 1 else 0) ∨ (k = 12 ∧ ¬ mi 165 t = 0 ∧ y = mi 165 ((mi 165 t).toNatClampNeg + 1)) ∨ (k = 13 ∧ ¬ mi 165 t = 0 ∧ y = mi 165 (mi 165 t).toNatClampNeg)) → RP mi w' t p y p → w' 162 3 = mi 162 3 → Q none w' ml) (h1 : (k = 12 ∨ k = 13) → mi 165 t = 0 → Q none (mm_u (mm_u mi 164 8 (nI t)) 162 5 1) ml) : mm_cq (mm_call mm_ms (mm_tb L xs) (d + 6)) 74 [mm_R 164, mm_I (nI n), mm_I (nI k)] mi ml Q := by
  have hp : ∀ (y : Int32), RP mi (mm_u (mm_u (mm_u mi 164 8 (nI t)) 165 t y) 164 8 (nI (t + 1))) t p y p := fun y => ⟨fun c i a b _ => by rw [mm_u_o (by omega), mm_u_o (by omega), mm_u_o (by omega)], mm_u_s, by rw [mm_u_e (by decide), mm_u_s], by rw [mm_u_f (by decide), mm_u_e (by decide), mm_u_f (by decide)]; exact h9⟩
  have h3 : ∀ (y : Int32), mm_u (mm_u (mm_u mi 164 8 (nI t)) 165 t y) 164 8 (nI (t + 1)) 162 3 = mi 162 3 := fun y => by rw [mm_u_e (by decide), mm_u_e (by decide), mm_u_e (by decide)]
  rcases hk with rfl | rfl | rfl | rfl | rfl
  · obtain ⟨a, a1, -, a2⟩ := (ha (by decide)).resolve_left (fun q => by rcases q.2 with q | q <;> exact absurd q (by decide))
    refine fd_7 (sm_unit_L h11 ho (bk_X6_finishNode_L_146 (mm_call_m _) (sm_part h8 (by omega) a1 a2 (fun _ => bk_X6_finishNode_L_151 (mm_call_m _) (bk_X6_finishNode_L_217 (mm_call_m _) (hQ _ _ (.inl ⟨rfl, ?_⟩) (hp _) (h3 _)))) (fun z => absurd rfl z))))
    rw [a1, nI_clamp (by omega)]
  · obtain ⟨a, a1, -, a2⟩ := (ha (by decide)).resolve_left (fun q => by rcases q.2 with q | q <;> exact absurd q (by decide))
    refine fd_8 (sm_unit_L h11 ho (bk_X6_finishNode_L_159 (mm_call_m _) (sm_part h8 (by omega) a1 a2 (fun z => absurd z (by decide)) (fun _ => bk_X6_finishNode_L_164 (mm_call_m _) (bk_X6_finishNode_L_217 (mm_call_m _) (hQ _ _ (.inr (.inl ⟨rfl, ?_⟩)) (hp _) (h3 _)))))))
    rw [a1, nI_clamp (by omega)]
  · refine fd_11 (sm_pop_L h8 (by omega) (bk_X6_finishNode_L_188 (mm_call_m _) (fun z => sm_push_L mm_u_s (by omega) (bk_X6_finishNode_L_199 (mm_call_m _) (bk_X6_finishNode_L_217 (mm_call_m _) (hQ _ _ (.inr (.inr (.inl ⟨rfl, (if_neg z).symm⟩))) (hp _) (h3 _))))) (fun z => sm_push_L mm_u_s (by omega) (bk_X6_finishNode_L_199 (mm_call_m _) (bk_X6_finishNode_L_217 (mm_call_m _) (hQ _ _ (.inr (.inr (.inl ⟨rfl, (if_pos z).symm⟩))) (hp _) (h3 _)))))))
  · refine fd_12 (en_X6_takeHead_L (bk_X6_takeHead_L_0 (mm_call_m _) (sm_pop_L h8 (by omega) (bk_X6_takeHead_L_4 (mm_call_m _) (fun z => ?_) (fun z => en_X9_end (bk_X9_end_0 (mm_call_m _) (bk_X6_takeHead_L_17 (mm_call_m _) (bk_X6_finishNode_L_207 (mm_call_m _) (bk_X6_finishNode_L_217 (mm_call_m _) (h1 (.inl rfl) z))))))))))
    obtain ⟨a, a1, -, a2⟩ := (ha (by decide)).resolve_left (fun q => z q.1)
    rw [a1, show nI a + 1 = nI (a + 1) from (nI_succ a).symm]
    refine sm_unit_L (o := o) (by rw [mm_u_f (by decide)]; exact h11) ho (bk_X6_takeHead_L_27 (mm_call_m _) (en_X5_nodeWidth (bk_X5_nodeWidth_0 (mm_call_m _) (bk_X6_takeHead_L_31 (mm_call_m _) (sm_from mm_u_s (by omega) a2 (bk_X6_takeHead_L_34 (mm_call_m _) (bk_X6_finishNode_L_207 (mm_call_m _) (bk_X6_finishNode_L_217 (mm_call_m _) ?_))))))))
    rw [mm_u_e (by decide)]
    refine hQ _ _ (.inr (.inr (.inr (.inl ⟨rfl, z, ?_⟩)))) (hp _) (h3 _)
    rw [a1, nI_clamp (by omega)]
  · refine fd_13 (en_X6_takeTail_L (bk_X6_takeTail_L_0 (mm_call_m _) (sm_pop_L h8 (by omega) (bk_X6_takeTail_L_4 (mm_call_m _) (fun z => ?_) (fun z => en_X9_end (bk_X9_end_0 (mm_call_m _) (bk_X6_takeTail_L_17 (mm_call_m _) (bk_X6_finishNode_L_214 (mm_call_m _) (bk_X6_finishNode_L_217 (mm_call_m _) (h1 (.inr rfl) z))))))))))
    obtain ⟨a, a1, -, a2⟩ := (ha (by decide)).resolve_left (fun q => z q.1)
    rw [a1]
    refine sm_cell_L (by omega) (bk_X6_takeTail_L_24 (mm_call_m _) (sm_push_L mm_u_s (by omega) (bk_X6_takeTail_L_27 (mm_call_m _) (bk_X6_finishNode_L_214 (mm_call_m _) (bk_X6_finishNode_L_217 (mm_call_m _) ?_)))))
    rw [mm_u_e (by decide)]
    refine hQ _ _ (.inr (.inr (.inr (.inr ⟨rfl, z, ?_⟩)))) (hp _) (h3 _)
    rw [a1, nI_clamp (by omega)]
/-- both parts came -/
theorem tn_2 {n t p k o l : Nat} (hK : KW NB ND NF mi) (hok : okK NB mi n) (hn : n < ND) (h8 : mi 164 8 = nI (t + 2)) (ht : t + 1 < 4096) (h9 : mi 164 9 = nI p) (hp4 : 4096 ≤ p ∧ p + 2 ≤ 8192) (h11 : mi 164 11 = nI (o + 1)) (ho : o < 30) (h162 : mi 162 3 = nI l) (hl : l ≤ 100) (hk : k = 3 ∨ k = 4 ∨ k = 6 ∨ k = 10) (hkp : k = 10 → 1 ≤ (f_parts (mi 4 n)).toInt)
    (hQ : ∀ y w', ((k = 3 ∧ y = mi 165 t + mi 165 (t + 1)) ∨ (k = 4 ∧ y = if mi 165 (t + 1) ≤ mi 165 t then 0 else 1)) → RP mi w' t p y p → w' 162 3 = nI l → Q none w' ml)
    (hC : ∀ w', RP mi w' t p (nI p) (p + 2) → ((k = 6 ∧ w' 162 3 = nI l ∧ w' 165 p = mi 165 t ∧ w' 165 (p + 1) = mi 165 (t + 1)) ∨ (k = 10 ∧ l < 100 ∧ w' 162 3 = nI (l + 1) ∧ w' 165 p = mi 165 (t + 1) ∧ w' 165 (p + 1) = mi 165 t)) → Q none w' ml)
    (h4 : k = 10 → l = 100 → Q none (mm_u (mm_u mi 162 3 (nI (l + 1))) 162 5 4) ml) : mm_cq (mm_call mm_ms (mm_tb L xs) (d + 6)) 74 [mm_R 164, mm_I (nI n), mm_I (nI k)] mi ml Q := by
  have hND := hK.2.2.1
  have e1 : mm_u (mm_u mi 164 8 (nI (t + 1))) 164 8 (nI t) 164 8 = nI t := mm_u_s
  have hp : ∀ (y : Int32), RP mi (mm_u (mm_u (mm_u (mm_u mi 164 8 (nI (t + 1))) 164 8 (nI t)) 165 t y) 164 8 (nI (t + 1))) t p y p := fun y => ⟨fun c i a b _ => by rw [mm_u_o (by omega), mm_u_o (by omega), mm_u_o (by omega), mm_u_o (by omega)], mm_u_s, by rw [mm_u_e (by decide), mm_u_s], by rw [mm_u_f (by decide), mm_u_e (by decide), mm_u_f (by decide), mm_u_f (by decide)]; exact h9⟩
  have h3 : ∀ (y : Int32), mm_u (mm_u (mm_u (mm_u mi 164 8 (nI (t + 1))) 164 8 (nI t)) 165 t y) 164 8 (nI (t + 1)) 162 3 = nI l := fun y => by
    rw [mm_u_e (by decide), mm_u_e (by decide), mm_u_e (by decide), mm_u_e (by decide)]
    exact h162
  rcases hk with rfl | rfl | rfl | rfl
  · refine fd_3 (sm_pop_L (t := t + 1) h8 (by omega) (bk_X6_finishNode_L_100 (mm_call_m _) (sm_pop_L (t := t) mm_u_s (by omega) (bk_X6_finishNode_L_104 (mm_call_m _) (sm_push_L e1 (by omega) (bk_X6_finishNode_L_108 (mm_call_m _) (bk_X6_finishNode_L_217 (mm_call_m _) (hQ _ _ (.inl ⟨rfl, ?_⟩) (hp _) (h3 _)))))))))
    rw [mm_u_e (by decide)]
    exact Int32.add_comm _ _
  · refine fd_4 (sm_pop_L (t := t + 1) h8 (by omega) (bk_X6_finishNode_L_116 (mm_call_m _) (sm_pop_L (t := t) mm_u_s (by omega) ?_)))
    rw [mm_u_e (by decide)]
    exact bk_X6_finishNode_L_120 (mm_call_m _) (fun z => sm_push_L e1 (by omega) (bk_X6_finishNode_L_131 (mm_call_m _) (bk_X6_finishNode_L_217 (mm_call_m _) (hQ _ _ (.inr ⟨rfl, (if_pos z).symm⟩) (hp _) (h3 _))))) (fun z => sm_push_L e1 (by omega) (bk_X6_finishNode_L_131 (mm_call_m _) (bk_X6_finishNode_L_217 (mm_call_m _) (hQ _ _ (.inr ⟨rfl, (if_neg z).symm⟩) (hp _) (h3 _)))))
  · refine fd_6 (sm_join h8 (by omega) h9 hp4.2 (bk_X6_finishNode_L_138 (mm_call_m _) (bk_X6_finishNode_L_217 (mm_call_m _) (hC _ ⟨fun c i a b _ => ?_, mm_u_s, ?_, ?_⟩ (.inl ⟨rfl, ?_, ?_, ?_⟩)))))
    · rw [mm_u_o (by omega), mm_u_o (by omega), mm_u_o (by omega), mm_u_o (by omega), mm_u_o (by omega), mm_u_o (by omega), mm_u_o (by omega)]
    · rw [mm_u_e (by decide), mm_u_s]
    · rw [mm_u_f (by decide), mm_u_e (by decide), mm_u_e (by decide), mm_u_e (by decide), mm_u_s]
    · rw [mm_u_e (by decide), mm_u_e (by decide), mm_u_e (by decide), mm_u_e (by decide), mm_u_e (by decide), mm_u_e (by decide), mm_u_e (by decide)]
      exact h162
    · rw [mm_u_e (by decide), mm_u_f (by omega), mm_u_f (by omega), mm_u_s]
    · rw [mm_u_e (by decide), mm_u_f (by omega), mm_u_s]
  · refine fd_10 (en_X6_makeLink_L (bk_X6_makeLink_L_0 (mm_call_m _) (en_X9_countLink (bk_X9_countLink_0 (mm_call_m _) ?_))))
    rw [h162, show nI l + 1 = nI (l + 1) from (nI_succ l).symm]
    refine bk_X6_makeLink_L_7 (mm_call_m _) (fun z => ?_) (fun z => en_X9_end (bk_X9_end_0 (mm_call_m _) (bk_X6_makeLink_L_20 (mm_call_m _) (bk_X6_finishNode_L_180 (mm_call_m _) (bk_X6_finishNode_L_217 (mm_call_m _) (h4 rfl ?_))))))
    · have z' := mm_leI z
      rw [mm_tI (by omega), mm_t100] at z'
      refine sm_pop_L (t := t + 1) (by rw [mm_u_e (by decide)]; exact h8) (by omega) (bk_X6_makeLink_L_25 (mm_call_m _) (sm_unit_L (o := o) (by rw [mm_u_f (by decide), mm_u_e (by decide)]; exact h11) ho (bk_X6_makeLink_L_33 (mm_call_m _) ?_)))
      generalize hw2 : mm_u (mm_u mi 162 3 (nI (l + 1))) 164 8 (nI (t + 1)) = w2
      have o2 : ∀ c i, ¬ (c = 162 ∧ i = 3) → ¬ (c = 164 ∧ i = 8) → w2 c i = mi c i := fun c i a b => by rw [← hw2, mm_u_o b, mm_u_o a]
      have hK2 : KW NB ND NF w2 := ⟨⟨(o2 1 1 (by omega) (by omega)).trans hK.1.1, (o2 3 5 (by omega) (by omega)).trans hK.1.2.1, (o2 9 7 (by omega) (by omega)).trans hK.1.2.2⟩, hK.2⟩
      have hok2 : okK NB w2 n := okK_e hok (fun c i q => o2 c i (by omega) (by omega))
      have e8 : w2 164 8 = nI (t + 1) := by rw [← hw2, mm_u_s]
      have e3 : w2 162 3 = nI (l + 1) := by rw [← hw2, mm_u_e (by decide), mm_u_s]
      have e9 : w2 164 9 = nI p := (o2 164 9 (by omega) (by omega)).trans h9
      have et1 : mm_u mi 162 3 (nI (l + 1)) 165 (t + 1) = mi 165 (t + 1) := mm_u_e (by decide)
      rw [et1]
      refine sx_partOf7 (i := 0) hK2 hn (by decide) hok2 (fun _ => bk_X6_makeLink_L_42 (mm_call_m _) (en_X5_nodeWidth (bk_X5_nodeWidth_0 (mm_call_m _) (bk_X6_makeLink_L_45 (mm_call_m _) (sm_link e8 (by omega) e9 hp4.2 (by omega) (bk_X6_makeLink_L_49 (mm_call_m _) (sm_push_L (t := t) mm_u_s (by omega) (bk_X6_makeLink_L_52 (mm_call_m _) (bk_X6_finishNode_L_180 (mm_call_m _) (bk_X6_finishNode_L_217 (mm_call_m _) (hC _ ⟨fun c i a b e => ?_, mm_u_s, ?_, ?_⟩ (.inr ⟨rfl, by omega, ?_, ?_, ?_⟩)))))))))))) (fun y => absurd (by rw [o2 4 n (by omega) (by omega)]; have := hkp rfl; omega) y)
      · rw [mm_u_o (by omega), mm_u_o (by omega), mm_u_o (by omega), mm_u_o (by omega), mm_u_o (by omega), mm_u_o (by omega)]
        exact o2 c i e (by omega)
      · rw [mm_u_e (by decide), mm_u_s]
      · rw [mm_u_f (by decide), mm_u_e (by decide), mm_u_f (by decide), mm_u_e (by decide), mm_u_e (by decide), mm_u_s]
      · rw [mm_u_e (by decide), mm_u_e (by decide), mm_u_e (by decide), mm_u_e (by decide), mm_u_e (by decide), mm_u_e (by decide)]
        exact e3
      · rw [mm_u_e (by decide), mm_u_f (by omega), mm_u_e (by decide), mm_u_f (by omega), mm_u_s]
      · rw [mm_u_e (by decide), mm_u_f (by omega), mm_u_e (by decide), mm_u_s]
        exact o2 165 t (by omega) (by omega)
    · have z' := mm_nleI z
      rw [mm_tI (by omega), mm_t100] at z'
      omega
end MMT
