/-! ===== what is told: the machine of copies ===== -/
section MMT
variable {L : Nat} {xs : Nat → Int32} {d : Nat} {Q : mm_QQ} {ml : mm_G} {lim : Nat × Nat}
theorem qLn_b {P : FR} {R : BR} {A B K : HF} {h p : Nat} {φ : Nat → Nat} (hh : h < 6000) (hp : p ≤ 8192) (hP2 : 1 ≤ P.2) : ∀ (j : Nat) {v : Int32} {c : HF}, (qL 4096 P).1 A B h p K φ v c → bLn R j 104 A B h v → CHN B K (fun a q => P.1 A B h p K φ (A a) (fun i => K (q + 1 + i)) ∧ q + 1 + P.2 ≤ p ∧ R 104 A B h (A a)) j v (c 0) := by
  intro j
  induction j with
  | zero =>
    intro v c q hb
    have e : v = -1 := hb
    rcases qL_get q with q | ⟨a, a1, a2, -⟩
    · exact q
    · exfalso
      exact nI_ne (by omega) (a2.symm.trans e)
  | succ j ih =>
    intro v c q hb
    rcases qL_get q with q | ⟨a, a1, a2, a3, ⟨a4, a5⟩, a6, a7⟩
    · exact .inl q
    · rcases hb with e | ⟨b, b1, b2, b3, b4⟩
      · exfalso
        exact nI_ne (by omega) (a2.symm.trans e)
      · have e : a = b := nI_ij (by omega) (by omega) (a2.symm.trans b2)
        subst e
        exact .inr ⟨a, φ a, by omega, a2, a3, a4, by omega, ⟨a6, a5, b3⟩, ih a7 b4⟩
theorem cc_tell {NB ND NF : Nat} {m : mm_P} (hI : IM m NB ND NF) (hT : TC NB m ml) {A B K : HF} {h p : Nat} {φ : Nat → Nat} (hh : h < 6000) (hp : p ≤ 8192) : ∀ (k : Nat) {ty a : Nat} {w : mm_P} {v : Int32} {l : List Int32} {Q : mm_QQ}, ty < NB → CLs (ml 2 ty) → dpn (ml 2 ty) ≤ k → a + wd (ml 2 ty) ≤ 8192 → (∀ i, w 171 i = K i) → (qV 4096 (ml 2 ty)).1 A B h p K φ v (fun i => K (a + i)) → GVt gB m bI bI ty 104 A B h v → RWl (w 162 1) (w 163) l → (∀ w', FTl w w' → RWl (w' 162 1) (w' 163) (l ++ tlv m A B k ty v) → Q none w' ml) → mm_cq (mm_call mm_ms (mm_tb L xs) (d + k + 13)) 81 [mm_R 170, mm_L (ml 2 ty), mm_I (nI a)] w ml Q := by
  have hNB := hI.1.1
  have hTW := TW_I hI
  have hD := hI.2.2.2.1
  intro k
  induction k with
  | zero =>
    intro ty a w v l Q hty hcl hk
    have := (dpn_r (CLs_V hcl)).1
    omega
  | succ k ih =>
    intro ty a w v l Q hty hcl hk ha hK hG hB hR hQ
    obtain ⟨ekd, hc⟩ := SH_k hD hT hty
    have w16 := wd_16 hcl
    have hkind := kd_cl (ml 2 ty) hcl
    rw [ekd] at hkind
    show mm_cq (mm_call mm_ms (mm_tb L xs) (d + k + 13 + 1)) 81 [mm_R 170, mm_L (ml 2 ty), mm_I (nI a)] w ml Q
    refine en_X6_tellValue_C (bk_X6_tellValue_C_0 (mm_call_m _) (sp_X10_kindOf (bk_X6_tellValue_C_4 (mm_call_m _) (fun z => ?_) (fun z => ?_) (fun z1 z2 => ?_))))
    · -- PAIR
      have z4 : f_kd (ml 2 ty) = 4 := z.trans (show nI 4 = (4 : Int32) from rfl)
      have z' : m 177 ty = 4 := ekd.symm.trans z4
      obtain ⟨sx, sy, hx, hy, dx, dy, exy⟩ := CLs_4 hcl z4
      obtain ⟨v1, v2, v3, v4, v5⟩ := pr_V (CLs_V hx) (CLs_V hy) dx dy
      obtain ⟨x, y, -, -, la, lb, ea, eb, eG, hen⟩ := GVt_4 (G := gB) (SA := bI) (SB := bI) hTW (.inl hty) z'
      obtain ⟨efs, esc⟩ : f_fs (ml 2 ty) = ml 2 x ∧ f_sc (ml 2 ty) = ml 2 y := by
        rcases hc with ⟨q, -⟩ | ⟨a', -, -, q, -⟩ | ⟨a', b', la', -, lb', -, q, q1, q2, -⟩
        · exact absurd z' q
        · have := q.1
          rw [z'] at this
          exact absurd this (by decide)
        · have e1 : a' = x := nI_ij (by omega) (by omega) (q.2.1.symm.trans ea)
          have e2 : b' = y := nI_ij (by omega) (by omega) (q.2.2.1.symm.trans eb)
          subst e1 e2
          exact ⟨q1, q2⟩
      have ex : ml 2 x = sx := by rw [← efs, exy, v3]
      have ey : ml 2 y = sy := by rw [← esc, exy, v4]
      have ewp := wd_pr hx hy dx dy
      have wx := wd_16 hx
      have wy := wd_16 hy
      rw [exy] at hG ha hk
      rw [ewp] at ha
      rw [qV_pr hx hy dx dy] at hG
      rw [eG] at hB
      obtain ⟨p0, p1, p2, p4, p5⟩ := hG
      obtain ⟨p', b1, b2, b3, b4⟩ := hB
      have e : p' = p0 := nI_ij (by omega) (by omega) (b2.symm.trans p2)
      subst e
      have etl : tlv m A B (k + 1) ty v = tlv m A B k x (A p') ++ tlv m A B k y (B p') := by
        show (if m 177 ty = 4 then tlv m A B k (m 178 ty).toNatClampNeg (A v.toNatClampNeg) ++ tlv m A B k (m 179 ty).toNatClampNeg (B v.toNatClampNeg) else _) = _
        rw [if_pos z', ea, eb, p2, nI_clamp (by omega), nI_clamp (by omega), nI_clamp (by omega)]
      rw [etl] at hQ
      refine sp_X10_firstOf (bk_X6_tellValue_C_37 (mm_call_m _) (en_X1_partAddress (bk_X1_partAddress_0 (mm_call_m _) (fun _ => bk_X6_tellValue_C_44 (mm_call_m _) ?_) (fun y => absurd rfl y))))
      rw [efs]
      refine ih (a := a) (v := A p') (l := l) (by omega) (by rw [ex]; exact hx) (by rw [ex]; omega) (by rw [ex]; omega) hK (by rw [ex]; exact p4) b3 hR (fun w1 f1 r1 => bk_X6_tellValue_C_47 (mm_call_m _) (sp_X10_secondOf (bk_X6_tellValue_C_52 (mm_call_m _) (en_X1_partAddress (bk_X1_partAddress_0 (mm_call_m _) (fun y => absurd y (by decide)) (fun _ => sp_X10_firstOf (bk_X1_partAddress_10 (mm_call_m _) (sp_X10_widthOf (d := d + k + 2) (bk_X1_partAddress_13 (mm_call_m _) (bk_X6_tellValue_C_59 (mm_call_m _) ?_))))))))))
      have hK1 : ∀ i, w1 171 i = K i := fun i => (f1 171 i (by omega) (by decide)).trans (hK i)
      rw [esc, efs, ex, width_wd hx, nI_a (by omega)]
      refine ih (a := a + wd sx) (v := B p') (by omega) (by rw [ey]; exact hy) (by rw [ey]; omega) (by rw [ey]; omega) hK1 ?_ b4 r1 (fun w2 f2 r2 => bk_X6_tellValue_C_62 (mm_call_m _) (bk_X6_tellValue_C_154 (mm_call_m _) (hQ w2 (FTl_t f1 f2) (by rw [← List.append_assoc]; exact r2))))
      rw [ey]
      refine qV_m hy FE_r (fun i _ => ?_) p5
      show K (a + wd sx + i) = K (a + ((qV 4096 sx).2 + i))
      rw [(qV_w 4096 sx hx).1, Nat.add_assoc]
    · -- LIST
      have z5 : f_kd (ml 2 ty) = 5 := z.trans (show nI 5 = (5 : Int32) from rfl)
      have z' : m 177 ty = 5 := ekd.symm.trans z5
      obtain ⟨sx, hx, dx, exy⟩ := CLs_5 hcl z5
      obtain ⟨v1, v2, v3, v5⟩ := ls_V (CLs_V hx) dx
      obtain ⟨x, -, la, ea, eG, hen⟩ := GVt_5 (G := gB) (SA := bI) (SB := bI) hTW (.inl hty) z'
      have efs : f_fs (ml 2 ty) = ml 2 x := by
        rcases hc with ⟨-, q, -⟩ | ⟨a', la', -, q, q1, -⟩ | ⟨a', b', -, -, -, -, q, -⟩
        · exact absurd z' q
        · have e1 : a' = x := nI_ij (by omega) (by omega) (q.2.1.symm.trans ea)
          subst e1
          exact q1
        · have := q.1
          rw [z'] at this
          exact absurd this (by decide)
      have ex : ml 2 x = sx := by rw [← efs, exy, v3]
      have wx := wd_16 hx
      have eqw := (qV_w 4096 sx hx).1
      rw [exy] at hG hk
      rw [qV_ls hx dx] at hG
      rw [eG] at hB
      obtain ⟨j, j1, hj⟩ := id hB
      have ej := els_st (by omega) j v hj 104 j1
      have hl := els_le (B := B) j v
      have hj2 : bLn (GVt gB m bI bI x) j 104 A B h v := hj
      have hC := qLn_b hh hp (by omega) j hG hj2
      have etl : tlv m A B (k + 1) ty v = [nI (elsF B j v).length] ++ (elsF B j v).flatMap (fun b => tlv m A B k x (A b)) := by
        show (if m 177 ty = 4 then _ else if m 177 ty = 5 then nI (elsF B 104 v).length :: (elsF B 104 v).flatMap (fun b => tlv m A B k (m 178 ty).toNatClampNeg (A b)) else _) = _
        rw [if_neg (by rw [z']; decide), if_pos z', ea, nI_clamp (by omega), ej]
        rfl
      rw [etl, ← List.append_assoc] at hQ
      refine sm_cell_C (by omega) (bk_X6_tellValue_C_70 (mm_call_m _) ?_)
      rw [hK a]
      refine sp_len_C (d := d + k + 11) hK (by omega) hC (bk_X6_tellValue_C_78 (mm_call_m _) (se_add hR (fun w1 f1 r1 => bk_X6_tellValue_C_89 (mm_call_m _) ?_)))
      have hK1 : ∀ i, w1 171 i = K i := fun i => (f1 171 i (by omega) (by decide)).trans (hK i)
      exact tc_loop_C (d := d + k + 10) (F := fun b => tlv m A B k x (A b)) (N := (elsF B j v).length) (by omega) hK1 efs (fun {w2 a2 p2 l2 Q2} g1 g2 g3 g4 g5 g6 => ih (a := p2 + 1) (v := A a2) (by omega) (by rw [ex]; exact hx) (by rw [ex]; omega) (by rw [ex]; have := g1.2.1; omega) (fun i => (g4 171 i (by omega) (by decide)).trans (hK1 i)) (by rw [ex]; exact g1.1) g1.2.2 g5 (fun w3 t1 t2 => g6 w3 (FTl_t g4 t1) t2)) j 0 hC (by omega) FTl_r r1 (fun w2 f2 r2 => hQ w2 (FTl_t f1 f2) r2)
    · -- a number
      have n4 : ¬ m 177 ty = 4 := fun q => z1 (ekd.trans q)
      have n5 : ¬ m 177 ty = 5 := fun q => z2 (ekd.trans q)
      have etl : tlv m A B (k + 1) ty v = [v] := by
        show (if m 177 ty = 4 then _ else if m 177 ty = 5 then _ else [v]) = [v]
        rw [if_neg n4, if_neg n5]
      have ev : K a = v := by
        rcases hkind with q | q | q | q
        · have e0 : ml 2 ty = 0 := (CLs_01 hcl).1 (ekd.trans q)
          rw [e0, qV_0] at hG
          exact hG
        · have e0 : ml 2 ty = 1 := (CLs_01 hcl).2 (ekd.trans q)
          rw [e0, qV_1] at hG
          exact hG.1
        · exact absurd q n4
        · exact absurd q n5
      rw [etl] at hQ
      refine sm_cell_C (by omega) (bk_X6_tellValue_C_151 (mm_call_m _) ?_)
      rw [hK a, ev]
      exact se_add hR (fun w1 f1 r1 => bk_X6_tellValue_C_154 (mm_call_m _) (hQ w1 f1 r1))
end MMT
