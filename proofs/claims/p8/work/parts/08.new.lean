/-! ===== new cells ===== -/
theorem mm_ce_old {ad ad' : Nat → Nat} {ca ca' : Nat → ClassId} {w w' : mm_W} {n k : Nat} {c : mm_C} (hc : mm_loC n c = true) (had : ∀ j, j < n → ad' j = ad j) (hca : ca' k = ca k) (h1 : w'.2.1 k = w.2.1 k) (h2 : w'.2.2 k = w.2.2 k) : mm_ce ad' ca' w' k c = mm_ce ad ca w k c := by
  unfold mm_ce
  rw [h1, h2, hca]
  split
  · rename_i ci fs
    congr 2
    apply List.ext_getElem?
    intro j
    rw [List.getElem?_mapIdx, List.getElem?_mapIdx]
    cases ho : fs[j]? with
    | none => rfl
    | some o =>
      have hm := List.all_eq_true.mp (show fs.all _ = true from hc) o (List.mem_of_getElem? ho)
      rcases o with _ | _ | r
      · rfl
      · rfl
      · have hr : r < n := by simpa [Nat.blt_eq] using hm
        simp [mm_fv, had r hr]
  · rfl
  · rfl
  · rename_i t len b
    have hb : b + len ≤ n := by simpa [mm_loC, Nat.ble_eq] using hc
    have hf : (fun i => if i < len then some (ad' (b + i)) else none) = (fun i => if i < len then some (ad (b + i)) else none) := by
      funext i
      by_cases h : i < len
      · rw [if_pos h, if_pos h, had (b + i) (by omega)]
      · rw [if_neg h, if_neg h]
    rw [hf]
theorem mm_ws_app {ad ad' : Nat → Nat} {ca ca' : Nat → ClassId} {w w' : mm_W} {cs : List mm_C} (hl : w'.1 = w.1 ++ cs) (hold : ∀ (k : Nat) (c : mm_C), w.1[k]? = some c → (ad' k, mm_ce ad' ca' w' k c) = (ad k, mm_ce ad ca w k c)) : mm_ws ad' ca' w' = mm_ws ad ca w ++ cs.mapIdx (fun i c => (ad' (i + w.1.length), mm_ce ad' ca' w' (i + w.1.length) c)) := by
  unfold mm_ws
  rw [hl, List.mapIdx_append]
  congr 1
  apply List.ext_getElem?
  intro k
  rw [List.getElem?_mapIdx, List.getElem?_mapIdx]
  cases hk : w.1[k]? with
  | none => rfl
  | some c => exact congrArg some (hold k c hk)
theorem mm_cv_old {ad ad' sad : Nat → Nat} {n : Nat} {v : mm_V} (hv : mm_lo n v = true) (had : ∀ j, j < n → ad' j = ad j) : mm_cv ad' sad v = mm_cv ad sad v := by
  rcases v with x | x | x | x | x
  · rfl
  · rfl
  · have : x < n := by simpa [mm_lo, Nat.blt_eq] using hv
    simp [mm_cv, had x this]
  · rfl
  · rfl
theorem mm_st_old {ad ad' sad : Nat → Nat} {n : Nat} {st : List mm_V} (hv : st.all (mm_lo n) = true) (had : ∀ j, j < n → ad' j = ad j) : st.map (mm_cv ad' sad) = st.map (mm_cv ad sad) :=
  List.map_congr_left fun v hm => mm_cv_old (List.all_eq_true.mp hv v hm) had
theorem mm_Lr_old {ad ad' sad : Nat → Nat} {n nL : Nat} {ls : List (Option mm_V)} {la : Array Slot} (hv : ls.all (mm_loO n) = true) (had : ∀ j, j < n → ad' j = ad j) (h : mm_Lr ad sad nL ls la) : mm_Lr ad' sad nL ls la := by
  refine mm_lv_weak h fun q hq => ?_
  obtain ⟨v, h1, h2⟩ := mm_lv_mem.mp hq
  have := List.all_eq_true.mp hv _ (List.mem_of_getElem? h1)
  exact mm_lv_mem.mpr ⟨v, h1, by rw [h2]; exact mm_cv_old this had⟩
theorem mm_chk_e {ls : List (Option mm_V)} {st : List mm_V} {l : List mm_C} (h : mm_chk ls st l = true) : ls.all (mm_loO l.length) = true ∧ st.all (mm_lo l.length) = true ∧ l.all (mm_loC l.length) = true := by
  simp only [mm_chk, Bool.and_eq_true] at h
  exact ⟨h.1.1, h.1.2, h.2⟩
theorem mm_cls2 {ci : Nat} {q : vw_C} (h : mm_cl[ci]? = some q) : ∀ j, j < q.2.2 → mm_tys ci j = .int ∨ mm_rfT (mm_tys ci j) = true := by
  match ci, h with
  | 0, h => cases h; decide +kernel
  | 1, h => cases h; decide +kernel
  | 2, h => cases h; decide +kernel
  | 3, h => cases h; decide +kernel
  | 4, h => cases h; decide +kernel
  | 5, h => cases h; decide +kernel
  | 6, h => cases h; decide +kernel
  | 7, h => cases h; decide +kernel
  | 8, h => cases h; decide +kernel
  | 9, h => cases h; decide +kernel
  | 10, h => cases h; decide +kernel
  | k + 11, h => simp [mm_cl] at h
section MMN
variable {p : Program} {l : Launch} {e : Env} {R : Room} {s : State} {m : MethodId} {args : Array Value} {below : List Frame} {meth : Method} {c : Code} {Qf : State → Prop}
variable {D : va_G} {B0 : Nat} {sad : Nat → Nat} {n0 : Nat} {ad0 : Nat → Nat} {lim : Nat × Nat} {M : mm_M} {ms : List mm_M} {tb : mm_T} {call : mm_F} {Q : Option mm_V → mm_W → Prop}
variable {nL : Nat} {ad : Nat → Nat} {H : Heap} {locs : List Loc} {cells slots : Nat} {la : Array Slot} {ls : List (Option mm_V)} {w : mm_W}
theorem mm_Ok.al {ad' : Nat → Nat} {w' : mm_W} {H1 : Heap} {cnt sc : Nat} (O : mm_Ok D B0 sad n0 ad0 lim R s nL ad H locs cells slots la ls w) (hlen : w'.1.length = w.1.length + cnt) (hsl : mm_sl w'.1 = mm_sl w.1 + sc) (hrm : mm_rm lim w cnt sc) (had : ∀ k, k < w.1.length ∨ w.1.length + cnt ≤ k → ad' k = ad k) (hH : mm_H D B0 ad' w' s H1) (hS : va_S (mm_A B0) s.heap H1 locs) (hls : ls.all (mm_loO w.1.length) = true) : mm_Ok D B0 sad n0 ad0 lim R s nL ad' H1 locs (cells + cnt) (slots + sc) la ls w' := by
  obtain ⟨h1, h2, h3, h4, h5, h6, h7, h8, h9⟩ := O
  obtain ⟨r1, r2⟩ := hrm
  refine ⟨fun k hk => ?_, by omega, by omega, by omega, hH, hS, mm_Lr_old hls (fun j hj => had j (Or.inl hj)) h7, by omega, by omega⟩
  rw [hlen] at hk
  rw [had k (by omega), h1 k (by omega)]
theorem mm_sl_app (l cs : List mm_C) : mm_sl (l ++ cs) = mm_sl l + mm_sl cs := by simp [mm_sl]
theorem mm_z_old {α : Type} [OfNat α 0] {f : Nat → Nat → α} {lo n k : Nat} (h : k < lo) : mm_z f lo n k = f k := by
  funext b
  have : ¬ (lo ≤ k ∧ k < lo + n) := by omega
  simp [mm_z, this]
theorem mm_z_new {α : Type} [OfNat α 0] {f : Nat → Nat → α} {lo n k : Nat} (h : lo ≤ k) (h2 : k < lo + n) : mm_z f lo n k = fun _ => 0 := by
  funext b
  simp [mm_z, h, h2]
theorem mm_lo_at {w : mm_W} (h : w.1.all (mm_loC w.1.length) = true) {k : Nat} {c : mm_C} (hk : w.1[k]? = some c) : mm_loC w.1.length c = true ∧ k < w.1.length := ⟨List.all_eq_true.mp h c (List.mem_of_getElem? hk), (List.getElem?_eq_some_iff.mp hk).1⟩
theorem mm_newc (hx : p.tables.exec = Jvm.exec) (hb : c.code = mm_Mb M) (hown : s.vm.findClass (mm_My M).cls = some m.cls) (hts : ∀ w ∈ mm_GW, w.before args s = true) (hcw : ∀ (ci : Nat) (q : vw_C), mm_cl[ci]? = some q → ∀ w ∈ u_ws q.1 q.2.1 q.2.2, w ∈ mm_GW) (hB : B0 ≤ s.heap.size)
    {pc idx p0 p1 p2 a ci : Nat} {ax : List (Nat × Nat)} {st : List mm_V} {C : String} {T : u_T} {N : Nat} {K : mm_V → mm_W → Prop} (hd : decode (mm_Mb M) pc = .ok (.new idx, 3)) (hC : mm_cl[ci]? = some (C, T, N)) (h0 : mm_at p0 (.classLink (mm_My M).cls idx C) = true) (h1 : mm_at p1 (.instantiable C N) = true) (h2 : mm_at p2 (.initialized C) = true) (hg : mm_new lim ((a, ci) :: ax) ls st w K) (O : mm_Ok D B0 sad n0 ad0 lim R s nL ad H locs cells slots la ls w)
    (hk : ∀ v w' ad' H1 cells1 slots1, K v w' → mm_Ok D B0 sad n0 ad0 lim R s nL ad' H1 locs cells1 slots1 la ls w' → W p l e R s m args below meth c H1 locs cells1 slots1 Qf (F0 m (pc + 3) la ((v :: st).map (mm_cv ad' sad)))) : W p l e R s m args below meth c H locs cells slots Qf (F0 m pc la (st.map (mm_cv ad sad))) := by
  have O' := O
  obtain ⟨o1, o2, o3, o4, hH, hS, oL, o8, o9⟩ := O
  obtain ⟨ca, tys, hK, hP, hD, hct⟩ := hH
  obtain ⟨hty, -, hN⟩ := mm_cls hC
  dsimp only at hN hty
  unfold mm_new at hg
  obtain ⟨hck, hrm, hKv⟩ := hg
  obtain ⟨c1, c2, c3⟩ := mm_chk_e hck
  have hn := w.1.length
  have hfs : ∀ j, j < N → defaultValue (mm_tys ci j) = vp_V ((mm_nf (mm_tys ci) (mm_cn ci)).mapIdx (fun _ o => mm_fv ad 0 o)) j := by
    intro j hj
    have hj' : j < mm_cn ci := by rw [← hN]; exact hj
    unfold vp_V mm_nf
    rw [List.getD_eq_getElem?_getD, List.getElem?_mapIdx, List.getElem?_map, List.getElem?_range hj']
    show _ = mm_fv ad 0 (match mm_tys ci j with | .int => none | _ => some none)
    have hcase : mm_tys ci j = .int ∨ mm_rfT (mm_tys ci j) = true := mm_cls2 hC j hj
    rcases hcase with h | h
    · rw [h]; rfl
    · cases hq : mm_tys ci j <;> rw [hq] at h <;> first | rfl | (simp [mm_rfT] at h)
  have r1 := hrm.1
  have r2 := hrm.2
  refine va_new (D := D) (C := C) (T := T) (N := N) hx hb hts (hcw ci _ hC) (mm_tys ci) hty hown (hts _ (mm_at_in h0)) (hts _ (mm_at_in h1)) (hts _ (mm_at_in h2)) hK hP hD hS (mm_hb hB) hC hfs (by omega) (by rw [← hN] at r2; omega) hd (fun q H1 hP1 hD1 hS1 => ?_)
  have had : ∀ k, k < w.1.length ∨ w.1.length + 1 ≤ k → (fun k => if k = w.1.length then q else ad k) k = ad k := fun k hk => by
    show (if k = w.1.length then q else ad k) = ad k
    rw [if_neg (by omega)]
  have hold : ∀ j, j < w.1.length → (fun k => if k = w.1.length then q else ad k) j = ad j := fun j hj => had j (Or.inl hj)
  generalize hw' : ((w.1 ++ [.inl (ci, mm_nf (mm_tys ci) (mm_cn ci))], mm_z w.2.1 w.1.length 1, mm_z w.2.2 w.1.length 1) : mm_W) = w' at hKv
  have e1 : w'.1 = w.1 ++ [.inl (ci, mm_nf (mm_tys ci) (mm_cn ci))] := by rw [← hw']
  have e2 : w'.2.1 = mm_z w.2.1 w.1.length 1 := by rw [← hw']
  have e3 : w'.2.2 = mm_z w.2.2 w.1.length 1 := by rw [← hw']
  have hws : mm_ws (fun k => if k = w.1.length then q else ad k) ca w' = mm_ws ad ca w ++ [(q, .inr (ci, (mm_nf (mm_tys ci) (mm_cn ci)).mapIdx (fun _ o => mm_fv ad 0 o)))] := by
    rw [mm_ws_app e1 (ad := ad) (ca := ca)]
    · congr 1
      simp only [List.mapIdx_cons, List.mapIdx_nil, Nat.zero_add, if_true]
      unfold mm_ce
      rw [e2, mm_z_new (Nat.le_refl _) (by omega)]
      dsimp only
      congr 4
      apply List.ext_getElem?
      intro j
      rw [List.getElem?_mapIdx, List.getElem?_mapIdx]
      cases ho : (mm_nf (mm_tys ci) (mm_cn ci))[j]? with
      | none => rfl
      | some o =>
        have hm := List.mem_of_getElem? ho
        unfold mm_nf at hm
        obtain ⟨i, -, hi⟩ := List.mem_map.mp hm
        have : o = none ∨ o = some none := by
          rw [← hi]
          split
          · exact Or.inl rfl
          · exact Or.inr rfl
        rcases this with rfl | rfl <;> rfl
    · intro k ck hk
      obtain ⟨g1, g2⟩ := mm_lo_at c3 hk
      exact Prod.ext (hold k g2) (mm_ce_old g1 hold rfl (by rw [e2]; exact mm_z_old g2) (by rw [e3]; exact mm_z_old g2))
  have hres := hk (mm_R w.1.length) w' (fun k => if k = w.1.length then q else ad k) H1 (cells + 1) (slots + N) hKv (O'.al (by rw [e1]; simp) (by rw [e1, mm_sl_app]; simp [mm_sl, mm_c1, mm_nf, hN]) (by rw [← hN] at hrm; exact hrm) had ⟨ca, tys, hK, by rw [hws]; exact hP1, by rw [hws]; exact hD1, fun k ck hkc => by
    rw [e1] at hkc
    by_cases hl : k < w.1.length
    · rw [List.getElem?_append_left hl] at hkc
      exact hct k ck hkc
    · rw [List.getElem?_append_right (by omega)] at hkc
      have : ck = .inl (ci, mm_nf (mm_tys ci) (mm_cn ci)) := by
        have := List.mem_of_getElem? hkc
        simpa using this
      rw [this]
      trivial⟩ hS1 c1)
  rw [List.map_cons, mm_st_old c2 hold] at hres
  have hq : mm_cv (fun k => if k = w.1.length then q else ad k) sad (mm_R w.1.length) = .ref q := by simp [mm_cv]
  rw [hq] at hres
  exact hres
theorem mm_newar (hx : p.tables.exec = Jvm.exec) (hb : c.code = mm_Mb M) (hts : ∀ w ∈ mm_GW, w.before args s = true) (hB : B0 ≤ s.heap.size)
    {pc p0 t n : Nat} {a : Jvm.ClassFile.ArrayType} {ax : List (Nat × Nat)} {st : List mm_V} {K : mm_V → List mm_V → mm_W → Prop} (hd : decode (mm_Mb M) pc = .ok (.newarray a, 2)) (h0 : mm_at p0 (.arrayClass (mm_ty t)) = true) (hty : newarray.typeOf a = mm_ty t) (hg : mm_nar lim ((t, n) :: ax) ls st w K) (O : mm_Ok D B0 sad n0 ad0 lim R s nL ad H locs cells slots la ls w)
    (hk : ∀ v q w' ad' H1 cells1 slots1, K v q w' → mm_Ok D B0 sad n0 ad0 lim R s nL ad' H1 locs cells1 slots1 la ls w' → W p l e R s m args below meth c H1 locs cells1 slots1 Qf (F0 m (pc + 2) la ((v :: q).map (mm_cv ad' sad)))) : W p l e R s m args below meth c H locs cells slots Qf (F0 m pc la (st.map (mm_cv ad sad))) := by
  have O' := O
  obtain ⟨o1, o2, o3, o4, hH, hS, oL, o8, o9⟩ := O
  obtain ⟨ca, tys, hK, hP, hD, hct⟩ := hH
  unfold mm_nar at hg
  split at hg
  · rename_i x1 x2 t1 n1 r1 x r e1 
    cases e1
    obtain ⟨hxn, hn, hck, hrm, hKv⟩ := hg
    subst hxn
    obtain ⟨c1, c2, c3⟩ := mm_chk_e hck
    have r1 := hrm.1
    have r2 := hrm.2
    have hn31 : n < 2 ^ 31 := by omega
    have hcb : componentBytes (mm_ty t) ≤ 8 := by
      unfold mm_ty
      split <;> decide
    have hbytes : n * componentBytes (mm_ty t) ≤ 536870912 := by
      have := Nat.mul_le_mul (Nat.le_of_lt hn) hcb
      omega
    generalize hw' : ((w.1 ++ [.inr (.inl (t, n))], mm_z w.2.1 w.1.length 1, mm_z w.2.2 w.1.length 1) : mm_W) = w' at hKv
    have e1 : w'.1 = w.1 ++ [.inr (.inl (t, n))] := by rw [← hw']
    have e2 : w'.2.1 = mm_z w.2.1 w.1.length 1 := by rw [← hw']
    have e3 : w'.2.2 = mm_z w.2.2 w.1.length 1 := by rw [← hw']
    have ha0 : ∃ a0 : vp_A, (∀ cA : ClassId, vp_cell cA a0 = arrV cA n (fun _ => defaultValue (mm_ty t))) ∧ ∀ (ad9 : Nat → Nat) (ca9 : Nat → ClassId), mm_ce ad9 ca9 w' w.1.length (.inr (.inl (t, n))) = .inl (ca9 w.1.length, a0) := by
      by_cases ht : t = 1
      · subst ht
        exact ⟨(n, .inr (.inl (fun _ => 0))), fun cA => rfl, fun ad9 ca9 => by
          show Sum.inl (ca9 w.1.length, n, Sum.inr (Sum.inl (w'.2.2 w.1.length))) = _
          rw [e3, mm_z_new (Nat.le_refl _) (by omega)]⟩
      · refine ⟨(n, .inl (fun _ => 0)), fun cA => ?_, fun ad9 ca9 => ?_⟩
        · have hdv : defaultValue (mm_ty t) = .int 0 := by
            unfold mm_ty
            split
            · rfl
            · exact absurd rfl ht
            · rfl
          rw [hdv]
          rfl
        · have : mm_ce ad9 ca9 w' w.1.length (.inr (.inl (t, n))) = .inl (ca9 w.1.length, n, .inl (w'.2.1 w.1.length)) := by
            unfold mm_ce
            split
            · rename_i e; cases e
            · rename_i e; cases e; exact absurd rfl ht
            · rename_i e; cases e; rfl
            · rename_i e; cases e
          rw [this, e2, mm_z_new (Nat.le_refl _) (by omega)]
    obtain ⟨a0, ha0, hce⟩ := ha0
    refine va_newa (D := D) hx hb (atype := a) (by rw [hty]; exact hts _ (mm_at_in h0)) hty hK hP hD hS (mm_hb hB) ha0 (nI_pos hn31) (nI_clamp hn31) hbytes (by omega) (by omega) hd (fun q cA H1 hK1 hP1 hD1 hS1 => ?_)
    have had : ∀ k, k < w.1.length ∨ w.1.length + 1 ≤ k → (fun k => if k = w.1.length then q else ad k) k = ad k := fun k hk => by
      show (if k = w.1.length then q else ad k) = ad k
      rw [if_neg (by omega)]
    have hold : ∀ j, j < w.1.length → (fun k => if k = w.1.length then q else ad k) j = ad j := fun j hj => had j (Or.inl hj)
    have hcold : ∀ j, j < w.1.length → (fun k => if k = w.1.length then cA else ca k) j = ca j := fun j hj => by
      show (if j = w.1.length then cA else ca j) = ca j
      rw [if_neg (by omega)]
    have hws : mm_ws (fun k => if k = w.1.length then q else ad k) (fun k => if k = w.1.length then cA else ca k) w' = mm_ws ad ca w ++ [(q, .inl (cA, a0))] := by
      rw [mm_ws_app e1 (ad := ad) (ca := ca)]
      · congr 1
        simp only [List.mapIdx_cons, List.mapIdx_nil, Nat.zero_add, if_true]
        rw [hce]
        simp
      · intro k ck hk
        obtain ⟨g1, g2⟩ := mm_lo_at c3 hk
        exact Prod.ext (hold k g2) (mm_ce_old (ca := ca) (ca' := fun k => if k = w.1.length then cA else ca k) g1 hold (hcold k g2) ((congrFun e2 k).trans (mm_z_old g2)) ((congrFun e3 k).trans (mm_z_old g2)))
    have hres := hk (mm_R w.1.length) r w' (fun k => if k = w.1.length then q else ad k) H1 (cells + 1) (slots + n) hKv (O'.al (by rw [e1]; simp) (by rw [e1, mm_sl_app]; simp [mm_sl, mm_c1]) hrm had ⟨_, _, hK1, by rw [hws]; exact hP1, by rw [hws]; exact hD1, fun k ck hkc => by
      rw [e1] at hkc
      by_cases hl : k < w.1.length
      · rw [List.getElem?_append_left hl] at hkc
        have h9 := hct k ck hkc
        unfold mm_ct at h9 ⊢
        split
        · trivial
        · dsimp only at h9
          rw [hcold k hl]
          exact List.mem_append_left _ h9
        · dsimp only at h9
          rw [hcold k hl]
          exact List.mem_append_left _ h9
      · have hk0 : k = w.1.length := by
          have := (List.getElem?_eq_some_iff.mp hkc).1
          simp at this
          omega
        rw [List.getElem?_append_right (by omega), hk0, Nat.sub_self] at hkc
        cases hkc
        show ((if k = w.1.length then cA else ca k), mm_ty t) ∈ _
        rw [if_pos hk0]
        exact List.mem_append_right _ List.mem_cons_self⟩ hS1 c1)
    rw [List.map_cons, mm_st_old c2 hold] at hres
    have hq : mm_cv (fun k => if k = w.1.length then q else ad k) sad (mm_R w.1.length) = .ref q := by simp [mm_cv]
    rw [hq] at hres
    exact hres
  · exact hg.elim
end MMN
