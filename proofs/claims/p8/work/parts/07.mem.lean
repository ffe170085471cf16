/-! ===== ops that read and write the world ===== -/
section MMM
variable {p : Program} {l : Launch} {e : Env} {R : Room} {s : State} {m : MethodId} {args : Array Value} {below : List Frame} {meth : Method} {c : Code} {Qf : State → Prop}
variable {D : va_G} {B0 : Nat} {sad : Nat → Nat} {n0 : Nat} {ad0 : Nat → Nat} {lim : Nat × Nat} {M : mm_M} {ms : List mm_M} {tb : mm_T} {call : mm_F} {Q : Option mm_V → mm_W → Prop}
variable {nL : Nat} {ad : Nat → Nat} {H : Heap} {locs : List Loc} {cells slots : Nat} {la : Array Slot} {ls : List (Option mm_V)} {w : mm_W}
theorem mm_hb (hB : B0 ≤ s.heap.size) : ∀ q, s.heap.size ≤ q → mm_A B0 q := fun _ h => Nat.le_trans hB h
theorem mm_fi_in : ∀ {ax : List (Nat × Nat)} {ci j : Nat}, mm_fi ax ci = some j → (ci, j) ∈ ax
  | [], _, _, h => by simp [mm_fi] at h
  | (a, b) :: r, ci, j, h => by
    unfold mm_fi at h
    split at h
    · rename_i q
      cases h
      rw [q]
      exact List.mem_cons_self
    · exact List.mem_cons_of_mem _ (mm_fi_in h)
theorem mm_get (hx : p.tables.exec = Jvm.exec) (hb : c.code = mm_Mb M) (hown : s.vm.findClass (mm_My M).cls = some m.cls) (hts : ∀ w ∈ mm_GW, w.before args s = true) (hcw : ∀ (ci : Nat) (q : vw_C), mm_cl[ci]? = some q → ∀ w ∈ u_ws q.1 q.2.1 q.2.2, w ∈ mm_GW)
    {pc idx r : Nat} {ax : List (Nat × Nat)} {ps : List Nat} {st : List mm_V} {K : mm_V → Prop} (hd : decode (mm_Mb M) pc = .ok (.getfield idx, 3)) (hck : ax.all (mm_ckf (mm_My M) idx ps) = true) (hg : mm_gf w ax r K) (hH : mm_H D B0 ad w s H)
    (hk : ∀ v, K v → W p l e R s m args below meth c H locs cells slots Qf (F0 m (pc + 3) la ((v :: st).map (mm_cv ad sad)))) : W p l e R s m args below meth c H locs cells slots Qf (F0 m pc la ((mm_R r :: st).map (mm_cv ad sad))) := by
  obtain ⟨ca, tys, hK, hP, hD, hct⟩ := hH
  unfold mm_gf at hg
  split at hg
  · rename_i ci fs hr
    split at hg
    · rename_i j hj
      have hq := List.all_eq_true.mp hck _ (mm_fi_in hj)
      unfold mm_ckf at hq
      split at hq
      · rename_i C T N hC
        simp only [Bool.and_eq_true, decide_eq_true_eq] at hq
        obtain ⟨hjN, hq⟩ := hq
        have hws := mm_ws_at (ad := ad) (ca := ca) hr
        have key : ∀ (v : mm_V) (o : Option (Option Nat)), fs[j]? = some o → mm_fv ad (w.2.1 r j) o = mm_cv ad sad v → K v → W p l e R s m args below meth c H locs cells slots Qf (F0 m pc la ((mm_R r :: st).map (mm_cv ad sad))) := by
          intro v o ho hv hKv
          have hkv := hk v hKv
          have hfv : (fs.mapIdx (fun j o => mm_fv ad (w.2.1 r j) o))[j]? = some (mm_cv ad sad v) := by
            rw [List.getElem?_mapIdx, ho]
            exact congrArg some hv
          split at hq
          · exact va_get (D := D) (C := C) (T := T) (N := N) (ref := (T j).1) hx hb hts (hcw ci _ hC) hown hK hP r hws hC j hjN (hts _ (mm_at_in hq)) (fun _ h => h) hfv hd hkv
          · simp only [Bool.and_eq_true] at hq
            exact va_get (D := D) (C := C) (T := T) (N := N) (ref := (mm_My M).cls) hx hb hts (hcw ci _ hC) hown hK hP r hws hC j hjN (hts _ (mm_at_in hq.1)) (fun x h => u_same (hts _ (mm_at_in hq.2)) x h) hfv hd hkv
          · cases hq
        split at hg
        · rename_i ho
          exact key _ _ ho rfl hg
        · rename_i ho
          exact key _ _ ho rfl hg
        · rename_i a ho
          exact key _ _ ho rfl hg
        · exact hg.elim
      · cases hq
    · exact hg.elim
  · exact hg.elim
theorem mm_fv_int {ty : FieldType} {v : Value} (hi : ty = .int) (x : Int32) (hv : v = .int x) : narrow ty v = v ∧ fits ty v = true := by
  subst hi
  subst hv
  exact ⟨rfl, rfl⟩
theorem mm_fv_ref {ty : FieldType} (hi : mm_rfT ty = true) (a : Nat) : narrow ty (.ref a) = .ref a ∧ fits ty (.ref a) = true := by
  cases ty <;> first | exact ⟨rfl, rfl⟩ | (simp [mm_rfT] at hi)
theorem mm_set_same {l : List mm_C} {r : Nat} {c : mm_C} (h : l[r]? = some c) : l = l.set r c := by
  apply List.ext_getElem?
  intro i
  by_cases e : i = r
  · subst e
    rw [List.getElem?_set_self (List.getElem?_eq_some_iff.mp h).1, h]
  · rw [List.getElem?_set_ne (fun z => e z.symm)]
theorem mm_ce_i {ca : Nat → ClassId} {w : mm_W} {k : Nat} {lx : List mm_C} {f : Nat → Nat → Int32} (h : f k = w.2.1 k) (ck : mm_C) : mm_ce ad ca (lx, f, w.2.2) k ck = mm_ce ad ca w k ck := by
  unfold mm_ce
  rw [show ((lx, f, w.2.2) : mm_W).2.1 k = w.2.1 k from h]
theorem mm_ce_l {ca : Nat → ClassId} {w : mm_W} {k : Nat} {lx : List mm_C} {f : Nat → Nat → Int64} (h : f k = w.2.2 k) (ck : mm_C) : mm_ce ad ca (lx, w.2.1, f) k ck = mm_ce ad ca w k ck := by
  unfold mm_ce
  rw [show ((lx, w.2.1, f) : mm_W).2.2 k = w.2.2 k from h]
theorem mm_ce_ne {ca : Nat → ClassId} {w' : mm_W} {k : Nat} (h1 : w'.2.1 k = w.2.1 k) (h2 : w'.2.2 k = w.2.2 k) (ck : mm_C) : mm_ce ad ca w' k ck = mm_ce ad ca w k ck := by
  unfold mm_ce
  rw [h1, h2]
theorem mm_map_u {fs : List (Option (Option Nat))} {f : Nat → Nat → Int32} {r j : Nat} {x : Int32} (ho : fs[j]? = some none) : fs.mapIdx (fun i o => mm_fv ad (mm_u f r j x r i) o) = (fs.mapIdx (fun i o => mm_fv ad (f r i) o)).set j (.int x) := by
  apply List.ext_getElem?
  intro i
  have hjl := (List.getElem?_eq_some_iff.mp ho).1
  by_cases e : i = j
  · subst e
    rw [List.getElem?_set_self (by rw [List.length_mapIdx]; exact hjl), List.getElem?_mapIdx, ho]
    simp [mm_fv, mm_u]
  · rw [List.getElem?_set_ne (fun z => e z.symm), List.getElem?_mapIdx, List.getElem?_mapIdx]
    simp [mm_u, e]
theorem mm_map_s {fs : List (Option (Option Nat))} {f : Nat → Int32} {j a : Nat} (hjl : j < fs.length) : (fs.set j (some (some a))).mapIdx (fun i o => mm_fv ad (f i) o) = (fs.mapIdx (fun i o => mm_fv ad (f i) o)).set j (.ref (ad a)) := by
  apply List.ext_getElem?
  intro i
  by_cases e : i = j
  · subst e
    rw [List.getElem?_set_self (by rw [List.length_mapIdx]; exact hjl), List.getElem?_mapIdx, List.getElem?_set_self hjl]
    rfl
  · rw [List.getElem?_set_ne (fun z => e z.symm), List.getElem?_mapIdx, List.getElem?_mapIdx, List.getElem?_set_ne (fun z => e z.symm)]
theorem mm_put (hx : p.tables.exec = Jvm.exec) (hb : c.code = mm_Mb M) (hown : s.vm.findClass (mm_My M).cls = some m.cls) (hts : ∀ w ∈ mm_GW, w.before args s = true) (hcw : ∀ (ci : Nat) (q : vw_C), mm_cl[ci]? = some q → ∀ w ∈ u_ws q.1 q.2.1 q.2.2, w ∈ mm_GW) (hinit : (mm_My M).name = "<init>" → meth.name = "<init>")
    {pc idx g r : Nat} {v : mm_V} {ax : List (Nat × Nat)} {ps : List Nat} {st : List mm_V} {K : mm_W → Prop} (hd : decode (mm_Mb M) pc = .ok (.putfield idx, 3)) (hck : ax.all (fun q => mm_ckf (mm_My M) idx ps q && mm_ckp (mm_My M) g q) = true) (hg : mm_pf w ax g r v K) (O : mm_Ok D B0 sad n0 ad0 lim R s nL ad H locs cells slots la ls w)
    (hk : ∀ w' H1 locs1, K w' → mm_Ok D B0 sad n0 ad0 lim R s nL ad H1 locs1 cells slots la ls w' → W p l e R s m args below meth c H1 locs1 cells slots Qf (F0 m (pc + 3) la (st.map (mm_cv ad sad)))) : W p l e R s m args below meth c H locs cells slots Qf (F0 m pc la ((v :: mm_R r :: st).map (mm_cv ad sad))) := by
  have O' := O
  obtain ⟨o1, o2, o3, o4, hH, hS, oL, o8, o9⟩ := O
  obtain ⟨ca, tys, hK, hP, hD, hct⟩ := hH
  unfold mm_pf at hg
  split at hg
  · rename_i ci fs hr
    split at hg
    · rename_i j hj
      have hq := List.all_eq_true.mp hck _ (mm_fi_in hj)
      rw [Bool.and_eq_true] at hq
      obtain ⟨hq, hq2⟩ := hq
      unfold mm_ckf at hq
      split at hq
      · rename_i C T N hC
        simp only [Bool.and_eq_true, decide_eq_true_eq] at hq
        obtain ⟨hjN, hq⟩ := hq
        obtain ⟨hty, hnm, -⟩ := mm_cls hC
        have hws := mm_ws_at (ad := ad) (ca := ca) hr
        have key : ∀ (w' : mm_W) (c' : mm_C), j < fs.length → w'.1 = w.1.set r c' → mm_c1 c' = fs.length → (mm_ct ca tys r (.inl (ci, fs)) → mm_ct ca tys r c') → mm_ce ad ca w' r c' = .inr (ci, (fs.mapIdx (fun j o => mm_fv ad (w.2.1 r j) o)).set j (mm_cv ad sad v)) → (∀ (k : Nat) (ck : mm_C), k ≠ r → mm_ce ad ca w' k ck = mm_ce ad ca w k ck) → narrow (mm_tys ci j) (mm_cv ad sad v) = mm_cv ad sad v ∧ fits (mm_tys ci j) (mm_cv ad sad v) = true → K w' → W p l e R s m args below meth c H locs cells slots Qf (F0 m pc la ((v :: mm_R r :: st).map (mm_cv ad sad))) := by
          intro w' c' hjl hw' hc1 hctc hce hne hnf hKw
          have hl : w'.1.length = w.1.length := by rw [hw', List.length_set]
          have hsl : mm_sl w'.1 = mm_sl w.1 := by rw [hw']; exact mm_sl_set hr (by rw [hc1]; rfl)
          have hgo : ∀ (H1 : Heap) (locs1 : List Loc), va_P D mm_cl ((mm_ws ad ca w).set r (ad r, .inr (ci, (fs.mapIdx (fun j o => mm_fv ad (w.2.1 r j) o)).set j (mm_cv ad sad v)))) H1 → va_D (mm_A B0) ((mm_ws ad ca w).set r (ad r, .inr (ci, (fs.mapIdx (fun j o => mm_fv ad (w.2.1 r j) o)).set j (mm_cv ad sad v)))) → va_S (mm_A B0) s.heap H1 locs1 → W p l e R s m args below meth c H1 locs1 cells slots Qf (F0 m (pc + 3) la (st.map (mm_cv ad sad))) := by
            intro H1 locs1 hP1 hD1 hS1
            rw [mm_ws_set hr hw' hce hne] at hP1 hD1
            exact hk w' H1 locs1 hKw (O'.wr hl hsl ⟨ca, tys, hK, hP1, hD1, by rw [hw']; exact mm_ct_same hct hr hctc⟩ hS1)
          have hlen : j < (fs.mapIdx (fun j o => mm_fv ad (w.2.1 r j) o)).length := by rw [List.length_mapIdx]; exact hjl
          have hfin : (T j).2.2.2 = true → (mm_My M).name = "<init>" ∧ (T j).1 = (mm_My M).cls := by
            intro hT
            unfold mm_ckp at hq2
            rw [hC] at hq2
            simp only [Bool.and_eq_true, hT, Bool.not_true, Bool.false_or, decide_eq_true_eq] at hq2
            exact hq2.2
          cases hT : (T j).2.2.2 with
          | false =>
            split at hq
            · exact va_put (D := D) (C := C) (T := T) (N := N) (ref := (T j).1) hx hb hts (hcw ci _ hC) (mm_tys ci) hty hnm hown hK hP hD hS r hws hC j hjN (hts _ (mm_at_in hq)) (fun _ h => h) hT (hty j hjN) hnf.1 hnf.2 hlen hd hgo
            · simp only [Bool.and_eq_true] at hq
              exact va_put (D := D) (C := C) (T := T) (N := N) (ref := (mm_My M).cls) hx hb hts (hcw ci _ hC) (mm_tys ci) hty hnm hown hK hP hD hS r hws hC j hjN (hts _ (mm_at_in hq.1)) (fun x h => u_same (hts _ (mm_at_in hq.2)) x h) hT (hty j hjN) hnf.1 hnf.2 hlen hd hgo
            · cases hq
          | true =>
            obtain ⟨f1, f2⟩ := hfin hT
            split at hq
            · exact va_putF (D := D) (C := C) (T := T) (N := N) (ref := (T j).1) hx hb hts (hcw ci _ hC) (mm_tys ci) hty hnm hown hK hP hD hS r hws hC j hjN (hts _ (mm_at_in hq)) (fun _ h => h) hT (hinit f1) f2 (hty j hjN) hnf.1 hnf.2 hlen hd hgo
            · simp only [Bool.and_eq_true] at hq
              exact va_putF (D := D) (C := C) (T := T) (N := N) (ref := (mm_My M).cls) hx hb hts (hcw ci _ hC) (mm_tys ci) hty hnm hown hK hP hD hS r hws hC j hjN (hts _ (mm_at_in hq.1)) (fun x h => u_same (hts _ (mm_at_in hq.2)) x h) hT (hinit f1) f2 (hty j hjN) hnf.1 hnf.2 hlen hd hgo
            · cases hq
        unfold mm_ckp at hq2
        rw [hC] at hq2
        simp only [Bool.and_eq_true] at hq2
        split at hg
        · rename_i x ho
          have hjl := (List.getElem?_eq_some_iff.mp ho).1
          simp only [decide_eq_true_eq] at hq2
          have hg : K (w.1, mm_u w.2.1 r j x, w.2.2) := hg
          refine key _ (.inl (ci, fs)) hjl ?_ rfl (fun h => h) ?_ ?_ (mm_fv_int hq2.1 x rfl) hg
          · show w.1 = w.1.set r (.inl (ci, fs))
            exact mm_set_same hr
          · exact congrArg (fun z => Sum.inr (ci, z)) (mm_map_u ho)
          · exact fun k ck h => mm_ce_i (mm_u_ne h) ck
        · rename_i b a ho
          have hjl := (List.getElem?_eq_some_iff.mp ho).1
          have hg : K (w.1.set r (.inl (ci, fs.set j (some (some a)))), w.2.1, w.2.2) := hg
          refine key _ (.inl (ci, fs.set j (some (some a)))) hjl rfl (by simp [mm_c1]) (fun _ => trivial) ?_ ?_ (mm_fv_ref hq2.1 (ad a)) hg
          · exact congrArg (fun z => Sum.inr (ci, z)) (mm_map_s hjl)
          · exact fun k ck _ => mm_ce_i rfl ck
        · exact hg.elim
      · cases hq
    · exact hg.elim
  · exact hg.elim
/-! rows -/
theorem mm_ald_e {t r : Nat} {i : Int32} {k : Prop} (h : mm_ald w t r i k) : ∃ n, w.1[r]? = some (.inr (.inl (t, n))) ∧ vp_in i n ∧ k := by
  unfold mm_ald at h
  split at h
  · rename_i t' n hr
    split at h
    · rename_i hb
      have : t' = t := Nat.eq_of_beq_eq_true hb
      subst this
      exact ⟨n, hr, h.1, h.2⟩
    · exact h.elim
  · exact h.elim
theorem mm_Tb_i {j n : Nat} {f : Nat → Int32} (h : mm_Tb tb sad B0 s H j) (e : tb j = (n, .inl f)) : va_T .int (sad j) n (fun i => .int (f i)) (mm_A B0) s H := by
  unfold mm_Tb at h
  rw [e] at h
  exact h
theorem mm_Tb_l {j n : Nat} {f : Nat → Int64} (h : mm_Tb tb sad B0 s H j) (e : tb j = (n, .inr f)) : va_T .long (sad j) n (fun i => .long (f i)) (mm_A B0) s H := by
  unfold mm_Tb at h
  rw [e] at h
  exact h
theorem mm_iald (hx : p.tables.exec = Jvm.exec) (hb : c.code = mm_Mb M) (hSx : mm_Sx tb sad B0 s s.heap) (hS : va_S (mm_A B0) s.heap H locs) {pc : Nat} {st : List mm_V} {K : Int32 → List mm_V → Prop} (hd : decode (mm_Mb M) pc = .ok (.iaload, 1)) (hg : mm_ild tb w st K) (hH : mm_H D B0 ad w s H)
    (hk : ∀ v q, K v q → W p l e R s m args below meth c H locs cells slots Qf (F0 m (pc + 1) la ((mm_I v :: q).map (mm_cv ad sad)))) : W p l e R s m args below meth c H locs cells slots Qf (F0 m pc la (st.map (mm_cv ad sad))) := by
  unfold mm_ild at hg
  split at hg
  · rename_i i r q
    obtain ⟨ca, tys, hK, hP, hD, hct⟩ := hH
    obtain ⟨n, hr, hin, hKv⟩ := mm_ald_e hg
    obtain ⟨t0, ht0⟩ := List.getElem?_of_mem (hct _ _ hr)
    exact va_iald (D := D) hx hb hK hP r t0 (mm_ws_at (ad := ad) (ca := ca) hr) ht0 hin hd (hk _ _ hKv)
  · rename_i i j q
    split at hg
    · rename_i n f e
      exact va_ti hx hb (mm_Tb_i (hSx.1 j) e) hS hg.1 rfl hd (hk _ _ hg.2)
    · exact hg.elim
  · exact hg.elim
theorem mm_lald (hx : p.tables.exec = Jvm.exec) (hb : c.code = mm_Mb M) (hSx : mm_Sx tb sad B0 s s.heap) (hS : va_S (mm_A B0) s.heap H locs) {pc : Nat} {st : List mm_V} {K : Int64 → List mm_V → Prop} (hd : decode (mm_Mb M) pc = .ok (.laload, 1)) (hg : mm_lld tb w st K) (hH : mm_H D B0 ad w s H)
    (hk : ∀ v q, K v q → W p l e R s m args below meth c H locs cells slots Qf (F0 m (pc + 1) la ((mm_L v :: q).map (mm_cv ad sad)))) : W p l e R s m args below meth c H locs cells slots Qf (F0 m pc la (st.map (mm_cv ad sad))) := by
  unfold mm_lld at hg
  split at hg
  · rename_i i r q
    obtain ⟨ca, tys, hK, hP, hD, hct⟩ := hH
    obtain ⟨n, hr, hin, hKv⟩ := mm_ald_e hg
    obtain ⟨t0, ht0⟩ := List.getElem?_of_mem (hct _ _ hr)
    exact va_lald (D := D) hx hb hK hP r t0 (mm_ws_at (ad := ad) (ca := ca) hr) ht0 hin hd (hk _ _ hKv)
  · rename_i i j q
    split at hg
    · rename_i n f e
      exact va_tl hx hb (mm_Tb_l (hSx.1 j) e) hS hg.1 rfl hd (hk _ _ hg.2)
    · exact hg.elim
  · exact hg.elim
theorem mm_zald (hx : p.tables.exec = Jvm.exec) (hb : c.code = mm_Mb M) {pc : Nat} {st : List mm_V} {K : Int32 → List mm_V → Prop} (hd : decode (mm_Mb M) pc = .ok (.baload, 1)) (hg : mm_bld w st K) (hH : mm_H D B0 ad w s H)
    (hk : ∀ v q, K v q → W p l e R s m args below meth c H locs cells slots Qf (F0 m (pc + 1) la ((mm_I v :: q).map (mm_cv ad sad)))) : W p l e R s m args below meth c H locs cells slots Qf (F0 m pc la (st.map (mm_cv ad sad))) := by
  unfold mm_bld at hg
  split at hg
  · rename_i i r q
    obtain ⟨ca, tys, hK, hP, hD, hct⟩ := hH
    obtain ⟨n, hr, hin, hKv⟩ := mm_ald_e hg
    obtain ⟨t0, ht0⟩ := List.getElem?_of_mem (hct _ _ hr)
    exact va_zald (D := D) hx hb hK hP r t0 (mm_ws_at (ad := ad) (ca := ca) hr) ht0 hin hd (hk _ _ hKv)
  · exact hg.elim
theorem mm_aald (hx : p.tables.exec = Jvm.exec) (hb : c.code = mm_Mb M) {pc : Nat} {st : List mm_V} {K : Nat → List mm_V → Prop} (hd : decode (mm_Mb M) pc = .ok (.aaload, 1)) (hg : mm_qld w st K) (hH : mm_H D B0 ad w s H)
    (hk : ∀ v q, K v q → W p l e R s m args below meth c H locs cells slots Qf (F0 m (pc + 1) la ((mm_R v :: q).map (mm_cv ad sad)))) : W p l e R s m args below meth c H locs cells slots Qf (F0 m pc la (st.map (mm_cv ad sad))) := by
  unfold mm_qld at hg
  split at hg
  · rename_i i r q
    split at hg
    · rename_i t n b hr
      obtain ⟨ca, tys, hK, hP, hD, hct⟩ := hH
      obtain ⟨hin, hKv⟩ := hg
      obtain ⟨t0, ht0⟩ := List.getElem?_of_mem (hct _ _ hr)
      have hlt : i.toNatClampNeg < n := Nat.not_le.mp fun q => hin (Or.inr q)
      have ha := mm_ws_at (ad := ad) (ca := ca) hr
      refine W.aald (v := .ref (ad (b + i.toNatClampNeg))) (ty := .array (mm_ty t)) hx hb (hP r _ ha) ((hK.2 t0 _ ht0).1 n (fun j => va_rf (if j < n then some (ad (b + j)) else none))) rfl (fun q => by cases q) (by show ¬ (i < 0 ∨ (arrV _ _ _).slots.size ≤ _); rw [arrV_size]; exact hin) (by show (arrV _ _ _).slots[_]? = _; rw [arrV_read _ _ hlt]; show some (va_rf (if i.toNatClampNeg < n then some (ad (b + i.toNatClampNeg)) else none)) = _; rw [if_pos hlt]; rfl) rfl rfl hd (hk _ _ hKv)
    · exact hg.elim
  · exact hg.elim
theorem mm_alen (hx : p.tables.exec = Jvm.exec) (hb : c.code = mm_Mb M) (hSx : mm_Sx tb sad B0 s s.heap) (hS : va_S (mm_A B0) s.heap H locs) {pc : Nat} {st : List mm_V} {K : Int32 → List mm_V → Prop} (hd : decode (mm_Mb M) pc = .ok (.arraylength, 1)) (hg : mm_len tb w st K) (hH : mm_H D B0 ad w s H)
    (hk : ∀ v q, K v q → W p l e R s m args below meth c H locs cells slots Qf (F0 m (pc + 1) la ((mm_I v :: q).map (mm_cv ad sad)))) : W p l e R s m args below meth c H locs cells slots Qf (F0 m pc la (st.map (mm_cv ad sad))) := by
  unfold mm_len at hg
  split at hg
  · rename_i r q
    split at hg
    · rename_i t n hr
      obtain ⟨ca, tys, hK, hP, hD, hct⟩ := hH
      obtain ⟨t0, ht0⟩ := List.getElem?_of_mem (hct _ _ hr)
      have ha := mm_ws_at (ad := ad) (ca := ca) hr
      unfold mm_ce at ha
      split at ha
      · rename_i e; cases e
      · rename_i e; cases e
        exact va_alen (D := D) hx hb hK hP r t0 ha ht0 rfl hd (hk _ _ hg)
      · rename_i e; cases e
        exact va_alen (D := D) hx hb hK hP r t0 ha ht0 rfl hd (hk _ _ hg)
      · rename_i e; cases e
    · exact hg.elim
  · rename_i j q
    cases e : tb j with
    | mk n f =>
      rw [e] at hg
      cases f with
      | inl f => exact va_tlen hx hb (mm_Tb_i (hSx.1 j) e) hS rfl hd (hk _ _ hg)
      | inr f => exact va_tlen hx hb (mm_Tb_l (hSx.1 j) e) hS rfl hd (hk _ _ hg)
  · exact hg.elim
/-- a row's place is written -/
theorem mm_awr {w' : mm_W} {r n t : Nat} {ca : Nat → ClassId} {tys : List (ClassId × FieldType)} {H1 : Heap} {locs1 : List Loc} {x : va_E} (O : mm_Ok D B0 sad n0 ad0 lim R s nL ad H locs cells slots la ls w) (hK : va_K D mm_cl tys s) (hct : ∀ (k : Nat) (c : mm_C), w.1[k]? = some c → mm_ct ca tys k c) (hr : w.1[r]? = some (.inr (.inl (t, n)))) (hl : w'.1 = w.1) (hx : mm_ce ad ca w' r (.inr (.inl (t, n))) = x) (hne : ∀ (k : Nat) (ck : mm_C), k ≠ r → mm_ce ad ca w' k ck = mm_ce ad ca w k ck) (hP : va_P D mm_cl ((mm_ws ad ca w).set r (ad r, x)) H1) (hD : va_D (mm_A B0) ((mm_ws ad ca w).set r (ad r, x))) (hS : va_S (mm_A B0) s.heap H1 locs1) : mm_Ok D B0 sad n0 ad0 lim R s nL ad H1 locs1 cells slots la ls w' := by
  rw [mm_ws_set (w' := w') hr (by rw [hl]; exact mm_set_same hr) hx hne] at hP hD
  exact O.wr (by rw [hl]) (by rw [hl]) ⟨ca, tys, hK, hP, hD, by rw [hl]; exact hct⟩ hS
theorem mm_iast (hx : p.tables.exec = Jvm.exec) (hb : c.code = mm_Mb M) {pc : Nat} {st : List mm_V} {K : mm_W → List mm_V → Prop} (hd : decode (mm_Mb M) pc = .ok (.iastore, 1)) (hg : mm_ist w 0 st K) (O : mm_Ok D B0 sad n0 ad0 lim R s nL ad H locs cells slots la ls w)
    (hk : ∀ w' q H1 locs1, K w' q → mm_Ok D B0 sad n0 ad0 lim R s nL ad H1 locs1 cells slots la ls w' → W p l e R s m args below meth c H1 locs1 cells slots Qf (F0 m (pc + 1) la (q.map (mm_cv ad sad)))) : W p l e R s m args below meth c H locs cells slots Qf (F0 m pc la (st.map (mm_cv ad sad))) := by
  have O' := O
  obtain ⟨o1, o2, o3, o4, hH, hS, oL, o8, o9⟩ := O
  obtain ⟨ca, tys, hK, hP, hD, hct⟩ := hH
  unfold mm_ist at hg
  split at hg
  · rename_i x i r q
    obtain ⟨n, hr, hin, hKv⟩ := mm_ald_e hg
    obtain ⟨t0, ht0⟩ := List.getElem?_of_mem (hct _ _ hr)
    have hKv : K (w.1, mm_u w.2.1 r i.toNatClampNeg x, w.2.2) q := hKv
    refine va_iast (D := D) hx hb hK hP hD hS r t0 (mm_ws_at (ad := ad) (ca := ca) hr) ht0 hin hd (fun H1 locs1 hP1 hD1 hS1 => ?_)
    refine hk _ _ H1 locs1 hKv (mm_awr O' hK hct hr rfl ?_ (fun k ck h => mm_ce_i (mm_u_ne h) ck) hP1 hD1 hS1)
    show Sum.inl (ca r, n, Sum.inl (mm_u w.2.1 r i.toNatClampNeg x r)) = _
    rw [mm_u_eq]
  · exact hg.elim
theorem mm_zast (hx : p.tables.exec = Jvm.exec) (hb : c.code = mm_Mb M) {pc : Nat} {st : List mm_V} {K : mm_W → List mm_V → Prop} (hd : decode (mm_Mb M) pc = .ok (.bastore, 1)) (hg : mm_ist w 2 st K) (O : mm_Ok D B0 sad n0 ad0 lim R s nL ad H locs cells slots la ls w)
    (hk : ∀ w' q H1 locs1, K w' q → mm_Ok D B0 sad n0 ad0 lim R s nL ad H1 locs1 cells slots la ls w' → W p l e R s m args below meth c H1 locs1 cells slots Qf (F0 m (pc + 1) la (q.map (mm_cv ad sad)))) : W p l e R s m args below meth c H locs cells slots Qf (F0 m pc la (st.map (mm_cv ad sad))) := by
  have O' := O
  obtain ⟨o1, o2, o3, o4, hH, hS, oL, o8, o9⟩ := O
  obtain ⟨ca, tys, hK, hP, hD, hct⟩ := hH
  unfold mm_ist at hg
  split at hg
  · rename_i x i r q
    obtain ⟨n, hr, hin, hKv⟩ := mm_ald_e hg
    obtain ⟨t0, ht0⟩ := List.getElem?_of_mem (hct _ _ hr)
    have hKv : K (w.1, mm_u w.2.1 r i.toNatClampNeg (vp_nar .boolean x), w.2.2) q := hKv
    refine va_zast (D := D) hx hb hK hP hD hS r t0 (mm_ws_at (ad := ad) (ca := ca) hr) ht0 hin hd (fun H1 locs1 hP1 hD1 hS1 => ?_)
    refine hk _ _ H1 locs1 hKv (mm_awr O' hK hct hr rfl ?_ (fun k ck h => mm_ce_i (mm_u_ne h) ck) hP1 hD1 hS1)
    show Sum.inl (ca r, n, Sum.inl (mm_u w.2.1 r i.toNatClampNeg (vp_nar .boolean x) r)) = _
    rw [mm_u_eq]
  · exact hg.elim
theorem mm_last (hx : p.tables.exec = Jvm.exec) (hb : c.code = mm_Mb M) {pc : Nat} {st : List mm_V} {K : mm_W → List mm_V → Prop} (hd : decode (mm_Mb M) pc = .ok (.lastore, 1)) (hg : mm_lst w st K) (O : mm_Ok D B0 sad n0 ad0 lim R s nL ad H locs cells slots la ls w)
    (hk : ∀ w' q H1 locs1, K w' q → mm_Ok D B0 sad n0 ad0 lim R s nL ad H1 locs1 cells slots la ls w' → W p l e R s m args below meth c H1 locs1 cells slots Qf (F0 m (pc + 1) la (q.map (mm_cv ad sad)))) : W p l e R s m args below meth c H locs cells slots Qf (F0 m pc la (st.map (mm_cv ad sad))) := by
  have O' := O
  obtain ⟨o1, o2, o3, o4, hH, hS, oL, o8, o9⟩ := O
  obtain ⟨ca, tys, hK, hP, hD, hct⟩ := hH
  unfold mm_lst at hg
  split at hg
  · rename_i x i r q
    obtain ⟨n, hr, hin, hKv⟩ := mm_ald_e hg
    obtain ⟨t0, ht0⟩ := List.getElem?_of_mem (hct _ _ hr)
    have hKv : K (w.1, w.2.1, mm_u w.2.2 r i.toNatClampNeg x) q := hKv
    refine va_last (D := D) hx hb hK hP hD hS r t0 (mm_ws_at (ad := ad) (ca := ca) hr) ht0 hin hd (fun H1 locs1 hP1 hD1 hS1 => ?_)
    refine hk _ _ H1 locs1 hKv (mm_awr O' hK hct hr rfl ?_ (fun k ck h => mm_ce_l (mm_u_ne h) ck) hP1 hD1 hS1)
    show Sum.inl (ca r, n, Sum.inr (Sum.inl (mm_u w.2.2 r i.toNatClampNeg x r))) = _
    rw [mm_u_eqL]
  · exact hg.elim
end MMM
