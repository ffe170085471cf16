/-! ===== the three kinds of calls ===== -/
theorem mm_good {ws : List Cond} (h : ∀ w ∈ ws, w ∈ mm_GW) : GoodIn mm_GW ws := fun w hw => mm_GW_g w (h w hw)
theorem mm_wd_in {M : mm_M} (h : mm_ckh M = true) : ∀ w ∈ mm_wd M, w ∈ mm_GW := by
  intro w hw
  simp only [mm_ckh, Bool.and_eq_true] at h
  rcases List.mem_cons.mp hw with rfl | hw
  · exact mm_at_in h.1.1.1.2
  · exact hw
theorem mm_nMH_e {c : String} (h : mm_nMH c = true) : c ≠ "java/lang/invoke/MethodHandle" ∧ c ≠ "java/lang/invoke/VarHandle" := by
  simp only [mm_nMH, Bool.and_eq_true, decide_eq_true_eq] at h
  exact h
theorem mm_ckh_e {M : mm_M} (h : mm_ckh M = true) : plainName (mm_My M).cls = true ∧ ((mm_My M).cls ≠ "java/lang/invoke/MethodHandle" ∧ (mm_My M).cls ≠ "java/lang/invoke/VarHandle") ∧ mm_Ml M ≤ 20 ∧ (parseMethodDescriptor (mm_My M).desc).map (fun d => d.parameters.length) = some (mm_Mn M) := by
  simp only [mm_ckh, Bool.and_eq_true, decide_eq_true_eq] at h
  exact ⟨h.1.1.1.1.1, mm_nMH_e h.1.1.1.1.2, h.1.1.2, h.2⟩
section MMI
variable {p : Program} {l : Launch} {e : Env} {R : Room} {s : State} {m : MethodId} {args : Array Value} {below : List Frame} {meth : Method} {c : Code} {Qf : State → Prop}
variable {D : va_G} {B0 : Nat} {sad : Nat → Nat} {n0 : Nat} {ad0 : Nat → Nat} {lim : Nat × Nat} {M M' : mm_M} {ms : List mm_M} {tb : mm_T} {call : mm_F} {Q : Option mm_V → mm_W → Prop} {d : Nat}
variable {nL : Nat} {ad : Nat → Nat} {H : Heap} {locs : List Loc} {cells slots : Nat} {la : Array Slot} {ls : List (Option mm_V)} {w : mm_W}
theorem mm_room {pc : Nat} {rest : List mm_V} {st : List Value} (h : mm_cs rest ≤ 8) : 2 * (F0 m pc la st).monitorRoom + ((rest.map (mm_cv ad sad)).map fun v => v.category).sum ≤ 8 := lv_room (by rw [mm_cs_cat]; exact h)
theorem mm_b8_e {rest : List mm_V} {k : Prop} (h : mm_b8 rest k) : mm_cs rest ≤ 8 ∧ k := by
  unfold mm_b8 at h
  split at h
  · rename_i hble
    exact ⟨Nat.le_of_ble_eq_true hble, h⟩
  · exact h.elim
theorem mm_ivo_s (hx : p.tables.exec = Jvm.exec) (hb : c.code = mm_Mb M) (hml : c.maxLocals = nL) (hown : s.vm.findClass (mm_My M).cls = some m.cls) (hts : ∀ w ∈ mm_GW, w.before args s = true) (hSx : mm_Sx tb sad B0 s s.heap) (hB : B0 ≤ s.heap.size) (hcall : mm_callOk l D B0 sad tb ms d call) (hM : ∀ (mi : Nat) (M' : mm_M), ms[mi]? = some M' → mm_ckh M' = true) (hfr : d + 1 ≤ R.frames) (hlo : 40 * (d + 1) ≤ R.locals)
    {pc idx g mi p1 p2 : Nat} {st : List mm_V} {K : List mm_V → mm_W → Prop} {lk : MethodName → Bool} (hd : decode (mm_Mb M) pc = .ok (.invokestatic idx, 3)) (hck : mm_ckS0 ms g mi p1 p2 lk = true) (hlk : ∀ z, lk z = true → (∃ p0, mm_at p0 (.methodLink (mm_My M).cls idx z) = true) ∨ ∃ p0 h, mm_az p0 (.methodLinkNest (mm_My M).cls idx z h) = true) (hg : mm_ivo call ms lim mi g ls st w K) (O : mm_Ok D B0 sad n0 ad0 lim R s nL ad H locs cells slots la ls w)
    (hk : ∀ q w' ad' H1 locs1 cells1 slots1, K q w' → mm_Ok D B0 sad n0 ad0 lim R s nL ad' H1 locs1 cells1 slots1 la ls w' → W p l e R s m args below meth c H1 locs1 cells1 slots1 Qf (F0 m (pc + 3) la (q.map (mm_cv ad' sad)))) : W p l e R s m args below meth c H locs cells slots Qf (F0 m pc la (st.map (mm_cv ad sad))) := by
  unfold mm_ivo at hg
  split at hg
  · rename_i As rest hsp
    obtain ⟨hst, hlen⟩ := mm_sp_st hsp
    refine mm_invk hml hSx hB hcall hg O (hM _) (fun M1 Pc Qc hM1 hmet hbl hpc h8 hc1 hc2 => ?_) hk
    unfold mm_ckS0 at hck
    rw [hM1] at hck
    simp only [Bool.and_eq_true, decide_eq_true_eq] at hck
    obtain ⟨⟨⟨hn, w1⟩, w2⟩, w0⟩ := hck
    have hh := hM _ _ hM1
    obtain ⟨k1, k2, k3, k4⟩ := mm_ckh_e hh
    have hsk : st.map (mm_cv ad sad) = (As.map (mm_cv ad sad)).reverse ++ rest.map (mm_cv ad sad) := by rw [hst, List.map_append, List.map_reverse]
    have hR : d + 1 ≤ R.frames ∧ 8 + (mm_Ml M1 + 11) + 40 * d ≤ R.locals := ⟨hfr, by omega⟩
    rcases hlk _ w0 with ⟨p0, w0⟩ | ⟨p0, h, w0⟩
    · have hG : GoodIn mm_GW (va_wsS (mm_My M).cls idx (mm_My M1) (mm_wd M1)) := mm_good (by
        intro w hw
        unfold va_wsS at hw
        simp only [List.cons_append, List.nil_append, List.mem_cons] at hw
        rcases hw with rfl | rfl | rfl | hw
        · exact mm_at_in w0
        · exact mm_at_in w1
        · exact mm_at_in w2
        · exact mm_wd_in hh _ hw)
      exact va_runS (As := As.map (mm_cv ad sad)) (rest := rest.map (mm_cv ad sad)) ⟨hx, hb, hml, hown, hts⟩ hmet (va_cwS g hts hG rfl rfl rfl ⟨k2.1, k2.2, by rw [k4, hn]⟩ hR) ⟨hbl, hpc⟩ rfl (by rw [List.length_map, hlen]) O.2.2.2.2.2.2.1.1 hsk (mm_room h8) hd ⟨hc1, hc2⟩
    · exact va_runSN (As := As.map (mm_cv ad sad)) (rest := rest.map (mm_cv ad sad)) ⟨hx, hb, hml, hown, hts⟩ hmet ⟨va_cnB g hts (mm_good (mm_wd_in hh)) rfl rfl rfl (hSx.2.2 p0 _ w0) (hts _ (mm_at_in w2)) ⟨k2.1, k2.2, by rw [k4, hn]⟩ hR, hts _ (mm_at_in w1), trivial⟩ ⟨hbl, hpc⟩ rfl (by rw [List.length_map, hlen]) O.2.2.2.2.2.2.1.1 hsk (mm_room h8) hd ⟨hc1, hc2⟩
  · exact hg.elim
theorem mm_ivs_s (hx : p.tables.exec = Jvm.exec) (hb : c.code = mm_Mb M) (hml : c.maxLocals = nL) (hown : s.vm.findClass (mm_My M).cls = some m.cls) (hts : ∀ w ∈ mm_GW, w.before args s = true) (hSx : mm_Sx tb sad B0 s s.heap) (hB : B0 ≤ s.heap.size) (hcall : mm_callOk l D B0 sad tb ms d call) (hM : ∀ (mi : Nat) (M' : mm_M), ms[mi]? = some M' → mm_ckh M' = true) (hfr : d + 1 ≤ R.frames) (hlo : 40 * (d + 1) ≤ R.locals)
    {pc idx g : Nat} {ax : List (Nat × Nat)} {ps : List (List Nat)} {st : List mm_V} {K : List mm_V → mm_W → Prop} (hd : decode (mm_Mb M) pc = .ok (.invokestatic idx, 3)) (hck : mm_ck1 ms (mm_My M) nL pc (.invokestatic idx) 3 ax ps g 0 0 = true) (hg : mm_ivs call ms lim ax g ls st w K) (O : mm_Ok D B0 sad n0 ad0 lim R s nL ad H locs cells slots la ls w)
    (hk : ∀ q w' ad' H1 locs1 cells1 slots1, K q w' → mm_Ok D B0 sad n0 ad0 lim R s nL ad' H1 locs1 cells1 slots1 la ls w' → W p l e R s m args below meth c H1 locs1 cells1 slots1 Qf (F0 m (pc + 3) la (q.map (mm_cv ad' sad)))) : W p l e R s m args below meth c H locs cells slots Qf (F0 m pc la (st.map (mm_cv ad sad))) := by
  simp only [mm_ck1, Bool.and_eq_true] at hck
  obtain ⟨-, hck⟩ := hck
  have hlm : c.maxLocals = la.size := by rw [hml]; exact O.2.2.2.2.2.2.1.1.symm
  have hcl : cells ≤ R.cells := by have := O.2.2.2.2.2.2.2.1; omega
  have hsl : slots ≤ R.slots := by have := O.2.2.2.2.2.2.2.2; omega
  unfold mm_ivs at hg
  split at hg
  · simp only [mm_ckS] at hck
    split at hck
    · rename_i p0 p1 p2
      exact mm_ivo_s (M := M) hx hb hml hown hts hSx hB hcall hM hfr hlo hd hck (fun z hz => Or.inl ⟨p0, hz⟩) hg O hk
    · cases hck
  · simp only [mm_ckS] at hck
    split at hck
    · rename_i p0 p1 p2
      refine mm_ivo_s (M := M) hx hb hml hown hts hSx hB hcall hM hfr hlo hd hck (fun z hz => Or.inr ?_) hg O hk
      split at hz
      · exact ⟨p0, _, hz⟩
      · cases hz
    · cases hck
  · obtain ⟨x, y, r, rfl, hg⟩ := mm_2i_e hg
    obtain ⟨h8, hg⟩ := mm_b8_e hg
    simp only [mm_ckS] at hck
    split at hck
    · simp only [Bool.and_eq_true] at hck
      exact va_mmax hx hb hlm hown (hts _ (mm_at_in hck.1.1.1)) (hts _ (mm_at_in hck.1.1.2)) (hts _ (mm_at_in hck.1.2)) (hts _ (mm_at_in hck.2)) (by omega) (by rw [mm_cs_cat]; omega) hcl hsl hd (hk _ _ _ _ _ _ _ hg O)
    · cases hck
  · obtain ⟨x, y, r, rfl, hg⟩ := mm_2i_e hg
    obtain ⟨h8, hg⟩ := mm_b8_e hg
    simp only [mm_ckS] at hck
    split at hck
    · simp only [Bool.and_eq_true] at hck
      exact va_mmin hx hb hlm hown (hts _ (mm_at_in hck.1.1.1)) (hts _ (mm_at_in hck.1.1.2)) (hts _ (mm_at_in hck.1.2)) (hts _ (mm_at_in hck.2)) (by omega) (by rw [mm_cs_cat]; omega) hcl hsl hd (hk _ _ _ _ _ _ _ hg O)
    · cases hck
  · obtain ⟨x, y, r, rfl, hg⟩ := mm_2l_e hg
    obtain ⟨h8, hg⟩ := mm_b8_e hg
    simp only [mm_ckS] at hck
    split at hck
    · simp only [Bool.and_eq_true] at hck
      exact va_mmax_long hx hb hlm hown (hts _ (mm_at_in hck.1.1.1)) (hts _ (mm_at_in hck.1.1.2)) (hts _ (mm_at_in hck.1.2)) (hts _ (mm_at_in hck.2)) (by omega) (by rw [mm_cs_cat]; omega) hcl hsl hd (hk _ _ _ _ _ _ _ hg O)
    · cases hck
  · exact hg.elim
theorem mm_ivi_s (hx : p.tables.exec = Jvm.exec) (hb : c.code = mm_Mb M) (hml : c.maxLocals = nL) (hown : s.vm.findClass (mm_My M).cls = some m.cls) (hts : ∀ w ∈ mm_GW, w.before args s = true) (hSx : mm_Sx tb sad B0 s s.heap) (hB : B0 ≤ s.heap.size) (hcall : mm_callOk l D B0 sad tb ms d call) (hM : ∀ (mi : Nat) (M' : mm_M), ms[mi]? = some M' → mm_ckh M' = true) (hfr : d + 1 ≤ R.frames) (hlo : 40 * (d + 1) ≤ R.locals)
    {pc idx g : Nat} {ax : List (Nat × Nat)} {ps : List (List Nat)} {st : List mm_V} {K : List mm_V → mm_W → Prop} (hd : decode (mm_Mb M) pc = .ok (.invokespecial idx, 3)) (hck : mm_ck1 ms (mm_My M) nL pc (.invokespecial idx) 3 ax ps g 0 0 = true) (hg : mm_ivi call ms lim ax g ls st w K) (O : mm_Ok D B0 sad n0 ad0 lim R s nL ad H locs cells slots la ls w)
    (hk : ∀ q w' ad' H1 locs1 cells1 slots1, K q w' → mm_Ok D B0 sad n0 ad0 lim R s nL ad' H1 locs1 cells1 slots1 la ls w' → W p l e R s m args below meth c H1 locs1 cells1 slots1 Qf (F0 m (pc + 3) la (q.map (mm_cv ad' sad)))) : W p l e R s m args below meth c H locs cells slots Qf (F0 m pc la (st.map (mm_cv ad sad))) := by
  unfold mm_ivi at hg
  split at hg
  · rename_i a mi axr x1 As r rest hsp
    obtain ⟨hst, hlen⟩ := mm_sp_st hsp
    refine mm_invk hml hSx hB hcall hg O (hM _) (fun M1 Pc Qc hM1 hmet hbl hpc h8 hc1 hc2 => ?_) hk
    simp only [mm_ck1, Bool.and_eq_true] at hck
    obtain ⟨-, hck⟩ := hck
    split at hck
    · rename_i e1
      cases e1
    · rename_i a2 mi2 axr2 p0 p1 p2 e1
      cases e1
      rw [hM1] at hck
      simp only [Bool.and_eq_true, decide_eq_true_eq] at hck
      obtain ⟨⟨⟨⟨⟨hn, hnm⟩, hrt⟩, w1⟩, w2⟩, w0⟩ := hck
      have hh := hM _ _ hM1
      obtain ⟨k1, k2, k3, k4⟩ := mm_ckh_e hh
      have hG : GoodIn mm_GW (mm_wd M1) := mm_good (mm_wd_in hh)
      have hw : mm_wd M1 = Cond.code (mm_My M1) (mm_Mb M1) (mm_Ml M1) none :: mm_GW := by rw [← hrt]; rfl
      have hstk : st.map (mm_cv ad sad) = (As.map (mm_cv ad sad)).reverse ++ Value.ref (ad r) :: rest.map (mm_cv ad sad) := by
        rw [hst, List.map_append, List.map_reverse]
        rfl
      have hR : d + 1 ≤ R.frames ∧ 8 + (mm_Ml M1 + 11) + 40 * d ≤ R.locals := ⟨hfr, by omega⟩
      split at w0
      · exact va_runI (As := As.map (mm_cv ad sad)) (b := ad r) (rest := rest.map (mm_cv ad sad)) ⟨hx, hb, hml, hown, hts⟩ hmet (cwI g hts hG hw rfl rfl (hts _ (mm_at_in w2)) (hts _ (mm_at_in w0)) (hts _ (mm_at_in w1)) hnm ⟨k2.1, k2.2, by rw [k4, hn]⟩ hR) ⟨hbl, hpc⟩ rfl (by rw [List.length_map, hlen]) O.2.2.2.2.2.2.1.1 hstk (mm_room h8) hd ⟨hc1, hc2⟩
      · split at w0
        · rename_i h hp0
          have hz := hSx.2.2 p0 _ w0
          exact va_runIN (As := As.map (mm_cv ad sad)) (b := ad r) (rest := rest.map (mm_cv ad sad)) ⟨hx, hb, hml, hown, hts⟩ hmet ⟨va_cnB g hts hG hw rfl rfl hz (hts _ (mm_at_in w2)) ⟨k2.1, k2.2, by rw [k4, hn]⟩ hR, hnm, hts _ (mm_at_in w1)⟩ ⟨hbl, hpc⟩ rfl (by rw [List.length_map, hlen]) O.2.2.2.2.2.2.1.1 hstk (mm_room h8) hd ⟨hc1, hc2⟩
        · cases w0
    · cases hck
  · rename_i x1 As r rest hsp
    obtain ⟨hst, hlen⟩ := mm_sp_st hsp
    split at hg
    · rename_i hble
      have h8 : mm_cs rest ≤ 8 := Nat.le_of_ble_eq_true hble
      simp only [mm_ck1, Bool.and_eq_true] at hck
      obtain ⟨-, hck⟩ := hck
      split at hck
      · rename_i p0 p1 p2 e1
        simp only [Bool.and_eq_true, decide_eq_true_eq] at hck
        obtain ⟨⟨⟨hg0, w0⟩, w1⟩, w2⟩ := hck
        have hAs : As = [] := List.length_eq_zero_iff.mp (by rw [hlen, hg0])
        have hst2 : st.map (mm_cv ad sad) = Value.ref (ad r) :: rest.map (mm_cv ad sad) := by
          rw [hst, hAs]
          rfl
        rw [hst2]
        have h12 := mm_room (m := m) (pc := pc) (la := la) (ad := ad) (sad := sad) (st := Value.ref (ad r) :: rest.map (mm_cv ad sad)) h8
        refine W.objInit hx hb hown (hts _ (mm_at_in w0)) (hts _ (mm_at_in w1)) (hts _ (mm_at_in w2)) rfl (by rw [hml]; exact O.2.2.2.2.2.2.1.1) rfl hd (by omega) (by omega) ?_
        exact hk rest w ad H locs cells slots hg O
      · rename_i e1
        cases e1
      · cases hck
    · exact hg.elim
  · exact hg.elim
theorem mm_ckvs_in {y : MethodName} {idx g : Nat} : ∀ {qs : List (Nat × Nat)} {ps : List (List Nat)} {q : Nat × Nat}, mm_ckvs ms y idx g qs ps = true → q ∈ qs → ∃ pl, mm_ckv ms y idx g q pl = true
  | [], _, _, _, hq => by cases hq
  | q :: qs, [], _, h, _ => by simp [mm_ckvs] at h
  | q :: qs, pl :: ps, q1, h, hq => by
    simp only [mm_ckvs, Bool.and_eq_true] at h
    rcases List.mem_cons.mp hq with rfl | hq
    · exact ⟨pl, h.1⟩
    · exact mm_ckvs_in h.2 hq
theorem mm_ivv_s (hx : p.tables.exec = Jvm.exec) (hb : c.code = mm_Mb M) (hml : c.maxLocals = nL) (hown : s.vm.findClass (mm_My M).cls = some m.cls) (hts : ∀ w ∈ mm_GW, w.before args s = true) (hSx : mm_Sx tb sad B0 s s.heap) (hB : B0 ≤ s.heap.size) (hcall : mm_callOk l D B0 sad tb ms d call) (hM : ∀ (mi : Nat) (M' : mm_M), ms[mi]? = some M' → mm_ckh M' = true) (hfr : d + 1 ≤ R.frames) (hlo : 40 * (d + 1) ≤ R.locals)
    {pc idx g : Nat} {ax : List (Nat × Nat)} {ps : List (List Nat)} {st : List mm_V} {K : List mm_V → mm_W → Prop} (hd : decode (mm_Mb M) pc = .ok (.invokevirtual idx, 3)) (hck : mm_ckvs ms (mm_My M) idx g ax ps = true) (hg : mm_ivv call ms lim ax g ls st w K) (O : mm_Ok D B0 sad n0 ad0 lim R s nL ad H locs cells slots la ls w)
    (hk : ∀ q w' ad' H1 locs1 cells1 slots1, K q w' → mm_Ok D B0 sad n0 ad0 lim R s nL ad' H1 locs1 cells1 slots1 la ls w' → W p l e R s m args below meth c H1 locs1 cells1 slots1 Qf (F0 m (pc + 3) la (q.map (mm_cv ad' sad)))) : W p l e R s m args below meth c H locs cells slots Qf (F0 m pc la (st.map (mm_cv ad sad))) := by
  unfold mm_ivv at hg
  split at hg
  · rename_i As r rest hsp
    obtain ⟨hst, hlen⟩ := mm_sp_st hsp
    split at hg
    · rename_i ci fs hr
      split at hg
      · rename_i mi hmi
        obtain ⟨pl, hq⟩ := mm_ckvs_in hck (mm_fi_in hmi)
        refine mm_invk hml hSx hB hcall hg O (hM _) (fun M1 Pc Qc hM1 hmet hbl hpc h8 hc1 hc2 => ?_) hk
        obtain ⟨ca, tys, hK, hP, hD, hct⟩ := O.2.2.2.2.1
        have hh := hM _ _ hM1
        obtain ⟨k1, k2, k3, k4⟩ := mm_ckh_e hh
        have hG : ∀ w ∈ mm_wd M1, w ∈ mm_GW := mm_wd_in hh
        have hstk : st.map (mm_cv ad sad) = (As.map (mm_cv ad sad)).reverse ++ Value.ref (ad r) :: rest.map (mm_cv ad sad) := by
          rw [hst, List.map_append, List.map_reverse]
          rfl
        have hR : d + 1 ≤ R.frames ∧ 8 + (mm_Ml M1 + 11) + 40 * d ≤ R.locals := ⟨hfr, by omega⟩
        have hsz : la.size = nL := O.2.2.2.2.2.2.1.1
        unfold mm_ckv at hq
        split at hq
        · rename_i C T N M2 hC hM2
          dsimp only at hC hM2
          have : M2 = M1 := Option.some.inj (hM2.symm.trans hM1)
          subst this
          have hrecv := va_recv hK hP hC (mm_ws_at (ad := ad) (ca := ca) hr)
          simp only [Bool.and_eq_true, decide_eq_true_eq] at hq
          obtain ⟨hn, hq⟩ := hq
          have h4 : (parseMethodDescriptor (mm_My M2).desc).map (fun d => d.parameters.length) = some g := by rw [k4, hn]
          split at hq
          · rename_i p0 p1 p2 p3
            simp only [Bool.and_eq_true, decide_eq_true_eq] at hq
            obtain ⟨⟨⟨⟨hyC, w0⟩, w1⟩, w2⟩, w3⟩ := hq
            have hGI : GoodIn mm_GW (wsV (mm_My M).cls idx C (mm_My M2) (mm_wd M2)) := mm_good (by
              intro w hw
              unfold wsV at hw
              simp only [List.cons_append, List.nil_append, List.mem_cons] at hw
              rcases hw with rfl | rfl | rfl | rfl | hw
              · exact mm_at_in w0
              · exact mm_at_in w1
              · exact mm_at_in w2
              · exact mm_at_in w3
              · exact hG _ hw)
            exact va_runV (As := As.map (mm_cv ad sad)) (b := ad r) (C := C) (rest := rest.map (mm_cv ad sad)) ⟨hx, hb, hml, hown, hts⟩ hmet (cwV g hts hGI rfl rfl rfl ⟨hyC, k2.1, k2.2, h4⟩ hR) ⟨hbl, hrecv, hpc⟩ rfl (by rw [List.length_map, hlen]) hsz hstk (mm_room h8) hd ⟨hc1, hc2⟩
          · rename_i p0 p1 p2 p3 p4
            split at hq
            · rename_i o1 o2 x o3 o o4 o5 e0 e1
              simp only [Bool.and_eq_true, decide_eq_true_eq] at hq
              obtain ⟨⟨⟨⟨⟨⟨w0, w1⟩, w2⟩, w3⟩, w4⟩, hy⟩, hnM⟩ := hq
              have hGI : GoodIn mm_GW (va_wsU (mm_My M).cls idx C o x (mm_My M2) (mm_wd M2)) := mm_good (by
                intro w hw
                unfold va_wsU at hw
                simp only [List.cons_append, List.nil_append, List.mem_cons] at hw
                rcases hw with rfl | rfl | rfl | rfl | rfl | hw
                · exact mm_at_in w0
                · exact mm_at_in w1
                · exact mm_at_in w2
                · exact mm_at_in w3
                · exact mm_at_in w4
                · exact hG _ hw)
              have hxd : x.desc = (mm_My M2).desc := by rw [hy]
              exact va_runU (As := As.map (mm_cv ad sad)) (b := ad r) (C := C) (owner := o) (rest := rest.map (mm_cv ad sad)) ⟨hx, hb, hml, hown, hts⟩ hmet (va_cwU g hts hGI rfl rfl rfl hy ⟨(mm_nMH_e hnM).1, (mm_nMH_e hnM).2, by rw [hxd]; exact h4⟩ hR) ⟨hbl, hrecv, hpc⟩ rfl (by rw [List.length_map, hlen]) hsz hstk (mm_room h8) hd ⟨hc1, hc2⟩
            · cases hq
          · rename_i p0 p1 p2 p3 p4 p5
            split at hq
            · rename_i o1 o2 x o3 o o4 o5 e0 e1
              simp only [Bool.and_eq_true, decide_eq_true_eq] at hq
              obtain ⟨⟨⟨⟨⟨⟨⟨w0, w1⟩, w2⟩, w3⟩, w4⟩, w5⟩, hy⟩, hnM⟩ := hq
              have hGI : GoodIn mm_GW (va_wsU (mm_My M).cls idx C o x (mm_My M2) (mm_wd M2)) := mm_good (by
                intro w hw
                unfold va_wsU at hw
                simp only [List.cons_append, List.nil_append, List.mem_cons] at hw
                rcases hw with rfl | rfl | rfl | rfl | rfl | hw
                · exact mm_at_in w0
                · exact mm_at_in w1
                · exact mm_at_in w2
                · exact mm_at_in w3
                · exact mm_at_in w4
                · exact hG _ hw)
              exact va_runU (As := As.map (mm_cv ad sad)) (b := ad r) (C := C) (owner := o) (rest := rest.map (mm_cv ad sad)) ⟨hx, hb, hml, hown, hts⟩ hmet (va_cwA g hts hGI rfl rfl rfl (hSx.2.2 p5 _ w5) ⟨(mm_nMH_e hnM).1, (mm_nMH_e hnM).2, by rw [← hy]; exact h4⟩ hR) ⟨hbl, hrecv, hpc⟩ rfl (by rw [List.length_map, hlen]) hsz hstk (mm_room h8) hd ⟨hc1, hc2⟩
            · cases hq
          · cases hq
        · cases hq
      · exact hg.elim
    · exact hg.elim
  · exact hg.elim
end MMI
