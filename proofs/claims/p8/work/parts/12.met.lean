/-! ===== a method that the abstract machine ends keeps its contract; the law's own walk ===== -/
theorem mm_class_ok (ps : List (List Nat)) (h : (List.range 11).all (fun ci => match mm_cl[ci]?, ps[ci]? with
  | some q, some p => decide (u_ws q.1 q.2.1 q.2.2 = p.filterMap mm_g) && (u_ws q.1 q.2.1 q.2.2).all goodWord
  | _, _ => false) = true) : ∀ (ci : Nat) (q : vw_C), mm_cl[ci]? = some q → ∀ w ∈ u_ws q.1 q.2.1 q.2.2, w ∈ mm_GW := by
  intro ci q hq w hw
  have hlt : ci < 11 := (List.getElem?_eq_some_iff.mp hq).1
  have h1 := List.all_eq_true.mp h ci (List.mem_range.mpr hlt)
  rw [hq] at h1
  split at h1
  · rename_i q1 p1 e1 e2
    cases e1
    simp only [Bool.and_eq_true, decide_eq_true_eq] at h1
    have hg := List.all_eq_true.mp h1.2 w hw
    have hm : w ∈ mm_tbl := by
      have h2 := hw
      rw [h1.1] at h2
      obtain ⟨i, -, hi⟩ := List.mem_filterMap.mp h2
      exact mm_g_in hi
    exact List.mem_filter.mpr ⟨hm, hg⟩
  · cases h1
/-- multianewarray at any frame -/
def mm_mnaA : Prop := ∀ (p : Program) (l : Launch) (e : Env) (R : Room) (s : State) (m : MethodId) (args : Array Value) (below : List Frame) (meth : Method) (c : Code) (Qf : State → Prop) (D : va_G) (B0 : Nat) (sad : Nat → Nat) (n0 : Nat) (ad0 : Nat → Nat) (lim : Nat × Nat) (nL : Nat) (y : MethodName) (bytes : ByteArray) (tb : mm_T), p.tables.exec = Jvm.exec → c.code = bytes → s.vm.findClass y.cls = some m.cls → (∀ w ∈ mm_GW, w.before args s = true) → mm_Sx tb sad B0 s s.heap → B0 ≤ s.heap.size → mm_mnaL p l e R s m args below meth c Qf D B0 sad n0 ad0 lim nL y bytes
section MMR
variable {l : Launch} {D : va_G} {B0 : Nat} {sad : Nat → Nat} {ms : List mm_M} {tb : mm_T}
theorem mm_retOk {p : Program} {e : Env} {s : State} {m : MethodId} {args : Array Value} {below : List Frame} {meth : Method} {c : Code} {M : mm_M} {d n0 : Nat} {ad0 : Nat → Nat} {Q : Option mm_V → mm_W → Prop} {w0 : mm_W} (hx : p.tables.exec = Jvm.exec) (hb : c.code = mm_Mb M) (hr : meth.sig.returnType = mm_Mr M) (hlocks : meth.locks = false) (hn : n0 = w0.1.length)
    (pc : Nat) (o : Option mm_V) (w : mm_W) (ad : Nat → Nat) (H : Heap) (locs : List Loc) (cells slots : Nat) (la : Array Slot) (ls : List (Option mm_V)) (hrt : mm_rti M pc o) (hQ : Q o w) (O : mm_Ok D B0 sad n0 ad0 (w0.1.length + mm_Mk M, mm_sl w0.1 + mm_Ms M) (mm_rmd d M) s (mm_Ml M) ad H locs cells slots la ls w) :
    W p l e (mm_rmd d M) s m args below meth c H locs cells slots (MQ below (mm_Qc D B0 sad ad0 w0 Q) args s (mm_Mk M) (mm_Ms M) (mm_A B0)) (F0 m pc la (o.toList.map (mm_cv ad sad))) := by
  obtain ⟨h1, h2, h3, h4, h5, h6, h7, h8, h9⟩ := O
  have k1 : cells ≤ mm_Mk M := by
    have : (mm_rmd d M).cells = mm_Mk M := rfl
    omega
  have k2 : slots ≤ mm_Ms M := by
    have : (mm_rmd d M).slots = mm_Ms M := rfl
    omega
  refine W.widen k1 k2 ?_
  have key : ∀ t : State, t.heap = H → s.WarmedH t.vm → mm_Qc D B0 sad ad0 w0 Q args s (.returned (o.map (mm_cv ad sad))) t := fun t ht hW => ⟨⟨o, w, ad, rfl, hQ, by rw [← hn]; exact h1, by rw [ht]; exact h5.moved hW.alike⟩, h6.F ht⟩
  unfold mm_rti at hrt
  split at hrt
  · rename_i x
    obtain ⟨hd, hty | ⟨hty, hx01⟩⟩ := hrt
    · exact W.zret (ty := .int) hx hb (by rw [hr, hty]) rfl key h6.2.2 hd hlocks
    · refine W.zret (ty := .boolean) hx hb (by rw [hr, hty]) ?_ key h6.2.2 hd hlocks
      rcases hx01 with rfl | rfl <;> rfl
  · rename_i x
    obtain ⟨hd, hty⟩ := hrt
    exact W.lret hx hb (by rw [hr, hty]) key h6.2.2 hd hlocks
  · obtain ⟨hd, hty⟩ := hrt
    exact W.vret hx hb (by rw [hr, hty]) key h6.2.2 hd hlocks
  · exact hrt.elim
theorem mm_met (hmna : mm_mnaA) (hcw : ∀ (ci : Nat) (q : vw_C), mm_cl[ci]? = some q → ∀ w ∈ u_ws q.1 q.2.1 q.2.2, w ∈ mm_GW) (hM : ∀ (mi : Nat) (M' : mm_M), ms[mi]? = some M' → mm_ckm ms M' = true) : ∀ d : Nat, mm_callOk l D B0 sad tb ms d (mm_call ms tb d)
  | 0 => fun mi M hmi As w Q h => h.elim
  | d + 1 => by
    have ih := mm_met hmna hcw hM d
    intro mi M hmi As w Q h ad
    have hh : ∀ (mi : Nat) (M' : mm_M), ms[mi]? = some M' → mm_ckh M' = true := fun mi M' q => by
      have := hM mi M' q
      simp only [mm_ckm, Bool.and_eq_true] at this
      exact this.1
    have hck := hM mi M hmi
    simp only [mm_ckm, Bool.and_eq_true] at hck
    obtain ⟨k1, k2, k3, k4⟩ := mm_ckh_e (hh mi M hmi)
    unfold mm_call at h
    rw [hmi] at h
    dsimp only at h
    unfold mm_run at h
    split at h
    · rename_i hble
      have hlen : (mm_ar As).length ≤ mm_Ml M := Nat.le_of_ble_eq_true hble
      refine Met.ofW (cc := mm_Mb M) (maxL := mm_Ml M) (ret := mm_Mr M) k1 rfl ?_
      intro p e s m args below meth c s₁ B hml hv
      obtain ⟨rfl, hB, hH, hSx⟩ := hv
      have hx := B.exec
      have hts0 := atoms_spec (ws := mm_wd M) B.pre
      have hts : ∀ w ∈ mm_GW, w.before (As.map (mm_cv ad sad)).toArray s = true := fun w hw => hts0 w (List.mem_cons_of_mem _ hw)
      have hown : s.vm.findClass (mm_My M).cls = some m.cls := findClass_of_methodNamed B.named
      have hin : meth.name = (mm_My M).name := (name_of_methodNamed B.named B.method).1
      rw [lg_entry_eq]
      have hl := lv_entry (As.map (mm_cv ad sad)) (n := mm_Ml M) (by rw [← mm_ar_len ad sad As]; exact hlen)
      generalize (lg_sl (As.map (mm_cv ad sad)) ++ List.replicate (mm_Ml M - (lg_sl (As.map (mm_cv ad sad))).length) Slot.unset).toArray = la at hl ⊢
      refine h (mm_Rel p l e (mm_rmd (d + 1) M) s m (As.map (mm_cv ad sad)).toArray below meth c (MQ below (mm_Qc D B0 sad ad w Q) (As.map (mm_cv ad sad)).toArray s (mm_Mk M) (mm_Ms M) (mm_A B0)) D B0 sad w.1.length ad (w.1.length + mm_Mk M, mm_sl w.1 + mm_Ms M) (mm_Ml M)) ?_ ad s.heap [] 0 0 la ?_
      · exact mm_step hx B.bytes hml hown hts hcw (fun q => by rw [hin, q]) hSx hB ih hh (by show d + 1 ≤ d + 1; exact Nat.le_refl _) (by show 40 * (d + 1) ≤ 40 * (d + 1); exact Nat.le_refl _) hck.2 (hmna _ _ _ _ _ _ _ _ _ _ _ _ _ _ _ _ _ _ _ _ tb hx B.bytes hown hts hSx hB) (fun pc o w' ad' H locs cells slots la ls => mm_retOk hx B.bytes B.returns B.notSynchronized rfl pc o w' ad' H locs cells slots la ls)
      · refine ⟨fun _ _ => rfl, Nat.le_refl _, Nat.le_add_right _ _, Nat.le_add_right _ _, hH, va_S.rf, mm_lv_weak hl (mm_ini_lv ad sad As (mm_Ml M)), ?_, ?_⟩
        · show 0 + (w.1.length + mm_Mk M - w.1.length) ≤ mm_Mk M
          omega
        · show 0 + (mm_sl w.1 + mm_Ms M - mm_sl w.1) ≤ mm_Ms M
          omega
    · exact h.elim
end MMR
