/-! ===== calls ===== -/
def mm_wd (M : mm_M) : List Cond := Cond.code (mm_My M) (mm_Mb M) (mm_Ml M) (mm_Mr M) :: mm_GW
def mm_rmd (d : Nat) (M : mm_M) : Room := { frames := d, cells := mm_Mk M, slots := mm_Ms M, locals := 40 * d }
def mm_Pc (D : va_G) (B0 : Nat) (sad : Nat → Nat) (tb : mm_T) (ad : Nat → Nat) (As : List mm_V) (w : mm_W) : Array Value → State → Prop := va_Pc (As.map (mm_cv ad sad)) (fun U => B0 ≤ U.heap.size ∧ mm_H D B0 ad w U U.heap ∧ mm_Sx tb sad B0 U U.heap)
def mm_Qc (D : va_G) (B0 : Nat) (sad : Nat → Nat) (ad : Nat → Nat) (w : mm_W) (Q : Option mm_V → mm_W → Prop) : Array Value → State → Outcome → State → Prop := fun _ st oc t =>
  (∃ (o : Option mm_V) (w' : mm_W) (ad' : Nat → Nat), oc = .returned (o.map (mm_cv ad' sad)) ∧ Q o w' ∧ (∀ k, k < w.1.length ∨ w'.1.length ≤ k → ad' k = ad k) ∧ mm_H D B0 ad' w' t t.heap) ∧ va_F (mm_A B0) st t
def mm_callOk (l : Launch) (D : va_G) (B0 : Nat) (sad : Nat → Nat) (tb : mm_T) (ms : List mm_M) (d : Nat) (call : mm_F) : Prop :=
  ∀ (mi : Nat) (M : mm_M), ms[mi]? = some M → ∀ (As : List mm_V) (w : mm_W) (Q : Option mm_V → mm_W → Prop), call mi As w Q → ∀ ad : Nat → Nat, Met l (mm_My M) (mm_wd M) (mm_rmd d M) (mm_Pc D B0 sad tb ad As w) (mm_Qc D B0 sad ad w Q) (mm_Mk M) (mm_Ms M) (mm_A B0)
theorem mm_Pc_blind (D : va_G) (B0 : Nat) (sad : Nat → Nat) (tb : mm_T) (ad : Nat → Nat) (As : List mm_V) (w : mm_W) : FrameBlind (mm_Pc D B0 sad tb ad As w) := by
  intro a U g mk h
  obtain ⟨h1, h2, h3, h4, h5, h6⟩ := h
  refine ⟨h1, h2, h3.moved (U := U.calling g mk a) (Vm.Alike.refl U.vm), fun j => ?_, fun j C n d hj => (h5 j C n d hj).moved (U := U.calling g mk a) (Vm.Alike.refl U.vm), fun p w hw => ?_⟩
  · have := h4 j
    unfold mm_Tb at this ⊢
    split
    · rename_i n f e
      rw [e] at this
      exact va_T.moved (U := U.calling g mk a) (Vm.Alike.refl U.vm) this
    · rename_i n f e
      rw [e] at this
      exact va_T.moved (U := U.calling g mk a) (Vm.Alike.refl U.vm) this
  · have hz : mm_nzk w = true := by
      simp only [mm_az, Bool.and_eq_true] at hw
      exact hw.2
    have h9 := h6 p w hw
    unfold mm_nzk at hz
    split at hz
    · exact va_Nw.same (u := U) (U := U.calling g mk a) rfl rfl h9
    · exact va_Nw.same (u := U) (U := U.calling g mk a) rfl rfl h9
    · exact mm_AOA_moved (u := U) (U := U.calling g mk a) (Vm.Alike.refl U.vm) h9
    · cases hz
section MMC
variable {p : Program} {l : Launch} {e : Env} {R : Room} {s : State} {m : MethodId} {args : Array Value} {below : List Frame} {meth : Method} {c : Code} {Qf : State → Prop}
variable {D : va_G} {B0 : Nat} {sad : Nat → Nat} {n0 : Nat} {ad0 : Nat → Nat} {lim : Nat × Nat} {M M' : mm_M} {ms : List mm_M} {tb : mm_T} {call : mm_F} {Q : Option mm_V → mm_W → Prop} {d : Nat}
variable {nL : Nat} {ad : Nat → Nat} {H : Heap} {locs : List Loc} {cells slots : Nat} {la : Array Slot} {ls : List (Option mm_V)} {w : mm_W}
theorem mm_after {mc msl pc : Nat} {st0 rest : List Value} {Qa : State → Outcome → State → Prop} (hr : va_Run p l e R s m args below meth c H locs cells slots mc msl (F0 m pc la st0) rest Qa (mm_A B0)) (hS : va_S (mm_A B0) s.heap H locs) (hF : ∀ st₀ t oc, Qa st₀ oc t → va_F (mm_A B0) st₀ t)
    (kk : ∀ (v : Option Value) (st₀ t : State) (H1 : Heap) (locs1 : List Loc), t.heap = H1 → s.vm.Alike t.vm → Qa st₀ (.returned v) t → va_S (mm_A B0) s.heap H1 locs1 → W p l e R s m args below meth c H1 locs1 (cells + mc) (slots + msl) Qf (F0 m (pc + 3) la (v.toList ++ rest))) : W p l e R s m args below meth c H locs cells slots Qf (F0 m pc la st0) := by
  intro T hT X
  obtain ⟨v, st₀, t, T', L, h0, X', hL, e1, e2, hq, st⟩ := hr T hT X
  obtain ⟨hz, hk⟩ := hF st₀ t _ hq
  rw [h0] at hz hk
  obtain ⟨t2, a1, b1⟩ := kk v st₀ t T'.heap (locs ++ L) e1.symm (by rw [← e2]; exact X'.warmed.alike) hq
    ⟨Nat.le_trans hS.1 (by rw [e1]; exact hz), fun q h1 h2 => by rw [e1, hk q (Nat.lt_of_lt_of_le h1 hS.1) h2]; exact hS.2.1 q h1 h2, fun q hq => by
      rcases List.mem_append.mp hq with h | h
      · exact hS.2.2 q h
      · exact hL q h⟩ T' rfl X'
  exact ⟨t2, st t2 a1, b1⟩
/-- what all kinds of calls share: 'run' says how the machine comes into the callee -/
theorem mm_invk (hml : c.maxLocals = nL) (hSx : mm_Sx tb sad B0 s s.heap) (hB : B0 ≤ s.heap.size) (hcall : mm_callOk l D B0 sad tb ms d call)
    {pc mi : Nat} {As rest : List mm_V} {st : List Value} {K : List mm_V → mm_W → Prop} (hg : mm_inv call ms lim mi ls As rest w K) (O : mm_Ok D B0 sad n0 ad0 lim R s nL ad H locs cells slots la ls w)
    (hM : ∀ M', ms[mi]? = some M' → mm_ckh M' = true)
    (run : ∀ (M' : mm_M) (Pc : Array Value → State → Prop) (Qc : Array Value → State → Outcome → State → Prop), ms[mi]? = some M' → Met l (mm_My M') (mm_wd M') (mm_rmd d M') Pc Qc (mm_Mk M') (mm_Ms M') (mm_A B0) → FrameBlind Pc → (∀ U : State, U.heap = H → s.WarmedH U.vm → Pc (As.map (mm_cv ad sad)).toArray U) → mm_cs rest ≤ 8 → cells + mm_Mk M' ≤ R.cells → slots + mm_Ms M' ≤ R.slots → va_Run p l e R s m args below meth c H locs cells slots (mm_Mk M') (mm_Ms M') (F0 m pc la st) (rest.map (mm_cv ad sad)) (Qc (As.map (mm_cv ad sad)).toArray) (mm_A B0))
    (hk : ∀ q w' ad' H1 locs1 cells1 slots1, K q w' → mm_Ok D B0 sad n0 ad0 lim R s nL ad' H1 locs1 cells1 slots1 la ls w' → W p l e R s m args below meth c H1 locs1 cells1 slots1 Qf (F0 m (pc + 3) la (q.map (mm_cv ad' sad)))) : W p l e R s m args below meth c H locs cells slots Qf (F0 m pc la st) := by
  have O' := O
  obtain ⟨o1, o2, o3, o4, hH, hS, oL, o8, o9⟩ := O
  have hPc : ∀ U : State, U.heap = H → s.WarmedH U.vm → mm_Pc D B0 sad tb ad As w (As.map (mm_cv ad sad)).toArray U := fun U hU hW =>
    ⟨rfl, by rw [hU]; exact Nat.le_trans hB hS.1, by rw [hU]; exact hH.moved hW.alike, hSx.moved hS hU hW⟩
  unfold mm_inv at hg
  split at hg
  · rename_i x1 x2 M1 hble hM1
    have h8 : mm_cs rest ≤ 8 := Nat.le_of_ble_eq_true hble
    have hs0 : mm_Mk M1 = 0 → mm_Ms M1 = 0 := by
      have := hM M1 hM1
      simp only [mm_ckh, Bool.and_eq_true, decide_eq_true_eq] at this
      exact this.1.2
    split at hg
    · rename_i hk0
      have hs0 := hs0 hk0
      have hm := hcall mi M1 hM1 As w _ hg ad
      refine mm_after (run M1 _ _ hM1 hm (mm_Pc_blind D B0 sad tb ad As w) hPc h8 (by omega) (by omega)) hS (fun st₀ t oc h => h.2) (fun v st₀ t H1 locs1 ht hvm hq hS1 => ?_)
      obtain ⟨⟨o, w', ad', hv, ⟨hww, hKq⟩, had, hH1⟩, -⟩ := hq
      cases hv
      have e : ad' = ad := funext fun k => had k (by rw [hww]; omega)
      subst e
      rw [ht] at hH1
      have hres := hk _ w' ad' H1 locs1 (cells + mm_Mk M1) (slots + mm_Ms M1) hKq (by
        refine ⟨by rw [hww]; exact o1, by rw [hww]; exact o2, by rw [hww]; exact o3, by rw [hww]; exact o4, hH1.moved hvm.symm, hS1, oL, ?_, ?_⟩
        · rw [hk0, hww]; exact o8
        · rw [hs0, hww]; exact o9)
      rw [List.map_append] at hres
      cases o <;> exact hres
    · rename_i n hk1
      obtain ⟨hck, hrm, hg⟩ := hg
      obtain ⟨c1, c2, c3⟩ := mm_chk_e hck
      obtain ⟨r1, r2⟩ := hrm
      have hm := hcall mi M1 hM1 As w _ hg ad
      refine mm_after (run M1 _ _ hM1 hm (mm_Pc_blind D B0 sad tb ad As w) hPc h8 (by omega) (by omega)) hS (fun st₀ t oc h => h.2) (fun v st₀ t H1 locs1 ht hvm hq hS1 => ?_)
      obtain ⟨⟨o, w', ad', hv, ⟨hww, hsl, hKq⟩, had, hH1⟩, -⟩ := hq
      cases hv
      rw [ht] at hH1
      have hold : ∀ j, j < w.1.length → ad' j = ad j := fun j hj => had j (Or.inl hj)
      have hres := hk _ w' ad' H1 locs1 (cells + mm_Mk M1) (slots + mm_Ms M1) hKq (by
        refine ⟨fun k hk => ?_, by omega, by omega, by omega, hH1.moved hvm.symm, hS1, mm_Lr_old c1 hold oL, by omega, by omega⟩
        rw [hww] at hk
        rw [had k (by omega), o1 k (by omega)])
      rw [List.map_append, mm_st_old c2 hold] at hres
      cases o <;> exact hres
  · exact hg.elim
end MMC
