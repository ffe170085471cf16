/-! ===== what a step of the abstract machine says of the machine ===== -/
abbrev mm_A (B0 : Nat) : Nat → Prop := fun q => B0 ≤ q
def mm_Ok (D : va_G) (B0 : Nat) (sad : Nat → Nat) (n0 : Nat) (ad0 : Nat → Nat) (lim : Nat × Nat) (R : Room) (s : State) (nL : Nat) (ad : Nat → Nat) (H : Heap) (locs : List Loc) (cells slots : Nat) (la : Array Slot) (ls : List (Option mm_V)) (w : mm_W) : Prop :=
  (∀ k, k < n0 ∨ w.1.length ≤ k → ad k = ad0 k) ∧ n0 ≤ w.1.length ∧ w.1.length ≤ lim.1 ∧ mm_sl w.1 ≤ lim.2 ∧ mm_H D B0 ad w s H ∧ va_S (mm_A B0) s.heap H locs ∧ mm_Lr ad sad nL ls la ∧ cells + (lim.1 - w.1.length) ≤ R.cells ∧ slots + (lim.2 - mm_sl w.1) ≤ R.slots
section MMS
variable {p : Program} {l : Launch} {e : Env} {R : Room} {s : State} {m : MethodId} {args : Array Value} {below : List Frame} {meth : Method} {c : Code} {Qf : State → Prop}
variable {D : va_G} {B0 : Nat} {sad : Nat → Nat} {n0 : Nat} {ad0 : Nat → Nat} {lim : Nat × Nat} {M : mm_M} {ms : List mm_M} {tb : mm_T} {call : mm_F} {Q : Option mm_V → mm_W → Prop}
def mm_Rel (p : Program) (l : Launch) (e : Env) (R : Room) (s : State) (m : MethodId) (args : Array Value) (below : List Frame) (meth : Method) (c : Code) (Qf : State → Prop) (D : va_G) (B0 : Nat) (sad : Nat → Nat) (n0 : Nat) (ad0 : Nat → Nat) (lim : Nat × Nat) (nL : Nat) : mm_K := fun pc ls st w =>
  ∀ (ad : Nat → Nat) (H : Heap) (locs : List Loc) (cells slots : Nat) (la : Array Slot), mm_Ok D B0 sad n0 ad0 lim R s nL ad H locs cells slots la ls w → W p l e R s m args below meth c H locs cells slots Qf (F0 m pc la (st.map (mm_cv ad sad)))
/-- a return: what is asked of the frame around -/
def mm_rti (M : mm_M) (pc : Nat) (o : Option mm_V) : Prop := match o with
  | some (.inl x) => decode (mm_Mb M) pc = .ok (.ireturn, 1) ∧ (mm_Mr M = some .int ∨ (mm_Mr M = some .boolean ∧ (x = 0 ∨ x = 1)))
  | some (.inr (.inl _)) => decode (mm_Mb M) pc = .ok (.lreturn, 1) ∧ mm_Mr M = some .long
  | none => decode (mm_Mb M) pc = .ok (.return_, 1) ∧ mm_Mr M = none
  | _ => False
/-! elimination of the ops -/
theorem mm_oI_e {o : Option mm_V} {k : Int32 → Prop} (h : mm_oI o k) : ∃ x, o = some (.inl x) ∧ k x := by
  unfold mm_oI at h
  split at h
  · exact ⟨_, rfl, h⟩
  · exact h.elim
theorem mm_oL_e {o : Option mm_V} {k : Int64 → Prop} (h : mm_oL o k) : ∃ x, o = some (.inr (.inl x)) ∧ k x := by
  unfold mm_oL at h
  split at h
  · exact ⟨_, rfl, h⟩
  · exact h.elim
theorem mm_oA_e {o : Option mm_V} {k : mm_V → Prop} (h : mm_oA o k) : ∃ v, o = some (.inr (.inr v)) ∧ k (.inr (.inr v)) := by
  unfold mm_oA at h
  split at h
  · exact ⟨_, rfl, h⟩
  · exact h.elim
theorem mm_1i_e {st : List mm_V} {k : Int32 → List mm_V → Prop} (h : mm_1i st k) : ∃ x r, st = .inl x :: r ∧ k x r := by
  unfold mm_1i at h
  split at h
  · exact ⟨_, _, rfl, h⟩
  · exact h.elim
theorem mm_1l_e {st : List mm_V} {k : Int64 → List mm_V → Prop} (h : mm_1l st k) : ∃ x r, st = .inr (.inl x) :: r ∧ k x r := by
  unfold mm_1l at h
  split at h
  · exact ⟨_, _, rfl, h⟩
  · exact h.elim
theorem mm_1r_e {st : List mm_V} {k : Nat → List mm_V → Prop} (h : mm_1r st k) : ∃ x r, st = .inr (.inr (.inl x)) :: r ∧ k x r := by
  unfold mm_1r at h
  split at h
  · exact ⟨_, _, rfl, h⟩
  · exact h.elim
theorem mm_1c_e {st : List mm_V} {k : mm_V → List mm_V → Prop} (h : mm_1c st k) : ∃ v r, st = v :: r ∧ mm_cat v = 1 ∧ k v r := by
  unfold mm_1c at h
  split at h
  · exact ⟨_, _, rfl, rfl, h⟩
  · exact ⟨_, _, rfl, rfl, h⟩
  · exact h.elim
theorem mm_2i_e {st : List mm_V} {k : Int32 → Int32 → List mm_V → Prop} (h : mm_2i st k) : ∃ x y r, st = .inl y :: .inl x :: r ∧ k x y r := by
  unfold mm_2i at h
  split at h
  · exact ⟨_, _, _, rfl, h⟩
  · exact h.elim
theorem mm_2l_e {st : List mm_V} {k : Int64 → Int64 → List mm_V → Prop} (h : mm_2l st k) : ∃ x y r, st = .inr (.inl y) :: .inr (.inl x) :: r ∧ k x y r := by
  unfold mm_2l at h
  split at h
  · exact ⟨_, _, _, rfl, h⟩
  · exact h.elim
theorem mm_t1_e {ax : List (Nat × Nat)} {k : Nat → Prop} (h : mm_t1 ax k) : ∃ a t r, ax = (a, t) :: r ∧ k t := by
  unfold mm_t1 at h
  split at h
  · exact ⟨_, _, _, rfl, h⟩
  · exact h.elim
theorem mm_cas_e {x : Int32} {k : Nat → Prop} {ax : List (Nat × Nat)} (h : mm_cas x k ax) : ∃ a d ts, ax = (a, d) :: ts ∧ mm_sw x k ts ∧ mm_df x (k d) ts := by
  unfold mm_cas at h
  split at h
  · exact ⟨_, _, _, rfl, h⟩
  · exact h.elim
theorem mm_vcat {ad sad : Nat → Nat} {v : mm_V} (h : mm_cat v = 1) : (mm_cv ad sad v).category = 1 := by rw [mm_cv_cat, h]
/-- switches -/
theorem mm_sw_t {x : Int32} {k : Nat → Prop} {pc : Nat} : ∀ (os : List Int) (ts : List (Nat × Nat)) (lo : Int) (j : Nat) (o : Int), mm_ckt pc lo os ts = true → mm_sw x k ts → os[j]? = some o → x.toInt = lo + j → ∃ t : Nat, (pc : Int) + o = (t : Int) ∧ k t
  | [], ts, lo, j, o, _, _, ho, _ => by simp at ho
  | o1 :: os, [], lo, j, o, hc, _, _, _ => by simp [mm_ckt] at hc
  | o1 :: os, (a, t) :: ts, lo, 0, o, hc, hs, ho, hx => by
    simp only [mm_ckt, Bool.and_eq_true, decide_eq_true_eq] at hc
    obtain ⟨⟨⟨h1, h2⟩, h3⟩, -⟩ := hc
    have e : o1 = o := by simpa using ho
    subst e
    refine ⟨t, h3, hs.1 ?_⟩
    apply Int32.toInt_inj.mp
    rw [nI_toInt h2, hx, h1]
    simp
  | o1 :: os, (a, t) :: ts, lo, j + 1, o, hc, hs, ho, hx => by
    simp only [mm_ckt, Bool.and_eq_true] at hc
    refine mm_sw_t os ts (lo + 1) j o hc.2 hs.2 (by simpa using ho) ?_
    rw [hx]
    push_cast
    omega
theorem mm_df_t {x : Int32} {P : Prop} {pc : Nat} : ∀ (os : List Int) (ts : List (Nat × Nat)) (lo : Int), mm_ckt pc lo os ts = true → mm_df x P ts → (x.toInt < lo ∨ lo + os.length ≤ x.toInt) → P
  | [], [], lo, _, h, _ => h
  | [], _ :: _, lo, hc, _, _ => by simp [mm_ckt] at hc
  | _ :: _, [], lo, hc, _, _ => by simp [mm_ckt] at hc
  | o1 :: os, (a, t) :: ts, lo, hc, h, hx => by
    simp only [mm_ckt, Bool.and_eq_true, decide_eq_true_eq] at hc
    obtain ⟨⟨⟨h1, h2⟩, h3⟩, h4⟩ := hc
    refine mm_df_t os ts (lo + 1) h4 (h ?_) ?_
    · intro q
      rw [q, nI_toInt h2] at hx
      simp only [List.length_cons] at hx
      omega
    · simp only [List.length_cons] at hx
      rcases hx with hx | hx
      · left; omega
      · right; push_cast at hx; omega
theorem mm_lk {x : Int32} {k : Nat → Prop} {pc d : Nat} {dflt : Int} (hd : (pc : Int) + dflt = (d : Int)) : ∀ (os : List (Int × Int)) (ts : List (Nat × Nat)), mm_ckl pc os ts = true → mm_sw x k ts → mm_df x (k d) ts → ∃ t : Nat, (pc : Int) + Op.lookupswitch.offset os dflt x.toInt = (t : Int) ∧ k t
  | [], [], _, _, h => ⟨d, by simpa [Op.lookupswitch.offset] using hd, h⟩
  | [], _ :: _, hc, _, _ => by simp [mm_ckl] at hc
  | _ :: _, [], hc, _, _ => by simp [mm_ckl] at hc
  | (b, o) :: os, (a, t) :: ts, hc, hs, hf => by
    simp only [mm_ckl, Bool.and_eq_true, decide_eq_true_eq] at hc
    obtain ⟨⟨⟨h1, h2⟩, h3⟩, h4⟩ := hc
    rw [Op.lookupswitch.offset_cons]
    by_cases q : x = nI a
    · refine ⟨t, ?_, hs.1 q⟩
      rw [if_pos (by rw [q, nI_toInt h2, h1])]
      exact h3
    · rw [if_neg (fun z => q (Int32.toInt_inj.mp (by rw [nI_toInt h2, h1]; exact z.symm)))]
      exact mm_lk hd os ts h4 hs.2 (hf q)
/-! the classes -/
theorem mm_cls {ci : Nat} {q : vw_C} (h : mm_cl[ci]? = some q) : (∀ k, k < q.2.2 → parseFieldDescriptor (q.2.1 k).2.2.1 = some (mm_tys ci k)) ∧ (∀ a, a < q.2.2 → ∀ b, b < q.2.2 → a ≠ b → (q.2.1 a).2.1 ≠ (q.2.1 b).2.1) ∧ q.2.2 = mm_cn ci := by
  match ci, h with
  | 0, h => cases h; exact ⟨tyX0_ok, nmX0, rfl⟩
  | 1, h => cases h; exact ⟨tyX1_ok, nmX1, rfl⟩
  | 2, h => cases h; exact ⟨tyX2_ok, nmX2, rfl⟩
  | 3, h => cases h; exact ⟨tyX3_ok, nmX3, rfl⟩
  | 4, h => cases h; exact ⟨tyX4_ok, nmX4, rfl⟩
  | 5, h => cases h; exact ⟨tyX5_ok, nmX5, rfl⟩
  | 6, h => cases h; exact ⟨tyX7_ok, nmX7, rfl⟩
  | 7, h => cases h; exact ⟨tyX8_ok, nmX8, rfl⟩
  | 8, h => cases h; exact ⟨tyX9_ok, nmX9, rfl⟩
  | 9, h => cases h; exact ⟨tyX11_ok, nmX11, rfl⟩
  | 10, h => cases h; exact ⟨tyX12_ok, nmX12, rfl⟩
  | k + 11, h => simp [mm_cl] at h
/-! frames of the ops that leave the world -/
theorem mm_Ok.st1 {nL : Nat} {ad : Nat → Nat} {H : Heap} {locs : List Loc} {cells slots : Nat} {la la' : Array Slot} {ls ls' : List (Option mm_V)} {w : mm_W} (O : mm_Ok D B0 sad n0 ad0 lim R s nL ad H locs cells slots la ls w) (h : mm_Lr ad sad nL ls' la') : mm_Ok D B0 sad n0 ad0 lim R s nL ad H locs cells slots la' ls' w := by
  obtain ⟨h1, h2, h3, h4, h5, h6, h7, h8, h9⟩ := O
  exact ⟨h1, h2, h3, h4, h5, h6, h, h8, h9⟩
/-- a write in the world: cells stay as many -/
theorem mm_Ok.wr {nL : Nat} {ad : Nat → Nat} {H H1 : Heap} {locs locs1 : List Loc} {cells slots : Nat} {la : Array Slot} {ls : List (Option mm_V)} {w w' : mm_W} (O : mm_Ok D B0 sad n0 ad0 lim R s nL ad H locs cells slots la ls w) (hl : w'.1.length = w.1.length) (hs : mm_sl w'.1 = mm_sl w.1) (hH : mm_H D B0 ad w' s H1) (hS : va_S (mm_A B0) s.heap H1 locs1) : mm_Ok D B0 sad n0 ad0 lim R s nL ad H1 locs1 cells slots la ls w' := by
  obtain ⟨h1, h2, h3, h4, h5, h6, h7, h8, h9⟩ := O
  unfold mm_Ok
  rw [hl, hs]
  exact ⟨h1, h2, h3, h4, hH, hS, h7, h8, h9⟩
theorem mm_sl_set {l : List mm_C} {k : Nat} {c c' : mm_C} (h : l[k]? = some c) (hc : mm_c1 c' = mm_c1 c) : mm_sl (l.set k c') = mm_sl l := by
  unfold mm_sl
  congr 1
  rw [List.map_set, hc]
  apply List.ext_getElem?
  intro i
  by_cases e : i = k
  · subst e
    have hlt := (List.getElem?_eq_some_iff.mp h).1
    rw [List.getElem?_set_self (by rw [List.length_map]; exact hlt), List.getElem?_map, h]
    rfl
  · rw [List.getElem?_set_ne (fun z => e z.symm)]
theorem mm_u_ne {α : Type} {f : Nat → Nat → α} {k i j : Nat} {x : α} (h : j ≠ k) : mm_u f k i x j = f j := by
  funext b
  simp [mm_u, h]
theorem mm_u_eq {f : Nat → Nat → Int32} {k i : Nat} {x : Int32} : mm_u f k i x k = upd (f k) i x := by
  funext b
  simp [mm_u, upd]
theorem mm_u_eqL {f : Nat → Nat → Int64} {k i : Nat} {x : Int64} : mm_u f k i x k = vp_updL (f k) i x := by
  funext b
  simp [mm_u, vp_updL]
theorem mm_ct_same {ca : Nat → ClassId} {tys : List (ClassId × FieldType)} {l : List mm_C} {k : Nat} {c c' : mm_C} (hct : ∀ (k : Nat) (c : mm_C), l[k]? = some c → mm_ct ca tys k c) (hk : l[k]? = some c) (h : mm_ct ca tys k c → mm_ct ca tys k c') : ∀ (j : Nat) (cj : mm_C), (l.set k c')[j]? = some cj → mm_ct ca tys j cj := by
  intro j cj hj
  by_cases e : j = k
  · subst e
    rw [List.getElem?_set_self (List.getElem?_eq_some_iff.mp hk).1] at hj
    cases hj
    exact h (hct _ _ hk)
  · rw [List.getElem?_set_ne (fun z => e z.symm)] at hj
    exact hct j cj hj
end MMS
