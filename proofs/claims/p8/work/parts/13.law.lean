/-! THE CLAIM OUT OF ONE WALK OF THE LAW'S BODY. Your part is whole_start (and what it stands on); all else here is the same for every law, but numbers. -/
def R_law : String := "TypeCopierLaw"
def lw_P (b : Addr) (xs : List Int32) (args : Array Value) (s : State) : Prop := args = #[.ref b] ∧ s.IntsAt b xs ∧ xs.length ≤ 3072 ∧ (Jvm.Cond.and given_1 narrow_1).before args s = true
def lw_Q (_ : Array Value) (s : State) (o : Outcome) (t : State) : Prop := o = .returned (some (.int 1)) ∧ Framed s o t [] 600000 7302250
def lw_Z (below : List Frame) (a : Array Value) (s : State) : State → Prop := fun t => ∃ o, t.status = .running ∧ Ended t below o ∧ lw_Q a s o t
/-- the law's own end, with 1 on the stack, nothing written that was there before, its room as the claim has it -/
theorem lw_ret {p : Program} {l : Launch} {e : Env} {s : State} {m : MethodId} {below : List Frame} {meth : Method} {c : Code} {b : Nat} (hx : p.tables.exec = Jvm.exec) (hb : c.code = code) (hr : meth.sig.returnType = ret) (hlocks : meth.locks = false) {pc : Nat} {H : Heap} {ls : Array Slot} (hdg : decode code pc = .ok (.ireturn, 1)) : W p l e room_1 s m #[Value.ref b] below meth c H [] 600000 7302250 (lw_Z below #[Value.ref b] s) (F0 m pc ls [.int 1]) := by
  intro T hT X
  obtain ⟨fs, hret, hrun, hended, hW, hframe⟩ := X.leave (v := some (.int 1)) (hlocks := hlocks) (fun h => by rw [hr] at h; cases h)
  have hmeth' : T.vm.method? m = some meth := X.method'
  refine ⟨T.setFrames fs, ?_, .returned (some (.int 1)), hrun, hended, rfl, ⟨_, rfl⟩, hW, hframe⟩
  jvm_step X.here [X.here.top, hx, hb, hdg, hmeth', hr, ret, narrow_b1]
  (try refine ⟨rfl, ?_⟩); (try refine ⟨rfl, ?_⟩)
  first | (intro acts; rw [hret _ acts rfl rfl rfl]) | rw [hret _ _ rfl rfl rfl]
  exact Steps.refl _
/-- what holds at the law's entry: the machine, the code, the tables' words (any of lw_tbl by 'hts w (by decide +kernel)'), the script of L ints xs at the cell b, what the Statement gives of the start (any of its parts by flat_of_before) -/
def lw_At (p : Program) (s : State) (m : MethodId) (meth : Method) (c : Code) (b L : Nat) (xs : Nat → Int32) : Prop :=
  p.tables.exec = Jvm.exec ∧ c.code = code ∧ meth.sig.returnType = ret ∧ c.maxLocals = 4 ∧ s.vm.findClass R_law = some m.cls ∧ (∀ w ∈ lw_tbl, w.before #[Value.ref b] s = true) ∧ va_X b L xs s s.heap ∧ b < s.heap.size ∧ meth.locks = false ∧ (Jvm.Cond.and given_1 narrow_1).before #[Value.ref b] s = true
/-! ===== the law's start, out of a run of the abstract machine ===== -/
def mm_rooms : List Int64 := [4, 24, 624, 390624, 152587890624]
def mm_wants : List Int32 := [1, 1, 0, 2, 2, 3, 2, 1, 1, 1, 2, 1, 1, 1, 4]
def mm_parts : List Int32 := [0, 0, 0, 2, 2, 3, 2, 1, 1, 0, 2, 1, 1, 1, 1]
def mm_tb (L : Nat) (xs : Nat → Int32) : mm_T := fun j => match j with
  | 1 => (5, .inr (fun i => mm_rooms.getD i 0))
  | 2 => (15, .inl (fun i => mm_wants.getD i 0))
  | 3 => (15, .inl (fun i => mm_parts.getD i 0))
  | _ => (L, .inl xs)
theorem mm_sti {args : Array Value} {s : State} {C n d : String} {A : Nat → Prop} (l : List Int32) (N : Nat) (hN : N < 2 ^ 31) (hq : ∀ w ∈ flatC narrow_1, w.before args s = true) (h1 : Cond.arrayOf (.static C n d) .int ∈ flatC narrow_1) (h2 : Cond.eq (.length (.static C n d)) (.int (Int32.ofNat N)) ∈ flatC narrow_1) (h3 : ∀ j, j < N → Cond.eq (.elem (.static C n d) (.int (Int32.ofNat j))) (.int (l.getD j 0)) ∈ flatC narrow_1) (hA : ∀ a : Nat, a < s.heap.size → ¬ A a) : ∃ t : Nat, (Term.static C n d).eval args s none [] s = some (.ref t) ∧ va_T .int t N (fun i => .int (l.getD i 0)) A s s.heap :=
  va_Tof hN (hq _ h1) (va_eqt (hq _ h2)) (fun j hj => va_eqt (hq _ (h3 j hj))) hA
theorem mm_stl {args : Array Value} {s : State} {C n d : String} {A : Nat → Prop} (l : List Int64) (N : Nat) (hN : N < 2 ^ 31) (hq : ∀ w ∈ flatC narrow_1, w.before args s = true) (h1 : Cond.arrayOf (.static C n d) .long ∈ flatC narrow_1) (h2 : Cond.eq (.length (.static C n d)) (.int (Int32.ofNat N)) ∈ flatC narrow_1) (h3 : ∀ j, j < N → Cond.eq (.elem (.static C n d) (.int (Int32.ofNat j))) (.long (l.getD j 0)) ∈ flatC narrow_1) (hA : ∀ a : Nat, a < s.heap.size → ¬ A a) : ∃ t : Nat, (Term.static C n d).eval args s none [] s = some (.ref t) ∧ va_T .long t N (fun i => .long (l.getD i 0)) A s s.heap :=
  va_Tof hN (hq _ h1) (va_eqt (hq _ h2)) (fun j hj => va_eqtl (hq _ (h3 j hj))) hA
theorem mm_known {s : State} {args : Array Value} (hts : ∀ w ∈ mm_GW, w.before args s = true) (hcw : ∀ (ci : Nat) (q : vw_C), mm_cl[ci]? = some q → ∀ w ∈ u_ws q.1 q.2.1 q.2.2, w ∈ mm_GW) (hin : ∀ (ci : Nat) (q : vw_C), mm_cl[ci]? = some q → Cond.instantiable q.1 q.2.2 ∈ mm_GW) : ∃ D : va_G, ∀ (k : Nat) (q : vw_C), mm_cl[k]? = some q → u_Kn s q.1 q.2.1 q.2.2 (D.1 k) (D.2 k) := by
  have h : ∀ k : Nat, ∃ (x : ClassId × (Nat → Nat)), ∀ q : vw_C, mm_cl[k]? = some q → u_Kn s q.1 q.2.1 q.2.2 x.1 x.2 := by
    intro k
    cases hq : mm_cl[k]? with
    | none => exact ⟨(0, fun _ => 0), fun q h => by cases h⟩
    | some q =>
      obtain ⟨c, iS, hK⟩ := u_known (C := q.1) (T := q.2.1) (N := q.2.2) hts (hcw k q hq) (hts _ (hin k q hq))
      exact ⟨(c, iS), fun q' h => by cases h; exact hK⟩
  exact ⟨(fun k => (Classical.choose (h k)).1, fun k => (Classical.choose (h k)).2), fun k q hq => Classical.choose_spec (h k) q hq⟩
def mm_ML : mm_M := (x, code, 4, ret, mm_kL, 1, 0, 0, 0)
set_option maxHeartbeats 4000000 in
set_option maxRecDepth 100000 in
theorem mm_start (d : Nat) (hd40 : d ≤ 40) (hmna : mm_mnaA) (hcw : ∀ (ci : Nat) (q : vw_C), mm_cl[ci]? = some q → ∀ w ∈ u_ws q.1 q.2.1 q.2.2, w ∈ mm_GW) (hin : ∀ (ci : Nat) (q : vw_C), mm_cl[ci]? = some q → Cond.instantiable q.1 q.2.2 ∈ mm_GW) (hM : ∀ (mi : Nat) (M' : mm_M), mm_ms[mi]? = some M' → mm_ckm mm_ms M' = true) (hLk : mm_cks mm_ms x code 4 0 mm_kL = true)
    {p : Program} {e : Env} {s : State} {m : MethodId} {below : List Frame} {meth : Method} {c : Code} (l : Launch) {b L : Nat} {xs : Nat → Int32} (C0 : lw_At p s m meth c b L xs) (hL : L ≤ 3072)
    (hW : mm_WP (mm_call mm_ms (mm_tb L xs) d) mm_ms (mm_tb L xs) mm_ML (600000, 7302250) (fun o _ => o = some (mm_I 1)) 0 [some (mm_S 0), none, none, none] [] ([], fun _ _ => 0, fun _ _ => 0)) : W p l e room_1 s m #[Value.ref b] below meth c s.heap [] 0 0 (lw_Z below #[Value.ref b] s) (entryFrame m ([Value.ref b] : List Value).toArray 4) := by
  obtain ⟨hx, hb, hr, hml, hown, hts0, hX, hbl, hlocks, hgv⟩ := C0
  have htsT := mm_tbl_ok hts0
  have hts : ∀ w ∈ mm_GW, w.before #[Value.ref b] s = true := fun w hw => htsT w (List.mem_filter.mp hw).1
  obtain ⟨D, hKn⟩ := mm_known hts hcw hin
  have hs := flat_of_before _ hgv
  have hA : ∀ a : Nat, a < s.heap.size → ¬ mm_A s.heap.size a := fun a h => Nat.not_le.mpr h
  have hqn : ∀ w ∈ flatC narrow_1, w.before #[Value.ref b] s = true := fun w hw => hs w (List.mem_append_right _ hw)
  obtain ⟨t1, ht1, hT1⟩ := mm_stl (C := "TypeCopier$Shape") (n := "ROOMS") (d := "[J") (A := mm_A s.heap.size) mm_rooms 5 (by decide) hqn (by decide +kernel) (by decide +kernel) (by decide +kernel) hA
  obtain ⟨t2, ht2, hT2⟩ := mm_sti (C := "TypeCopier$Nodes") (n := "WANTS") (d := "[I") (A := mm_A s.heap.size) mm_wants 15 (by decide) hqn (by decide +kernel) (by decide +kernel) (by decide +kernel) hA
  obtain ⟨t3, ht3, hT3⟩ := mm_sti (C := "TypeCopier$Nodes") (n := "PARTS") (d := "[I") (A := mm_A s.heap.size) mm_parts 15 (by decide) hqn (by decide +kernel) (by decide +kernel) (by decide +kernel) hA
  have hZ1 := va_Zof (A := mm_A s.heap.size) (hts0 (Cond.laysStatic "TypeCopier$Shape" "ROOMS" "[J") (by decide +kernel)) (hts0 (Cond.initialized "TypeCopier$Shape") (by decide +kernel)) ht1 hA
  have hZ2 := va_Zof (A := mm_A s.heap.size) (hts0 (Cond.laysStatic "TypeCopier$Nodes" "WANTS" "[I") (by decide +kernel)) (hts0 (Cond.initialized "TypeCopier$Nodes") (by decide +kernel)) ht2 hA
  have hZ3 := va_Zof (A := mm_A s.heap.size) (hts0 (Cond.laysStatic "TypeCopier$Nodes" "PARTS" "[I") (by decide +kernel)) (hts0 (Cond.initialized "TypeCopier$Nodes") (by decide +kernel)) ht3 hA
  have hT0 : va_T .int b L (fun i => .int (xs i)) (mm_A s.heap.size) s s.heap := by
    obtain ⟨scr, h1, h2, h3, h4, h5⟩ := hX
    exact ⟨scr, h1, h2, h3, by omega, by rw [h4], h5, hA b hbl⟩
  generalize hsad : (fun j => match j with | 1 => t1 | 2 => t2 | 3 => t3 | _ => b : Nat → Nat) = sad
  have hSx : mm_Sx (mm_tb L xs) sad s.heap.size s s.heap := by
    subst hsad
    refine ⟨fun j => ?_, fun j C n ds hj => ?_, fun q w hw => ?_⟩
    · match j with
      | 0 => exact hT0
      | 1 => exact hT1
      | 2 => exact hT2
      | 3 => exact hT3
      | j + 4 => exact hT0
    · match j, hj with
      | 0, hj => cases hj
      | 1, hj => cases hj; exact hZ1
      | 2, hj => cases hj; exact hZ2
      | 3, hj => cases hj; exact hZ3
      | j + 4, hj => cases hj
    · simp only [mm_az, Bool.and_eq_true, decide_eq_true_eq] at hw
      have h9 := htsT w (mm_g_in hw.1)
      have hz := hw.2
      unfold mm_nzk at hz
      split at hz
      · exact va_Nw.of rfl h9
      · exact va_Nw.of rfl h9
      · exact h9
      · cases hz
  have hK : va_K D mm_cl [] s := ⟨hKn, fun k q h => by simp at h⟩
  have hl := lv_entry ([.ref b]) (n := 4) (Nat.le_of_ble_eq_true rfl)
  rw [lg_entry_eq]
  generalize (lg_sl ([.ref b]) ++ List.replicate (4 - (lg_sl ([.ref b])).length) Slot.unset).toArray = la at hl ⊢
  have hsad0 : sad 0 = b := (congrFun hsad 0).symm
  have hcall := mm_met (l := l) (D := D) (B0 := s.heap.size) (sad := sad) (tb := mm_tb L xs) hmna hcw hM d
  have hh : ∀ (mi : Nat) (M' : mm_M), mm_ms[mi]? = some M' → mm_ckh M' = true := fun mi M' q => by
    have := hM mi M' q
    simp only [mm_ckm, Bool.and_eq_true] at this
    exact this.1
  have hres := hW (mm_Rel p l e room_1 s m #[Value.ref b] below meth c (lw_Z below #[Value.ref b] s) D s.heap.size sad 0 (fun _ => 0) (600000, 7302250) 4) (mm_step (M := mm_ML) (d := d) hx hb hml hown hts hcw (fun q => absurd q (by decide +kernel)) hSx (Nat.le_refl _) hcall hh (by show d + 1 ≤ 2048; omega) (by show 40 * (d + 1) ≤ 84000; omega) hLk (hmna _ _ _ _ _ _ _ _ _ _ _ _ _ _ _ _ _ _ _ _ (mm_tb L xs) hx hb hown hts hSx (Nat.le_refl _)) (fun pc o w ad H locs cells slots la ls hrt hQ O => by
    subst hQ
    obtain ⟨o1, o2, o3, o4, hH, hS, oL, o8, o9⟩ := O
    refine va_forget (fun q hq => hS.2.2 q hq) ?_
    have k1 : cells ≤ 600000 := by
      have : room_1.cells = 600000 := rfl
      omega
    have k2 : slots ≤ 7302250 := by
      have : room_1.slots = 7302250 := rfl
      omega
    refine W.widen k1 k2 ?_
    exact lw_ret hx hb hr hlocks hrt.1)) (fun _ => 0) s.heap [] 0 0 la ?_
  · exact hres
  · refine ⟨fun _ _ => rfl, Nat.le_refl _, Nat.zero_le _, Nat.zero_le _, ⟨fun _ => 0, [], hK, fun k q h => by simp [mm_ws] at h, ⟨fun i j q r h => by simp [mm_ws] at h, fun k q h => by simp [mm_ws] at h⟩, fun k c h => by simp at h⟩, va_S.rf, mm_lv_weak hl (fun q hq => ?_), ?_, ?_⟩
    · obtain ⟨v, h1, h2⟩ := mm_lv_mem.mp hq
      match hi : q.1, h1 with
      | 0, h1 =>
        have : v = mm_S 0 := by simpa using h1.symm
        subst this
        have : q = (0, Value.ref b) := Prod.ext hi (by rw [h2]; simp [mm_cv, hsad0])
        rw [this]
        simp [lv_args]
      | 1, h1 => simp at h1
      | 2, h1 => simp at h1
      | 3, h1 => simp at h1
      | k + 4, h1 => simp at h1
    · show 0 + (600000 - 0) ≤ 600000
      omega
    · show 0 + (7302250 - mm_sl []) ≤ 7302250
      omega
