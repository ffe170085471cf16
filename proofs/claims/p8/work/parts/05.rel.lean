/-! ===== how the abstract machine's world lies in the heap ===== -/
def mm_GW : List Cond := mm_tbl.filter goodWord
theorem mm_at_in {p : Nat} {w : Cond} (h : mm_at p w = true) : w ∈ mm_GW := by
  simp only [mm_at, Bool.and_eq_true, decide_eq_true_eq] at h
  exact List.mem_filter.mpr ⟨mm_g_in h.1, h.2⟩
theorem mm_GW_g : GoodIn mm_GW mm_GW := fun w h => ⟨h, good_of_word (List.mem_filter.mp h).2⟩
def mm_cv (ad sad : Nat → Nat) : mm_V → Value
  | .inl x => .int x
  | .inr (.inl x) => .long x
  | .inr (.inr (.inl k)) => .ref (ad k)
  | .inr (.inr (.inr (.inl k))) => .ref (sad k)
  | .inr (.inr (.inr (.inr _))) => .null
theorem mm_cv_cat (ad sad : Nat → Nat) (v : mm_V) : (mm_cv ad sad v).category = mm_cat v := by
  rcases v with x | x | x | x | x <;> rfl
theorem mm_cs_cat (ad sad : Nat → Nat) (l : List mm_V) : ((l.map (mm_cv ad sad)).map fun v => v.category).sum = mm_cs l := by
  simp only [List.map_map, mm_cs]
  congr 1
  apply List.map_congr_left
  intro v _
  exact mm_cv_cat ad sad v
/-! locals -/
def mm_lv (ad sad : Nat → Nat) (ls : List (Option mm_V)) : List (Nat × Value) := ls.zipIdx.filterMap (fun q => q.1.map (fun v => (q.2, mm_cv ad sad v)))
theorem mm_lv_mem {ad sad : Nat → Nat} {ls : List (Option mm_V)} {q : Nat × Value} : q ∈ mm_lv ad sad ls ↔ ∃ v, ls[q.1]? = some (some v) ∧ q.2 = mm_cv ad sad v := by
  unfold mm_lv
  rw [List.mem_filterMap]
  constructor
  · rintro ⟨⟨o, i⟩, h1, h2⟩
    rw [List.mem_zipIdx_iff_getElem?] at h1
    cases o with
    | none => cases h2
    | some v =>
      cases h2
      exact ⟨v, h1, rfl⟩
  · rintro ⟨v, h1, h2⟩
    refine ⟨(some v, q.1), ?_, ?_⟩
    · rw [List.mem_zipIdx_iff_getElem?]
      exact h1
    · show some (q.1, mm_cv ad sad v) = some q
      rw [← h2]
def mm_Lr (ad sad : Nat → Nat) (nL : Nat) (ls : List (Option mm_V)) (la : Array Slot) : Prop := lv_has la nL (mm_lv ad sad ls)
theorem mm_getD {ls : List (Option mm_V)} {g : Nat} {v : mm_V} (h : ls.getD g none = some v) : ls[g]? = some (some v) := by
  rw [List.getD_eq_getElem?_getD] at h
  cases hq : ls[g]? with
  | none => rw [hq] at h; cases h
  | some o => rw [hq] at h; exact congrArg some h
theorem mm_Lr_at {ad sad : Nat → Nat} {nL g : Nat} {ls : List (Option mm_V)} {la : Array Slot} {v : mm_V} (h : mm_Lr ad sad nL ls la) (hg : ls.getD g none = some v) : la[g]? = some (.val (mm_cv ad sad v)) :=
  h.2.2 (g, mm_cv ad sad v) (mm_lv_mem.mpr ⟨v, mm_getD hg, rfl⟩)
theorem mm_lv_weak {la : Array Slot} {n : Nat} {l l' : List (Nat × Value)} (h : lv_has la n l') (hs : ∀ q ∈ l, q ∈ l') : lv_has la n l := ⟨h.1, h.2.1, fun q hq => h.2.2 q (hs q hq)⟩
theorem mm_kl_at {ls : List (Option mm_V)} {g i : Nat} {u : mm_V} (h : (mm_kl ls g)[i]? = some (some u)) : ls[i]? = some (some u) ∧ ¬ (i + 1 = g ∧ mm_cat u = 2) := by
  cases g with
  | zero => exact ⟨h, fun q => by omega⟩
  | succ j =>
    simp only [mm_kl] at h
    split at h
    · rename_i x hx
      by_cases e : i = j
      · subst e
        rw [List.getElem?_set] at h
        simp only [if_true] at h
        split at h <;> simp at h
      · rw [List.getElem?_set_ne (fun q => e q.symm)] at h
        exact ⟨h, fun q => by omega⟩
    · rename_i hx
      refine ⟨h, fun q => ?_⟩
      obtain ⟨q1, q2⟩ := q
      have e : i = j := by omega
      subst e
      rcases u with x | x | x | x | x <;> simp [mm_cat] at q2
      exact hx x (by rw [List.getD_eq_getElem?_getD, h]; rfl)
theorem mm_s1_lv (ad sad : Nat → Nat) (ls : List (Option mm_V)) (g : Nat) (v : mm_V) : ∀ q ∈ mm_lv ad sad (mm_s1 ls g v), q ∈ (g, mm_cv ad sad v) :: (mm_lv ad sad ls).filter (fun q => !(q.1 == g) && !(q.1 + 1 == g && q.2.category == 2)) := by
  intro q hq
  obtain ⟨u, h1, h2⟩ := mm_lv_mem.mp hq
  by_cases e : q.1 = g
  · unfold mm_s1 at h1
    rw [e, List.getElem?_set] at h1
    simp only [if_true] at h1
    split at h1
    · have h3 : v = u := by simpa using h1
      rw [List.mem_cons]
      left
      apply Prod.ext
      · exact e
      · rw [h2, h3]
    · cases h1
  · unfold mm_s1 at h1
    rw [List.getElem?_set_ne (fun z => e z.symm)] at h1
    obtain ⟨h3, h4⟩ := mm_kl_at h1
    refine List.mem_cons_of_mem _ (List.mem_filter.mpr ⟨mm_lv_mem.mpr ⟨u, h3, h2⟩, ?_⟩)
    rw [h2, mm_cv_cat]
    simp only [Bool.and_eq_true, Bool.not_eq_true', Bool.and_eq_false_iff, beq_eq_false_iff_ne]
    refine ⟨e, ?_⟩
    by_cases e2 : q.1 + 1 = g
    · right
      exact fun z => h4 ⟨e2, z⟩
    · left
      exact e2
theorem mm_s2_lv (ad sad : Nat → Nat) (ls : List (Option mm_V)) (g : Nat) (v : mm_V) : ∀ q ∈ mm_lv ad sad (mm_s2 ls g v), q ∈ (g, mm_cv ad sad v) :: (mm_lv ad sad ls).filter (fun q => !(q.1 == g) && (!(q.1 == g + 1) && !(q.1 + 1 == g && q.2.category == 2))) := by
  intro q hq
  obtain ⟨u, h1, h2⟩ := mm_lv_mem.mp hq
  by_cases e : q.1 = g
  · unfold mm_s2 at h1
    rw [e, List.getElem?_set] at h1
    simp only [if_true] at h1
    split at h1
    · have h3 : v = u := by simpa using h1
      rw [List.mem_cons]
      left
      apply Prod.ext
      · exact e
      · rw [h2, h3]
    · cases h1
  · unfold mm_s2 at h1
    rw [List.getElem?_set_ne (fun z => e z.symm)] at h1
    have e1 : q.1 ≠ g + 1 := by
      intro z
      rw [z, List.getElem?_set] at h1
      simp only [if_true] at h1
      split at h1 <;> simp at h1
    rw [List.getElem?_set_ne (fun z => e1 z.symm)] at h1
    obtain ⟨h3, h4⟩ := mm_kl_at h1
    refine List.mem_cons_of_mem _ (List.mem_filter.mpr ⟨mm_lv_mem.mpr ⟨u, h3, h2⟩, ?_⟩)
    rw [h2, mm_cv_cat]
    simp only [Bool.and_eq_true, Bool.not_eq_true', Bool.and_eq_false_iff, beq_eq_false_iff_ne]
    refine ⟨e, e1, ?_⟩
    by_cases e2 : q.1 + 1 = g
    · right
      exact fun z => h4 ⟨e2, z⟩
    · left
      exact e2
theorem mm_ar_len (ad sad : Nat → Nat) : ∀ As : List mm_V, (mm_ar As).length = (lg_sl (As.map (mm_cv ad sad))).length
  | [] => rfl
  | .inl x :: r => by
    show (mm_ar r).length + 1 = _
    rw [mm_ar_len ad sad r]
    simp [lg_sl, mm_cv, Value.category]
  | .inr (.inl x) :: r => by
    show (mm_ar r).length + 1 + 1 = _
    rw [mm_ar_len ad sad r]
    simp [lg_sl, mm_cv, Value.category]
  | .inr (.inr v) :: r => by
    show (mm_ar r).length + 1 = _
    rw [mm_ar_len ad sad r]
    rcases v with x | x | x <;> simp [lg_sl, mm_cv, Value.category]
theorem mm_ar_in (ad sad : Nat → Nat) : ∀ (As : List mm_V) (n i : Nat) (v : mm_V), (mm_ar As)[i]? = some (some v) → (n + i, mm_cv ad sad v) ∈ lv_args n (As.map (mm_cv ad sad))
  | [], _, i, v, h => by simp [mm_ar] at h
  | .inl x :: r, n, 0, v, h => by
    have e : v = .inl x := by simpa [mm_ar] using h.symm
    subst e
    simp [lv_args, mm_cv]
  | .inl x :: r, n, i + 1, v, h => by
    have h1 : (mm_ar r)[i]? = some (some v) := by simpa [mm_ar] using h
    have := mm_ar_in ad sad r (n + 1) i v h1
    rw [show n + (i + 1) = n + 1 + i by omega]
    simp [lv_args, mm_cv, Value.category]
    exact Or.inr this
  | .inr (.inl x) :: r, n, 0, v, h => by
    have e : v = .inr (.inl x) := by simpa [mm_ar] using h.symm
    subst e
    simp [lv_args, mm_cv]
  | .inr (.inl x) :: r, n, 1, v, h => by simp [mm_ar] at h
  | .inr (.inl x) :: r, n, i + 2, v, h => by
    have h1 : (mm_ar r)[i]? = some (some v) := by simpa [mm_ar] using h
    have := mm_ar_in ad sad r (n + 2) i v h1
    rw [show n + (i + 2) = n + 2 + i by omega]
    simp [lv_args, mm_cv, Value.category]
    exact Or.inr this
  | .inr (.inr y) :: r, n, 0, v, h => by
    have e : v = .inr (.inr y) := by simpa [mm_ar] using h.symm
    subst e
    simp [lv_args]
  | .inr (.inr y) :: r, n, i + 1, v, h => by
    have h1 : (mm_ar r)[i]? = some (some v) := by simpa [mm_ar] using h
    have := mm_ar_in ad sad r (n + 1) i v h1
    rw [show n + (i + 1) = n + 1 + i by omega]
    have hc : (mm_cv ad sad (.inr (.inr y))).category ≠ 2 := by
      rw [mm_cv_cat]
      simp [mm_cat]
    simp [lv_args, hc]
    exact Or.inr this
theorem mm_ini_lv (ad sad : Nat → Nat) (As : List mm_V) (nL : Nat) : ∀ q ∈ mm_lv ad sad (mm_ini nL As), q ∈ lv_args 0 (As.map (mm_cv ad sad)) := by
  intro q hq
  obtain ⟨v, h1, h2⟩ := mm_lv_mem.mp hq
  unfold mm_ini at h1
  have hl : (mm_ar As)[q.1]? = some (some v) := by
    by_cases hi : q.1 < (mm_ar As).length
    · rwa [List.getElem?_append_left hi] at h1
    · rw [List.getElem?_append_right (by omega)] at h1
      have := List.eq_of_mem_replicate (List.mem_of_getElem? h1)
      cases this
  have := mm_ar_in ad sad As 0 q.1 v hl
  rw [Nat.zero_add, ← h2] at this
  exact this
theorem mm_sp_e : ∀ (n : Nat) (acc st As rest : List mm_V), mm_sp n acc st = some (As, rest) → ∃ l : List mm_V, st = l ++ rest ∧ As = l.reverse ++ acc ∧ l.length = n
  | 0, acc, st, As, rest, h => by
    simp only [mm_sp, Option.some.injEq, Prod.mk.injEq] at h
    exact ⟨[], h.2, h.1.symm, rfl⟩
  | n + 1, acc, [], As, rest, h => by simp [mm_sp] at h
  | n + 1, acc, v :: r, As, rest, h => by
    obtain ⟨l, h1, h2, h3⟩ := mm_sp_e n (v :: acc) r As rest h
    refine ⟨v :: l, by rw [h1]; rfl, by rw [h2]; simp, by simp [h3]⟩
theorem mm_sp_st {n : Nat} {st As rest : List mm_V} (h : mm_sp n [] st = some (As, rest)) : st = As.reverse ++ rest ∧ As.length = n := by
  obtain ⟨l, h1, h2, h3⟩ := mm_sp_e n [] st As rest h
  rw [List.append_nil] at h2
  exact ⟨by rw [h1, h2, List.reverse_reverse], by rw [h2, List.length_reverse, h3]⟩
/-! cells -/
def mm_fv (ad : Nat → Nat) (x : Int32) : Option (Option Nat) → Value
  | none => .int x
  | some none => .null
  | some (some k) => .ref (ad k)
def mm_ce (ad : Nat → Nat) (ca : Nat → ClassId) (w : mm_W) (k : Nat) : mm_C → va_E
  | .inl (ci, fs) => .inr (ci, fs.mapIdx (fun j o => mm_fv ad (w.2.1 k j) o))
  | .inr (.inl (1, n)) => .inl (ca k, n, .inr (.inl (w.2.2 k)))
  | .inr (.inl (_, n)) => .inl (ca k, n, .inl (w.2.1 k))
  | .inr (.inr (_, n, b)) => .inl (ca k, n, .inr (.inr (.inr (.inr (fun i => if i < n then some (ad (b + i)) else none)))))
def mm_ws (ad : Nat → Nat) (ca : Nat → ClassId) (w : mm_W) : va_W := w.1.mapIdx (fun k c => (ad k, mm_ce ad ca w k c))
theorem mm_ws_at {ad : Nat → Nat} {ca : Nat → ClassId} {w : mm_W} {k : Nat} {c : mm_C} (h : w.1[k]? = some c) : (mm_ws ad ca w)[k]? = some (ad k, mm_ce ad ca w k c) := by
  unfold mm_ws
  rw [List.getElem?_mapIdx, h]
  rfl
theorem mm_ws_set {ad : Nat → Nat} {ca : Nat → ClassId} {w w' : mm_W} {k : Nat} {c c' : mm_C} {x : va_E} (hk : w.1[k]? = some c) (hl : w'.1 = w.1.set k c') (hx : mm_ce ad ca w' k c' = x) (ho : ∀ (j : Nat) (cj : mm_C), j ≠ k → mm_ce ad ca w' j cj = mm_ce ad ca w j cj) : (mm_ws ad ca w).set k (ad k, x) = mm_ws ad ca w' := by
  apply List.ext_getElem?
  intro j
  have hlt := (List.getElem?_eq_some_iff.mp hk).1
  unfold mm_ws
  rw [List.getElem?_mapIdx, hl]
  by_cases e : j = k
  · subst e
    rw [List.getElem?_set_self (by rw [List.length_mapIdx]; exact hlt), List.getElem?_set_self hlt]
    simp [hx]
  · rw [List.getElem?_set_ne (fun z => e z.symm), List.getElem?_set_ne (fun z => e z.symm), List.getElem?_mapIdx]
    cases w.1[j]? with
    | none => rfl
    | some cj => simp [ho j cj e]
def mm_ct (ca : Nat → ClassId) (tys : List (ClassId × FieldType)) (k : Nat) : mm_C → Prop
  | .inl _ => True
  | .inr (.inl (t, _)) => (ca k, mm_ty t) ∈ tys
  | .inr (.inr (t, _, _)) => (ca k, .array (mm_ty t)) ∈ tys
def mm_H (D : va_G) (B0 : Nat) (ad : Nat → Nat) (w : mm_W) (s : State) (H : Heap) : Prop := ∃ (ca : Nat → ClassId) (tys : List (ClassId × FieldType)), va_K D mm_cl tys s ∧ va_P D mm_cl (mm_ws ad ca w) H ∧ va_D (fun q => B0 ≤ q) (mm_ws ad ca w) ∧ ∀ (k : Nat) (c : mm_C), w.1[k]? = some c → mm_ct ca tys k c
theorem mm_H.moved {D : va_G} {B0 : Nat} {ad : Nat → Nat} {w : mm_W} {s U : State} {H : Heap} (hvm : s.vm.Alike U.vm) (h : mm_H D B0 ad w s H) : mm_H D B0 ad w U H := by
  obtain ⟨ca, tys, h1, h2, h3, h4⟩ := h
  exact ⟨ca, tys, h1.moved hvm, h2, h3, h4⟩
/-! what nobody writes: static rows, words that are carried -/
def mm_Tb (tb : mm_T) (sad : Nat → Nat) (B0 : Nat) (U : State) (H : Heap) (j : Nat) : Prop := match tb j with
  | (n, .inl f) => va_T .int (sad j) n (fun i => .int (f i)) (fun q => B0 ≤ q) U H
  | (n, .inr f) => va_T .long (sad j) n (fun i => .long (f i)) (fun q => B0 ≤ q) U H
def mm_Sx (tb : mm_T) (sad : Nat → Nat) (B0 : Nat) (U : State) (H : Heap) : Prop := (∀ j, mm_Tb tb sad B0 U H j) ∧ (∀ (j : Nat) (C n d : String), mm_sn j = some (C, n, d) → va_Z C n d (.ref (sad j)) (fun q => B0 ≤ q) U H) ∧ ∀ (p : Nat) (w : Cond), mm_az p w = true → va_Nw w U
theorem mm_AOA_moved {t : FieldType} {u U : State} (hvm : u.vm.Alike U.vm) (h : va_Nw (.arrayOver (.array t)) u) : va_Nw (.arrayOver (.array t)) U := by
  obtain ⟨comp, c, k, h1, h2, h3, h4, h5⟩ := arrayOverA_spec h
  obtain ⟨k', hk', he⟩ := hvm.2.2 _ _ h3
  have hb : U.vm.bare = u.vm.bare := by first | exact hvm.bare_eq.symm | exact hvm.bare_eq
  have hi := (va_idx_bare U.vm comp).symm.trans ((congrArg (fun v : Vm => v.classes.findIdx? _) hb).trans ((va_idx_bare u.vm comp).trans h2))
  have hkind : k'.kind = .array comp (.array t) := by rw [he]; exact h4
  have f1 : U.vm.findClass (FieldType.array t).toString = some comp := by rw [hvm.findClass]; exact h1
  have f2 : U.vm.findClass ("[" ++ (FieldType.array t).toString) = some c := by rw [hvm.findClass]; exact h5
  unfold va_Nw Cond.before Cond.holds
  simp only [Cond.value]
  rw [f1, Option.bind_some]
  refine (congrArg (fun o : Option Nat => (o.bind (fun c => (U.vm.classes[c]?).map fun (k : Class) => match k.kind with | .array _ ty => decide (ty = FieldType.array t) && decide (U.vm.findClass ("[" ++ (FieldType.array t).toString) = some c) | _ => false) == some true)) hi).trans ?_
  simp [hk', hkind, f2]
theorem mm_nz_moved {w : Cond} {s U : State} (hW : s.WarmedH U.vm) (hw : mm_nzk w = true) (h : va_Nw w s) : va_Nw w U := by
  unfold mm_nzk at hw
  split at hw
  · exact va_Nw.warmM hW h
  · exact va_Nw.warmD hW h
  · exact mm_AOA_moved hW.alike h
  · cases hw
theorem mm_Sx.moved {tb : mm_T} {sad : Nat → Nat} {B0 : Nat} {s U : State} {H : Heap} {locs : List Loc} (h : mm_Sx tb sad B0 s s.heap) (hS : va_S (fun q => B0 ≤ q) s.heap H locs) (hU : U.heap = H) (hW : s.WarmedH U.vm) : mm_Sx tb sad B0 U U.heap := by
  obtain ⟨h1, h2, h3⟩ := h
  have hk : ∀ a : Nat, a < s.heap.size → ¬ B0 ≤ a → U.heap[a]? = s.heap[a]? := fun a ha hb => by rw [hU]; exact hS.2.1 a ha hb
  refine ⟨fun j => ?_, fun j C n d hj => ((h2 j C n d hj).moved hW.alike).kept hk, fun p w hw => ?_⟩
  · have := h1 j
    unfold mm_Tb at this ⊢
    split
    · rename_i n f e
      rw [e] at this
      exact (va_T.moved hW.alike this).kept hk
    · rename_i n f e
      rw [e] at this
      exact (va_T.moved hW.alike this).kept hk
  · have hz : mm_nzk w = true := by
      simp only [mm_az, Bool.and_eq_true] at hw
      exact hw.2
    exact mm_nz_moved hW hz (h3 p w hw)
