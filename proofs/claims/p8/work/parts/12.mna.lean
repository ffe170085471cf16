/-! ===== BEGIN new T[n][m]: the outer array a place, the inner ones among the pooled ===== -/
/-- f, but v at every address of l -/
def vr_up {α : Type} (f : Nat → α) (l : List Nat) (v : α) : Nat → α := fun a => if a ∈ l then v else f a
theorem vr_up_in {α : Type} {f : Nat → α} {l : List Nat} {v : α} {a : Nat} (h : a ∈ l) : vr_up f l v a = v := if_pos h
theorem vr_up_ne {α : Type} {f : Nat → α} {l : List Nat} {v : α} {a : Nat} (h : a ∉ l) : vr_up f l v a = f a := if_neg h
theorem vr_rows {L l : List Nat} {f : Nat → va_E} {e : va_E} (h : ∀ a, a ∈ l → a ∉ L) : va_pl L f ++ l.map (fun a => (a, e)) = va_pl (L ++ l) (vr_up f l e) := by
  unfold va_pl
  rw [List.map_append]
  congr 1
  · apply List.map_congr_left
    intro a ha
    rw [vr_up_ne (fun q => h a q ha)]
  · apply List.map_congr_left
    intro a ha
    rw [vr_up_in ha]
theorem vr_lay {X rows : va_W} {x : Nat × va_E} {pl : va_W} {D : va_G} {cl : List vw_C} {H : Heap} (hP : va_P D cl (((X ++ pl) ++ [x]) ++ rows) H) : va_P D cl ((X ++ [x]) ++ (pl ++ rows)) H := by
  rw [List.append_assoc (X ++ pl)] at hP
  have h := va_P.swap hP
  rw [← List.append_assoc X] at h
  have h2 := va_P.swap h
  rw [List.append_assoc (X ++ [x])] at h2
  exact h2
theorem vr_layD {X rows : va_W} {x : Nat × va_E} {pl : va_W} {A : Nat → Prop} (hD : va_D A (((X ++ pl) ++ [x]) ++ rows)) : va_D A ((X ++ [x]) ++ (pl ++ rows)) := by
  rw [List.append_assoc (X ++ pl)] at hD
  have h := va_D.swap hD
  rw [← List.append_assoc X] at h
  have h2 := va_D.swap h
  rw [List.append_assoc (X ++ [x])] at h2
  exact h2
theorem vr_outer (c : ClassId) (N h0 : Nat) : ∀ i : Nat, Jvm.Free.Multi.outerC c N h0 i = arrV c N (fun j => va_rf (if j < i then some (h0 + 1 + j) else none))
  | 0 => by
    show ({ cls := c, slots := Array.replicate N .null, vm := .none } : Cell) = _
    rw [arrV_new]
    refine congrArg (arrV c N) (funext fun j => ?_)
    simp [va_rf]
  | i + 1 => by
    show (Jvm.Free.Multi.outerC c N h0 i).setSlot i (.ref (h0 + 1 + i)) = _
    rw [vr_outer c N h0 i, arrV_store]
    refine congrArg (arrV c N) (funext fun j => ?_)
    by_cases e : j = i
    · subst e
      simp [updV, va_rf]
    · by_cases h : j < i
      · simp [updV, e, h, Nat.lt_succ_of_lt h]
      · simp [updV, e, h, show ¬ j < i + 1 by omega]
section VGM
variable {p : Program} {l : Launch} {e : Env} {R : Room} {s : State} {m : MethodId} {args : Array Value} {below : List Frame} {meth : Method} {c : Code} {H : Heap} {locs : List Loc} {cells slots : Nat} {Q : State → Prop}
variable {cc : ByteArray} {pc : Nat} {ls : Array Slot} {rest : List Value} {D : va_G} {cl : List vw_C} {A : Nat → Prop} {a : Nat} {tys : List (ClassId × FieldType)} {ws : va_W} {H0 : Heap}
theorem va_mna {X : va_W} {L : List Nat} {f : Nat → va_E} {cc : ByteArray} (hexec : p.tables.exec = Jvm.exec) (hb : c.code = cc) {own : String} {index : Nat} {ty : FieldType} {cy : ClassId} (hown : s.vm.findClass own = some m.cls) (hclink : (Cond.classLink own index ("[" ++ (FieldType.array ty).toString)).before args s = true) (hover : va_Nw (.arrayOver (.array ty)) s) (harr : (Cond.arrayClass ty).before args s = true) (hcy : s.vm.findClass (FieldType.array ty).toString = some cy)
    (hK : va_K D cl tys s) (hP : va_P D cl (X ++ va_pl L f) H) (hD : va_D A (X ++ va_pl L f)) (hS : va_S A H0 H locs) (hA : ∀ q, H0.size ≤ q → A q) {n k : Int32} {N' K' : Nat} {z : vp_A} (hn : ¬ n < 0) (hk : ¬ k < 0) (hN : n.toNatClampNeg = N') (hM : k.toNatClampNeg = K')
    (hb1 : N' * 4 ≤ 536870912) (hb2 : K' * componentBytes ty ≤ 536870912) (hb3 : K' ≤ 536870912) (hdf : fits ty (defaultValue ty) = true) (hdd : (defaultValue ty).isDefault = true) (hcells : cells + (1 + N') ≤ R.cells) (hslots : slots + (N' + N' * K') ≤ R.slots) (hz : ∀ c : ClassId, Jvm.Free.Multi.innerC c K' (defaultValue ty) = vp_cell c z) (hdg : decode cc pc = .ok (.multianewarray index 2, 4))
    (kk : ∀ (q : Nat) (r : Nat → Nat) (cA : ClassId) (H1 : Heap), (∀ i j : Nat, i < N' → j < N' → r i = r j → i = j) → (∀ i : Nat, i < N' → r i ∉ L) → va_K D cl (tys ++ [(cA, .array ty)]) s →
      va_P D cl ((X ++ [(q, .inl (cA, N', .inr (.inr (.inr (.inr (fun i => if i < N' then some (r i) else none))))))]) ++ va_pl (L ++ (List.range N').map r) (vr_up f ((List.range N').map r) (.inl (cy, z)))) H1 → va_D A ((X ++ [(q, .inl (cA, N', .inr (.inr (.inr (.inr (fun i => if i < N' then some (r i) else none))))))]) ++ va_pl (L ++ (List.range N').map r) (vr_up f ((List.range N').map r) (.inl (cy, z)))) → va_S A H0 H1 locs →
      W p l e R s m args below meth c H1 locs (cells + 1 + N') (slots + N' + N' * K') Q (F0 m (pc + 4) ls (.ref q :: rest))) : W p l e R s m args below meth c H locs cells slots Q (F0 m pc ls (.int k :: .int n :: rest)) := by
  subst hN
  subst hM
  intro T hT Xs
  obtain ⟨vm₁, cA, comp, -, fA, fC, hO, -, X', step⟩ := Xs.multianewarray2F hexec hown hclink (show (Cond.arrayOver (.array ty)).before args s = true from hover) harr (g := F0 m pc ls (.int k :: .int n :: rest)) rfl (by rw [hb]; exact hdg) rfl hn hk hb1 hb2 hb3 hdf hdd hcells hslots
  have ec : some cy = some comp := hcy.symm.trans fC
  cases ec
  generalize hF : Jvm.Free.Multi.fill (T.setVm vm₁) cA cy n.toNatClampNeg k.toNatClampNeg (defaultValue ty) n.toNatClampNeg = F at X' step
  have hTh : (T.setVm vm₁).heap = H := hT
  obtain ⟨f1, f2, -, -⟩ := Jvm.Free.Multi.fill_facts (T.setVm vm₁) cA cy n.toNatClampNeg k.toNatClampNeg (defaultValue ty) n.toNatClampNeg
  rw [hF, hTh] at f1 f2
  have hold : ∀ x : Nat, x < H.size → F.heap[x]? = H[x]? := fun x hx => by
    have := Jvm.Free.Multi.fill_old (T.setVm vm₁) cA cy n.toNatClampNeg k.toNatClampNeg (defaultValue ty) (a := x) (by rw [hTh]; exact hx) n.toNatClampNeg
    rw [hF, hTh] at this
    exact this
  have hrow : ∀ j : Nat, j < n.toNatClampNeg → F.heap[H.size + 1 + j]? = some (vp_cell cy z) := fun j hj => by
    have := Jvm.Free.Multi.fill_inner (T.setVm vm₁) cA cy n.toNatClampNeg k.toNatClampNeg (defaultValue ty) n.toNatClampNeg j hj
    rw [hF, hTh, hz] at this
    exact this
  have hout : Jvm.Free.Multi.outerC cA n.toNatClampNeg H.size n.toNatClampNeg = vp_cell cA (n.toNatClampNeg, .inr (.inr (.inr (.inr (fun i => if i < n.toNatClampNeg then some (H.size + 1 + i) else none))))) := by
    rw [vp_cell_q]
    exact vr_outer cA n.toNatClampNeg H.size n.toNatClampNeg
  rw [hout] at f2
  have hlt : ∀ a, a ∈ L → a < H.size := fun a ha => by
    obtain ⟨k9, hk9⟩ := va_pl_get (X := X) (f := f) ha
    exact (hP k9 _ hk9).lt
  have hnl : ∀ i : Nat, i < n.toNatClampNeg → H.size + 1 + i ∉ L := fun i _ h => by
    have := hlt _ h
    omega
  have hnm : ∀ a, a ∈ (List.range n.toNatClampNeg).map (fun i => H.size + 1 + i) → a ∉ L := fun a ha h => by
    obtain ⟨i, -, rfl⟩ := List.mem_map.mp ha
    have := hlt _ h
    omega
  have hP0 : va_P D cl (X ++ va_pl L f) F.heap := hP.kept (fun k9 x hx => hold x.1 ((hP k9 x hx).lt))
  have hP1 : va_P D cl ((X ++ va_pl L f) ++ [(H.size, .inl (cA, n.toNatClampNeg, .inr (.inr (.inr (.inr (fun i => if i < n.toNatClampNeg then some (H.size + 1 + i) else none))))))]) F.heap := hP0.app (fun k9 x hx => by
    have h0 : k9 < 1 := (List.getElem?_eq_some_iff.mp hx).1
    rw [show k9 = 0 by omega] at hx
    cases hx
    exact f2)
  have hP2 : va_P D cl (((X ++ va_pl L f) ++ [(H.size, .inl (cA, n.toNatClampNeg, .inr (.inr (.inr (.inr (fun i => if i < n.toNatClampNeg then some (H.size + 1 + i) else none))))))]) ++ ((List.range n.toNatClampNeg).map (fun i => H.size + 1 + i)).map (fun a => (a, .inl (cy, z)))) F.heap := hP1.app (fun k9 x hx => by
    obtain ⟨a, ha, rfl⟩ := List.mem_map.mp (List.mem_of_getElem? hx)
    obtain ⟨i, hi, rfl⟩ := List.mem_map.mp ha
    exact hrow i (List.mem_range.mp hi))
  have hD2 : va_D A (((X ++ va_pl L f) ++ [(H.size, .inl (cA, n.toNatClampNeg, .inr (.inr (.inr (.inr (fun i => if i < n.toNatClampNeg then some (H.size + 1 + i) else none))))))]) ++ ((List.range n.toNatClampNeg).map (fun i => H.size + 1 + i)).map (fun a => (a, .inl (cy, z)))) := by
    have hD1 := hD.push (e := .inl (cA, n.toNatClampNeg, .inr (.inr (.inr (.inr (fun i => if i < n.toNatClampNeg then some (H.size + 1 + i) else none)))))) hP rfl (hA _ hS.1)
    generalize hW1 : (X ++ va_pl L f) ++ [(H.size, .inl (cA, n.toNatClampNeg, .inr (.inr (.inr (.inr (fun i => if i < n.toNatClampNeg then some (H.size + 1 + i) else none))))))] = W1 at hD1 hP1 ⊢
    have hle : ∀ (k9 : Nat) (x : Nat × va_E), W1[k9]? = some x → x.1 ≤ H.size := fun k9 x hx => by
      rw [← hW1] at hx
      by_cases hl : k9 < (X ++ va_pl L f).length
      · rw [List.getElem?_append_left hl] at hx
        exact Nat.le_of_lt ((hP k9 x hx).lt)
      · rw [List.getElem?_append_right (by omega)] at hx
        have h0 : k9 - (X ++ va_pl L f).length < 1 := (List.getElem?_eq_some_iff.mp hx).1
        rw [show k9 - (X ++ va_pl L f).length = 0 by omega] at hx
        cases hx
        exact Nat.le_refl _
    have hr : ∀ (k9 : Nat) (x : Nat × va_E), (((List.range n.toNatClampNeg).map (fun i => H.size + 1 + i)).map (fun a => ((a, .inl (cy, z)) : Nat × va_E)))[k9]? = some x → x.1 = H.size + 1 + k9 := fun k9 x hx => by
      rw [List.getElem?_map, List.getElem?_map] at hx
      by_cases h9 : k9 < n.toNatClampNeg
      · rw [List.getElem?_range h9] at hx
        cases hx
        rfl
      · have hn0 : (List.range n.toNatClampNeg)[k9]? = none := List.getElem?_eq_none (by rw [List.length_range]; omega)
        rw [hn0] at hx
        cases hx
    refine ⟨fun i j x y hi hj hxy => ?_, fun k9 x hx => ?_⟩
    · by_cases h1 : i < W1.length <;> by_cases h2 : j < W1.length
      · rw [List.getElem?_append_left h1] at hi
        rw [List.getElem?_append_left h2] at hj
        exact hD1.1 i j x y hi hj hxy
      · rw [List.getElem?_append_left h1] at hi
        rw [List.getElem?_append_right (by omega)] at hj
        have := hle _ _ hi
        have := hr _ _ hj
        omega
      · rw [List.getElem?_append_right (by omega)] at hi
        rw [List.getElem?_append_left h2] at hj
        have := hle _ _ hj
        have := hr _ _ hi
        omega
      · rw [List.getElem?_append_right (by omega)] at hi hj
        have := hr _ _ hi
        have := hr _ _ hj
        omega
    · by_cases h1 : k9 < W1.length
      · rw [List.getElem?_append_left h1] at hx
        exact hD1.2 k9 x hx
      · rw [List.getElem?_append_right (by omega)] at hx
        have := hr _ _ hx
        exact hA _ (by have := hS.1; omega)
  have hAr : ArrOfT s cA (.array ty) := fun N9 z9 => by
    obtain ⟨-, k9, hk9, cm9, hkk9⟩ := (hO 0 0 0).1
    exact ⟨(fun q hq => by cases hq), k9, hk9, cm9, hkk9⟩
  have hK2 : va_K D cl (tys ++ [(cA, .array ty)]) s := ⟨hK.1, fun k9 x hx => by
    by_cases hl : k9 < tys.length
    · rw [List.getElem?_append_left hl] at hx
      exact hK.2 k9 x hx
    · rw [List.getElem?_append_right (by omega)] at hx
      have h0 : k9 - tys.length < 1 := (List.getElem?_eq_some_iff.mp hx).1
      rw [show k9 - tys.length = 0 by omega] at hx
      cases hx
      exact ⟨hAr, fA⟩⟩
  obtain ⟨t, a1, b1⟩ := kk H.size (fun i => H.size + 1 + i) cA F.heap (fun i j _ _ h => by have h9 : H.size + 1 + i = H.size + 1 + j := h; omega) hnl hK2 (by rw [← vr_rows hnm]; exact vr_lay hP2) (by rw [← vr_rows hnm]; exact vr_layD hD2) ⟨by rw [f1]; have := hS.1; omega, fun x h1 h2 => (hold x (Nat.lt_of_lt_of_le h1 hS.1)).trans (hS.2.1 x h1 h2), hS.2.2⟩ F rfl X'
  refine ⟨t, step t ?_, b1⟩
  have e : T.heap.size = H.size := by rw [hT]
  rw [e]
  exact a1
end VGM
/-! ===== END ===== -/
theorem mm_mna_ok : mm_mnaA := by
  intro p l e R s m args below meth c Qf D B0 sad n0 ad0 lim nL y bytes tb hx hb hown hts hSx hB
  intro pc idx t p0 p1 p2 a axr ad H locs cells slots la ls st w K hd h0 h1 h2 ht2 hg O hk
  have O' := O
  obtain ⟨o1, o2, o3, o4, hH, hS, oL, o8, o9⟩ := O
  obtain ⟨ca, tys, hK, hP, hD, hct⟩ := hH
  unfold mm_nmu at hg
  split at hg
  · rename_i x1 x2 t1 n b2 k r2 yy xx q0 e1
    cases e1
    obtain ⟨hxn, hyn, hn, hkk, hck, hrm, hKv⟩ := hg
    subst hxn
    subst hyn
    obtain ⟨c1, c2, c3⟩ := mm_chk_e hck
    have r1 := hrm.1
    have r2' := hrm.2
    have hn31 : a < 2 ^ 31 := by omega
    have hk31 : k < 2 ^ 31 := by omega
    have hcb : componentBytes (mm_ty t) ≤ 8 := by
      unfold mm_ty
      split <;> decide
    have hbytes : k * componentBytes (mm_ty t) ≤ 536870912 := by
      have := Nat.mul_le_mul (Nat.le_of_lt hkk) hcb
      omega
    generalize hw' : ((w.1 ++ .inr (.inr (t, a, w.1.length + 1)) :: List.replicate a (.inr (.inl (t, k))), mm_z w.2.1 w.1.length (1 + a), mm_z w.2.2 w.1.length (1 + a)) : mm_W) = w' at hKv
    have e1 : w'.1 = w.1 ++ .inr (.inr (t, a, w.1.length + 1)) :: List.replicate a (.inr (.inl (t, k))) := by rw [← hw']
    have e2 : w'.2.1 = mm_z w.2.1 w.1.length (1 + a) := by rw [← hw']
    have e3 : w'.2.2 = mm_z w.2.2 w.1.length (1 + a) := by rw [← hw']
    have hdf : fits (mm_ty t) (defaultValue (mm_ty t)) = true ∧ (defaultValue (mm_ty t)).isDefault = true := by
      unfold mm_ty
      split <;> decide
    obtain ⟨cy, ky, compy, hc1, hc2, hc3⟩ := Cond.arrayClass_spec (hts _ (mm_at_in h1))
    have hcy : s.vm.findClass (FieldType.array (mm_ty t)).toString = some cy := hc1
    have ha0 : ∃ a0 : vp_A, (∀ c : ClassId, Jvm.Free.Multi.innerC c k (defaultValue (mm_ty t)) = vp_cell c a0) ∧ ∀ (ad9 : Nat → Nat) (ca9 : Nat → ClassId) (j : Nat), w.1.length ≤ j → j < w.1.length + (1 + a) → mm_ce ad9 ca9 w' j (.inr (.inl (t, k))) = .inl (ca9 j, a0) := by
      have ht01 : t = 0 ∨ t = 1 := by omega
      rcases ht01 with rfl | rfl
      · refine ⟨(k, .inl (fun _ => 0)), fun cA => arrV_new cA k (.int 0), fun ad9 ca9 j j1 j2 => ?_⟩
        show Sum.inl (ca9 j, k, Sum.inl (w'.2.1 j)) = _
        rw [e2, mm_z_new j1 j2]
      · refine ⟨(k, .inr (.inl (fun _ => 0))), fun cA => arrV_new cA k (.long 0), fun ad9 ca9 j j1 j2 => ?_⟩
        show Sum.inl (ca9 j, k, Sum.inr (Sum.inl (w'.2.2 j))) = _
        rw [e3, mm_z_new j1 j2]
    obtain ⟨a0, ha0, hce⟩ := ha0
    refine va_mna (X := mm_ws ad ca w) (L := []) (f := fun _ => .inr (0, [])) (D := D) (z := a0) hx hb hown (hts _ (mm_at_in h0)) (hSx.2.2 p2 _ h2) (hts _ (mm_at_in h1)) hcy hK (by simpa [va_pl] using hP) (by simpa [va_pl] using hD) hS (mm_hb hB) (nI_pos hn31) (nI_pos hk31) (nI_clamp hn31) (nI_clamp hk31) (by omega) hbytes (by omega) hdf.1 hdf.2 (by omega) (by omega) ha0 hd (fun q r cA H1 hinj hnl hK1 hP1 hD1 hS1 => ?_)
    generalize had' : (fun j => if j = w.1.length then q else if w.1.length < j ∧ j < w.1.length + 1 + a then r (j - w.1.length - 1) else ad j) = ad'
    generalize hca' : (fun j => if j = w.1.length then cA else if w.1.length < j then cy else ca j) = ca'
    have g0 : ad' w.1.length = q := by rw [← had']; simp
    have g1 : ∀ i, i < a → ad' (w.1.length + 1 + i) = r i := fun i hi => by
      rw [← had']
      show (if w.1.length + 1 + i = w.1.length then q else if w.1.length < w.1.length + 1 + i ∧ w.1.length + 1 + i < w.1.length + 1 + a then r (w.1.length + 1 + i - w.1.length - 1) else ad (w.1.length + 1 + i)) = r i
      rw [if_neg (by omega), if_pos (by omega), show w.1.length + 1 + i - w.1.length - 1 = i by omega]
    have had : ∀ j, j < w.1.length ∨ w.1.length + (1 + a) ≤ j → ad' j = ad j := fun j hj => by
      rw [← had']
      show (if j = w.1.length then q else if w.1.length < j ∧ j < w.1.length + 1 + a then r (j - w.1.length - 1) else ad j) = ad j
      rw [if_neg (by omega), if_neg (by omega)]
    have hold : ∀ j, j < w.1.length → ad' j = ad j := fun j hj => had j (Or.inl hj)
    have k0 : ca' w.1.length = cA := by rw [← hca']; simp
    have k1 : ∀ i, ca' (w.1.length + 1 + i) = cy := fun i => by
      rw [← hca']
      show (if w.1.length + 1 + i = w.1.length then cA else if w.1.length < w.1.length + 1 + i then cy else ca (w.1.length + 1 + i)) = cy
      rw [if_neg (by omega), if_pos (by omega)]
    have hcold : ∀ j, j < w.1.length → ca' j = ca j := fun j hj => by
      rw [← hca']
      show (if j = w.1.length then cA else if w.1.length < j then cy else ca j) = ca j
      rw [if_neg (by omega), if_neg (by omega)]
    have hws : mm_ws ad' ca' w' = (mm_ws ad ca w ++ [(q, .inl (cA, a, .inr (.inr (.inr (.inr (fun i => if i < a then some (r i) else none))))))]) ++ va_pl ([] ++ (List.range a).map r) (vr_up (fun _ => .inr (0, [])) ((List.range a).map r) (.inl (cy, a0))) := by
      have hpl : va_pl ([] ++ (List.range a).map r) (vr_up (fun _ => .inr (0, [])) ((List.range a).map r) (.inl (cy, a0))) = (List.range a).map (fun i => (r i, .inl (cy, a0))) := by
        unfold va_pl
        rw [List.nil_append, List.map_map]
        apply List.map_congr_left
        intro i hi
        refine Prod.ext rfl ?_
        show vr_up (fun _ => Sum.inr (0, [])) ((List.range a).map r) (Sum.inl (cy, a0)) (r i) = _
        rw [vr_up_in (List.mem_map.mpr ⟨i, hi, rfl⟩)]
      rw [hpl, mm_ws_app e1 (ad := ad) (ca := ca), List.append_assoc]
      · congr 1
        rw [List.mapIdx_cons]
        show _ :: _ = _ :: _
        congr 1
        · rw [Nat.zero_add, g0]
          congr 1
          show Sum.inl (ca' w.1.length, a, Sum.inr (Sum.inr (Sum.inr (Sum.inr (fun i => if i < a then some (ad' (w.1.length + 1 + i)) else none))))) = _
          rw [k0]
          have hf : (fun i => if i < a then some (ad' (w.1.length + 1 + i)) else none) = (fun i => if i < a then some (r i) else none) := by
            funext i
            by_cases h : i < a
            · rw [if_pos h, if_pos h, g1 i h]
            · rw [if_neg h, if_neg h]
          rw [hf]
        · apply List.ext_getElem?
          intro i
          show (List.mapIdx _ (List.replicate a (Sum.inr (Sum.inl (t, k)))))[i]? = ((List.range a).map (fun i => (r i, Sum.inl (cy, a0))))[i]?
          rw [List.getElem?_mapIdx, List.getElem?_map, List.getElem?_replicate]
          by_cases hi : i < a
          · rw [if_pos hi, List.getElem?_range hi]
            have e9 : i + 1 + w.1.length = w.1.length + 1 + i := by omega
            show some (ad' (i + 1 + w.1.length), mm_ce ad' ca' w' (i + 1 + w.1.length) (.inr (.inl (t, k)))) = some (r i, .inl (cy, a0))
            rw [e9, g1 i hi, hce ad' ca' _ (by omega) (by omega), k1]
          · rw [if_neg hi, List.getElem?_eq_none (by rw [List.length_range]; omega)]
            rfl
      · intro j cj hj
        obtain ⟨j1, j2⟩ := mm_lo_at c3 hj
        exact Prod.ext (hold j j2) (mm_ce_old j1 hold (hcold j j2) ((congrFun e2 j).trans (mm_z_old j2)) ((congrFun e3 j).trans (mm_z_old j2)))
    have hK2 : va_K D mm_cl (tys ++ [(cA, .array (mm_ty t))] ++ [(cy, mm_ty t)]) s := hK1.app ⟨hK.1, fun j x hx => by
      have h0 : j < 1 := (List.getElem?_eq_some_iff.mp hx).1
      rw [show j = 0 by omega] at hx
      cases hx
      refine ⟨fun N z => ⟨(fun q hq => by cases hq), ky, hc2, compy, hc3⟩, ?_⟩
      have ht01 : t = 0 ∨ t = 1 := by omega
      rcases ht01 with rfl | rfl
      · exact hc1
      · exact hc1⟩
    have hres := hk (mm_R w.1.length) q0 w' ad' H1 (cells + (1 + a)) (slots + (a + a * k)) hKv (O'.al (by rw [e1]; simp; omega) (by
      rw [e1, mm_sl_app]
      congr 1
      simp [mm_sl, mm_c1, List.map_replicate]) hrm had ⟨ca', _, hK2, by rw [hws]; exact hP1, by rw [hws]; exact hD1, fun j cj hj => by
        rw [e1] at hj
        by_cases hl : j < w.1.length
        · rw [List.getElem?_append_left hl] at hj
          have h9 := hct j cj hj
          unfold mm_ct at h9 ⊢
          split
          · trivial
          · dsimp only at h9
            rw [hcold j hl]
            exact List.mem_append_left _ (List.mem_append_left _ h9)
          · dsimp only at h9
            rw [hcold j hl]
            exact List.mem_append_left _ (List.mem_append_left _ h9)
        · rw [List.getElem?_append_right (by omega)] at hj
          cases hz : j - w.1.length with
          | zero =>
            rw [hz] at hj
            cases hj
            show (ca' j, FieldType.array (mm_ty t)) ∈ _
            rw [show j = w.1.length by omega, k0]
            exact List.mem_append_left _ (List.mem_append_right _ List.mem_cons_self)
          | succ i =>
            rw [hz, List.getElem?_cons_succ, List.getElem?_replicate] at hj
            split at hj
            · cases hj
              show (ca' j, mm_ty t) ∈ _
              rw [show j = w.1.length + 1 + i by omega, k1]
              exact List.mem_append_right _ List.mem_cons_self
            · cases hj⟩ hS1 c1)
    rw [List.map_cons, mm_st_old c2 hold] at hres
    have hq : mm_cv ad' sad (mm_R w.1.length) = .ref q := by simp [mm_cv, g0]
    rw [hq] at hres
    have ec : cells + (1 + a) = cells + 1 + a := by omega
    have es : slots + (a + a * k) = slots + a + a * k := by omega
    rw [ec, es] at hres
    exact hres
  · exact hg.elim
