/-! ===== an evaluator of the abstract machine: cells as a list, ints and longs as rows of entries ===== -/
abbrev mm_X : Type := List mm_C × List (Nat × Nat × Int32) × List (Nat × Nat × Int64)
abbrev mm_Z : Type := Option mm_V × mm_X
def mm_find {α : Type} : List (Nat × Nat × α) → Nat → Nat → Option α
  | [], _, _ => none
  | (a, b, x) :: r, k, i => match Nat.beq k a, Nat.beq i b with
    | true, true => some x
    | _, _ => mm_find r k i
/-- what lies over B -/
def mm_gb {α : Type} (B : Nat → Nat → α) (es : List (Nat × Nat × α)) (a b : Nat) : α := match mm_find es a b with
  | some x => x
  | none => B a b
/-- what is known: entries, and zeros in cells of kz -/
def mm_gx {α : Type} [OfNat α 0] (kz : Nat → Bool) (es : List (Nat × Nat × α)) (a b : Nat) : Option α := match mm_find es a b with
  | some x => some x
  | none => match kz a with
    | true => some 0
    | false => none
abbrev mm_B : Type := (Nat → Nat → Int32) × (Nat → Nat → Int64)
def mm_sem (B : mm_B) (X : mm_X) : mm_W := (X.1, mm_gb B.1 X.2.1, mm_gb B.2 X.2.2)
def mm_iv {α : Type} [OfNat α 0] (kz : Nat → Bool) (B : Nat → Nat → α) (es : List (Nat × Nat × α)) : Prop := ∀ a b, kz a = true → mm_find es a b = none → B a b = 0
def mm_jv (kz : Nat → Bool) (B : mm_B) (X : mm_X) : Prop := mm_iv kz B.1 X.2.1 ∧ mm_iv kz B.2 X.2.2
theorem mm_gx_s {α : Type} [OfNat α 0] {kz : Nat → Bool} {B : Nat → Nat → α} {es : List (Nat × Nat × α)} {a b : Nat} {x : α} (hI : mm_iv kz B es) (h : mm_gx kz es a b = some x) : mm_gb B es a b = x := by
  unfold mm_gx at h
  split at h
  · rename_i q
    unfold mm_gb
    rw [q]
    cases h
    rfl
  · rename_i q
    unfold mm_gb
    rw [q]
    split at h
    · rename_i q2
      cases h
      exact hI a b q2 q
    · cases h
theorem mm_find_u {α : Type} (es : List (Nat × Nat × α)) (k i : Nat) (x : α) (a b : Nat) : mm_find ((k, i, x) :: es) a b = if a = k then (if b = i then some x else mm_find es a b) else mm_find es a b := by
  show (match Nat.beq a k, Nat.beq b i with | true, true => some x | _, _ => mm_find es a b) = _
  cases h1 : Nat.beq a k with
  | false => rw [if_neg (Nat.ne_of_beq_eq_false h1)]
  | true =>
    rw [if_pos (Nat.eq_of_beq_eq_true h1)]
    cases h2 : Nat.beq b i with
    | false => rw [if_neg (Nat.ne_of_beq_eq_false h2)]
    | true => rw [if_pos (Nat.eq_of_beq_eq_true h2)]
theorem mm_gb_u {α : Type} (B : Nat → Nat → α) (es : List (Nat × Nat × α)) (k i : Nat) (x : α) : mm_gb B ((k, i, x) :: es) = mm_u (mm_gb B es) k i x := by
  funext a b
  unfold mm_gb mm_u
  rw [mm_find_u]
  by_cases h1 : a = k
  · rw [if_pos h1, if_pos h1]
    by_cases h2 : b = i
    · rw [if_pos h2, if_pos h2]
    · rw [if_neg h2, if_neg h2]
  · rw [if_neg h1, if_neg h1]
theorem mm_iv_u {α : Type} [OfNat α 0] {kz : Nat → Bool} {B : Nat → Nat → α} {es : List (Nat × Nat × α)} (hI : mm_iv kz B es) (k i : Nat) (x : α) : mm_iv kz B ((k, i, x) :: es) := by
  intro a b h1 h2
  rw [mm_find_u] at h2
  split at h2
  · split at h2
    · cases h2
    · exact hI a b h1 h2
  · exact hI a b h1 h2
def mm_zb {α : Type} (es : List (Nat × Nat × α)) (lo : Nat) : Bool := es.all (fun e => Nat.blt e.1 lo)
theorem mm_find_0 {α : Type} {lo : Nat} : ∀ {es : List (Nat × Nat × α)}, mm_zb es lo = true → ∀ a b, lo ≤ a → mm_find es a b = none
  | [], _, _, _, _ => rfl
  | (k, i, x) :: r, h, a, b, hl => by
    simp only [mm_zb, List.all_cons, Bool.and_eq_true] at h
    have hk : k < lo := Nat.le_of_ble_eq_true h.1
    rw [mm_find_u, if_neg (by omega)]
    exact mm_find_0 (es := r) h.2 a b hl
theorem mm_gb_z {α : Type} [OfNat α 0] {B : Nat → Nat → α} {es : List (Nat × Nat × α)} {lo n : Nat} (hB : B = fun _ _ => 0) (h : mm_zb es lo = true) : mm_z (mm_gb B es) lo n = mm_gb B es := by
  funext a b
  unfold mm_z
  split
  · rename_i q
    unfold mm_gb
    rw [mm_find_0 h a b q.1, hB]
  · rfl
/-! forcing -/
noncomputable def mm_fl {α β : Type} (l : List α) (k : List α → β) : β := List.rec (motive := fun _ => (List α → β) → β) (fun k => k []) (fun a _ ih k => ih (fun r => k (a :: r))) l k
theorem mm_fl_e {α β : Type} : ∀ (l : List α) (k : List α → β), mm_fl l k = k l
  | [], _ => rfl
  | a :: r, k => mm_fl_e r (fun q => k (a :: q))
noncomputable def mm_fn {β : Type} (n : Nat) (k : Nat → β) : β := Nat.rec (motive := fun _ => β) (k 0) (fun m _ => k (m + 1)) n
theorem mm_fn_e {β : Type} (n : Nat) (k : Nat → β) : mm_fn n k = k n := by cases n <;> rfl
noncomputable def mm_fc {β : Type} (x : Int32) (k : Int32 → β) : β := Nat.rec (motive := fun _ => β) (k (Int32.ofBitVec (BitVec.ofNat 32 0))) (fun m _ => k (Int32.ofBitVec (BitVec.ofNat 32 (m + 1)))) x.toBitVec.toNat
theorem mm_fc_e {β : Type} (x : Int32) (k : Int32 → β) : mm_fc x k = k x := by
  have h : mm_fc x k = k (Int32.ofBitVec (BitVec.ofNat 32 x.toBitVec.toNat)) := by
    unfold mm_fc
    cases x.toBitVec.toNat <;> rfl
  rw [h]
  congr 1
  simp
noncomputable def mm_fd {β : Type} (x : Int64) (k : Int64 → β) : β := Nat.rec (motive := fun _ => β) (k (Int64.ofBitVec (BitVec.ofNat 64 0))) (fun m _ => k (Int64.ofBitVec (BitVec.ofNat 64 (m + 1)))) x.toBitVec.toNat
theorem mm_fd_e {β : Type} (x : Int64) (k : Int64 → β) : mm_fd x k = k x := by
  have h : mm_fd x k = k (Int64.ofBitVec (BitVec.ofNat 64 x.toBitVec.toNat)) := by
    unfold mm_fd
    cases x.toBitVec.toNat <;> rfl
  rw [h]
  congr 1
  simp
/-! comparing -/
def mm_qb (x y : Int32) : Bool := Nat.beq x.toBitVec.toNat y.toBitVec.toNat
def mm_lb (x y : Int32) : Bool := Nat.blt ((x.toBitVec.toNat + 2147483648) % 4294967296) ((y.toBitVec.toNat + 2147483648) % 4294967296)
def mm_inb (i : Int32) (n : Nat) : Bool := match Nat.blt i.toBitVec.toNat n with
  | true => Nat.blt i.toBitVec.toNat 2147483648
  | false => false
theorem mm_qb_t {x y : Int32} (h : mm_qb x y = true) : x = y := Int32.toBitVec_inj.mp (BitVec.eq_of_toNat_eq (Nat.eq_of_beq_eq_true h))
theorem mm_qb_f {x y : Int32} (h : mm_qb x y = false) : ¬ x = y := fun e => by
  subst e
  unfold mm_qb at h
  rw [Nat.beq_refl] at h
  cases h
theorem mm_ti (x : Int32) : x.toInt = if 2 * x.toBitVec.toNat < 4294967296 then (x.toBitVec.toNat : Int) else (x.toBitVec.toNat : Int) - 4294967296 := BitVec.toInt_eq_toNat_cond x.toBitVec
theorem mm_lb_iff {x y : Int32} : mm_lb x y = true ↔ x < y := by
  rw [Int32.lt_iff_toInt_lt, mm_ti, mm_ti]
  have hx := x.toBitVec.isLt
  have hy := y.toBitVec.isLt
  unfold mm_lb
  constructor
  · intro h
    have h1 : (x.toBitVec.toNat + 2147483648) % 4294967296 < (y.toBitVec.toNat + 2147483648) % 4294967296 := Nat.le_of_ble_eq_true h
    split <;> split <;> omega
  · intro h
    refine Nat.ble_eq_true_of_le (show (x.toBitVec.toNat + 2147483648) % 4294967296 < (y.toBitVec.toNat + 2147483648) % 4294967296 from ?_)
    split at h <;> split at h <;> omega
theorem mm_lb_t {x y : Int32} (h : mm_lb x y = true) : x < y := mm_lb_iff.mp h
theorem mm_lb_f {x y : Int32} (h : mm_lb x y = false) : ¬ x < y := fun e => by
  rw [mm_lb_iff.mpr e] at h
  cases h
theorem mm_lb_g {x y : Int32} (h : mm_lb x y = false) : y ≤ x := by
  have := mm_lb_f h
  rw [Int32.lt_iff_toInt_lt] at this
  rw [Int32.le_iff_toInt_le]
  omega
theorem mm_lb_n {x y : Int32} (h : mm_lb x y = true) : ¬ y ≤ x := by
  have := mm_lb_t h
  rw [Int32.lt_iff_toInt_lt] at this
  rw [Int32.le_iff_toInt_le]
  omega
theorem mm_inb_t {i : Int32} {n : Nat} (h : mm_inb i n = true) : vp_in i n ∧ i.toNatClampNeg = i.toBitVec.toNat := by
  unfold mm_inb at h
  split at h
  · rename_i h1
    have h2 : i.toBitVec.toNat < n := Nat.le_of_ble_eq_true h1
    have h3 : i.toBitVec.toNat < 2147483648 := Nat.le_of_ble_eq_true h
    have h4 : i.toInt = (i.toBitVec.toNat : Int) := by rw [mm_ti, if_pos (by omega)]
    refine ⟨vp_in_iff.mpr (by omega), ?_⟩
    show i.toInt.toNat = _
    rw [h4]
    rfl
  · cases h
/-! ops -/
section MME
variable {ρ : Type} (kz : Nat → Bool)
def mm_eoI (o : Option mm_V) (k : Int32 → Option ρ) : Option ρ := match o with
  | some (.inl x) => k x
  | _ => none
def mm_eoL (o : Option mm_V) (k : Int64 → Option ρ) : Option ρ := match o with
  | some (.inr (.inl x)) => k x
  | _ => none
def mm_eoA (o : Option mm_V) (k : mm_V → Option ρ) : Option ρ := match o with
  | some (.inr (.inr v)) => k (.inr (.inr v))
  | _ => none
def mm_e1i (st : List mm_V) (k : Int32 → List mm_V → Option ρ) : Option ρ := match st with
  | .inl x :: r => k x r
  | _ => none
def mm_e1l (st : List mm_V) (k : Int64 → List mm_V → Option ρ) : Option ρ := match st with
  | .inr (.inl x) :: r => k x r
  | _ => none
def mm_e1c (st : List mm_V) (k : mm_V → List mm_V → Option ρ) : Option ρ := match st with
  | .inl x :: r => k (.inl x) r
  | .inr (.inr v) :: r => k (.inr (.inr v)) r
  | _ => none
def mm_e1r (st : List mm_V) (k : Nat → List mm_V → Option ρ) : Option ρ := match st with
  | .inr (.inr (.inl x)) :: r => k x r
  | _ => none
def mm_e2i (st : List mm_V) (k : Int32 → Int32 → List mm_V → Option ρ) : Option ρ := match st with
  | .inl y :: .inl x :: r => k x y r
  | _ => none
def mm_e2l (st : List mm_V) (k : Int64 → Int64 → List mm_V → Option ρ) : Option ρ := match st with
  | .inr (.inl y) :: .inr (.inl x) :: r => k x y r
  | _ => none
def mm_et1 (ax : List (Nat × Nat)) (k : Nat → Option ρ) : Option ρ := match ax with
  | (_, t) :: _ => k t
  | _ => none
def mm_sel (b : Bool) (p q : Option ρ) : Option ρ := match b with
  | true => p
  | false => q
def mm_eif (c : Jvm.ClassFile.Cond) (x : Int32) (a b : Option ρ) : Option ρ := match c with
  | .eq => mm_sel (mm_qb x 0) a b
  | .ne => mm_sel (mm_qb x 0) b a
  | .lt => mm_sel (mm_lb x 0) a b
  | .ge => mm_sel (mm_lb x 0) b a
  | .gt => mm_sel (mm_lb 0 x) a b
  | .le => mm_sel (mm_lb 0 x) b a
def mm_eic (c : Jvm.ClassFile.Cond) (x y : Int32) (a b : Option ρ) : Option ρ := match c with
  | .eq => mm_sel (mm_qb x y) a b
  | .ne => mm_sel (mm_qb x y) b a
  | .lt => mm_sel (mm_lb x y) a b
  | .ge => mm_sel (mm_lb x y) b a
  | .gt => mm_sel (mm_lb y x) a b
  | .le => mm_sel (mm_lb y x) b a
def mm_esn (x : Int32) : List (Nat × Nat) → Bool
  | [] => true
  | (a, _) :: r => match mm_qb x (nI a) with
    | true => false
    | false => mm_esn x r
def mm_esw (x : Int32) (k : Nat → Option ρ) (d : Nat) : List (Nat × Nat) → Option ρ
  | [] => k d
  | (a, t) :: r => match mm_qb x (nI a) with
    | true => (match mm_esn x r with | true => k t | false => none)
    | false => mm_esw x k d r
def mm_ecas (x : Int32) (k : Nat → Option ρ) (ax : List (Nat × Nat)) : Option ρ := match ax with
  | (_, d) :: ts => mm_esw x k d ts
  | _ => none
noncomputable def mm_egf (X : mm_X) (ax : List (Nat × Nat)) (r : Nat) (k : mm_V → Option ρ) : Option ρ := match X.1[r]? with
  | some (.inl (ci, fs)) => (match mm_fi ax ci with
    | some j => (match fs[j]? with
      | some none => (match mm_gx kz X.2.1 r j with
        | some x => mm_fc x (fun x => k (mm_I x))
        | none => none)
      | some (some none) => k mm_N
      | some (some (some a)) => k (mm_R a)
      | none => none)
    | none => none)
  | _ => none
noncomputable def mm_epf (fl : Bool) (X : mm_X) (ax : List (Nat × Nat)) (g r : Nat) (v : mm_V) (k : mm_X → Option ρ) : Option ρ := match X.1[r]? with
  | some (.inl (ci, fs)) => (match mm_fi ax ci with
    | some j => (match g, fs[j]?, v with
      | 0, some none, .inl x => k (X.1, (r, j, x) :: X.2.1, X.2.2)
      | 1, some (some _), .inr (.inr (.inl a)) => (match fl with
        | true => mm_fl (fs.set j (some (some a))) (fun fs' => mm_fl (X.1.set r (.inl (ci, fs'))) (fun l => k (l, X.2.1, X.2.2)))
        | false => none)
      | _, _, _ => none)
    | none => none)
  | _ => none
noncomputable def mm_eal (X : mm_X) (t r : Nat) (i : Int32) (k : Nat → Option ρ) : Option ρ := match X.1[r]? with
  | some (.inr (.inl (t', n))) => (match Nat.beq t' t, mm_inb i n with
    | true, true => mm_fn i.toBitVec.toNat k
    | _, _ => none)
  | _ => none
/-- the class's own tables -/
def mm_tbe (j : Nat) : Option (Nat × ((Nat → Int32) ⊕ (Nat → Int64))) := match j with
  | 1 => some (5, .inr (fun i => mm_rooms.getD i 0))
  | 2 => some (15, .inl (fun i => mm_wants.getD i 0))
  | 3 => some (15, .inl (fun i => mm_parts.getD i 0))
  | _ => none
noncomputable def mm_eild (X : mm_X) (st : List mm_V) (k : Int32 → List mm_V → Option ρ) : Option ρ := match st with
  | .inl i :: .inr (.inr (.inl r)) :: s => mm_eal X 0 r i (fun j => match mm_gx kz X.2.1 r j with
    | some x => mm_fc x (fun x => k x s)
    | none => none)
  | .inl i :: .inr (.inr (.inr (.inl j))) :: s => (match mm_tbe j with
    | some (n, .inl f) => (match mm_inb i n with
      | true => mm_fc (f i.toBitVec.toNat) (fun x => k x s)
      | false => none)
    | _ => none)
  | _ => none
noncomputable def mm_elld (X : mm_X) (st : List mm_V) (k : Int64 → List mm_V → Option ρ) : Option ρ := match st with
  | .inl i :: .inr (.inr (.inl r)) :: s => mm_eal X 1 r i (fun j => match mm_gx kz X.2.2 r j with
    | some x => mm_fd x (fun x => k x s)
    | none => none)
  | .inl i :: .inr (.inr (.inr (.inl j))) :: s => (match mm_tbe j with
    | some (n, .inr f) => (match mm_inb i n with
      | true => mm_fd (f i.toBitVec.toNat) (fun x => k x s)
      | false => none)
    | _ => none)
  | _ => none
noncomputable def mm_ebld (X : mm_X) (st : List mm_V) (k : Int32 → List mm_V → Option ρ) : Option ρ := match st with
  | .inl i :: .inr (.inr (.inl r)) :: s => mm_eal X 2 r i (fun j => match mm_gx kz X.2.1 r j with
    | some x => mm_fc x (fun x => k x s)
    | none => none)
  | _ => none
noncomputable def mm_eqld (X : mm_X) (st : List mm_V) (k : Nat → List mm_V → Option ρ) : Option ρ := match st with
  | .inl i :: .inr (.inr (.inl r)) :: s => (match X.1[r]? with
    | some (.inr (.inr (_, n, b))) => (match mm_inb i n with
      | true => mm_fn (b + i.toBitVec.toNat) (fun j => k j s)
      | false => none)
    | _ => none)
  | _ => none
noncomputable def mm_eist (X : mm_X) (t : Nat) (st : List mm_V) (k : mm_X → List mm_V → Option ρ) : Option ρ := match st with
  | .inl x :: .inl i :: .inr (.inr (.inl r)) :: s => mm_eal X t r i (fun j => match t with
    | 0 => k (X.1, (r, j, x) :: X.2.1, X.2.2) s
    | _ => mm_fc (vp_nar .boolean x) (fun y => k (X.1, (r, j, y) :: X.2.1, X.2.2) s))
  | _ => none
noncomputable def mm_elst (X : mm_X) (st : List mm_V) (k : mm_X → List mm_V → Option ρ) : Option ρ := match st with
  | .inr (.inl x) :: .inl i :: .inr (.inr (.inl r)) :: s => mm_eal X 1 r i (fun j => k (X.1, X.2.1, (r, j, x) :: X.2.2) s)
  | _ => none
def mm_elen (X : mm_X) (st : List mm_V) (k : Int32 → List mm_V → Option ρ) : Option ρ := match st with
  | .inr (.inr (.inl r)) :: s => (match X.1[r]? with
    | some (.inr (.inl (_, n))) => k (nI n) s
    | _ => none)
  | .inr (.inr (.inr (.inl j))) :: s => (match mm_tbe j with
    | some (n, _) => k (nI n) s
    | none => none)
  | _ => none
def mm_rmb (lim : Nat × Nat) (X : mm_X) (a b : Nat) : Bool := match Nat.ble (X.1.length + a) lim.1 with
  | true => Nat.ble (mm_sl X.1 + b) lim.2
  | false => false
def mm_zzb (X : mm_X) : Bool := match mm_zb X.2.1 X.1.length with
  | true => mm_zb X.2.2 X.1.length
  | false => false
noncomputable def mm_enew (fl : Bool) (lim : Nat × Nat) (ax : List (Nat × Nat)) (ls : List (Option mm_V)) (st : List mm_V) (X : mm_X) (k : mm_V → mm_X → Option ρ) : Option ρ := match fl, ax with
  | true, (_, ci) :: _ => (match mm_chk ls st X.1, mm_rmb lim X 1 (mm_cn ci), mm_zzb X with
    | true, true, true => mm_fn X.1.length (fun n => mm_fl (mm_nf (mm_tys ci) (mm_cn ci)) (fun fs => mm_fl (X.1 ++ [.inl (ci, fs)]) (fun l => k (mm_R n) (l, X.2.1, X.2.2))))
    | _, _, _ => none)
  | _, _ => none
noncomputable def mm_enar (fl : Bool) (lim : Nat × Nat) (ax : List (Nat × Nat)) (ls : List (Option mm_V)) (st : List mm_V) (X : mm_X) (k : mm_V → List mm_V → mm_X → Option ρ) : Option ρ := match fl, ax, st with
  | true, (t, n) :: _, .inl x :: r => (match mm_qb x (nI n), Nat.blt n 67108864, mm_chk ls r X.1, mm_rmb lim X 1 n, mm_zzb X with
    | true, true, true, true, true => mm_fn X.1.length (fun a => mm_fl (X.1 ++ [.inr (.inl (t, n))]) (fun l => k (mm_R a) r (l, X.2.1, X.2.2)))
    | _, _, _, _, _ => none)
  | _, _, _ => none
noncomputable def mm_enmu (fl : Bool) (lim : Nat × Nat) (ax : List (Nat × Nat)) (ls : List (Option mm_V)) (st : List mm_V) (X : mm_X) (k : mm_V → List mm_V → mm_X → Option ρ) : Option ρ := match fl, ax, st with
  | true, (t, n) :: (_, m) :: _, .inl y :: .inl x :: r => (match mm_qb x (nI n), mm_qb y (nI m), Nat.blt n 67108864, Nat.blt m 67108864, mm_chk ls r X.1, mm_rmb lim X (1 + n) (n + n * m), mm_zzb X with
    | true, true, true, true, true, true, true => mm_fn X.1.length (fun a => mm_fn (a + 1) (fun b => mm_fl (X.1 ++ .inr (.inr (t, n, b)) :: List.replicate n (.inr (.inl (t, m)))) (fun l => k (mm_R a) r (l, X.2.1, X.2.2))))
    | _, _, _, _, _, _, _ => none)
  | _, _, _ => none
def mm_eb8 (rest : List mm_V) (k : Option ρ) : Option ρ := match Nat.ble (mm_cs rest) 8 with
  | true => k
  | false => none
def mm_eirt (ret : Option FieldType) (st : List mm_V) (k : Int32 → Option ρ) : Option ρ := match ret, st with
  | some .int, [.inl x] => k x
  | some .boolean, [.inl x] => (match mm_qb x 0, mm_qb x 1 with
    | false, false => none
    | _, _ => k x)
  | _, _ => none
def mm_elrt (ret : Option FieldType) (st : List mm_V) (k : Int64 → Option ρ) : Option ρ := match ret, st with
  | some .long, [.inr (.inl x)] => k x
  | _, _ => none
def mm_evrt (ret : Option FieldType) (st : List mm_V) (k : Option ρ) : Option ρ := match ret, st with
  | none, [] => k
  | _, _ => none
end MME
