/-! ===== a step of the abstract machine is a step of the machine ===== -/
/-- multianewarray, as the rest of the rows want it (shown further on) -/
def mm_mnaL (p : Program) (l : Launch) (e : Env) (R : Room) (s : State) (m : MethodId) (args : Array Value) (below : List Frame) (meth : Method) (c : Code) (Qf : State → Prop) (D : va_G) (B0 : Nat) (sad : Nat → Nat) (n0 : Nat) (ad0 : Nat → Nat) (lim : Nat × Nat) (nL : Nat) (y : MethodName) (bytes : ByteArray) : Prop :=
  ∀ (pc idx t p0 p1 p2 : Nat) (a : Nat) (axr : List (Nat × Nat)) (ad : Nat → Nat) (H : Heap) (locs : List Loc) (cells slots : Nat) (la : Array Slot) (ls : List (Option mm_V)) (st : List mm_V) (w : mm_W) (K : mm_V → List mm_V → mm_W → Prop), decode bytes pc = .ok (.multianewarray idx 2, 4) → mm_at p0 (.classLink y.cls idx ("[" ++ (FieldType.array (mm_ty t)).toString)) = true → mm_at p1 (.arrayClass (mm_ty t)) = true → mm_az p2 (.arrayOver (.array (mm_ty t))) = true → t < 2 → mm_nmu lim ((t, a) :: axr) ls st w K → mm_Ok D B0 sad n0 ad0 lim R s nL ad H locs cells slots la ls w →
    (∀ v q w' ad' H1 cells1 slots1, K v q w' → mm_Ok D B0 sad n0 ad0 lim R s nL ad' H1 locs cells1 slots1 la ls w' → W p l e R s m args below meth c H1 locs cells1 slots1 Qf (F0 m (pc + 4) la ((v :: q).map (mm_cv ad' sad)))) → W p l e R s m args below meth c H locs cells slots Qf (F0 m pc la (st.map (mm_cv ad sad)))
section MMT
variable {p : Program} {l : Launch} {e : Env} {R : Room} {s : State} {m : MethodId} {args : Array Value} {below : List Frame} {meth : Method} {c : Code} {Qf : State → Prop}
variable {D : va_G} {B0 : Nat} {sad : Nat → Nat} {n0 : Nat} {ad0 : Nat → Nat} {lim : Nat × Nat} {M : mm_M} {ms : List mm_M} {tb : mm_T} {call : mm_F} {Q : Option mm_V → mm_W → Prop} {d : Nat}
set_option maxHeartbeats 4000000 in
theorem mm_step (hx : p.tables.exec = Jvm.exec) (hb : c.code = mm_Mb M) (hml : c.maxLocals = mm_Ml M) (hown : s.vm.findClass (mm_My M).cls = some m.cls) (hts : ∀ w ∈ mm_GW, w.before args s = true) (hcw : ∀ (ci : Nat) (q : vw_C), mm_cl[ci]? = some q → ∀ w ∈ u_ws q.1 q.2.1 q.2.2, w ∈ mm_GW) (hinit : (mm_My M).name = "<init>" → meth.name = "<init>") (hSx : mm_Sx tb sad B0 s s.heap) (hB : B0 ≤ s.heap.size) (hcall : mm_callOk l D B0 sad tb ms d call) (hM : ∀ (mi : Nat) (M' : mm_M), ms[mi]? = some M' → mm_ckh M' = true) (hfr : d + 1 ≤ R.frames) (hlo : 40 * (d + 1) ≤ R.locals) (hck0 : mm_cks ms (mm_My M) (mm_Mb M) (mm_Ml M) 0 (mm_Mc M) = true)
    (hmna : mm_mnaL p l e R s m args below meth c Qf D B0 sad n0 ad0 lim (mm_Ml M) (mm_My M) (mm_Mb M))
    (hret : ∀ (pc : Nat) (o : Option mm_V) (w : mm_W) (ad : Nat → Nat) (H : Heap) (locs : List Loc) (cells slots : Nat) (la : Array Slot) (ls : List (Option mm_V)), mm_rti M pc o → Q o w → mm_Ok D B0 sad n0 ad0 lim R s (mm_Ml M) ad H locs cells slots la ls w → W p l e R s m args below meth c H locs cells slots Qf (F0 m pc la (o.toList.map (mm_cv ad sad))))
    (pc : Nat) (ls : List (Option mm_V)) (st : List mm_V) (w : mm_W) (h : mm_stp call ms tb M lim Q (mm_Rel p l e R s m args below meth c Qf D B0 sad n0 ad0 lim (mm_Ml M)) pc ls st w) : mm_Rel p l e R s m args below meth c Qf D B0 sad n0 ad0 lim (mm_Ml M) pc ls st w := by
  intro ad H locs cells slots la O
  have hck := mm_cks_at (mm_Mc M) 0 pc hck0
  rw [Nat.zero_add] at hck
  unfold mm_stp at h
  have hL := O.2.2.2.2.2.2.1
  have hH := O.2.2.2.2.1
  have hS := O.2.2.2.2.2.1
  generalize (mm_Mc M).getD pc mm_nop = e0 at h hck
  obtain ⟨i, len, ax, ps, g, c1, c8, q0⟩ := e0
  dsimp only at h
  cases i with
  | iconst n =>
    simp only [mm_ck, mm_ck1, Bool.and_eq_true, decide_eq_true_eq] at hck
    obtain ⟨rfl, hd, rfl, hc⟩ := hck
    exact lv_iconst hx hb hd hc (h ad H locs cells slots la O)
  | bipush n =>
    simp only [mm_ck, mm_ck1, Bool.and_eq_true, decide_eq_true_eq] at hck
    obtain ⟨rfl, hd, rfl, hc⟩ := hck
    exact lv_bipush hx hb hd hc (h ad H locs cells slots la O)
  | sipush n =>
    simp only [mm_ck, mm_ck1, Bool.and_eq_true, decide_eq_true_eq] at hck
    obtain ⟨rfl, hd, rfl, hc⟩ := hck
    exact lv_sipush hx hb hd hc (h ad H locs cells slots la O)
  | ldc n =>
    simp only [mm_ck, mm_ck1, Bool.and_eq_true, decide_eq_true_eq] at hck
    obtain ⟨rfl, hd, rfl, hc⟩ := hck
    split at hc
    · exact lv_ldc hx hb hown (hts _ (mm_at_in hc)) hd (h ad H locs cells slots la O)
    · cases hc
  | lconst n =>
    simp only [mm_ck, mm_ck1, Bool.and_eq_true, decide_eq_true_eq] at hck
    obtain ⟨rfl, hd, rfl, hc⟩ := hck
    exact lv_lconst hx hb hd hc (h ad H locs cells slots la O)
  | ldc2_w n =>
    simp only [mm_ck, mm_ck1, Bool.and_eq_true, decide_eq_true_eq] at hck
    obtain ⟨rfl, hd, rfl, hc⟩ := hck
    split at hc
    · exact lv_ldc2 hx hb hown (hts _ (mm_at_in hc)) hd (h ad H locs cells slots la O)
    · cases hc
  | iload k =>
    simp only [mm_ck, mm_ck1, Bool.and_eq_true, decide_eq_true_eq] at hck
    obtain ⟨rfl, hd, rfl, rfl⟩ := hck
    obtain ⟨x, hv, hk⟩ := mm_oI_e h
    exact lv_iload hx hb hd (mm_Lr_at hL hv) (hk ad H locs cells slots la O)
  | iload_n k =>
    simp only [mm_ck, mm_ck1, Bool.and_eq_true, decide_eq_true_eq] at hck
    obtain ⟨rfl, hd, rfl, hg⟩ := hck
    obtain ⟨x, hv, hk⟩ := mm_oI_e h
    exact lv_iload_n hx hb hd hg (mm_Lr_at hL hv) (hk ad H locs cells slots la O)
  | lload k =>
    simp only [mm_ck, mm_ck1, Bool.and_eq_true, decide_eq_true_eq] at hck
    obtain ⟨rfl, hd, rfl, rfl⟩ := hck
    obtain ⟨x, hv, hk⟩ := mm_oL_e h
    exact lv_lload hx hb hd (mm_Lr_at hL hv) (hk ad H locs cells slots la O)
  | lload_n k =>
    simp only [mm_ck, mm_ck1, Bool.and_eq_true, decide_eq_true_eq] at hck
    obtain ⟨rfl, hd, rfl, hg⟩ := hck
    obtain ⟨x, hv, hk⟩ := mm_oL_e h
    exact lv_lload_n hx hb hd hg (mm_Lr_at hL hv) (hk ad H locs cells slots la O)
  | aload k =>
    simp only [mm_ck, mm_ck1, Bool.and_eq_true, decide_eq_true_eq] at hck
    obtain ⟨rfl, hd, rfl, rfl⟩ := hck
    obtain ⟨v, hv, hk⟩ := mm_oA_e h
    have hl := mm_Lr_at hL hv
    have hkk := hk ad H locs cells slots la O
    rcases v with x | x | x
    · exact lv_aload hx hb hd hl hkk
    · exact lv_aload hx hb hd hl hkk
    · exact lv_aloadN hx hb hd hl hkk
  | aload_n k =>
    simp only [mm_ck, mm_ck1, Bool.and_eq_true, decide_eq_true_eq] at hck
    obtain ⟨rfl, hd, rfl, hg⟩ := hck
    obtain ⟨v, hv, hk⟩ := mm_oA_e h
    have hl := mm_Lr_at hL hv
    have hkk := hk ad H locs cells slots la O
    rcases v with x | x | x
    · exact lv_aload_n hx hb hd hg hl hkk
    · exact lv_aload_n hx hb hd hg hl hkk
    · exact lv_aload_nN hx hb hd hg hl hkk
  | istore k =>
    simp only [mm_ck, mm_ck1, Bool.and_eq_true, decide_eq_true_eq] at hck
    obtain ⟨rfl, hd, ⟨rfl, rfl⟩, hn⟩ := hck
    obtain ⟨x, r, rfl, hk⟩ := mm_1i_e h
    exact lv_istore hx hb hd hL hn rfl (fun la' hl' => hk ad H locs cells slots la' (O.st1 (mm_lv_weak hl' (mm_s1_lv ad sad ls k (mm_I x)))))
  | istore_n k =>
    simp only [mm_ck, mm_ck1, Bool.and_eq_true, decide_eq_true_eq] at hck
    obtain ⟨rfl, hd, ⟨rfl, hg⟩, hn⟩ := hck
    obtain ⟨x, r, rfl, hk⟩ := mm_1i_e h
    exact lv_istore_n hx hb hd hg hL hn rfl (fun la' hl' => hk ad H locs cells slots la' (O.st1 (mm_lv_weak hl' (mm_s1_lv ad sad ls g (mm_I x)))))
  | lstore k =>
    simp only [mm_ck, mm_ck1, Bool.and_eq_true, decide_eq_true_eq] at hck
    obtain ⟨rfl, hd, ⟨rfl, rfl⟩, hn⟩ := hck
    obtain ⟨x, r, rfl, hk⟩ := mm_1l_e h
    exact lv_lstore hx hb hd hL hn rfl (fun la' hl' => hk ad H locs cells slots la' (O.st1 (mm_lv_weak hl' (mm_s2_lv ad sad ls k (mm_L x)))))
  | lstore_n k =>
    simp only [mm_ck, mm_ck1, Bool.and_eq_true, decide_eq_true_eq] at hck
    obtain ⟨rfl, hd, ⟨rfl, hg⟩, hn⟩ := hck
    obtain ⟨x, r, rfl, hk⟩ := mm_1l_e h
    exact lv_lstore_n hx hb hd hg hL hn rfl (fun la' hl' => hk ad H locs cells slots la' (O.st1 (mm_lv_weak hl' (mm_s2_lv ad sad ls g (mm_L x)))))
  | astore k =>
    simp only [mm_ck, mm_ck1, Bool.and_eq_true, decide_eq_true_eq] at hck
    obtain ⟨rfl, hd, ⟨rfl, rfl⟩, hn⟩ := hck
    obtain ⟨x, r, rfl, hk⟩ := mm_1r_e h
    exact lv_astore hx hb hd hL hn rfl (fun la' hl' => hk ad H locs cells slots la' (O.st1 (mm_lv_weak hl' (mm_s1_lv ad sad ls k (mm_R x)))))
  | astore_n k =>
    simp only [mm_ck, mm_ck1, Bool.and_eq_true, decide_eq_true_eq] at hck
    obtain ⟨rfl, hd, ⟨rfl, hg⟩, hn⟩ := hck
    obtain ⟨x, r, rfl, hk⟩ := mm_1r_e h
    exact lv_astore_n hx hb hd hg hL hn rfl (fun la' hl' => hk ad H locs cells slots la' (O.st1 (mm_lv_weak hl' (mm_s1_lv ad sad ls g (mm_R x)))))
  | iinc k n =>
    simp only [mm_ck, mm_ck1, Bool.and_eq_true, decide_eq_true_eq] at hck
    obtain ⟨rfl, hd, ⟨⟨rfl, rfl⟩, hn⟩, hc⟩ := hck
    obtain ⟨x, hv, hk⟩ := mm_oI_e h
    obtain ⟨k9, hk9⟩ := List.getElem?_of_mem (mm_lv_mem.mpr ⟨_, mm_getD hv, rfl⟩ : (k, Value.int x) ∈ mm_lv ad sad ls)
    exact lv_iinc (v := x + c1) hx hb hd hL hk9 (by rw [hc]) hn rfl (fun la' hl' => hk ad H locs cells slots la' (O.st1 (mm_lv_weak hl' (mm_s1_lv ad sad ls k (mm_I (x + c1))))))
  | iadd =>
    simp only [mm_ck, mm_ck1, Bool.and_eq_true, decide_eq_true_eq] at hck
    obtain ⟨rfl, hd, rfl⟩ := hck
    obtain ⟨x, y, r, rfl, hk⟩ := mm_2i_e h
    exact lv_iadd hx hb hd (hk ad H locs cells slots la O)
  | isub =>
    simp only [mm_ck, mm_ck1, Bool.and_eq_true, decide_eq_true_eq] at hck
    obtain ⟨rfl, hd, rfl⟩ := hck
    obtain ⟨x, y, r, rfl, hk⟩ := mm_2i_e h
    exact lv_isub hx hb hd (hk ad H locs cells slots la O)
  | imul =>
    simp only [mm_ck, mm_ck1, Bool.and_eq_true, decide_eq_true_eq] at hck
    obtain ⟨rfl, hd, rfl⟩ := hck
    obtain ⟨x, y, r, rfl, hk⟩ := mm_2i_e h
    exact lv_imul hx hb hd (hk ad H locs cells slots la O)
  | irem =>
    simp only [mm_ck, mm_ck1, Bool.and_eq_true, decide_eq_true_eq] at hck
    obtain ⟨rfl, hd, rfl⟩ := hck
    obtain ⟨x, y, r, rfl, hne, hk⟩ := mm_2i_e h
    exact lv_irem hx hb hd hne (hk ad H locs cells slots la O)
  | iand =>
    simp only [mm_ck, mm_ck1, Bool.and_eq_true, decide_eq_true_eq] at hck
    obtain ⟨rfl, hd, rfl⟩ := hck
    obtain ⟨x, y, r, rfl, hk⟩ := mm_2i_e h
    exact lv_iand hx hb hd (hk ad H locs cells slots la O)
  | ior =>
    simp only [mm_ck, mm_ck1, Bool.and_eq_true, decide_eq_true_eq] at hck
    obtain ⟨rfl, hd, rfl⟩ := hck
    obtain ⟨x, y, r, rfl, hk⟩ := mm_2i_e h
    exact lv_ior hx hb hd (hk ad H locs cells slots la O)
  | ixor =>
    simp only [mm_ck, mm_ck1, Bool.and_eq_true, decide_eq_true_eq] at hck
    obtain ⟨rfl, hd, rfl⟩ := hck
    obtain ⟨x, y, r, rfl, hk⟩ := mm_2i_e h
    exact lv_ixor hx hb hd (hk ad H locs cells slots la O)
  | ishl =>
    simp only [mm_ck, mm_ck1, Bool.and_eq_true, decide_eq_true_eq] at hck
    obtain ⟨rfl, hd, rfl⟩ := hck
    obtain ⟨x, y, r, rfl, hk⟩ := mm_2i_e h
    exact lv_ishl hx hb hd (hk ad H locs cells slots la O)
  | ishr =>
    simp only [mm_ck, mm_ck1, Bool.and_eq_true, decide_eq_true_eq] at hck
    obtain ⟨rfl, hd, rfl⟩ := hck
    obtain ⟨x, y, r, rfl, hk⟩ := mm_2i_e h
    exact lv_ishr hx hb hd (hk ad H locs cells slots la O)
  | ladd =>
    simp only [mm_ck, mm_ck1, Bool.and_eq_true, decide_eq_true_eq] at hck
    obtain ⟨rfl, hd, rfl⟩ := hck
    obtain ⟨x, y, r, rfl, hk⟩ := mm_2l_e h
    exact lv_ladd hx hb hd (hk ad H locs cells slots la O)
  | lsub =>
    simp only [mm_ck, mm_ck1, Bool.and_eq_true, decide_eq_true_eq] at hck
    obtain ⟨rfl, hd, rfl⟩ := hck
    obtain ⟨x, y, r, rfl, hk⟩ := mm_2l_e h
    exact lv_lsub hx hb hd (hk ad H locs cells slots la O)
  | lmul =>
    simp only [mm_ck, mm_ck1, Bool.and_eq_true, decide_eq_true_eq] at hck
    obtain ⟨rfl, hd, rfl⟩ := hck
    obtain ⟨x, y, r, rfl, hk⟩ := mm_2l_e h
    exact lv_lmul hx hb hd (hk ad H locs cells slots la O)
  | ldiv =>
    simp only [mm_ck, mm_ck1, Bool.and_eq_true, decide_eq_true_eq] at hck
    obtain ⟨rfl, hd, rfl⟩ := hck
    obtain ⟨x, y, r, rfl, hne, hk⟩ := mm_2l_e h
    exact lv_ldiv hx hb hd hne (hk ad H locs cells slots la O)
  | lrem =>
    simp only [mm_ck, mm_ck1, Bool.and_eq_true, decide_eq_true_eq] at hck
    obtain ⟨rfl, hd, rfl⟩ := hck
    obtain ⟨x, y, r, rfl, hne, hk⟩ := mm_2l_e h
    exact lv_lrem hx hb hd hne (hk ad H locs cells slots la O)
  | lcmp =>
    simp only [mm_ck, mm_ck1, Bool.and_eq_true, decide_eq_true_eq] at hck
    obtain ⟨rfl, hd, rfl⟩ := hck
    obtain ⟨x, y, r, rfl, hk⟩ := mm_2l_e h
    exact W.lcmp hx hb hd (hk ad H locs cells slots la O)
  | i2l =>
    simp only [mm_ck, mm_ck1, Bool.and_eq_true, decide_eq_true_eq] at hck
    obtain ⟨rfl, hd, rfl⟩ := hck
    obtain ⟨x, r, rfl, hk⟩ := mm_1i_e h
    exact lv_i2l hx hb hd rfl (hk ad H locs cells slots la O)
  | l2i =>
    simp only [mm_ck, mm_ck1, Bool.and_eq_true, decide_eq_true_eq] at hck
    obtain ⟨rfl, hd, rfl⟩ := hck
    obtain ⟨x, r, rfl, hk⟩ := mm_1l_e h
    exact lv_l2i hx hb hd rfl (hk ad H locs cells slots la O)
  | dup =>
    simp only [mm_ck, mm_ck1, Bool.and_eq_true, decide_eq_true_eq] at hck
    obtain ⟨rfl, hd, rfl⟩ := hck
    obtain ⟨v, r, rfl, hc, hk⟩ := mm_1c_e h
    exact lv_dup hx hb hd (mm_vcat hc) (hk ad H locs cells slots la O)
  | pop =>
    simp only [mm_ck, mm_ck1, Bool.and_eq_true, decide_eq_true_eq] at hck
    obtain ⟨rfl, hd, rfl⟩ := hck
    obtain ⟨v, r, rfl, hc, hk⟩ := mm_1c_e h
    exact lv_pop hx hb hd (mm_vcat hc) (hk ad H locs cells slots la O)
  | pop2 =>
    simp only [mm_ck, mm_ck1, Bool.and_eq_true, decide_eq_true_eq] at hck
    obtain ⟨rfl, hd, rfl⟩ := hck
    obtain ⟨x, r, rfl, hk⟩ := mm_1l_e h
    exact lv_pop2_2 hx hb hd rfl (hk ad H locs cells slots la O)
  | dup_x1 =>
    simp only [mm_ck, mm_ck1, Bool.and_eq_true, decide_eq_true_eq] at hck
    obtain ⟨rfl, hd, rfl⟩ := hck
    obtain ⟨v, r, rfl, hc, hk⟩ := mm_1c_e h
    obtain ⟨u, q, rfl, hc2, hk⟩ := mm_1c_e hk
    exact lv_dup_x1 hx hb hd (mm_vcat hc) (mm_vcat hc2) (hk ad H locs cells slots la O)
  | dup2 =>
    simp only [mm_ck, mm_ck1, Bool.and_eq_true, decide_eq_true_eq] at hck
    obtain ⟨rfl, hd, rfl⟩ := hck
    obtain ⟨v, r, rfl, hc, hk⟩ := mm_1c_e h
    obtain ⟨u, q, rfl, hc2, hk⟩ := mm_1c_e hk
    exact lv_dup2_11 hx hb hd (mm_vcat hc) (mm_vcat hc2) (hk ad H locs cells slots la O)
  | goto o =>
    simp only [mm_ck, mm_ck1, Bool.and_eq_true, decide_eq_true_eq] at hck
    obtain ⟨rfl, hd, rfl, hc⟩ := hck
    obtain ⟨a, t, r, rfl, hk⟩ := mm_t1_e h
    simp only [decide_eq_true_eq] at hc
    exact lv_goto hx hb hd hc (hk ad H locs cells slots la O)
  | ifCond cd o =>
    simp only [mm_ck, mm_ck1, Bool.and_eq_true, decide_eq_true_eq] at hck
    obtain ⟨rfl, hd, rfl, hc⟩ := hck
    obtain ⟨a, t, r, rfl, hk⟩ := mm_t1_e h
    obtain ⟨x, q, rfl, hk⟩ := mm_1i_e hk
    simp only [decide_eq_true_eq] at hc
    cases cd with
    | eq => exact lv_if_eq hx hb hd hc (fun z => hk.1 z ad H locs cells slots la O) (fun z => hk.2 z ad H locs cells slots la O)
    | ne => exact lv_if_ne hx hb hd hc (fun z => hk.1 z ad H locs cells slots la O) (fun z => hk.2 z ad H locs cells slots la O)
    | lt => exact lv_if_lt hx hb hd hc (fun z => hk.1 z ad H locs cells slots la O) (fun z => hk.2 z ad H locs cells slots la O)
    | ge => exact lv_if_ge hx hb hd hc (fun z => hk.1 z ad H locs cells slots la O) (fun z => hk.2 z ad H locs cells slots la O)
    | gt => exact lv_if_gt hx hb hd hc (fun z => hk.1 z ad H locs cells slots la O) (fun z => hk.2 z ad H locs cells slots la O)
    | le => exact lv_if_le hx hb hd hc (fun z => hk.1 z ad H locs cells slots la O) (fun z => hk.2 z ad H locs cells slots la O)
  | if_icmp cd o =>
    simp only [mm_ck, mm_ck1, Bool.and_eq_true, decide_eq_true_eq] at hck
    obtain ⟨rfl, hd, rfl, hc⟩ := hck
    obtain ⟨a, t, r, rfl, hk⟩ := mm_t1_e h
    obtain ⟨x, y, q, rfl, hk⟩ := mm_2i_e hk
    simp only [decide_eq_true_eq] at hc
    cases cd with
    | eq => exact lv_icmp_eq hx hb hd hc (fun z => hk.1 z ad H locs cells slots la O) (fun z => hk.2 z ad H locs cells slots la O)
    | ne => exact lv_icmp_ne hx hb hd hc (fun z => hk.1 z ad H locs cells slots la O) (fun z => hk.2 z ad H locs cells slots la O)
    | lt => exact lv_icmp_lt hx hb hd hc (fun z => hk.1 z ad H locs cells slots la O) (fun z => hk.2 z ad H locs cells slots la O)
    | ge => exact lv_icmp_ge hx hb hd hc (fun z => hk.1 z ad H locs cells slots la O) (fun z => hk.2 z ad H locs cells slots la O)
    | gt => exact lv_icmp_gt hx hb hd hc (fun z => hk.1 z ad H locs cells slots la O) (fun z => hk.2 z ad H locs cells slots la O)
    | le => exact lv_icmp_le hx hb hd hc (fun z => hk.1 z ad H locs cells slots la O) (fun z => hk.2 z ad H locs cells slots la O)
  | tableswitch df lo hi os =>
    simp only [mm_ck, mm_ck1, Bool.and_eq_true, decide_eq_true_eq] at hck
    obtain ⟨rfl, hd, hc⟩ := hck
    obtain ⟨x, q, rfl, hk⟩ := mm_1i_e h
    obtain ⟨a, t, ts, rfl, hs, hdf⟩ := mm_cas_e hk
    simp only [Bool.and_eq_true, decide_eq_true_eq] at hc
    obtain ⟨⟨hc1, hc2⟩, hc3⟩ := hc
    by_cases h1 : x.toInt < lo
    · exact lv_tableOut hx hb hd (Or.inl h1) hc1 (mm_df_t os.toList ts lo hc2 hdf (Or.inl h1) ad H locs cells slots la O)
    · by_cases h2 : hi < x.toInt
      · refine lv_tableOut hx hb hd (Or.inr h2) hc1 (mm_df_t os.toList ts lo hc2 hdf (Or.inr ?_) ad H locs cells slots la O)
        rw [Array.length_toList]
        omega
      · obtain ⟨j, hj⟩ : ∃ j : Nat, x.toInt = lo + j := ⟨(x.toInt - lo).toNat, by omega⟩
        have hjl : j < os.size := by omega
        have ho : os.toList[j]? = some os[j] := by rw [Array.getElem?_toList]; exact Array.getElem?_eq_getElem hjl
        obtain ⟨tg, ht, hkk⟩ := mm_sw_t os.toList ts lo j _ hc2 hs ho hj
        exact lv_tableIn hx hb hd h1 h2 (by rw [show (x.toInt - lo).toNat = j by omega]; exact Array.getElem?_eq_getElem hjl) ht (hkk ad H locs cells slots la O)
  | lookupswitch df os =>
    simp only [mm_ck, mm_ck1, Bool.and_eq_true, decide_eq_true_eq] at hck
    obtain ⟨rfl, hd, hc⟩ := hck
    obtain ⟨x, q, rfl, hk⟩ := mm_1i_e h
    obtain ⟨a, t, ts, rfl, hs, hdf⟩ := mm_cas_e hk
    simp only [Bool.and_eq_true, decide_eq_true_eq] at hc
    obtain ⟨⟨hc1, hc2⟩, hc3⟩ := hc
    obtain ⟨tg, ht, hkk⟩ := mm_lk hc1 os.toList ts hc2 hs hdf
    exact lv_lookup hx hb hd hc3 rfl ht (hkk ad H locs cells slots la O)
  | getfield idx =>
    simp only [mm_ck, mm_ck1, Bool.and_eq_true, decide_eq_true_eq] at hck
    obtain ⟨rfl, hd, rfl, hc⟩ := hck
    obtain ⟨r, q, rfl, hk⟩ := mm_1r_e h
    split at hc
    · exact mm_get (M := M) hx hb hown hts hcw hd hc hk hH (fun v hv => hv ad H locs cells slots la O)
    · cases hc
  | putfield idx =>
    simp only [mm_ck, mm_ck1, Bool.and_eq_true, decide_eq_true_eq] at hck
    obtain ⟨rfl, hd, rfl, hc⟩ := hck
    dsimp only at h
    split at h
    · split at hc
      · exact mm_put (M := M) hx hb hown hts hcw hinit hd hc h O (fun w' H1 locs1 hv O1 => hv ad H1 locs1 cells slots la O1)
      · cases hc
    · exact h.elim
  | getstatic idx =>
    simp only [mm_ck, mm_ck1, Bool.and_eq_true, decide_eq_true_eq] at hck
    obtain ⟨rfl, hd, rfl, hc⟩ := hck
    obtain ⟨a, j, r, rfl, hk⟩ := mm_t1_e h
    split at hc
    · rename_i a2 j2 ax2 p0 e1
      cases e1
      split at hc
      · rename_i C n ds hj
        exact va_gets hx hb (hSx.2.1 j C n ds hj) hS hown (hts _ (mm_at_in hc)) (fun _ z => z) hd (hk ad H locs cells slots la O)
      · cases hc
    · cases hc
  | iaload =>
    simp only [mm_ck, mm_ck1, Bool.and_eq_true, decide_eq_true_eq] at hck
    obtain ⟨rfl, hd, rfl⟩ := hck
    exact mm_iald (M := M) hx hb hSx hS hd h hH (fun v q hv => hv ad H locs cells slots la O)
  | laload =>
    simp only [mm_ck, mm_ck1, Bool.and_eq_true, decide_eq_true_eq] at hck
    obtain ⟨rfl, hd, rfl⟩ := hck
    exact mm_lald (M := M) hx hb hSx hS hd h hH (fun v q hv => hv ad H locs cells slots la O)
  | baload =>
    simp only [mm_ck, mm_ck1, Bool.and_eq_true, decide_eq_true_eq] at hck
    obtain ⟨rfl, hd, rfl⟩ := hck
    exact mm_zald (M := M) hx hb hd h hH (fun v q hv => hv ad H locs cells slots la O)
  | aaload =>
    simp only [mm_ck, mm_ck1, Bool.and_eq_true, decide_eq_true_eq] at hck
    obtain ⟨rfl, hd, rfl⟩ := hck
    exact mm_aald (M := M) hx hb hd h hH (fun v q hv => hv ad H locs cells slots la O)
  | arraylength =>
    simp only [mm_ck, mm_ck1, Bool.and_eq_true, decide_eq_true_eq] at hck
    obtain ⟨rfl, hd, rfl⟩ := hck
    exact mm_alen (M := M) hx hb hSx hS hd h hH (fun v q hv => hv ad H locs cells slots la O)
  | iastore =>
    simp only [mm_ck, mm_ck1, Bool.and_eq_true, decide_eq_true_eq] at hck
    obtain ⟨rfl, hd, rfl⟩ := hck
    exact mm_iast (M := M) hx hb hd h O (fun w' q H1 locs1 hv O1 => hv ad H1 locs1 cells slots la O1)
  | bastore =>
    simp only [mm_ck, mm_ck1, Bool.and_eq_true, decide_eq_true_eq] at hck
    obtain ⟨rfl, hd, rfl⟩ := hck
    exact mm_zast (M := M) hx hb hd h O (fun w' q H1 locs1 hv O1 => hv ad H1 locs1 cells slots la O1)
  | lastore =>
    simp only [mm_ck, mm_ck1, Bool.and_eq_true, decide_eq_true_eq] at hck
    obtain ⟨rfl, hd, rfl⟩ := hck
    exact mm_last (M := M) hx hb hd h O (fun w' q H1 locs1 hv O1 => hv ad H1 locs1 cells slots la O1)
  | new idx =>
    simp only [mm_ck, mm_ck1, Bool.and_eq_true, decide_eq_true_eq] at hck
    obtain ⟨rfl, hd, rfl, hc⟩ := hck
    split at hc
    · rename_i a ci axr p0 p1 p2
      split at hc
      · rename_i C T N hC
        simp only [Bool.and_eq_true] at hc
        exact mm_newc (M := M) hx hb hown hts hcw hB hd hC hc.1.1 hc.1.2 hc.2 h O (fun v w' ad' H1 cells1 slots1 hv O1 => hv ad' H1 locs cells1 slots1 la O1)
      · cases hc
    · cases hc
  | newarray a =>
    simp only [mm_ck, mm_ck1, Bool.and_eq_true, decide_eq_true_eq] at hck
    obtain ⟨rfl, hd, rfl, hc⟩ := hck
    split at hc
    · simp only [Bool.and_eq_true, decide_eq_true_eq] at hc
      exact mm_newar (M := M) hx hb hts hB hd hc.1 hc.2 h O (fun v q w' ad' H1 cells1 slots1 hv O1 => hv ad' H1 locs cells1 slots1 la O1)
    · cases hc
  | multianewarray idx n =>
    simp only [mm_ck, mm_ck1, Bool.and_eq_true, decide_eq_true_eq] at hck
    obtain ⟨rfl, hd, ⟨rfl, rfl⟩, hc⟩ := hck
    split at hc
    · simp only [Bool.and_eq_true, decide_eq_true_eq] at hc
      exact hmna _ idx _ _ _ _ _ _ ad H locs cells slots la ls st w _ hd hc.1.1.1 hc.1.1.2 hc.1.2 hc.2 h O (fun v q w' ad' H1 cells1 slots1 hv O1 => hv ad' H1 locs cells1 slots1 la O1)
    · cases hc
  | invokestatic idx =>
    have hck2 := hck
    simp only [mm_ck, Bool.and_eq_true, decide_eq_true_eq] at hck
    obtain ⟨rfl, hd, hc⟩ := hck
    have hlen : len = 3 := by
      simp only [mm_ck1, Bool.and_eq_true, decide_eq_true_eq] at hc
      exact hc.1
    subst hlen
    exact mm_ivs_s (M := M) hx hb hml hown hts hSx hB hcall hM hfr hlo hd hc h O (fun q w' ad' H1 locs1 cells1 slots1 hv O1 => hv ad' H1 locs1 cells1 slots1 la O1)
  | invokespecial idx =>
    simp only [mm_ck, Bool.and_eq_true, decide_eq_true_eq] at hck
    obtain ⟨rfl, hd, hc⟩ := hck
    have hlen : len = 3 := by
      simp only [mm_ck1, Bool.and_eq_true, decide_eq_true_eq] at hc
      exact hc.1
    subst hlen
    exact mm_ivi_s (M := M) hx hb hml hown hts hSx hB hcall hM hfr hlo hd hc h O (fun q w' ad' H1 locs1 cells1 slots1 hv O1 => hv ad' H1 locs1 cells1 slots1 la O1)
  | invokevirtual idx =>
    simp only [mm_ck, mm_ck1, Bool.and_eq_true, decide_eq_true_eq] at hck
    obtain ⟨rfl, hd, rfl, hc⟩ := hck
    exact mm_ivv_s (M := M) hx hb hml hown hts hSx hB hcall hM hfr hlo hd hc h O (fun q w' ad' H1 locs1 cells1 slots1 hv O1 => hv ad' H1 locs1 cells1 slots1 la O1)
  | ireturn =>
    simp only [mm_ck, mm_ck1, Bool.and_eq_true, decide_eq_true_eq] at hck
    obtain ⟨rfl, hd, rfl⟩ := hck
    dsimp only at h
    unfold mm_irt at h
    split at h
    · rename_i x hr
      exact hret _ (some (mm_I x)) w ad H locs cells slots la ls ⟨hd, Or.inl hr⟩ h O
    · rename_i x hr
      exact hret _ (some (mm_I x)) w ad H locs cells slots la ls ⟨hd, Or.inr ⟨hr, h.1⟩⟩ h.2 O
    · exact h.elim
  | lreturn =>
    simp only [mm_ck, mm_ck1, Bool.and_eq_true, decide_eq_true_eq] at hck
    obtain ⟨rfl, hd, rfl⟩ := hck
    dsimp only at h
    unfold mm_lrt at h
    split at h
    · rename_i x hr
      exact hret _ (some (mm_L x)) w ad H locs cells slots la ls ⟨hd, hr⟩ h O
    · exact h.elim
  | return_ =>
    simp only [mm_ck, mm_ck1, Bool.and_eq_true, decide_eq_true_eq] at hck
    obtain ⟨rfl, hd, rfl⟩ := hck
    dsimp only at h
    unfold mm_vrt at h
    split at h
    · rename_i hr
      exact hret _ none w ad H locs cells slots la ls ⟨hd, hr⟩ h O
    · exact h.elim
  | _ => exact h.elim
end MMT
