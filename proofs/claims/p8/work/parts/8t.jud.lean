/-! ===== calls that leave what is alike, with the shapes; the start ===== -/
theorem CJ_f {W : List (Nat × Nat × Nat)} {m n1 : mm_P} {ml n2 : mm_G} (h : CJ m ml) (hW : mm_stW W = true) (hW2 : ((List.range 12).all (fun j => mm_avC W (19 + j))) = true) (hIC : mm_IC n1) (hf : mm_fw W m ml n1 n2) : CJ n1 n2 := by
  have hC := CO_f h.1 hW hIC hf
  obtain ⟨hIC0, ⟨NB, ND, NF, hI, hT, hN, hF⟩, -⟩ := id h.1
  have hb := hI.1
  have hs := SS_w hW hf
  have h19 : ∀ c i, 19 ≤ c → c ≤ 30 → mm_wr W c i = false := fun c i a b => by
    have h1 : mm_avC W (19 + (c - 19)) = true := List.all_eq_true.mp hW2 (c - 19) (List.mem_range.mpr (by omega))
    rw [show 19 + (c - 19) = c by omega] at h1
    exact mm_avC_s h1
  have hJ := JT_SS (fun k hk => okK_of hI hN hk) hb.1.2 hb.2.1 hb.2.2 (h.2 ND NF hN.1 hF.1 hb.2.1 hb.2.2) hs (fun c i a b => (hf c i (h19 c i a b)).2)
  exact ⟨hC, JJ_of hJ ((hs.1 3 5 (.inl (by unfold stC; omega))).trans hN.1) ((hs.1 9 7 (.inl (by unfold stC; omega))).trans hF.1) hb.2.1 hb.2.2⟩
theorem CJ_0 : CJ mm_i0 mm_l0 := ⟨CO_0, fun ND NF e1 _ e3 _ f hf k hk => by
  have h0 : mm_i0 3 5 = 0 := mm_n0_s (by decide +kernel)
  have : ND = 0 := nI_inj (by omega) (by decide) (e1.symm.trans h0)
  omega⟩
theorem CJ_rf {m n w : mm_P} {ml : mm_G} {r : Nat} (h : CJ m ml) (hp : PR m n) (hr : RF n w) (h51 : w 176 51 = nI r) (hr2 : r ≤ 100) : CJ w ml := CJ_h h (CO_rf h.1 hp hr h51 hr2) (fun c i q => (hr.1 c i (by omega) (by omega)).trans (hp c i (pg_low (by omega))))
