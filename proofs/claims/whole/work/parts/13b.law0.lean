/-! the law's beginning -/
theorem pz_b344_0 : pz_blk 344 0 = ([(2, .new 8, 3, 10, 10, 0, 13), (0, .dup, 1, 0, 0, 0, 0), (4, .invokespecial 156, 3, 122, 1, 10, 331), (1, .astore_n 1, 1, 0, 0, 0, 0), (2, .new 157, 3, 11, 13, 0, 14), (0, .dup, 1, 0, 0, 0, 0), (4, .invokespecial 159, 3, 188, 1, 11, 332), (1, .astore_n 2, 1, 0, 0, 0, 0), (0, .iconst 1, 1, 0, 0, 0, 0), (2, .newarray .long, 2, 24, 0, 0, 0), (1, .astore_n 3, 1, 0, 0, 0, 0), (0, .iconst 1, 1, 0, 0, 0, 0), (2, .newarray .double, 2, 25, 0, 0, 0), (1, .astore 4, 2, 0, 0, 0, 0), (0, .iconst 0, 1, 0, 0, 0, 0), (1, .istore 5, 2, 0, 0, 0, 0)], 28) := rfl
def pz_iv0 (xs : Nat → Int32) : Nat → Nat → Int := fun r j => if r = 1 then (xs j).toInt else pz_l2 pz_hIe r j
theorem pz_law0 {L : Nat} {xs : Nat → Int32} {Q : pz_Q} (k : pz_G 344 28 [some (.inr (.inl 1)), some (.inr (.inl 2)), some (.inr (.inl 154)), some (.inr (.inl 164)), some (.inr (.inl 165)), some (.inl 0), none, none, none] [] (pz_Sh L, pz_iv0 xs, fun _ _ => 0, 164, 4905) Q) : pz_G 344 0 (pz_en 344 [.inr (.inl 1)]) [] (pz_h0 L xs) Q := by
  have z0 : pz_az ((0, [], [], [], 0, 0) : pz_aH) := fun r j _ => ⟨rfl, rfl⟩
  have e0 : pz_h0 L xs = pz_dh L xs (0, [], [], [], 0, 0) := rfl
  rw [e0]
  refine pz_G_of pz_b344_0 ?_
  obtain ⟨d1, z1⟩ := pz_dh_new (L := L) (xs := xs) (a := 10) (m := 0) (b := 10) z0
  refine w_mem (st' := [.inr (.inl 2)]) (h2 := pz_dh L xs (1, pz_hTa, pz_hNa, pz_hIa, 1, 10)) (by rw [show pz_dh L xs (1, pz_hTa, pz_hNa, pz_hIa, 1, 10) = _ from d1]; rfl) ?_
  refine w_pure rfl ?_
  obtain ⟨r1, z2⟩ := pz_srun_ok (L := L) (xs := xs) _ _ _ _ _ _ _ _ (pz_same_ok pz_bd1) z1
  refine pz_call_w (as := [.inr (.inl 2)]) (rest := [.inr (.inl 2)]) rfl rfl r1 ?_
  refine w_loc rfl ?_
  obtain ⟨d3, z3⟩ := pz_dh_new (L := L) (xs := xs) (a := 11) (m := 0) (b := 13) z2
  refine w_mem (st' := [.inr (.inl 154)]) (h2 := pz_dh L xs (153, pz_hTc, pz_hNc, pz_hIc, 153, 2633)) (by rw [show pz_dh L xs (153, pz_hTc, pz_hNc, pz_hIc, 153, 2633) = _ from d3]; rfl) ?_
  refine w_pure rfl ?_
  obtain ⟨r4, z4⟩ := pz_srun_ok (L := L) (xs := xs) _ _ _ _ _ _ _ _ (pz_same_ok pz_bd2) z3
  refine pz_call_w (as := [.inr (.inl 154)]) (rest := [.inr (.inl 154)]) rfl rfl r4 ?_
  refine w_loc rfl ?_
  refine w_pure rfl ?_
  obtain ⟨d5, z5⟩ := pz_dh_new (L := L) (xs := xs) (a := 24) (m := 1) (b := 1) z4
  refine w_mem (st' := [.inr (.inl 164)]) (h2 := pz_new (pz_dh L xs (162, pz_hTd, pz_hNd, pz_hId, 162, 4903)) 24 1 1) rfl ?_
  rw [← d5]
  refine w_loc rfl ?_
  refine w_pure rfl ?_
  obtain ⟨d6, z6⟩ := pz_dh_new (L := L) (xs := xs) (a := 25) (m := 1) (b := 1) z5
  refine w_mem (st' := [.inr (.inl 165)]) (h2 := pz_new (pz_dh L xs (162 + 1, (162 + 1 + 1, 24, 1) :: pz_hTd, pz_hNd, pz_hId, 162 + 1, 4903 + 1)) 25 1 1) rfl ?_
  rw [← d6]
  refine w_loc rfl ?_
  refine w_pure rfl ?_
  refine w_loc rfl ?_
  exact w_nil k
