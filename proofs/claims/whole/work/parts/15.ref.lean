
theorem s_X11_in {L : Nat} {iv : Nat → Nat → Int} (x : Int) (lo : Int) (hi : Int) : pz_R (pz_Sh L) 190 [.inl x, .inl lo, .inl hi] iv (.inl (some (.inl (pz_bi (lo ≤ x ∧ x ≤ hi))))) iv := by
  intro dv cc ss
  show pz_G 190 0 [some (.inl x), some (.inl lo), some (.inl hi)] [] (pz_Sh L, iv, dv, cc, ss) _
  refine pz_G_of pz_b190_0 ?_
  refine w_loc rfl ?_
  refine w_loc rfl ?_
  refine w_ilt (fun h1 => ?_) (fun h1 => ?_)
  · refine pz_G_of pz_b190_14 ?_
    refine w_pure rfl ?_
    refine w_nil ?_
    refine pz_G_of pz_b190_15 ?_
    refine w_ret (pz_rok1 (Or.inl rfl)) ?_
    first | exact lf_i (pz_bi_f (by omega)) (by rfl) | (exfalso; omega)
  · refine w_loc rfl ?_
    refine w_loc rfl ?_
    refine w_igt (fun h2 => ?_) (fun h2 => ?_)
    · refine pz_G_of pz_b190_14 ?_
      refine w_pure rfl ?_
      refine w_nil ?_
      refine pz_G_of pz_b190_15 ?_
      refine w_ret (pz_rok1 (Or.inl rfl)) ?_
      first | exact lf_i (pz_bi_f (by omega)) (by rfl) | (exfalso; omega)
    · refine w_pure rfl ?_
      refine w_goto ?_
      refine pz_G_of pz_b190_15 ?_
      refine w_ret (pz_rok1 (Or.inr rfl)) ?_
      first | exact lf_i (pz_bi_t (by omega)) (by rfl) | (exfalso; omega)

theorem s_X11_fails {L : Nat} {iv : Nat → Nat → Int} (p : Int) : pz_R (pz_Sh L) 191 [.inr (.inl 154), .inl p] iv (.inl (some (.inl 0))) (pz_u1 iv 154 (pz_up (iv 154) 0 p)) := by
  intro dv cc ss
  refine pz_G_mem (iv2 := pz_u1 iv 154 (iv 154)) (by exact (pz_u1_self iv 154).symm) ?_
  show pz_G 191 0 [some (.inr (.inl 154)), some (.inl p)] [] (pz_Sh L, pz_u1 iv 154 (iv 154), dv, cc, ss) _
  refine pz_G_of pz_b191_0 ?_
  refine w_loc rfl ?_
  refine w_loc rfl ?_
  refine w_putIm (iv2 := pz_u1 iv 154 (pz_up (iv 154) 0 p)) is_154 pz_fit0 (by exact pz_u2_top _ _ _ _ _) ?_
  refine w_pure rfl ?_
  refine w_ret rfl ?_
  first | exact lf_i (by first | rfl | omega) (by rfl) | (exfalso; omega)

theorem s_X11_tells {L : Nat} {iv : Nat → Nat → Int} (x : Int) : pz_R (pz_Sh L) 192 [.inr (.inl 154), .inl x] iv (.inl (some (.inl x))) (pz_u1 iv 154 (pz_up (iv 154) 0 0)) := by
  intro dv cc ss
  refine pz_G_mem (iv2 := pz_u1 iv 154 (iv 154)) (by exact (pz_u1_self iv 154).symm) ?_
  show pz_G 192 0 [some (.inr (.inl 154)), some (.inl x)] [] (pz_Sh L, pz_u1 iv 154 (iv 154), dv, cc, ss) _
  refine pz_G_of pz_b192_0 ?_
  refine w_loc rfl ?_
  refine w_pure rfl ?_
  refine w_putIm (iv2 := pz_u1 iv 154 (pz_up (iv 154) 0 0)) is_154 pz_fit0 (by exact pz_u2_top _ _ _ _ _) ?_
  refine w_loc rfl ?_
  refine w_ret rfl ?_
  first | exact lf_i (by first | rfl | omega) (by rfl) | (exfalso; omega)

theorem s_X11_isEvent {L : Nat} {iv : Nat → Nat → Int} (e : Int) (hk0 : 0 ≤ iv 155 0 ∧ iv 155 0 ≤ 10) : pz_R (pz_Sh L) 194 [.inr (.inl 154), .inl e] iv (.inl (some (.inl (pz_bi (0 ≤ e ∧ e ≤ (iv 155) 0 - 1))))) iv := by
  intro dv cc ss
  show pz_G 194 0 [some (.inr (.inl 154)), some (.inl e)] [] (pz_Sh L, iv, dv, cc, ss) _
  refine pz_G_of pz_b194_0 ?_
  refine w_loc rfl ?_
  refine w_pure rfl ?_
  refine w_loc rfl ?_
  refine w_getR (q := 155) is_154 rf_154_1 ?_
  refine w_pure rfl ?_
  refine w_iald (v := (iv 155) 0) is_155 ln_155 ⟨by omega, by omega⟩ rfl ?_
  refine w_pure rfl ?_
  refine w_isub (by omega) ?_
  have hc1 : pz_R (pz_Sh L) 190 [.inl e, .inl 0, .inl (((iv 155) 0) - 1)] (iv) (.inl (some (.inl (pz_bi (0 ≤ e ∧ e ≤ (((iv 155) 0) - 1)))))) (iv) := s_X11_in e 0 (((iv 155) 0) - 1)
  refine w_call hc1 rfl rfl ?_
  refine w_ret (pz_rok1 (pz_bi01 _)) ?_
  first | exact lf_i (pz_bi_iff (by omega)) (by rfl) | (exfalso; omega)

theorem s_X11_hasStarted {L : Nat} {iv : Nat → Nat → Int} (e : Int) (he : 0 ≤ e ∧ e ≤ 9) : pz_R (pz_Sh L) 196 [.inr (.inl 154), .inl e] iv (.inl (some (.inl (pz_bi ((iv 155) (6 + e).toNat ≠ -1))))) iv := by
  intro dv cc ss
  show pz_G 196 0 [some (.inr (.inl 154)), some (.inl e)] [] (pz_Sh L, iv, dv, cc, ss) _
  refine pz_G_of pz_b196_0 ?_
  refine w_loc rfl ?_
  refine w_getR (q := 155) is_154 rf_154_1 ?_
  refine w_pure rfl ?_
  refine w_loc rfl ?_
  refine w_iadd (by omega) ?_
  refine w_iald (v := (iv 155) (6 + e).toNat) is_155 ln_155 ⟨by omega, by omega⟩ rfl ?_
  refine w_pure rfl ?_
  refine w_ieq (fun h1 => ?_) (fun h1 => ?_)
  · refine pz_G_of pz_b196_17 ?_
    refine w_pure rfl ?_
    refine w_nil ?_
    refine pz_G_of pz_b196_18 ?_
    refine w_ret (pz_rok1 (Or.inl rfl)) ?_
    first | exact lf_i (pz_bi_f (by omega)) (by rfl) | (exfalso; omega)
  · refine w_pure rfl ?_
    refine w_goto ?_
    refine pz_G_of pz_b196_18 ?_
    refine w_ret (pz_rok1 (Or.inr rfl)) ?_
    first | exact lf_i (pz_bi_t (by omega)) (by rfl) | (exfalso; omega)

theorem s_X11_isTrue {L : Nat} {iv : Nat → Nat → Int} (l : Int) (hl : 0 ≤ l ∧ l ≤ 4) : pz_R (pz_Sh L) 200 [.inr (.inl 154), .inl l] iv (.inl (some (.inl (pz_bi ((iv 155) (46 + l).toNat = 116 ∨ (iv 155) (46 + l).toNat = 84))))) iv := by
  intro dv cc ss
  show pz_G 200 0 [some (.inr (.inl 154)), some (.inl l)] [] (pz_Sh L, iv, dv, cc, ss) _
  refine pz_G_of pz_b200_0 ?_
  refine w_loc rfl ?_
  refine w_getR (q := 155) is_154 rf_154_1 ?_
  refine w_pure rfl ?_
  refine w_loc rfl ?_
  refine w_iadd (by omega) ?_
  refine w_iald (v := (iv 155) (46 + l).toNat) is_155 ln_155 ⟨by omega, by omega⟩ rfl ?_
  refine w_pure rfl ?_
  refine w_ieq (fun h1 => ?_) (fun h1 => ?_)
  · refine pz_G_of pz_b200_28 ?_
    refine w_pure rfl ?_
    refine w_goto ?_
    refine pz_G_of pz_b200_33 ?_
    refine w_ret (pz_rok1 (Or.inr rfl)) ?_
    first | exact lf_i (pz_bi_t (by omega)) (by rfl) | (exfalso; omega)
  · refine w_loc rfl ?_
    refine w_getR (q := 155) is_154 rf_154_1 ?_
    refine w_pure rfl ?_
    refine w_loc rfl ?_
    refine w_iadd (by omega) ?_
    refine w_iald (v := (iv 155) (46 + l).toNat) is_155 ln_155 ⟨by omega, by omega⟩ rfl ?_
    refine w_pure rfl ?_
    refine w_ine (fun h2 => ?_) (fun h2 => ?_)
    · refine pz_G_of pz_b200_32 ?_
      refine w_pure rfl ?_
      refine w_nil ?_
      refine pz_G_of pz_b200_33 ?_
      refine w_ret (pz_rok1 (Or.inl rfl)) ?_
      first | exact lf_i (pz_bi_f (by omega)) (by rfl) | (exfalso; omega)
    · refine w_nil ?_
      refine pz_G_of pz_b200_28 ?_
      refine w_pure rfl ?_
      refine w_goto ?_
      refine pz_G_of pz_b200_33 ?_
      refine w_ret (pz_rok1 (Or.inr rfl)) ?_
      first | exact lf_i (pz_bi_t (by omega)) (by rfl) | (exfalso; omega)
