
theorem s_X11_in {L : Nat} {iv : Nat → Nat → Int} (x : Int) (lo : Int) (hi : Int) : pz_R (pz_Sh L) 190 [.inl x, .inl lo, .inl hi] iv (.inl (some (.inl (pz_bi (lo ≤ x ∧ x ≤ hi))))) iv := by
  intro dv cc ss
  show pz_G 190 0 [some (.inl x), some (.inl lo), some (.inl hi)] [] (pz_Sh L, iv, dv, cc, ss) (pz_P (pz_Sh L) (.inl (some (.inl (pz_bi (lo ≤ x ∧ x ≤ hi))))) iv dv cc ss)
  refine pz_G_of pz_b190_0 ?_
  refine w_loc rfl ?_
  refine w_loc rfl ?_
  refine w_ilt (fun h1 => ?_) (fun h1 => ?_)
  · refine pz_G_of pz_b190_14 ?_
    refine w_pure rfl ?_
    refine w_nil ?_
    refine pz_G_of pz_b190_15 ?_
    refine w_ret (pz_rok1 (Or.inl rfl)) ?_
    first | exact lf_i (pz_bi_f (by omega)) (by rfl) | (exfalso; omega)
  · refine w_loc rfl ?_
    refine w_loc rfl ?_
    refine w_igt (fun h2 => ?_) (fun h2 => ?_)
    · refine pz_G_of pz_b190_14 ?_
      refine w_pure rfl ?_
      refine w_nil ?_
      refine pz_G_of pz_b190_15 ?_
      refine w_ret (pz_rok1 (Or.inl rfl)) ?_
      first | exact lf_i (pz_bi_f (by omega)) (by rfl) | (exfalso; omega)
    · refine w_pure rfl ?_
      refine w_goto ?_
      refine pz_G_of pz_b190_15 ?_
      refine w_ret (pz_rok1 (Or.inr rfl)) ?_
      first | exact lf_i (pz_bi_t (by omega)) (by rfl) | (exfalso; omega)

theorem s_X11_fails {L : Nat} {iv : Nat → Nat → Int} (p : Int) : pz_R (pz_Sh L) 191 [.inr (.inl 154), .inl p] iv (.inl (some (.inl 0))) (pz_u1 iv 154 (pz_up (iv 154) 0 p)) := by
  intro dv cc ss
  refine pz_G_mem (iv2 := pz_u1 iv 154 (iv 154)) (by exact (pz_u1_self iv 154).symm) ?_
  show pz_G 191 0 [some (.inr (.inl 154)), some (.inl p)] [] (pz_Sh L, pz_u1 iv 154 (iv 154), dv, cc, ss) (pz_P (pz_Sh L) (.inl (some (.inl 0))) (pz_u1 iv 154 (pz_up (iv 154) 0 p)) dv cc ss)
  refine pz_G_of pz_b191_0 ?_
  refine w_loc rfl ?_
  refine w_loc rfl ?_
  refine w_putIm (iv2 := pz_u1 iv 154 (pz_up (iv 154) 0 p)) is_154 pz_fit0 (by exact pz_u2_top _ _ _ _ _) ?_
  refine w_pure rfl ?_
  refine w_ret rfl ?_
  first | exact lf_i (by first | rfl | omega) (by rfl) | (exfalso; omega)

theorem s_X11_tells {L : Nat} {iv : Nat → Nat → Int} (x : Int) : pz_R (pz_Sh L) 192 [.inr (.inl 154), .inl x] iv (.inl (some (.inl x))) (pz_u1 iv 154 (pz_up (iv 154) 0 0)) := by
  intro dv cc ss
  refine pz_G_mem (iv2 := pz_u1 iv 154 (iv 154)) (by exact (pz_u1_self iv 154).symm) ?_
  show pz_G 192 0 [some (.inr (.inl 154)), some (.inl x)] [] (pz_Sh L, pz_u1 iv 154 (iv 154), dv, cc, ss) (pz_P (pz_Sh L) (.inl (some (.inl x))) (pz_u1 iv 154 (pz_up (iv 154) 0 0)) dv cc ss)
  refine pz_G_of pz_b192_0 ?_
  refine w_loc rfl ?_
  refine w_pure rfl ?_
  refine w_putIm (iv2 := pz_u1 iv 154 (pz_up (iv 154) 0 0)) is_154 pz_fit0 (by exact pz_u2_top _ _ _ _ _) ?_
  refine w_loc rfl ?_
  refine w_ret rfl ?_
  first | exact lf_i (by first | rfl | omega) (by rfl) | (exfalso; omega)

theorem s_X11_asks {L : Nat} {iv : Nat → Nat → Int} (w : Int) (z : Int) (hz : z = 0 ∨ z = 1) : pz_R (pz_Sh L) 193 [.inr (.inl 154), .inl w, .inl z] iv (.inl (some (.inl (pz_bi ((w : Int) = 0 ∧ (z : Int) = 1))))) (pz_u1 iv 154 (pz_up (iv 154) 0 w)) := by
  intro dv cc ss
  refine pz_G_mem (iv2 := pz_u1 iv 154 (iv 154)) (by exact (pz_u1_self iv 154).symm) ?_
  show pz_G 193 0 [some (.inr (.inl 154)), some (.inl w), some (.inl z)] [] (pz_Sh L, pz_u1 iv 154 (iv 154), dv, cc, ss) (pz_P (pz_Sh L) (.inl (some (.inl (pz_bi ((w : Int) = 0 ∧ (z : Int) = 1))))) (pz_u1 iv 154 (pz_up (iv 154) 0 w)) dv cc ss)
  refine pz_G_of pz_b193_0 ?_
  refine w_loc rfl ?_
  refine w_loc rfl ?_
  refine w_putIm (iv2 := pz_u1 iv 154 (pz_up (iv 154) 0 w)) is_154 pz_fit0 (by exact pz_u2_top _ _ _ _ _) ?_
  refine w_loc rfl ?_
  refine w_zne (fun h1 => ?_) (fun h1 => ?_)
  · refine pz_G_of pz_b193_17 ?_
    refine w_pure rfl ?_
    refine w_nil ?_
    refine pz_G_of pz_b193_18 ?_
    refine w_ret (pz_rok1 (Or.inl rfl)) ?_
    first | exact lf_i (pz_bi_f (by omega)) (by rfl) | (exfalso; omega)
  · refine w_loc rfl ?_
    refine w_zeq (fun h2 => ?_) (fun h2 => ?_)
    · refine pz_G_of pz_b193_17 ?_
      refine w_pure rfl ?_
      refine w_nil ?_
      refine pz_G_of pz_b193_18 ?_
      refine w_ret (pz_rok1 (Or.inl rfl)) ?_
      first | exact lf_i (pz_bi_f (by omega)) (by rfl) | (exfalso; omega)
    · refine w_pure rfl ?_
      refine w_goto ?_
      refine pz_G_of pz_b193_18 ?_
      refine w_ret (pz_rok1 (Or.inr rfl)) ?_
      first | exact lf_i (pz_bi_t (by omega)) (by rfl) | (exfalso; omega)

theorem s_X11_isEvent {L : Nat} {iv : Nat → Nat → Int} (e : Int) (hk : q_KR (iv 155)) : pz_R (pz_Sh L) 194 [.inr (.inl 154), .inl e] iv (.inl (some (.inl (pz_bi (0 ≤ e ∧ e ≤ (iv 155) 0 - 1))))) iv := by
  intro dv cc ss
  have hk0 := hk.r0
  show pz_G 194 0 [some (.inr (.inl 154)), some (.inl e)] [] (pz_Sh L, iv, dv, cc, ss) (pz_P (pz_Sh L) (.inl (some (.inl (pz_bi (0 ≤ e ∧ e ≤ (iv 155) 0 - 1))))) iv dv cc ss)
  refine pz_G_of pz_b194_0 ?_
  refine w_loc rfl ?_
  refine w_pure rfl ?_
  refine w_loc rfl ?_
  refine w_getR (q := 155) is_154 rf_154_1 ?_
  refine w_pure rfl ?_
  refine w_iald (v := (iv 155) 0) is_155 ln_155 ⟨by omega, by omega⟩ rfl ?_
  refine w_pure rfl ?_
  refine w_isub (by omega) ?_
  have hc1 : pz_R (pz_Sh L) 190 [.inl e, .inl 0, .inl (((iv 155) 0) - 1)] (iv) (.inl (some (.inl (pz_bi (0 ≤ e ∧ e ≤ (((iv 155) 0) - 1)))))) (iv) := s_X11_in e 0 (((iv 155) 0) - 1)
  refine w_call hc1 rfl rfl ?_
  refine w_ret (pz_rok1 (pz_bi01 _)) ?_
  first | exact lf_i (pz_bi_iff (by omega)) (by rfl) | (exfalso; omega)

theorem s_X11_isSpan {L : Nat} {iv : Nat → Nat → Int} (s : Int) (hk : q_KR (iv 155)) : pz_R (pz_Sh L) 195 [.inr (.inl 154), .inl s] iv (.inl (some (.inl (pz_bi (0 ≤ s ∧ s ≤ (iv 155) 2 - 1))))) iv := by
  intro dv cc ss
  have hk0 := hk.r0
  show pz_G 195 0 [some (.inr (.inl 154)), some (.inl s)] [] (pz_Sh L, iv, dv, cc, ss) (pz_P (pz_Sh L) (.inl (some (.inl (pz_bi (0 ≤ s ∧ s ≤ (iv 155) 2 - 1))))) iv dv cc ss)
  refine pz_G_of pz_b195_0 ?_
  refine w_loc rfl ?_
  refine w_pure rfl ?_
  refine w_loc rfl ?_
  refine w_getR (q := 155) is_154 rf_154_1 ?_
  refine w_pure rfl ?_
  refine w_iald (v := (iv 155) 2) is_155 ln_155 ⟨by omega, by omega⟩ rfl ?_
  refine w_pure rfl ?_
  refine w_isub (by omega) ?_
  have hc1 : pz_R (pz_Sh L) 190 [.inl s, .inl 0, .inl (((iv 155) 2) - 1)] (iv) (.inl (some (.inl (pz_bi (0 ≤ s ∧ s ≤ (((iv 155) 2) - 1)))))) (iv) := s_X11_in s 0 (((iv 155) 2) - 1)
  refine w_call hc1 rfl rfl ?_
  refine w_ret (pz_rok1 (pz_bi01 _)) ?_
  first | exact lf_i (pz_bi_iff (by omega)) (by rfl) | (exfalso; omega)

theorem s_X11_isActivity {L : Nat} {iv : Nat → Nat → Int} (s : Int) (hk : q_KR (iv 155)) : pz_R (pz_Sh L) 278 [.inr (.inl 154), .inl s] iv (.inl (some (.inl (pz_bi (0 ≤ s ∧ s ≤ (iv 155) 3 - 1))))) iv := by
  intro dv cc ss
  have hk0 := hk.r0
  show pz_G 278 0 [some (.inr (.inl 154)), some (.inl s)] [] (pz_Sh L, iv, dv, cc, ss) (pz_P (pz_Sh L) (.inl (some (.inl (pz_bi (0 ≤ s ∧ s ≤ (iv 155) 3 - 1))))) iv dv cc ss)
  refine pz_G_of pz_b278_0 ?_
  refine w_loc rfl ?_
  refine w_pure rfl ?_
  refine w_loc rfl ?_
  refine w_getR (q := 155) is_154 rf_154_1 ?_
  refine w_pure rfl ?_
  refine w_iald (v := (iv 155) 3) is_155 ln_155 ⟨by omega, by omega⟩ rfl ?_
  refine w_pure rfl ?_
  refine w_isub (by omega) ?_
  have hc1 : pz_R (pz_Sh L) 190 [.inl s, .inl 0, .inl (((iv 155) 3) - 1)] (iv) (.inl (some (.inl (pz_bi (0 ≤ s ∧ s ≤ (((iv 155) 3) - 1)))))) (iv) := s_X11_in s 0 (((iv 155) 3) - 1)
  refine w_call hc1 rfl rfl ?_
  refine w_ret (pz_rok1 (pz_bi01 _)) ?_
  first | exact lf_i (pz_bi_iff (by omega)) (by rfl) | (exfalso; omega)

theorem s_X11_hasStarted {L : Nat} {iv : Nat → Nat → Int} (e : Int) (he : 0 ≤ e ∧ e ≤ 9) : pz_R (pz_Sh L) 196 [.inr (.inl 154), .inl e] iv (.inl (some (.inl (pz_bi (q_sta (iv 155) e))))) iv := by
  intro dv cc ss
  show pz_G 196 0 [some (.inr (.inl 154)), some (.inl e)] [] (pz_Sh L, iv, dv, cc, ss) (pz_P (pz_Sh L) (.inl (some (.inl (pz_bi (q_sta (iv 155) e))))) iv dv cc ss)
  refine pz_G_of pz_b196_0 ?_
  refine w_loc rfl ?_
  refine w_getR (q := 155) is_154 rf_154_1 ?_
  refine w_pure rfl ?_
  refine w_loc rfl ?_
  refine w_iadd (by omega) ?_
  refine w_iald (v := (iv 155) (6 + e).toNat) is_155 ln_155 ⟨by omega, by omega⟩ rfl ?_
  refine w_pure rfl ?_
  refine w_ieq (fun h1 => ?_) (fun h1 => ?_)
  · refine pz_G_of pz_b196_17 ?_
    refine w_pure rfl ?_
    refine w_nil ?_
    refine pz_G_of pz_b196_18 ?_
    refine w_ret (pz_rok1 (Or.inl rfl)) ?_
    first | exact lf_i (pz_bi_f (by omega)) (by rfl) | (exfalso; omega)
  · refine w_pure rfl ?_
    refine w_goto ?_
    refine pz_G_of pz_b196_18 ?_
    refine w_ret (pz_rok1 (Or.inr rfl)) ?_
    first | exact lf_i (pz_bi_t (by omega)) (by rfl) | (exfalso; omega)

theorem s_X11_isTrue {L : Nat} {iv : Nat → Nat → Int} (l : Int) (hl : 0 ≤ l ∧ l ≤ 4) : pz_R (pz_Sh L) 200 [.inr (.inl 154), .inl l] iv (.inl (some (.inl (pz_bi (q_tru (iv 155) l))))) iv := by
  intro dv cc ss
  show pz_G 200 0 [some (.inr (.inl 154)), some (.inl l)] [] (pz_Sh L, iv, dv, cc, ss) (pz_P (pz_Sh L) (.inl (some (.inl (pz_bi (q_tru (iv 155) l))))) iv dv cc ss)
  refine pz_G_of pz_b200_0 ?_
  refine w_loc rfl ?_
  refine w_getR (q := 155) is_154 rf_154_1 ?_
  refine w_pure rfl ?_
  refine w_loc rfl ?_
  refine w_iadd (by omega) ?_
  refine w_iald (v := (iv 155) (46 + l).toNat) is_155 ln_155 ⟨by omega, by omega⟩ rfl ?_
  refine w_pure rfl ?_
  refine w_ieq (fun h1 => ?_) (fun h1 => ?_)
  · refine pz_G_of pz_b200_28 ?_
    refine w_pure rfl ?_
    refine w_goto ?_
    refine pz_G_of pz_b200_33 ?_
    refine w_ret (pz_rok1 (Or.inr rfl)) ?_
    first | exact lf_i (pz_bi_t (by omega)) (by rfl) | (exfalso; omega)
  · refine w_loc rfl ?_
    refine w_getR (q := 155) is_154 rf_154_1 ?_
    refine w_pure rfl ?_
    refine w_loc rfl ?_
    refine w_iadd (by omega) ?_
    refine w_iald (v := (iv 155) (46 + l).toNat) is_155 ln_155 ⟨by omega, by omega⟩ rfl ?_
    refine w_pure rfl ?_
    refine w_ine (fun h2 => ?_) (fun h2 => ?_)
    · refine pz_G_of pz_b200_32 ?_
      refine w_pure rfl ?_
      refine w_nil ?_
      refine pz_G_of pz_b200_33 ?_
      refine w_ret (pz_rok1 (Or.inl rfl)) ?_
      first | exact lf_i (pz_bi_f (by omega)) (by rfl) | (exfalso; omega)
    · refine w_nil ?_
      refine pz_G_of pz_b200_28 ?_
      refine w_pure rfl ?_
      refine w_goto ?_
      refine pz_G_of pz_b200_33 ?_
      refine w_ret (pz_rok1 (Or.inr rfl)) ?_
      first | exact lf_i (pz_bi_t (by omega)) (by rfl) | (exfalso; omega)

theorem s_X11_isFalse {L : Nat} {iv : Nat → Nat → Int} (l : Int) (hl : 0 ≤ l ∧ l ≤ 4) : pz_R (pz_Sh L) 201 [.inr (.inl 154), .inl l] iv (.inl (some (.inl (pz_bi (q_fls (iv 155) l))))) iv := by
  intro dv cc ss
  show pz_G 201 0 [some (.inr (.inl 154)), some (.inl l)] [] (pz_Sh L, iv, dv, cc, ss) (pz_P (pz_Sh L) (.inl (some (.inl (pz_bi (q_fls (iv 155) l))))) iv dv cc ss)
  refine pz_G_of pz_b201_0 ?_
  refine w_loc rfl ?_
  refine w_getR (q := 155) is_154 rf_154_1 ?_
  refine w_pure rfl ?_
  refine w_loc rfl ?_
  refine w_iadd (by omega) ?_
  refine w_iald (v := (iv 155) (46 + l).toNat) is_155 ln_155 ⟨by omega, by omega⟩ rfl ?_
  refine w_pure rfl ?_
  refine w_ieq (fun h1 => ?_) (fun h1 => ?_)
  · refine pz_G_of pz_b201_28 ?_
    refine w_pure rfl ?_
    refine w_goto ?_
    refine pz_G_of pz_b201_33 ?_
    refine w_ret (pz_rok1 (Or.inr rfl)) ?_
    first | exact lf_i (pz_bi_t (by omega)) (by rfl) | (exfalso; omega)
  · refine w_loc rfl ?_
    refine w_getR (q := 155) is_154 rf_154_1 ?_
    refine w_pure rfl ?_
    refine w_loc rfl ?_
    refine w_iadd (by omega) ?_
    refine w_iald (v := (iv 155) (46 + l).toNat) is_155 ln_155 ⟨by omega, by omega⟩ rfl ?_
    refine w_pure rfl ?_
    refine w_ine (fun h2 => ?_) (fun h2 => ?_)
    · refine pz_G_of pz_b201_32 ?_
      refine w_pure rfl ?_
      refine w_nil ?_
      refine pz_G_of pz_b201_33 ?_
      refine w_ret (pz_rok1 (Or.inl rfl)) ?_
      first | exact lf_i (pz_bi_f (by omega)) (by rfl) | (exfalso; omega)
    · refine w_nil ?_
      refine pz_G_of pz_b201_28 ?_
      refine w_pure rfl ?_
      refine w_goto ?_
      refine pz_G_of pz_b201_33 ?_
      refine w_ret (pz_rok1 (Or.inr rfl)) ?_
      first | exact lf_i (pz_bi_t (by omega)) (by rfl) | (exfalso; omega)

theorem s_X11_isObserved {L : Nat} {iv : Nat → Nat → Int} (l : Int) (hl : 0 ≤ l ∧ l ≤ 4) : pz_R (pz_Sh L) 214 [.inr (.inl 154), .inl l] iv (.inl (some (.inl (pz_bi (q_obs (iv 155) l))))) iv := by
  intro dv cc ss
  show pz_G 214 0 [some (.inr (.inl 154)), some (.inl l)] [] (pz_Sh L, iv, dv, cc, ss) (pz_P (pz_Sh L) (.inl (some (.inl (pz_bi (q_obs (iv 155) l))))) iv dv cc ss)
  refine pz_G_of pz_b214_0 ?_
  refine w_loc rfl ?_
  refine w_getR (q := 155) is_154 rf_154_1 ?_
  refine w_pure rfl ?_
  refine w_loc rfl ?_
  refine w_iadd (by omega) ?_
  refine w_iald (v := (iv 155) (46 + l).toNat) is_155 ln_155 ⟨by omega, by omega⟩ rfl ?_
  refine w_pure rfl ?_
  refine w_ieq (fun h1 => ?_) (fun h1 => ?_)
  · refine pz_G_of pz_b214_28 ?_
    refine w_pure rfl ?_
    refine w_goto ?_
    refine pz_G_of pz_b214_33 ?_
    refine w_ret (pz_rok1 (Or.inr rfl)) ?_
    first | exact lf_i (pz_bi_t (by omega)) (by rfl) | (exfalso; omega)
  · refine w_loc rfl ?_
    refine w_getR (q := 155) is_154 rf_154_1 ?_
    refine w_pure rfl ?_
    refine w_loc rfl ?_
    refine w_iadd (by omega) ?_
    refine w_iald (v := (iv 155) (46 + l).toNat) is_155 ln_155 ⟨by omega, by omega⟩ rfl ?_
    refine w_pure rfl ?_
    refine w_ine (fun h2 => ?_) (fun h2 => ?_)
    · refine pz_G_of pz_b214_32 ?_
      refine w_pure rfl ?_
      refine w_nil ?_
      refine pz_G_of pz_b214_33 ?_
      refine w_ret (pz_rok1 (Or.inl rfl)) ?_
      first | exact lf_i (pz_bi_f (by omega)) (by rfl) | (exfalso; omega)
    · refine w_nil ?_
      refine pz_G_of pz_b214_28 ?_
      refine w_pure rfl ?_
      refine w_goto ?_
      refine pz_G_of pz_b214_33 ?_
      refine w_ret (pz_rok1 (Or.inr rfl)) ?_
      first | exact lf_i (pz_bi_t (by omega)) (by rfl) | (exfalso; omega)

theorem s_X11_isLabel {L : Nat} {iv : Nat → Nat → Int} (l : Int) : pz_R (pz_Sh L) 213 [.inl l] iv (.inl (some (.inl (pz_bi (1 ≤ l ∧ l ≤ 4))))) iv := by
  intro dv cc ss
  show pz_G 213 0 [some (.inl l)] [] (pz_Sh L, iv, dv, cc, ss) (pz_P (pz_Sh L) (.inl (some (.inl (pz_bi (1 ≤ l ∧ l ≤ 4))))) iv dv cc ss)
  refine pz_G_of pz_b213_0 ?_
  refine w_loc rfl ?_
  refine w_pure rfl ?_
  refine w_pure rfl ?_
  have hc1 : pz_R (pz_Sh L) 190 [.inl l, .inl 1, .inl 4] (iv) (.inl (some (.inl (pz_bi (1 ≤ l ∧ l ≤ 4))))) (iv) := s_X11_in l 1 4
  refine w_call hc1 rfl rfl ?_
  refine w_ret (pz_rok1 (pz_bi01 _)) ?_
  first | exact lf_i (pz_bi_iff (by omega)) (by rfl) | (exfalso; omega)

theorem s_X11_isDropped {L : Nat} {iv : Nat → Nat → Int} (b : Int) (hb : 0 ≤ b ∧ b ≤ 39) : pz_R (pz_Sh L) 202 [.inr (.inl 154), .inl b] iv (.inl (some (.inl (pz_bi ((iv 155) (52 + 4 * b + 3).toNat = 99))))) iv := by
  intro dv cc ss
  show pz_G 202 0 [some (.inr (.inl 154)), some (.inl b)] [] (pz_Sh L, iv, dv, cc, ss) (pz_P (pz_Sh L) (.inl (some (.inl (pz_bi ((iv 155) (52 + 4 * b + 3).toNat = 99))))) iv dv cc ss)
  refine pz_G_of pz_b202_0 ?_
  refine w_loc rfl ?_
  refine w_getR (q := 155) is_154 rf_154_1 ?_
  refine w_pure rfl ?_
  refine w_pure rfl ?_
  refine w_loc rfl ?_
  refine w_imul (by omega) ?_
  refine w_iadd (by omega) ?_
  refine w_pure rfl ?_
  refine w_iadd (by omega) ?_
  refine w_iald (v := (iv 155) ((52 + (4 * b)) + 3).toNat) is_155 ln_155 ⟨by omega, by omega⟩ rfl ?_
  refine w_pure rfl ?_
  refine w_ine (fun h1 => ?_) (fun h1 => ?_)
  · refine pz_G_of pz_b202_22 ?_
    refine w_pure rfl ?_
    refine w_nil ?_
    refine pz_G_of pz_b202_23 ?_
    refine w_ret (pz_rok1 (Or.inl rfl)) ?_
    first | exact lf_i (pz_bi_f (by omega)) (by rfl) | (exfalso; omega)
  · refine w_pure rfl ?_
    refine w_goto ?_
    refine pz_G_of pz_b202_23 ?_
    refine w_ret (pz_rok1 (Or.inr rfl)) ?_
    first | exact lf_i (pz_bi_t (by omega)) (by rfl) | (exfalso; omega)

theorem s_X11_holds {L : Nat} {iv : Nat → Nat → Int} (b : Int) (hb : 0 ≤ b ∧ b ≤ 39) (hl : (-4 ≤ (iv 155) (52 + 4 * b + 3).toNat ∧ (iv 155) (52 + 4 * b + 3).toNat ≤ 4) ∨ (iv 155) (52 + 4 * b + 3).toNat = 99) : pz_R (pz_Sh L) 203 [.inr (.inl 154), .inl b] iv (.inl (some (.inl (pz_bi (q_hld (iv 155) b))))) iv := by
  intro dv cc ss
  show pz_G 203 0 [some (.inr (.inl 154)), some (.inl b), none] [] (pz_Sh L, iv, dv, cc, ss) (pz_P (pz_Sh L) (.inl (some (.inl (pz_bi (q_hld (iv 155) b))))) iv dv cc ss)
  refine pz_G_of pz_b203_0 ?_
  refine w_loc rfl ?_
  refine w_getR (q := 155) is_154 rf_154_1 ?_
  refine w_pure rfl ?_
  refine w_pure rfl ?_
  refine w_loc rfl ?_
  refine w_imul (by omega) ?_
  refine w_iadd (by omega) ?_
  refine w_pure rfl ?_
  refine w_iadd (by omega) ?_
  refine w_iald (v := (iv 155) ((52 + (4 * b)) + 3).toNat) is_155 ln_155 ⟨by omega, by omega⟩ rfl ?_
  refine w_loc (ls' := [some (.inr (.inl 154)), some (.inl b), some (.inl ((iv 155) ((52 + (4 * b)) + 3).toNat))]) (st' := []) rfl ?_
  refine w_loc rfl ?_
  refine w_loc rfl ?_
  have hc1 : pz_R (pz_Sh L) 202 [.inr (.inl 154), .inl b] (iv) (.inl (some (.inl (pz_bi ((iv 155) (52 + 4 * b + 3).toNat = 99))))) (iv) := s_X11_isDropped b (by omega)
  refine w_call hc1 rfl (pz_cokI is_154 rfl) ?_
  refine w_beq (fun h2 => ?_) (fun h2 => ?_)
  · refine pz_G_of pz_b203_24 ?_
    refine w_loc rfl ?_
    refine w_zeq (fun h3 => ?_) (fun h3 => ?_)
    · refine pz_G_of pz_b203_52 ?_
      refine w_pure rfl ?_
      refine w_goto ?_
      refine pz_G_of pz_b203_57 ?_
      refine w_ret (pz_rok1 (Or.inr rfl)) ?_
      first | exact lf_i (pz_bi_t (by omega)) (by rfl) | (exfalso; omega)
    · refine w_loc rfl ?_
      refine w_zle (fun h4 => ?_) (fun h4 => ?_)
      · refine pz_G_of pz_b203_43 ?_
        refine w_loc rfl ?_
        refine w_loc rfl ?_
        refine w_ineg (by omega) ?_
        have hc5 : pz_R (pz_Sh L) 201 [.inr (.inl 154), .inl (-((iv 155) ((52 + (4 * b)) + 3).toNat))] (iv) (.inl (some (.inl (pz_bi (q_fls (iv 155) (-((iv 155) ((52 + (4 * b)) + 3).toNat))))))) (iv) := s_X11_isFalse (-((iv 155) ((52 + (4 * b)) + 3).toNat)) (by omega)
        refine w_call hc5 rfl (pz_cokI is_154 rfl) ?_
        refine w_beq (fun h6 => ?_) (fun h6 => ?_)
        · refine pz_G_of pz_b203_56 ?_
          refine w_pure rfl ?_
          refine w_nil ?_
          refine pz_G_of pz_b203_57 ?_
          refine w_ret (pz_rok1 (Or.inl rfl)) ?_
          first | exact lf_i (pz_bi_f (by omega)) (by rfl) | (exfalso; omega)
        · refine w_nil ?_
          refine pz_G_of pz_b203_52 ?_
          refine w_pure rfl ?_
          refine w_goto ?_
          refine pz_G_of pz_b203_57 ?_
          refine w_ret (pz_rok1 (Or.inr rfl)) ?_
          first | exact lf_i (pz_bi_t (by omega)) (by rfl) | (exfalso; omega)
      · refine w_loc rfl ?_
        refine w_loc rfl ?_
        have hc7 : pz_R (pz_Sh L) 200 [.inr (.inl 154), .inl ((iv 155) ((52 + (4 * b)) + 3).toNat)] (iv) (.inl (some (.inl (pz_bi (q_tru (iv 155) ((iv 155) ((52 + (4 * b)) + 3).toNat)))))) (iv) := s_X11_isTrue ((iv 155) ((52 + (4 * b)) + 3).toNat) (by omega)
        refine w_call hc7 rfl (pz_cokI is_154 rfl) ?_
        refine w_beq (fun h8 => ?_) (fun h8 => ?_)
        · refine pz_G_of pz_b203_56 ?_
          refine w_pure rfl ?_
          refine w_nil ?_
          refine pz_G_of pz_b203_57 ?_
          refine w_ret (pz_rok1 (Or.inl rfl)) ?_
          first | exact lf_i (pz_bi_f (by omega)) (by rfl) | (exfalso; omega)
        · refine w_goto ?_
          refine pz_G_of pz_b203_52 ?_
          refine w_pure rfl ?_
          refine w_goto ?_
          refine pz_G_of pz_b203_57 ?_
          refine w_ret (pz_rok1 (Or.inr rfl)) ?_
          first | exact lf_i (pz_bi_t (by omega)) (by rfl) | (exfalso; omega)
  · refine w_pure rfl ?_
    refine w_ret (pz_rok1 (Or.inl rfl)) ?_
    first | exact lf_i (pz_bi_f (by omega)) (by rfl) | (exfalso; omega)

theorem s_X11_held {L : Nat} {iv : Nat → Nat → Int} (hk : q_KR (iv 155)) : pz_R (pz_Sh L) 204 [.inr (.inl 154)] iv (.inl (some (.inl (q_held (iv 155))))) iv := by
  intro dv cc ss
  have hk0 := hk.r0
  show pz_G 204 0 [some (.inr (.inl 154)), none, none] [] (pz_Sh L, iv, dv, cc, ss) (pz_P (pz_Sh L) (.inl (some (.inl (q_held (iv 155))))) iv dv cc ss)
  refine pz_G_of pz_b204_0 ?_
  refine w_pure rfl ?_
  refine w_loc (ls' := [some (.inr (.inl 154)), some (.inl 0), none]) (st' := []) rfl ?_
  refine w_pure rfl ?_
  refine w_loc (ls' := [some (.inr (.inl 154)), some (.inl 0), some (.inl 0)]) (st' := []) rfl ?_
  refine w_nil ?_
  have lp4 : ∀ (dd : Nat) (n : Int) (b : Int) , ((iv 155) 1 - b).toNat = dd → ∀ (hb : 0 ≤ b ∧ b ≤ (iv 155) 1), ∀ (hn : n = q_cnt (q_hld (iv 155)) b),  pz_G 204 4 [some (.inr (.inl 154)), some (.inl n), some (.inl b)] [] (pz_Sh L, iv, dv, cc, ss) (pz_P (pz_Sh L) (.inl (some (.inl (q_held (iv 155))))) iv dv cc ss) := by
    intro dd4
    induction dd4 using Nat.strongRecOn with
    | _ dd4 ih4 =>
    intro n b  hd4 hb hn
    have hbr : b < (iv 155) 1 → (-4 ≤ iv 155 (52 + 4 * b + 3).toNat ∧ iv 155 (52 + 4 * b + 3).toNat ≤ 4) ∨ iv 155 (52 + 4 * b + 3).toNat = 99 := fun h => (hk.bd hb.1 h).2.2.2.2
    have hcr := q_cnt_r (q_hld (iv 155)) hb.1
    refine pz_G_of pz_b204_4 ?_
    refine w_loc rfl ?_
    refine w_loc rfl ?_
    refine w_getR (q := 155) is_154 rf_154_1 ?_
    refine w_pure rfl ?_
    refine w_iald (v := (iv 155) 1) is_155 ln_155 ⟨by omega, by omega⟩ rfl ?_
    refine w_ige (fun h1 => ?_) (fun h1 => ?_)
    · refine pz_G_of pz_b204_36 ?_
      refine w_loc rfl ?_
      refine w_ret rfl ?_
      exact lf_i (by rw [hn]; unfold q_held; rw [show b = (iv 155) 1 by omega]) rfl
    · refine w_loc rfl ?_
      refine w_loc rfl ?_
      refine w_loc rfl ?_
      have hc2 : pz_R (pz_Sh L) 203 [.inr (.inl 154), .inl b] (iv) (.inl (some (.inl (pz_bi (q_hld (iv 155) b))))) (iv) := s_X11_holds b (by omega) (by omega)
      refine w_call hc2 rfl (pz_cokI is_154 rfl) ?_
      refine w_beq (fun h3 => ?_) (fun h3 => ?_)
      · refine pz_G_of pz_b204_27 ?_
        refine w_pure rfl ?_
        refine w_nil ?_
        refine pz_G_of pz_b204_28 ?_
        refine w_iadd (by omega) ?_
        refine w_loc (ls' := [some (.inr (.inl 154)), some (.inl (n + 0)), some (.inl b)]) (st' := []) rfl ?_
        refine w_iinc (ls' := [some (.inr (.inl 154)), some (.inl (n + 0)), some (.inl (b + 1))]) rfl rfl rfl (by omega) ?_
        refine w_goto ?_
        exact ih4 _ (by omega) (n + 0) (b + 1)  rfl (by omega) (by rw [q_cnt_s (by omega), hn]; first | rw [pz_bi_1 (by assumption)] | (rw [pz_bi_0 (by assumption)]))
      · refine w_pure rfl ?_
        refine w_goto ?_
        refine pz_G_of pz_b204_28 ?_
        refine w_iadd (by omega) ?_
        refine w_loc (ls' := [some (.inr (.inl 154)), some (.inl (n + 1)), some (.inl b)]) (st' := []) rfl ?_
        refine w_iinc (ls' := [some (.inr (.inl 154)), some (.inl (n + 1)), some (.inl (b + 1))]) rfl rfl rfl (by omega) ?_
        refine w_goto ?_
        exact ih4 _ (by omega) (n + 1) (b + 1)  rfl (by omega) (by rw [q_cnt_s (by omega), hn]; first | rw [pz_bi_1 (by assumption)] | (rw [pz_bi_0 (by assumption)]))
  exact lp4 _ 0 0  rfl (by omega) (by rfl)

theorem s_X11_first {L : Nat} {iv : Nat → Nat → Int} (s : Int) (hs : 0 ≤ s ∧ s ≤ 2) : pz_R (pz_Sh L) 206 [.inr (.inl 154), .inl s] iv (.inl (some (.inl ((iv 155) (212 + 4 * s).toNat)))) iv := by
  intro dv cc ss
  show pz_G 206 0 [some (.inr (.inl 154)), some (.inl s)] [] (pz_Sh L, iv, dv, cc, ss) (pz_P (pz_Sh L) (.inl (some (.inl ((iv 155) (212 + 4 * s).toNat)))) iv dv cc ss)
  refine pz_G_of pz_b206_0 ?_
  refine w_loc rfl ?_
  refine w_getR (q := 155) is_154 rf_154_1 ?_
  refine w_pure rfl ?_
  refine w_pure rfl ?_
  refine w_loc rfl ?_
  refine w_imul (by omega) ?_
  refine w_iadd (by omega) ?_
  refine w_iald (v := (iv 155) (212 + (4 * s)).toNat) is_155 ln_155 ⟨by omega, by omega⟩ rfl ?_
  refine w_ret rfl ?_
  first | exact lf_i (by first | rfl | omega) (by rfl) | (exfalso; omega)

theorem s_X11_endOf {L : Nat} {iv : Nat → Nat → Int} (s : Int) (hs : 0 ≤ s ∧ s ≤ 2) : pz_R (pz_Sh L) 207 [.inr (.inl 154), .inl s] iv (.inl (some (.inl ((iv 155) (212 + 4 * s + 1).toNat)))) iv := by
  intro dv cc ss
  show pz_G 207 0 [some (.inr (.inl 154)), some (.inl s)] [] (pz_Sh L, iv, dv, cc, ss) (pz_P (pz_Sh L) (.inl (some (.inl ((iv 155) (212 + 4 * s + 1).toNat)))) iv dv cc ss)
  refine pz_G_of pz_b207_0 ?_
  refine w_loc rfl ?_
  refine w_getR (q := 155) is_154 rf_154_1 ?_
  refine w_pure rfl ?_
  refine w_pure rfl ?_
  refine w_loc rfl ?_
  refine w_imul (by omega) ?_
  refine w_iadd (by omega) ?_
  refine w_pure rfl ?_
  refine w_iadd (by omega) ?_
  refine w_iald (v := (iv 155) ((212 + (4 * s)) + 1).toNat) is_155 ln_155 ⟨by omega, by omega⟩ rfl ?_
  refine w_ret rfl ?_
  first | exact lf_i (by first | rfl | omega) (by rfl) | (exfalso; omega)

theorem s_X11_least {L : Nat} {iv : Nat → Nat → Int} (s : Int) (hs : 0 ≤ s ∧ s ≤ 2) : pz_R (pz_Sh L) 208 [.inr (.inl 154), .inl s] iv (.inl (some (.inl ((iv 155) (212 + 4 * s + 2).toNat)))) iv := by
  intro dv cc ss
  show pz_G 208 0 [some (.inr (.inl 154)), some (.inl s)] [] (pz_Sh L, iv, dv, cc, ss) (pz_P (pz_Sh L) (.inl (some (.inl ((iv 155) (212 + 4 * s + 2).toNat)))) iv dv cc ss)
  refine pz_G_of pz_b208_0 ?_
  refine w_loc rfl ?_
  refine w_getR (q := 155) is_154 rf_154_1 ?_
  refine w_pure rfl ?_
  refine w_pure rfl ?_
  refine w_loc rfl ?_
  refine w_imul (by omega) ?_
  refine w_iadd (by omega) ?_
  refine w_pure rfl ?_
  refine w_iadd (by omega) ?_
  refine w_iald (v := (iv 155) ((212 + (4 * s)) + 2).toNat) is_155 ln_155 ⟨by omega, by omega⟩ rfl ?_
  refine w_ret rfl ?_
  first | exact lf_i (by first | rfl | omega) (by rfl) | (exfalso; omega)

theorem s_X11_greatest {L : Nat} {iv : Nat → Nat → Int} (s : Int) (hs : 0 ≤ s ∧ s ≤ 2) : pz_R (pz_Sh L) 209 [.inr (.inl 154), .inl s] iv (.inl (some (.inl ((iv 155) (212 + 4 * s + 3).toNat)))) iv := by
  intro dv cc ss
  show pz_G 209 0 [some (.inr (.inl 154)), some (.inl s)] [] (pz_Sh L, iv, dv, cc, ss) (pz_P (pz_Sh L) (.inl (some (.inl ((iv 155) (212 + 4 * s + 3).toNat)))) iv dv cc ss)
  refine pz_G_of pz_b209_0 ?_
  refine w_loc rfl ?_
  refine w_getR (q := 155) is_154 rf_154_1 ?_
  refine w_pure rfl ?_
  refine w_pure rfl ?_
  refine w_loc rfl ?_
  refine w_imul (by omega) ?_
  refine w_iadd (by omega) ?_
  refine w_pure rfl ?_
  refine w_iadd (by omega) ?_
  refine w_iald (v := (iv 155) ((212 + (4 * s)) + 3).toNat) is_155 ln_155 ⟨by omega, by omega⟩ rfl ?_
  refine w_ret rfl ?_
  first | exact lf_i (by first | rfl | omega) (by rfl) | (exfalso; omega)

theorem s_X11_hasEnded {L : Nat} {iv : Nat → Nat → Int} (s : Int) (hk : q_KR (iv 155)) (hs : 0 ≤ s ∧ s < (iv 155) 2) : pz_R (pz_Sh L) 210 [.inr (.inl 154), .inl s] iv (.inl (some (.inl (pz_bi (q_sta (iv 155) ((iv 155) (212 + 4 * s + 1).toNat)))))) iv := by
  intro dv cc ss
  have hk0 := hk.r0
  have hsp := hk.sp (s := s) (by omega) (by omega)
  show pz_G 210 0 [some (.inr (.inl 154)), some (.inl s)] [] (pz_Sh L, iv, dv, cc, ss) (pz_P (pz_Sh L) (.inl (some (.inl (pz_bi (q_sta (iv 155) ((iv 155) (212 + 4 * s + 1).toNat)))))) iv dv cc ss)
  refine pz_G_of pz_b210_0 ?_
  refine w_loc rfl ?_
  refine w_loc rfl ?_
  refine w_loc rfl ?_
  have hc1 : pz_R (pz_Sh L) 207 [.inr (.inl 154), .inl s] (iv) (.inl (some (.inl ((iv 155) (212 + 4 * s + 1).toNat)))) (iv) := s_X11_endOf s (by omega)
  refine w_call hc1 rfl (pz_cokI is_154 rfl) ?_
  have hc2 : pz_R (pz_Sh L) 196 [.inr (.inl 154), .inl ((iv 155) (212 + 4 * s + 1).toNat)] (iv) (.inl (some (.inl (pz_bi (q_sta (iv 155) ((iv 155) (212 + 4 * s + 1).toNat)))))) (iv) := s_X11_hasStarted ((iv 155) (212 + 4 * s + 1).toNat) (by omega)
  refine w_call hc2 rfl (pz_cokI is_154 rfl) ?_
  refine w_ret (pz_rok1 (pz_bi01 _)) ?_
  first | exact lf_i (pz_bi_iff (by omega)) (by rfl) | (exfalso; omega)

theorem s_X11_isEnd {L : Nat} {iv : Nat → Nat → Int} (e : Int) (hk : q_KR (iv 155)) : pz_R (pz_Sh L) 211 [.inr (.inl 154), .inl e] iv (.inl (some (.inl (pz_bi (q_exi (fun s => (iv 155) (212 + 4 * s + 1).toNat = e) ((iv 155) 2)))))) iv := by
  intro dv cc ss
  have hk0 := hk.r0
  show pz_G 211 0 [some (.inr (.inl 154)), some (.inl e), none, none] [] (pz_Sh L, iv, dv, cc, ss) (pz_P (pz_Sh L) (.inl (some (.inl (pz_bi (q_exi (fun s => (iv 155) (212 + 4 * s + 1).toNat = e) ((iv 155) 2)))))) iv dv cc ss)
  refine pz_G_of pz_b211_0 ?_
  refine w_pure rfl ?_
  refine w_loc (ls' := [some (.inr (.inl 154)), some (.inl e), some (.inl 0), none]) (st' := []) rfl ?_
  refine w_pure rfl ?_
  refine w_loc (ls' := [some (.inr (.inl 154)), some (.inl e), some (.inl 0), some (.inl 0)]) (st' := []) rfl ?_
  refine w_nil ?_
  have lp4 : ∀ (dd : Nat) (z : Int) (s : Int) , ((iv 155) 2 - s).toNat = dd → ∀ (his : 0 ≤ s ∧ s ≤ (iv 155) 2), ∀ (hz : z = pz_bi (q_exi (fun s => iv 155 (212 + 4 * s + 1).toNat = e) s)),  pz_G 211 4 [some (.inr (.inl 154)), some (.inl e), some (.inl z), some (.inl s)] [] (pz_Sh L, iv, dv, cc, ss) (pz_P (pz_Sh L) (.inl (some (.inl (pz_bi (q_exi (fun s => (iv 155) (212 + 4 * s + 1).toNat = e) ((iv 155) 2)))))) iv dv cc ss) := by
    intro dd4
    induction dd4 using Nat.strongRecOn with
    | _ dd4 ih4 =>
    intro z s  hd4 his hz
    refine pz_G_of pz_b211_4 ?_
    refine w_loc rfl ?_
    refine w_loc rfl ?_
    refine w_getR (q := 155) is_154 rf_154_1 ?_
    refine w_pure rfl ?_
    refine w_iald (v := (iv 155) 2) is_155 ln_155 ⟨by omega, by omega⟩ rfl ?_
    refine w_ige (fun h1 => ?_) (fun h1 => ?_)
    · refine pz_G_of pz_b211_39 ?_
      refine w_loc rfl ?_
      refine w_ret (pz_rok1 (by first | omega | (rw [hz]; exact pz_bi01 _))) ?_
      exact lf_i (by rw [hz, show s = (iv 155) 2 by omega]) rfl
    · refine w_loc rfl ?_
      refine w_zne (fun h2 => ?_) (fun h2 => ?_)
      · refine pz_G_of pz_b211_27 ?_
        refine w_pure rfl ?_
        refine w_goto ?_
        refine pz_G_of pz_b211_32 ?_
        refine w_loc (ls' := [some (.inr (.inl 154)), some (.inl e), some (.inl 1), some (.inl s)]) (st' := []) rfl ?_
        refine w_iinc (ls' := [some (.inr (.inl 154)), some (.inl e), some (.inl 1), some (.inl (s + 1))]) rfl rfl rfl (by omega) ?_
        refine w_goto ?_
        exact ih4 _ (by omega) 1 (s + 1)  rfl (by omega) (by first | exact q_exi_t1 hz (by omega) (by omega) | exact q_exi_t2 (by omega) (by first | omega | (dsimp only; omega)) | exact q_exi_f hz (by omega) (by omega) (by first | omega | (dsimp only; omega)))
      · refine w_loc rfl ?_
        refine w_loc rfl ?_
        have hc3 : pz_R (pz_Sh L) 207 [.inr (.inl 154), .inl s] (iv) (.inl (some (.inl ((iv 155) (212 + 4 * s + 1).toNat)))) (iv) := s_X11_endOf s (by omega)
        refine w_call hc3 rfl (pz_cokI is_154 rfl) ?_
        refine w_loc rfl ?_
        refine w_ine (fun h4 => ?_) (fun h4 => ?_)
        · refine pz_G_of pz_b211_31 ?_
          refine w_pure rfl ?_
          refine w_nil ?_
          refine pz_G_of pz_b211_32 ?_
          refine w_loc (ls' := [some (.inr (.inl 154)), some (.inl e), some (.inl 0), some (.inl s)]) (st' := []) rfl ?_
          refine w_iinc (ls' := [some (.inr (.inl 154)), some (.inl e), some (.inl 0), some (.inl (s + 1))]) rfl rfl rfl (by omega) ?_
          refine w_goto ?_
          exact ih4 _ (by omega) 0 (s + 1)  rfl (by omega) (by first | exact q_exi_t1 hz (by omega) (by omega) | exact q_exi_t2 (by omega) (by first | omega | (dsimp only; omega)) | exact q_exi_f hz (by omega) (by omega) (by first | omega | (dsimp only; omega)))
        · refine w_nil ?_
          refine pz_G_of pz_b211_27 ?_
          refine w_pure rfl ?_
          refine w_goto ?_
          refine pz_G_of pz_b211_32 ?_
          refine w_loc (ls' := [some (.inr (.inl 154)), some (.inl e), some (.inl 1), some (.inl s)]) (st' := []) rfl ?_
          refine w_iinc (ls' := [some (.inr (.inl 154)), some (.inl e), some (.inl 1), some (.inl (s + 1))]) rfl rfl rfl (by omega) ?_
          refine w_goto ?_
          exact ih4 _ (by omega) 1 (s + 1)  rfl (by omega) (by first | exact q_exi_t1 hz (by omega) (by omega) | exact q_exi_t2 (by omega) (by first | omega | (dsimp only; omega)) | exact q_exi_f hz (by omega) (by omega) (by first | omega | (dsimp only; omega)))
  exact lp4 _ 0 0  rfl (by omega) (by exact q_exi_0 (by omega))

theorem s_X11_addEvent_1 {L : Nat} {iv : Nat → Nat → Int} (hk : q_KR (iv 155)) (hcase0 : iv 155 0 = 10) : pz_R (pz_Sh L) 197 [.inr (.inl 154)] iv (.inl (some (.inl 0))) (pz_u1 (pz_u1 iv 154 (pz_up (iv 154) 0 1)) 155 (iv 155)) := by
  intro dv cc ss
  have hk0 := hk.r0
  refine pz_G_mem (iv2 := pz_u1 (pz_u1 iv 154 (iv 154)) 155 (iv 155)) (by exact ((pz_u1_self iv 154).symm).trans (pz_u1_self (pz_u1 iv 154 (iv 154)) 155).symm) ?_
  show pz_G 197 0 [some (.inr (.inl 154))] [] (pz_Sh L, pz_u1 (pz_u1 iv 154 (iv 154)) 155 (iv 155), dv, cc, ss) (pz_P (pz_Sh L) (.inl (some (.inl 0))) (pz_u1 (pz_u1 iv 154 (pz_up (iv 154) 0 1)) 155 (iv 155)) dv cc ss)
  refine pz_G_of pz_b197_0 ?_
  refine w_loc rfl ?_
  refine w_getR (q := 155) is_154 rf_154_1 ?_
  refine w_pure rfl ?_
  refine w_iald (v := (iv 155) 0) is_155 ln_155 ⟨by omega, by omega⟩ rfl ?_
  refine w_pure rfl ?_
  refine w_ine (fun h1 => ?_) (fun h1 => ?_)
  · first
    | (exfalso; first | omega | contradiction)
    | (refine pz_G_of pz_b197_17 ?_
       refine w_loc rfl ?_
       refine w_getR (q := 155) is_154 rf_154_1 ?_
       refine w_pure rfl ?_
       refine w_pure rfl ?_
       refine w_iald (v := (iv 155) 0) is_155 ln_155 ⟨by omega, by omega⟩ rfl ?_
       refine w_pure rfl ?_
       refine w_iadd (by omega) ?_
       refine w_iastm (iv2 := pz_u1 (pz_u1 iv 154 (iv 154)) 155 (pz_up (iv 155) 0 (((iv 155) 0) + 1))) is_155 ln_155 ⟨by omega, by omega⟩ (by exact pz_u2_top _ _ _ _ _) ?_
       refine w_loc rfl ?_
       refine w_loc rfl ?_
       refine w_getR (q := 155) is_154 rf_154_1 ?_
       refine w_pure rfl ?_
       refine w_iald (v := ((iv 155) 0) + 1) is_155 ln_155 ⟨by omega, by omega⟩ rfl ?_
       refine w_pure rfl ?_
       refine w_isub (by omega) ?_
       have hc2 : pz_R (pz_Sh L) 192 [.inr (.inl 154), .inl ((((iv 155) 0) + 1) - 1)] (pz_u1 (pz_u1 iv 154 (iv 154)) 155 (pz_up (iv 155) 0 (((iv 155) 0) + 1))) (.inl (some (.inl ((((iv 155) 0) + 1) - 1)))) (pz_u1 (pz_u1 iv 154 (pz_up (iv 154) 0 0)) 155 (pz_up (iv 155) 0 (((iv 155) 0) + 1))) := pz_R_mem (s_X11_tells ((((iv 155) 0) + 1) - 1)) (by rw [pz_u1_in (r := 154) (q := 155) (by decide)]; rw [pz_u1_top (r := 154)]; rfl)
       refine w_call hc2 rfl (pz_cokI is_154 rfl) ?_
       refine w_ret rfl ?_
       first | exact lf_i (by first | rfl | (show iv 155 0 + 1 - 1 = iv 155 0; omega)) rfl | (exfalso; omega))
  · first
    | (exfalso; first | omega | contradiction)
    | (refine w_loc rfl ?_
       refine w_pure rfl ?_
       have hc3 : pz_R (pz_Sh L) 191 [.inr (.inl 154), .inl 1] (pz_u1 (pz_u1 iv 154 (iv 154)) 155 (iv 155)) (.inl (some (.inl 0))) (pz_u1 (pz_u1 iv 154 (pz_up (iv 154) 0 1)) 155 (iv 155)) := pz_R_mem (s_X11_fails 1) (by rw [pz_u1_in (r := 154) (q := 155) (by decide)]; rw [pz_u1_top (r := 154)]; rfl)
       refine w_call hc3 rfl (pz_cokI is_154 rfl) ?_
       refine w_ret rfl ?_
       first | exact lf_i (by first | rfl | (show iv 155 0 + 1 - 1 = iv 155 0; omega)) rfl | (exfalso; omega))

theorem s_X11_addEvent_0 {L : Nat} {iv : Nat → Nat → Int} (hk : q_KR (iv 155)) (hcase0 : iv 155 0 ≠ 10) : pz_R (pz_Sh L) 197 [.inr (.inl 154)] iv (.inl (some (.inl ((iv 155) 0)))) (pz_u1 (pz_u1 iv 154 (pz_up (iv 154) 0 0)) 155 (pz_up (iv 155) 0 ((iv 155) 0 + 1))) := by
  intro dv cc ss
  have hk0 := hk.r0
  refine pz_G_mem (iv2 := pz_u1 (pz_u1 iv 154 (iv 154)) 155 (iv 155)) (by exact ((pz_u1_self iv 154).symm).trans (pz_u1_self (pz_u1 iv 154 (iv 154)) 155).symm) ?_
  show pz_G 197 0 [some (.inr (.inl 154))] [] (pz_Sh L, pz_u1 (pz_u1 iv 154 (iv 154)) 155 (iv 155), dv, cc, ss) (pz_P (pz_Sh L) (.inl (some (.inl ((iv 155) 0)))) (pz_u1 (pz_u1 iv 154 (pz_up (iv 154) 0 0)) 155 (pz_up (iv 155) 0 ((iv 155) 0 + 1))) dv cc ss)
  refine pz_G_of pz_b197_0 ?_
  refine w_loc rfl ?_
  refine w_getR (q := 155) is_154 rf_154_1 ?_
  refine w_pure rfl ?_
  refine w_iald (v := (iv 155) 0) is_155 ln_155 ⟨by omega, by omega⟩ rfl ?_
  refine w_pure rfl ?_
  refine w_ine (fun h1 => ?_) (fun h1 => ?_)
  · first
    | (exfalso; first | omega | contradiction)
    | (refine pz_G_of pz_b197_17 ?_
       refine w_loc rfl ?_
       refine w_getR (q := 155) is_154 rf_154_1 ?_
       refine w_pure rfl ?_
       refine w_pure rfl ?_
       refine w_iald (v := (iv 155) 0) is_155 ln_155 ⟨by omega, by omega⟩ rfl ?_
       refine w_pure rfl ?_
       refine w_iadd (by omega) ?_
       refine w_iastm (iv2 := pz_u1 (pz_u1 iv 154 (iv 154)) 155 (pz_up (iv 155) 0 (((iv 155) 0) + 1))) is_155 ln_155 ⟨by omega, by omega⟩ (by exact pz_u2_top _ _ _ _ _) ?_
       refine w_loc rfl ?_
       refine w_loc rfl ?_
       refine w_getR (q := 155) is_154 rf_154_1 ?_
       refine w_pure rfl ?_
       refine w_iald (v := ((iv 155) 0) + 1) is_155 ln_155 ⟨by omega, by omega⟩ rfl ?_
       refine w_pure rfl ?_
       refine w_isub (by omega) ?_
       have hc2 : pz_R (pz_Sh L) 192 [.inr (.inl 154), .inl ((((iv 155) 0) + 1) - 1)] (pz_u1 (pz_u1 iv 154 (iv 154)) 155 (pz_up (iv 155) 0 (((iv 155) 0) + 1))) (.inl (some (.inl ((((iv 155) 0) + 1) - 1)))) (pz_u1 (pz_u1 iv 154 (pz_up (iv 154) 0 0)) 155 (pz_up (iv 155) 0 (((iv 155) 0) + 1))) := pz_R_mem (s_X11_tells ((((iv 155) 0) + 1) - 1)) (by rw [pz_u1_in (r := 154) (q := 155) (by decide)]; rw [pz_u1_top (r := 154)]; rfl)
       refine w_call hc2 rfl (pz_cokI is_154 rfl) ?_
       refine w_ret rfl ?_
       first | exact lf_i (by first | rfl | (show iv 155 0 + 1 - 1 = iv 155 0; omega)) rfl | (exfalso; omega))
  · first
    | (exfalso; first | omega | contradiction)
    | (refine w_loc rfl ?_
       refine w_pure rfl ?_
       have hc3 : pz_R (pz_Sh L) 191 [.inr (.inl 154), .inl 1] (pz_u1 (pz_u1 iv 154 (iv 154)) 155 (iv 155)) (.inl (some (.inl 0))) (pz_u1 (pz_u1 iv 154 (pz_up (iv 154) 0 1)) 155 (iv 155)) := pz_R_mem (s_X11_fails 1) (by rw [pz_u1_in (r := 154) (q := 155) (by decide)]; rw [pz_u1_top (r := 154)]; rfl)
       refine w_call hc3 rfl (pz_cokI is_154 rfl) ?_
       refine w_ret rfl ?_
       first | exact lf_i (by first | rfl | (show iv 155 0 + 1 - 1 = iv 155 0; omega)) rfl | (exfalso; omega))

theorem s_X11_tellsBound {L : Nat} {iv : Nat → Nat → Int} (f : Int) (t : Int) (w : Int) (l : Int) (hk : q_KR (iv 155)) (hn : (iv 155) 1 < 40) : pz_R (pz_Sh L) 198 [.inr (.inl 154), .inl f, .inl t, .inl w, .inl l] iv (.inl (some (.inl ((iv 155) 1)))) (pz_u1 iv 155 (q_tell (iv 155) f t w l)) := by
  intro dv cc ss
  have hk0 := hk.r0
  refine pz_G_mem (iv2 := pz_u1 iv 155 (iv 155)) (by exact (pz_u1_self iv 155).symm) ?_
  show pz_G 198 0 [some (.inr (.inl 154)), some (.inl f), some (.inl t), some (.inl w), some (.inl l), none] [] (pz_Sh L, pz_u1 iv 155 (iv 155), dv, cc, ss) (pz_P (pz_Sh L) (.inl (some (.inl ((iv 155) 1)))) (pz_u1 iv 155 (q_tell (iv 155) f t w l)) dv cc ss)
  refine pz_G_of pz_b198_0 ?_
  refine w_pure rfl ?_
  refine w_pure rfl ?_
  refine w_loc rfl ?_
  refine w_getR (q := 155) is_154 rf_154_1 ?_
  refine w_pure rfl ?_
  refine w_iald (v := (iv 155) 1) is_155 ln_155 ⟨by omega, by omega⟩ rfl ?_
  refine w_imul (by omega) ?_
  refine w_iadd (by omega) ?_
  refine w_loc (ls' := [some (.inr (.inl 154)), some (.inl f), some (.inl t), some (.inl w), some (.inl l), some (.inl (52 + (4 * ((iv 155) 1))))]) (st' := []) rfl ?_
  refine w_loc rfl ?_
  refine w_getR (q := 155) is_154 rf_154_1 ?_
  refine w_loc rfl ?_
  refine w_loc rfl ?_
  refine w_iastm (iv2 := pz_u1 iv 155 (pz_up (iv 155) (52 + (4 * ((iv 155) 1))).toNat f)) is_155 ln_155 ⟨by omega, by omega⟩ (by exact pz_u2_top _ _ _ _ _) ?_
  refine w_loc rfl ?_
  refine w_getR (q := 155) is_154 rf_154_1 ?_
  refine w_loc rfl ?_
  refine w_pure rfl ?_
  refine w_iadd (by omega) ?_
  refine w_loc rfl ?_
  refine w_iastm (iv2 := pz_u1 iv 155 (pz_up (pz_up (iv 155) (52 + (4 * ((iv 155) 1))).toNat f) ((52 + (4 * ((iv 155) 1))) + 1).toNat t)) is_155 ln_155 ⟨by omega, by omega⟩ (by exact pz_u2_top _ _ _ _ _) ?_
  refine w_loc rfl ?_
  refine w_getR (q := 155) is_154 rf_154_1 ?_
  refine w_loc rfl ?_
  refine w_pure rfl ?_
  refine w_iadd (by omega) ?_
  refine w_loc rfl ?_
  refine w_iastm (iv2 := pz_u1 iv 155 (pz_up (pz_up (pz_up (iv 155) (52 + (4 * ((iv 155) 1))).toNat f) ((52 + (4 * ((iv 155) 1))) + 1).toNat t) ((52 + (4 * ((iv 155) 1))) + 2).toNat w)) is_155 ln_155 ⟨by omega, by omega⟩ (by exact pz_u2_top _ _ _ _ _) ?_
  refine w_loc rfl ?_
  refine w_getR (q := 155) is_154 rf_154_1 ?_
  refine w_loc rfl ?_
  refine w_pure rfl ?_
  refine w_iadd (by omega) ?_
  refine w_loc rfl ?_
  refine w_iastm (iv2 := pz_u1 iv 155 (pz_up (pz_up (pz_up (pz_up (iv 155) (52 + (4 * ((iv 155) 1))).toNat f) ((52 + (4 * ((iv 155) 1))) + 1).toNat t) ((52 + (4 * ((iv 155) 1))) + 2).toNat w) ((52 + (4 * ((iv 155) 1))) + 3).toNat l)) is_155 ln_155 ⟨by omega, by omega⟩ (by exact pz_u2_top _ _ _ _ _) ?_
  refine w_loc rfl ?_
  refine w_getR (q := 155) is_154 rf_154_1 ?_
  refine w_pure rfl ?_
  refine w_pure rfl ?_
  refine w_iald (v := (iv 155) 1) is_155 ln_155 ⟨by omega, by omega⟩ (by show (pz_up (pz_up (pz_up (pz_up (iv 155) (52 + (4 * ((iv 155) 1))).toNat f) ((52 + (4 * ((iv 155) 1))) + 1).toNat t) ((52 + (4 * ((iv 155) 1))) + 2).toNat w) ((52 + (4 * ((iv 155) 1))) + 3).toNat l) 1 = _; rw [pz_up_ne (by omega), pz_up_ne (by omega), pz_up_ne (by omega), pz_up_ne (by omega)]) ?_
  refine w_pure rfl ?_
  refine w_iadd (by omega) ?_
  refine w_iastm (iv2 := pz_u1 iv 155 (pz_up (pz_up (pz_up (pz_up (pz_up (iv 155) (52 + (4 * ((iv 155) 1))).toNat f) ((52 + (4 * ((iv 155) 1))) + 1).toNat t) ((52 + (4 * ((iv 155) 1))) + 2).toNat w) ((52 + (4 * ((iv 155) 1))) + 3).toNat l) 1 (((iv 155) 1) + 1))) is_155 ln_155 ⟨by omega, by omega⟩ (by exact pz_u2_top _ _ _ _ _) ?_
  refine w_loc rfl ?_
  refine w_getR (q := 155) is_154 rf_154_1 ?_
  refine w_pure rfl ?_
  refine w_iald (v := ((iv 155) 1) + 1) is_155 ln_155 ⟨by omega, by omega⟩ rfl ?_
  refine w_pure rfl ?_
  refine w_isub (by omega) ?_
  refine w_ret rfl ?_
  first | exact lf_i (by show iv 155 1 + 1 - 1 = iv 155 1; omega) rfl | (exfalso; omega)
