
theorem s_J_max {L : Nat} {iv : Nat → Nat → Int} (x : Int) (y : Int) : pz_R (pz_Sh L) 1 [.inl x, .inl y] iv (.inl (some (.inl (max x y)))) iv := by
  intro dv cc ss
  show pz_G 1 0 [some (.inl x), some (.inl y)] [] (pz_Sh L, iv, dv, cc, ss) (pz_P (pz_Sh L) (.inl (some (.inl (max x y)))) iv dv cc ss)
  refine pz_G_of pz_b1_0 ?_
  refine w_loc rfl ?_
  refine w_loc rfl ?_
  refine w_ilt (fun h1 => ?_) (fun h1 => ?_)
  · refine pz_G_of pz_b1_9 ?_
    refine w_loc rfl ?_
    refine w_nil ?_
    refine pz_G_of pz_b1_10 ?_
    refine w_ret rfl ?_
    first | exact lf_i (by first | rfl | omega) (by rfl) | (exfalso; omega)
  · refine w_loc rfl ?_
    refine w_goto ?_
    refine pz_G_of pz_b1_10 ?_
    refine w_ret rfl ?_
    first | exact lf_i (by first | rfl | omega) (by rfl) | (exfalso; omega)

theorem s_J_min {L : Nat} {iv : Nat → Nat → Int} (x : Int) (y : Int) : pz_R (pz_Sh L) 2 [.inl x, .inl y] iv (.inl (some (.inl (min x y)))) iv := by
  intro dv cc ss
  show pz_G 2 0 [some (.inl x), some (.inl y)] [] (pz_Sh L, iv, dv, cc, ss) (pz_P (pz_Sh L) (.inl (some (.inl (min x y)))) iv dv cc ss)
  refine pz_G_of pz_b2_0 ?_
  refine w_loc rfl ?_
  refine w_loc rfl ?_
  refine w_igt (fun h1 => ?_) (fun h1 => ?_)
  · refine pz_G_of pz_b2_9 ?_
    refine w_loc rfl ?_
    refine w_nil ?_
    refine pz_G_of pz_b2_10 ?_
    refine w_ret rfl ?_
    first | exact lf_i (by first | rfl | omega) (by rfl) | (exfalso; omega)
  · refine w_loc rfl ?_
    refine w_goto ?_
    refine pz_G_of pz_b2_10 ?_
    refine w_ret rfl ?_
    first | exact lf_i (by first | rfl | omega) (by rfl) | (exfalso; omega)

theorem s_X10_isWithin {L : Nat} {iv : Nat → Nat → Int} (x : Int) (lo : Int) (hi : Int) : pz_R (pz_Sh L) 185 [.inl x, .inl lo, .inl hi] iv (.inl (some (.inl (pz_bi (lo ≤ x ∧ x ≤ hi))))) iv := by
  intro dv cc ss
  show pz_G 185 0 [some (.inl x), some (.inl lo), some (.inl hi)] [] (pz_Sh L, iv, dv, cc, ss) (pz_P (pz_Sh L) (.inl (some (.inl (pz_bi (lo ≤ x ∧ x ≤ hi))))) iv dv cc ss)
  refine pz_G_of pz_b185_0 ?_
  refine w_loc rfl ?_
  refine w_loc rfl ?_
  refine w_ilt (fun h1 => ?_) (fun h1 => ?_)
  · refine pz_G_of pz_b185_14 ?_
    refine w_pure rfl ?_
    refine w_nil ?_
    refine pz_G_of pz_b185_15 ?_
    refine w_ret (pz_rok1 (Or.inl rfl)) ?_
    first | exact lf_i (pz_bi_f (by omega)) (by rfl) | (exfalso; omega)
  · refine w_loc rfl ?_
    refine w_loc rfl ?_
    refine w_igt (fun h2 => ?_) (fun h2 => ?_)
    · refine pz_G_of pz_b185_14 ?_
      refine w_pure rfl ?_
      refine w_nil ?_
      refine pz_G_of pz_b185_15 ?_
      refine w_ret (pz_rok1 (Or.inl rfl)) ?_
      first | exact lf_i (pz_bi_f (by omega)) (by rfl) | (exfalso; omega)
    · refine w_pure rfl ?_
      refine w_goto ?_
      refine pz_G_of pz_b185_15 ?_
      refine w_ret (pz_rok1 (Or.inr rfl)) ?_
      first | exact lf_i (pz_bi_t (by omega)) (by rfl) | (exfalso; omega)

theorem s_X10_bit {L : Nat} {iv : Nat → Nat → Int} (i : Int) : pz_R (pz_Sh L) 186 [.inl i] iv (.inl (some (.inl (pz_shl 1 i)))) iv := by
  intro dv cc ss
  show pz_G 186 0 [some (.inl i)] [] (pz_Sh L, iv, dv, cc, ss) (pz_P (pz_Sh L) (.inl (some (.inl (pz_shl 1 i)))) iv dv cc ss)
  refine pz_G_of pz_b186_0 ?_
  refine w_pure rfl ?_
  refine w_loc rfl ?_
  refine w_ishl ?_
  refine w_ret rfl ?_
  first | exact lf_i (by first | rfl | omega) (by rfl) | (exfalso; omega)

theorem s_X10_isEventNumber {L : Nat} {iv : Nat → Nat → Int} (e : Int) : pz_R (pz_Sh L) 187 [.inl e] iv (.inl (some (.inl (pz_bi (0 ≤ e ∧ e < 10))))) iv := by
  intro dv cc ss
  show pz_G 187 0 [some (.inl e)] [] (pz_Sh L, iv, dv, cc, ss) (pz_P (pz_Sh L) (.inl (some (.inl (pz_bi (0 ≤ e ∧ e < 10))))) iv dv cc ss)
  refine pz_G_of pz_b187_0 ?_
  refine w_loc rfl ?_
  refine w_zlt (fun h1 => ?_) (fun h1 => ?_)
  · refine pz_G_of pz_b187_14 ?_
    refine w_pure rfl ?_
    refine w_nil ?_
    refine pz_G_of pz_b187_15 ?_
    refine w_ret (pz_rok1 (Or.inl rfl)) ?_
    first | exact lf_i (pz_bi_f (by omega)) (by rfl) | (exfalso; omega)
  · refine w_loc rfl ?_
    refine w_pure rfl ?_
    refine w_ige (fun h2 => ?_) (fun h2 => ?_)
    · refine pz_G_of pz_b187_14 ?_
      refine w_pure rfl ?_
      refine w_nil ?_
      refine pz_G_of pz_b187_15 ?_
      refine w_ret (pz_rok1 (Or.inl rfl)) ?_
      first | exact lf_i (pz_bi_f (by omega)) (by rfl) | (exfalso; omega)
    · refine w_pure rfl ?_
      refine w_goto ?_
      refine pz_G_of pz_b187_15 ?_
      refine w_ret (pz_rok1 (Or.inr rfl)) ?_
      first | exact lf_i (pz_bi_t (by omega)) (by rfl) | (exfalso; omega)

theorem s_X2_startOf_15 {L : Nat} {iv : Nat → Nat → Int} (e : Int) {k : Nat → Int} (hk : q_KR k) (hC : q_cC k (iv 15) (iv 16)) (he : 0 ≤ e ∧ e ≤ 9) : pz_R (pz_Sh L) 25 [.inr (.inl 15), .inl e] iv (.inl (some (.inl (k (6 + e).toNat)))) iv := by
  intro dv cc ss
  have hk0 := hk.r0
  have hC0 := hC.1
  have hCe := hC.2 e he.1 he.2
  show pz_G 25 0 [some (.inr (.inl 15)), some (.inl e)] [] (pz_Sh L, iv, dv, cc, ss) (pz_P (pz_Sh L) (.inl (some (.inl (k (6 + e).toNat)))) iv dv cc ss)
  refine pz_G_of pz_b25_0 ?_
  refine w_loc rfl ?_
  refine w_zlt (fun h1 => ?_) (fun h1 => ?_)
  · refine pz_G_of pz_b25_19 ?_
    refine w_pure rfl ?_
    refine w_nil ?_
    refine pz_G_of pz_b25_20 ?_
    refine w_ret rfl ?_
    first | exact lf_i (by first | rfl | omega) (by rfl) | (exfalso; omega)
  · refine w_loc rfl ?_
    refine w_pure rfl ?_
    refine w_ige (fun h2 => ?_) (fun h2 => ?_)
    · refine pz_G_of pz_b25_19 ?_
      refine w_pure rfl ?_
      refine w_nil ?_
      refine pz_G_of pz_b25_20 ?_
      refine w_ret rfl ?_
      first | exact lf_i (by first | rfl | omega) (by rfl) | (exfalso; omega)
    · refine w_loc rfl ?_
      refine w_getR (q := 16) is_15 rf_15_1 ?_
      refine w_loc rfl ?_
      refine w_iald (v := (iv 16) e.toNat) is_16 ln_16 ⟨by omega, by omega⟩ rfl ?_
      refine w_goto ?_
      refine pz_G_of pz_b25_20 ?_
      refine w_ret rfl ?_
      first | exact lf_i (by first | rfl | omega) (by rfl) | (exfalso; omega)

theorem s_X2_hasStarted_15 {L : Nat} {iv : Nat → Nat → Int} (e : Int) {k : Nat → Int} (hk : q_KR k) (hC : q_cC k (iv 15) (iv 16)) (he : 0 ≤ e ∧ e ≤ 9) : pz_R (pz_Sh L) 26 [.inr (.inl 15), .inl e] iv (.inl (some (.inl (pz_bi (q_sta k e))))) iv := by
  intro dv cc ss
  have hk0 := hk.r0
  have hC0 := hC.1
  have hCe := hC.2 e he.1 he.2
  show pz_G 26 0 [some (.inr (.inl 15)), some (.inl e)] [] (pz_Sh L, iv, dv, cc, ss) (pz_P (pz_Sh L) (.inl (some (.inl (pz_bi (q_sta k e))))) iv dv cc ss)
  refine pz_G_of pz_b26_0 ?_
  refine w_loc rfl ?_
  refine w_zlt (fun h1 => ?_) (fun h1 => ?_)
  · refine pz_G_of pz_b26_24 ?_
    refine w_pure rfl ?_
    refine w_nil ?_
    refine pz_G_of pz_b26_25 ?_
    refine w_ret (pz_rok1 (Or.inl rfl)) ?_
    first | exact lf_i (pz_bi_f (by omega)) (by rfl) | (exfalso; omega)
  · refine w_loc rfl ?_
    refine w_pure rfl ?_
    refine w_ige (fun h2 => ?_) (fun h2 => ?_)
    · refine pz_G_of pz_b26_24 ?_
      refine w_pure rfl ?_
      refine w_nil ?_
      refine pz_G_of pz_b26_25 ?_
      refine w_ret (pz_rok1 (Or.inl rfl)) ?_
      first | exact lf_i (pz_bi_f (by omega)) (by rfl) | (exfalso; omega)
    · refine w_loc rfl ?_
      refine w_getR (q := 16) is_15 rf_15_1 ?_
      refine w_loc rfl ?_
      refine w_iald (v := (iv 16) e.toNat) is_16 ln_16 ⟨by omega, by omega⟩ rfl ?_
      refine w_pure rfl ?_
      refine w_ieq (fun h3 => ?_) (fun h3 => ?_)
      · refine pz_G_of pz_b26_24 ?_
        refine w_pure rfl ?_
        refine w_nil ?_
        refine pz_G_of pz_b26_25 ?_
        refine w_ret (pz_rok1 (Or.inl rfl)) ?_
        first | exact lf_i (pz_bi_f (by omega)) (by rfl) | (exfalso; omega)
      · refine w_pure rfl ?_
        refine w_goto ?_
        refine pz_G_of pz_b26_25 ?_
        refine w_ret (pz_rok1 (Or.inr rfl)) ?_
        first | exact lf_i (pz_bi_t (by omega)) (by rfl) | (exfalso; omega)

theorem s_X2_startOf_152 {L : Nat} {iv : Nat → Nat → Int} (e : Int) (he : 0 ≤ e ∧ e ≤ 9) : pz_R (pz_Sh L) 25 [.inr (.inl 152), .inl e] iv (.inl (some (.inl ((iv 153) e.toNat)))) iv := by
  intro dv cc ss
  show pz_G 25 0 [some (.inr (.inl 152)), some (.inl e)] [] (pz_Sh L, iv, dv, cc, ss) (pz_P (pz_Sh L) (.inl (some (.inl ((iv 153) e.toNat)))) iv dv cc ss)
  refine pz_G_of pz_b25_0 ?_
  refine w_loc rfl ?_
  refine w_zlt (fun h1 => ?_) (fun h1 => ?_)
  · refine pz_G_of pz_b25_19 ?_
    refine w_pure rfl ?_
    refine w_nil ?_
    refine pz_G_of pz_b25_20 ?_
    refine w_ret rfl ?_
    first | exact lf_i (by first | rfl | omega) (by rfl) | (exfalso; omega)
  · refine w_loc rfl ?_
    refine w_pure rfl ?_
    refine w_ige (fun h2 => ?_) (fun h2 => ?_)
    · refine pz_G_of pz_b25_19 ?_
      refine w_pure rfl ?_
      refine w_nil ?_
      refine pz_G_of pz_b25_20 ?_
      refine w_ret rfl ?_
      first | exact lf_i (by first | rfl | omega) (by rfl) | (exfalso; omega)
    · refine w_loc rfl ?_
      refine w_getR (q := 153) is_152 rf_152_1 ?_
      refine w_loc rfl ?_
      refine w_iald (v := (iv 153) e.toNat) is_153 ln_153 ⟨by omega, by omega⟩ rfl ?_
      refine w_goto ?_
      refine pz_G_of pz_b25_20 ?_
      refine w_ret rfl ?_
      first | exact lf_i (by first | rfl | omega) (by rfl) | (exfalso; omega)

theorem s_X2_hasStarted_152 {L : Nat} {iv : Nat → Nat → Int} (e : Int) (he : 0 ≤ e ∧ e ≤ 9) : pz_R (pz_Sh L) 26 [.inr (.inl 152), .inl e] iv (.inl (some (.inl (pz_bi ((iv 153) e.toNat ≠ -1))))) iv := by
  intro dv cc ss
  show pz_G 26 0 [some (.inr (.inl 152)), some (.inl e)] [] (pz_Sh L, iv, dv, cc, ss) (pz_P (pz_Sh L) (.inl (some (.inl (pz_bi ((iv 153) e.toNat ≠ -1))))) iv dv cc ss)
  refine pz_G_of pz_b26_0 ?_
  refine w_loc rfl ?_
  refine w_zlt (fun h1 => ?_) (fun h1 => ?_)
  · refine pz_G_of pz_b26_24 ?_
    refine w_pure rfl ?_
    refine w_nil ?_
    refine pz_G_of pz_b26_25 ?_
    refine w_ret (pz_rok1 (Or.inl rfl)) ?_
    first | exact lf_i (pz_bi_f (by omega)) (by rfl) | (exfalso; omega)
  · refine w_loc rfl ?_
    refine w_pure rfl ?_
    refine w_ige (fun h2 => ?_) (fun h2 => ?_)
    · refine pz_G_of pz_b26_24 ?_
      refine w_pure rfl ?_
      refine w_nil ?_
      refine pz_G_of pz_b26_25 ?_
      refine w_ret (pz_rok1 (Or.inl rfl)) ?_
      first | exact lf_i (pz_bi_f (by omega)) (by rfl) | (exfalso; omega)
    · refine w_loc rfl ?_
      refine w_getR (q := 153) is_152 rf_152_1 ?_
      refine w_loc rfl ?_
      refine w_iald (v := (iv 153) e.toNat) is_153 ln_153 ⟨by omega, by omega⟩ rfl ?_
      refine w_pure rfl ?_
      refine w_ieq (fun h3 => ?_) (fun h3 => ?_)
      · refine pz_G_of pz_b26_24 ?_
        refine w_pure rfl ?_
        refine w_nil ?_
        refine pz_G_of pz_b26_25 ?_
        refine w_ret (pz_rok1 (Or.inl rfl)) ?_
        first | exact lf_i (pz_bi_f (by omega)) (by rfl) | (exfalso; omega)
      · refine w_pure rfl ?_
        refine w_goto ?_
        refine pz_G_of pz_b26_25 ?_
        refine w_ret (pz_rok1 (Or.inr rfl)) ?_
        first | exact lf_i (pz_bi_t (by omega)) (by rfl) | (exfalso; omega)

theorem s_X2_startOf_26 {L : Nat} {iv : Nat → Nat → Int} (e : Int) {k : Nat → Int} (hk : q_KR k) (hP : q_cP k (iv 27)) (he : 0 ≤ e ∧ e < k 240) : pz_R (pz_Sh L) 25 [.inr (.inl 26), .inl e] iv (.inl (some (.inl (k (241 + e).toNat)))) iv := by
  intro dv cc ss
  have hk0 := hk.r0
  have hPe := hP e he.1 he.2
  show pz_G 25 0 [some (.inr (.inl 26)), some (.inl e)] [] (pz_Sh L, iv, dv, cc, ss) (pz_P (pz_Sh L) (.inl (some (.inl (k (241 + e).toNat)))) iv dv cc ss)
  refine pz_G_of pz_b25_0 ?_
  refine w_loc rfl ?_
  refine w_zlt (fun h1 => ?_) (fun h1 => ?_)
  · refine pz_G_of pz_b25_19 ?_
    refine w_pure rfl ?_
    refine w_nil ?_
    refine pz_G_of pz_b25_20 ?_
    refine w_ret rfl ?_
    first | exact lf_i (by first | rfl | omega) (by rfl) | (exfalso; omega)
  · refine w_loc rfl ?_
    refine w_pure rfl ?_
    refine w_ige (fun h2 => ?_) (fun h2 => ?_)
    · refine pz_G_of pz_b25_19 ?_
      refine w_pure rfl ?_
      refine w_nil ?_
      refine pz_G_of pz_b25_20 ?_
      refine w_ret rfl ?_
      first | exact lf_i (by first | rfl | omega) (by rfl) | (exfalso; omega)
    · refine w_loc rfl ?_
      refine w_getR (q := 27) is_26 rf_26_1 ?_
      refine w_loc rfl ?_
      refine w_iald (v := (iv 27) e.toNat) is_27 ln_27 ⟨by omega, by omega⟩ rfl ?_
      refine w_goto ?_
      refine pz_G_of pz_b25_20 ?_
      refine w_ret rfl ?_
      first | exact lf_i (by first | rfl | omega) (by rfl) | (exfalso; omega)

theorem s_X2_begin_15 {L : Nat} {iv : Nat → Nat → Int} (e : Int) {k : Nat → Int} (hC : q_cC k (iv 15) (iv 16)) (he : 0 ≤ e ∧ e ≤ 9) : pz_R (pz_Sh L) 28 [.inr (.inl 15), .inl e] iv (.inl none) (pz_u1 iv 16 (pz_up (iv 16) e.toNat (k 4))) := by
  intro dv cc ss
  have hC0 := hC.1
  refine pz_G_mem (iv2 := pz_u1 iv 16 (iv 16)) (by exact (pz_u1_self iv 16).symm) ?_
  show pz_G 28 0 [some (.inr (.inl 15)), some (.inl e)] [] (pz_Sh L, pz_u1 iv 16 (iv 16), dv, cc, ss) (pz_P (pz_Sh L) (.inl none) (pz_u1 iv 16 (pz_up (iv 16) e.toNat (k 4))) dv cc ss)
  refine pz_G_of pz_b28_0 ?_
  refine w_loc rfl ?_
  have hc1 : pz_R (pz_Sh L) 187 [.inl e] (pz_u1 iv 16 (iv 16)) (.inl (some (.inl (pz_bi (0 ≤ e ∧ e < 10))))) (pz_u1 iv 16 (iv 16)) := s_X10_isEventNumber e
  refine w_call hc1 rfl rfl ?_
  refine w_beq (fun h2 => ?_) (fun h2 => ?_)
  · refine pz_G_of pz_b28_17 ?_
    refine w_vret ?_
    first | exact lf_v (by rw [hC0]) | (exfalso; omega)
  · refine w_loc rfl ?_
    refine w_getR (q := 16) is_15 rf_15_1 ?_
    refine w_loc rfl ?_
    refine w_loc rfl ?_
    refine w_getI (v := (iv 15) 0) is_15 (by decide) rfl ?_
    refine w_iastm (iv2 := pz_u1 iv 16 (pz_up (iv 16) e.toNat ((iv 15) 0))) is_16 ln_16 ⟨by omega, by omega⟩ (by exact pz_u2_top _ _ _ _ _) ?_
    refine w_nil ?_
    refine pz_G_of pz_b28_17 ?_
    refine w_vret ?_
    first | exact lf_v (by rw [hC0]) | (exfalso; omega)

theorem s_X2_begin_152 {L : Nat} {iv : Nat → Nat → Int} (e : Int) (he : 0 ≤ e ∧ e ≤ 9) : pz_R (pz_Sh L) 28 [.inr (.inl 152), .inl e] iv (.inl none) (pz_u1 iv 153 (pz_up (iv 153) e.toNat ((iv 152) 0))) := by
  intro dv cc ss
  refine pz_G_mem (iv2 := pz_u1 iv 153 (iv 153)) (by exact (pz_u1_self iv 153).symm) ?_
  show pz_G 28 0 [some (.inr (.inl 152)), some (.inl e)] [] (pz_Sh L, pz_u1 iv 153 (iv 153), dv, cc, ss) (pz_P (pz_Sh L) (.inl none) (pz_u1 iv 153 (pz_up (iv 153) e.toNat ((iv 152) 0))) dv cc ss)
  refine pz_G_of pz_b28_0 ?_
  refine w_loc rfl ?_
  have hc1 : pz_R (pz_Sh L) 187 [.inl e] (pz_u1 iv 153 (iv 153)) (.inl (some (.inl (pz_bi (0 ≤ e ∧ e < 10))))) (pz_u1 iv 153 (iv 153)) := s_X10_isEventNumber e
  refine w_call hc1 rfl rfl ?_
  refine w_beq (fun h2 => ?_) (fun h2 => ?_)
  · refine pz_G_of pz_b28_17 ?_
    refine w_vret ?_
    first | exact lf_v (by rfl) | (exfalso; omega)
  · refine w_loc rfl ?_
    refine w_getR (q := 153) is_152 rf_152_1 ?_
    refine w_loc rfl ?_
    refine w_loc rfl ?_
    refine w_getI (v := (iv 152) 0) is_152 (by decide) rfl ?_
    refine w_iastm (iv2 := pz_u1 iv 153 (pz_up (iv 153) e.toNat ((iv 152) 0))) is_153 ln_153 ⟨by omega, by omega⟩ (by exact pz_u2_top _ _ _ _ _) ?_
    refine w_nil ?_
    refine pz_G_of pz_b28_17 ?_
    refine w_vret ?_
    first | exact lf_v (by rfl) | (exfalso; omega)

theorem s_X2_rewind {L : Nat} {iv : Nat → Nat → Int} : pz_R (pz_Sh L) 24 [.inr (.inl 152)] iv (.inl none) (pz_u1 (pz_u1 iv 152 (pz_up (iv 152) 0 0)) 153 (q_a0 (iv 153))) := by
  intro dv cc ss
  refine pz_G_mem (iv2 := pz_u1 (pz_u1 iv 152 (iv 152)) 153 (iv 153)) (by exact ((pz_u1_self iv 152).symm).trans (pz_u1_self (pz_u1 iv 152 (iv 152)) 153).symm) ?_
  show pz_G 24 0 [some (.inr (.inl 152)), none] [] (pz_Sh L, pz_u1 (pz_u1 iv 152 (iv 152)) 153 (iv 153), dv, cc, ss) (pz_P (pz_Sh L) (.inl none) (pz_u1 (pz_u1 iv 152 (pz_up (iv 152) 0 0)) 153 (q_a0 (iv 153))) dv cc ss)
  refine pz_G_of pz_b24_0 ?_
  refine w_loc rfl ?_
  refine w_pure rfl ?_
  refine w_putIm (iv2 := pz_u1 (pz_u1 iv 152 (pz_up (iv 152) 0 0)) 153 (iv 153)) is_152 pz_fit0 (by rw [pz_u2_in (r := 152) (q := 153) (by decide)]; rw [pz_u2_top] <;> rfl) ?_
  refine w_pure rfl ?_
  refine w_loc (ls' := [some (.inr (.inl 152)), some (.inl 0)]) (st' := []) rfl ?_
  refine w_nil ?_
  have lp7 : ∀ (dd : Nat) (i : Int) (f : Nat → Int) , (10 - i).toNat = dd → ∀ (hi : 0 ≤ i ∧ i ≤ 10), ∀ (hf : ∀ j : Nat, f j = if (j : Int) < i then -1 else iv 153 j),  pz_G 24 7 [some (.inr (.inl 152)), some (.inl i)] [] (pz_Sh L, pz_u1 (pz_u1 iv 152 (pz_up (iv 152) 0 0)) 153 f, dv, cc, ss) (pz_P (pz_Sh L) (.inl none) (pz_u1 (pz_u1 iv 152 (pz_up (iv 152) 0 0)) 153 (q_a0 (iv 153))) dv cc ss) := by
    intro dd7
    induction dd7 using Nat.strongRecOn with
    | _ dd7 ih7 =>
    intro i f  hd7 hi hf
    refine pz_G_of pz_b24_7 ?_
    refine w_loc rfl ?_
    refine w_pure rfl ?_
    refine w_ige (fun h1 => ?_) (fun h1 => ?_)
    · refine pz_G_of pz_b24_26 ?_
      refine w_loc rfl ?_
      refine w_getR (q := 153) is_152 rf_152_1 ?_
      refine w_pure rfl ?_
      refine w_pure rfl ?_
      refine w_iastm (iv2 := pz_u1 (pz_u1 iv 152 (pz_up (iv 152) 0 0)) 153 (pz_up f 0 0)) is_153 ln_153 ⟨by omega, by omega⟩ (by exact pz_u2_top _ _ _ _ _) ?_
      refine w_vret ?_
      first | exact lf_v (by rw [show pz_up f 0 0 = q_a0 (iv 153) from by funext j; rw [pz_up_at, hf j]; unfold q_a0; (repeat' split) <;> first | rfl | omega]) | (exfalso; omega)
    · refine w_loc rfl ?_
      refine w_getR (q := 153) is_152 rf_152_1 ?_
      refine w_loc rfl ?_
      refine w_pure rfl ?_
      refine w_iastm (iv2 := pz_u1 (pz_u1 iv 152 (pz_up (iv 152) 0 0)) 153 (pz_up f i.toNat (-1))) is_153 ln_153 ⟨by omega, by omega⟩ (by exact pz_u2_top _ _ _ _ _) ?_
      refine w_iinc (ls' := [some (.inr (.inl 152)), some (.inl (i + 1))]) rfl rfl rfl (by omega) ?_
      refine w_goto ?_
      exact ih7 _ (by omega) (i + 1) (pz_up f i.toNat (-1))  rfl (by omega) (by intro j; rw [pz_up_at, hf j]; (repeat' split) <;> first | rfl | omega)
  exact lp7 _ 0 (iv 153)  rfl (by omega) (by intro j; rw [if_neg (by omega)])

theorem s_X2_hasStartedAny {L : Nat} {iv : Nat → Nat → Int} {k : Nat → Int} (hk : q_KR k) (hC : q_cC k (iv 15) (iv 16)) : pz_R (pz_Sh L) 27 [.inr (.inl 15)] iv (.inl (some (.inl (pz_bi (q_exi (fun i => 1 ≤ i ∧ q_sta k i) (k 0)))))) iv := by
  intro dv cc ss
  have hk0 := hk.r0
  have hC0 := hC.1
  show pz_G 27 0 [some (.inr (.inl 15)), none] [] (pz_Sh L, iv, dv, cc, ss) (pz_P (pz_Sh L) (.inl (some (.inl (pz_bi (q_exi (fun i => 1 ≤ i ∧ q_sta k i) (k 0)))))) iv dv cc ss)
  refine pz_G_of pz_b27_0 ?_
  refine w_pure rfl ?_
  refine w_loc (ls' := [some (.inr (.inl 15)), some (.inl 1)]) (st' := []) rfl ?_
  refine w_nil ?_
  have lp2 : ∀ (dd : Nat) (i : Int) , (10 - i).toNat = dd → ∀ (hi : 1 ≤ i ∧ i ≤ 10), ∀ (hno : ∀ j : Int, 1 ≤ j → j < i → ¬ q_sta k j),  pz_G 27 2 [some (.inr (.inl 15)), some (.inl i)] [] (pz_Sh L, iv, dv, cc, ss) (pz_P (pz_Sh L) (.inl (some (.inl (pz_bi (q_exi (fun i => 1 ≤ i ∧ q_sta k i) (k 0)))))) iv dv cc ss) := by
    intro dd2
    induction dd2 using Nat.strongRecOn with
    | _ dd2 ih2 =>
    intro i  hd2 hi hno
    refine pz_G_of pz_b27_2 ?_
    refine w_loc rfl ?_
    refine w_pure rfl ?_
    refine w_ige (fun h1 => ?_) (fun h1 => ?_)
    · refine pz_G_of pz_b27_24 ?_
      refine w_pure rfl ?_
      refine w_ret (pz_rok1 (Or.inl rfl)) ?_
      first | exact lf_i (pz_bi_t ⟨i, by omega, (hk.st (e := i) (by omega) (by omega)).2 (by assumption), by omega, by assumption⟩) rfl | exact lf_i (pz_bi_f (fun ⟨j, g1, g2, g3, g4⟩ => hno j g3 (by omega) g4)) rfl
    · refine w_loc rfl ?_
      refine w_loc rfl ?_
      have hc2 : pz_R (pz_Sh L) 26 [.inr (.inl 15), .inl i] (iv) (.inl (some (.inl (pz_bi (q_sta k i))))) (iv) := s_X2_hasStarted_15 i (by exact hk) (by exact hC) (by omega)
      refine w_call hc2 rfl (pz_cokI is_15 rfl) ?_
      refine w_beq (fun h3 => ?_) (fun h3 => ?_)
      · refine pz_G_of pz_b27_18 ?_
        refine w_iinc (ls' := [some (.inr (.inl 15)), some (.inl (i + 1))]) rfl rfl rfl (by omega) ?_
        refine w_goto ?_
        exact ih2 _ (by omega) (i + 1)  rfl (by omega) (by intro j g1 g2; by_cases g3 : j = i; (rw [g3]; assumption); exact hno j g1 (by omega))
      · refine w_pure rfl ?_
        refine w_ret (pz_rok1 (Or.inr rfl)) ?_
        first | exact lf_i (pz_bi_t ⟨i, by omega, (hk.st (e := i) (by omega) (by omega)).2 (by assumption), by omega, by assumption⟩) rfl | exact lf_i (pz_bi_f (fun ⟨j, g1, g2, g3, g4⟩ => hno j g3 (by omega) g4)) rfl
  exact lp2 _ 1  rfl (by omega) (by intro j g1 g2; omega)

theorem s_X9_firstOf {L : Nat} {iv : Nat → Nat → Int} (s : Int) {k : Nat → Int} (hk : q_KR k) (hS : q_cS k (iv 10) (iv 11) (iv 12) (iv 13) (iv 14)) (hs : 0 ≤ s ∧ s < k 2) : pz_R (pz_Sh L) 110 [.inr (.inl 10), .inl s] iv (.inl (some (.inl (k (212 + 4 * s).toNat)))) iv := by
  intro dv cc ss
  have hk0 := hk.r0
  have hS0 := hS.1
  have hSs := hS.2 s hs.1 hs.2
  have hsp := hk.sp hs.1 hs.2
  show pz_G 110 0 [some (.inr (.inl 10)), some (.inl s)] [] (pz_Sh L, iv, dv, cc, ss) (pz_P (pz_Sh L) (.inl (some (.inl (k (212 + 4 * s).toNat)))) iv dv cc ss)
  refine pz_G_of pz_b110_0 ?_
  refine w_loc rfl ?_
  refine w_zlt (fun h1 => ?_) (fun h1 => ?_)
  · refine pz_G_of pz_b110_18 ?_
    refine w_pure rfl ?_
    refine w_nil ?_
    refine pz_G_of pz_b110_19 ?_
    refine w_ret rfl ?_
    first | exact lf_i (by first | rfl | omega) (by rfl) | (exfalso; omega)
  · refine w_loc rfl ?_
    refine w_pure rfl ?_
    refine w_ige (fun h2 => ?_) (fun h2 => ?_)
    · refine pz_G_of pz_b110_18 ?_
      refine w_pure rfl ?_
      refine w_nil ?_
      refine pz_G_of pz_b110_19 ?_
      refine w_ret rfl ?_
      first | exact lf_i (by first | rfl | omega) (by rfl) | (exfalso; omega)
    · refine w_loc rfl ?_
      refine w_getR (q := 11) is_10 rf_10_1 ?_
      refine w_loc rfl ?_
      refine w_iald (v := (iv 11) s.toNat) is_11 ln_11 ⟨by omega, by omega⟩ rfl ?_
      refine w_goto ?_
      refine pz_G_of pz_b110_19 ?_
      refine w_ret rfl ?_
      first | exact lf_i (by first | rfl | omega) (by rfl) | (exfalso; omega)

theorem s_X9_endOf {L : Nat} {iv : Nat → Nat → Int} (s : Int) {k : Nat → Int} (hk : q_KR k) (hS : q_cS k (iv 10) (iv 11) (iv 12) (iv 13) (iv 14)) (hs : 0 ≤ s ∧ s < k 2) : pz_R (pz_Sh L) 111 [.inr (.inl 10), .inl s] iv (.inl (some (.inl (k (212 + 4 * s + 1).toNat)))) iv := by
  intro dv cc ss
  have hk0 := hk.r0
  have hS0 := hS.1
  have hSs := hS.2 s hs.1 hs.2
  have hsp := hk.sp hs.1 hs.2
  show pz_G 111 0 [some (.inr (.inl 10)), some (.inl s)] [] (pz_Sh L, iv, dv, cc, ss) (pz_P (pz_Sh L) (.inl (some (.inl (k (212 + 4 * s + 1).toNat)))) iv dv cc ss)
  refine pz_G_of pz_b111_0 ?_
  refine w_loc rfl ?_
  refine w_zlt (fun h1 => ?_) (fun h1 => ?_)
  · refine pz_G_of pz_b111_18 ?_
    refine w_pure rfl ?_
    refine w_nil ?_
    refine pz_G_of pz_b111_19 ?_
    refine w_ret rfl ?_
    first | exact lf_i (by first | rfl | omega) (by rfl) | (exfalso; omega)
  · refine w_loc rfl ?_
    refine w_pure rfl ?_
    refine w_ige (fun h2 => ?_) (fun h2 => ?_)
    · refine pz_G_of pz_b111_18 ?_
      refine w_pure rfl ?_
      refine w_nil ?_
      refine pz_G_of pz_b111_19 ?_
      refine w_ret rfl ?_
      first | exact lf_i (by first | rfl | omega) (by rfl) | (exfalso; omega)
    · refine w_loc rfl ?_
      refine w_getR (q := 12) is_10 rf_10_2 ?_
      refine w_loc rfl ?_
      refine w_iald (v := (iv 12) s.toNat) is_12 ln_12 ⟨by omega, by omega⟩ rfl ?_
      refine w_goto ?_
      refine pz_G_of pz_b111_19 ?_
      refine w_ret rfl ?_
      first | exact lf_i (by first | rfl | omega) (by rfl) | (exfalso; omega)

theorem s_X9_leastOf {L : Nat} {iv : Nat → Nat → Int} (s : Int) {k : Nat → Int} (hk : q_KR k) (hS : q_cS k (iv 10) (iv 11) (iv 12) (iv 13) (iv 14)) (hs : 0 ≤ s ∧ s < k 2) : pz_R (pz_Sh L) 112 [.inr (.inl 10), .inl s] iv (.inl (some (.inl (k (212 + 4 * s + 2).toNat)))) iv := by
  intro dv cc ss
  have hk0 := hk.r0
  have hS0 := hS.1
  have hSs := hS.2 s hs.1 hs.2
  have hsp := hk.sp hs.1 hs.2
  show pz_G 112 0 [some (.inr (.inl 10)), some (.inl s)] [] (pz_Sh L, iv, dv, cc, ss) (pz_P (pz_Sh L) (.inl (some (.inl (k (212 + 4 * s + 2).toNat)))) iv dv cc ss)
  refine pz_G_of pz_b112_0 ?_
  refine w_loc rfl ?_
  refine w_zlt (fun h1 => ?_) (fun h1 => ?_)
  · refine pz_G_of pz_b112_18 ?_
    refine w_pure rfl ?_
    refine w_nil ?_
    refine pz_G_of pz_b112_19 ?_
    refine w_ret rfl ?_
    first | exact lf_i (by first | rfl | omega) (by rfl) | (exfalso; omega)
  · refine w_loc rfl ?_
    refine w_pure rfl ?_
    refine w_ige (fun h2 => ?_) (fun h2 => ?_)
    · refine pz_G_of pz_b112_18 ?_
      refine w_pure rfl ?_
      refine w_nil ?_
      refine pz_G_of pz_b112_19 ?_
      refine w_ret rfl ?_
      first | exact lf_i (by first | rfl | omega) (by rfl) | (exfalso; omega)
    · refine w_loc rfl ?_
      refine w_getR (q := 13) is_10 rf_10_3 ?_
      refine w_loc rfl ?_
      refine w_iald (v := (iv 13) s.toNat) is_13 ln_13 ⟨by omega, by omega⟩ rfl ?_
      refine w_goto ?_
      refine pz_G_of pz_b112_19 ?_
      refine w_ret rfl ?_
      first | exact lf_i (by first | rfl | omega) (by rfl) | (exfalso; omega)

theorem s_X9_greatestOf {L : Nat} {iv : Nat → Nat → Int} (s : Int) {k : Nat → Int} (hk : q_KR k) (hS : q_cS k (iv 10) (iv 11) (iv 12) (iv 13) (iv 14)) (hs : 0 ≤ s ∧ s < k 2) : pz_R (pz_Sh L) 113 [.inr (.inl 10), .inl s] iv (.inl (some (.inl (k (212 + 4 * s + 3).toNat)))) iv := by
  intro dv cc ss
  have hk0 := hk.r0
  have hS0 := hS.1
  have hSs := hS.2 s hs.1 hs.2
  have hsp := hk.sp hs.1 hs.2
  show pz_G 113 0 [some (.inr (.inl 10)), some (.inl s)] [] (pz_Sh L, iv, dv, cc, ss) (pz_P (pz_Sh L) (.inl (some (.inl (k (212 + 4 * s + 3).toNat)))) iv dv cc ss)
  refine pz_G_of pz_b113_0 ?_
  refine w_loc rfl ?_
  refine w_zlt (fun h1 => ?_) (fun h1 => ?_)
  · refine pz_G_of pz_b113_18 ?_
    refine w_pure rfl ?_
    refine w_nil ?_
    refine pz_G_of pz_b113_19 ?_
    refine w_ret rfl ?_
    first | exact lf_i (by first | rfl | omega) (by rfl) | (exfalso; omega)
  · refine w_loc rfl ?_
    refine w_pure rfl ?_
    refine w_ige (fun h2 => ?_) (fun h2 => ?_)
    · refine pz_G_of pz_b113_18 ?_
      refine w_pure rfl ?_
      refine w_nil ?_
      refine pz_G_of pz_b113_19 ?_
      refine w_ret rfl ?_
      first | exact lf_i (by first | rfl | omega) (by rfl) | (exfalso; omega)
    · refine w_loc rfl ?_
      refine w_getR (q := 14) is_10 rf_10_4 ?_
      refine w_loc rfl ?_
      refine w_iald (v := (iv 14) s.toNat) is_14 ln_14 ⟨by omega, by omega⟩ rfl ?_
      refine w_goto ?_
      refine pz_G_of pz_b113_19 ?_
      refine w_ret rfl ?_
      first | exact lf_i (by first | rfl | omega) (by rfl) | (exfalso; omega)

theorem s_X9_pickedOf {L : Nat} {iv : Nat → Nat → Int} (s : Int) (p : Int) {k : Nat → Int} (hk : q_KR k) (hS : q_cS k (iv 10) (iv 11) (iv 12) (iv 13) (iv 14)) (hs : 0 ≤ s ∧ s < k 2) (hp : 0 ≤ p ∧ p ≤ 15) : pz_R (pz_Sh L) 114 [.inr (.inl 10), .inl s, .inl p] iv (.inl (some (.inl (q_pck k p s)))) iv := by
  intro dv cc ss
  have hk0 := hk.r0
  have hS0 := hS.1
  have hSs := hS.2 s hs.1 hs.2
  have hsp := hk.sp hs.1 hs.2
  have hbt := q_bit (x := p) (i := s) hp.1 (by omega) hs.1 (by omega)
  show pz_G 114 0 [some (.inr (.inl 10)), some (.inl s), some (.inl p)] [] (pz_Sh L, iv, dv, cc, ss) (pz_P (pz_Sh L) (.inl (some (.inl (q_pck k p s)))) iv dv cc ss)
  refine pz_G_of pz_b114_0 ?_
  refine w_loc rfl ?_
  refine w_loc rfl ?_
  have hc1 : pz_R (pz_Sh L) 186 [.inl s] (iv) (.inl (some (.inl (pz_shl 1 s)))) (iv) := s_X10_bit s
  refine w_call hc1 rfl rfl ?_
  refine w_iand ?_
  refine w_zeq (fun h2 => ?_) (fun h2 => ?_)
  · refine pz_G_of pz_b114_17 ?_
    refine w_loc rfl ?_
    refine w_loc rfl ?_
    have hc3 : pz_R (pz_Sh L) 112 [.inr (.inl 10), .inl s] (iv) (.inl (some (.inl (k (212 + 4 * s + 2).toNat)))) (iv) := s_X9_leastOf s (by exact hk) (by exact hS) (by omega)
    refine w_call hc3 rfl (pz_cokI is_10 rfl) ?_
    refine w_nil ?_
    refine pz_G_of pz_b114_22 ?_
    refine w_ret rfl ?_
    first | exact lf_i (by unfold q_pck; first | rw [q_if_t (by omega)] | rw [q_if_f (by omega)]) rfl | (exfalso; omega)
  · refine w_loc rfl ?_
    refine w_loc rfl ?_
    have hc4 : pz_R (pz_Sh L) 113 [.inr (.inl 10), .inl s] (iv) (.inl (some (.inl (k (212 + 4 * s + 3).toNat)))) (iv) := s_X9_greatestOf s (by exact hk) (by exact hS) (by omega)
    refine w_call hc4 rfl (pz_cokI is_10 rfl) ?_
    refine w_goto ?_
    refine pz_G_of pz_b114_22 ?_
    refine w_ret rfl ?_
    first | exact lf_i (by unfold q_pck; first | rw [q_if_t (by omega)] | rw [q_if_f (by omega)]) rfl | (exfalso; omega)

theorem s_X9_withEnd {L : Nat} {iv : Nat → Nat → Int} (e : Int) {k : Nat → Int} (hk : q_KR k) (hS : q_cS k (iv 10) (iv 11) (iv 12) (iv 13) (iv 14)) : pz_R (pz_Sh L) 115 [.inr (.inl 10), .inl e] iv (.inl (some (.inl (q_we k e)))) iv := by
  intro dv cc ss
  have hk0 := hk.r0
  have hS0 := hS.1
  show pz_G 115 0 [some (.inr (.inl 10)), some (.inl e), none] [] (pz_Sh L, iv, dv, cc, ss) (pz_P (pz_Sh L) (.inl (some (.inl (q_we k e)))) iv dv cc ss)
  refine pz_G_of pz_b115_0 ?_
  refine w_pure rfl ?_
  refine w_loc (ls' := [some (.inr (.inl 10)), some (.inl e), some (.inl 0)]) (st' := []) rfl ?_
  refine w_nil ?_
  have lp2 : ∀ (dd : Nat) (s : Int) , (k 2 - s).toNat = dd → ∀ (hs : 0 ≤ s ∧ s ≤ k 2), ∀ (hno : ∀ i : Int, 0 ≤ i → i < s → k (212 + 4 * i + 1).toNat ≠ e),  pz_G 115 2 [some (.inr (.inl 10)), some (.inl e), some (.inl s)] [] (pz_Sh L, iv, dv, cc, ss) (pz_P (pz_Sh L) (.inl (some (.inl (q_we k e)))) iv dv cc ss) := by
    intro dd2
    induction dd2 using Nat.strongRecOn with
    | _ dd2 ih2 =>
    intro s  hd2 hs hno
    refine pz_G_of pz_b115_2 ?_
    refine w_loc rfl ?_
    refine w_loc rfl ?_
    refine w_getI (v := (iv 10) 0) is_10 (by decide) rfl ?_
    refine w_ige (fun h1 => ?_) (fun h1 => ?_)
    · refine pz_G_of pz_b115_27 ?_
      refine w_pure rfl ?_
      refine w_ret rfl ?_
      first | exact lf_i (q_we_is (by omega) (by omega) (by assumption) hno).symm rfl | exact lf_i (q_we_no (by omega) (fun i g1 g2 => hno i g1 (by omega))).symm rfl
    · refine w_loc rfl ?_
      refine w_loc rfl ?_
      have hc2 : pz_R (pz_Sh L) 111 [.inr (.inl 10), .inl s] (iv) (.inl (some (.inl (k (212 + 4 * s + 1).toNat)))) (iv) := s_X9_endOf s (by exact hk) (by exact hS) (by omega)
      refine w_call hc2 rfl (pz_cokI is_10 rfl) ?_
      refine w_loc rfl ?_
      refine w_ine (fun h3 => ?_) (fun h3 => ?_)
      · refine pz_G_of pz_b115_21 ?_
        refine w_iinc (ls' := [some (.inr (.inl 10)), some (.inl e), some (.inl (s + 1))]) rfl rfl rfl (by omega) ?_
        refine w_goto ?_
        exact ih2 _ (by omega) (s + 1)  rfl (by omega) (by intro i g1 g2; by_cases g3 : i = s; (rw [g3]; assumption); exact hno i g1 (by omega))
      · refine w_loc rfl ?_
        refine w_ret rfl ?_
        first | exact lf_i (q_we_is (by omega) (by omega) (by assumption) hno).symm rfl | exact lf_i (q_we_no (by omega) (fun i g1 g2 => hno i g1 (by omega))).symm rfl
  exact lp2 _ 0  rfl (by omega) (by intro i g1 g2; omega)

theorem s_X9_hasEnded_15 {L : Nat} {iv : Nat → Nat → Int} (s : Int) {k : Nat → Int} (hk : q_KR k) (hS : q_cS k (iv 10) (iv 11) (iv 12) (iv 13) (iv 14)) (hC : q_cC k (iv 15) (iv 16)) (hs : 0 ≤ s ∧ s < k 2) : pz_R (pz_Sh L) 116 [.inr (.inl 10), .inl s, .inr (.inl 15)] iv (.inl (some (.inl (pz_bi (q_sta k (k (212 + 4 * s + 1).toNat)))))) iv := by
  intro dv cc ss
  have hk0 := hk.r0
  have hS0 := hS.1
  have hC0 := hC.1
  have hSs := hS.2 s hs.1 hs.2
  have hsp := hk.sp hs.1 hs.2
  show pz_G 116 0 [some (.inr (.inl 10)), some (.inl s), some (.inr (.inl 15))] [] (pz_Sh L, iv, dv, cc, ss) (pz_P (pz_Sh L) (.inl (some (.inl (pz_bi (q_sta k (k (212 + 4 * s + 1).toNat)))))) iv dv cc ss)
  refine pz_G_of pz_b116_0 ?_
  refine w_loc rfl ?_
  refine w_loc rfl ?_
  refine w_loc rfl ?_
  have hc1 : pz_R (pz_Sh L) 111 [.inr (.inl 10), .inl s] (iv) (.inl (some (.inl (k (212 + 4 * s + 1).toNat)))) (iv) := s_X9_endOf s (by exact hk) (by exact hS) (by omega)
  refine w_call hc1 rfl (pz_cokI is_10 rfl) ?_
  have hc2 : pz_R (pz_Sh L) 26 [.inr (.inl 15), .inl (k (212 + 4 * s + 1).toNat)] (iv) (.inl (some (.inl (pz_bi (q_sta k (k (212 + 4 * s + 1).toNat)))))) (iv) := s_X2_hasStarted_15 (k (212 + 4 * s + 1).toNat) (by exact hk) (by exact hC) (by omega)
  refine w_call hc2 rfl (pz_cokI is_15 rfl) ?_
  refine w_ret (pz_rok1 (pz_bi01 _)) ?_
  first | exact lf_i (pz_bi_iff (by omega)) (by rfl) | (exfalso; omega)

theorem s_X9_isRunning_15 {L : Nat} {iv : Nat → Nat → Int} (s : Int) {k : Nat → Int} (hk : q_KR k) (hS : q_cS k (iv 10) (iv 11) (iv 12) (iv 13) (iv 14)) (hC : q_cC k (iv 15) (iv 16)) (hs : 0 ≤ s ∧ s < k 2) : pz_R (pz_Sh L) 117 [.inr (.inl 10), .inl s, .inr (.inl 15)] iv (.inl (some (.inl (pz_bi ((q_sta k (k (212 + 4 * s).toNat)) ∧ ¬ (q_sta k (k (212 + 4 * s + 1).toNat))))))) iv := by
  intro dv cc ss
  have hk0 := hk.r0
  have hS0 := hS.1
  have hC0 := hC.1
  have hSs := hS.2 s hs.1 hs.2
  have hsp := hk.sp hs.1 hs.2
  show pz_G 117 0 [some (.inr (.inl 10)), some (.inl s), some (.inr (.inl 15))] [] (pz_Sh L, iv, dv, cc, ss) (pz_P (pz_Sh L) (.inl (some (.inl (pz_bi ((q_sta k (k (212 + 4 * s).toNat)) ∧ ¬ (q_sta k (k (212 + 4 * s + 1).toNat))))))) iv dv cc ss)
  refine pz_G_of pz_b117_0 ?_
  refine w_loc rfl ?_
  refine w_loc rfl ?_
  refine w_loc rfl ?_
  have hc1 : pz_R (pz_Sh L) 110 [.inr (.inl 10), .inl s] (iv) (.inl (some (.inl (k (212 + 4 * s).toNat)))) (iv) := s_X9_firstOf s (by exact hk) (by exact hS) (by omega)
  refine w_call hc1 rfl (pz_cokI is_10 rfl) ?_
  have hc2 : pz_R (pz_Sh L) 26 [.inr (.inl 15), .inl (k (212 + 4 * s).toNat)] (iv) (.inl (some (.inl (pz_bi (q_sta k (k (212 + 4 * s).toNat)))))) (iv) := s_X2_hasStarted_15 (k (212 + 4 * s).toNat) (by exact hk) (by exact hC) (by omega)
  refine w_call hc2 rfl (pz_cokI is_15 rfl) ?_
  refine w_beq (fun h3 => ?_) (fun h3 => ?_)
  · refine pz_G_of pz_b117_25 ?_
    refine w_pure rfl ?_
    refine w_nil ?_
    refine pz_G_of pz_b117_26 ?_
    refine w_ret (pz_rok1 (Or.inl rfl)) ?_
    first | exact lf_i (pz_bi_f (by omega)) (by rfl) | (exfalso; omega)
  · refine w_loc rfl ?_
    refine w_loc rfl ?_
    refine w_loc rfl ?_
    have hc4 : pz_R (pz_Sh L) 116 [.inr (.inl 10), .inl s, .inr (.inl 15)] (iv) (.inl (some (.inl (pz_bi (q_sta k (k (212 + 4 * s + 1).toNat)))))) (iv) := s_X9_hasEnded_15 s (by exact hk) (by exact hS) (by exact hC) (by omega)
    refine w_call hc4 rfl (pz_cokI is_10 rfl) ?_
    refine w_bne (fun h5 => ?_) (fun h5 => ?_)
    · refine pz_G_of pz_b117_25 ?_
      refine w_pure rfl ?_
      refine w_nil ?_
      refine pz_G_of pz_b117_26 ?_
      refine w_ret (pz_rok1 (Or.inl rfl)) ?_
      first | exact lf_i (pz_bi_f (by omega)) (by rfl) | (exfalso; omega)
    · refine w_pure rfl ?_
      refine w_goto ?_
      refine pz_G_of pz_b117_26 ?_
      refine w_ret (pz_rok1 (Or.inr rfl)) ?_
      first | exact lf_i (pz_bi_t (by omega)) (by rfl) | (exfalso; omega)

theorem s_X9_hasEnded_152 {L : Nat} {iv : Nat → Nat → Int} (s : Int) {k : Nat → Int} (hk : q_KR k) (hS : q_cS k (iv 10) (iv 11) (iv 12) (iv 13) (iv 14)) (hs : 0 ≤ s ∧ s < k 2) : pz_R (pz_Sh L) 116 [.inr (.inl 10), .inl s, .inr (.inl 152)] iv (.inl (some (.inl (pz_bi ((iv 153) (k (212 + 4 * s + 1).toNat).toNat ≠ -1))))) iv := by
  intro dv cc ss
  have hk0 := hk.r0
  have hS0 := hS.1
  have hSs := hS.2 s hs.1 hs.2
  have hsp := hk.sp hs.1 hs.2
  show pz_G 116 0 [some (.inr (.inl 10)), some (.inl s), some (.inr (.inl 152))] [] (pz_Sh L, iv, dv, cc, ss) (pz_P (pz_Sh L) (.inl (some (.inl (pz_bi ((iv 153) (k (212 + 4 * s + 1).toNat).toNat ≠ -1))))) iv dv cc ss)
  refine pz_G_of pz_b116_0 ?_
  refine w_loc rfl ?_
  refine w_loc rfl ?_
  refine w_loc rfl ?_
  have hc1 : pz_R (pz_Sh L) 111 [.inr (.inl 10), .inl s] (iv) (.inl (some (.inl (k (212 + 4 * s + 1).toNat)))) (iv) := s_X9_endOf s (by exact hk) (by exact hS) (by omega)
  refine w_call hc1 rfl (pz_cokI is_10 rfl) ?_
  have hc2 : pz_R (pz_Sh L) 26 [.inr (.inl 152), .inl (k (212 + 4 * s + 1).toNat)] (iv) (.inl (some (.inl (pz_bi ((iv 153) (k (212 + 4 * s + 1).toNat).toNat ≠ -1))))) (iv) := s_X2_hasStarted_152 (k (212 + 4 * s + 1).toNat) (by omega)
  refine w_call hc2 rfl (pz_cokI is_152 rfl) ?_
  refine w_ret (pz_rok1 (pz_bi01 _)) ?_
  first | exact lf_i (pz_bi_iff (by omega)) (by rfl) | (exfalso; omega)

theorem s_X9_isRunning_152 {L : Nat} {iv : Nat → Nat → Int} (s : Int) {k : Nat → Int} (hk : q_KR k) (hS : q_cS k (iv 10) (iv 11) (iv 12) (iv 13) (iv 14)) (hs : 0 ≤ s ∧ s < k 2) : pz_R (pz_Sh L) 117 [.inr (.inl 10), .inl s, .inr (.inl 152)] iv (.inl (some (.inl (pz_bi (((iv 153) (k (212 + 4 * s).toNat).toNat ≠ -1) ∧ ¬ ((iv 153) (k (212 + 4 * s + 1).toNat).toNat ≠ -1)))))) iv := by
  intro dv cc ss
  have hk0 := hk.r0
  have hS0 := hS.1
  have hSs := hS.2 s hs.1 hs.2
  have hsp := hk.sp hs.1 hs.2
  show pz_G 117 0 [some (.inr (.inl 10)), some (.inl s), some (.inr (.inl 152))] [] (pz_Sh L, iv, dv, cc, ss) (pz_P (pz_Sh L) (.inl (some (.inl (pz_bi (((iv 153) (k (212 + 4 * s).toNat).toNat ≠ -1) ∧ ¬ ((iv 153) (k (212 + 4 * s + 1).toNat).toNat ≠ -1)))))) iv dv cc ss)
  refine pz_G_of pz_b117_0 ?_
  refine w_loc rfl ?_
  refine w_loc rfl ?_
  refine w_loc rfl ?_
  have hc1 : pz_R (pz_Sh L) 110 [.inr (.inl 10), .inl s] (iv) (.inl (some (.inl (k (212 + 4 * s).toNat)))) (iv) := s_X9_firstOf s (by exact hk) (by exact hS) (by omega)
  refine w_call hc1 rfl (pz_cokI is_10 rfl) ?_
  have hc2 : pz_R (pz_Sh L) 26 [.inr (.inl 152), .inl (k (212 + 4 * s).toNat)] (iv) (.inl (some (.inl (pz_bi ((iv 153) (k (212 + 4 * s).toNat).toNat ≠ -1))))) (iv) := s_X2_hasStarted_152 (k (212 + 4 * s).toNat) (by omega)
  refine w_call hc2 rfl (pz_cokI is_152 rfl) ?_
  refine w_beq (fun h3 => ?_) (fun h3 => ?_)
  · refine pz_G_of pz_b117_25 ?_
    refine w_pure rfl ?_
    refine w_nil ?_
    refine pz_G_of pz_b117_26 ?_
    refine w_ret (pz_rok1 (Or.inl rfl)) ?_
    first | exact lf_i (pz_bi_f (by omega)) (by rfl) | (exfalso; omega)
  · refine w_loc rfl ?_
    refine w_loc rfl ?_
    refine w_loc rfl ?_
    have hc4 : pz_R (pz_Sh L) 116 [.inr (.inl 10), .inl s, .inr (.inl 152)] (iv) (.inl (some (.inl (pz_bi ((iv 153) (k (212 + 4 * s + 1).toNat).toNat ≠ -1))))) (iv) := s_X9_hasEnded_152 s (by exact hk) (by exact hS) (by omega)
    refine w_call hc4 rfl (pz_cokI is_10 rfl) ?_
    refine w_bne (fun h5 => ?_) (fun h5 => ?_)
    · refine pz_G_of pz_b117_25 ?_
      refine w_pure rfl ?_
      refine w_nil ?_
      refine pz_G_of pz_b117_26 ?_
      refine w_ret (pz_rok1 (Or.inl rfl)) ?_
      first | exact lf_i (pz_bi_f (by omega)) (by rfl) | (exfalso; omega)
    · refine w_pure rfl ?_
      refine w_goto ?_
      refine pz_G_of pz_b117_26 ?_
      refine w_ret (pz_rok1 (Or.inr rfl)) ?_
      first | exact lf_i (pz_bi_t (by omega)) (by rfl) | (exfalso; omega)

theorem s_X9_minutesGone_15 {L : Nat} {iv : Nat → Nat → Int} (s : Int) {k : Nat → Int} (hk : q_KR k) (hS : q_cS k (iv 10) (iv 11) (iv 12) (iv 13) (iv 14)) (hC : q_cC k (iv 15) (iv 16)) (hs : 0 ≤ s ∧ s < k 2) : pz_R (pz_Sh L) 118 [.inr (.inl 10), .inl s, .inr (.inl 15)] iv (.inl (some (.inl (k 4 - k (6 + k (212 + 4 * s).toNat).toNat)))) iv := by
  intro dv cc ss
  have hk0 := hk.r0
  have hS0 := hS.1
  have hC0 := hC.1
  have hSs := hS.2 s hs.1 hs.2
  have hsp := hk.sp hs.1 hs.2
  have hst := hk.st (e := k (212 + 4 * s).toNat) (by omega) (by omega)
  show pz_G 118 0 [some (.inr (.inl 10)), some (.inl s), some (.inr (.inl 15))] [] (pz_Sh L, iv, dv, cc, ss) (pz_P (pz_Sh L) (.inl (some (.inl (k 4 - k (6 + k (212 + 4 * s).toNat).toNat)))) iv dv cc ss)
  refine pz_G_of pz_b118_0 ?_
  refine w_loc rfl ?_
  refine w_getI (v := (iv 15) 0) is_15 (by decide) rfl ?_
  refine w_loc rfl ?_
  refine w_loc rfl ?_
  refine w_loc rfl ?_
  have hc1 : pz_R (pz_Sh L) 110 [.inr (.inl 10), .inl s] (iv) (.inl (some (.inl (k (212 + 4 * s).toNat)))) (iv) := s_X9_firstOf s (by exact hk) (by exact hS) (by omega)
  refine w_call hc1 rfl (pz_cokI is_10 rfl) ?_
  have hc2 : pz_R (pz_Sh L) 25 [.inr (.inl 15), .inl (k (212 + 4 * s).toNat)] (iv) (.inl (some (.inl (k (6 + (k (212 + 4 * s).toNat)).toNat)))) (iv) := s_X2_startOf_15 (k (212 + 4 * s).toNat) (by exact hk) (by exact hC) (by omega)
  refine w_call hc2 rfl (pz_cokI is_15 rfl) ?_
  refine w_isub (by omega) ?_
  refine w_ret rfl ?_
  first | exact lf_i (by first | rfl | omega) (by rfl) | (exfalso; omega)

theorem s_X9_minutesGone_152 {L : Nat} {iv : Nat → Nat → Int} (s : Int) {k : Nat → Int} (hk : q_KR k) (hS : q_cS k (iv 10) (iv 11) (iv 12) (iv 13) (iv 14)) (hs : 0 ≤ s ∧ s < k 2) (hr : (-1 ≤ (iv 152) 0 ∧ (iv 152) 0 ≤ 1000000000) ∧ q_al (iv 153)) : pz_R (pz_Sh L) 118 [.inr (.inl 10), .inl s, .inr (.inl 152)] iv (.inl (some (.inl ((iv 152) 0 - (iv 153) (k (212 + 4 * s).toNat).toNat)))) iv := by
  intro dv cc ss
  have hk0 := hk.r0
  have hS0 := hS.1
  have hSs := hS.2 s hs.1 hs.2
  have hsp := hk.sp hs.1 hs.2
  have hal := hr.2 (k (212 + 4 * s).toNat) (by omega) (by omega)
  show pz_G 118 0 [some (.inr (.inl 10)), some (.inl s), some (.inr (.inl 152))] [] (pz_Sh L, iv, dv, cc, ss) (pz_P (pz_Sh L) (.inl (some (.inl ((iv 152) 0 - (iv 153) (k (212 + 4 * s).toNat).toNat)))) iv dv cc ss)
  refine pz_G_of pz_b118_0 ?_
  refine w_loc rfl ?_
  refine w_getI (v := (iv 152) 0) is_152 (by decide) rfl ?_
  refine w_loc rfl ?_
  refine w_loc rfl ?_
  refine w_loc rfl ?_
  have hc1 : pz_R (pz_Sh L) 110 [.inr (.inl 10), .inl s] (iv) (.inl (some (.inl (k (212 + 4 * s).toNat)))) (iv) := s_X9_firstOf s (by exact hk) (by exact hS) (by omega)
  refine w_call hc1 rfl (pz_cokI is_10 rfl) ?_
  have hc2 : pz_R (pz_Sh L) 25 [.inr (.inl 152), .inl (k (212 + 4 * s).toNat)] (iv) (.inl (some (.inl ((iv 153) (k (212 + 4 * s).toNat).toNat)))) (iv) := s_X2_startOf_152 (k (212 + 4 * s).toNat) (by omega)
  refine w_call hc2 rfl (pz_cokI is_152 rfl) ?_
  refine w_isub (by omega) ?_
  refine w_ret rfl ?_
  first | exact lf_i (by first | rfl | omega) (by rfl) | (exfalso; omega)

theorem s_X9_canLast {L : Nat} {iv : Nat → Nat → Int} (s : Int) (n : Int) {k : Nat → Int} (hk : q_KR k) (hS : q_cS k (iv 10) (iv 11) (iv 12) (iv 13) (iv 14)) (hs : 0 ≤ s ∧ s < k 2) : pz_R (pz_Sh L) 119 [.inr (.inl 10), .inl s, .inl n] iv (.inl (some (.inl (pz_bi (k (212 + 4 * s + 2).toNat ≤ n ∧ n ≤ k (212 + 4 * s + 3).toNat))))) iv := by
  intro dv cc ss
  have hk0 := hk.r0
  have hS0 := hS.1
  have hSs := hS.2 s hs.1 hs.2
  have hsp := hk.sp hs.1 hs.2
  show pz_G 119 0 [some (.inr (.inl 10)), some (.inl s), some (.inl n)] [] (pz_Sh L, iv, dv, cc, ss) (pz_P (pz_Sh L) (.inl (some (.inl (pz_bi (k (212 + 4 * s + 2).toNat ≤ n ∧ n ≤ k (212 + 4 * s + 3).toNat))))) iv dv cc ss)
  refine pz_G_of pz_b119_0 ?_
  refine w_loc rfl ?_
  refine w_loc rfl ?_
  refine w_loc rfl ?_
  have hc1 : pz_R (pz_Sh L) 112 [.inr (.inl 10), .inl s] (iv) (.inl (some (.inl (k (212 + 4 * s + 2).toNat)))) (iv) := s_X9_leastOf s (by exact hk) (by exact hS) (by omega)
  refine w_call hc1 rfl (pz_cokI is_10 rfl) ?_
  refine w_loc rfl ?_
  refine w_loc rfl ?_
  have hc2 : pz_R (pz_Sh L) 113 [.inr (.inl 10), .inl s] (iv) (.inl (some (.inl (k (212 + 4 * s + 3).toNat)))) (iv) := s_X9_greatestOf s (by exact hk) (by exact hS) (by omega)
  refine w_call hc2 rfl (pz_cokI is_10 rfl) ?_
  have hc3 : pz_R (pz_Sh L) 185 [.inl n, .inl (k (212 + 4 * s + 2).toNat), .inl (k (212 + 4 * s + 3).toNat)] (iv) (.inl (some (.inl (pz_bi ((k (212 + 4 * s + 2).toNat) ≤ n ∧ n ≤ (k (212 + 4 * s + 3).toNat)))))) (iv) := s_X10_isWithin n (k (212 + 4 * s + 2).toNat) (k (212 + 4 * s + 3).toNat)
  refine w_call hc3 rfl rfl ?_
  refine w_ret (pz_rok1 (pz_bi01 _)) ?_
  first | exact lf_i (pz_bi_iff (by omega)) (by rfl) | (exfalso; omega)

theorem s_X9_wouldOverrun {L : Nat} {iv : Nat → Nat → Int} (m : Int) {k : Nat → Int} (hk : q_KR k) (hS : q_cS k (iv 10) (iv 11) (iv 12) (iv 13) (iv 14)) (hC : q_cC k (iv 15) (iv 16)) (hm : 0 ≤ m ∧ m ≤ 200) : pz_R (pz_Sh L) 120 [.inr (.inl 10), .inl m, .inr (.inl 15)] iv (.inl (some (.inl (pz_bi (q_exi (q_ovr k m) (k 2)))))) iv := by
  intro dv cc ss
  have hk0 := hk.r0
  have hS0 := hS.1
  have hC0 := hC.1
  show pz_G 120 0 [some (.inr (.inl 10)), some (.inl m), some (.inr (.inl 15)), none] [] (pz_Sh L, iv, dv, cc, ss) (pz_P (pz_Sh L) (.inl (some (.inl (pz_bi (q_exi (q_ovr k m) (k 2)))))) iv dv cc ss)
  refine pz_G_of pz_b120_0 ?_
  refine w_pure rfl ?_
  refine w_loc (ls' := [some (.inr (.inl 10)), some (.inl m), some (.inr (.inl 15)), some (.inl 0)]) (st' := []) rfl ?_
  refine w_nil ?_
  have lp2 : ∀ (dd : Nat) (s : Int) , (k 2 - s).toNat = dd → ∀ (hs : 0 ≤ s ∧ s ≤ k 2), ∀ (hno : ∀ i : Int, 0 ≤ i → i < s → ¬ q_ovr k m i),  pz_G 120 2 [some (.inr (.inl 10)), some (.inl m), some (.inr (.inl 15)), some (.inl s)] [] (pz_Sh L, iv, dv, cc, ss) (pz_P (pz_Sh L) (.inl (some (.inl (pz_bi (q_exi (q_ovr k m) (k 2)))))) iv dv cc ss) := by
    intro dd2
    induction dd2 using Nat.strongRecOn with
    | _ dd2 ih2 =>
    intro s  hd2 hs hno
    have hsp := fun h => hk.sp hs.1 h
    have hst := fun h1 h2 => hk.st (e := k (212 + 4 * s).toNat) h1 h2
    refine pz_G_of pz_b120_2 ?_
    refine w_loc rfl ?_
    refine w_loc rfl ?_
    refine w_getI (v := (iv 10) 0) is_10 (by decide) rfl ?_
    refine w_ige (fun h1 => ?_) (fun h1 => ?_)
    · refine pz_G_of pz_b120_43 ?_
      refine w_pure rfl ?_
      refine w_ret (pz_rok1 (Or.inl rfl)) ?_
      first | exact lf_i (pz_bi_t ⟨s, by omega, by omega, by omega⟩) rfl | exact lf_i (pz_bi_f (fun ⟨j, g1, g2, g3⟩ => hno j g1 (by omega) g3)) rfl
    · refine w_loc rfl ?_
      refine w_loc rfl ?_
      refine w_loc rfl ?_
      have hc2 : pz_R (pz_Sh L) 117 [.inr (.inl 10), .inl s, .inr (.inl 15)] (iv) (.inl (some (.inl (pz_bi ((q_sta k (k (212 + 4 * s).toNat)) ∧ ¬ (q_sta k (k (212 + 4 * s + 1).toNat))))))) (iv) := s_X9_isRunning_15 s (by exact hk) (by exact hS) (by exact hC) (by omega)
      refine w_call hc2 rfl (pz_cokI is_10 rfl) ?_
      refine w_beq (fun h3 => ?_) (fun h3 => ?_)
      · refine pz_G_of pz_b120_37 ?_
        refine w_iinc (ls' := [some (.inr (.inl 10)), some (.inl m), some (.inr (.inl 15)), some (.inl (s + 1))]) rfl rfl rfl (by omega) ?_
        refine w_goto ?_
        exact ih2 _ (by omega) (s + 1)  rfl (by omega) (by intro i g1 g2; by_cases g3 : i = s; (rw [g3]; omega); exact hno i g1 (by omega))
      · refine w_loc rfl ?_
        refine w_loc rfl ?_
        refine w_loc rfl ?_
        have hc4 : pz_R (pz_Sh L) 118 [.inr (.inl 10), .inl s, .inr (.inl 15)] (iv) (.inl (some (.inl (k 4 - k (6 + k (212 + 4 * s).toNat).toNat)))) (iv) := s_X9_minutesGone_15 s (by exact hk) (by exact hS) (by exact hC) (by omega)
        refine w_call hc4 rfl (pz_cokI is_10 rfl) ?_
        refine w_loc rfl ?_
        refine w_iadd (by omega) ?_
        refine w_loc rfl ?_
        refine w_loc rfl ?_
        have hc5 : pz_R (pz_Sh L) 113 [.inr (.inl 10), .inl s] (iv) (.inl (some (.inl (k (212 + 4 * s + 3).toNat)))) (iv) := s_X9_greatestOf s (by exact hk) (by exact hS) (by omega)
        refine w_call hc5 rfl (pz_cokI is_10 rfl) ?_
        refine w_ile (fun h6 => ?_) (fun h6 => ?_)
        · refine pz_G_of pz_b120_37 ?_
          refine w_iinc (ls' := [some (.inr (.inl 10)), some (.inl m), some (.inr (.inl 15)), some (.inl (s + 1))]) rfl rfl rfl (by omega) ?_
          refine w_goto ?_
          exact ih2 _ (by omega) (s + 1)  rfl (by omega) (by intro i g1 g2; by_cases g3 : i = s; (rw [g3]; omega); exact hno i g1 (by omega))
        · refine w_pure rfl ?_
          refine w_ret (pz_rok1 (Or.inr rfl)) ?_
          first | exact lf_i (pz_bi_t ⟨s, by omega, by omega, by omega⟩) rfl | exact lf_i (pz_bi_f (fun ⟨j, g1, g2, g3⟩ => hno j g1 (by omega) g3)) rfl
  exact lp2 _ 0  rfl (by omega) (by intro i g1 g2; omega)

theorem s_X9_add {L : Nat} {iv : Nat → Nat → Int} (f : Int) (t : Int) (l : Int) (g : Int) {k : Nat → Int} (hk : q_KR k) (hS : q_cS k (iv 10) (iv 11) (iv 12) (iv 13) (iv 14)) (hn : k 2 < 3) : pz_R (pz_Sh L) 109 [.inr (.inl 10), .inl f, .inl t, .inl l, .inl g] iv (.inl (some (.inl (k 2)))) (pz_u1 (pz_u1 (pz_u1 (pz_u1 (pz_u1 iv 10 (pz_up (iv 10) 0 (k 2 + 1))) 11 (pz_up (iv 11) (k 2).toNat f)) 12 (pz_up (iv 12) (k 2).toNat t)) 13 (pz_up (iv 13) (k 2).toNat l)) 14 (pz_up (iv 14) (k 2).toNat g)) := by
  intro dv cc ss
  have hk0 := hk.r0
  have hS0 := hS.1
  refine pz_G_mem (iv2 := pz_u1 (pz_u1 (pz_u1 (pz_u1 (pz_u1 iv 10 (iv 10)) 11 (iv 11)) 12 (iv 12)) 13 (iv 13)) 14 (iv 14)) (by exact (((((pz_u1_self iv 10).symm).trans (pz_u1_self (pz_u1 iv 10 (iv 10)) 11).symm).trans (pz_u1_self (pz_u1 (pz_u1 iv 10 (iv 10)) 11 (iv 11)) 12).symm).trans (pz_u1_self (pz_u1 (pz_u1 (pz_u1 iv 10 (iv 10)) 11 (iv 11)) 12 (iv 12)) 13).symm).trans (pz_u1_self (pz_u1 (pz_u1 (pz_u1 (pz_u1 iv 10 (iv 10)) 11 (iv 11)) 12 (iv 12)) 13 (iv 13)) 14).symm) ?_
  show pz_G 109 0 [some (.inr (.inl 10)), some (.inl f), some (.inl t), some (.inl l), some (.inl g), none] [] (pz_Sh L, pz_u1 (pz_u1 (pz_u1 (pz_u1 (pz_u1 iv 10 (iv 10)) 11 (iv 11)) 12 (iv 12)) 13 (iv 13)) 14 (iv 14), dv, cc, ss) (pz_P (pz_Sh L) (.inl (some (.inl (k 2)))) (pz_u1 (pz_u1 (pz_u1 (pz_u1 (pz_u1 iv 10 (pz_up (iv 10) 0 (k 2 + 1))) 11 (pz_up (iv 11) (k 2).toNat f)) 12 (pz_up (iv 12) (k 2).toNat t)) 13 (pz_up (iv 13) (k 2).toNat l)) 14 (pz_up (iv 14) (k 2).toNat g)) dv cc ss)
  refine pz_G_of pz_b109_0 ?_
  refine w_loc rfl ?_
  refine w_getI (v := (iv 10) 0) is_10 (by decide) rfl ?_
  refine w_pure rfl ?_
  refine w_ilt (fun h1 => ?_) (fun h1 => ?_)
  · refine pz_G_of pz_b109_10 ?_
    refine w_loc rfl ?_
    refine w_getI (v := (iv 10) 0) is_10 (by decide) rfl ?_
    refine w_loc (ls' := [some (.inr (.inl 10)), some (.inl f), some (.inl t), some (.inl l), some (.inl g), some (.inl ((iv 10) 0))]) (st' := []) rfl ?_
    refine w_loc rfl ?_
    refine w_getR (q := 11) is_10 rf_10_1 ?_
    refine w_loc rfl ?_
    refine w_loc rfl ?_
    refine w_iastm (iv2 := pz_u1 (pz_u1 (pz_u1 (pz_u1 (pz_u1 iv 10 (iv 10)) 11 (pz_up (iv 11) ((iv 10) 0).toNat f)) 12 (iv 12)) 13 (iv 13)) 14 (iv 14)) is_11 ln_11 ⟨by omega, by omega⟩ (by rw [pz_u2_in (r := 11) (q := 14) (by decide)]; rw [pz_u2_in (r := 11) (q := 13) (by decide)]; rw [pz_u2_in (r := 11) (q := 12) (by decide)]; rw [pz_u2_top] <;> rfl) ?_
    refine w_loc rfl ?_
    refine w_getR (q := 12) is_10 rf_10_2 ?_
    refine w_loc rfl ?_
    refine w_loc rfl ?_
    refine w_iastm (iv2 := pz_u1 (pz_u1 (pz_u1 (pz_u1 (pz_u1 iv 10 (iv 10)) 11 (pz_up (iv 11) ((iv 10) 0).toNat f)) 12 (pz_up (iv 12) ((iv 10) 0).toNat t)) 13 (iv 13)) 14 (iv 14)) is_12 ln_12 ⟨by omega, by omega⟩ (by rw [pz_u2_in (r := 12) (q := 14) (by decide)]; rw [pz_u2_in (r := 12) (q := 13) (by decide)]; rw [pz_u2_top] <;> rfl) ?_
    refine w_loc rfl ?_
    refine w_getR (q := 13) is_10 rf_10_3 ?_
    refine w_loc rfl ?_
    refine w_loc rfl ?_
    refine w_iastm (iv2 := pz_u1 (pz_u1 (pz_u1 (pz_u1 (pz_u1 iv 10 (iv 10)) 11 (pz_up (iv 11) ((iv 10) 0).toNat f)) 12 (pz_up (iv 12) ((iv 10) 0).toNat t)) 13 (pz_up (iv 13) ((iv 10) 0).toNat l)) 14 (iv 14)) is_13 ln_13 ⟨by omega, by omega⟩ (by rw [pz_u2_in (r := 13) (q := 14) (by decide)]; rw [pz_u2_top] <;> rfl) ?_
    refine w_loc rfl ?_
    refine w_getR (q := 14) is_10 rf_10_4 ?_
    refine w_loc rfl ?_
    refine w_loc rfl ?_
    refine w_iastm (iv2 := pz_u1 (pz_u1 (pz_u1 (pz_u1 (pz_u1 iv 10 (iv 10)) 11 (pz_up (iv 11) ((iv 10) 0).toNat f)) 12 (pz_up (iv 12) ((iv 10) 0).toNat t)) 13 (pz_up (iv 13) ((iv 10) 0).toNat l)) 14 (pz_up (iv 14) ((iv 10) 0).toNat g)) is_14 ln_14 ⟨by omega, by omega⟩ (by exact pz_u2_top _ _ _ _ _) ?_
    refine w_loc rfl ?_
    refine w_loc rfl ?_
    refine w_pure rfl ?_
    refine w_iadd (by omega) ?_
    refine w_putIm (iv2 := pz_u1 (pz_u1 (pz_u1 (pz_u1 (pz_u1 iv 10 (pz_up (iv 10) 0 (((iv 10) 0) + 1))) 11 (pz_up (iv 11) ((iv 10) 0).toNat f)) 12 (pz_up (iv 12) ((iv 10) 0).toNat t)) 13 (pz_up (iv 13) ((iv 10) 0).toNat l)) 14 (pz_up (iv 14) ((iv 10) 0).toNat g)) is_10 pz_fit0 (by rw [pz_u2_in (r := 10) (q := 14) (by decide)]; rw [pz_u2_in (r := 10) (q := 13) (by decide)]; rw [pz_u2_in (r := 10) (q := 12) (by decide)]; rw [pz_u2_in (r := 10) (q := 11) (by decide)]; rw [pz_u2_top] <;> rfl) ?_
    refine w_loc rfl ?_
    refine w_ret rfl ?_
    first | exact lf_i (by rw [hS0]) (by rw [hS0]) | (exfalso; omega)
  · refine w_pure rfl ?_
    refine w_ret rfl ?_
    first | exact lf_i (by rw [hS0]) (by rw [hS0]) | (exfalso; omega)
