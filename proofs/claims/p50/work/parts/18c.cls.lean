
theorem s_X1_isNumber {L : Nat} {iv : Nat → Nat → Int} (b : Int) : pz_R (pz_Sh L) 17 [.inr (.inl 4), .inl b] iv (.inl (some (.inl (pz_bi (0 ≤ b ∧ b < 40))))) iv := by
  intro dv cc ss
  show pz_G 17 0 [some (.inr (.inl 4)), some (.inl b)] [] (pz_Sh L, iv, dv, cc, ss) (pz_P (pz_Sh L) (.inl (some (.inl (pz_bi (0 ≤ b ∧ b < 40))))) iv dv cc ss)
  refine pz_G_of pz_b17_0 ?_
  refine w_loc rfl ?_
  refine w_zlt (fun h1 => ?_) (fun h1 => ?_)
  · refine pz_G_of pz_b17_14 ?_
    refine w_pure rfl ?_
    refine w_nil ?_
    refine pz_G_of pz_b17_15 ?_
    refine w_ret (pz_rok1 (Or.inl rfl)) ?_
    first | exact lf_i (pz_bi_f (by omega)) (by rfl) | (exfalso; omega)
  · refine w_loc rfl ?_
    refine w_pure rfl ?_
    refine w_ige (fun h2 => ?_) (fun h2 => ?_)
    · refine pz_G_of pz_b17_14 ?_
      refine w_pure rfl ?_
      refine w_nil ?_
      refine pz_G_of pz_b17_15 ?_
      refine w_ret (pz_rok1 (Or.inl rfl)) ?_
      first | exact lf_i (pz_bi_f (by omega)) (by rfl) | (exfalso; omega)
    · refine w_pure rfl ?_
      refine w_goto ?_
      refine pz_G_of pz_b17_15 ?_
      refine w_ret (pz_rok1 (Or.inr rfl)) ?_
      first | exact lf_i (pz_bi_t (by omega)) (by rfl) | (exfalso; omega)

theorem s_X1_isDropped {L : Nat} {iv : Nat → Nat → Int} (b : Int) {k : Nat → Int} (hk : q_KR k) (hB : q_cB k (iv 4) (iv 5) (iv 6) (iv 7) (iv 8) (iv 9)) (hb : 0 ≤ b ∧ b < k 1) : pz_R (pz_Sh L) 18 [.inr (.inl 4), .inl b] iv (.inl (some (.inl (pz_bi (k (52 + 4 * b + 3).toNat = 99))))) iv := by
  intro dv cc ss
  have hk0 := hk.r0
  have hB0 := hB.1
  have hBb := hB.2 b hb.1 hb.2
  have hbd := hk.bd hb.1 hb.2
  show pz_G 18 0 [some (.inr (.inl 4)), some (.inl b)] [] (pz_Sh L, iv, dv, cc, ss) (pz_P (pz_Sh L) (.inl (some (.inl (pz_bi (k (52 + 4 * b + 3).toNat = 99))))) iv dv cc ss)
  refine pz_G_of pz_b18_0 ?_
  refine w_loc rfl ?_
  refine w_loc rfl ?_
  have hc1 : pz_R (pz_Sh L) 17 [.inr (.inl 4), .inl b] (iv) (.inl (some (.inl (pz_bi (0 ≤ b ∧ b < 40))))) (iv) := s_X1_isNumber b
  refine w_call hc1 rfl (pz_cokI is_4 rfl) ?_
  refine w_beq (fun h2 => ?_) (fun h2 => ?_)
  · refine pz_G_of pz_b18_21 ?_
    refine w_pure rfl ?_
    refine w_nil ?_
    refine pz_G_of pz_b18_22 ?_
    refine w_ret (pz_rok1 (Or.inl rfl)) ?_
    first | exact lf_i (pz_bi_f (by omega)) (by rfl) | (exfalso; omega)
  · refine w_loc rfl ?_
    refine w_getR (q := 9) is_4 rf_4_5 ?_
    refine w_loc rfl ?_
    refine w_bald (v := (iv 9) b.toNat) is_9 ln_9 ⟨by omega, by omega⟩ rfl ?_
    refine w_zeq (fun h3 => ?_) (fun h3 => ?_)
    · refine pz_G_of pz_b18_21 ?_
      refine w_pure rfl ?_
      refine w_nil ?_
      refine pz_G_of pz_b18_22 ?_
      refine w_ret (pz_rok1 (Or.inl rfl)) ?_
      first | exact lf_i (pz_bi_f (by omega)) (by rfl) | (exfalso; omega)
    · refine w_pure rfl ?_
      refine w_goto ?_
      refine pz_G_of pz_b18_22 ?_
      refine w_ret (pz_rok1 (Or.inr rfl)) ?_
      first | exact lf_i (pz_bi_t (by omega)) (by rfl) | (exfalso; omega)

theorem s_X1_drop {L : Nat} {iv : Nat → Nat → Int} (b : Int) {k : Nat → Int} (hk : q_KR k) (hb : 0 ≤ b ∧ b < k 1) : pz_R (pz_Sh L) 19 [.inr (.inl 4), .inl b] iv (.inl none) (pz_u1 iv 9 (pz_up (iv 9) b.toNat 1)) := by
  intro dv cc ss
  have hk0 := hk.r0
  refine pz_G_mem (iv2 := pz_u1 iv 9 (iv 9)) (by exact (pz_u1_self iv 9).symm) ?_
  show pz_G 19 0 [some (.inr (.inl 4)), some (.inl b)] [] (pz_Sh L, pz_u1 iv 9 (iv 9), dv, cc, ss) (pz_P (pz_Sh L) (.inl none) (pz_u1 iv 9 (pz_up (iv 9) b.toNat 1)) dv cc ss)
  refine pz_G_of pz_b19_0 ?_
  refine w_loc rfl ?_
  refine w_loc rfl ?_
  have hc1 : pz_R (pz_Sh L) 17 [.inr (.inl 4), .inl b] (pz_u1 iv 9 (iv 9)) (.inl (some (.inl (pz_bi (0 ≤ b ∧ b < 40))))) (pz_u1 iv 9 (iv 9)) := s_X1_isNumber b
  refine w_call hc1 rfl (pz_cokI is_4 rfl) ?_
  refine w_beq (fun h2 => ?_) (fun h2 => ?_)
  · refine pz_G_of pz_b19_15 ?_
    refine w_vret ?_
    first | exact lf_v (by rfl) | (exfalso; omega)
  · refine w_loc rfl ?_
    refine w_getR (q := 9) is_4 rf_4_5 ?_
    refine w_loc rfl ?_
    refine w_pure rfl ?_
    refine w_bastm (iv2 := pz_u1 iv 9 (pz_up (iv 9) b.toNat 1)) is_9 ln_9 ⟨by omega, by omega⟩ (Or.inr rfl) (by exact pz_u2_top _ _ _ _ _) ?_
    refine w_nil ?_
    refine pz_G_of pz_b19_15 ?_
    refine w_vret ?_
    first | exact lf_v (by rfl) | (exfalso; omega)

theorem s_X1_holds {L : Nat} {iv : Nat → Nat → Int} (b : Int) (x : Int) (y : Int) {k : Nat → Int} (hk : q_KR k) (hB : q_cB k (iv 4) (iv 5) (iv 6) (iv 7) (iv 8) (iv 9)) (hb : 0 ≤ b ∧ b < k 1) (hT : q_cT k x y) : pz_R (pz_Sh L) 20 [.inr (.inl 4), .inl b, .inl x, .inl y] iv (.inl (some (.inl (pz_bi (q_hld k b))))) iv := by
  intro dv cc ss
  have hk0 := hk.r0
  have hB0 := hB.1
  obtain ⟨hq0, hq1, hq2, hq3, hq4, hq5⟩ := q_hld_c hk hB hb hT
  clear hB hT
  show pz_G 20 0 [some (.inr (.inl 4)), some (.inl b), some (.inl x), some (.inl y), none] [] (pz_Sh L, iv, dv, cc, ss) (pz_P (pz_Sh L) (.inl (some (.inl (pz_bi (q_hld k b))))) iv dv cc ss)
  refine pz_G_of pz_b20_0 ?_
  refine w_loc rfl ?_
  refine w_loc rfl ?_
  have hc1 : pz_R (pz_Sh L) 17 [.inr (.inl 4), .inl b] (iv) (.inl (some (.inl (pz_bi (0 ≤ b ∧ b < 40))))) (iv) := s_X1_isNumber b
  refine w_call hc1 rfl (pz_cokI is_4 rfl) ?_
  refine w_beq (fun h2 => ?_) (fun h2 => ?_)
  · refine pz_G_of pz_b20_17 ?_
    refine w_pure rfl ?_
    refine w_ret (pz_rok1 (Or.inl rfl)) ?_
    first | first | exact lf_i (pz_bi_t (hq3 (by omega) (by omega))) rfl | exact lf_i (pz_bi_t ((hq4 (by omega) (by omega)).mp (by assumption))) rfl | exact lf_i (pz_bi_t ((hq5 (by omega) (by omega)).mp (by assumption))) rfl | exact lf_i (pz_bi_f (hq1 (by omega))) rfl | exact lf_i (pz_bi_f (fun q => absurd (by assumption) ((hq4 (by omega) (by omega)).mpr q))) rfl | exact lf_i (pz_bi_f (fun q => absurd (by assumption) ((hq5 (by omega) (by omega)).mpr q))) rfl | (exfalso; omega)
  · refine w_loc rfl ?_
    refine w_getR (q := 9) is_4 rf_4_5 ?_
    refine w_loc rfl ?_
    refine w_bald (v := (iv 9) b.toNat) is_9 ln_9 ⟨by omega, by omega⟩ rfl ?_
    refine w_zeq (fun h3 => ?_) (fun h3 => ?_)
    · refine pz_G_of pz_b20_19 ?_
      refine w_loc rfl ?_
      refine w_getR (q := 8) is_4 rf_4_4 ?_
      refine w_loc rfl ?_
      refine w_iald (v := (iv 8) b.toNat) is_8 ln_8 ⟨by omega, by omega⟩ rfl ?_
      refine w_loc (ls' := [some (.inr (.inl 4)), some (.inl b), some (.inl x), some (.inl y), some (.inl ((iv 8) b.toNat))]) (st' := []) rfl ?_
      refine w_loc rfl ?_
      refine w_zne (fun h4 => ?_) (fun h4 => ?_)
      · refine pz_G_of pz_b20_34 ?_
        refine w_loc rfl ?_
        refine w_zle (fun h5 => ?_) (fun h5 => ?_)
        · refine pz_G_of pz_b20_59 ?_
          refine w_loc rfl ?_
          refine w_loc rfl ?_
          refine w_ineg (by omega) ?_
          refine w_pure rfl ?_
          refine w_isub (by omega) ?_
          have hc6 : pz_R (pz_Sh L) 186 [.inl ((-((iv 8) b.toNat)) - 1)] (iv) (.inl (some (.inl (pz_shl 1 ((-((iv 8) b.toNat)) - 1))))) (iv) := s_X10_bit ((-((iv 8) b.toNat)) - 1)
          refine w_call hc6 rfl rfl ?_
          refine w_iand ?_
          refine w_zeq (fun h7 => ?_) (fun h7 => ?_)
          · refine pz_G_of pz_b20_76 ?_
            refine w_pure rfl ?_
            refine w_nil ?_
            refine pz_G_of pz_b20_77 ?_
            refine w_ret (pz_rok1 (Or.inl rfl)) ?_
            first | first | exact lf_i (pz_bi_t (hq3 (by omega) (by omega))) rfl | exact lf_i (pz_bi_t ((hq4 (by omega) (by omega)).mp (by assumption))) rfl | exact lf_i (pz_bi_t ((hq5 (by omega) (by omega)).mp (by assumption))) rfl | exact lf_i (pz_bi_f (hq1 (by omega))) rfl | exact lf_i (pz_bi_f (fun q => absurd (by assumption) ((hq4 (by omega) (by omega)).mpr q))) rfl | exact lf_i (pz_bi_f (fun q => absurd (by assumption) ((hq5 (by omega) (by omega)).mpr q))) rfl | (exfalso; omega)
          · refine w_pure rfl ?_
            refine w_goto ?_
            refine pz_G_of pz_b20_77 ?_
            refine w_ret (pz_rok1 (Or.inr rfl)) ?_
            first | first | exact lf_i (pz_bi_t (hq3 (by omega) (by omega))) rfl | exact lf_i (pz_bi_t ((hq4 (by omega) (by omega)).mp (by assumption))) rfl | exact lf_i (pz_bi_t ((hq5 (by omega) (by omega)).mp (by assumption))) rfl | exact lf_i (pz_bi_f (hq1 (by omega))) rfl | exact lf_i (pz_bi_f (fun q => absurd (by assumption) ((hq4 (by omega) (by omega)).mpr q))) rfl | exact lf_i (pz_bi_f (fun q => absurd (by assumption) ((hq5 (by omega) (by omega)).mpr q))) rfl | (exfalso; omega)
        · refine w_loc rfl ?_
          refine w_loc rfl ?_
          refine w_pure rfl ?_
          refine w_isub (by omega) ?_
          have hc8 : pz_R (pz_Sh L) 186 [.inl (((iv 8) b.toNat) - 1)] (iv) (.inl (some (.inl (pz_shl 1 (((iv 8) b.toNat) - 1))))) (iv) := s_X10_bit (((iv 8) b.toNat) - 1)
          refine w_call hc8 rfl rfl ?_
          refine w_iand ?_
          refine w_zeq (fun h9 => ?_) (fun h9 => ?_)
          · refine pz_G_of pz_b20_55 ?_
            refine w_pure rfl ?_
            refine w_goto ?_
            refine pz_G_of pz_b20_77 ?_
            refine w_ret (pz_rok1 (Or.inl rfl)) ?_
            first | first | exact lf_i (pz_bi_t (hq3 (by omega) (by omega))) rfl | exact lf_i (pz_bi_t ((hq4 (by omega) (by omega)).mp (by assumption))) rfl | exact lf_i (pz_bi_t ((hq5 (by omega) (by omega)).mp (by assumption))) rfl | exact lf_i (pz_bi_f (hq1 (by omega))) rfl | exact lf_i (pz_bi_f (fun q => absurd (by assumption) ((hq4 (by omega) (by omega)).mpr q))) rfl | exact lf_i (pz_bi_f (fun q => absurd (by assumption) ((hq5 (by omega) (by omega)).mpr q))) rfl | (exfalso; omega)
          · refine w_pure rfl ?_
            refine w_goto ?_
            refine pz_G_of pz_b20_77 ?_
            refine w_ret (pz_rok1 (Or.inr rfl)) ?_
            first | first | exact lf_i (pz_bi_t (hq3 (by omega) (by omega))) rfl | exact lf_i (pz_bi_t ((hq4 (by omega) (by omega)).mp (by assumption))) rfl | exact lf_i (pz_bi_t ((hq5 (by omega) (by omega)).mp (by assumption))) rfl | exact lf_i (pz_bi_f (hq1 (by omega))) rfl | exact lf_i (pz_bi_f (fun q => absurd (by assumption) ((hq4 (by omega) (by omega)).mpr q))) rfl | exact lf_i (pz_bi_f (fun q => absurd (by assumption) ((hq5 (by omega) (by omega)).mpr q))) rfl | (exfalso; omega)
      · refine w_pure rfl ?_
        refine w_ret (pz_rok1 (Or.inr rfl)) ?_
        first | first | exact lf_i (pz_bi_t (hq3 (by omega) (by omega))) rfl | exact lf_i (pz_bi_t ((hq4 (by omega) (by omega)).mp (by assumption))) rfl | exact lf_i (pz_bi_t ((hq5 (by omega) (by omega)).mp (by assumption))) rfl | exact lf_i (pz_bi_f (hq1 (by omega))) rfl | exact lf_i (pz_bi_f (fun q => absurd (by assumption) ((hq4 (by omega) (by omega)).mpr q))) rfl | exact lf_i (pz_bi_f (fun q => absurd (by assumption) ((hq5 (by omega) (by omega)).mpr q))) rfl | (exfalso; omega)
    · refine w_nil ?_
      refine pz_G_of pz_b20_17 ?_
      refine w_pure rfl ?_
      refine w_ret (pz_rok1 (Or.inl rfl)) ?_
      first | first | exact lf_i (pz_bi_t (hq3 (by omega) (by omega))) rfl | exact lf_i (pz_bi_t ((hq4 (by omega) (by omega)).mp (by assumption))) rfl | exact lf_i (pz_bi_t ((hq5 (by omega) (by omega)).mp (by assumption))) rfl | exact lf_i (pz_bi_f (hq1 (by omega))) rfl | exact lf_i (pz_bi_f (fun q => absurd (by assumption) ((hq4 (by omega) (by omega)).mpr q))) rfl | exact lf_i (pz_bi_f (fun q => absurd (by assumption) ((hq5 (by omega) (by omega)).mpr q))) rfl | (exfalso; omega)

theorem s_X1_areMinutesRight {L : Nat} {iv : Nat → Nat → Int} (b : Int) {k : Nat → Int} (hk : q_KR k) (hB : q_cB k (iv 4) (iv 5) (iv 6) (iv 7) (iv 8) (iv 9)) (hb : 0 ≤ b ∧ b < k 1) (hr : (-1 ≤ (iv 152) 0 ∧ (iv 152) 0 ≤ 1000000000) ∧ q_al (iv 153)) : pz_R (pz_Sh L) 21 [.inr (.inl 4), .inl b, .inr (.inl 152)] iv (.inl (some (.inl (pz_bi ((iv 153) (k (52 + 4 * b + 1).toNat).toNat - (iv 153) (k (52 + 4 * b).toNat).toNat ≤ k (52 + 4 * b + 2).toNat))))) iv := by
  intro dv cc ss
  have hk0 := hk.r0
  have hB0 := hB.1
  have hBb := hB.2 b hb.1 hb.2
  have hbd := hk.bd hb.1 hb.2
  have hq1 : iv 153 (iv 6 b.toNat).toNat = iv 153 (k (52 + 4 * b + 1).toNat).toNat := by rw [hBb.2.1]
  have hq2 : iv 153 (iv 5 b.toNat).toNat = iv 153 (k (52 + 4 * b).toNat).toNat := by rw [hBb.1]
  have hal1 := hr.2 (k (52 + 4 * b + 1).toNat) (by omega) (by omega)
  have hal2 := hr.2 (k (52 + 4 * b).toNat) (by omega) (by omega)
  show pz_G 21 0 [some (.inr (.inl 4)), some (.inl b), some (.inr (.inl 152))] [] (pz_Sh L, iv, dv, cc, ss) (pz_P (pz_Sh L) (.inl (some (.inl (pz_bi ((iv 153) (k (52 + 4 * b + 1).toNat).toNat - (iv 153) (k (52 + 4 * b).toNat).toNat ≤ k (52 + 4 * b + 2).toNat))))) iv dv cc ss)
  refine pz_G_of pz_b21_0 ?_
  refine w_loc rfl ?_
  refine w_loc rfl ?_
  have hc1 : pz_R (pz_Sh L) 17 [.inr (.inl 4), .inl b] (iv) (.inl (some (.inl (pz_bi (0 ≤ b ∧ b < 40))))) (iv) := s_X1_isNumber b
  refine w_call hc1 rfl (pz_cokI is_4 rfl) ?_
  refine w_beq (fun h2 => ?_) (fun h2 => ?_)
  · refine pz_G_of pz_b21_42 ?_
    refine w_pure rfl ?_
    refine w_nil ?_
    refine pz_G_of pz_b21_43 ?_
    refine w_ret (pz_rok1 (Or.inl rfl)) ?_
    first | exact lf_i (pz_bi_f (by omega)) (by rfl) | (exfalso; omega)
  · refine w_loc rfl ?_
    refine w_loc rfl ?_
    refine w_getR (q := 6) is_4 rf_4_2 ?_
    refine w_loc rfl ?_
    refine w_iald (v := (iv 6) b.toNat) is_6 ln_6 ⟨by omega, by omega⟩ rfl ?_
    have hc3 : pz_R (pz_Sh L) 25 [.inr (.inl 152), .inl ((iv 6) b.toNat)] (iv) (.inl (some (.inl ((iv 153) ((iv 6) b.toNat).toNat)))) (iv) := s_X2_startOf_152 ((iv 6) b.toNat) (by omega)
    refine w_call hc3 rfl (pz_cokI is_152 rfl) ?_
    refine w_loc rfl ?_
    refine w_loc rfl ?_
    refine w_getR (q := 5) is_4 rf_4_1 ?_
    refine w_loc rfl ?_
    refine w_iald (v := (iv 5) b.toNat) is_5 ln_5 ⟨by omega, by omega⟩ rfl ?_
    have hc4 : pz_R (pz_Sh L) 25 [.inr (.inl 152), .inl ((iv 5) b.toNat)] (iv) (.inl (some (.inl ((iv 153) ((iv 5) b.toNat).toNat)))) (iv) := s_X2_startOf_152 ((iv 5) b.toNat) (by omega)
    refine w_call hc4 rfl (pz_cokI is_152 rfl) ?_
    refine w_isub (by omega) ?_
    refine w_loc rfl ?_
    refine w_getR (q := 7) is_4 rf_4_3 ?_
    refine w_loc rfl ?_
    refine w_iald (v := (iv 7) b.toNat) is_7 ln_7 ⟨by omega, by omega⟩ rfl ?_
    refine w_igt (fun h5 => ?_) (fun h5 => ?_)
    · refine pz_G_of pz_b21_42 ?_
      refine w_pure rfl ?_
      refine w_nil ?_
      refine pz_G_of pz_b21_43 ?_
      refine w_ret (pz_rok1 (Or.inl rfl)) ?_
      first | exact lf_i (pz_bi_f (by omega)) (by rfl) | (exfalso; omega)
    · refine w_pure rfl ?_
      refine w_goto ?_
      refine pz_G_of pz_b21_43 ?_
      refine w_ret (pz_rok1 (Or.inr rfl)) ?_
      first | exact lf_i (pz_bi_t (by omega)) (by rfl) | (exfalso; omega)

theorem s_X1_add {L : Nat} {iv : Nat → Nat → Int} (f : Int) (t : Int) (w : Int) (l : Int) {k : Nat → Int} (hk : q_KR k) (hB : q_cB k (iv 4) (iv 5) (iv 6) (iv 7) (iv 8) (iv 9)) (hn : k 1 < 40) : pz_R (pz_Sh L) 16 [.inr (.inl 4), .inl f, .inl t, .inl w, .inl l] iv (.inl (some (.inl (k 1)))) (pz_u1 (pz_u1 (pz_u1 (pz_u1 (pz_u1 (pz_u1 iv 4 (pz_up (iv 4) 0 (k 1 + 1))) 5 (pz_up (iv 5) (k 1).toNat f)) 6 (pz_up (iv 6) (k 1).toNat t)) 7 (pz_up (iv 7) (k 1).toNat w)) 8 (pz_up (iv 8) (k 1).toNat l)) 9 (pz_up (iv 9) (k 1).toNat 0)) := by
  intro dv cc ss
  have hk0 := hk.r0
  have hB0 := hB.1
  refine pz_G_mem (iv2 := pz_u1 (pz_u1 (pz_u1 (pz_u1 (pz_u1 (pz_u1 iv 4 (iv 4)) 5 (iv 5)) 6 (iv 6)) 7 (iv 7)) 8 (iv 8)) 9 (iv 9)) (by exact ((((((pz_u1_self iv 4).symm).trans (pz_u1_self (pz_u1 iv 4 (iv 4)) 5).symm).trans (pz_u1_self (pz_u1 (pz_u1 iv 4 (iv 4)) 5 (iv 5)) 6).symm).trans (pz_u1_self (pz_u1 (pz_u1 (pz_u1 iv 4 (iv 4)) 5 (iv 5)) 6 (iv 6)) 7).symm).trans (pz_u1_self (pz_u1 (pz_u1 (pz_u1 (pz_u1 iv 4 (iv 4)) 5 (iv 5)) 6 (iv 6)) 7 (iv 7)) 8).symm).trans (pz_u1_self (pz_u1 (pz_u1 (pz_u1 (pz_u1 (pz_u1 iv 4 (iv 4)) 5 (iv 5)) 6 (iv 6)) 7 (iv 7)) 8 (iv 8)) 9).symm) ?_
  show pz_G 16 0 [some (.inr (.inl 4)), some (.inl f), some (.inl t), some (.inl w), some (.inl l), none] [] (pz_Sh L, pz_u1 (pz_u1 (pz_u1 (pz_u1 (pz_u1 (pz_u1 iv 4 (iv 4)) 5 (iv 5)) 6 (iv 6)) 7 (iv 7)) 8 (iv 8)) 9 (iv 9), dv, cc, ss) (pz_P (pz_Sh L) (.inl (some (.inl (k 1)))) (pz_u1 (pz_u1 (pz_u1 (pz_u1 (pz_u1 (pz_u1 iv 4 (pz_up (iv 4) 0 (k 1 + 1))) 5 (pz_up (iv 5) (k 1).toNat f)) 6 (pz_up (iv 6) (k 1).toNat t)) 7 (pz_up (iv 7) (k 1).toNat w)) 8 (pz_up (iv 8) (k 1).toNat l)) 9 (pz_up (iv 9) (k 1).toNat 0)) dv cc ss)
  refine pz_G_of pz_b16_0 ?_
  refine w_loc rfl ?_
  refine w_getI (v := (iv 4) 0) is_4 (by decide) rfl ?_
  refine w_pure rfl ?_
  refine w_ilt (fun h1 => ?_) (fun h1 => ?_)
  · refine pz_G_of pz_b16_11 ?_
    refine w_loc rfl ?_
    refine w_getI (v := (iv 4) 0) is_4 (by decide) rfl ?_
    refine w_loc (ls' := [some (.inr (.inl 4)), some (.inl f), some (.inl t), some (.inl w), some (.inl l), some (.inl ((iv 4) 0))]) (st' := []) rfl ?_
    refine w_loc rfl ?_
    refine w_getR (q := 5) is_4 rf_4_1 ?_
    refine w_loc rfl ?_
    refine w_loc rfl ?_
    refine w_iastm (iv2 := pz_u1 (pz_u1 (pz_u1 (pz_u1 (pz_u1 (pz_u1 iv 4 (iv 4)) 5 (pz_up (iv 5) ((iv 4) 0).toNat f)) 6 (iv 6)) 7 (iv 7)) 8 (iv 8)) 9 (iv 9)) is_5 ln_5 ⟨by omega, by omega⟩ (by rw [pz_u2_in (r := 5) (q := 9) (by decide)]; rw [pz_u2_in (r := 5) (q := 8) (by decide)]; rw [pz_u2_in (r := 5) (q := 7) (by decide)]; rw [pz_u2_in (r := 5) (q := 6) (by decide)]; rw [pz_u2_top] <;> rfl) ?_
    refine w_loc rfl ?_
    refine w_getR (q := 6) is_4 rf_4_2 ?_
    refine w_loc rfl ?_
    refine w_loc rfl ?_
    refine w_iastm (iv2 := pz_u1 (pz_u1 (pz_u1 (pz_u1 (pz_u1 (pz_u1 iv 4 (iv 4)) 5 (pz_up (iv 5) ((iv 4) 0).toNat f)) 6 (pz_up (iv 6) ((iv 4) 0).toNat t)) 7 (iv 7)) 8 (iv 8)) 9 (iv 9)) is_6 ln_6 ⟨by omega, by omega⟩ (by rw [pz_u2_in (r := 6) (q := 9) (by decide)]; rw [pz_u2_in (r := 6) (q := 8) (by decide)]; rw [pz_u2_in (r := 6) (q := 7) (by decide)]; rw [pz_u2_top] <;> rfl) ?_
    refine w_loc rfl ?_
    refine w_getR (q := 7) is_4 rf_4_3 ?_
    refine w_loc rfl ?_
    refine w_loc rfl ?_
    refine w_iastm (iv2 := pz_u1 (pz_u1 (pz_u1 (pz_u1 (pz_u1 (pz_u1 iv 4 (iv 4)) 5 (pz_up (iv 5) ((iv 4) 0).toNat f)) 6 (pz_up (iv 6) ((iv 4) 0).toNat t)) 7 (pz_up (iv 7) ((iv 4) 0).toNat w)) 8 (iv 8)) 9 (iv 9)) is_7 ln_7 ⟨by omega, by omega⟩ (by rw [pz_u2_in (r := 7) (q := 9) (by decide)]; rw [pz_u2_in (r := 7) (q := 8) (by decide)]; rw [pz_u2_top] <;> rfl) ?_
    refine w_loc rfl ?_
    refine w_getR (q := 8) is_4 rf_4_4 ?_
    refine w_loc rfl ?_
    refine w_loc rfl ?_
    refine w_iastm (iv2 := pz_u1 (pz_u1 (pz_u1 (pz_u1 (pz_u1 (pz_u1 iv 4 (iv 4)) 5 (pz_up (iv 5) ((iv 4) 0).toNat f)) 6 (pz_up (iv 6) ((iv 4) 0).toNat t)) 7 (pz_up (iv 7) ((iv 4) 0).toNat w)) 8 (pz_up (iv 8) ((iv 4) 0).toNat l)) 9 (iv 9)) is_8 ln_8 ⟨by omega, by omega⟩ (by rw [pz_u2_in (r := 8) (q := 9) (by decide)]; rw [pz_u2_top] <;> rfl) ?_
    refine w_loc rfl ?_
    refine w_getR (q := 9) is_4 rf_4_5 ?_
    refine w_loc rfl ?_
    refine w_pure rfl ?_
    refine w_bastm (iv2 := pz_u1 (pz_u1 (pz_u1 (pz_u1 (pz_u1 (pz_u1 iv 4 (iv 4)) 5 (pz_up (iv 5) ((iv 4) 0).toNat f)) 6 (pz_up (iv 6) ((iv 4) 0).toNat t)) 7 (pz_up (iv 7) ((iv 4) 0).toNat w)) 8 (pz_up (iv 8) ((iv 4) 0).toNat l)) 9 (pz_up (iv 9) ((iv 4) 0).toNat 0)) is_9 ln_9 ⟨by omega, by omega⟩ (Or.inl rfl) (by exact pz_u2_top _ _ _ _ _) ?_
    refine w_loc rfl ?_
    refine w_loc rfl ?_
    refine w_pure rfl ?_
    refine w_iadd (by omega) ?_
    refine w_putIm (iv2 := pz_u1 (pz_u1 (pz_u1 (pz_u1 (pz_u1 (pz_u1 iv 4 (pz_up (iv 4) 0 (((iv 4) 0) + 1))) 5 (pz_up (iv 5) ((iv 4) 0).toNat f)) 6 (pz_up (iv 6) ((iv 4) 0).toNat t)) 7 (pz_up (iv 7) ((iv 4) 0).toNat w)) 8 (pz_up (iv 8) ((iv 4) 0).toNat l)) 9 (pz_up (iv 9) ((iv 4) 0).toNat 0)) is_4 pz_fit0 (by rw [pz_u2_in (r := 4) (q := 9) (by decide)]; rw [pz_u2_in (r := 4) (q := 8) (by decide)]; rw [pz_u2_in (r := 4) (q := 7) (by decide)]; rw [pz_u2_in (r := 4) (q := 6) (by decide)]; rw [pz_u2_in (r := 4) (q := 5) (by decide)]; rw [pz_u2_top] <;> rfl) ?_
    refine w_loc rfl ?_
    refine w_ret rfl ?_
    first | exact lf_i (by rw [hB0]) (by rw [hB0]) | (exfalso; omega)
  · refine w_pure rfl ?_
    refine w_ret rfl ?_
    first | exact lf_i (by rw [hB0]) (by rw [hB0]) | (exfalso; omega)

theorem s_X6_letterOf {L : Nat} {iv : Nat → Nat → Int} (l : Int) {k : Nat → Int} (hk : q_KR k) (hL : q_cL k (iv 25)) (hl : 1 ≤ l ∧ l ≤ 4) : pz_R (pz_Sh L) 66 [.inr (.inl 3), .inl l] iv (.inl (some (.inl (k (46 + l).toNat)))) iv := by
  intro dv cc ss
  have hk0 := hk.r0
  have hLl := hL l hl.1 hl.2
  have hlb := hk.lb (l := l) (by omega) hl.2
  show pz_G 66 0 [some (.inr (.inl 3)), some (.inl l)] [] (pz_Sh L, iv, dv, cc, ss) (pz_P (pz_Sh L) (.inl (some (.inl (k (46 + l).toNat)))) iv dv cc ss)
  refine pz_G_of pz_b66_0 ?_
  refine w_loc rfl ?_
  refine w_pure rfl ?_
  refine w_pure rfl ?_
  have hc1 : pz_R (pz_Sh L) 185 [.inl l, .inl 1, .inl 4] (iv) (.inl (some (.inl (pz_bi (1 ≤ l ∧ l ≤ 4))))) (iv) := s_X10_isWithin l 1 4
  refine w_call hc1 rfl rfl ?_
  refine w_beq (fun h2 => ?_) (fun h2 => ?_)
  · refine pz_G_of pz_b66_18 ?_
    refine w_pure rfl ?_
    refine w_nil ?_
    refine pz_G_of pz_b66_20 ?_
    refine w_ret (pz_rok2 (by omega)) ?_
    first | exact lf_i (by first | rfl | omega) (by rfl) | (exfalso; omega)
  · refine w_loc rfl ?_
    refine w_getR (q := 25) is_3 rf_3_6 ?_
    refine w_loc rfl ?_
    refine w_cald (v := (iv 25) l.toNat) is_25 ln_25 ⟨by omega, by omega⟩ rfl ?_
    refine w_goto ?_
    refine pz_G_of pz_b66_20 ?_
    refine w_ret (pz_rok2 (by omega)) ?_
    first | exact lf_i (by first | rfl | omega) (by rfl) | (exfalso; omega)

theorem s_X6_setLabel {L : Nat} {iv : Nat → Nat → Int} (l : Int) (c : Int) (hl : 1 ≤ l ∧ l ≤ 4) (hc : 0 ≤ c ∧ c ≤ 65535) : pz_R (pz_Sh L) 67 [.inr (.inl 3), .inl l, .inl c] iv (.inl none) (pz_u1 iv 25 (pz_up (iv 25) l.toNat c)) := by
  intro dv cc ss
  refine pz_G_mem (iv2 := pz_u1 iv 25 (iv 25)) (by exact (pz_u1_self iv 25).symm) ?_
  show pz_G 67 0 [some (.inr (.inl 3)), some (.inl l), some (.inl c)] [] (pz_Sh L, pz_u1 iv 25 (iv 25), dv, cc, ss) (pz_P (pz_Sh L) (.inl none) (pz_u1 iv 25 (pz_up (iv 25) l.toNat c)) dv cc ss)
  refine pz_G_of pz_b67_0 ?_
  refine w_loc rfl ?_
  refine w_pure rfl ?_
  refine w_pure rfl ?_
  have hc1 : pz_R (pz_Sh L) 185 [.inl l, .inl 1, .inl 4] (pz_u1 iv 25 (iv 25)) (.inl (some (.inl (pz_bi (1 ≤ l ∧ l ≤ 4))))) (pz_u1 iv 25 (iv 25)) := s_X10_isWithin l 1 4
  refine w_call hc1 rfl rfl ?_
  refine w_beq (fun h2 => ?_) (fun h2 => ?_)
  · refine pz_G_of pz_b67_16 ?_
    refine w_vret ?_
    first | exact lf_v (by rfl) | (exfalso; omega)
  · refine w_loc rfl ?_
    refine w_getR (q := 25) is_3 rf_3_6 ?_
    refine w_loc rfl ?_
    refine w_loc rfl ?_
    refine w_castm (iv2 := pz_u1 iv 25 (pz_up (iv 25) l.toNat c)) is_25 ln_25 ⟨by omega, by omega⟩ (by omega) (by exact pz_u2_top _ _ _ _ _) ?_
    refine w_nil ?_
    refine pz_G_of pz_b67_16 ?_
    refine w_vret ?_
    first | exact lf_v (by rfl) | (exfalso; omega)

theorem s_X6_isObserved {L : Nat} {iv : Nat → Nat → Int} (l : Int) {k : Nat → Int} (hk : q_KR k) (hL : q_cL k (iv 25)) (hl : 1 ≤ l ∧ l ≤ 4) : pz_R (pz_Sh L) 68 [.inr (.inl 3), .inl l] iv (.inl (some (.inl (pz_bi (q_obs k l))))) iv := by
  intro dv cc ss
  have hk0 := hk.r0
  have hLl := hL l hl.1 hl.2
  have hlb := hk.lb (l := l) (by omega) hl.2
  show pz_G 68 0 [some (.inr (.inl 3)), some (.inl l), none] [] (pz_Sh L, iv, dv, cc, ss) (pz_P (pz_Sh L) (.inl (some (.inl (pz_bi (q_obs k l))))) iv dv cc ss)
  refine pz_G_of pz_b68_0 ?_
  refine w_loc rfl ?_
  refine w_loc rfl ?_
  have hc1 : pz_R (pz_Sh L) 66 [.inr (.inl 3), .inl l] (iv) (.inl (some (.inl (k (46 + l).toNat)))) (iv) := s_X6_letterOf l (by exact hk) (by exact hL) (by omega)
  refine w_call hc1 rfl (pz_cokI is_3 rfl) ?_
  refine w_loc (ls' := [some (.inr (.inl 3)), some (.inl l), some (.inl (k (46 + l).toNat))]) (st' := []) rfl ?_
  refine w_loc rfl ?_
  refine w_pure rfl ?_
  refine w_ieq (fun h2 => ?_) (fun h2 => ?_)
  · refine pz_G_of pz_b68_18 ?_
    refine w_pure rfl ?_
    refine w_goto ?_
    refine pz_G_of pz_b68_23 ?_
    refine w_ret (pz_rok1 (Or.inr rfl)) ?_
    first | exact lf_i (pz_bi_t (by omega)) (by rfl) | (exfalso; omega)
  · refine w_loc rfl ?_
    refine w_pure rfl ?_
    refine w_ine (fun h3 => ?_) (fun h3 => ?_)
    · refine pz_G_of pz_b68_22 ?_
      refine w_pure rfl ?_
      refine w_nil ?_
      refine pz_G_of pz_b68_23 ?_
      refine w_ret (pz_rok1 (Or.inl rfl)) ?_
      first | exact lf_i (pz_bi_f (by omega)) (by rfl) | (exfalso; omega)
    · refine w_nil ?_
      refine pz_G_of pz_b68_18 ?_
      refine w_pure rfl ?_
      refine w_goto ?_
      refine pz_G_of pz_b68_23 ?_
      refine w_ret (pz_rok1 (Or.inr rfl)) ?_
      first | exact lf_i (pz_bi_t (by omega)) (by rfl) | (exfalso; omega)

theorem s_X6_labelsWith {L : Nat} {iv : Nat → Nat → Int} (c : Int) (d : Int) : pz_R (pz_Sh L) 71 [.inr (.inl 3), .inl c, .inl d] iv (.inl (some (.inl (q_ls (iv 25) c d 5)))) iv := by
  intro dv cc ss
  show pz_G 71 0 [some (.inr (.inl 3)), some (.inl c), some (.inl d), none, none] [] (pz_Sh L, iv, dv, cc, ss) (pz_P (pz_Sh L) (.inl (some (.inl (q_ls (iv 25) c d 5)))) iv dv cc ss)
  refine pz_G_of pz_b71_0 ?_
  refine w_pure rfl ?_
  refine w_loc (ls' := [some (.inr (.inl 3)), some (.inl c), some (.inl d), some (.inl 0), none]) (st' := []) rfl ?_
  refine w_pure rfl ?_
  refine w_loc (ls' := [some (.inr (.inl 3)), some (.inl c), some (.inl d), some (.inl 0), some (.inl 1)]) (st' := []) rfl ?_
  refine w_nil ?_
  have lp5 : ∀ (dd : Nat) (n : Int) (l : Int) , (5 - l).toNat = dd → ∀ (hl : 1 ≤ l ∧ l ≤ 5), ∀ (hn : n = q_ls (iv 25) c d l),  pz_G 71 5 [some (.inr (.inl 3)), some (.inl c), some (.inl d), some (.inl n), some (.inl l)] [] (pz_Sh L, iv, dv, cc, ss) (pz_P (pz_Sh L) (.inl (some (.inl (q_ls (iv 25) c d 5)))) iv dv cc ss) := by
    intro dd5
    induction dd5 using Nat.strongRecOn with
    | _ dd5 ih5 =>
    intro n l  hd5 hl hn
    have hr := q_ls_r (r := iv 25) (c := c) (d := d) hl.1 hl.2
    rw [← hn] at hr
    refine pz_G_of pz_b71_5 ?_
    refine w_loc rfl ?_
    refine w_pure rfl ?_
    refine w_igt (fun h1 => ?_) (fun h1 => ?_)
    · refine pz_G_of pz_b71_49 ?_
      refine w_loc rfl ?_
      refine w_ret rfl ?_
      first | exact lf_i (by rw [hn, show l = 5 by omega]) rfl | (exfalso; omega)
    · refine w_loc rfl ?_
      refine w_getR (q := 25) is_3 rf_3_6 ?_
      refine w_loc rfl ?_
      refine w_cald (v := (iv 25) l.toNat) is_25 ln_25 ⟨by omega, by omega⟩ rfl ?_
      refine w_loc rfl ?_
      refine w_ieq (fun h2 => ?_) (fun h2 => ?_)
      · refine pz_G_of pz_b71_33 ?_
        refine w_loc rfl ?_
        refine w_loc rfl ?_
        refine w_pure rfl ?_
        refine w_isub (by omega) ?_
        have hc3 : pz_R (pz_Sh L) 186 [.inl (l - 1)] (iv) (.inl (some (.inl (pz_shl 1 (l - 1))))) (iv) := s_X10_bit (l - 1)
        refine w_call hc3 rfl rfl ?_
        refine w_ior ?_
        refine w_loc (ls' := [some (.inr (.inl 3)), some (.inl c), some (.inl d), some (.inl (pz_or n (pz_shl 1 (l - 1)))), some (.inl l)]) (st' := []) rfl ?_
        refine w_nil ?_
        refine pz_G_of pz_b71_43 ?_
        refine w_iinc (ls' := [some (.inr (.inl 3)), some (.inl c), some (.inl d), some (.inl (pz_or n (pz_shl 1 (l - 1)))), some (.inl (l + 1))]) rfl rfl rfl (by omega) ?_
        refine w_goto ?_
        exact ih5 _ (by omega) (pz_or n (pz_shl 1 (l - 1))) (l + 1)  rfl (by omega) (by unfold q_ls; rw [q_sum_s (by omega)]; rw [show q_sum _ l = n from hn.symm]; first | rw [q_if_t ⟨by omega, by omega⟩, q_or_p2 (by omega) (by omega) hr.1 hr.2] | (rw [q_if_f (by omega)]; omega))
      · refine w_loc rfl ?_
        refine w_getR (q := 25) is_3 rf_3_6 ?_
        refine w_loc rfl ?_
        refine w_cald (v := (iv 25) l.toNat) is_25 ln_25 ⟨by omega, by omega⟩ rfl ?_
        refine w_loc rfl ?_
        refine w_ine (fun h4 => ?_) (fun h4 => ?_)
        · refine pz_G_of pz_b71_43 ?_
          refine w_iinc (ls' := [some (.inr (.inl 3)), some (.inl c), some (.inl d), some (.inl n), some (.inl (l + 1))]) rfl rfl rfl (by omega) ?_
          refine w_goto ?_
          exact ih5 _ (by omega) n (l + 1)  rfl (by omega) (by unfold q_ls; rw [q_sum_s (by omega)]; rw [show q_sum _ l = n from hn.symm]; first | rw [q_if_t ⟨by omega, by omega⟩, q_or_p2 (by omega) (by omega) hr.1 hr.2] | (rw [q_if_f (by omega)]; omega))
        · refine w_nil ?_
          refine pz_G_of pz_b71_33 ?_
          refine w_loc rfl ?_
          refine w_loc rfl ?_
          refine w_pure rfl ?_
          refine w_isub (by omega) ?_
          have hc5 : pz_R (pz_Sh L) 186 [.inl (l - 1)] (iv) (.inl (some (.inl (pz_shl 1 (l - 1))))) (iv) := s_X10_bit (l - 1)
          refine w_call hc5 rfl rfl ?_
          refine w_ior ?_
          refine w_loc (ls' := [some (.inr (.inl 3)), some (.inl c), some (.inl d), some (.inl (pz_or n (pz_shl 1 (l - 1)))), some (.inl l)]) (st' := []) rfl ?_
          refine w_nil ?_
          refine pz_G_of pz_b71_43 ?_
          refine w_iinc (ls' := [some (.inr (.inl 3)), some (.inl c), some (.inl d), some (.inl (pz_or n (pz_shl 1 (l - 1)))), some (.inl (l + 1))]) rfl rfl rfl (by omega) ?_
          refine w_goto ?_
          exact ih5 _ (by omega) (pz_or n (pz_shl 1 (l - 1))) (l + 1)  rfl (by omega) (by unfold q_ls; rw [q_sum_s (by omega)]; rw [show q_sum _ l = n from hn.symm]; first | rw [q_if_t ⟨by omega, by omega⟩, q_or_p2 (by omega) (by omega) hr.1 hr.2] | (rw [q_if_f (by omega)]; omega))
  exact lp5 _ 0 1  rfl (by omega) (by unfold q_ls; rw [show (1 : Int) = 0 + 1 by omega, q_sum_s (by omega), q_if_f (fun q => by omega)]; rfl)

theorem s_X6_trueLabels {L : Nat} {iv : Nat → Nat → Int} {k : Nat → Int} (hL : q_cL k (iv 25)) : pz_R (pz_Sh L) 69 [.inr (.inl 3)] iv (.inl (some (.inl (q_sT k)))) iv := by
  intro dv cc ss
  show pz_G 69 0 [some (.inr (.inl 3))] [] (pz_Sh L, iv, dv, cc, ss) (pz_P (pz_Sh L) (.inl (some (.inl (q_sT k)))) iv dv cc ss)
  refine pz_G_of pz_b69_0 ?_
  refine w_loc rfl ?_
  refine w_pure rfl ?_
  refine w_pure rfl ?_
  have hc1 : pz_R (pz_Sh L) 71 [.inr (.inl 3), .inl 116, .inl 84] (iv) (.inl (some (.inl (q_ls (iv 25) 116 84 5)))) (iv) := s_X6_labelsWith 116 84
  refine w_call hc1 rfl (pz_cokI is_3 rfl) ?_
  refine w_ret rfl ?_
  exact lf_i (q_ls_congr (fun l g1 g2 => by rw [hL l g1 g2]; congr 1; omega)) rfl

theorem s_X6_falseLabels {L : Nat} {iv : Nat → Nat → Int} {k : Nat → Int} (hL : q_cL k (iv 25)) : pz_R (pz_Sh L) 70 [.inr (.inl 3)] iv (.inl (some (.inl (q_sF k)))) iv := by
  intro dv cc ss
  show pz_G 70 0 [some (.inr (.inl 3))] [] (pz_Sh L, iv, dv, cc, ss) (pz_P (pz_Sh L) (.inl (some (.inl (q_sF k)))) iv dv cc ss)
  refine pz_G_of pz_b70_0 ?_
  refine w_loc rfl ?_
  refine w_pure rfl ?_
  refine w_pure rfl ?_
  have hc1 : pz_R (pz_Sh L) 71 [.inr (.inl 3), .inl 102, .inl 70] (iv) (.inl (some (.inl (q_ls (iv 25) 102 70 5)))) (iv) := s_X6_labelsWith 102 70
  refine w_call hc1 rfl (pz_cokI is_3 rfl) ?_
  refine w_ret rfl ?_
  exact lf_i (q_ls_congr (fun l g1 g2 => by rw [hL l g1 g2]; congr 1; omega)) rfl

theorem s_X4_observedLabels {L : Nat} {iv : Nat → Nat → Int} {k : Nat → Int} (hL : q_cL k (iv 25)) : pz_R (pz_Sh L) 43 [.inr (.inl 129)] iv (.inl (some (.inl (q_sO k)))) iv := by
  intro dv cc ss
  show pz_G 43 0 [some (.inr (.inl 129))] [] (pz_Sh L, iv, dv, cc, ss) (pz_P (pz_Sh L) (.inl (some (.inl (q_sO k)))) iv dv cc ss)
  refine pz_G_of pz_b43_0 ?_
  refine w_loc rfl ?_
  refine w_getR (q := 3) is_129 rf_129_0 ?_
  refine w_pure rfl ?_
  refine w_pure rfl ?_
  have hc1 : pz_R (pz_Sh L) 71 [.inr (.inl 3), .inl 116, .inl 102] (iv) (.inl (some (.inl (q_ls (iv 25) 116 102 5)))) (iv) := s_X6_labelsWith 116 102
  refine w_call hc1 rfl (pz_cokI is_3 rfl) ?_
  refine w_ret rfl ?_
  exact lf_i (q_ls_congr (fun l g1 g2 => by rw [hL l g1 g2]; congr 1; omega)) rfl

theorem s_X6_countHolding {L : Nat} {iv : Nat → Nat → Int} {k : Nat → Int} (hk : q_KR k) (hB : q_cB k (iv 4) (iv 5) (iv 6) (iv 7) (iv 8) (iv 9)) (hL : q_cL k (iv 25)) : pz_R (pz_Sh L) 72 [.inr (.inl 3)] iv (.inl (some (.inl (q_held k)))) iv := by
  intro dv cc ss
  have hk0 := hk.r0
  have hB0 := hB.1
  show pz_G 72 0 [some (.inr (.inl 3)), none, none, none, none] [] (pz_Sh L, iv, dv, cc, ss) (pz_P (pz_Sh L) (.inl (some (.inl (q_held k)))) iv dv cc ss)
  refine pz_G_of pz_b72_0 ?_
  refine w_loc rfl ?_
  have hc1 : pz_R (pz_Sh L) 69 [.inr (.inl 3)] (iv) (.inl (some (.inl (q_sT k)))) (iv) := s_X6_trueLabels (by exact hL)
  refine w_call hc1 rfl (pz_cokI is_3 rfl) ?_
  refine w_loc (ls' := [some (.inr (.inl 3)), some (.inl (q_sT k)), none, none, none]) (st' := []) rfl ?_
  refine w_loc rfl ?_
  have hc2 : pz_R (pz_Sh L) 70 [.inr (.inl 3)] (iv) (.inl (some (.inl (q_sF k)))) (iv) := s_X6_falseLabels (by exact hL)
  refine w_call hc2 rfl (pz_cokI is_3 rfl) ?_
  refine w_loc (ls' := [some (.inr (.inl 3)), some (.inl (q_sT k)), some (.inl (q_sF k)), none, none]) (st' := []) rfl ?_
  refine w_pure rfl ?_
  refine w_loc (ls' := [some (.inr (.inl 3)), some (.inl (q_sT k)), some (.inl (q_sF k)), some (.inl 0), none]) (st' := []) rfl ?_
  refine w_pure rfl ?_
  refine w_loc (ls' := [some (.inr (.inl 3)), some (.inl (q_sT k)), some (.inl (q_sF k)), some (.inl 0), some (.inl 0)]) (st' := []) rfl ?_
  refine w_nil ?_
  have lp15 : ∀ (dd : Nat) (n : Int) (b : Int) , (k 1 - b).toNat = dd → ∀ (hb : 0 ≤ b ∧ b ≤ k 1), ∀ (hn : n = q_cnt (q_hld k) b),  pz_G 72 15 [some (.inr (.inl 3)), some (.inl (q_sT k)), some (.inl (q_sF k)), some (.inl n), some (.inl b)] [] (pz_Sh L, iv, dv, cc, ss) (pz_P (pz_Sh L) (.inl (some (.inl (q_held k)))) iv dv cc ss) := by
    intro dd15
    induction dd15 using Nat.strongRecOn with
    | _ dd15 ih15 =>
    intro n b  hd15 hb hn
    have hcr := q_cnt_r (q_hld k) hb.1
    refine pz_G_of pz_b72_15 ?_
    refine w_loc rfl ?_
    refine w_loc rfl ?_
    refine w_getR (q := 4) is_3 rf_3_1 ?_
    refine w_getI (v := (iv 4) 0) is_4 (by decide) rfl ?_
    refine w_ige (fun h3 => ?_) (fun h3 => ?_)
    · refine pz_G_of pz_b72_50 ?_
      refine w_loc rfl ?_
      refine w_ret rfl ?_
      exact lf_i (by rw [hn]; unfold q_held; rw [show b = k 1 by omega]) rfl
    · refine w_loc rfl ?_
      refine w_getR (q := 4) is_3 rf_3_1 ?_
      refine w_loc rfl ?_
      refine w_loc rfl ?_
      refine w_loc rfl ?_
      have hc4 : pz_R (pz_Sh L) 20 [.inr (.inl 4), .inl b, .inl (q_sT k), .inl (q_sF k)] (iv) (.inl (some (.inl (pz_bi (q_hld k b))))) (iv) := s_X1_holds b (q_sT k) (q_sF k) (by exact hk) (by exact hB) (by omega) (by exact q_cT_now)
      refine w_call hc4 rfl (pz_cokI is_4 rfl) ?_
      refine w_beq (fun h5 => ?_) (fun h5 => ?_)
      · refine pz_G_of pz_b72_44 ?_
        refine w_iinc (ls' := [some (.inr (.inl 3)), some (.inl (q_sT k)), some (.inl (q_sF k)), some (.inl n), some (.inl (b + 1))]) rfl rfl rfl (by omega) ?_
        refine w_goto ?_
        exact ih15 _ (by omega) n (b + 1)  rfl (by omega) (by rw [q_cnt_s (by omega), hn]; first | rw [pz_bi_1 (by assumption)] | (rw [pz_bi_0 (by assumption), Int.add_zero]))
      · refine w_iinc (ls' := [some (.inr (.inl 3)), some (.inl (q_sT k)), some (.inl (q_sF k)), some (.inl (n + 1)), some (.inl b)]) rfl rfl rfl (by omega) ?_
        refine w_nil ?_
        refine pz_G_of pz_b72_44 ?_
        refine w_iinc (ls' := [some (.inr (.inl 3)), some (.inl (q_sT k)), some (.inl (q_sF k)), some (.inl (n + 1)), some (.inl (b + 1))]) rfl rfl rfl (by omega) ?_
        refine w_goto ?_
        exact ih15 _ (by omega) (n + 1) (b + 1)  rfl (by omega) (by rw [q_cnt_s (by omega), hn]; first | rw [pz_bi_1 (by assumption)] | (rw [pz_bi_0 (by assumption), Int.add_zero]))
  exact lp15 _ 0 0  rfl (by omega) (by rfl)

theorem s_X2_copyFrom_26_152 {L : Nat} {iv : Nat → Nat → Int} : pz_R (pz_Sh L) 29 [.inr (.inl 26), .inr (.inl 152)] iv (.inl none) (pz_u1 (pz_u1 iv 26 (pz_up (iv 26) 0 ((iv 152) 0))) 27 (q_cp 10 (iv 153) (iv 27))) := by
  intro dv cc ss
  refine pz_G_mem (iv2 := pz_u1 (pz_u1 iv 26 (iv 26)) 27 (iv 27)) (by exact ((pz_u1_self iv 26).symm).trans (pz_u1_self (pz_u1 iv 26 (iv 26)) 27).symm) ?_
  show pz_G 29 0 [some (.inr (.inl 26)), some (.inr (.inl 152))] [] (pz_Sh L, pz_u1 (pz_u1 iv 26 (iv 26)) 27 (iv 27), dv, cc, ss) (pz_P (pz_Sh L) (.inl none) (pz_u1 (pz_u1 iv 26 (pz_up (iv 26) 0 ((iv 152) 0))) 27 (q_cp 10 (iv 153) (iv 27))) dv cc ss)
  refine pz_G_of pz_b29_0 ?_
  refine w_loc rfl ?_
  refine w_loc rfl ?_
  refine w_getI (v := (iv 152) 0) is_152 (by decide) rfl ?_
  refine w_putIm (iv2 := pz_u1 (pz_u1 iv 26 (pz_up (iv 26) 0 ((iv 152) 0))) 27 (iv 27)) is_26 pz_fit0 (by rw [pz_u2_in (r := 26) (q := 27) (by decide)]; rw [pz_u2_top] <;> rfl) ?_
  refine w_loc rfl ?_
  refine w_getR (q := 153) is_152 rf_152_1 ?_
  refine w_pure rfl ?_
  refine w_loc rfl ?_
  refine w_getR (q := 27) is_26 rf_26_1 ?_
  refine w_pure rfl ?_
  refine w_pure rfl ?_
  refine w_cpym (K := 20) (iv2 := pz_u1 (pz_u1 iv 26 (pz_up (iv 26) 0 ((iv 152) 0))) 27 (q_cp 10 (iv 153) (iv 27))) rfl is_153 is_27 (by decide) (by decide) ln_153 ln_27 (by decide) (by decide) (by show pz_u1 (pz_u1 (pz_u1 iv 26 (pz_up (iv 26) 0 ((iv 152) 0))) 27 (iv 27)) 27 (q_cp 10 (iv 153) (iv 27)) = _; rw [pz_u1_top]) ?_
  refine w_vret ?_
  first | exact lf_v (by rfl) | (exfalso; omega)

theorem s_X6_keepPlayed {L : Nat} {iv : Nat → Nat → Int} {k : Nat → Int} (hE : q_cE k (iv 3)) : pz_R (pz_Sh L) 73 [.inr (.inl 3), .inr (.inl 152)] iv (.inl none) (pz_u1 (pz_u1 (pz_u1 iv 3 (pz_up (iv 3) 7 (k 0))) 26 (pz_up (iv 26) 0 ((iv 152) 0))) 27 (q_cp 10 (iv 153) (iv 27))) := by
  intro dv cc ss
  have hE0 := hE
  refine pz_G_mem (iv2 := pz_u1 (pz_u1 (pz_u1 iv 3 (iv 3)) 26 (iv 26)) 27 (iv 27)) (by exact (((pz_u1_self iv 3).symm).trans (pz_u1_self (pz_u1 iv 3 (iv 3)) 26).symm).trans (pz_u1_self (pz_u1 (pz_u1 iv 3 (iv 3)) 26 (iv 26)) 27).symm) ?_
  show pz_G 73 0 [some (.inr (.inl 3)), some (.inr (.inl 152))] [] (pz_Sh L, pz_u1 (pz_u1 (pz_u1 iv 3 (iv 3)) 26 (iv 26)) 27 (iv 27), dv, cc, ss) (pz_P (pz_Sh L) (.inl none) (pz_u1 (pz_u1 (pz_u1 iv 3 (pz_up (iv 3) 7 (k 0))) 26 (pz_up (iv 26) 0 ((iv 152) 0))) 27 (q_cp 10 (iv 153) (iv 27))) dv cc ss)
  refine pz_G_of pz_b73_0 ?_
  refine w_loc rfl ?_
  refine w_getR (q := 26) is_3 rf_3_8 ?_
  refine w_loc rfl ?_
  have hc1 : pz_R (pz_Sh L) 29 [.inr (.inl 26), .inr (.inl 152)] (pz_u1 (pz_u1 (pz_u1 iv 3 (iv 3)) 26 (iv 26)) 27 (iv 27)) (.inl none) (pz_u1 (pz_u1 (pz_u1 iv 3 (iv 3)) 26 (pz_up (iv 26) 0 ((iv 152) 0))) 27 (q_cp 10 (iv 153) (iv 27))) := pz_R_mem (s_X2_copyFrom_26_152) (by rw [pz_u1_in (r := 26) (q := 27) (by decide)]; rw [pz_u1_top (r := 26)]; rw [pz_u1_top (r := 27)]; rfl)
  refine w_callv hc1 rfl (pz_cokI is_26 rfl) ?_
  refine w_loc rfl ?_
  refine w_loc rfl ?_
  refine w_getI (v := (iv 3) 0) is_3 (by decide) rfl ?_
  refine w_putIm (iv2 := pz_u1 (pz_u1 (pz_u1 iv 3 (pz_up (iv 3) 7 ((iv 3) 0))) 26 (pz_up (iv 26) 0 ((iv 152) 0))) 27 (q_cp 10 (iv 153) (iv 27))) is_3 pz_fit0 (by rw [pz_u2_in (r := 3) (q := 27) (by decide)]; rw [pz_u2_in (r := 3) (q := 26) (by decide)]; rw [pz_u2_top] <;> rfl) ?_
  refine w_vret ?_
  first | exact lf_v (by rw [hE.1]) | (exfalso; omega)

theorem s_X6_playedStart {L : Nat} {iv : Nat → Nat → Int} (e : Int) {k : Nat → Int} (hk : q_KR k) (hP : q_cP k (iv 27)) (he : 0 ≤ e ∧ e < k 240) : pz_R (pz_Sh L) 74 [.inr (.inl 3), .inl e] iv (.inl (some (.inl (k (241 + e).toNat)))) iv := by
  intro dv cc ss
  have hk0 := hk.r0
  show pz_G 74 0 [some (.inr (.inl 3)), some (.inl e)] [] (pz_Sh L, iv, dv, cc, ss) (pz_P (pz_Sh L) (.inl (some (.inl (k (241 + e).toNat)))) iv dv cc ss)
  refine pz_G_of pz_b74_0 ?_
  refine w_loc rfl ?_
  refine w_getR (q := 26) is_3 rf_3_8 ?_
  refine w_loc rfl ?_
  have hc1 : pz_R (pz_Sh L) 25 [.inr (.inl 26), .inl e] (iv) (.inl (some (.inl (k (241 + e).toNat)))) (iv) := s_X2_startOf_26 e (by exact hk) (by exact hP) (by omega)
  refine w_call hc1 rfl (pz_cokI is_26 rfl) ?_
  refine w_ret rfl ?_
  first | exact lf_i (by first | rfl | omega) (by rfl) | (exfalso; omega)

theorem s_X5_between {L : Nat} {iv : Nat → Nat → Int} (i : Int) (j : Int) (hi : 0 ≤ i ∧ i ≤ 9) (hj : 0 ≤ j ∧ j ≤ 9) : pz_R (pz_Sh L) 59 [.inr (.inl 138), .inl i, .inl j] iv (.inl (some (.inl ((iv 140) (10 * i + j).toNat)))) iv := by
  intro dv cc ss
  show pz_G 59 0 [some (.inr (.inl 138)), some (.inl i), some (.inl j), none] [] (pz_Sh L, iv, dv, cc, ss) (pz_P (pz_Sh L) (.inl (some (.inl ((iv 140) (10 * i + j).toNat)))) iv dv cc ss)
  refine pz_G_of pz_b59_0 ?_
  refine w_loc rfl ?_
  refine w_zlt (fun h1 => ?_) (fun h1 => ?_)
  · refine pz_G_of pz_b59_24 ?_
    refine w_pure rfl ?_
    refine w_nil ?_
    refine pz_G_of pz_b59_25 ?_
    refine w_loc (ls' := [some (.inr (.inl 138)), some (.inl i), some (.inl j), some (.inl 0)]) (st' := []) rfl ?_
    refine w_loc rfl ?_
    refine w_zeq (fun _ => ?_) (fun h => absurd h (by decide))
    refine pz_G_of pz_b59_44 ?_
    refine w_ldcv (v := 1000000000) rfl ?_
    refine w_nil ?_
    refine pz_G_of pz_b59_46 ?_
    refine w_ret rfl ?_
    first | exact lf_i (by first | rfl | omega) (by rfl) | (exfalso; omega)
  · refine w_loc rfl ?_
    refine w_pure rfl ?_
    refine w_ige (fun h2 => ?_) (fun h2 => ?_)
    · refine pz_G_of pz_b59_24 ?_
      refine w_pure rfl ?_
      refine w_nil ?_
      refine pz_G_of pz_b59_25 ?_
      refine w_loc (ls' := [some (.inr (.inl 138)), some (.inl i), some (.inl j), some (.inl 0)]) (st' := []) rfl ?_
      refine w_loc rfl ?_
      refine w_zeq (fun _ => ?_) (fun h => absurd h (by decide))
      refine pz_G_of pz_b59_44 ?_
      refine w_ldcv (v := 1000000000) rfl ?_
      refine w_nil ?_
      refine pz_G_of pz_b59_46 ?_
      refine w_ret rfl ?_
      first | exact lf_i (by first | rfl | omega) (by rfl) | (exfalso; omega)
    · refine w_loc rfl ?_
      refine w_zlt (fun h3 => ?_) (fun h3 => ?_)
      · refine pz_G_of pz_b59_24 ?_
        refine w_pure rfl ?_
        refine w_nil ?_
        refine pz_G_of pz_b59_25 ?_
        refine w_loc (ls' := [some (.inr (.inl 138)), some (.inl i), some (.inl j), some (.inl 0)]) (st' := []) rfl ?_
        refine w_loc rfl ?_
        refine w_zeq (fun _ => ?_) (fun h => absurd h (by decide))
        refine pz_G_of pz_b59_44 ?_
        refine w_ldcv (v := 1000000000) rfl ?_
        refine w_nil ?_
        refine pz_G_of pz_b59_46 ?_
        refine w_ret rfl ?_
        first | exact lf_i (by first | rfl | omega) (by rfl) | (exfalso; omega)
      · refine w_loc rfl ?_
        refine w_pure rfl ?_
        refine w_ige (fun h4 => ?_) (fun h4 => ?_)
        · refine pz_G_of pz_b59_24 ?_
          refine w_pure rfl ?_
          refine w_nil ?_
          refine pz_G_of pz_b59_25 ?_
          refine w_loc (ls' := [some (.inr (.inl 138)), some (.inl i), some (.inl j), some (.inl 0)]) (st' := []) rfl ?_
          refine w_loc rfl ?_
          refine w_zeq (fun _ => ?_) (fun h => absurd h (by decide))
          refine pz_G_of pz_b59_44 ?_
          refine w_ldcv (v := 1000000000) rfl ?_
          refine w_nil ?_
          refine pz_G_of pz_b59_46 ?_
          refine w_ret rfl ?_
          first | exact lf_i (by first | rfl | omega) (by rfl) | (exfalso; omega)
        · refine w_pure rfl ?_
          refine w_goto ?_
          refine pz_G_of pz_b59_25 ?_
          refine w_loc (ls' := [some (.inr (.inl 138)), some (.inl i), some (.inl j), some (.inl 1)]) (st' := []) rfl ?_
          refine w_loc rfl ?_
          refine w_zeq (fun h => absurd h (by decide)) (fun _ => ?_)
          refine w_loc rfl ?_
          refine w_getR (q := 140) is_138 rf_138_3 ?_
          refine w_loc rfl ?_
          refine w_pure rfl ?_
          refine w_imulc (by omega) ?_
          refine w_loc rfl ?_
          refine w_iadd (by omega) ?_
          refine w_iald (v := (iv 140) ((10 * i) + j).toNat) is_140 ln_140 ⟨by omega, by omega⟩ rfl ?_
          refine w_goto ?_
          refine pz_G_of pz_b59_46 ?_
          refine w_ret rfl ?_
          first | exact lf_i (by first | rfl | omega) (by rfl) | (exfalso; omega)

theorem s_X5_earliest {L : Nat} {iv : Nat → Nat → Int} (e : Int) {k : Nat → Int} {d : Nat → Int} (hk : q_KR k) (hN : q_nD k (iv 140) d) (hD : q_dR d) (he : 0 ≤ e ∧ e < k 0) : pz_R (pz_Sh L) 63 [.inr (.inl 138), .inl e] iv (.inl (some (.inl (q_ft d e)))) iv := by
  intro dv cc ss
  have hk0 := hk.r0
  have hNe := hN e 0 he.1 he.2 (by omega) (by omega)
  rw [show 10 * e + 0 = 10 * e by omega] at hNe
  have hDe := hD (10 * e).toNat (by omega)
  have hNr := q_N_r hDe.2
  have hb0 : iv 140 (10 * e + 0).toNat = q_N (d (10 * e).toNat) := by
    rw [show 10 * e + 0 = 10 * e by omega]; exact hNe
  show pz_G 63 0 [some (.inr (.inl 138)), some (.inl e), none] [] (pz_Sh L, iv, dv, cc, ss) (pz_P (pz_Sh L) (.inl (some (.inl (q_ft d e)))) iv dv cc ss)
  refine pz_G_of pz_b63_0 ?_
  refine w_loc rfl ?_
  refine w_loc rfl ?_
  refine w_pure rfl ?_
  have hc1 : pz_R (pz_Sh L) 59 [.inr (.inl 138), .inl e, .inl 0] (iv) (.inl (some (.inl ((iv 140) (10 * e + 0).toNat)))) (iv) := s_X5_between e 0 (by omega) (by omega)
  refine w_call hc1 rfl (pz_cokI is_138 rfl) ?_
  refine w_loc (ls' := [some (.inr (.inl 138)), some (.inl e), some (.inl ((iv 140) (10 * e + 0).toNat))]) (st' := []) rfl ?_
  refine w_loc rfl ?_
  refine w_ldcv (v := 1000000000) rfl ?_
  refine w_ine (fun h2 => ?_) (fun h2 => ?_)
  · refine pz_G_of pz_b63_17 ?_
    refine w_pure rfl ?_
    refine w_loc rfl ?_
    refine w_ineg (by omega) ?_
    have hc3 : pz_R (pz_Sh L) 1 [.inl 0, .inl (-((iv 140) (10 * e + 0).toNat))] (iv) (.inl (some (.inl (max 0 (-((iv 140) (10 * e + 0).toNat)))))) (iv) := s_J_max 0 (-((iv 140) (10 * e + 0).toNat))
    refine w_call hc3 rfl rfl ?_
    refine w_nil ?_
    refine pz_G_of pz_b63_23 ?_
    refine w_ret rfl ?_
    first | exact lf_i (by unfold q_ft; split <;> omega) rfl | (exfalso; omega)
  · refine w_pure rfl ?_
    refine w_goto ?_
    refine pz_G_of pz_b63_23 ?_
    refine w_ret rfl ?_
    first | exact lf_i (by unfold q_ft; split <;> omega) rfl | (exfalso; omega)

theorem s_X0_firstOf {L : Nat} {iv : Nat → Nat → Int} (a : Int) {k : Nat → Int} (hk : q_KR k) (hA : q_cA k (iv 17) (iv 18) (iv 19) (iv 20)) (ha : 0 ≤ a ∧ a < k 3) : pz_R (pz_Sh L) 5 [.inr (.inl 17), .inl a] iv (.inl (some (.inl (k (224 + 3 * a).toNat)))) iv := by
  intro dv cc ss
  have hk0 := hk.r0
  have hA0 := hA.1
  have hAa := hA.2 a ha.1 ha.2
  have hac := hk.ac ha.1 ha.2
  show pz_G 5 0 [some (.inr (.inl 17)), some (.inl a)] [] (pz_Sh L, iv, dv, cc, ss) (pz_P (pz_Sh L) (.inl (some (.inl (k (224 + 3 * a).toNat)))) iv dv cc ss)
  refine pz_G_of pz_b5_0 ?_
  refine w_loc rfl ?_
  refine w_zlt (fun h1 => ?_) (fun h1 => ?_)
  · refine pz_G_of pz_b5_18 ?_
    refine w_pure rfl ?_
    refine w_nil ?_
    refine pz_G_of pz_b5_19 ?_
    refine w_ret rfl ?_
    first | exact lf_i (by first | rfl | omega) (by rfl) | (exfalso; omega)
  · refine w_loc rfl ?_
    refine w_pure rfl ?_
    refine w_ige (fun h2 => ?_) (fun h2 => ?_)
    · refine pz_G_of pz_b5_18 ?_
      refine w_pure rfl ?_
      refine w_nil ?_
      refine pz_G_of pz_b5_19 ?_
      refine w_ret rfl ?_
      first | exact lf_i (by first | rfl | omega) (by rfl) | (exfalso; omega)
    · refine w_loc rfl ?_
      refine w_getR (q := 18) is_17 rf_17_2 ?_
      refine w_loc rfl ?_
      refine w_iald (v := (iv 18) a.toNat) is_18 ln_18 ⟨by omega, by omega⟩ rfl ?_
      refine w_goto ?_
      refine pz_G_of pz_b5_19 ?_
      refine w_ret rfl ?_
      first | exact lf_i (by first | rfl | omega) (by rfl) | (exfalso; omega)

theorem s_X0_endOf {L : Nat} {iv : Nat → Nat → Int} (a : Int) {k : Nat → Int} (hk : q_KR k) (hA : q_cA k (iv 17) (iv 18) (iv 19) (iv 20)) (ha : 0 ≤ a ∧ a < k 3) : pz_R (pz_Sh L) 6 [.inr (.inl 17), .inl a] iv (.inl (some (.inl (k (224 + 3 * a + 1).toNat)))) iv := by
  intro dv cc ss
  have hk0 := hk.r0
  have hA0 := hA.1
  have hAa := hA.2 a ha.1 ha.2
  have hac := hk.ac ha.1 ha.2
  show pz_G 6 0 [some (.inr (.inl 17)), some (.inl a)] [] (pz_Sh L, iv, dv, cc, ss) (pz_P (pz_Sh L) (.inl (some (.inl (k (224 + 3 * a + 1).toNat)))) iv dv cc ss)
  refine pz_G_of pz_b6_0 ?_
  refine w_loc rfl ?_
  refine w_zlt (fun h1 => ?_) (fun h1 => ?_)
  · refine pz_G_of pz_b6_18 ?_
    refine w_pure rfl ?_
    refine w_nil ?_
    refine pz_G_of pz_b6_19 ?_
    refine w_ret rfl ?_
    first | exact lf_i (by first | rfl | omega) (by rfl) | (exfalso; omega)
  · refine w_loc rfl ?_
    refine w_pure rfl ?_
    refine w_ige (fun h2 => ?_) (fun h2 => ?_)
    · refine pz_G_of pz_b6_18 ?_
      refine w_pure rfl ?_
      refine w_nil ?_
      refine pz_G_of pz_b6_19 ?_
      refine w_ret rfl ?_
      first | exact lf_i (by first | rfl | omega) (by rfl) | (exfalso; omega)
    · refine w_loc rfl ?_
      refine w_getR (q := 19) is_17 rf_17_3 ?_
      refine w_loc rfl ?_
      refine w_iald (v := (iv 19) a.toNat) is_19 ln_19 ⟨by omega, by omega⟩ rfl ?_
      refine w_goto ?_
      refine pz_G_of pz_b6_19 ?_
      refine w_ret rfl ?_
      first | exact lf_i (by first | rfl | omega) (by rfl) | (exfalso; omega)

theorem s_X0_demandOf {L : Nat} {iv : Nat → Nat → Int} (a : Int) {k : Nat → Int} (hk : q_KR k) (hA : q_cA k (iv 17) (iv 18) (iv 19) (iv 20)) (ha : 0 ≤ a ∧ a < k 3) : pz_R (pz_Sh L) 7 [.inr (.inl 17), .inl a] iv (.inl (some (.inl (k (224 + 3 * a + 2).toNat)))) iv := by
  intro dv cc ss
  have hk0 := hk.r0
  have hA0 := hA.1
  have hAa := hA.2 a ha.1 ha.2
  have hac := hk.ac ha.1 ha.2
  show pz_G 7 0 [some (.inr (.inl 17)), some (.inl a)] [] (pz_Sh L, iv, dv, cc, ss) (pz_P (pz_Sh L) (.inl (some (.inl (k (224 + 3 * a + 2).toNat)))) iv dv cc ss)
  refine pz_G_of pz_b7_0 ?_
  refine w_loc rfl ?_
  refine w_zlt (fun h1 => ?_) (fun h1 => ?_)
  · refine pz_G_of pz_b7_18 ?_
    refine w_pure rfl ?_
    refine w_nil ?_
    refine pz_G_of pz_b7_19 ?_
    refine w_ret rfl ?_
    first | exact lf_i (by first | rfl | omega) (by rfl) | (exfalso; omega)
  · refine w_loc rfl ?_
    refine w_pure rfl ?_
    refine w_ige (fun h2 => ?_) (fun h2 => ?_)
    · refine pz_G_of pz_b7_18 ?_
      refine w_pure rfl ?_
      refine w_nil ?_
      refine pz_G_of pz_b7_19 ?_
      refine w_ret rfl ?_
      first | exact lf_i (by first | rfl | omega) (by rfl) | (exfalso; omega)
    · refine w_loc rfl ?_
      refine w_getR (q := 20) is_17 rf_17_4 ?_
      refine w_loc rfl ?_
      refine w_iald (v := (iv 20) a.toNat) is_20 ln_20 ⟨by omega, by omega⟩ rfl ?_
      refine w_goto ?_
      refine pz_G_of pz_b7_19 ?_
      refine w_ret rfl ?_
      first | exact lf_i (by first | rfl | omega) (by rfl) | (exfalso; omega)

theorem s_X0_isOn {L : Nat} {iv : Nat → Nat → Int} (a : Int) (m : Int) {k : Nat → Int} {d : Nat → Int} (hk : q_KR k) (hA : q_cA k (iv 17) (iv 18) (iv 19) (iv 20)) (hN : q_nD k (iv 140) d) (hD : q_dR d) (ha : 0 ≤ a ∧ a < k 3) : pz_R (pz_Sh L) 8 [.inr (.inl 17), .inl a, .inl m, .inr (.inl 138)] iv (.inl (some (.inl (pz_bi (q_on k d a m))))) iv := by
  intro dv cc ss
  have hk0 := hk.r0
  have hA0 := hA.1
  have hAa := hA.2 a ha.1 ha.2
  have hac := hk.ac ha.1 ha.2
  show pz_G 8 0 [some (.inr (.inl 17)), some (.inl a), some (.inl m), some (.inr (.inl 138))] [] (pz_Sh L, iv, dv, cc, ss) (pz_P (pz_Sh L) (.inl (some (.inl (pz_bi (q_on k d a m))))) iv dv cc ss)
  refine pz_G_of pz_b8_0 ?_
  refine w_loc rfl ?_
  refine w_loc rfl ?_
  refine w_loc rfl ?_
  have hc1 : pz_R (pz_Sh L) 5 [.inr (.inl 17), .inl a] (iv) (.inl (some (.inl (k (224 + 3 * a).toNat)))) (iv) := s_X0_firstOf a (by exact hk) (by exact hA) (by omega)
  refine w_call hc1 rfl (pz_cokI is_17 rfl) ?_
  have hc2 : pz_R (pz_Sh L) 63 [.inr (.inl 138), .inl (k (224 + 3 * a).toNat)] (iv) (.inl (some (.inl (q_ft d (k (224 + 3 * a).toNat))))) (iv) := s_X5_earliest (k (224 + 3 * a).toNat) (by exact hk) (by exact hN) (by exact hD) (by omega)
  refine w_call hc2 rfl (pz_cokI is_138 rfl) ?_
  refine w_loc rfl ?_
  refine w_igt (fun h3 => ?_) (fun h3 => ?_)
  · refine pz_G_of pz_b8_30 ?_
    refine w_pure rfl ?_
    refine w_nil ?_
    refine pz_G_of pz_b8_31 ?_
    refine w_ret (pz_rok1 (Or.inl rfl)) ?_
    first | exact lf_i (pz_bi_f (by omega)) (by rfl) | (exfalso; omega)
  · refine w_loc rfl ?_
    refine w_loc rfl ?_
    refine w_loc rfl ?_
    refine w_loc rfl ?_
    have hc4 : pz_R (pz_Sh L) 6 [.inr (.inl 17), .inl a] (iv) (.inl (some (.inl (k (224 + 3 * a + 1).toNat)))) (iv) := s_X0_endOf a (by exact hk) (by exact hA) (by omega)
    refine w_call hc4 rfl (pz_cokI is_17 rfl) ?_
    have hc5 : pz_R (pz_Sh L) 63 [.inr (.inl 138), .inl (k (224 + 3 * a + 1).toNat)] (iv) (.inl (some (.inl (q_ft d (k (224 + 3 * a + 1).toNat))))) (iv) := s_X5_earliest (k (224 + 3 * a + 1).toNat) (by exact hk) (by exact hN) (by exact hD) (by omega)
    refine w_call hc5 rfl (pz_cokI is_138 rfl) ?_
    refine w_ige (fun h6 => ?_) (fun h6 => ?_)
    · refine pz_G_of pz_b8_30 ?_
      refine w_pure rfl ?_
      refine w_nil ?_
      refine pz_G_of pz_b8_31 ?_
      refine w_ret (pz_rok1 (Or.inl rfl)) ?_
      first | exact lf_i (pz_bi_f (by omega)) (by rfl) | (exfalso; omega)
    · refine w_pure rfl ?_
      refine w_goto ?_
      refine pz_G_of pz_b8_31 ?_
      refine w_ret (pz_rok1 (Or.inr rfl)) ?_
      first | exact lf_i (pz_bi_t (by omega)) (by rfl) | (exfalso; omega)

theorem s_X0_demandAt {L : Nat} {iv : Nat → Nat → Int} (m : Int) {k : Nat → Int} {d : Nat → Int} (hk : q_KR k) (hA : q_cA k (iv 17) (iv 18) (iv 19) (iv 20)) (hN : q_nD k (iv 140) d) (hD : q_dR d) : pz_R (pz_Sh L) 9 [.inr (.inl 17), .inl m, .inr (.inl 138)] iv (.inl (some (.inl (q_use k d m)))) iv := by
  intro dv cc ss
  have hk0 := hk.r0
  have hA0 := hA.1
  show pz_G 9 0 [some (.inr (.inl 17)), some (.inl m), some (.inr (.inl 138)), none, none] [] (pz_Sh L, iv, dv, cc, ss) (pz_P (pz_Sh L) (.inl (some (.inl (q_use k d m)))) iv dv cc ss)
  refine pz_G_of pz_b9_0 ?_
  refine w_pure rfl ?_
  refine w_loc (ls' := [some (.inr (.inl 17)), some (.inl m), some (.inr (.inl 138)), some (.inl 0), none]) (st' := []) rfl ?_
  refine w_pure rfl ?_
  refine w_loc (ls' := [some (.inr (.inl 17)), some (.inl m), some (.inr (.inl 138)), some (.inl 0), some (.inl 0)]) (st' := []) rfl ?_
  refine w_nil ?_
  have lp5 : ∀ (dd : Nat) (n : Int) (a : Int) , (k 3 - a).toNat = dd → ∀ (ha : 0 ≤ a ∧ a ≤ k 3), ∀ (hn : n = q_sum (fun a => q_if (q_on k d a m) (k (224 + 3 * a + 2).toNat) 0) a),  pz_G 9 5 [some (.inr (.inl 17)), some (.inl m), some (.inr (.inl 138)), some (.inl n), some (.inl a)] [] (pz_Sh L, iv, dv, cc, ss) (pz_P (pz_Sh L) (.inl (some (.inl (q_use k d m)))) iv dv cc ss) := by
    intro dd5
    induction dd5 using Nat.strongRecOn with
    | _ dd5 ih5 =>
    intro n a  hd5 ha hn
    have har := fun h => hk.ac ha.1 h
    have hsr := q_sum_r (lo := 0) (hi := 9) (f := fun a => q_if (q_on k d a m) (k (224 + 3 * a + 2).toNat) 0) ha.1 (fun i g1 g2 => by have h9 := hk.ac g1 (by omega); by_cases hq : q_on k d i m; (rw [q_if_t hq]; omega); (rw [q_if_f hq]; omega))
    rw [← hn] at hsr
    refine pz_G_of pz_b9_5 ?_
    refine w_loc rfl ?_
    refine w_loc rfl ?_
    refine w_getI (v := (iv 17) 0) is_17 (by decide) rfl ?_
    refine w_ige (fun h1 => ?_) (fun h1 => ?_)
    · refine pz_G_of pz_b9_40 ?_
      refine w_loc rfl ?_
      refine w_ret rfl ?_
      exact lf_i (by rw [hn, show a = k 3 by omega]; rfl) rfl
    · refine w_loc rfl ?_
      refine w_loc rfl ?_
      refine w_loc rfl ?_
      refine w_loc rfl ?_
      have hc2 : pz_R (pz_Sh L) 8 [.inr (.inl 17), .inl a, .inl m, .inr (.inl 138)] (iv) (.inl (some (.inl (pz_bi (q_on k d a m))))) (iv) := s_X0_isOn a m (by exact hk) (by exact hA) (by exact hN) (by exact hD) (by omega)
      refine w_call hc2 rfl (pz_cokI is_17 rfl) ?_
      refine w_beq (fun h3 => ?_) (fun h3 => ?_)
      · refine pz_G_of pz_b9_34 ?_
        refine w_iinc (ls' := [some (.inr (.inl 17)), some (.inl m), some (.inr (.inl 138)), some (.inl n), some (.inl (a + 1))]) rfl rfl rfl (by omega) ?_
        refine w_goto ?_
        exact ih5 _ (by omega) n (a + 1)  rfl (by omega) (by rw [q_sum_s (by omega), ← hn]; (try dsimp only); first | rw [q_if_t (by assumption)] | (rw [q_if_f (by assumption)]; omega))
      · refine w_loc rfl ?_
        refine w_loc rfl ?_
        refine w_loc rfl ?_
        have hc4 : pz_R (pz_Sh L) 7 [.inr (.inl 17), .inl a] (iv) (.inl (some (.inl (k (224 + 3 * a + 2).toNat)))) (iv) := s_X0_demandOf a (by exact hk) (by exact hA) (by omega)
        refine w_call hc4 rfl (pz_cokI is_17 rfl) ?_
        refine w_iadd (by omega) ?_
        refine w_loc (ls' := [some (.inr (.inl 17)), some (.inl m), some (.inr (.inl 138)), some (.inl (n + (k (224 + 3 * a + 2).toNat))), some (.inl a)]) (st' := []) rfl ?_
        refine w_nil ?_
        refine pz_G_of pz_b9_34 ?_
        refine w_iinc (ls' := [some (.inr (.inl 17)), some (.inl m), some (.inr (.inl 138)), some (.inl (n + (k (224 + 3 * a + 2).toNat))), some (.inl (a + 1))]) rfl rfl rfl (by omega) ?_
        refine w_goto ?_
        exact ih5 _ (by omega) (n + (k (224 + 3 * a + 2).toNat)) (a + 1)  rfl (by omega) (by rw [q_sum_s (by omega), ← hn]; (try dsimp only); first | rw [q_if_t (by assumption)] | (rw [q_if_f (by assumption)]; omega))
  exact lp5 _ 0 0  rfl (by omega) (by rfl)

theorem s_X0_setAt {L : Nat} {iv : Nat → Nat → Int} (m : Int) {k : Nat → Int} {d : Nat → Int} (hk : q_KR k) (hA : q_cA k (iv 17) (iv 18) (iv 19) (iv 20)) (hN : q_nD k (iv 140) d) (hD : q_dR d) : pz_R (pz_Sh L) 10 [.inr (.inl 17), .inl m, .inr (.inl 138)] iv (.inl (some (.inl (q_st k d m (k 3))))) iv := by
  intro dv cc ss
  have hk0 := hk.r0
  have hA0 := hA.1
  show pz_G 10 0 [some (.inr (.inl 17)), some (.inl m), some (.inr (.inl 138)), none, none] [] (pz_Sh L, iv, dv, cc, ss) (pz_P (pz_Sh L) (.inl (some (.inl (q_st k d m (k 3))))) iv dv cc ss)
  refine pz_G_of pz_b10_0 ?_
  refine w_pure rfl ?_
  refine w_loc (ls' := [some (.inr (.inl 17)), some (.inl m), some (.inr (.inl 138)), some (.inl 0), none]) (st' := []) rfl ?_
  refine w_pure rfl ?_
  refine w_loc (ls' := [some (.inr (.inl 17)), some (.inl m), some (.inr (.inl 138)), some (.inl 0), some (.inl 0)]) (st' := []) rfl ?_
  refine w_nil ?_
  have lp5 : ∀ (dd : Nat) (n : Int) (a : Int) , (k 3 - a).toNat = dd → ∀ (ha : 0 ≤ a ∧ a ≤ k 3), ∀ (hn : n = q_st k d m a),  pz_G 10 5 [some (.inr (.inl 17)), some (.inl m), some (.inr (.inl 138)), some (.inl n), some (.inl a)] [] (pz_Sh L, iv, dv, cc, ss) (pz_P (pz_Sh L) (.inl (some (.inl (q_st k d m (k 3))))) iv dv cc ss) := by
    intro dd5
    induction dd5 using Nat.strongRecOn with
    | _ dd5 ih5 =>
    intro n a  hd5 ha hn
    have hsr := q_st_r (k := k) (d := d) (m := m) ha.1 (by omega)
    rw [← hn] at hsr
    refine pz_G_of pz_b10_5 ?_
    refine w_loc rfl ?_
    refine w_loc rfl ?_
    refine w_getI (v := (iv 17) 0) is_17 (by decide) rfl ?_
    refine w_ige (fun h1 => ?_) (fun h1 => ?_)
    · refine pz_G_of pz_b10_39 ?_
      refine w_loc rfl ?_
      refine w_ret rfl ?_
      exact lf_i (by rw [hn, show a = k 3 by omega]) rfl
    · refine w_loc rfl ?_
      refine w_loc rfl ?_
      refine w_loc rfl ?_
      refine w_loc rfl ?_
      have hc2 : pz_R (pz_Sh L) 8 [.inr (.inl 17), .inl a, .inl m, .inr (.inl 138)] (iv) (.inl (some (.inl (pz_bi (q_on k d a m))))) (iv) := s_X0_isOn a m (by exact hk) (by exact hA) (by exact hN) (by exact hD) (by omega)
      refine w_call hc2 rfl (pz_cokI is_17 rfl) ?_
      refine w_beq (fun h3 => ?_) (fun h3 => ?_)
      · refine pz_G_of pz_b10_33 ?_
        refine w_iinc (ls' := [some (.inr (.inl 17)), some (.inl m), some (.inr (.inl 138)), some (.inl n), some (.inl (a + 1))]) rfl rfl rfl (by omega) ?_
        refine w_goto ?_
        exact ih5 _ (by omega) n (a + 1)  rfl (by omega) (by unfold q_st; rw [q_sum_s (by omega)]; rw [show q_sum _ a = n from hn.symm]; (try dsimp only); first | rw [q_if_t (by assumption), q_or_p2 (by omega) (by omega) hsr.1 hsr.2] | (rw [q_if_f (by assumption)]; omega))
      · refine w_loc rfl ?_
        refine w_loc rfl ?_
        have hc4 : pz_R (pz_Sh L) 186 [.inl a] (iv) (.inl (some (.inl (pz_shl 1 a)))) (iv) := s_X10_bit a
        refine w_call hc4 rfl rfl ?_
        refine w_ior ?_
        refine w_loc (ls' := [some (.inr (.inl 17)), some (.inl m), some (.inr (.inl 138)), some (.inl (pz_or n (pz_shl 1 a))), some (.inl a)]) (st' := []) rfl ?_
        refine w_nil ?_
        refine pz_G_of pz_b10_33 ?_
        refine w_iinc (ls' := [some (.inr (.inl 17)), some (.inl m), some (.inr (.inl 138)), some (.inl (pz_or n (pz_shl 1 a))), some (.inl (a + 1))]) rfl rfl rfl (by omega) ?_
        refine w_goto ?_
        exact ih5 _ (by omega) (pz_or n (pz_shl 1 a)) (a + 1)  rfl (by omega) (by unfold q_st; rw [q_sum_s (by omega)]; rw [show q_sum _ a = n from hn.symm]; (try dsimp only); first | rw [q_if_t (by assumption), q_or_p2 (by omega) (by omega) hsr.1 hsr.2] | (rw [q_if_f (by assumption)]; omega))
  exact lp5 _ 0 0  rfl (by omega) (by rfl)

theorem s_X0_firstPeak {L : Nat} {iv : Nat → Nat → Int} {k : Nat → Int} {d : Nat → Int} (hk : q_KR k) (hA : q_cA k (iv 17) (iv 18) (iv 19) (iv 20)) (hN : q_nD k (iv 140) d) (hD : q_dR d) : pz_R (pz_Sh L) 11 [.inr (.inl 17), .inr (.inl 138)] iv (.inl (some (.inl (q_pk k d)))) iv := by
  intro dv cc ss
  have hk0 := hk.r0
  have hA0 := hA.1
  show pz_G 11 0 [some (.inr (.inl 17)), some (.inr (.inl 138)), none, none, none, none] [] (pz_Sh L, iv, dv, cc, ss) (pz_P (pz_Sh L) (.inl (some (.inl (q_pk k d)))) iv dv cc ss)
  refine pz_G_of pz_b11_0 ?_
  refine w_pure rfl ?_
  refine w_loc (ls' := [some (.inr (.inl 17)), some (.inr (.inl 138)), some (.inl (-1)), none, none, none]) (st' := []) rfl ?_
  refine w_pure rfl ?_
  refine w_loc (ls' := [some (.inr (.inl 17)), some (.inr (.inl 138)), some (.inl (-1)), some (.inl 0), none, none]) (st' := []) rfl ?_
  refine w_nil ?_
  have lp4 : ∀ (dd : Nat) (n : Int) (a : Int) (u4_4 : Option pz_V) (hu4_4 : pz_nc u4_4 = true) (u4_5 : Option pz_V) (hu4_5 : pz_nc u4_5 = true), (k 3 - a).toNat = dd → ∀ (ha : 0 ≤ a ∧ a ≤ k 3), ∀ (hn : n = q_fr (q_pkS k d) 0 a (-1)),  pz_G 11 4 [some (.inr (.inl 17)), some (.inr (.inl 138)), some (.inl n), some (.inl a), u4_4, u4_5] [] (pz_Sh L, iv, dv, cc, ss) (pz_P (pz_Sh L) (.inl (some (.inl (q_pk k d)))) iv dv cc ss) := by
    intro dd4
    induction dd4 using Nat.strongRecOn with
    | _ dd4 ih4 =>
    intro n a u4_4 hu4_4 u4_5 hu4_5 hd4 ha hn
    have har := fun h => hk.ac ha.1 h
    refine pz_G_of pz_b11_4 ?_
    refine w_loc rfl ?_
    refine w_loc rfl ?_
    refine w_getI (v := (iv 17) 0) is_17 (by decide) rfl ?_
    refine w_ige (fun h1 => ?_) (fun h1 => ?_)
    · refine pz_G_of pz_b11_69 ?_
      refine w_loc rfl ?_
      refine w_ret rfl ?_
      exact lf_i (by rw [hn, show a = k 3 by omega]; rfl) rfl
    · refine w_loc rfl ?_
      refine w_loc rfl ?_
      refine w_loc rfl ?_
      have hc2 : pz_R (pz_Sh L) 5 [.inr (.inl 17), .inl a] (iv) (.inl (some (.inl (k (224 + 3 * a).toNat)))) (iv) := s_X0_firstOf a (by exact hk) (by exact hA) (by omega)
      refine w_call hc2 rfl (pz_cokI is_17 rfl) ?_
      have hc3 : pz_R (pz_Sh L) 63 [.inr (.inl 138), .inl (k (224 + 3 * a).toNat)] (iv) (.inl (some (.inl (q_ft d (k (224 + 3 * a).toNat))))) (iv) := s_X5_earliest (k (224 + 3 * a).toNat) (by exact hk) (by exact hN) (by exact hD) (by omega)
      refine w_call hc3 rfl (pz_cokI is_138 rfl) ?_
      refine w_loc (ls' := [some (.inr (.inl 17)), some (.inr (.inl 138)), some (.inl n), some (.inl a), some (.inl (q_ft d (k (224 + 3 * a).toNat))), u4_5]) (st' := []) rfl ?_
      refine w_loc rfl ?_
      refine w_pure rfl ?_
      refine w_ieq (fun h4 => ?_) (fun h4 => ?_)
      · refine pz_G_of pz_b11_34 ?_
        refine w_pure rfl ?_
        refine w_goto ?_
        refine pz_G_of pz_b11_39 ?_
        refine w_loc (ls' := [some (.inr (.inl 17)), some (.inr (.inl 138)), some (.inl n), some (.inl a), some (.inl (q_ft d (k (224 + 3 * a).toNat))), some (.inl 1)]) (st' := []) rfl ?_
        refine w_loc rfl ?_
        refine w_zeq (fun h => absurd h (by decide)) (fun _ => ?_)
        refine w_loc rfl ?_
        refine w_loc rfl ?_
        refine w_loc rfl ?_
        have hc5 : pz_R (pz_Sh L) 9 [.inr (.inl 17), .inl (q_ft d (k (224 + 3 * a).toNat)), .inr (.inl 138)] (iv) (.inl (some (.inl (q_use k d (q_ft d (k (224 + 3 * a).toNat)))))) (iv) := s_X0_demandAt (q_ft d (k (224 + 3 * a).toNat)) (by exact hk) (by exact hA) (by exact hN) (by exact hD)
        refine w_call hc5 rfl (pz_cokI is_17 rfl) ?_
        refine w_loc rfl ?_
        refine w_getI (v := (iv 17) 1) is_17 (by decide) rfl ?_
        refine w_ile (fun h6 => ?_) (fun h6 => ?_)
        · refine pz_G_of pz_b11_63 ?_
          refine w_iinc (ls' := [some (.inr (.inl 17)), some (.inr (.inl 138)), some (.inl n), some (.inl (a + 1)), some (.inl (q_ft d (k (224 + 3 * a).toNat))), some (.inl 1)]) rfl rfl rfl (by omega) ?_
          refine w_goto ?_
          exact ih4 _ (by omega) n (a + 1) (some (.inl (q_ft d (k (224 + 3 * a).toNat)))) rfl (some (.inl 1)) rfl rfl (by omega) (by rw [q_fr_s (by omega), ← hn]; unfold q_pkS; first | rw [q_if_t (by omega)] | rw [q_if_f (by omega)])
        · refine w_loc rfl ?_
          refine w_loc (ls' := [some (.inr (.inl 17)), some (.inr (.inl 138)), some (.inl (q_ft d (k (224 + 3 * a).toNat))), some (.inl a), some (.inl (q_ft d (k (224 + 3 * a).toNat))), some (.inl 1)]) (st' := []) rfl ?_
          refine w_nil ?_
          refine pz_G_of pz_b11_63 ?_
          refine w_iinc (ls' := [some (.inr (.inl 17)), some (.inr (.inl 138)), some (.inl (q_ft d (k (224 + 3 * a).toNat))), some (.inl (a + 1)), some (.inl (q_ft d (k (224 + 3 * a).toNat))), some (.inl 1)]) rfl rfl rfl (by omega) ?_
          refine w_goto ?_
          exact ih4 _ (by omega) (q_ft d (k (224 + 3 * a).toNat)) (a + 1) (some (.inl (q_ft d (k (224 + 3 * a).toNat)))) rfl (some (.inl 1)) rfl rfl (by omega) (by rw [q_fr_s (by omega), ← hn]; unfold q_pkS; first | rw [q_if_t (by omega)] | rw [q_if_f (by omega)])
      · refine w_loc rfl ?_
        refine w_loc rfl ?_
        refine w_ige (fun h7 => ?_) (fun h7 => ?_)
        · refine pz_G_of pz_b11_38 ?_
          refine w_pure rfl ?_
          refine w_nil ?_
          refine pz_G_of pz_b11_39 ?_
          refine w_loc (ls' := [some (.inr (.inl 17)), some (.inr (.inl 138)), some (.inl n), some (.inl a), some (.inl (q_ft d (k (224 + 3 * a).toNat))), some (.inl 0)]) (st' := []) rfl ?_
          refine w_loc rfl ?_
          refine w_zeq (fun _ => ?_) (fun h => absurd h (by decide))
          refine pz_G_of pz_b11_63 ?_
          refine w_iinc (ls' := [some (.inr (.inl 17)), some (.inr (.inl 138)), some (.inl n), some (.inl (a + 1)), some (.inl (q_ft d (k (224 + 3 * a).toNat))), some (.inl 0)]) rfl rfl rfl (by omega) ?_
          refine w_goto ?_
          exact ih4 _ (by omega) n (a + 1) (some (.inl (q_ft d (k (224 + 3 * a).toNat)))) rfl (some (.inl 0)) rfl rfl (by omega) (by rw [q_fr_s (by omega), ← hn]; unfold q_pkS; first | rw [q_if_t (by omega)] | rw [q_if_f (by omega)])
        · refine w_nil ?_
          refine pz_G_of pz_b11_34 ?_
          refine w_pure rfl ?_
          refine w_goto ?_
          refine pz_G_of pz_b11_39 ?_
          refine w_loc (ls' := [some (.inr (.inl 17)), some (.inr (.inl 138)), some (.inl n), some (.inl a), some (.inl (q_ft d (k (224 + 3 * a).toNat))), some (.inl 1)]) (st' := []) rfl ?_
          refine w_loc rfl ?_
          refine w_zeq (fun h => absurd h (by decide)) (fun _ => ?_)
          refine w_loc rfl ?_
          refine w_loc rfl ?_
          refine w_loc rfl ?_
          have hc8 : pz_R (pz_Sh L) 9 [.inr (.inl 17), .inl (q_ft d (k (224 + 3 * a).toNat)), .inr (.inl 138)] (iv) (.inl (some (.inl (q_use k d (q_ft d (k (224 + 3 * a).toNat)))))) (iv) := s_X0_demandAt (q_ft d (k (224 + 3 * a).toNat)) (by exact hk) (by exact hA) (by exact hN) (by exact hD)
          refine w_call hc8 rfl (pz_cokI is_17 rfl) ?_
          refine w_loc rfl ?_
          refine w_getI (v := (iv 17) 1) is_17 (by decide) rfl ?_
          refine w_ile (fun h9 => ?_) (fun h9 => ?_)
          · refine pz_G_of pz_b11_63 ?_
            refine w_iinc (ls' := [some (.inr (.inl 17)), some (.inr (.inl 138)), some (.inl n), some (.inl (a + 1)), some (.inl (q_ft d (k (224 + 3 * a).toNat))), some (.inl 1)]) rfl rfl rfl (by omega) ?_
            refine w_goto ?_
            exact ih4 _ (by omega) n (a + 1) (some (.inl (q_ft d (k (224 + 3 * a).toNat)))) rfl (some (.inl 1)) rfl rfl (by omega) (by rw [q_fr_s (by omega), ← hn]; unfold q_pkS; first | rw [q_if_t (by omega)] | rw [q_if_f (by omega)])
          · refine w_loc rfl ?_
            refine w_loc (ls' := [some (.inr (.inl 17)), some (.inr (.inl 138)), some (.inl (q_ft d (k (224 + 3 * a).toNat))), some (.inl a), some (.inl (q_ft d (k (224 + 3 * a).toNat))), some (.inl 1)]) (st' := []) rfl ?_
            refine w_nil ?_
            refine pz_G_of pz_b11_63 ?_
            refine w_iinc (ls' := [some (.inr (.inl 17)), some (.inr (.inl 138)), some (.inl (q_ft d (k (224 + 3 * a).toNat))), some (.inl (a + 1)), some (.inl (q_ft d (k (224 + 3 * a).toNat))), some (.inl 1)]) rfl rfl rfl (by omega) ?_
            refine w_goto ?_
            exact ih4 _ (by omega) (q_ft d (k (224 + 3 * a).toNat)) (a + 1) (some (.inl (q_ft d (k (224 + 3 * a).toNat)))) rfl (some (.inl 1)) rfl rfl (by omega) (by rw [q_fr_s (by omega), ← hn]; unfold q_pkS; first | rw [q_if_t (by omega)] | rw [q_if_f (by omega)])
  exact lp4 _ (-1) 0 (none) rfl (none) rfl rfl (by omega) (by rw [q_fr_0 (by omega)])

theorem s_X0_room {L : Nat} {iv : Nat → Nat → Int} (x : Int) (y : Int) {k : Nat → Int} {d : Nat → Int} (hk : q_KR k) (hA : q_cA k (iv 17) (iv 18) (iv 19) (iv 20)) (hN : q_nD k (iv 140) d) (hD : q_dR d) (hx : 0 ≤ x ∧ x < k 3) (hy : 0 ≤ y ∧ y < k 3) : pz_R (pz_Sh L) 12 [.inr (.inl 17), .inl x, .inl y, .inr (.inl 138)] iv (.inl (some (.inl (q_sl k d x y)))) iv := by
  intro dv cc ss
  have hk0 := hk.r0
  have hA0 := hA.1
  have hax := hk.ac hx.1 hx.2
  have hay := hk.ac hy.1 hy.2
  have hNe := hN (k (224 + 3 * x + 1).toNat) (k (224 + 3 * y).toNat) (by omega) (by omega) (by omega) (by omega)
  have hDe := hD (10 * k (224 + 3 * x + 1).toNat + k (224 + 3 * y).toNat).toNat (by omega)
  have hNr := q_N_r hDe.2
  show pz_G 12 0 [some (.inr (.inl 17)), some (.inl x), some (.inl y), some (.inr (.inl 138)), none] [] (pz_Sh L, iv, dv, cc, ss) (pz_P (pz_Sh L) (.inl (some (.inl (q_sl k d x y)))) iv dv cc ss)
  refine pz_G_of pz_b12_0 ?_
  refine w_loc rfl ?_
  refine w_loc rfl ?_
  refine w_loc rfl ?_
  have hc1 : pz_R (pz_Sh L) 6 [.inr (.inl 17), .inl x] (iv) (.inl (some (.inl (k (224 + 3 * x + 1).toNat)))) (iv) := s_X0_endOf x (by exact hk) (by exact hA) (by omega)
  refine w_call hc1 rfl (pz_cokI is_17 rfl) ?_
  refine w_loc rfl ?_
  refine w_loc rfl ?_
  have hc2 : pz_R (pz_Sh L) 5 [.inr (.inl 17), .inl y] (iv) (.inl (some (.inl (k (224 + 3 * y).toNat)))) (iv) := s_X0_firstOf y (by exact hk) (by exact hA) (by omega)
  refine w_call hc2 rfl (pz_cokI is_17 rfl) ?_
  have hc3 : pz_R (pz_Sh L) 59 [.inr (.inl 138), .inl (k (224 + 3 * x + 1).toNat), .inl (k (224 + 3 * y).toNat)] (iv) (.inl (some (.inl ((iv 140) (10 * (k (224 + 3 * x + 1).toNat) + (k (224 + 3 * y).toNat)).toNat)))) (iv) := s_X5_between (k (224 + 3 * x + 1).toNat) (k (224 + 3 * y).toNat) (by omega) (by omega)
  refine w_call hc3 rfl (pz_cokI is_138 rfl) ?_
  refine w_loc (ls' := [some (.inr (.inl 17)), some (.inl x), some (.inl y), some (.inr (.inl 138)), some (.inl ((iv 140) (10 * (k (224 + 3 * x + 1).toNat) + (k (224 + 3 * y).toNat)).toNat))]) (st' := []) rfl ?_
  refine w_loc rfl ?_
  refine w_ldcv (v := 1000000000) rfl ?_
  refine w_ine (fun h4 => ?_) (fun h4 => ?_)
  · refine pz_G_of pz_b12_29 ?_
    refine w_loc rfl ?_
    refine w_nil ?_
    refine pz_G_of pz_b12_31 ?_
    refine w_ret rfl ?_
    first | exact lf_i (by unfold q_sl; split <;> omega) rfl | (exfalso; omega)
  · refine w_pure rfl ?_
    refine w_goto ?_
    refine pz_G_of pz_b12_31 ?_
    refine w_ret rfl ?_
    first | exact lf_i (by unfold q_sl; split <;> omega) rfl | (exfalso; omega)
