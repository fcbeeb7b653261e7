
theorem s_X8_isOpen {L : Nat} {iv : Nat → Nat → Int} (s : Int) {k : Nat → Int} (hk : q_KR k) (hS : q_cS k (iv 10) (iv 11) (iv 12) (iv 13) (iv 14)) (hC : q_cC k (iv 15) (iv 16)) (hs : 0 ≤ s ∧ s < k 2) : pz_R (pz_Sh L) 90 [.inr (.inl 142), .inl s] iv (.inl (some (.inl (pz_bi (¬ q_sta k (k (212 + 4 * s + 1).toNat)))))) iv := by
  intro dv cc ss
  have hk0 := hk.r0
  have hS0 := hS.1
  have hC0 := hC.1
  show pz_G 90 0 [some (.inr (.inl 142)), some (.inl s)] [] (pz_Sh L, iv, dv, cc, ss) (pz_P (pz_Sh L) (.inl (some (.inl (pz_bi (¬ q_sta k (k (212 + 4 * s + 1).toNat)))))) iv dv cc ss)
  refine pz_G_of pz_b90_0 ?_
  refine w_loc rfl ?_
  refine w_getR (q := 3) is_142 rf_142_0 ?_
  refine w_getR (q := 10) is_3 rf_3_2 ?_
  refine w_loc rfl ?_
  refine w_loc rfl ?_
  refine w_getR (q := 3) is_142 rf_142_0 ?_
  refine w_getR (q := 15) is_3 rf_3_3 ?_
  have hc1 : pz_R (pz_Sh L) 116 [.inr (.inl 10), .inl s, .inr (.inl 15)] (iv) (.inl (some (.inl (pz_bi (q_sta k (k (212 + 4 * s + 1).toNat)))))) (iv) := s_X9_hasEnded_15 s (by exact hk) (by exact hS) (by exact hC) (by omega)
  refine w_call hc1 rfl (pz_cokI is_10 rfl) ?_
  refine w_bne (fun h2 => ?_) (fun h2 => ?_)
  · refine pz_G_of pz_b90_25 ?_
    refine w_pure rfl ?_
    refine w_nil ?_
    refine pz_G_of pz_b90_26 ?_
    refine w_ret (pz_rok1 (Or.inl rfl)) ?_
    first | exact lf_i (pz_bi_f (by omega)) (by rfl) | (exfalso; omega)
  · refine w_pure rfl ?_
    refine w_goto ?_
    refine pz_G_of pz_b90_26 ?_
    refine w_ret (pz_rok1 (Or.inr rfl)) ?_
    first | exact lf_i (pz_bi_t (by omega)) (by rfl) | (exfalso; omega)

theorem s_X8_valueOf {L : Nat} {iv : Nat → Nat → Int} (i : Int) (j : Int) (hi : 0 ≤ i ∧ i ≤ 9) (hj : 0 ≤ j ∧ j ≤ 9) : pz_R (pz_Sh L) 91 [.inr (.inl 142), .inl i, .inl j] iv (.inl (some (.inl ((iv 143) (10 * i + j).toNat)))) iv := by
  intro dv cc ss
  show pz_G 91 0 [some (.inr (.inl 142)), some (.inl i), some (.inl j), none] [] (pz_Sh L, iv, dv, cc, ss) (pz_P (pz_Sh L) (.inl (some (.inl ((iv 143) (10 * i + j).toNat)))) iv dv cc ss)
  refine pz_G_of pz_b91_0 ?_
  refine w_loc rfl ?_
  refine w_zlt (fun h1 => ?_) (fun h1 => ?_)
  · refine pz_G_of pz_b91_24 ?_
    refine w_pure rfl ?_
    refine w_nil ?_
    refine pz_G_of pz_b91_25 ?_
    refine w_loc (ls' := [some (.inr (.inl 142)), some (.inl i), some (.inl j), some (.inl 0)]) (st' := []) rfl ?_
    refine w_loc rfl ?_
    refine w_zeq (fun _ => ?_) (fun h => absurd h (by decide))
    refine pz_G_of pz_b91_44 ?_
    refine w_ldcv (v := 1000000000) rfl ?_
    refine w_nil ?_
    refine pz_G_of pz_b91_46 ?_
    refine w_ret rfl ?_
    first | exact lf_i (by first | rfl | omega) (by rfl) | (exfalso; omega)
  · refine w_loc rfl ?_
    refine w_pure rfl ?_
    refine w_ige (fun h2 => ?_) (fun h2 => ?_)
    · refine pz_G_of pz_b91_24 ?_
      refine w_pure rfl ?_
      refine w_nil ?_
      refine pz_G_of pz_b91_25 ?_
      refine w_loc (ls' := [some (.inr (.inl 142)), some (.inl i), some (.inl j), some (.inl 0)]) (st' := []) rfl ?_
      refine w_loc rfl ?_
      refine w_zeq (fun _ => ?_) (fun h => absurd h (by decide))
      refine pz_G_of pz_b91_44 ?_
      refine w_ldcv (v := 1000000000) rfl ?_
      refine w_nil ?_
      refine pz_G_of pz_b91_46 ?_
      refine w_ret rfl ?_
      first | exact lf_i (by first | rfl | omega) (by rfl) | (exfalso; omega)
    · refine w_loc rfl ?_
      refine w_zlt (fun h3 => ?_) (fun h3 => ?_)
      · refine pz_G_of pz_b91_24 ?_
        refine w_pure rfl ?_
        refine w_nil ?_
        refine pz_G_of pz_b91_25 ?_
        refine w_loc (ls' := [some (.inr (.inl 142)), some (.inl i), some (.inl j), some (.inl 0)]) (st' := []) rfl ?_
        refine w_loc rfl ?_
        refine w_zeq (fun _ => ?_) (fun h => absurd h (by decide))
        refine pz_G_of pz_b91_44 ?_
        refine w_ldcv (v := 1000000000) rfl ?_
        refine w_nil ?_
        refine pz_G_of pz_b91_46 ?_
        refine w_ret rfl ?_
        first | exact lf_i (by first | rfl | omega) (by rfl) | (exfalso; omega)
      · refine w_loc rfl ?_
        refine w_pure rfl ?_
        refine w_ige (fun h4 => ?_) (fun h4 => ?_)
        · refine pz_G_of pz_b91_24 ?_
          refine w_pure rfl ?_
          refine w_nil ?_
          refine pz_G_of pz_b91_25 ?_
          refine w_loc (ls' := [some (.inr (.inl 142)), some (.inl i), some (.inl j), some (.inl 0)]) (st' := []) rfl ?_
          refine w_loc rfl ?_
          refine w_zeq (fun _ => ?_) (fun h => absurd h (by decide))
          refine pz_G_of pz_b91_44 ?_
          refine w_ldcv (v := 1000000000) rfl ?_
          refine w_nil ?_
          refine pz_G_of pz_b91_46 ?_
          refine w_ret rfl ?_
          first | exact lf_i (by first | rfl | omega) (by rfl) | (exfalso; omega)
        · refine w_pure rfl ?_
          refine w_goto ?_
          refine pz_G_of pz_b91_25 ?_
          refine w_loc (ls' := [some (.inr (.inl 142)), some (.inl i), some (.inl j), some (.inl 1)]) (st' := []) rfl ?_
          refine w_loc rfl ?_
          refine w_zeq (fun h => absurd h (by decide)) (fun _ => ?_)
          refine w_loc rfl ?_
          refine w_getR (q := 143) is_142 rf_142_4 ?_
          refine w_loc rfl ?_
          refine w_pure rfl ?_
          refine w_imulc (by omega) ?_
          refine w_loc rfl ?_
          refine w_iadd (by omega) ?_
          refine w_iald (v := (iv 143) ((10 * i) + j).toNat) is_143 ln_143 ⟨by omega, by omega⟩ rfl ?_
          refine w_goto ?_
          refine pz_G_of pz_b91_46 ?_
          refine w_ret rfl ?_
          first | exact lf_i (by first | rfl | omega) (by rfl) | (exfalso; omega)

theorem s_X8_upperOf {L : Nat} {iv : Nat → Nat → Int} (s : Int) (i : Int) (hs : 0 ≤ s ∧ s ≤ 2) (hi : 0 ≤ i ∧ i ≤ 9) : pz_R (pz_Sh L) 92 [.inr (.inl 142), .inl s, .inl i] iv (.inl (some (.inl ((iv 145) (10 * s + i).toNat)))) iv := by
  intro dv cc ss
  show pz_G 92 0 [some (.inr (.inl 142)), some (.inl s), some (.inl i), none] [] (pz_Sh L, iv, dv, cc, ss) (pz_P (pz_Sh L) (.inl (some (.inl ((iv 145) (10 * s + i).toNat)))) iv dv cc ss)
  refine pz_G_of pz_b92_0 ?_
  refine w_loc rfl ?_
  refine w_zlt (fun h1 => ?_) (fun h1 => ?_)
  · refine pz_G_of pz_b92_23 ?_
    refine w_pure rfl ?_
    refine w_nil ?_
    refine pz_G_of pz_b92_24 ?_
    refine w_loc (ls' := [some (.inr (.inl 142)), some (.inl s), some (.inl i), some (.inl 0)]) (st' := []) rfl ?_
    refine w_loc rfl ?_
    refine w_zeq (fun _ => ?_) (fun h => absurd h (by decide))
    refine pz_G_of pz_b92_43 ?_
    refine w_ldcv (v := 1000000000) rfl ?_
    refine w_nil ?_
    refine pz_G_of pz_b92_45 ?_
    refine w_ret rfl ?_
    first | exact lf_i (by first | rfl | omega) (by rfl) | (exfalso; omega)
  · refine w_loc rfl ?_
    refine w_pure rfl ?_
    refine w_ige (fun h2 => ?_) (fun h2 => ?_)
    · refine pz_G_of pz_b92_23 ?_
      refine w_pure rfl ?_
      refine w_nil ?_
      refine pz_G_of pz_b92_24 ?_
      refine w_loc (ls' := [some (.inr (.inl 142)), some (.inl s), some (.inl i), some (.inl 0)]) (st' := []) rfl ?_
      refine w_loc rfl ?_
      refine w_zeq (fun _ => ?_) (fun h => absurd h (by decide))
      refine pz_G_of pz_b92_43 ?_
      refine w_ldcv (v := 1000000000) rfl ?_
      refine w_nil ?_
      refine pz_G_of pz_b92_45 ?_
      refine w_ret rfl ?_
      first | exact lf_i (by first | rfl | omega) (by rfl) | (exfalso; omega)
    · refine w_loc rfl ?_
      refine w_zlt (fun h3 => ?_) (fun h3 => ?_)
      · refine pz_G_of pz_b92_23 ?_
        refine w_pure rfl ?_
        refine w_nil ?_
        refine pz_G_of pz_b92_24 ?_
        refine w_loc (ls' := [some (.inr (.inl 142)), some (.inl s), some (.inl i), some (.inl 0)]) (st' := []) rfl ?_
        refine w_loc rfl ?_
        refine w_zeq (fun _ => ?_) (fun h => absurd h (by decide))
        refine pz_G_of pz_b92_43 ?_
        refine w_ldcv (v := 1000000000) rfl ?_
        refine w_nil ?_
        refine pz_G_of pz_b92_45 ?_
        refine w_ret rfl ?_
        first | exact lf_i (by first | rfl | omega) (by rfl) | (exfalso; omega)
      · refine w_loc rfl ?_
        refine w_pure rfl ?_
        refine w_ige (fun h4 => ?_) (fun h4 => ?_)
        · refine pz_G_of pz_b92_23 ?_
          refine w_pure rfl ?_
          refine w_nil ?_
          refine pz_G_of pz_b92_24 ?_
          refine w_loc (ls' := [some (.inr (.inl 142)), some (.inl s), some (.inl i), some (.inl 0)]) (st' := []) rfl ?_
          refine w_loc rfl ?_
          refine w_zeq (fun _ => ?_) (fun h => absurd h (by decide))
          refine pz_G_of pz_b92_43 ?_
          refine w_ldcv (v := 1000000000) rfl ?_
          refine w_nil ?_
          refine pz_G_of pz_b92_45 ?_
          refine w_ret rfl ?_
          first | exact lf_i (by first | rfl | omega) (by rfl) | (exfalso; omega)
        · refine w_pure rfl ?_
          refine w_goto ?_
          refine pz_G_of pz_b92_24 ?_
          refine w_loc (ls' := [some (.inr (.inl 142)), some (.inl s), some (.inl i), some (.inl 1)]) (st' := []) rfl ?_
          refine w_loc rfl ?_
          refine w_zeq (fun h => absurd h (by decide)) (fun _ => ?_)
          refine w_loc rfl ?_
          refine w_getR (q := 145) is_142 rf_142_6 ?_
          refine w_loc rfl ?_
          refine w_pure rfl ?_
          refine w_imulc (by omega) ?_
          refine w_loc rfl ?_
          refine w_iadd (by omega) ?_
          refine w_iald (v := (iv 145) ((10 * s) + i).toNat) is_145 ln_145 ⟨by omega, by omega⟩ rfl ?_
          refine w_goto ?_
          refine pz_G_of pz_b92_45 ?_
          refine w_ret rfl ?_
          first | exact lf_i (by first | rfl | omega) (by rfl) | (exfalso; omega)

theorem s_X8_findValue {L : Nat} {iv : Nat → Nat → Int} (i : Int) (j : Int) (w : Int) (hi : 0 ≤ i ∧ i ≤ 9) (hj : 0 ≤ j ∧ j ≤ 9) : pz_R (pz_Sh L) 94 [.inr (.inl 142), .inl i, .inl j, .inl w] iv (.inl none) (pz_u1 (pz_u1 iv 142 (q_if (w < (iv 144) (10 * i + j).toNat) (pz_up (iv 142) 3 1) (iv 142))) 144 (q_lw (iv 144) (10 * i + j) w)) := by
  intro dv cc ss
  refine pz_G_mem (iv2 := pz_u1 (pz_u1 iv 142 (iv 142)) 144 (iv 144)) (by exact ((pz_u1_self iv 142).symm).trans (pz_u1_self (pz_u1 iv 142 (iv 142)) 144).symm) ?_
  show pz_G 94 0 [some (.inr (.inl 142)), some (.inl i), some (.inl j), some (.inl w), none] [] (pz_Sh L, pz_u1 (pz_u1 iv 142 (iv 142)) 144 (iv 144), dv, cc, ss) (pz_P (pz_Sh L) (.inl none) (pz_u1 (pz_u1 iv 142 (q_if (w < (iv 144) (10 * i + j).toNat) (pz_up (iv 142) 3 1) (iv 142))) 144 (q_lw (iv 144) (10 * i + j) w)) dv cc ss)
  refine pz_G_of pz_b94_0 ?_
  refine w_loc rfl ?_
  refine w_zlt (fun h1 => ?_) (fun h1 => ?_)
  · refine pz_G_of pz_b94_24 ?_
    refine w_pure rfl ?_
    refine w_nil ?_
    refine pz_G_of pz_b94_25 ?_
    refine w_loc (ls' := [some (.inr (.inl 142)), some (.inl i), some (.inl j), some (.inl w), some (.inl 0)]) (st' := []) rfl ?_
    refine w_loc rfl ?_
    refine w_zeq (fun _ => ?_) (fun h => absurd h (by decide))
    refine pz_G_of pz_b94_64 ?_
    refine w_vret ?_
    first | (exfalso; omega) | exact lf_v (by first | (rw [q_if_t (by omega), q_lw_y (by omega)]) | (rw [q_if_f (by omega), q_lw_n (by omega)]))
  · refine w_loc rfl ?_
    refine w_pure rfl ?_
    refine w_ige (fun h2 => ?_) (fun h2 => ?_)
    · refine pz_G_of pz_b94_24 ?_
      refine w_pure rfl ?_
      refine w_nil ?_
      refine pz_G_of pz_b94_25 ?_
      refine w_loc (ls' := [some (.inr (.inl 142)), some (.inl i), some (.inl j), some (.inl w), some (.inl 0)]) (st' := []) rfl ?_
      refine w_loc rfl ?_
      refine w_zeq (fun _ => ?_) (fun h => absurd h (by decide))
      refine pz_G_of pz_b94_64 ?_
      refine w_vret ?_
      first | (exfalso; omega) | exact lf_v (by first | (rw [q_if_t (by omega), q_lw_y (by omega)]) | (rw [q_if_f (by omega), q_lw_n (by omega)]))
    · refine w_loc rfl ?_
      refine w_zlt (fun h3 => ?_) (fun h3 => ?_)
      · refine pz_G_of pz_b94_24 ?_
        refine w_pure rfl ?_
        refine w_nil ?_
        refine pz_G_of pz_b94_25 ?_
        refine w_loc (ls' := [some (.inr (.inl 142)), some (.inl i), some (.inl j), some (.inl w), some (.inl 0)]) (st' := []) rfl ?_
        refine w_loc rfl ?_
        refine w_zeq (fun _ => ?_) (fun h => absurd h (by decide))
        refine pz_G_of pz_b94_64 ?_
        refine w_vret ?_
        first | (exfalso; omega) | exact lf_v (by first | (rw [q_if_t (by omega), q_lw_y (by omega)]) | (rw [q_if_f (by omega), q_lw_n (by omega)]))
      · refine w_loc rfl ?_
        refine w_pure rfl ?_
        refine w_ige (fun h4 => ?_) (fun h4 => ?_)
        · refine pz_G_of pz_b94_24 ?_
          refine w_pure rfl ?_
          refine w_nil ?_
          refine pz_G_of pz_b94_25 ?_
          refine w_loc (ls' := [some (.inr (.inl 142)), some (.inl i), some (.inl j), some (.inl w), some (.inl 0)]) (st' := []) rfl ?_
          refine w_loc rfl ?_
          refine w_zeq (fun _ => ?_) (fun h => absurd h (by decide))
          refine pz_G_of pz_b94_64 ?_
          refine w_vret ?_
          first | (exfalso; omega) | exact lf_v (by first | (rw [q_if_t (by omega), q_lw_y (by omega)]) | (rw [q_if_f (by omega), q_lw_n (by omega)]))
        · refine w_pure rfl ?_
          refine w_goto ?_
          refine pz_G_of pz_b94_25 ?_
          refine w_loc (ls' := [some (.inr (.inl 142)), some (.inl i), some (.inl j), some (.inl w), some (.inl 1)]) (st' := []) rfl ?_
          refine w_loc rfl ?_
          refine w_zeq (fun h => absurd h (by decide)) (fun _ => ?_)
          refine w_loc rfl ?_
          refine w_loc rfl ?_
          refine w_getR (q := 144) is_142 rf_142_5 ?_
          refine w_loc rfl ?_
          refine w_pure rfl ?_
          refine w_imulc (by omega) ?_
          refine w_loc rfl ?_
          refine w_iadd (by omega) ?_
          refine w_iald (v := (iv 144) ((10 * i) + j).toNat) is_144 ln_144 ⟨by omega, by omega⟩ rfl ?_
          refine w_ige (fun h5 => ?_) (fun h5 => ?_)
          · refine pz_G_of pz_b94_64 ?_
            refine w_vret ?_
            first | (exfalso; omega) | exact lf_v (by first | (rw [q_if_t (by omega), q_lw_y (by omega)]) | (rw [q_if_f (by omega), q_lw_n (by omega)]))
          · refine w_loc rfl ?_
            refine w_getR (q := 144) is_142 rf_142_5 ?_
            refine w_loc rfl ?_
            refine w_pure rfl ?_
            refine w_imulc (by omega) ?_
            refine w_loc rfl ?_
            refine w_iadd (by omega) ?_
            refine w_loc rfl ?_
            refine w_iastm (iv2 := pz_u1 (pz_u1 iv 142 (iv 142)) 144 (pz_up (iv 144) ((10 * i) + j).toNat w)) is_144 ln_144 ⟨by omega, by omega⟩ (by exact pz_u2_top _ _ _ _ _) ?_
            refine w_loc rfl ?_
            refine w_pure rfl ?_
            refine w_putIm (iv2 := pz_u1 (pz_u1 iv 142 (pz_up (iv 142) 3 1)) 144 (pz_up (iv 144) ((10 * i) + j).toNat w)) is_142 (pz_fit1 (Or.inr rfl)) (by rw [pz_u2_in (r := 142) (q := 144) (by decide)]; rw [pz_u2_top] <;> rfl) ?_
            refine w_nil ?_
            refine pz_G_of pz_b94_64 ?_
            refine w_vret ?_
            first | (exfalso; omega) | exact lf_v (by first | (rw [q_if_t (by omega), q_lw_y (by omega)]) | (rw [q_if_f (by omega), q_lw_n (by omega)]))

theorem s_X8_findUpper {L : Nat} {iv : Nat → Nat → Int} (s : Int) (i : Int) (w : Int) (hs : 0 ≤ s ∧ s ≤ 2) (hi : 0 ≤ i ∧ i ≤ 9) : pz_R (pz_Sh L) 95 [.inr (.inl 142), .inl s, .inl i, .inl w] iv (.inl none) (pz_u1 (pz_u1 iv 142 (q_if (w < (iv 146) (10 * s + i).toNat) (pz_up (iv 142) 3 1) (iv 142))) 146 (q_lw (iv 146) (10 * s + i) w)) := by
  intro dv cc ss
  refine pz_G_mem (iv2 := pz_u1 (pz_u1 iv 142 (iv 142)) 146 (iv 146)) (by exact ((pz_u1_self iv 142).symm).trans (pz_u1_self (pz_u1 iv 142 (iv 142)) 146).symm) ?_
  show pz_G 95 0 [some (.inr (.inl 142)), some (.inl s), some (.inl i), some (.inl w), none] [] (pz_Sh L, pz_u1 (pz_u1 iv 142 (iv 142)) 146 (iv 146), dv, cc, ss) (pz_P (pz_Sh L) (.inl none) (pz_u1 (pz_u1 iv 142 (q_if (w < (iv 146) (10 * s + i).toNat) (pz_up (iv 142) 3 1) (iv 142))) 146 (q_lw (iv 146) (10 * s + i) w)) dv cc ss)
  refine pz_G_of pz_b95_0 ?_
  refine w_loc rfl ?_
  refine w_zlt (fun h1 => ?_) (fun h1 => ?_)
  · refine pz_G_of pz_b95_23 ?_
    refine w_pure rfl ?_
    refine w_nil ?_
    refine pz_G_of pz_b95_24 ?_
    refine w_loc (ls' := [some (.inr (.inl 142)), some (.inl s), some (.inl i), some (.inl w), some (.inl 0)]) (st' := []) rfl ?_
    refine w_loc rfl ?_
    refine w_zeq (fun _ => ?_) (fun h => absurd h (by decide))
    refine pz_G_of pz_b95_63 ?_
    refine w_vret ?_
    first | (exfalso; omega) | exact lf_v (by first | (rw [q_if_t (by omega), q_lw_y (by omega)]) | (rw [q_if_f (by omega), q_lw_n (by omega)]))
  · refine w_loc rfl ?_
    refine w_pure rfl ?_
    refine w_ige (fun h2 => ?_) (fun h2 => ?_)
    · refine pz_G_of pz_b95_23 ?_
      refine w_pure rfl ?_
      refine w_nil ?_
      refine pz_G_of pz_b95_24 ?_
      refine w_loc (ls' := [some (.inr (.inl 142)), some (.inl s), some (.inl i), some (.inl w), some (.inl 0)]) (st' := []) rfl ?_
      refine w_loc rfl ?_
      refine w_zeq (fun _ => ?_) (fun h => absurd h (by decide))
      refine pz_G_of pz_b95_63 ?_
      refine w_vret ?_
      first | (exfalso; omega) | exact lf_v (by first | (rw [q_if_t (by omega), q_lw_y (by omega)]) | (rw [q_if_f (by omega), q_lw_n (by omega)]))
    · refine w_loc rfl ?_
      refine w_zlt (fun h3 => ?_) (fun h3 => ?_)
      · refine pz_G_of pz_b95_23 ?_
        refine w_pure rfl ?_
        refine w_nil ?_
        refine pz_G_of pz_b95_24 ?_
        refine w_loc (ls' := [some (.inr (.inl 142)), some (.inl s), some (.inl i), some (.inl w), some (.inl 0)]) (st' := []) rfl ?_
        refine w_loc rfl ?_
        refine w_zeq (fun _ => ?_) (fun h => absurd h (by decide))
        refine pz_G_of pz_b95_63 ?_
        refine w_vret ?_
        first | (exfalso; omega) | exact lf_v (by first | (rw [q_if_t (by omega), q_lw_y (by omega)]) | (rw [q_if_f (by omega), q_lw_n (by omega)]))
      · refine w_loc rfl ?_
        refine w_pure rfl ?_
        refine w_ige (fun h4 => ?_) (fun h4 => ?_)
        · refine pz_G_of pz_b95_23 ?_
          refine w_pure rfl ?_
          refine w_nil ?_
          refine pz_G_of pz_b95_24 ?_
          refine w_loc (ls' := [some (.inr (.inl 142)), some (.inl s), some (.inl i), some (.inl w), some (.inl 0)]) (st' := []) rfl ?_
          refine w_loc rfl ?_
          refine w_zeq (fun _ => ?_) (fun h => absurd h (by decide))
          refine pz_G_of pz_b95_63 ?_
          refine w_vret ?_
          first | (exfalso; omega) | exact lf_v (by first | (rw [q_if_t (by omega), q_lw_y (by omega)]) | (rw [q_if_f (by omega), q_lw_n (by omega)]))
        · refine w_pure rfl ?_
          refine w_goto ?_
          refine pz_G_of pz_b95_24 ?_
          refine w_loc (ls' := [some (.inr (.inl 142)), some (.inl s), some (.inl i), some (.inl w), some (.inl 1)]) (st' := []) rfl ?_
          refine w_loc rfl ?_
          refine w_zeq (fun h => absurd h (by decide)) (fun _ => ?_)
          refine w_loc rfl ?_
          refine w_loc rfl ?_
          refine w_getR (q := 146) is_142 rf_142_7 ?_
          refine w_loc rfl ?_
          refine w_pure rfl ?_
          refine w_imulc (by omega) ?_
          refine w_loc rfl ?_
          refine w_iadd (by omega) ?_
          refine w_iald (v := (iv 146) ((10 * s) + i).toNat) is_146 ln_146 ⟨by omega, by omega⟩ rfl ?_
          refine w_ige (fun h5 => ?_) (fun h5 => ?_)
          · refine pz_G_of pz_b95_63 ?_
            refine w_vret ?_
            first | (exfalso; omega) | exact lf_v (by first | (rw [q_if_t (by omega), q_lw_y (by omega)]) | (rw [q_if_f (by omega), q_lw_n (by omega)]))
          · refine w_loc rfl ?_
            refine w_getR (q := 146) is_142 rf_142_7 ?_
            refine w_loc rfl ?_
            refine w_pure rfl ?_
            refine w_imulc (by omega) ?_
            refine w_loc rfl ?_
            refine w_iadd (by omega) ?_
            refine w_loc rfl ?_
            refine w_iastm (iv2 := pz_u1 (pz_u1 iv 142 (iv 142)) 146 (pz_up (iv 146) ((10 * s) + i).toNat w)) is_146 ln_146 ⟨by omega, by omega⟩ (by exact pz_u2_top _ _ _ _ _) ?_
            refine w_loc rfl ?_
            refine w_pure rfl ?_
            refine w_putIm (iv2 := pz_u1 (pz_u1 iv 142 (pz_up (iv 142) 3 1)) 146 (pz_up (iv 146) ((10 * s) + i).toNat w)) is_142 (pz_fit1 (Or.inr rfl)) (by rw [pz_u2_in (r := 142) (q := 146) (by decide)]; rw [pz_u2_top] <;> rfl) ?_
            refine w_nil ?_
            refine pz_G_of pz_b95_63 ?_
            refine w_vret ?_
            first | (exfalso; omega) | exact lf_v (by first | (rw [q_if_t (by omega), q_lw_y (by omega)]) | (rw [q_if_f (by omega), q_lw_n (by omega)]))

theorem s_X8_addValues {L : Nat} {iv : Nat → Nat → Int} {k : Nat → Int} {f0 u0 m0 : Nat → Int} (hk : q_KR k) (hE : q_cE k (iv 3)) (hrv : q_rng 100 (iv 143)) (hmv : q_mvP m0 f0 u0 (iv 144) (iv 146) (iv 142)) : pz_RE (pz_Sh L) 96 [.inr (.inl 142)] iv (.inl none) (fun iv9 => ∃ (m9 : Nat → Int), iv9 = pz_u1 (pz_u1 iv 142 m9) 144 (q_av (iv 143) (k 0) (iv 144)) ∧ (q_mvP m0 f0 u0 (q_av (iv 143) (k 0) (iv 144)) (iv 146) m9)) := by
  intro dv cc ss
  have hk0 := hk.r0
  have hE0 := hE
  have hzz : min (iv 3 0) 10 = k 0 := by omega
  refine pz_G_mem (iv2 := pz_u1 (pz_u1 iv 142 (iv 142)) 144 (iv 144)) (by exact ((pz_u1_self iv 142).symm).trans (pz_u1_self (pz_u1 iv 142 (iv 142)) 144).symm) ?_
  show pz_G 96 0 [some (.inr (.inl 142)), none, none, none, none, none, none] [] (pz_Sh L, pz_u1 (pz_u1 iv 142 (iv 142)) 144 (iv 144), dv, cc, ss) (pz_PE (pz_Sh L) (.inl none) (fun iv9 => ∃ (m9 : Nat → Int), iv9 = pz_u1 (pz_u1 iv 142 m9) 144 (q_av (iv 143) (k 0) (iv 144)) ∧ (q_mvP m0 f0 u0 (q_av (iv 143) (k 0) (iv 144)) (iv 146) m9)) dv cc ss)
  refine pz_G_of pz_b96_0 ?_
  refine w_loc rfl ?_
  refine w_getR (q := 3) is_142 rf_142_0 ?_
  refine w_getI (v := (iv 3) 0) is_3 (by decide) rfl ?_
  refine w_pure rfl ?_
  have hc1 : pz_R (pz_Sh L) 2 [.inl ((iv 3) 0), .inl 10] (pz_u1 (pz_u1 iv 142 (iv 142)) 144 (iv 144)) (.inl (some (.inl (min ((iv 3) 0) 10)))) (pz_u1 (pz_u1 iv 142 (iv 142)) 144 (iv 144)) := s_J_min ((iv 3) 0) 10
  refine w_call hc1 rfl rfl ?_
  refine w_loc (ls' := [some (.inr (.inl 142)), some (.inl (min ((iv 3) 0) 10)), none, none, none, none, none]) (st' := []) rfl ?_
  refine w_pure rfl ?_
  refine w_loc (ls' := [some (.inr (.inl 142)), some (.inl (min ((iv 3) 0) 10)), some (.inl 0), none, none, none, none]) (st' := []) rfl ?_
  refine w_nil ?_
  have lp15 : ∀ (dd : Nat) (i : Int) (m : Nat → Int) (f : Nat → Int) (u15_3 : Option pz_V) (hu15_3 : pz_nc u15_3 = true) (u15_4 : Option pz_V) (hu15_4 : pz_nc u15_4 = true) (u15_5 : Option pz_V) (hu15_5 : pz_nc u15_5 = true) (u15_6 : Option pz_V) (hu15_6 : pz_nc u15_6 = true), (k 0 - i).toNat = dd → ∀ (hi : 0 ≤ i ∧ i ≤ k 0), ∀ (hf : f = q_fr (q_aI (iv 143) (k 0)) 0 i (iv 144)), ∀ (hm : q_mvP m0 f0 u0 f (iv 146) m),  pz_G 96 15 [some (.inr (.inl 142)), some (.inl (min ((iv 3) 0) 10)), some (.inl i), u15_3, u15_4, u15_5, u15_6] [] (pz_Sh L, pz_u1 (pz_u1 iv 142 m) 144 f, dv, cc, ss) (pz_PE (pz_Sh L) (.inl none) (fun iv9 => ∃ (m9 : Nat → Int), iv9 = pz_u1 (pz_u1 iv 142 m9) 144 (q_av (iv 143) (k 0) (iv 144)) ∧ (q_mvP m0 f0 u0 (q_av (iv 143) (k 0) (iv 144)) (iv 146) m9)) dv cc ss) := by
    intro dd15
    induction dd15 using Nat.strongRecOn with
    | _ dd15 ih15 =>
    intro i m f u15_3 hu15_3 u15_4 hu15_4 u15_5 hu15_5 u15_6 hu15_6 hd15 hi hf hm
    refine pz_G_of pz_b96_15 ?_
    refine w_loc rfl ?_
    refine w_loc rfl ?_
    refine w_ige (fun h2 => ?_) (fun h2 => ?_)
    · refine pz_G_of pz_b96_107 ?_
      refine w_vret ?_
      first | exact ⟨pz_u1 (pz_u1 iv 142 m) 144 f, ⟨m, by rw [hf, show i = k 0 by omega]; rfl, by rw [hf, show i = k 0 by omega] at hm; exact hm⟩, lf_v rfl⟩ | (exfalso; omega)
    · refine w_pure rfl ?_
      refine w_loc (ls' := [some (.inr (.inl 142)), some (.inl (min ((iv 3) 0) 10)), some (.inl i), some (.inl 0), u15_4, u15_5, u15_6]) (st' := []) rfl ?_
      refine w_nil ?_
      have lp22 : ∀ (dd : Nat) (c : Int) (m2 : Nat → Int) (f2 : Nat → Int) (u22_4 : Option pz_V) (hu22_4 : pz_nc u22_4 = true) (u22_5 : Option pz_V) (hu22_5 : pz_nc u22_5 = true) (u22_6 : Option pz_V) (hu22_6 : pz_nc u22_6 = true), (k 0 - c).toNat = dd → ∀ (hc : 0 ≤ c ∧ c ≤ k 0), ∀ (hf2 : f2 = q_fr (q_aC (iv 143) (k 0) i) 0 c f), ∀ (hm2 : q_mvP m0 f0 u0 f2 (iv 146) m2),  pz_G 96 22 [some (.inr (.inl 142)), some (.inl (min ((iv 3) 0) 10)), some (.inl i), some (.inl c), u22_4, u22_5, u22_6] [] (pz_Sh L, pz_u1 (pz_u1 iv 142 m2) 144 f2, dv, cc, ss) (pz_PE (pz_Sh L) (.inl none) (fun iv9 => ∃ (m9 : Nat → Int), iv9 = pz_u1 (pz_u1 iv 142 m9) 144 (q_av (iv 143) (k 0) (iv 144)) ∧ (q_mvP m0 f0 u0 (q_av (iv 143) (k 0) (iv 144)) (iv 146) m9)) dv cc ss) := by
        intro dd22
        induction dd22 using Nat.strongRecOn with
        | _ dd22 ih22 =>
        intro c m2 f2 u22_4 hu22_4 u22_5 hu22_5 u22_6 hu22_6 hd22 hc hf2 hm2
        refine pz_G_of pz_b96_22 ?_
        refine w_loc rfl ?_
        refine w_loc rfl ?_
        refine w_ige (fun h3 => ?_) (fun h3 => ?_)
        · refine pz_G_of pz_b96_101 ?_
          refine w_iinc (ls' := [some (.inr (.inl 142)), some (.inl (min ((iv 3) 0) 10)), some (.inl (i + 1)), some (.inl c), u22_4, u22_5, u22_6]) rfl rfl rfl (by omega) ?_
          refine w_goto ?_
          exact ih15 _ (by omega) (i + 1) m2 f2 (some (.inl c)) rfl u22_4 hu22_4 u22_5 hu22_5 u22_6 hu22_6 rfl (by omega) (by rw [q_fr_s (by omega), ← hf]; unfold q_aI; rw [hf2, show c = k 0 by omega]) (by exact hm2)
        · refine w_loc rfl ?_
          refine w_getR (q := 143) is_142 rf_142_4 ?_
          refine w_loc rfl ?_
          refine w_pure rfl ?_
          refine w_imulc (by omega) ?_
          refine w_loc rfl ?_
          refine w_iadd (by omega) ?_
          refine w_iald (v := (iv 143) ((10 * i) + c).toNat) is_143 ln_143 ⟨by omega, by omega⟩ rfl ?_
          refine w_loc (ls' := [some (.inr (.inl 142)), some (.inl (min ((iv 3) 0) 10)), some (.inl i), some (.inl c), some (.inl ((iv 143) ((10 * i) + c).toNat)), u22_5, u22_6]) (st' := []) rfl ?_
          refine w_pure rfl ?_
          refine w_loc (ls' := [some (.inr (.inl 142)), some (.inl (min ((iv 3) 0) 10)), some (.inl i), some (.inl c), some (.inl ((iv 143) ((10 * i) + c).toNat)), some (.inl 0), u22_6]) (st' := []) rfl ?_
          refine w_nil ?_
          have lp43 : ∀ (dd : Nat) (t : Int) (m3 : Nat → Int) (f3 : Nat → Int) (u43_6 : Option pz_V) (hu43_6 : pz_nc u43_6 = true), (k 0 - t).toNat = dd → ∀ (ht : 0 ≤ t ∧ t ≤ k 0), ∀ (hf3 : f3 = q_fr (q_aT (iv 143) i c) 0 t f2), ∀ (hm3 : q_mvP m0 f0 u0 f3 (iv 146) m3),  pz_G 96 43 [some (.inr (.inl 142)), some (.inl (min ((iv 3) 0) 10)), some (.inl i), some (.inl c), some (.inl ((iv 143) ((10 * i) + c).toNat)), some (.inl t), u43_6] [] (pz_Sh L, pz_u1 (pz_u1 iv 142 m3) 144 f3, dv, cc, ss) (pz_PE (pz_Sh L) (.inl none) (fun iv9 => ∃ (m9 : Nat → Int), iv9 = pz_u1 (pz_u1 iv 142 m9) 144 (q_av (iv 143) (k 0) (iv 144)) ∧ (q_mvP m0 f0 u0 (q_av (iv 143) (k 0) (iv 144)) (iv 146) m9)) dv cc ss) := by
            intro dd43
            induction dd43 using Nat.strongRecOn with
            | _ dd43 ih43 =>
            intro t m3 f3 u43_6 hu43_6 hd43 ht hf3 hm3
            have hv1 := hrv (10 * i + c).toNat (by omega)
            have hv2 := fun h => hrv (10 * c + t).toNat h
            refine pz_G_of pz_b96_43 ?_
            refine w_loc rfl ?_
            refine w_ldcv (v := 1000000000) rfl ?_
            refine w_ieq (fun h4 => ?_) (fun h4 => ?_)
            · refine pz_G_of pz_b96_95 ?_
              refine w_iinc (ls' := [some (.inr (.inl 142)), some (.inl (min ((iv 3) 0) 10)), some (.inl i), some (.inl (c + 1)), some (.inl ((iv 143) ((10 * i) + c).toNat)), some (.inl t), u43_6]) rfl rfl rfl (by omega) ?_
              refine w_goto ?_
              exact ih22 _ (by omega) (c + 1) m3 f3 (some (.inl ((iv 143) ((10 * i) + c).toNat))) rfl (some (.inl t)) rfl u43_6 hu43_6 rfl (by omega) (by rw [q_fr_s (by omega), ← hf2]; unfold q_aC; first | (rw [hf3, show t = k 0 by omega]) | (rw [hf3, q_aT_id (by assumption), q_aT_id (by assumption)])) (by exact hm3)
            · refine w_loc rfl ?_
              refine w_loc rfl ?_
              refine w_ige (fun h5 => ?_) (fun h5 => ?_)
              · refine pz_G_of pz_b96_95 ?_
                refine w_iinc (ls' := [some (.inr (.inl 142)), some (.inl (min ((iv 3) 0) 10)), some (.inl i), some (.inl (c + 1)), some (.inl ((iv 143) ((10 * i) + c).toNat)), some (.inl t), u43_6]) rfl rfl rfl (by omega) ?_
                refine w_goto ?_
                exact ih22 _ (by omega) (c + 1) m3 f3 (some (.inl ((iv 143) ((10 * i) + c).toNat))) rfl (some (.inl t)) rfl u43_6 hu43_6 rfl (by omega) (by rw [q_fr_s (by omega), ← hf2]; unfold q_aC; first | (rw [hf3, show t = k 0 by omega]) | (rw [hf3, q_aT_id (by assumption), q_aT_id (by assumption)])) (by exact hm3)
              · refine w_loc rfl ?_
                refine w_getR (q := 143) is_142 rf_142_4 ?_
                refine w_loc rfl ?_
                refine w_pure rfl ?_
                refine w_imulc (by omega) ?_
                refine w_loc rfl ?_
                refine w_iadd (by omega) ?_
                refine w_iald (v := (iv 143) ((10 * c) + t).toNat) is_143 ln_143 ⟨by omega, by omega⟩ rfl ?_
                refine w_loc (ls' := [some (.inr (.inl 142)), some (.inl (min ((iv 3) 0) 10)), some (.inl i), some (.inl c), some (.inl ((iv 143) ((10 * i) + c).toNat)), some (.inl t), some (.inl ((iv 143) ((10 * c) + t).toNat))]) (st' := []) rfl ?_
                refine w_loc rfl ?_
                refine w_ldcv (v := 1000000000) rfl ?_
                refine w_ieq (fun h6 => ?_) (fun h6 => ?_)
                · refine pz_G_of pz_b96_89 ?_
                  refine w_iinc (ls' := [some (.inr (.inl 142)), some (.inl (min ((iv 3) 0) 10)), some (.inl i), some (.inl c), some (.inl ((iv 143) ((10 * i) + c).toNat)), some (.inl (t + 1)), some (.inl ((iv 143) ((10 * c) + t).toNat))]) rfl rfl rfl (by omega) ?_
                  refine w_goto ?_
                  exact ih43 _ (by omega) (t + 1) m3 f3 (some (.inl ((iv 143) ((10 * c) + t).toNat))) rfl rfl (by omega) (by rw [q_fr_s (by omega), ← hf3]; unfold q_aT; first | rw [q_if_t (by omega)] | rw [q_if_f (by omega)]) (by first | exact q_mv_v hm3 | exact hm3)
                · refine w_loc rfl ?_
                  refine w_loc rfl ?_
                  refine w_loc rfl ?_
                  refine w_loc rfl ?_
                  refine w_loc rfl ?_
                  refine w_iadd (by omega) ?_
                  have hc7 : pz_R (pz_Sh L) 94 [.inr (.inl 142), .inl i, .inl t, .inl (((iv 143) ((10 * i) + c).toNat) + ((iv 143) ((10 * c) + t).toNat))] (pz_u1 (pz_u1 iv 142 m3) 144 f3) (.inl none) (pz_u1 (pz_u1 iv 142 (q_if ((((iv 143) ((10 * i) + c).toNat) + ((iv 143) ((10 * c) + t).toNat)) < f3 (10 * i + t).toNat) (pz_up m3 3 1) m3)) 144 (q_lw f3 (10 * i + t) (((iv 143) ((10 * i) + c).toNat) + ((iv 143) ((10 * c) + t).toNat)))) := pz_R_mem (s_X8_findValue i t (((iv 143) ((10 * i) + c).toNat) + ((iv 143) ((10 * c) + t).toNat)) (by show 0 ≤ i ∧ i ≤ 9; omega) (by show 0 ≤ t ∧ t ≤ 9; omega)) (by rw [pz_u1_in (r := 142) (q := 144) (by decide)]; rw [pz_u1_top (r := 142)]; rw [pz_u1_top (r := 144)]; rfl)
                  refine w_callv hc7 rfl (pz_cokI is_142 rfl) ?_
                  refine w_nil ?_
                  refine pz_G_of pz_b96_89 ?_
                  refine w_iinc (ls' := [some (.inr (.inl 142)), some (.inl (min ((iv 3) 0) 10)), some (.inl i), some (.inl c), some (.inl ((iv 143) ((10 * i) + c).toNat)), some (.inl (t + 1)), some (.inl ((iv 143) ((10 * c) + t).toNat))]) rfl rfl rfl (by omega) ?_
                  refine w_goto ?_
                  exact ih43 _ (by omega) (t + 1) (q_if ((((iv 143) ((10 * i) + c).toNat) + ((iv 143) ((10 * c) + t).toNat)) < f3 (10 * i + t).toNat) (pz_up m3 3 1) m3) (q_lw f3 (10 * i + t) (((iv 143) ((10 * i) + c).toNat) + ((iv 143) ((10 * c) + t).toNat))) (some (.inl ((iv 143) ((10 * c) + t).toNat))) rfl rfl (by omega) (by rw [q_fr_s (by omega), ← hf3]; unfold q_aT; first | rw [q_if_t (by omega)] | rw [q_if_f (by omega)]) (by first | exact q_mv_v hm3 | exact hm3)
          exact lp43 _ 0 m2 f2 u22_6 hu22_6 rfl (by omega) (by rw [q_fr_0 (by omega)]) (by exact hm2)
      exact lp22 _ 0 m f u15_4 hu15_4 u15_5 hu15_5 u15_6 hu15_6 rfl (by omega) (by rw [q_fr_0 (by omega)]) (by exact hm)
  exact lp15 _ 0 (iv 142) (iv 144) (none) rfl (none) rfl (none) rfl (none) rfl rfl (by omega) (by rw [q_fr_0 (by omega)]) (by exact hmv)

theorem s_X8_addToUppers {L : Nat} {iv : Nat → Nat → Int} (s : Int) {k : Nat → Int} {f0 u0 m0 : Nat → Int} (hk : q_KR k) (hE : q_cE k (iv 3)) (hrv : q_rng 100 (iv 143)) (hru : q_rng 30 (iv 145)) (hmv : q_mvP m0 f0 u0 (iv 144) (iv 146) (iv 142)) (hs : 0 ≤ s ∧ s < k 2) : pz_RE (pz_Sh L) 97 [.inr (.inl 142), .inl s] iv (.inl none) (fun iv9 => ∃ (m9 : Nat → Int), iv9 = pz_u1 (pz_u1 iv 142 m9) 146 (q_uu (iv 143) (iv 145) (k 0) s (iv 146)) ∧ (q_mvP m0 f0 u0 (iv 144) (q_uu (iv 143) (iv 145) (k 0) s (iv 146)) m9)) := by
  intro dv cc ss
  have hk0 := hk.r0
  have hE0 := hE
  refine pz_G_mem (iv2 := pz_u1 (pz_u1 iv 142 (iv 142)) 146 (iv 146)) (by exact ((pz_u1_self iv 142).symm).trans (pz_u1_self (pz_u1 iv 142 (iv 142)) 146).symm) ?_
  show pz_G 97 0 [some (.inr (.inl 142)), some (.inl s), none, none, none, none] [] (pz_Sh L, pz_u1 (pz_u1 iv 142 (iv 142)) 146 (iv 146), dv, cc, ss) (pz_PE (pz_Sh L) (.inl none) (fun iv9 => ∃ (m9 : Nat → Int), iv9 = pz_u1 (pz_u1 iv 142 m9) 146 (q_uu (iv 143) (iv 145) (k 0) s (iv 146)) ∧ (q_mvP m0 f0 u0 (iv 144) (q_uu (iv 143) (iv 145) (k 0) s (iv 146)) m9)) dv cc ss)
  refine pz_G_of pz_b97_0 ?_
  refine w_pure rfl ?_
  refine w_loc (ls' := [some (.inr (.inl 142)), some (.inl s), some (.inl 0), none, none, none]) (st' := []) rfl ?_
  refine w_nil ?_
  have lp2 : ∀ (dd : Nat) (c : Int) (m : Nat → Int) (f : Nat → Int) (u2_3 : Option pz_V) (hu2_3 : pz_nc u2_3 = true) (u2_4 : Option pz_V) (hu2_4 : pz_nc u2_4 = true) (u2_5 : Option pz_V) (hu2_5 : pz_nc u2_5 = true), (k 0 - c).toNat = dd → ∀ (hc : 0 ≤ c ∧ c ≤ k 0), ∀ (hf : f = q_fr (q_uC (iv 143) (iv 145) (k 0) s) 0 c (iv 146)), ∀ (hm : q_mvP m0 f0 u0 (iv 144) f m),  pz_G 97 2 [some (.inr (.inl 142)), some (.inl s), some (.inl c), u2_3, u2_4, u2_5] [] (pz_Sh L, pz_u1 (pz_u1 iv 142 m) 146 f, dv, cc, ss) (pz_PE (pz_Sh L) (.inl none) (fun iv9 => ∃ (m9 : Nat → Int), iv9 = pz_u1 (pz_u1 iv 142 m9) 146 (q_uu (iv 143) (iv 145) (k 0) s (iv 146)) ∧ (q_mvP m0 f0 u0 (iv 144) (q_uu (iv 143) (iv 145) (k 0) s (iv 146)) m9)) dv cc ss) := by
    intro dd2
    induction dd2 using Nat.strongRecOn with
    | _ dd2 ih2 =>
    intro c m f u2_3 hu2_3 u2_4 hu2_4 u2_5 hu2_5 hd2 hc hf hm
    refine pz_G_of pz_b97_2 ?_
    refine w_loc rfl ?_
    refine w_loc rfl ?_
    refine w_getR (q := 3) is_142 rf_142_0 ?_
    refine w_getI (v := (iv 3) 0) is_3 (by decide) rfl ?_
    refine w_ige (fun h1 => ?_) (fun h1 => ?_)
    · refine pz_G_of pz_b97_80 ?_
      refine w_vret ?_
      first | exact ⟨pz_u1 (pz_u1 iv 142 m) 146 f, ⟨m, by rw [hf, show c = k 0 by omega]; rfl, by rw [hf, show c = k 0 by omega] at hm; exact hm⟩, lf_v rfl⟩ | (exfalso; omega)
    · refine w_loc rfl ?_
      refine w_loc rfl ?_
      refine w_loc rfl ?_
      have hc2 : pz_R (pz_Sh L) 92 [.inr (.inl 142), .inl s, .inl c] (pz_u1 (pz_u1 iv 142 m) 146 f) (.inl (some (.inl ((iv 145) (10 * s + c).toNat)))) (pz_u1 (pz_u1 iv 142 m) 146 f) := s_X8_upperOf s c (by show 0 ≤ s ∧ s ≤ 2; omega) (by show 0 ≤ c ∧ c ≤ 9; omega)
      refine w_call hc2 rfl (pz_cokI is_142 rfl) ?_
      refine w_loc (ls' := [some (.inr (.inl 142)), some (.inl s), some (.inl c), some (.inl ((iv 145) (10 * s + c).toNat)), u2_4, u2_5]) (st' := []) rfl ?_
      refine w_pure rfl ?_
      refine w_loc (ls' := [some (.inr (.inl 142)), some (.inl s), some (.inl c), some (.inl ((iv 145) (10 * s + c).toNat)), some (.inl 0), u2_5]) (st' := []) rfl ?_
      refine w_nil ?_
      have lp23 : ∀ (dd : Nat) (i : Int) (m2 : Nat → Int) (f2 : Nat → Int) (u23_5 : Option pz_V) (hu23_5 : pz_nc u23_5 = true), (k 0 - i).toNat = dd → ∀ (hi : 0 ≤ i ∧ i ≤ k 0), ∀ (hf2 : f2 = q_fr (q_uT (iv 143) (iv 145) s c) 0 i f), ∀ (hm2 : q_mvP m0 f0 u0 (iv 144) f2 m2),  pz_G 97 23 [some (.inr (.inl 142)), some (.inl s), some (.inl c), some (.inl ((iv 145) (10 * s + c).toNat)), some (.inl i), u23_5] [] (pz_Sh L, pz_u1 (pz_u1 iv 142 m2) 146 f2, dv, cc, ss) (pz_PE (pz_Sh L) (.inl none) (fun iv9 => ∃ (m9 : Nat → Int), iv9 = pz_u1 (pz_u1 iv 142 m9) 146 (q_uu (iv 143) (iv 145) (k 0) s (iv 146)) ∧ (q_mvP m0 f0 u0 (iv 144) (q_uu (iv 143) (iv 145) (k 0) s (iv 146)) m9)) dv cc ss) := by
        intro dd23
        induction dd23 using Nat.strongRecOn with
        | _ dd23 ih23 =>
        intro i m2 f2 u23_5 hu23_5 hd23 hi hf2 hm2
        have hv1 := hru (10 * s + c).toNat (by omega)
        have hv2 := fun h => hrv (10 * i + c).toNat h
        refine pz_G_of pz_b97_23 ?_
        refine w_loc rfl ?_
        refine w_ldcv (v := 1000000000) rfl ?_
        refine w_ieq (fun h3 => ?_) (fun h3 => ?_)
        · refine pz_G_of pz_b97_74 ?_
          refine w_iinc (ls' := [some (.inr (.inl 142)), some (.inl s), some (.inl (c + 1)), some (.inl ((iv 145) (10 * s + c).toNat)), some (.inl i), u23_5]) rfl rfl rfl (by omega) ?_
          refine w_goto ?_
          exact ih2 _ (by omega) (c + 1) m2 f2 (some (.inl ((iv 145) (10 * s + c).toNat))) rfl (some (.inl i)) rfl u23_5 hu23_5 rfl (by omega) (by rw [q_fr_s (by omega), ← hf]; unfold q_uC; first | (rw [hf2, show i = k 0 by omega]) | (rw [hf2, q_uT_id (by assumption), q_uT_id (by assumption)])) (by exact hm2)
        · refine w_loc rfl ?_
          refine w_loc rfl ?_
          refine w_getR (q := 3) is_142 rf_142_0 ?_
          refine w_getI (v := (iv 3) 0) is_3 (by decide) rfl ?_
          refine w_ige (fun h4 => ?_) (fun h4 => ?_)
          · refine pz_G_of pz_b97_74 ?_
            refine w_iinc (ls' := [some (.inr (.inl 142)), some (.inl s), some (.inl (c + 1)), some (.inl ((iv 145) (10 * s + c).toNat)), some (.inl i), u23_5]) rfl rfl rfl (by omega) ?_
            refine w_goto ?_
            exact ih2 _ (by omega) (c + 1) m2 f2 (some (.inl ((iv 145) (10 * s + c).toNat))) rfl (some (.inl i)) rfl u23_5 hu23_5 rfl (by omega) (by rw [q_fr_s (by omega), ← hf]; unfold q_uC; first | (rw [hf2, show i = k 0 by omega]) | (rw [hf2, q_uT_id (by assumption), q_uT_id (by assumption)])) (by exact hm2)
          · refine w_loc rfl ?_
            refine w_loc rfl ?_
            refine w_loc rfl ?_
            have hc5 : pz_R (pz_Sh L) 91 [.inr (.inl 142), .inl i, .inl c] (pz_u1 (pz_u1 iv 142 m2) 146 f2) (.inl (some (.inl ((iv 143) (10 * i + c).toNat)))) (pz_u1 (pz_u1 iv 142 m2) 146 f2) := s_X8_valueOf i c (by show 0 ≤ i ∧ i ≤ 9; omega) (by show 0 ≤ c ∧ c ≤ 9; omega)
            refine w_call hc5 rfl (pz_cokI is_142 rfl) ?_
            refine w_loc (ls' := [some (.inr (.inl 142)), some (.inl s), some (.inl c), some (.inl ((iv 145) (10 * s + c).toNat)), some (.inl i), some (.inl ((iv 143) (10 * i + c).toNat))]) (st' := []) rfl ?_
            refine w_loc rfl ?_
            refine w_ldcv (v := 1000000000) rfl ?_
            refine w_ieq (fun h6 => ?_) (fun h6 => ?_)
            · refine pz_G_of pz_b97_68 ?_
              refine w_iinc (ls' := [some (.inr (.inl 142)), some (.inl s), some (.inl c), some (.inl ((iv 145) (10 * s + c).toNat)), some (.inl (i + 1)), some (.inl ((iv 143) (10 * i + c).toNat))]) rfl rfl rfl (by omega) ?_
              refine w_goto ?_
              exact ih23 _ (by omega) (i + 1) m2 f2 (some (.inl ((iv 143) (10 * i + c).toNat))) rfl rfl (by omega) (by rw [q_fr_s (by omega), ← hf2]; unfold q_uT; first | rw [q_if_t (by omega)] | rw [q_if_f (by omega)]) (by first | exact q_mv_u hm2 | exact hm2)
            · refine w_loc rfl ?_
              refine w_loc rfl ?_
              refine w_loc rfl ?_
              refine w_loc rfl ?_
              refine w_loc rfl ?_
              refine w_iadd (by omega) ?_
              have hc7 : pz_R (pz_Sh L) 95 [.inr (.inl 142), .inl s, .inl i, .inl (((iv 143) (10 * i + c).toNat) + ((iv 145) (10 * s + c).toNat))] (pz_u1 (pz_u1 iv 142 m2) 146 f2) (.inl none) (pz_u1 (pz_u1 iv 142 (q_if ((((iv 143) (10 * i + c).toNat) + ((iv 145) (10 * s + c).toNat)) < f2 (10 * s + i).toNat) (pz_up m2 3 1) m2)) 146 (q_lw f2 (10 * s + i) (((iv 143) (10 * i + c).toNat) + ((iv 145) (10 * s + c).toNat)))) := pz_R_mem (s_X8_findUpper s i (((iv 143) (10 * i + c).toNat) + ((iv 145) (10 * s + c).toNat)) (by show 0 ≤ s ∧ s ≤ 2; omega) (by show 0 ≤ i ∧ i ≤ 9; omega)) (by rw [pz_u1_in (r := 142) (q := 146) (by decide)]; rw [pz_u1_top (r := 142)]; rw [pz_u1_top (r := 146)]; rfl)
              refine w_callv hc7 rfl (pz_cokI is_142 rfl) ?_
              refine w_nil ?_
              refine pz_G_of pz_b97_68 ?_
              refine w_iinc (ls' := [some (.inr (.inl 142)), some (.inl s), some (.inl c), some (.inl ((iv 145) (10 * s + c).toNat)), some (.inl (i + 1)), some (.inl ((iv 143) (10 * i + c).toNat))]) rfl rfl rfl (by omega) ?_
              refine w_goto ?_
              exact ih23 _ (by omega) (i + 1) (q_if ((((iv 143) (10 * i + c).toNat) + ((iv 145) (10 * s + c).toNat)) < f2 (10 * s + i).toNat) (pz_up m2 3 1) m2) (q_lw f2 (10 * s + i) (((iv 143) (10 * i + c).toNat) + ((iv 145) (10 * s + c).toNat))) (some (.inl ((iv 143) (10 * i + c).toNat))) rfl rfl (by omega) (by rw [q_fr_s (by omega), ← hf2]; unfold q_uT; first | rw [q_if_t (by omega)] | rw [q_if_f (by omega)]) (by first | exact q_mv_u hm2 | exact hm2)
      exact lp23 _ 0 m f u2_5 hu2_5 rfl (by omega) (by rw [q_fr_0 (by omega)]) (by exact hm)
  exact lp2 _ 0 (iv 142) (iv 146) (none) rfl (none) rfl (none) rfl rfl (by omega) (by rw [q_fr_0 (by omega)]) (by exact hmv)

theorem s_X8_reduceLower {L : Nat} {iv : Nat → Nat → Int} (s : Int) {k : Nat → Int} {f0 u0 m0 : Nat → Int} (hk : q_KR k) (hE : q_cE k (iv 3)) (hS : q_cS k (iv 10) (iv 11) (iv 12) (iv 13) (iv 14)) (hrv : q_rng 100 (iv 143)) (hmv : q_mvP m0 f0 u0 (iv 144) (iv 146) (iv 142)) (hs : 0 ≤ s ∧ s < k 2) : pz_RE (pz_Sh L) 98 [.inr (.inl 142), .inl s] iv (.inl none) (fun iv9 => ∃ (m9 : Nat → Int), iv9 = pz_u1 (pz_u1 iv 142 m9) 144 (q_rl k (iv 143) s (iv 144)) ∧ (q_mvP m0 f0 u0 (q_rl k (iv 143) s (iv 144)) (iv 146) m9)) := by
  intro dv cc ss
  have hk0 := hk.r0
  have hE0 := hE
  have hS0 := hS.1
  have hsp := hk.sp hs.1 hs.2
  refine pz_G_mem (iv2 := pz_u1 (pz_u1 iv 142 (iv 142)) 144 (iv 144)) (by exact ((pz_u1_self iv 142).symm).trans (pz_u1_self (pz_u1 iv 142 (iv 142)) 144).symm) ?_
  show pz_G 98 0 [some (.inr (.inl 142)), some (.inl s), none, none, none] [] (pz_Sh L, pz_u1 (pz_u1 iv 142 (iv 142)) 144 (iv 144), dv, cc, ss) (pz_PE (pz_Sh L) (.inl none) (fun iv9 => ∃ (m9 : Nat → Int), iv9 = pz_u1 (pz_u1 iv 142 m9) 144 (q_rl k (iv 143) s (iv 144)) ∧ (q_mvP m0 f0 u0 (q_rl k (iv 143) s (iv 144)) (iv 146) m9)) dv cc ss)
  refine pz_G_of pz_b98_0 ?_
  refine w_loc rfl ?_
  refine w_getR (q := 3) is_142 rf_142_0 ?_
  refine w_getR (q := 10) is_3 rf_3_2 ?_
  refine w_loc rfl ?_
  have hc1 : pz_R (pz_Sh L) 111 [.inr (.inl 10), .inl s] (pz_u1 (pz_u1 iv 142 (iv 142)) 144 (iv 144)) (.inl (some (.inl (k (212 + 4 * s + 1).toNat)))) (pz_u1 (pz_u1 iv 142 (iv 142)) 144 (iv 144)) := s_X9_endOf s (by show q_KR k; exact hk) (by show q_cS k (iv 10) (iv 11) (iv 12) (iv 13) (iv 14); exact hS) (by show 0 ≤ s ∧ s < k 2; omega)
  refine w_call hc1 rfl (pz_cokI is_10 rfl) ?_
  refine w_loc (ls' := [some (.inr (.inl 142)), some (.inl s), some (.inl (k (212 + 4 * s + 1).toNat)), none, none]) (st' := []) rfl ?_
  refine w_pure rfl ?_
  refine w_loc (ls' := [some (.inr (.inl 142)), some (.inl s), some (.inl (k (212 + 4 * s + 1).toNat)), some (.inl 0), none]) (st' := []) rfl ?_
  refine w_nil ?_
  have lp14 : ∀ (dd : Nat) (e : Int) (m : Nat → Int) (f : Nat → Int) (u14_4 : Option pz_V) (hu14_4 : pz_nc u14_4 = true), (k 0 - e).toNat = dd → ∀ (he : 0 ≤ e ∧ e ≤ k 0), ∀ (hf : f = q_fr (q_rlE k (iv 143) s) 0 e (iv 144)), ∀ (hm : q_mvP m0 f0 u0 f (iv 146) m),  pz_G 98 14 [some (.inr (.inl 142)), some (.inl s), some (.inl (k (212 + 4 * s + 1).toNat)), some (.inl e), u14_4] [] (pz_Sh L, pz_u1 (pz_u1 iv 142 m) 144 f, dv, cc, ss) (pz_PE (pz_Sh L) (.inl none) (fun iv9 => ∃ (m9 : Nat → Int), iv9 = pz_u1 (pz_u1 iv 142 m9) 144 (q_rl k (iv 143) s (iv 144)) ∧ (q_mvP m0 f0 u0 (q_rl k (iv 143) s (iv 144)) (iv 146) m9)) dv cc ss) := by
    intro dd14
    induction dd14 using Nat.strongRecOn with
    | _ dd14 ih14 =>
    intro e m f u14_4 hu14_4 hd14 he hf hm
    have hv1 := fun h => hrv (10 * k (212 + 4 * s + 1).toNat + e).toNat h
    refine pz_G_of pz_b98_14 ?_
    refine w_loc rfl ?_
    refine w_loc rfl ?_
    refine w_getR (q := 3) is_142 rf_142_0 ?_
    refine w_getI (v := (iv 3) 0) is_3 (by decide) rfl ?_
    refine w_ige (fun h2 => ?_) (fun h2 => ?_)
    · refine pz_G_of pz_b98_79 ?_
      refine w_vret ?_
      first | exact ⟨pz_u1 (pz_u1 iv 142 m) 144 f, ⟨m, by rw [hf, show e = k 0 by omega]; rfl, by rw [hf, show e = k 0 by omega] at hm; exact hm⟩, lf_v rfl⟩ | (exfalso; omega)
    · refine w_loc rfl ?_
      refine w_loc rfl ?_
      refine w_loc rfl ?_
      have hc3 : pz_R (pz_Sh L) 91 [.inr (.inl 142), .inl (k (212 + 4 * s + 1).toNat), .inl e] (pz_u1 (pz_u1 iv 142 m) 144 f) (.inl (some (.inl ((iv 143) (10 * (k (212 + 4 * s + 1).toNat) + e).toNat)))) (pz_u1 (pz_u1 iv 142 m) 144 f) := s_X8_valueOf (k (212 + 4 * s + 1).toNat) e (by show 0 ≤ (k (212 + 4 * s + 1).toNat) ∧ (k (212 + 4 * s + 1).toNat) ≤ 9; omega) (by show 0 ≤ e ∧ e ≤ 9; omega)
      refine w_call hc3 rfl (pz_cokI is_142 rfl) ?_
      refine w_loc (ls' := [some (.inr (.inl 142)), some (.inl s), some (.inl (k (212 + 4 * s + 1).toNat)), some (.inl e), some (.inl ((iv 143) (10 * (k (212 + 4 * s + 1).toNat) + e).toNat))]) (st' := []) rfl ?_
      refine w_loc rfl ?_
      refine w_loc rfl ?_
      refine w_ieq (fun h4 => ?_) (fun h4 => ?_)
      · refine pz_G_of pz_b98_73 ?_
        refine w_iinc (ls' := [some (.inr (.inl 142)), some (.inl s), some (.inl (k (212 + 4 * s + 1).toNat)), some (.inl (e + 1)), some (.inl ((iv 143) (10 * (k (212 + 4 * s + 1).toNat) + e).toNat))]) rfl rfl rfl (by omega) ?_
        refine w_goto ?_
        exact ih14 _ (by omega) (e + 1) m f (some (.inl ((iv 143) (10 * (k (212 + 4 * s + 1).toNat) + e).toNat))) rfl rfl (by omega) (by rw [q_fr_s (by omega), ← hf]; unfold q_rlE; first | rw [q_if_t (by omega)] | rw [q_if_f (by omega)]) (by first | exact q_mv_v hm | exact hm)
      · refine w_loc rfl ?_
        refine w_zgt (fun h5 => ?_) (fun h5 => ?_)
        · refine pz_G_of pz_b98_73 ?_
          refine w_iinc (ls' := [some (.inr (.inl 142)), some (.inl s), some (.inl (k (212 + 4 * s + 1).toNat)), some (.inl (e + 1)), some (.inl ((iv 143) (10 * (k (212 + 4 * s + 1).toNat) + e).toNat))]) rfl rfl rfl (by omega) ?_
          refine w_goto ?_
          exact ih14 _ (by omega) (e + 1) m f (some (.inl ((iv 143) (10 * (k (212 + 4 * s + 1).toNat) + e).toNat))) rfl rfl (by omega) (by rw [q_fr_s (by omega), ← hf]; unfold q_rlE; first | rw [q_if_t (by omega)] | rw [q_if_f (by omega)]) (by first | exact q_mv_v hm | exact hm)
        · refine w_loc rfl ?_
          refine w_loc rfl ?_
          refine w_getR (q := 3) is_142 rf_142_0 ?_
          refine w_getR (q := 10) is_3 rf_3_2 ?_
          refine w_loc rfl ?_
          have hc6 : pz_R (pz_Sh L) 110 [.inr (.inl 10), .inl s] (pz_u1 (pz_u1 iv 142 m) 144 f) (.inl (some (.inl (k (212 + 4 * s).toNat)))) (pz_u1 (pz_u1 iv 142 m) 144 f) := s_X9_firstOf s (by show q_KR k; exact hk) (by show q_cS k (iv 10) (iv 11) (iv 12) (iv 13) (iv 14); exact hS) (by show 0 ≤ s ∧ s < k 2; omega)
          refine w_call hc6 rfl (pz_cokI is_10 rfl) ?_
          refine w_loc rfl ?_
          refine w_loc rfl ?_
          refine w_getR (q := 3) is_142 rf_142_0 ?_
          refine w_getR (q := 10) is_3 rf_3_2 ?_
          refine w_loc rfl ?_
          have hc7 : pz_R (pz_Sh L) 112 [.inr (.inl 10), .inl s] (pz_u1 (pz_u1 iv 142 m) 144 f) (.inl (some (.inl (k (212 + 4 * s + 2).toNat)))) (pz_u1 (pz_u1 iv 142 m) 144 f) := s_X9_leastOf s (by show q_KR k; exact hk) (by show q_cS k (iv 10) (iv 11) (iv 12) (iv 13) (iv 14); exact hS) (by show 0 ≤ s ∧ s < k 2; omega)
          refine w_call hc7 rfl (pz_cokI is_10 rfl) ?_
          refine w_loc rfl ?_
          refine w_iadd (by omega) ?_
          have hc8 : pz_R (pz_Sh L) 94 [.inr (.inl 142), .inl (k (212 + 4 * s).toNat), .inl e, .inl ((k (212 + 4 * s + 2).toNat) + ((iv 143) (10 * (k (212 + 4 * s + 1).toNat) + e).toNat))] (pz_u1 (pz_u1 iv 142 m) 144 f) (.inl none) (pz_u1 (pz_u1 iv 142 (q_if (((k (212 + 4 * s + 2).toNat) + ((iv 143) (10 * (k (212 + 4 * s + 1).toNat) + e).toNat)) < f (10 * (k (212 + 4 * s).toNat) + e).toNat) (pz_up m 3 1) m)) 144 (q_lw f (10 * (k (212 + 4 * s).toNat) + e) ((k (212 + 4 * s + 2).toNat) + ((iv 143) (10 * (k (212 + 4 * s + 1).toNat) + e).toNat)))) := pz_R_mem (s_X8_findValue (k (212 + 4 * s).toNat) e ((k (212 + 4 * s + 2).toNat) + ((iv 143) (10 * (k (212 + 4 * s + 1).toNat) + e).toNat)) (by show 0 ≤ (k (212 + 4 * s).toNat) ∧ (k (212 + 4 * s).toNat) ≤ 9; omega) (by show 0 ≤ e ∧ e ≤ 9; omega)) (by rw [pz_u1_in (r := 142) (q := 144) (by decide)]; rw [pz_u1_top (r := 142)]; rw [pz_u1_top (r := 144)]; rfl)
          refine w_callv hc8 rfl (pz_cokI is_142 rfl) ?_
          refine w_nil ?_
          refine pz_G_of pz_b98_73 ?_
          refine w_iinc (ls' := [some (.inr (.inl 142)), some (.inl s), some (.inl (k (212 + 4 * s + 1).toNat)), some (.inl (e + 1)), some (.inl ((iv 143) (10 * (k (212 + 4 * s + 1).toNat) + e).toNat))]) rfl rfl rfl (by omega) ?_
          refine w_goto ?_
          exact ih14 _ (by omega) (e + 1) (q_if (((k (212 + 4 * s + 2).toNat) + ((iv 143) (10 * (k (212 + 4 * s + 1).toNat) + e).toNat)) < f (10 * (k (212 + 4 * s).toNat) + e).toNat) (pz_up m 3 1) m) (q_lw f (10 * (k (212 + 4 * s).toNat) + e) ((k (212 + 4 * s + 2).toNat) + ((iv 143) (10 * (k (212 + 4 * s + 1).toNat) + e).toNat))) (some (.inl ((iv 143) (10 * (k (212 + 4 * s + 1).toNat) + e).toNat))) rfl rfl (by omega) (by rw [q_fr_s (by omega), ← hf]; unfold q_rlE; first | rw [q_if_t (by omega)] | rw [q_if_f (by omega)]) (by first | exact q_mv_v hm | exact hm)
  exact lp14 _ 0 (iv 142) (iv 144) (none) rfl rfl (by omega) (by rw [q_fr_0 (by omega)]) (by exact hmv)

theorem s_X8_reduceAcross {L : Nat} {iv : Nat → Nat → Int} (s : Int) {k : Nat → Int} {f0 u0 m0 : Nat → Int} (hk : q_KR k) (hE : q_cE k (iv 3)) (hS : q_cS k (iv 10) (iv 11) (iv 12) (iv 13) (iv 14)) (hru : q_rng 30 (iv 145)) (hmv : q_mvP m0 f0 u0 (iv 144) (iv 146) (iv 142)) (hs : 0 ≤ s ∧ s < k 2) : pz_RE (pz_Sh L) 99 [.inr (.inl 142), .inl s] iv (.inl none) (fun iv9 => ∃ (m9 : Nat → Int), iv9 = pz_u1 (pz_u1 iv 142 m9) 146 (q_ra k (iv 145) s (iv 146)) ∧ (q_mvP m0 f0 u0 (iv 144) (q_ra k (iv 145) s (iv 146)) m9)) := by
  intro dv cc ss
  have hk0 := hk.r0
  have hE0 := hE
  have hS0 := hS.1
  have hsp := hk.sp hs.1 hs.2
  refine pz_G_mem (iv2 := pz_u1 (pz_u1 iv 142 (iv 142)) 146 (iv 146)) (by exact ((pz_u1_self iv 142).symm).trans (pz_u1_self (pz_u1 iv 142 (iv 142)) 146).symm) ?_
  show pz_G 99 0 [some (.inr (.inl 142)), some (.inl s), none, none] [] (pz_Sh L, pz_u1 (pz_u1 iv 142 (iv 142)) 146 (iv 146), dv, cc, ss) (pz_PE (pz_Sh L) (.inl none) (fun iv9 => ∃ (m9 : Nat → Int), iv9 = pz_u1 (pz_u1 iv 142 m9) 146 (q_ra k (iv 145) s (iv 146)) ∧ (q_mvP m0 f0 u0 (iv 144) (q_ra k (iv 145) s (iv 146)) m9)) dv cc ss)
  refine pz_G_of pz_b99_0 ?_
  refine w_pure rfl ?_
  refine w_loc (ls' := [some (.inr (.inl 142)), some (.inl s), some (.inl 0), none]) (st' := []) rfl ?_
  refine w_nil ?_
  have lp2 : ∀ (dd : Nat) (o : Int) (m : Nat → Int) (f : Nat → Int) (u2_3 : Option pz_V) (hu2_3 : pz_nc u2_3 = true), (k 2 - o).toNat = dd → ∀ (ho : 0 ≤ o ∧ o ≤ k 2), ∀ (hf : f = q_fr (q_raE k (iv 145) s) 0 o (iv 146)), ∀ (hm : q_mvP m0 f0 u0 (iv 144) f m),  pz_G 99 2 [some (.inr (.inl 142)), some (.inl s), some (.inl o), u2_3] [] (pz_Sh L, pz_u1 (pz_u1 iv 142 m) 146 f, dv, cc, ss) (pz_PE (pz_Sh L) (.inl none) (fun iv9 => ∃ (m9 : Nat → Int), iv9 = pz_u1 (pz_u1 iv 142 m9) 146 (q_ra k (iv 145) s (iv 146)) ∧ (q_mvP m0 f0 u0 (iv 144) (q_ra k (iv 145) s (iv 146)) m9)) dv cc ss) := by
    intro dd2
    induction dd2 using Nat.strongRecOn with
    | _ dd2 ih2 =>
    intro o m f u2_3 hu2_3 hd2 ho hf hm
    have hv1 := fun h => hru (10 * o + k (212 + 4 * s + 1).toNat).toNat h
    refine pz_G_of pz_b99_2 ?_
    refine w_loc rfl ?_
    refine w_loc rfl ?_
    refine w_getR (q := 3) is_142 rf_142_0 ?_
    refine w_getR (q := 10) is_3 rf_3_2 ?_
    refine w_getI (v := (iv 10) 0) is_10 (by decide) rfl ?_
    refine w_ige (fun h1 => ?_) (fun h1 => ?_)
    · refine pz_G_of pz_b99_77 ?_
      refine w_vret ?_
      first | exact ⟨pz_u1 (pz_u1 iv 142 m) 146 f, ⟨m, by rw [hf, show o = k 2 by omega]; rfl, by rw [hf, show o = k 2 by omega] at hm; exact hm⟩, lf_v rfl⟩ | (exfalso; omega)
    · refine w_loc rfl ?_
      refine w_loc rfl ?_
      refine w_loc rfl ?_
      refine w_getR (q := 3) is_142 rf_142_0 ?_
      refine w_getR (q := 10) is_3 rf_3_2 ?_
      refine w_loc rfl ?_
      have hc2 : pz_R (pz_Sh L) 111 [.inr (.inl 10), .inl s] (pz_u1 (pz_u1 iv 142 m) 146 f) (.inl (some (.inl (k (212 + 4 * s + 1).toNat)))) (pz_u1 (pz_u1 iv 142 m) 146 f) := s_X9_endOf s (by show q_KR k; exact hk) (by show q_cS k (iv 10) (iv 11) (iv 12) (iv 13) (iv 14); exact hS) (by show 0 ≤ s ∧ s < k 2; omega)
      refine w_call hc2 rfl (pz_cokI is_10 rfl) ?_
      have hc3 : pz_R (pz_Sh L) 92 [.inr (.inl 142), .inl o, .inl (k (212 + 4 * s + 1).toNat)] (pz_u1 (pz_u1 iv 142 m) 146 f) (.inl (some (.inl ((iv 145) (10 * o + (k (212 + 4 * s + 1).toNat)).toNat)))) (pz_u1 (pz_u1 iv 142 m) 146 f) := s_X8_upperOf o (k (212 + 4 * s + 1).toNat) (by show 0 ≤ o ∧ o ≤ 2; omega) (by show 0 ≤ (k (212 + 4 * s + 1).toNat) ∧ (k (212 + 4 * s + 1).toNat) ≤ 9; omega)
      refine w_call hc3 rfl (pz_cokI is_142 rfl) ?_
      refine w_loc (ls' := [some (.inr (.inl 142)), some (.inl s), some (.inl o), some (.inl ((iv 145) (10 * o + (k (212 + 4 * s + 1).toNat)).toNat))]) (st' := []) rfl ?_
      refine w_loc rfl ?_
      refine w_loc rfl ?_
      refine w_ieq (fun h4 => ?_) (fun h4 => ?_)
      · refine pz_G_of pz_b99_71 ?_
        refine w_iinc (ls' := [some (.inr (.inl 142)), some (.inl s), some (.inl (o + 1)), some (.inl ((iv 145) (10 * o + (k (212 + 4 * s + 1).toNat)).toNat))]) rfl rfl rfl (by omega) ?_
        refine w_goto ?_
        exact ih2 _ (by omega) (o + 1) m f (some (.inl ((iv 145) (10 * o + (k (212 + 4 * s + 1).toNat)).toNat))) rfl rfl (by omega) (by rw [q_fr_s (by omega), ← hf]; unfold q_raE; first | rw [q_if_t (by omega)] | rw [q_if_f (by omega)]) (by first | exact q_mv_u hm | exact hm)
      · refine w_loc rfl ?_
        refine w_zgt (fun h5 => ?_) (fun h5 => ?_)
        · refine pz_G_of pz_b99_71 ?_
          refine w_iinc (ls' := [some (.inr (.inl 142)), some (.inl s), some (.inl (o + 1)), some (.inl ((iv 145) (10 * o + (k (212 + 4 * s + 1).toNat)).toNat))]) rfl rfl rfl (by omega) ?_
          refine w_goto ?_
          exact ih2 _ (by omega) (o + 1) m f (some (.inl ((iv 145) (10 * o + (k (212 + 4 * s + 1).toNat)).toNat))) rfl rfl (by omega) (by rw [q_fr_s (by omega), ← hf]; unfold q_raE; first | rw [q_if_t (by omega)] | rw [q_if_f (by omega)]) (by first | exact q_mv_u hm | exact hm)
        · refine w_loc rfl ?_
          refine w_loc rfl ?_
          refine w_loc rfl ?_
          refine w_getR (q := 3) is_142 rf_142_0 ?_
          refine w_getR (q := 10) is_3 rf_3_2 ?_
          refine w_loc rfl ?_
          have hc6 : pz_R (pz_Sh L) 110 [.inr (.inl 10), .inl s] (pz_u1 (pz_u1 iv 142 m) 146 f) (.inl (some (.inl (k (212 + 4 * s).toNat)))) (pz_u1 (pz_u1 iv 142 m) 146 f) := s_X9_firstOf s (by show q_KR k; exact hk) (by show q_cS k (iv 10) (iv 11) (iv 12) (iv 13) (iv 14); exact hS) (by show 0 ≤ s ∧ s < k 2; omega)
          refine w_call hc6 rfl (pz_cokI is_10 rfl) ?_
          refine w_loc rfl ?_
          refine w_getR (q := 3) is_142 rf_142_0 ?_
          refine w_getR (q := 10) is_3 rf_3_2 ?_
          refine w_loc rfl ?_
          have hc7 : pz_R (pz_Sh L) 112 [.inr (.inl 10), .inl s] (pz_u1 (pz_u1 iv 142 m) 146 f) (.inl (some (.inl (k (212 + 4 * s + 2).toNat)))) (pz_u1 (pz_u1 iv 142 m) 146 f) := s_X9_leastOf s (by show q_KR k; exact hk) (by show q_cS k (iv 10) (iv 11) (iv 12) (iv 13) (iv 14); exact hS) (by show 0 ≤ s ∧ s < k 2; omega)
          refine w_call hc7 rfl (pz_cokI is_10 rfl) ?_
          refine w_loc rfl ?_
          refine w_iadd (by omega) ?_
          have hc8 : pz_R (pz_Sh L) 95 [.inr (.inl 142), .inl o, .inl (k (212 + 4 * s).toNat), .inl ((k (212 + 4 * s + 2).toNat) + ((iv 145) (10 * o + (k (212 + 4 * s + 1).toNat)).toNat))] (pz_u1 (pz_u1 iv 142 m) 146 f) (.inl none) (pz_u1 (pz_u1 iv 142 (q_if (((k (212 + 4 * s + 2).toNat) + ((iv 145) (10 * o + (k (212 + 4 * s + 1).toNat)).toNat)) < f (10 * o + (k (212 + 4 * s).toNat)).toNat) (pz_up m 3 1) m)) 146 (q_lw f (10 * o + (k (212 + 4 * s).toNat)) ((k (212 + 4 * s + 2).toNat) + ((iv 145) (10 * o + (k (212 + 4 * s + 1).toNat)).toNat)))) := pz_R_mem (s_X8_findUpper o (k (212 + 4 * s).toNat) ((k (212 + 4 * s + 2).toNat) + ((iv 145) (10 * o + (k (212 + 4 * s + 1).toNat)).toNat)) (by show 0 ≤ o ∧ o ≤ 2; omega) (by show 0 ≤ (k (212 + 4 * s).toNat) ∧ (k (212 + 4 * s).toNat) ≤ 9; omega)) (by rw [pz_u1_in (r := 142) (q := 146) (by decide)]; rw [pz_u1_top (r := 142)]; rw [pz_u1_top (r := 146)]; rfl)
          refine w_callv hc8 rfl (pz_cokI is_142 rfl) ?_
          refine w_nil ?_
          refine pz_G_of pz_b99_71 ?_
          refine w_iinc (ls' := [some (.inr (.inl 142)), some (.inl s), some (.inl (o + 1)), some (.inl ((iv 145) (10 * o + (k (212 + 4 * s + 1).toNat)).toNat))]) rfl rfl rfl (by omega) ?_
          refine w_goto ?_
          exact ih2 _ (by omega) (o + 1) (q_if (((k (212 + 4 * s + 2).toNat) + ((iv 145) (10 * o + (k (212 + 4 * s + 1).toNat)).toNat)) < f (10 * o + (k (212 + 4 * s).toNat)).toNat) (pz_up m 3 1) m) (q_lw f (10 * o + (k (212 + 4 * s).toNat)) ((k (212 + 4 * s + 2).toNat) + ((iv 145) (10 * o + (k (212 + 4 * s + 1).toNat)).toNat))) (some (.inl ((iv 145) (10 * o + (k (212 + 4 * s + 1).toNat)).toNat))) rfl rfl (by omega) (by rw [q_fr_s (by omega), ← hf]; unfold q_raE; first | rw [q_if_t (by omega)] | rw [q_if_f (by omega)]) (by first | exact q_mv_u hm | exact hm)
  exact lp2 _ 0 (iv 142) (iv 146) (none) rfl rfl (by omega) (by rw [q_fr_0 (by omega)]) (by exact hmv)

theorem s_X8_freeUppers {L : Nat} {iv : Nat → Nat → Int} (s : Int) {k : Nat → Int} {f0 u0 m0 : Nat → Int} (hk : q_KR k) (hE : q_cE k (iv 3)) (hS : q_cS k (iv 10) (iv 11) (iv 12) (iv 13) (iv 14)) (hru : q_rng 30 (iv 145)) (hmv : q_mvP m0 f0 u0 (iv 144) (iv 146) (iv 142)) (hs : 0 ≤ s ∧ s < k 2) : pz_RE (pz_Sh L) 100 [.inr (.inl 142), .inl s] iv (.inl none) (fun iv9 => ∃ (m9 : Nat → Int), iv9 = pz_u1 (pz_u1 iv 142 m9) 144 (q_fu k (iv 145) s (iv 144)) ∧ (q_mvP m0 f0 u0 (q_fu k (iv 145) s (iv 144)) (iv 146) m9)) := by
  intro dv cc ss
  have hk0 := hk.r0
  have hE0 := hE
  have hS0 := hS.1
  have hsp := hk.sp hs.1 hs.2
  refine pz_G_mem (iv2 := pz_u1 (pz_u1 iv 142 (iv 142)) 144 (iv 144)) (by exact ((pz_u1_self iv 142).symm).trans (pz_u1_self (pz_u1 iv 142 (iv 142)) 144).symm) ?_
  show pz_G 100 0 [some (.inr (.inl 142)), some (.inl s), none, none] [] (pz_Sh L, pz_u1 (pz_u1 iv 142 (iv 142)) 144 (iv 144), dv, cc, ss) (pz_PE (pz_Sh L) (.inl none) (fun iv9 => ∃ (m9 : Nat → Int), iv9 = pz_u1 (pz_u1 iv 142 m9) 144 (q_fu k (iv 145) s (iv 144)) ∧ (q_mvP m0 f0 u0 (q_fu k (iv 145) s (iv 144)) (iv 146) m9)) dv cc ss)
  refine pz_G_of pz_b100_0 ?_
  refine w_pure rfl ?_
  refine w_loc (ls' := [some (.inr (.inl 142)), some (.inl s), some (.inl 0), none]) (st' := []) rfl ?_
  refine w_nil ?_
  have lp2 : ∀ (dd : Nat) (e : Int) (m : Nat → Int) (f : Nat → Int) (u2_3 : Option pz_V) (hu2_3 : pz_nc u2_3 = true), (k 0 - e).toNat = dd → ∀ (he : 0 ≤ e ∧ e ≤ k 0), ∀ (hf : f = q_fr (q_fuE k (iv 145) s) 0 e (iv 144)), ∀ (hm : q_mvP m0 f0 u0 f (iv 146) m),  pz_G 100 2 [some (.inr (.inl 142)), some (.inl s), some (.inl e), u2_3] [] (pz_Sh L, pz_u1 (pz_u1 iv 142 m) 144 f, dv, cc, ss) (pz_PE (pz_Sh L) (.inl none) (fun iv9 => ∃ (m9 : Nat → Int), iv9 = pz_u1 (pz_u1 iv 142 m9) 144 (q_fu k (iv 145) s (iv 144)) ∧ (q_mvP m0 f0 u0 (q_fu k (iv 145) s (iv 144)) (iv 146) m9)) dv cc ss) := by
    intro dd2
    induction dd2 using Nat.strongRecOn with
    | _ dd2 ih2 =>
    intro e m f u2_3 hu2_3 hd2 he hf hm
    have hv1 := fun h => hru (10 * s + e).toNat h
    refine pz_G_of pz_b100_2 ?_
    refine w_loc rfl ?_
    refine w_loc rfl ?_
    refine w_getR (q := 3) is_142 rf_142_0 ?_
    refine w_getI (v := (iv 3) 0) is_3 (by decide) rfl ?_
    refine w_ige (fun h1 => ?_) (fun h1 => ?_)
    · refine pz_G_of pz_b100_65 ?_
      refine w_vret ?_
      first | exact ⟨pz_u1 (pz_u1 iv 142 m) 144 f, ⟨m, by rw [hf, show e = k 0 by omega]; rfl, by rw [hf, show e = k 0 by omega] at hm; exact hm⟩, lf_v rfl⟩ | (exfalso; omega)
    · refine w_loc rfl ?_
      refine w_loc rfl ?_
      refine w_loc rfl ?_
      have hc2 : pz_R (pz_Sh L) 92 [.inr (.inl 142), .inl s, .inl e] (pz_u1 (pz_u1 iv 142 m) 144 f) (.inl (some (.inl ((iv 145) (10 * s + e).toNat)))) (pz_u1 (pz_u1 iv 142 m) 144 f) := s_X8_upperOf s e (by show 0 ≤ s ∧ s ≤ 2; omega) (by show 0 ≤ e ∧ e ≤ 9; omega)
      refine w_call hc2 rfl (pz_cokI is_142 rfl) ?_
      refine w_loc (ls' := [some (.inr (.inl 142)), some (.inl s), some (.inl e), some (.inl ((iv 145) (10 * s + e).toNat))]) (st' := []) rfl ?_
      refine w_loc rfl ?_
      refine w_ldcv (v := 1000000000) rfl ?_
      refine w_ieq (fun h3 => ?_) (fun h3 => ?_)
      · refine pz_G_of pz_b100_59 ?_
        refine w_iinc (ls' := [some (.inr (.inl 142)), some (.inl s), some (.inl (e + 1)), some (.inl ((iv 145) (10 * s + e).toNat))]) rfl rfl rfl (by omega) ?_
        refine w_goto ?_
        exact ih2 _ (by omega) (e + 1) m f (some (.inl ((iv 145) (10 * s + e).toNat))) rfl rfl (by omega) (by rw [q_fr_s (by omega), ← hf]; unfold q_fuE; first | rw [q_if_t (by omega)] | rw [q_if_f (by omega)]) (by first | exact q_mv_v hm | exact hm)
      · refine w_loc rfl ?_
        refine w_loc rfl ?_
        refine w_getR (q := 3) is_142 rf_142_0 ?_
        refine w_getR (q := 10) is_3 rf_3_2 ?_
        refine w_loc rfl ?_
        have hc4 : pz_R (pz_Sh L) 112 [.inr (.inl 10), .inl s] (pz_u1 (pz_u1 iv 142 m) 144 f) (.inl (some (.inl (k (212 + 4 * s + 2).toNat)))) (pz_u1 (pz_u1 iv 142 m) 144 f) := s_X9_leastOf s (by show q_KR k; exact hk) (by show q_cS k (iv 10) (iv 11) (iv 12) (iv 13) (iv 14); exact hS) (by show 0 ≤ s ∧ s < k 2; omega)
        refine w_call hc4 rfl (pz_cokI is_10 rfl) ?_
        refine w_ineg (by omega) ?_
        refine w_ilt (fun h5 => ?_) (fun h5 => ?_)
        · refine pz_G_of pz_b100_59 ?_
          refine w_iinc (ls' := [some (.inr (.inl 142)), some (.inl s), some (.inl (e + 1)), some (.inl ((iv 145) (10 * s + e).toNat))]) rfl rfl rfl (by omega) ?_
          refine w_goto ?_
          exact ih2 _ (by omega) (e + 1) m f (some (.inl ((iv 145) (10 * s + e).toNat))) rfl rfl (by omega) (by rw [q_fr_s (by omega), ← hf]; unfold q_fuE; first | rw [q_if_t (by omega)] | rw [q_if_f (by omega)]) (by first | exact q_mv_v hm | exact hm)
        · refine w_loc rfl ?_
          refine w_loc rfl ?_
          refine w_loc rfl ?_
          refine w_getR (q := 3) is_142 rf_142_0 ?_
          refine w_getR (q := 10) is_3 rf_3_2 ?_
          refine w_loc rfl ?_
          have hc6 : pz_R (pz_Sh L) 110 [.inr (.inl 10), .inl s] (pz_u1 (pz_u1 iv 142 m) 144 f) (.inl (some (.inl (k (212 + 4 * s).toNat)))) (pz_u1 (pz_u1 iv 142 m) 144 f) := s_X9_firstOf s (by show q_KR k; exact hk) (by show q_cS k (iv 10) (iv 11) (iv 12) (iv 13) (iv 14); exact hS) (by show 0 ≤ s ∧ s < k 2; omega)
          refine w_call hc6 rfl (pz_cokI is_10 rfl) ?_
          refine w_loc rfl ?_
          have hc7 : pz_R (pz_Sh L) 94 [.inr (.inl 142), .inl e, .inl (k (212 + 4 * s).toNat), .inl ((iv 145) (10 * s + e).toNat)] (pz_u1 (pz_u1 iv 142 m) 144 f) (.inl none) (pz_u1 (pz_u1 iv 142 (q_if (((iv 145) (10 * s + e).toNat) < f (10 * e + (k (212 + 4 * s).toNat)).toNat) (pz_up m 3 1) m)) 144 (q_lw f (10 * e + (k (212 + 4 * s).toNat)) ((iv 145) (10 * s + e).toNat))) := pz_R_mem (s_X8_findValue e (k (212 + 4 * s).toNat) ((iv 145) (10 * s + e).toNat) (by show 0 ≤ e ∧ e ≤ 9; omega) (by show 0 ≤ (k (212 + 4 * s).toNat) ∧ (k (212 + 4 * s).toNat) ≤ 9; omega)) (by rw [pz_u1_in (r := 142) (q := 144) (by decide)]; rw [pz_u1_top (r := 142)]; rw [pz_u1_top (r := 144)]; rfl)
          refine w_callv hc7 rfl (pz_cokI is_142 rfl) ?_
          refine w_nil ?_
          refine pz_G_of pz_b100_59 ?_
          refine w_iinc (ls' := [some (.inr (.inl 142)), some (.inl s), some (.inl (e + 1)), some (.inl ((iv 145) (10 * s + e).toNat))]) rfl rfl rfl (by omega) ?_
          refine w_goto ?_
          exact ih2 _ (by omega) (e + 1) (q_if (((iv 145) (10 * s + e).toNat) < f (10 * e + (k (212 + 4 * s).toNat)).toNat) (pz_up m 3 1) m) (q_lw f (10 * e + (k (212 + 4 * s).toNat)) ((iv 145) (10 * s + e).toNat)) (some (.inl ((iv 145) (10 * s + e).toNat))) rfl rfl (by omega) (by rw [q_fr_s (by omega), ← hf]; unfold q_fuE; first | rw [q_if_t (by omega)] | rw [q_if_f (by omega)]) (by first | exact q_mv_v hm | exact hm)
  exact lp2 _ 0 (iv 142) (iv 144) (none) rfl rfl (by omega) (by rw [q_fr_0 (by omega)]) (by exact hmv)

theorem s_X8_goRound {L : Nat} {iv : Nat → Nat → Int} {k : Nat → Int} (hk : q_KR k) (hE : q_cE k (iv 3)) (hS : q_cS k (iv 10) (iv 11) (iv 12) (iv 13) (iv 14)) (hC : q_cC k (iv 15) (iv 16)) (hrv : q_rng 100 (iv 143)) (hru : q_rng 30 (iv 145)) : pz_RE (pz_Sh L) 93 [.inr (.inl 142)] iv (.inl none) (fun iv9 => ∃ (m9 : Nat → Int), iv9 = pz_u1 (pz_u1 (pz_u1 (pz_u1 (pz_u1 iv 142 m9) 143 (q_cp 100 (q_rn k (iv 143) (iv 145) (q_cp 100 (iv 143) (iv 144), q_cp 30 (iv 145) (iv 146))).1 (iv 143))) 144 ((q_rn k (iv 143) (iv 145) (q_cp 100 (iv 143) (iv 144), q_cp 30 (iv 145) (iv 146))).1)) 145 (q_cp 30 (q_rn k (iv 143) (iv 145) (q_cp 100 (iv 143) (iv 144), q_cp 30 (iv 145) (iv 146))).2 (iv 145))) 146 ((q_rn k (iv 143) (iv 145) (q_cp 100 (iv 143) (iv 144), q_cp 30 (iv 145) (iv 146))).2) ∧ (q_mvP (iv 142) (q_cp 100 (iv 143) (iv 144)) (q_cp 30 (iv 145) (iv 146)) (q_rn k (iv 143) (iv 145) (q_cp 100 (iv 143) (iv 144), q_cp 30 (iv 145) (iv 146))).1 (q_rn k (iv 143) (iv 145) (q_cp 100 (iv 143) (iv 144), q_cp 30 (iv 145) (iv 146))).2 m9)) := by
  intro dv cc ss
  have hk0 := hk.r0
  have hE0 := hE
  have hS0 := hS.1
  have hC0 := hC.1
  refine pz_G_mem (iv2 := pz_u1 (pz_u1 (pz_u1 (pz_u1 (pz_u1 iv 142 (iv 142)) 143 (iv 143)) 144 (iv 144)) 145 (iv 145)) 146 (iv 146)) (by exact (((((pz_u1_self iv 142).symm).trans (pz_u1_self (pz_u1 iv 142 (iv 142)) 143).symm).trans (pz_u1_self (pz_u1 (pz_u1 iv 142 (iv 142)) 143 (iv 143)) 144).symm).trans (pz_u1_self (pz_u1 (pz_u1 (pz_u1 iv 142 (iv 142)) 143 (iv 143)) 144 (iv 144)) 145).symm).trans (pz_u1_self (pz_u1 (pz_u1 (pz_u1 (pz_u1 iv 142 (iv 142)) 143 (iv 143)) 144 (iv 144)) 145 (iv 145)) 146).symm) ?_
  show pz_G 93 0 [some (.inr (.inl 142)), none] [] (pz_Sh L, pz_u1 (pz_u1 (pz_u1 (pz_u1 (pz_u1 iv 142 (iv 142)) 143 (iv 143)) 144 (iv 144)) 145 (iv 145)) 146 (iv 146), dv, cc, ss) (pz_PE (pz_Sh L) (.inl none) (fun iv9 => ∃ (m9 : Nat → Int), iv9 = pz_u1 (pz_u1 (pz_u1 (pz_u1 (pz_u1 iv 142 m9) 143 (q_cp 100 (q_rn k (iv 143) (iv 145) (q_cp 100 (iv 143) (iv 144), q_cp 30 (iv 145) (iv 146))).1 (iv 143))) 144 ((q_rn k (iv 143) (iv 145) (q_cp 100 (iv 143) (iv 144), q_cp 30 (iv 145) (iv 146))).1)) 145 (q_cp 30 (q_rn k (iv 143) (iv 145) (q_cp 100 (iv 143) (iv 144), q_cp 30 (iv 145) (iv 146))).2 (iv 145))) 146 ((q_rn k (iv 143) (iv 145) (q_cp 100 (iv 143) (iv 144), q_cp 30 (iv 145) (iv 146))).2) ∧ (q_mvP (iv 142) (q_cp 100 (iv 143) (iv 144)) (q_cp 30 (iv 145) (iv 146)) (q_rn k (iv 143) (iv 145) (q_cp 100 (iv 143) (iv 144), q_cp 30 (iv 145) (iv 146))).1 (q_rn k (iv 143) (iv 145) (q_cp 100 (iv 143) (iv 144), q_cp 30 (iv 145) (iv 146))).2 m9)) dv cc ss)
  refine pz_G_of pz_b93_0 ?_
  refine w_loc rfl ?_
  refine w_getR (q := 143) is_142 rf_142_4 ?_
  refine w_pure rfl ?_
  refine w_loc rfl ?_
  refine w_getR (q := 144) is_142 rf_142_5 ?_
  refine w_pure rfl ?_
  refine w_pure rfl ?_
  refine w_cpym (K := 20) (iv2 := pz_u1 (pz_u1 (pz_u1 (pz_u1 (pz_u1 iv 142 (iv 142)) 143 (iv 143)) 144 (q_cp 100 (iv 143) (iv 144))) 145 (iv 145)) 146 (iv 146)) rfl is_143 is_144 (by decide) (by decide) ln_143 ln_144 (by decide) (by decide) (by show pz_u1 (pz_u1 (pz_u1 (pz_u1 (pz_u1 (pz_u1 iv 142 (iv 142)) 143 (iv 143)) 144 (iv 144)) 145 (iv 145)) 146 (iv 146)) 144 (q_cp 100 (iv 143) (iv 144)) = _; rw [pz_u1_in (r := 144) (q := 146) (by decide)]; rw [pz_u1_in (r := 144) (q := 145) (by decide)]; rw [pz_u1_top]) ?_
  refine w_loc rfl ?_
  refine w_getR (q := 145) is_142 rf_142_6 ?_
  refine w_pure rfl ?_
  refine w_loc rfl ?_
  refine w_getR (q := 146) is_142 rf_142_7 ?_
  refine w_pure rfl ?_
  refine w_pure rfl ?_
  refine w_cpym (K := 20) (iv2 := pz_u1 (pz_u1 (pz_u1 (pz_u1 (pz_u1 iv 142 (iv 142)) 143 (iv 143)) 144 (q_cp 100 (iv 143) (iv 144))) 145 (iv 145)) 146 (q_cp 30 (iv 145) (iv 146))) rfl is_145 is_146 (by decide) (by decide) ln_145 ln_146 (by decide) (by decide) (by show pz_u1 (pz_u1 (pz_u1 (pz_u1 (pz_u1 (pz_u1 iv 142 (iv 142)) 143 (iv 143)) 144 (q_cp 100 (iv 143) (iv 144))) 145 (iv 145)) 146 (iv 146)) 146 (q_cp 30 (iv 145) (iv 146)) = _; rw [pz_u1_top]) ?_
  refine w_loc rfl ?_
  refine w_pure rfl ?_
  refine w_putIm (iv2 := pz_u1 (pz_u1 (pz_u1 (pz_u1 (pz_u1 iv 142 (pz_up (iv 142) 3 0)) 143 (iv 143)) 144 (q_cp 100 (iv 143) (iv 144))) 145 (iv 145)) 146 (q_cp 30 (iv 145) (iv 146))) is_142 (pz_fit1 (Or.inl rfl)) (by rw [pz_u2_in (r := 142) (q := 146) (by decide)]; rw [pz_u2_in (r := 142) (q := 145) (by decide)]; rw [pz_u2_in (r := 142) (q := 144) (by decide)]; rw [pz_u2_in (r := 142) (q := 143) (by decide)]; rw [pz_u2_top] <;> rfl) ?_
  refine w_loc rfl ?_
  have hc1 := s_X8_addValues (L := L) (iv := pz_u1 (pz_u1 (pz_u1 (pz_u1 (pz_u1 iv 142 (pz_up (iv 142) 3 0)) 143 (iv 143)) 144 (q_cp 100 (iv 143) (iv 144))) 145 (iv 145)) 146 (q_cp 30 (iv 145) (iv 146))) (by show q_KR k; exact hk) (by show q_cE k (iv 3); exact hE) (by show q_rng 100 (iv 143); exact hrv) (by show q_mvP (iv 142) (q_cp 100 (iv 143) (iv 144)) (q_cp 30 (iv 145) (iv 146)) (q_cp 100 (iv 143) (iv 144)) (q_cp 30 (iv 145) (iv 146)) (pz_up (iv 142) 3 0); first | exact hm | exact hmv | exact q_mv_0)
  refine w_callvE hc1 rfl (pz_cokI is_142 rfl) (fun iv9 h9 => ?_)
  obtain ⟨m9_2, h9e, hmv⟩ := h9
  have h9x : iv9 = pz_u1 (pz_u1 (pz_u1 (pz_u1 (pz_u1 iv 142 m9_2) 143 (iv 143)) 144 (q_av (iv 143) (k 0) (q_cp 100 (iv 143) (iv 144)))) 145 (iv 145)) 146 (q_cp 30 (iv 145) (iv 146)) := h9e.trans (by rw [pz_u1_in (r := 142) (q := 146) (by decide)]; rw [pz_u1_in (r := 142) (q := 145) (by decide)]; rw [pz_u1_in (r := 142) (q := 144) (by decide)]; rw [pz_u1_in (r := 142) (q := 143) (by decide)]; rw [pz_u1_top (r := 142)]; rw [pz_u1_in (r := 144) (q := 146) (by decide)]; rw [pz_u1_in (r := 144) (q := 145) (by decide)]; rw [pz_u1_top (r := 144)] <;> rfl)
  subst h9x
  replace hmv : q_mvP (iv 142) (q_cp 100 (iv 143) (iv 144)) (q_cp 30 (iv 145) (iv 146)) (q_av (iv 143) (k 0) (q_cp 100 (iv 143) (iv 144))) (q_cp 30 (iv 145) (iv 146)) m9_2 := hmv
  refine w_pure rfl ?_
  refine w_loc (ls' := [some (.inr (.inl 142)), some (.inl 0)]) (st' := []) rfl ?_
  refine w_nil ?_
  have lp41 : ∀ (dd : Nat) (s : Int) (m : Nat → Int) (f : Nat → Int) (u : Nat → Int) , (k 2 - s).toNat = dd → ∀ (hs : 0 ≤ s ∧ s ≤ k 2), ∀ (hf : (f, u) = q_fr (q_osS k (iv 143) (iv 145)) 0 s (q_av (iv 143) (k 0) (q_cp 100 (iv 143) (iv 144)), q_cp 30 (iv 145) (iv 146))), ∀ (hm : q_mvP (iv 142) (q_cp 100 (iv 143) (iv 144)) (q_cp 30 (iv 145) (iv 146)) f u m),  pz_G 93 41 [some (.inr (.inl 142)), some (.inl s)] [] (pz_Sh L, pz_u1 (pz_u1 (pz_u1 (pz_u1 (pz_u1 iv 142 m) 143 (iv 143)) 144 f) 145 (iv 145)) 146 u, dv, cc, ss) (pz_PE (pz_Sh L) (.inl none) (fun iv9 => ∃ (m9 : Nat → Int), iv9 = pz_u1 (pz_u1 (pz_u1 (pz_u1 (pz_u1 iv 142 m9) 143 (q_cp 100 (q_rn k (iv 143) (iv 145) (q_cp 100 (iv 143) (iv 144), q_cp 30 (iv 145) (iv 146))).1 (iv 143))) 144 ((q_rn k (iv 143) (iv 145) (q_cp 100 (iv 143) (iv 144), q_cp 30 (iv 145) (iv 146))).1)) 145 (q_cp 30 (q_rn k (iv 143) (iv 145) (q_cp 100 (iv 143) (iv 144), q_cp 30 (iv 145) (iv 146))).2 (iv 145))) 146 ((q_rn k (iv 143) (iv 145) (q_cp 100 (iv 143) (iv 144), q_cp 30 (iv 145) (iv 146))).2) ∧ (q_mvP (iv 142) (q_cp 100 (iv 143) (iv 144)) (q_cp 30 (iv 145) (iv 146)) (q_rn k (iv 143) (iv 145) (q_cp 100 (iv 143) (iv 144), q_cp 30 (iv 145) (iv 146))).1 (q_rn k (iv 143) (iv 145) (q_cp 100 (iv 143) (iv 144), q_cp 30 (iv 145) (iv 146))).2 m9)) dv cc ss) := by
    intro dd41
    induction dd41 using Nat.strongRecOn with
    | _ dd41 ih41 =>
    intro s m f u  hd41 hs hf hm
    refine pz_G_of pz_b93_41 ?_
    refine w_loc rfl ?_
    refine w_loc rfl ?_
    refine w_getR (q := 3) is_142 rf_142_0 ?_
    refine w_getR (q := 10) is_3 rf_3_2 ?_
    refine w_getI (v := (iv 10) 0) is_10 (by decide) rfl ?_
    refine w_ige (fun h3 => ?_) (fun h3 => ?_)
    · have hrn : (f, u) = (q_rn k (iv 143) (iv 145) (q_cp 100 (iv 143) (iv 144), q_cp 30 (iv 145) (iv 146))) := by
        rw [hf, show s = k 2 by omega]; rfl
      have hrn1 : f = (q_rn k (iv 143) (iv 145) (q_cp 100 (iv 143) (iv 144), q_cp 30 (iv 145) (iv 146))).1 := congrArg Prod.fst hrn
      have hrn2 : u = (q_rn k (iv 143) (iv 145) (q_cp 100 (iv 143) (iv 144), q_cp 30 (iv 145) (iv 146))).2 := congrArg Prod.snd hrn
      refine pz_G_of pz_b93_89 ?_
      refine w_loc rfl ?_
      refine w_getR (q := 144) is_142 rf_142_5 ?_
      refine w_pure rfl ?_
      refine w_loc rfl ?_
      refine w_getR (q := 143) is_142 rf_142_4 ?_
      refine w_pure rfl ?_
      refine w_pure rfl ?_
      refine w_cpym (K := 20) (iv2 := pz_u1 (pz_u1 (pz_u1 (pz_u1 (pz_u1 iv 142 m) 143 (q_cp 100 f (iv 143))) 144 f) 145 (iv 145)) 146 u) rfl is_144 is_143 (by decide) (by decide) ln_144 ln_143 (by decide) (by decide) (by show pz_u1 (pz_u1 (pz_u1 (pz_u1 (pz_u1 (pz_u1 iv 142 m) 143 (iv 143)) 144 f) 145 (iv 145)) 146 u) 143 (q_cp 100 f (iv 143)) = _; rw [pz_u1_in (r := 143) (q := 146) (by decide)]; rw [pz_u1_in (r := 143) (q := 145) (by decide)]; rw [pz_u1_in (r := 143) (q := 144) (by decide)]; rw [pz_u1_top]) ?_
      refine w_loc rfl ?_
      refine w_getR (q := 146) is_142 rf_142_7 ?_
      refine w_pure rfl ?_
      refine w_loc rfl ?_
      refine w_getR (q := 145) is_142 rf_142_6 ?_
      refine w_pure rfl ?_
      refine w_pure rfl ?_
      refine w_cpym (K := 20) (iv2 := pz_u1 (pz_u1 (pz_u1 (pz_u1 (pz_u1 iv 142 m) 143 (q_cp 100 f (iv 143))) 144 f) 145 (q_cp 30 u (iv 145))) 146 u) rfl is_146 is_145 (by decide) (by decide) ln_146 ln_145 (by decide) (by decide) (by show pz_u1 (pz_u1 (pz_u1 (pz_u1 (pz_u1 (pz_u1 iv 142 m) 143 (q_cp 100 f (iv 143))) 144 f) 145 (iv 145)) 146 u) 145 (q_cp 30 u (iv 145)) = _; rw [pz_u1_in (r := 145) (q := 146) (by decide)]; rw [pz_u1_top]) ?_
      refine w_vret ?_
      first | exact ⟨pz_u1 (pz_u1 (pz_u1 (pz_u1 (pz_u1 iv 142 m) 143 (q_cp 100 f (iv 143))) 144 f) 145 (q_cp 30 u (iv 145))) 146 u, ⟨m, by rw [hrn1, hrn2], by rw [← hrn1, ← hrn2]; exact hm⟩, lf_v rfl⟩ | (exfalso; omega)
    · refine w_loc rfl ?_
      refine w_loc rfl ?_
      have hc4 : pz_R (pz_Sh L) 90 [.inr (.inl 142), .inl s] (pz_u1 (pz_u1 (pz_u1 (pz_u1 (pz_u1 iv 142 m) 143 (iv 143)) 144 f) 145 (iv 145)) 146 u) (.inl (some (.inl (pz_bi (¬ q_sta k (k (212 + 4 * s + 1).toNat)))))) (pz_u1 (pz_u1 (pz_u1 (pz_u1 (pz_u1 iv 142 m) 143 (iv 143)) 144 f) 145 (iv 145)) 146 u) := s_X8_isOpen s (by show q_KR k; exact hk) (by show q_cS k (iv 10) (iv 11) (iv 12) (iv 13) (iv 14); exact hS) (by show q_cC k (iv 15) (iv 16); exact hC) (by show 0 ≤ s ∧ s < k 2; omega)
      refine w_call hc4 rfl (pz_cokI is_142 rfl) ?_
      refine w_beq (fun h5 => ?_) (fun h5 => ?_)
      · refine pz_G_of pz_b93_83 ?_
        refine w_iinc (ls' := [some (.inr (.inl 142)), some (.inl (s + 1))]) rfl rfl rfl (by omega) ?_
        refine w_goto ?_
        exact ih41 _ (by omega) (s + 1) m f u  rfl (by omega) (by rw [q_fr_s (by omega), ← hf]; unfold q_osS; first | rw [q_if_t (Classical.not_not.mp (by assumption))] | rw [q_if_f (by assumption)]) (by first | exact hmv | exact hm)
      · refine w_loc rfl ?_
        refine w_loc rfl ?_
        have hc6 := s_X8_addToUppers (L := L) (iv := pz_u1 (pz_u1 (pz_u1 (pz_u1 (pz_u1 iv 142 m) 143 (iv 143)) 144 f) 145 (iv 145)) 146 u) s (by show q_KR k; exact hk) (by show q_cE k (iv 3); exact hE) (by show q_rng 100 (iv 143); exact hrv) (by show q_rng 30 (iv 145); exact hru) (by show q_mvP (iv 142) (q_cp 100 (iv 143) (iv 144)) (q_cp 30 (iv 145) (iv 146)) f u m; first | exact hm | exact hmv | exact q_mv_0) (by show 0 ≤ s ∧ s < k 2; omega)
        refine w_callvE hc6 rfl (pz_cokI is_142 rfl) (fun iv9 h9 => ?_)
        obtain ⟨m9_7, h9e, hmv⟩ := h9
        have h9x : iv9 = pz_u1 (pz_u1 (pz_u1 (pz_u1 (pz_u1 iv 142 m9_7) 143 (iv 143)) 144 f) 145 (iv 145)) 146 (q_uu (iv 143) (iv 145) (k 0) s u) := h9e.trans (by rw [pz_u1_in (r := 142) (q := 146) (by decide)]; rw [pz_u1_in (r := 142) (q := 145) (by decide)]; rw [pz_u1_in (r := 142) (q := 144) (by decide)]; rw [pz_u1_in (r := 142) (q := 143) (by decide)]; rw [pz_u1_top (r := 142)]; rw [pz_u1_top (r := 146)] <;> rfl)
        subst h9x
        replace hmv : q_mvP (iv 142) (q_cp 100 (iv 143) (iv 144)) (q_cp 30 (iv 145) (iv 146)) f (q_uu (iv 143) (iv 145) (k 0) s u) m9_7 := hmv
        refine w_loc rfl ?_
        refine w_loc rfl ?_
        have hc8 := s_X8_reduceLower (L := L) (iv := pz_u1 (pz_u1 (pz_u1 (pz_u1 (pz_u1 iv 142 m9_7) 143 (iv 143)) 144 f) 145 (iv 145)) 146 (q_uu (iv 143) (iv 145) (k 0) s u)) s (by show q_KR k; exact hk) (by show q_cE k (iv 3); exact hE) (by show q_cS k (iv 10) (iv 11) (iv 12) (iv 13) (iv 14); exact hS) (by show q_rng 100 (iv 143); exact hrv) (by show q_mvP (iv 142) (q_cp 100 (iv 143) (iv 144)) (q_cp 30 (iv 145) (iv 146)) f (q_uu (iv 143) (iv 145) (k 0) s u) m9_7; first | exact hm | exact hmv | exact q_mv_0) (by show 0 ≤ s ∧ s < k 2; omega)
        refine w_callvE hc8 rfl (pz_cokI is_142 rfl) (fun iv9 h9 => ?_)
        obtain ⟨m9_9, h9e, hmv⟩ := h9
        have h9x : iv9 = pz_u1 (pz_u1 (pz_u1 (pz_u1 (pz_u1 iv 142 m9_9) 143 (iv 143)) 144 (q_rl k (iv 143) s f)) 145 (iv 145)) 146 (q_uu (iv 143) (iv 145) (k 0) s u) := h9e.trans (by rw [pz_u1_in (r := 142) (q := 146) (by decide)]; rw [pz_u1_in (r := 142) (q := 145) (by decide)]; rw [pz_u1_in (r := 142) (q := 144) (by decide)]; rw [pz_u1_in (r := 142) (q := 143) (by decide)]; rw [pz_u1_top (r := 142)]; rw [pz_u1_in (r := 144) (q := 146) (by decide)]; rw [pz_u1_in (r := 144) (q := 145) (by decide)]; rw [pz_u1_top (r := 144)] <;> rfl)
        subst h9x
        replace hmv : q_mvP (iv 142) (q_cp 100 (iv 143) (iv 144)) (q_cp 30 (iv 145) (iv 146)) (q_rl k (iv 143) s f) (q_uu (iv 143) (iv 145) (k 0) s u) m9_9 := hmv
        refine w_loc rfl ?_
        refine w_loc rfl ?_
        have hc10 := s_X8_reduceAcross (L := L) (iv := pz_u1 (pz_u1 (pz_u1 (pz_u1 (pz_u1 iv 142 m9_9) 143 (iv 143)) 144 (q_rl k (iv 143) s f)) 145 (iv 145)) 146 (q_uu (iv 143) (iv 145) (k 0) s u)) s (by show q_KR k; exact hk) (by show q_cE k (iv 3); exact hE) (by show q_cS k (iv 10) (iv 11) (iv 12) (iv 13) (iv 14); exact hS) (by show q_rng 30 (iv 145); exact hru) (by show q_mvP (iv 142) (q_cp 100 (iv 143) (iv 144)) (q_cp 30 (iv 145) (iv 146)) (q_rl k (iv 143) s f) (q_uu (iv 143) (iv 145) (k 0) s u) m9_9; first | exact hm | exact hmv | exact q_mv_0) (by show 0 ≤ s ∧ s < k 2; omega)
        refine w_callvE hc10 rfl (pz_cokI is_142 rfl) (fun iv9 h9 => ?_)
        obtain ⟨m9_11, h9e, hmv⟩ := h9
        have h9x : iv9 = pz_u1 (pz_u1 (pz_u1 (pz_u1 (pz_u1 iv 142 m9_11) 143 (iv 143)) 144 (q_rl k (iv 143) s f)) 145 (iv 145)) 146 (q_ra k (iv 145) s (q_uu (iv 143) (iv 145) (k 0) s u)) := h9e.trans (by rw [pz_u1_in (r := 142) (q := 146) (by decide)]; rw [pz_u1_in (r := 142) (q := 145) (by decide)]; rw [pz_u1_in (r := 142) (q := 144) (by decide)]; rw [pz_u1_in (r := 142) (q := 143) (by decide)]; rw [pz_u1_top (r := 142)]; rw [pz_u1_top (r := 146)] <;> rfl)
        subst h9x
        replace hmv : q_mvP (iv 142) (q_cp 100 (iv 143) (iv 144)) (q_cp 30 (iv 145) (iv 146)) (q_rl k (iv 143) s f) (q_ra k (iv 145) s (q_uu (iv 143) (iv 145) (k 0) s u)) m9_11 := hmv
        refine w_loc rfl ?_
        refine w_loc rfl ?_
        have hc12 := s_X8_freeUppers (L := L) (iv := pz_u1 (pz_u1 (pz_u1 (pz_u1 (pz_u1 iv 142 m9_11) 143 (iv 143)) 144 (q_rl k (iv 143) s f)) 145 (iv 145)) 146 (q_ra k (iv 145) s (q_uu (iv 143) (iv 145) (k 0) s u))) s (by show q_KR k; exact hk) (by show q_cE k (iv 3); exact hE) (by show q_cS k (iv 10) (iv 11) (iv 12) (iv 13) (iv 14); exact hS) (by show q_rng 30 (iv 145); exact hru) (by show q_mvP (iv 142) (q_cp 100 (iv 143) (iv 144)) (q_cp 30 (iv 145) (iv 146)) (q_rl k (iv 143) s f) (q_ra k (iv 145) s (q_uu (iv 143) (iv 145) (k 0) s u)) m9_11; first | exact hm | exact hmv | exact q_mv_0) (by show 0 ≤ s ∧ s < k 2; omega)
        refine w_callvE hc12 rfl (pz_cokI is_142 rfl) (fun iv9 h9 => ?_)
        obtain ⟨m9_13, h9e, hmv⟩ := h9
        have h9x : iv9 = pz_u1 (pz_u1 (pz_u1 (pz_u1 (pz_u1 iv 142 m9_13) 143 (iv 143)) 144 (q_fu k (iv 145) s (q_rl k (iv 143) s f))) 145 (iv 145)) 146 (q_ra k (iv 145) s (q_uu (iv 143) (iv 145) (k 0) s u)) := h9e.trans (by rw [pz_u1_in (r := 142) (q := 146) (by decide)]; rw [pz_u1_in (r := 142) (q := 145) (by decide)]; rw [pz_u1_in (r := 142) (q := 144) (by decide)]; rw [pz_u1_in (r := 142) (q := 143) (by decide)]; rw [pz_u1_top (r := 142)]; rw [pz_u1_in (r := 144) (q := 146) (by decide)]; rw [pz_u1_in (r := 144) (q := 145) (by decide)]; rw [pz_u1_top (r := 144)] <;> rfl)
        subst h9x
        replace hmv : q_mvP (iv 142) (q_cp 100 (iv 143) (iv 144)) (q_cp 30 (iv 145) (iv 146)) (q_fu k (iv 145) s (q_rl k (iv 143) s f)) (q_ra k (iv 145) s (q_uu (iv 143) (iv 145) (k 0) s u)) m9_13 := hmv
        refine w_nil ?_
        refine pz_G_of pz_b93_83 ?_
        refine w_iinc (ls' := [some (.inr (.inl 142)), some (.inl (s + 1))]) rfl rfl rfl (by omega) ?_
        refine w_goto ?_
        exact ih41 _ (by omega) (s + 1) m9_13 (q_fu k (iv 145) s (q_rl k (iv 143) s f)) (q_ra k (iv 145) s (q_uu (iv 143) (iv 145) (k 0) s u))  rfl (by omega) (by rw [q_fr_s (by omega), ← hf]; unfold q_osS; first | rw [q_if_t (Classical.not_not.mp (by assumption))] | rw [q_if_f (by assumption)]) (by first | exact hmv | exact hm)
  exact lp41 _ 0 m9_2 (q_av (iv 143) (k 0) (q_cp 100 (iv 143) (iv 144))) (q_cp 30 (iv 145) (iv 146))  rfl (by omega) (by rw [q_fr_0 (by omega)]) (by exact hmv)

theorem s_X8_hasWayBelowZero {L : Nat} {iv : Nat → Nat → Int} {k : Nat → Int} (hk : q_KR k) (hE : q_cE k (iv 3)) (hS : q_cS k (iv 10) (iv 11) (iv 12) (iv 13) (iv 14)) (hcz : q_cw (k 0) (q_cp 100 (q_wz k (iv 143) (iv 145) (iv 148)) (iv 149))) : pz_RE (pz_Sh L) 101 [.inr (.inl 142)] iv (.inl (some (.inl (pz_bi (¬ q_snd (k 0) (q_wz k (iv 143) (iv 145) (iv 148)) (iv 149)))))) (fun iv9 => ∃ (n9 : Nat → Int) (w9 : Nat → Int) (d9 : Nat → Int), iv9 = pz_u1 (pz_u1 (pz_u1 iv 147 n9) 148 w9) 149 d9) := by
  intro dv cc ss
  have hk0 := hk.r0
  have hE0 := hE
  have hS0 := hS.1
  refine pz_G_mem (iv2 := pz_u1 (pz_u1 (pz_u1 iv 147 (iv 147)) 148 (iv 148)) 149 (iv 149)) (by exact (((pz_u1_self iv 147).symm).trans (pz_u1_self (pz_u1 iv 147 (iv 147)) 148).symm).trans (pz_u1_self (pz_u1 (pz_u1 iv 147 (iv 147)) 148 (iv 148)) 149).symm) ?_
  show pz_G 101 0 [some (.inr (.inl 142)), none, none] [] (pz_Sh L, pz_u1 (pz_u1 (pz_u1 iv 147 (iv 147)) 148 (iv 148)) 149 (iv 149), dv, cc, ss) (pz_PE (pz_Sh L) (.inl (some (.inl (pz_bi (¬ q_snd (k 0) (q_wz k (iv 143) (iv 145) (iv 148)) (iv 149)))))) (fun iv9 => ∃ (n9 : Nat → Int) (w9 : Nat → Int) (d9 : Nat → Int), iv9 = pz_u1 (pz_u1 (pz_u1 iv 147 n9) 148 w9) 149 d9) dv cc ss)
  refine pz_G_of pz_b101_0 ?_
  refine w_loc rfl ?_
  refine w_getR (q := 147) is_142 rf_142_8 ?_
  refine w_loc rfl ?_
  refine w_getR (q := 3) is_142 rf_142_0 ?_
  refine w_getI (v := (iv 3) 0) is_3 (by decide) rfl ?_
  have hc1 : pz_R (pz_Sh L) 53 [.inr (.inl 147), .inl ((iv 3) 0)] (pz_u1 (pz_u1 (pz_u1 iv 147 (iv 147)) 148 (iv 148)) 149 (iv 149)) (.inl none) (pz_u1 (pz_u1 (pz_u1 iv 147 (pz_up (iv 147) 0 ((iv 3) 0))) 148 (q_ncl ((iv 3) 0) (iv 148))) 149 (iv 149)) := pz_R_mem (s_X5_clear_147 ((iv 3) 0) (by show 1 ≤ ((iv 3) 0) ∧ ((iv 3) 0) ≤ 10; omega)) (by rw [pz_u1_in (r := 147) (q := 149) (by decide)]; rw [pz_u1_in (r := 147) (q := 148) (by decide)]; rw [pz_u1_top (r := 147)]; rw [pz_u1_in (r := 148) (q := 149) (by decide)]; rw [pz_u1_top (r := 148)]; rfl)
  refine w_callv hc1 rfl (pz_cokI is_147 rfl) ?_
  refine w_pure rfl ?_
  refine w_loc (ls' := [some (.inr (.inl 142)), some (.inl 0), none]) (st' := []) rfl ?_
  refine w_nil ?_
  have lp16 : ∀ (dd : Nat) (i : Int) (f : Nat → Int) (u16_2 : Option pz_V) (hu16_2 : pz_nc u16_2 = true), (k 0 - i).toNat = dd → ∀ (hi : 0 ≤ i ∧ i ≤ k 0), ∀ (hf : f = q_fr (q_wzI k (iv 143) (iv 145)) 0 i (q_ncl (k 0) (iv 148))),  pz_G 101 16 [some (.inr (.inl 142)), some (.inl i), u16_2] [] (pz_Sh L, pz_u1 (pz_u1 (pz_u1 iv 147 (pz_up (iv 147) 0 ((iv 3) 0))) 148 f) 149 (iv 149), dv, cc, ss) (pz_PE (pz_Sh L) (.inl (some (.inl (pz_bi (¬ q_snd (k 0) (q_wz k (iv 143) (iv 145) (iv 148)) (iv 149)))))) (fun iv9 => ∃ (n9 : Nat → Int) (w9 : Nat → Int) (d9 : Nat → Int), iv9 = pz_u1 (pz_u1 (pz_u1 iv 147 n9) 148 w9) 149 d9) dv cc ss) := by
    intro dd16
    induction dd16 using Nat.strongRecOn with
    | _ dd16 ih16 =>
    intro i f u16_2 hu16_2 hd16 hi hf
    refine pz_G_of pz_b101_16 ?_
    refine w_loc rfl ?_
    refine w_loc rfl ?_
    refine w_getR (q := 3) is_142 rf_142_0 ?_
    refine w_getI (v := (iv 3) 0) is_3 (by decide) rfl ?_
    refine w_ige (fun h2 => ?_) (fun h2 => ?_)
    · have hw9 : q_wz k (iv 143) (iv 145) (iv 148) = f := by
        rw [hf, show i = k 0 by omega]; rfl
      have hE9 : iv 3 0 = k 0 := hE.1
      refine pz_G_of pz_b101_114 ?_
      refine w_loc rfl ?_
      refine w_getR (q := 147) is_142 rf_142_8 ?_
      have hc3 : pz_R (pz_Sh L) 56 [.inr (.inl 147)] (pz_u1 (pz_u1 (pz_u1 iv 147 (pz_up (iv 147) 0 ((iv 3) 0))) 148 f) 149 (iv 149)) (.inl none) (pz_u1 (pz_u1 (pz_u1 iv 147 (pz_up (pz_up (iv 147) 0 ((iv 3) 0)) 1 (pz_bi (q_okc (k 0) (q_cI (k 0) (q_cz (k 0) (q_cp 100 f (iv 149))) (q_cp 100 f (iv 149))))))) 148 f) 149 (q_cI (k 0) (q_cz (k 0) (q_cp 100 f (iv 149))) (q_cp 100 f (iv 149)))) := pz_R_mem (s_X5_close_147 (by show (pz_up (iv 147) 0 ((iv 3) 0)) 0 = (k 0) ∧ 1 ≤ (k 0) ∧ (k 0) ≤ 10; exact ⟨hE.1, by omega, by omega⟩) (by show q_cw (k 0) (q_cp 100 f (iv 149)); rw [← hw9]; exact hcz)) (by rw [pz_u1_in (r := 147) (q := 149) (by decide)]; rw [pz_u1_in (r := 147) (q := 148) (by decide)]; rw [pz_u1_top (r := 147)]; rw [pz_u1_top (r := 149)]; rfl)
      refine w_callv hc3 rfl (pz_cokI is_147 rfl) ?_
      refine w_loc rfl ?_
      refine w_getR (q := 147) is_142 rf_142_8 ?_
      refine w_getI (v := pz_bi (q_okc (k 0) (q_cI (k 0) (q_cz (k 0) (q_cp 100 f (iv 149))) (q_cp 100 f (iv 149))))) is_147 (by decide) rfl ?_
      refine w_bne (fun h4 => ?_) (fun h4 => ?_)
      · refine pz_G_of pz_b101_135 ?_
        refine w_pure rfl ?_
        refine w_nil ?_
        refine pz_G_of pz_b101_136 ?_
        refine w_ret (pz_rok1 (Or.inl rfl)) ?_
        exact ⟨pz_u1 (pz_u1 (pz_u1 iv 147 (pz_up (pz_up (iv 147) 0 ((iv 3) 0)) 1 (pz_bi (q_okc (k 0) (q_cI (k 0) (q_cz (k 0) (q_cp 100 f (iv 149))) (q_cp 100 f (iv 149))))))) 148 f) 149 (q_cI (k 0) (q_cz (k 0) (q_cp 100 f (iv 149))) (q_cp 100 f (iv 149))), ⟨(pz_up (pz_up (iv 147) 0 ((iv 3) 0)) 1 (pz_bi (q_okc (k 0) (q_cI (k 0) (q_cz (k 0) (q_cp 100 f (iv 149))) (q_cp 100 f (iv 149)))))), f, (q_cI (k 0) (q_cz (k 0) (q_cp 100 f (iv 149))) (q_cp 100 f (iv 149))), by rfl⟩, lf_i (by rw [hw9]; first | exact pz_bi_t (fun q => absurd q (by assumption)) | exact pz_bi_f (fun q => q (by assumption))) rfl⟩
      · refine w_pure rfl ?_
        refine w_goto ?_
        refine pz_G_of pz_b101_136 ?_
        refine w_ret (pz_rok1 (Or.inr rfl)) ?_
        exact ⟨pz_u1 (pz_u1 (pz_u1 iv 147 (pz_up (pz_up (iv 147) 0 ((iv 3) 0)) 1 (pz_bi (q_okc (k 0) (q_cI (k 0) (q_cz (k 0) (q_cp 100 f (iv 149))) (q_cp 100 f (iv 149))))))) 148 f) 149 (q_cI (k 0) (q_cz (k 0) (q_cp 100 f (iv 149))) (q_cp 100 f (iv 149))), ⟨(pz_up (pz_up (iv 147) 0 ((iv 3) 0)) 1 (pz_bi (q_okc (k 0) (q_cI (k 0) (q_cz (k 0) (q_cp 100 f (iv 149))) (q_cp 100 f (iv 149)))))), f, (q_cI (k 0) (q_cz (k 0) (q_cp 100 f (iv 149))) (q_cp 100 f (iv 149))), by rfl⟩, lf_i (by rw [hw9]; first | exact pz_bi_t (fun q => absurd q (by assumption)) | exact pz_bi_f (fun q => q (by assumption))) rfl⟩
    · refine w_pure rfl ?_
      refine w_loc (ls' := [some (.inr (.inl 142)), some (.inl i), some (.inl 0)]) (st' := []) rfl ?_
      refine w_nil ?_
      have lp29 : ∀ (dd : Nat) (j : Int) (f2 : Nat → Int) , (k 0 - j).toNat = dd → ∀ (hj : 0 ≤ j ∧ j ≤ k 0), ∀ (hf2 : f2 = q_fr (q_wzT (iv 143) i) 0 j f),  pz_G 101 29 [some (.inr (.inl 142)), some (.inl i), some (.inl j)] [] (pz_Sh L, pz_u1 (pz_u1 (pz_u1 iv 147 (pz_up (iv 147) 0 ((iv 3) 0))) 148 f2) 149 (iv 149), dv, cc, ss) (pz_PE (pz_Sh L) (.inl (some (.inl (pz_bi (¬ q_snd (k 0) (q_wz k (iv 143) (iv 145) (iv 148)) (iv 149)))))) (fun iv9 => ∃ (n9 : Nat → Int) (w9 : Nat → Int) (d9 : Nat → Int), iv9 = pz_u1 (pz_u1 (pz_u1 iv 147 n9) 148 w9) 149 d9) dv cc ss) := by
        intro dd29
        induction dd29 using Nat.strongRecOn with
        | _ dd29 ih29 =>
        intro j f2  hd29 hj hf2
        refine pz_G_of pz_b101_29 ?_
        refine w_loc rfl ?_
        refine w_loc rfl ?_
        refine w_getR (q := 3) is_142 rf_142_0 ?_
        refine w_getI (v := (iv 3) 0) is_3 (by decide) rfl ?_
        refine w_ige (fun h5 => ?_) (fun h5 => ?_)
        · refine pz_G_of pz_b101_61 ?_
          refine w_pure rfl ?_
          refine w_loc (ls' := [some (.inr (.inl 142)), some (.inl i), some (.inl 0)]) (st' := []) rfl ?_
          refine w_nil ?_
          have lp63 : ∀ (dd : Nat) (s : Int) (f3 : Nat → Int) , (k 2 - s).toNat = dd → ∀ (hs : 0 ≤ s ∧ s ≤ k 2), ∀ (hf3 : f3 = q_fr (q_wzS k (iv 145) i) 0 s f2),  pz_G 101 63 [some (.inr (.inl 142)), some (.inl i), some (.inl s)] [] (pz_Sh L, pz_u1 (pz_u1 (pz_u1 iv 147 (pz_up (iv 147) 0 ((iv 3) 0))) 148 f3) 149 (iv 149), dv, cc, ss) (pz_PE (pz_Sh L) (.inl (some (.inl (pz_bi (¬ q_snd (k 0) (q_wz k (iv 143) (iv 145) (iv 148)) (iv 149)))))) (fun iv9 => ∃ (n9 : Nat → Int) (w9 : Nat → Int) (d9 : Nat → Int), iv9 = pz_u1 (pz_u1 (pz_u1 iv 147 n9) 148 w9) 149 d9) dv cc ss) := by
            intro dd63
            induction dd63 using Nat.strongRecOn with
            | _ dd63 ih63 =>
            intro s f3  hd63 hs hf3
            have hsp := fun h => hk.sp hs.1 h
            refine pz_G_of pz_b101_63 ?_
            refine w_loc rfl ?_
            refine w_loc rfl ?_
            refine w_getR (q := 3) is_142 rf_142_0 ?_
            refine w_getR (q := 10) is_3 rf_3_2 ?_
            refine w_getI (v := (iv 10) 0) is_10 (by decide) rfl ?_
            refine w_ige (fun h6 => ?_) (fun h6 => ?_)
            · refine pz_G_of pz_b101_108 ?_
              refine w_iinc (ls' := [some (.inr (.inl 142)), some (.inl (i + 1)), some (.inl s)]) rfl rfl rfl (by omega) ?_
              refine w_goto ?_
              exact ih16 _ (by omega) (i + 1) f3 (some (.inl s)) rfl rfl (by omega) (by rw [q_fr_s (by omega), ← hf]; unfold q_wzI; rw [hf3, show s = k 2 by omega, hf2, show j = k 0 by omega])
            · refine w_loc rfl ?_
              refine w_getR (q := 147) is_142 rf_142_8 ?_
              refine w_loc rfl ?_
              refine w_loc rfl ?_
              refine w_getR (q := 3) is_142 rf_142_0 ?_
              refine w_getR (q := 10) is_3 rf_3_2 ?_
              refine w_loc rfl ?_
              have hc7 : pz_R (pz_Sh L) 110 [.inr (.inl 10), .inl s] (pz_u1 (pz_u1 (pz_u1 iv 147 (pz_up (iv 147) 0 ((iv 3) 0))) 148 f3) 149 (iv 149)) (.inl (some (.inl (k (212 + 4 * s).toNat)))) (pz_u1 (pz_u1 (pz_u1 iv 147 (pz_up (iv 147) 0 ((iv 3) 0))) 148 f3) 149 (iv 149)) := s_X9_firstOf s (by show q_KR k; exact hk) (by show q_cS k (iv 10) (iv 11) (iv 12) (iv 13) (iv 14); exact hS) (by show 0 ≤ s ∧ s < k 2; omega)
              refine w_call hc7 rfl (pz_cokI is_10 rfl) ?_
              refine w_loc rfl ?_
              refine w_loc rfl ?_
              refine w_loc rfl ?_
              have hc8 : pz_R (pz_Sh L) 92 [.inr (.inl 142), .inl s, .inl i] (pz_u1 (pz_u1 (pz_u1 iv 147 (pz_up (iv 147) 0 ((iv 3) 0))) 148 f3) 149 (iv 149)) (.inl (some (.inl ((iv 145) (10 * s + i).toNat)))) (pz_u1 (pz_u1 (pz_u1 iv 147 (pz_up (iv 147) 0 ((iv 3) 0))) 148 f3) 149 (iv 149)) := s_X8_upperOf s i (by show 0 ≤ s ∧ s ≤ 2; omega) (by show 0 ≤ i ∧ i ≤ 9; omega)
              refine w_call hc8 rfl (pz_cokI is_142 rfl) ?_
              have hc9 : pz_R (pz_Sh L) 54 [.inr (.inl 147), .inl i, .inl (k (212 + 4 * s).toNat), .inl ((iv 145) (10 * s + i).toNat)] (pz_u1 (pz_u1 (pz_u1 iv 147 (pz_up (iv 147) 0 ((iv 3) 0))) 148 f3) 149 (iv 149)) (.inl none) (pz_u1 (pz_u1 (pz_u1 iv 147 (pz_up (iv 147) 0 ((iv 3) 0))) 148 (q_eg f3 i (k (212 + 4 * s).toNat) ((iv 145) (10 * s + i).toNat))) 149 (iv 149)) := pz_R_mem (s_X5_addEdge_147 i (k (212 + 4 * s).toNat) ((iv 145) (10 * s + i).toNat) (by show 0 ≤ i ∧ i ≤ 9; omega) (by show 0 ≤ (k (212 + 4 * s).toNat) ∧ (k (212 + 4 * s).toNat) ≤ 9; omega)) (by rw [pz_u1_in (r := 148) (q := 149) (by decide)]; rw [pz_u1_top (r := 148)]; rfl)
              refine w_callv hc9 rfl (pz_cokI is_147 rfl) ?_
              refine w_iinc (ls' := [some (.inr (.inl 142)), some (.inl i), some (.inl (s + 1))]) rfl rfl rfl (by omega) ?_
              refine w_goto ?_
              exact ih63 _ (by omega) (s + 1) (q_eg f3 i (k (212 + 4 * s).toNat) ((iv 145) (10 * s + i).toNat))  rfl (by omega) (by rw [q_fr_s (by omega), ← hf3]; rfl)
          exact lp63 _ 0 f2  rfl (by omega) (by rw [q_fr_0 (by omega)])
        · refine w_loc rfl ?_
          refine w_getR (q := 147) is_142 rf_142_8 ?_
          refine w_loc rfl ?_
          refine w_loc rfl ?_
          refine w_loc rfl ?_
          refine w_loc rfl ?_
          refine w_loc rfl ?_
          have hc10 : pz_R (pz_Sh L) 91 [.inr (.inl 142), .inl i, .inl j] (pz_u1 (pz_u1 (pz_u1 iv 147 (pz_up (iv 147) 0 ((iv 3) 0))) 148 f2) 149 (iv 149)) (.inl (some (.inl ((iv 143) (10 * i + j).toNat)))) (pz_u1 (pz_u1 (pz_u1 iv 147 (pz_up (iv 147) 0 ((iv 3) 0))) 148 f2) 149 (iv 149)) := s_X8_valueOf i j (by show 0 ≤ i ∧ i ≤ 9; omega) (by show 0 ≤ j ∧ j ≤ 9; omega)
          refine w_call hc10 rfl (pz_cokI is_142 rfl) ?_
          have hc11 : pz_R (pz_Sh L) 54 [.inr (.inl 147), .inl i, .inl j, .inl ((iv 143) (10 * i + j).toNat)] (pz_u1 (pz_u1 (pz_u1 iv 147 (pz_up (iv 147) 0 ((iv 3) 0))) 148 f2) 149 (iv 149)) (.inl none) (pz_u1 (pz_u1 (pz_u1 iv 147 (pz_up (iv 147) 0 ((iv 3) 0))) 148 (q_eg f2 i j ((iv 143) (10 * i + j).toNat))) 149 (iv 149)) := pz_R_mem (s_X5_addEdge_147 i j ((iv 143) (10 * i + j).toNat) (by show 0 ≤ i ∧ i ≤ 9; omega) (by show 0 ≤ j ∧ j ≤ 9; omega)) (by rw [pz_u1_in (r := 148) (q := 149) (by decide)]; rw [pz_u1_top (r := 148)]; rfl)
          refine w_callv hc11 rfl (pz_cokI is_147 rfl) ?_
          refine w_iinc (ls' := [some (.inr (.inl 142)), some (.inl i), some (.inl (j + 1))]) rfl rfl rfl (by omega) ?_
          refine w_goto ?_
          exact ih29 _ (by omega) (j + 1) (q_eg f2 i j ((iv 143) (10 * i + j).toNat))  rfl (by omega) (by rw [q_fr_s (by omega), ← hf2]; rfl)
      exact lp29 _ 0 f  rfl (by omega) (by rw [q_fr_0 (by omega)])
  exact lp16 _ 0 (q_ncl ((iv 3) 0) (iv 148)) (none) rfl rfl (by omega) (by rw [q_fr_0 (by omega), hE.1])

theorem s_X8_waitOf {L : Nat} {iv : Nat → Nat → Int} (e : Int) (s : Int) {k : Nat → Int} {v : Nat → Int} (hk : q_KR k) (hVU : q_VU k v (iv 143) (iv 145)) (hvb : q_vb v) (he : 0 ≤ e ∧ e < k 0) (hs : 0 ≤ s ∧ s < k 2) : pz_R (pz_Sh L) 102 [.inr (.inl 142), .inl e, .inl s] iv (.inl (some (.inl (q_wt v k e s)))) iv := by
  intro dv cc ss
  have hk0 := hk.r0
  have hsp := hk.sp hs.1 hs.2
  have hu := hVU.2 s e hs.1 hs.2 he.1 he.2
  have hv1 := hvb (100 * (s + 1) + 10 * e + k (212 + 4 * s).toNat).toNat (by omega)
  have hn := q_N_v hv1
  show pz_G 102 0 [some (.inr (.inl 142)), some (.inl e), some (.inl s)] [] (pz_Sh L, iv, dv, cc, ss) (pz_P (pz_Sh L) (.inl (some (.inl (q_wt v k e s)))) iv dv cc ss)
  refine pz_G_of pz_b102_0 ?_
  refine w_pure rfl ?_
  refine w_loc rfl ?_
  refine w_loc rfl ?_
  refine w_loc rfl ?_
  have hc1 : pz_R (pz_Sh L) 92 [.inr (.inl 142), .inl s, .inl e] (iv) (.inl (some (.inl ((iv 145) (10 * s + e).toNat)))) (iv) := s_X8_upperOf s e (by omega) (by omega)
  refine w_call hc1 rfl (pz_cokI is_142 rfl) ?_
  refine w_ineg (by omega) ?_
  have hc2 : pz_R (pz_Sh L) 1 [.inl 0, .inl (-((iv 145) (10 * s + e).toNat))] (iv) (.inl (some (.inl (max 0 (-((iv 145) (10 * s + e).toNat)))))) (iv) := s_J_max 0 (-((iv 145) (10 * s + e).toNat))
  refine w_call hc2 rfl rfl ?_
  refine w_ret rfl ?_
  first | exact lf_i (by unfold q_wt; split <;> omega) rfl | (exfalso; omega)

theorem s_X8_windowLow_15 {L : Nat} {iv : Nat → Nat → Int} (e : Int) {k : Nat → Int} {v : Nat → Int} (hk : q_KR k) (hE : q_cE k (iv 3)) (hC : q_cC k (iv 15) (iv 16)) (hVU : q_VU k v (iv 143) (iv 145)) (hvb : q_vb v) (he : 0 ≤ e ∧ e < k 0) : pz_R (pz_Sh L) 103 [.inr (.inl 142), .inl e, .inr (.inl 15)] iv (.inl (some (.inl (q_lo v (q_ka k) k e)))) iv := by
  intro dv cc ss
  have hk0 := hk.r0
  have hE0 := hE
  have hC0 := hC.1
  show pz_G 103 0 [some (.inr (.inl 142)), some (.inl e), some (.inr (.inl 15)), none, none, none] [] (pz_Sh L, iv, dv, cc, ss) (pz_P (pz_Sh L) (.inl (some (.inl (q_lo v (q_ka k) k e)))) iv dv cc ss)
  refine pz_G_of pz_b103_0 ?_
  refine w_pure rfl ?_
  refine w_loc (ls' := [some (.inr (.inl 142)), some (.inl e), some (.inr (.inl 15)), some (.inl 0), none, none]) (st' := []) rfl ?_
  refine w_pure rfl ?_
  refine w_loc (ls' := [some (.inr (.inl 142)), some (.inl e), some (.inr (.inl 15)), some (.inl 0), some (.inl 0), none]) (st' := []) rfl ?_
  refine w_nil ?_
  have lp5 : ∀ (dd : Nat) (x : Int) (s : Int) (u5_5 : Option pz_V) (hu5_5 : pz_nc u5_5 = true), (k 0 - s).toNat = dd → ∀ (hs : 0 ≤ s ∧ s ≤ k 0), ∀ (hx : x = q_fr (q_loS v (q_ka k) e) 0 s 0), ∀ (hxr : -2000000000 ≤ x ∧ x ≤ 2000000000),  pz_G 103 5 [some (.inr (.inl 142)), some (.inl e), some (.inr (.inl 15)), some (.inl x), some (.inl s), u5_5] [] (pz_Sh L, iv, dv, cc, ss) (pz_P (pz_Sh L) (.inl (some (.inl (q_lo v (q_ka k) k e)))) iv dv cc ss) := by
    intro dd5
    induction dd5 using Nat.strongRecOn with
    | _ dd5 ih5 =>
    intro x s u5_5 hu5_5 hd5 hs hx hxr
    have hka := q_ka_e (k := k) (e := s) hs.1
    have hst := fun h => hk.st (e := s) hs.1 h
    have hv1 := fun h => hVU.1 e s he.1 he.2 hs.1 h
    have hv2 := fun h => hvb (100 * 0 + 10 * e + s).toNat h
    have hn := fun h => q_N_v (hv2 h)
    refine pz_G_of pz_b103_5 ?_
    refine w_loc rfl ?_
    refine w_loc rfl ?_
    refine w_getR (q := 3) is_142 rf_142_0 ?_
    refine w_getI (v := (iv 3) 0) is_3 (by decide) rfl ?_
    refine w_ige (fun h1 => ?_) (fun h1 => ?_)
    · refine pz_G_of pz_b103_62 ?_
      refine w_loc rfl ?_
      refine w_ret rfl ?_
      exact lf_i (by rw [hx, show s = k 0 by omega]; rfl) rfl
    · refine w_loc rfl ?_
      refine w_loc rfl ?_
      refine w_loc rfl ?_
      have hc2 : pz_R (pz_Sh L) 91 [.inr (.inl 142), .inl e, .inl s] (iv) (.inl (some (.inl ((iv 143) (10 * e + s).toNat)))) (iv) := s_X8_valueOf e s (by omega) (by omega)
      refine w_call hc2 rfl (pz_cokI is_142 rfl) ?_
      refine w_loc (ls' := [some (.inr (.inl 142)), some (.inl e), some (.inr (.inl 15)), some (.inl x), some (.inl s), some (.inl ((iv 143) (10 * e + s).toNat))]) (st' := []) rfl ?_
      refine w_loc rfl ?_
      refine w_loc rfl ?_
      have hc3 : pz_R (pz_Sh L) 26 [.inr (.inl 15), .inl s] (iv) (.inl (some (.inl (pz_bi (q_sta k s))))) (iv) := s_X2_hasStarted_15 s (by exact hk) (by exact hC) (by omega)
      refine w_call hc3 rfl (pz_cokI is_15 rfl) ?_
      refine w_beq (fun h4 => ?_) (fun h4 => ?_)
      · refine pz_G_of pz_b103_56 ?_
        refine w_iinc (ls' := [some (.inr (.inl 142)), some (.inl e), some (.inr (.inl 15)), some (.inl x), some (.inl (s + 1)), some (.inl ((iv 143) (10 * e + s).toNat))]) rfl rfl rfl (by omega) ?_
        refine w_goto ?_
        exact ih5 _ (by omega) x (s + 1) (some (.inl ((iv 143) (10 * e + s).toNat))) rfl rfl (by omega) (by rw [q_fr_s (by omega), ← hx]; unfold q_loS; first | ((rw [q_if_t (by omega)]) <;> omega) | ((rw [q_if_f (by omega)]) <;> omega) | (by_cases hq : x < (q_ka k) s.toNat - v (100 * 0 + 10 * e + s).toNat; ((rw [q_if_t (by omega)]) <;> omega); ((rw [q_if_f (by omega)]) <;> omega))) (by omega)
      · refine w_loc rfl ?_
        refine w_ldcv (v := 1000000000) rfl ?_
        refine w_ieq (fun h5 => ?_) (fun h5 => ?_)
        · refine pz_G_of pz_b103_56 ?_
          refine w_iinc (ls' := [some (.inr (.inl 142)), some (.inl e), some (.inr (.inl 15)), some (.inl x), some (.inl (s + 1)), some (.inl ((iv 143) (10 * e + s).toNat))]) rfl rfl rfl (by omega) ?_
          refine w_goto ?_
          exact ih5 _ (by omega) x (s + 1) (some (.inl ((iv 143) (10 * e + s).toNat))) rfl rfl (by omega) (by rw [q_fr_s (by omega), ← hx]; unfold q_loS; first | ((rw [q_if_t (by omega)]) <;> omega) | ((rw [q_if_f (by omega)]) <;> omega) | (by_cases hq : x < (q_ka k) s.toNat - v (100 * 0 + 10 * e + s).toNat; ((rw [q_if_t (by omega)]) <;> omega); ((rw [q_if_f (by omega)]) <;> omega))) (by omega)
        · refine w_loc rfl ?_
          refine w_loc rfl ?_
          refine w_loc rfl ?_
          have hc6 : pz_R (pz_Sh L) 25 [.inr (.inl 15), .inl s] (iv) (.inl (some (.inl (k (6 + s).toNat)))) (iv) := s_X2_startOf_15 s (by exact hk) (by exact hC) (by omega)
          refine w_call hc6 rfl (pz_cokI is_15 rfl) ?_
          refine w_loc rfl ?_
          refine w_isub (by omega) ?_
          have hc7 : pz_R (pz_Sh L) 1 [.inl x, .inl ((k (6 + s).toNat) - ((iv 143) (10 * e + s).toNat))] (iv) (.inl (some (.inl (max x ((k (6 + s).toNat) - ((iv 143) (10 * e + s).toNat)))))) (iv) := s_J_max x ((k (6 + s).toNat) - ((iv 143) (10 * e + s).toNat))
          refine w_call hc7 rfl rfl ?_
          refine w_loc (ls' := [some (.inr (.inl 142)), some (.inl e), some (.inr (.inl 15)), some (.inl (max x ((k (6 + s).toNat) - ((iv 143) (10 * e + s).toNat)))), some (.inl s), some (.inl ((iv 143) (10 * e + s).toNat))]) (st' := []) rfl ?_
          refine w_nil ?_
          refine pz_G_of pz_b103_56 ?_
          refine w_iinc (ls' := [some (.inr (.inl 142)), some (.inl e), some (.inr (.inl 15)), some (.inl (max x ((k (6 + s).toNat) - ((iv 143) (10 * e + s).toNat)))), some (.inl (s + 1)), some (.inl ((iv 143) (10 * e + s).toNat))]) rfl rfl rfl (by omega) ?_
          refine w_goto ?_
          exact ih5 _ (by omega) (max x ((k (6 + s).toNat) - ((iv 143) (10 * e + s).toNat))) (s + 1) (some (.inl ((iv 143) (10 * e + s).toNat))) rfl rfl (by omega) (by rw [q_fr_s (by omega), ← hx]; unfold q_loS; first | ((rw [q_if_t (by omega)]) <;> omega) | ((rw [q_if_f (by omega)]) <;> omega) | (by_cases hq : x < (q_ka k) s.toNat - v (100 * 0 + 10 * e + s).toNat; ((rw [q_if_t (by omega)]) <;> omega); ((rw [q_if_f (by omega)]) <;> omega))) (by omega)
  exact lp5 _ 0 0 (none) rfl rfl (by omega) (by rw [q_fr_0 (by omega)]) (by omega)

theorem s_X8_windowHigh_15 {L : Nat} {iv : Nat → Nat → Int} (e : Int) {k : Nat → Int} {v : Nat → Int} (hk : q_KR k) (hE : q_cE k (iv 3)) (hC : q_cC k (iv 15) (iv 16)) (hVU : q_VU k v (iv 143) (iv 145)) (hvb : q_vb v) (he : 0 ≤ e ∧ e < k 0) : pz_R (pz_Sh L) 104 [.inr (.inl 142), .inl e, .inr (.inl 15)] iv (.inl (some (.inl (q_hi v (q_ka k) k e)))) iv := by
  intro dv cc ss
  have hk0 := hk.r0
  have hE0 := hE
  have hC0 := hC.1
  show pz_G 104 0 [some (.inr (.inl 142)), some (.inl e), some (.inr (.inl 15)), none, none, none] [] (pz_Sh L, iv, dv, cc, ss) (pz_P (pz_Sh L) (.inl (some (.inl (q_hi v (q_ka k) k e)))) iv dv cc ss)
  refine pz_G_of pz_b104_0 ?_
  refine w_pure rfl ?_
  refine w_loc (ls' := [some (.inr (.inl 142)), some (.inl e), some (.inr (.inl 15)), some (.inl 9999), none, none]) (st' := []) rfl ?_
  refine w_pure rfl ?_
  refine w_loc (ls' := [some (.inr (.inl 142)), some (.inl e), some (.inr (.inl 15)), some (.inl 9999), some (.inl 0), none]) (st' := []) rfl ?_
  refine w_nil ?_
  have lp7 : ∀ (dd : Nat) (x : Int) (s : Int) (u7_5 : Option pz_V) (hu7_5 : pz_nc u7_5 = true), (k 0 - s).toNat = dd → ∀ (hs : 0 ≤ s ∧ s ≤ k 0), ∀ (hx : x = q_fr (q_hiS v (q_ka k) e) 0 s 9999), ∀ (hxr : -2000000000 ≤ x ∧ x ≤ 2000000000),  pz_G 104 7 [some (.inr (.inl 142)), some (.inl e), some (.inr (.inl 15)), some (.inl x), some (.inl s), u7_5] [] (pz_Sh L, iv, dv, cc, ss) (pz_P (pz_Sh L) (.inl (some (.inl (q_hi v (q_ka k) k e)))) iv dv cc ss) := by
    intro dd7
    induction dd7 using Nat.strongRecOn with
    | _ dd7 ih7 =>
    intro x s u7_5 hu7_5 hd7 hs hx hxr
    have hka := q_ka_e (k := k) (e := s) hs.1
    have hst := fun h => hk.st (e := s) hs.1 h
    have hv1 := fun h => hVU.1 s e hs.1 h he.1 he.2
    have hv2 := fun h => hvb (100 * 0 + 10 * s + e).toNat h
    have hn := fun h => q_N_v (hv2 h)
    refine pz_G_of pz_b104_7 ?_
    refine w_loc rfl ?_
    refine w_loc rfl ?_
    refine w_getR (q := 3) is_142 rf_142_0 ?_
    refine w_getI (v := (iv 3) 0) is_3 (by decide) rfl ?_
    refine w_ige (fun h1 => ?_) (fun h1 => ?_)
    · refine pz_G_of pz_b104_64 ?_
      refine w_loc rfl ?_
      refine w_ret rfl ?_
      exact lf_i (by rw [hx, show s = k 0 by omega]; rfl) rfl
    · refine w_loc rfl ?_
      refine w_loc rfl ?_
      refine w_loc rfl ?_
      have hc2 : pz_R (pz_Sh L) 91 [.inr (.inl 142), .inl s, .inl e] (iv) (.inl (some (.inl ((iv 143) (10 * s + e).toNat)))) (iv) := s_X8_valueOf s e (by omega) (by omega)
      refine w_call hc2 rfl (pz_cokI is_142 rfl) ?_
      refine w_loc (ls' := [some (.inr (.inl 142)), some (.inl e), some (.inr (.inl 15)), some (.inl x), some (.inl s), some (.inl ((iv 143) (10 * s + e).toNat))]) (st' := []) rfl ?_
      refine w_loc rfl ?_
      refine w_loc rfl ?_
      have hc3 : pz_R (pz_Sh L) 26 [.inr (.inl 15), .inl s] (iv) (.inl (some (.inl (pz_bi (q_sta k s))))) (iv) := s_X2_hasStarted_15 s (by exact hk) (by exact hC) (by omega)
      refine w_call hc3 rfl (pz_cokI is_15 rfl) ?_
      refine w_beq (fun h4 => ?_) (fun h4 => ?_)
      · refine pz_G_of pz_b104_58 ?_
        refine w_iinc (ls' := [some (.inr (.inl 142)), some (.inl e), some (.inr (.inl 15)), some (.inl x), some (.inl (s + 1)), some (.inl ((iv 143) (10 * s + e).toNat))]) rfl rfl rfl (by omega) ?_
        refine w_goto ?_
        exact ih7 _ (by omega) x (s + 1) (some (.inl ((iv 143) (10 * s + e).toNat))) rfl rfl (by omega) (by rw [q_fr_s (by omega), ← hx]; unfold q_hiS; first | ((rw [q_if_t (by omega)]) <;> omega) | ((rw [q_if_f (by omega)]) <;> omega) | (by_cases hq : (q_ka k) s.toNat + v (100 * 0 + 10 * s + e).toNat < x; ((rw [q_if_t (by omega)]) <;> omega); ((rw [q_if_f (by omega)]) <;> omega))) (by omega)
      · refine w_loc rfl ?_
        refine w_ldcv (v := 1000000000) rfl ?_
        refine w_ieq (fun h5 => ?_) (fun h5 => ?_)
        · refine pz_G_of pz_b104_58 ?_
          refine w_iinc (ls' := [some (.inr (.inl 142)), some (.inl e), some (.inr (.inl 15)), some (.inl x), some (.inl (s + 1)), some (.inl ((iv 143) (10 * s + e).toNat))]) rfl rfl rfl (by omega) ?_
          refine w_goto ?_
          exact ih7 _ (by omega) x (s + 1) (some (.inl ((iv 143) (10 * s + e).toNat))) rfl rfl (by omega) (by rw [q_fr_s (by omega), ← hx]; unfold q_hiS; first | ((rw [q_if_t (by omega)]) <;> omega) | ((rw [q_if_f (by omega)]) <;> omega) | (by_cases hq : (q_ka k) s.toNat + v (100 * 0 + 10 * s + e).toNat < x; ((rw [q_if_t (by omega)]) <;> omega); ((rw [q_if_f (by omega)]) <;> omega))) (by omega)
        · refine w_loc rfl ?_
          refine w_loc rfl ?_
          refine w_loc rfl ?_
          have hc6 : pz_R (pz_Sh L) 25 [.inr (.inl 15), .inl s] (iv) (.inl (some (.inl (k (6 + s).toNat)))) (iv) := s_X2_startOf_15 s (by exact hk) (by exact hC) (by omega)
          refine w_call hc6 rfl (pz_cokI is_15 rfl) ?_
          refine w_loc rfl ?_
          refine w_iadd (by omega) ?_
          have hc7 : pz_R (pz_Sh L) 2 [.inl x, .inl ((k (6 + s).toNat) + ((iv 143) (10 * s + e).toNat))] (iv) (.inl (some (.inl (min x ((k (6 + s).toNat) + ((iv 143) (10 * s + e).toNat)))))) (iv) := s_J_min x ((k (6 + s).toNat) + ((iv 143) (10 * s + e).toNat))
          refine w_call hc7 rfl rfl ?_
          refine w_loc (ls' := [some (.inr (.inl 142)), some (.inl e), some (.inr (.inl 15)), some (.inl (min x ((k (6 + s).toNat) + ((iv 143) (10 * s + e).toNat)))), some (.inl s), some (.inl ((iv 143) (10 * s + e).toNat))]) (st' := []) rfl ?_
          refine w_nil ?_
          refine pz_G_of pz_b104_58 ?_
          refine w_iinc (ls' := [some (.inr (.inl 142)), some (.inl e), some (.inr (.inl 15)), some (.inl (min x ((k (6 + s).toNat) + ((iv 143) (10 * s + e).toNat)))), some (.inl (s + 1)), some (.inl ((iv 143) (10 * s + e).toNat))]) rfl rfl rfl (by omega) ?_
          refine w_goto ?_
          exact ih7 _ (by omega) (min x ((k (6 + s).toNat) + ((iv 143) (10 * s + e).toNat))) (s + 1) (some (.inl ((iv 143) (10 * s + e).toNat))) rfl rfl (by omega) (by rw [q_fr_s (by omega), ← hx]; unfold q_hiS; first | ((rw [q_if_t (by omega)]) <;> omega) | ((rw [q_if_f (by omega)]) <;> omega) | (by_cases hq : (q_ka k) s.toNat + v (100 * 0 + 10 * s + e).toNat < x; ((rw [q_if_t (by omega)]) <;> omega); ((rw [q_if_f (by omega)]) <;> omega))) (by omega)
  exact lp7 _ 9999 0 (none) rfl rfl (by omega) (by rw [q_fr_0 (by omega)]) (by omega)

theorem s_X8_isBehindAnother_15 {L : Nat} {iv : Nat → Nat → Int} (e : Int) {k : Nat → Int} {v : Nat → Int} (hk : q_KR k) (hE : q_cE k (iv 3)) (hC : q_cC k (iv 15) (iv 16)) (hVU : q_VU k v (iv 143) (iv 145)) (hvb : q_vb v) (he : 0 ≤ e ∧ e < k 0) : pz_R (pz_Sh L) 106 [.inr (.inl 142), .inl e, .inr (.inl 15)] iv (.inl (some (.inl (pz_bi (q_bh v (q_ka k) k e))))) iv := by
  intro dv cc ss
  have hk0 := hk.r0
  have hE0 := hE
  have hC0 := hC.1
  show pz_G 106 0 [some (.inr (.inl 142)), some (.inl e), some (.inr (.inl 15)), none] [] (pz_Sh L, iv, dv, cc, ss) (pz_P (pz_Sh L) (.inl (some (.inl (pz_bi (q_bh v (q_ka k) k e))))) iv dv cc ss)
  refine pz_G_of pz_b106_0 ?_
  refine w_pure rfl ?_
  refine w_loc (ls' := [some (.inr (.inl 142)), some (.inl e), some (.inr (.inl 15)), some (.inl 0)]) (st' := []) rfl ?_
  refine w_nil ?_
  have lp2 : ∀ (dd : Nat) (s : Int) , (k 0 - s).toNat = dd → ∀ (hs : 0 ≤ s ∧ s ≤ k 0), ∀ (hno : ∀ i : Int, 0 ≤ i → i < s → ¬ q_bhP v (q_ka k) e i),  pz_G 106 2 [some (.inr (.inl 142)), some (.inl e), some (.inr (.inl 15)), some (.inl s)] [] (pz_Sh L, iv, dv, cc, ss) (pz_P (pz_Sh L) (.inl (some (.inl (pz_bi (q_bh v (q_ka k) k e))))) iv dv cc ss) := by
    intro dd2
    induction dd2 using Nat.strongRecOn with
    | _ dd2 ih2 =>
    intro s  hd2 hs hno
    have hka := q_ka_e (k := k) (e := s) hs.1
    have hv1 := fun h => hVU.1 e s he.1 he.2 hs.1 h
    have hv2 := fun h => hvb (100 * 0 + 10 * e + s).toNat h
    have hn := fun h => q_N_v (hv2 h)
    refine pz_G_of pz_b106_2 ?_
    refine w_loc rfl ?_
    refine w_loc rfl ?_
    refine w_getR (q := 3) is_142 rf_142_0 ?_
    refine w_getI (v := (iv 3) 0) is_3 (by decide) rfl ?_
    refine w_ige (fun h1 => ?_) (fun h1 => ?_)
    · refine pz_G_of pz_b106_38 ?_
      refine w_pure rfl ?_
      refine w_ret (pz_rok1 (Or.inl rfl)) ?_
      first | exact lf_i (pz_bi_t ⟨s, by omega, by omega, by omega⟩) rfl | exact lf_i (pz_bi_f (fun ⟨j, g1, g2, g3⟩ => hno j g1 (by omega) g3)) rfl
    · refine w_loc rfl ?_
      refine w_loc rfl ?_
      have hc2 : pz_R (pz_Sh L) 26 [.inr (.inl 15), .inl s] (iv) (.inl (some (.inl (pz_bi (q_sta k s))))) (iv) := s_X2_hasStarted_15 s (by exact hk) (by exact hC) (by omega)
      refine w_call hc2 rfl (pz_cokI is_15 rfl) ?_
      refine w_bne (fun h3 => ?_) (fun h3 => ?_)
      · refine pz_G_of pz_b106_32 ?_
        refine w_iinc (ls' := [some (.inr (.inl 142)), some (.inl e), some (.inr (.inl 15)), some (.inl (s + 1))]) rfl rfl rfl (by omega) ?_
        refine w_goto ?_
        exact ih2 _ (by omega) (s + 1)  rfl (by omega) (by intro i g1 g2; by_cases g3 : i = s; (rw [g3]; omega); exact hno i g1 (by omega))
      · refine w_loc rfl ?_
        refine w_loc rfl ?_
        refine w_loc rfl ?_
        have hc4 : pz_R (pz_Sh L) 91 [.inr (.inl 142), .inl e, .inl s] (iv) (.inl (some (.inl ((iv 143) (10 * e + s).toNat)))) (iv) := s_X8_valueOf e s (by omega) (by omega)
        refine w_call hc4 rfl (pz_cokI is_142 rfl) ?_
        refine w_zge (fun h5 => ?_) (fun h5 => ?_)
        · refine pz_G_of pz_b106_32 ?_
          refine w_iinc (ls' := [some (.inr (.inl 142)), some (.inl e), some (.inr (.inl 15)), some (.inl (s + 1))]) rfl rfl rfl (by omega) ?_
          refine w_goto ?_
          exact ih2 _ (by omega) (s + 1)  rfl (by omega) (by intro i g1 g2; by_cases g3 : i = s; (rw [g3]; omega); exact hno i g1 (by omega))
        · refine w_pure rfl ?_
          refine w_ret (pz_rok1 (Or.inr rfl)) ?_
          first | exact lf_i (pz_bi_t ⟨s, by omega, by omega, by omega⟩) rfl | exact lf_i (pz_bi_f (fun ⟨j, g1, g2, g3⟩ => hno j g1 (by omega) g3)) rfl
  exact lp2 _ 0  rfl (by omega) (by intro i g1 g2; omega)

theorem s_X8_mustWait_15 {L : Nat} {iv : Nat → Nat → Int} (e : Int) {k : Nat → Int} {v : Nat → Int} (hk : q_KR k) (hE : q_cE k (iv 3)) (hS : q_cS k (iv 10) (iv 11) (iv 12) (iv 13) (iv 14)) (hC : q_cC k (iv 15) (iv 16)) (hVU : q_VU k v (iv 143) (iv 145)) (hvb : q_vb v) (he : 0 ≤ e ∧ e < k 0) : pz_R (pz_Sh L) 107 [.inr (.inl 142), .inl e, .inr (.inl 15)] iv (.inl (some (.inl (pz_bi (q_mw v (q_ka k) k e (k 4)))))) iv := by
  intro dv cc ss
  have hk0 := hk.r0
  have hE0 := hE
  have hS0 := hS.1
  have hC0 := hC.1
  show pz_G 107 0 [some (.inr (.inl 142)), some (.inl e), some (.inr (.inl 15)), none, none, none, none] [] (pz_Sh L, iv, dv, cc, ss) (pz_P (pz_Sh L) (.inl (some (.inl (pz_bi (q_mw v (q_ka k) k e (k 4)))))) iv dv cc ss)
  refine pz_G_of pz_b107_0 ?_
  refine w_loc rfl ?_
  refine w_getR (q := 3) is_142 rf_142_0 ?_
  refine w_getR (q := 10) is_3 rf_3_2 ?_
  refine w_loc (ls' := [some (.inr (.inl 142)), some (.inl e), some (.inr (.inl 15)), some (.inr (.inl 10)), none, none, none]) (st' := []) rfl ?_
  refine w_pure rfl ?_
  refine w_loc (ls' := [some (.inr (.inl 142)), some (.inl e), some (.inr (.inl 15)), some (.inr (.inl 10)), some (.inl 0), none, none]) (st' := []) rfl ?_
  refine w_nil ?_
  have lp11 : ∀ (dd : Nat) (s : Int) (u11_5 : Option pz_V) (hu11_5 : pz_nc u11_5 = true) (u11_6 : Option pz_V) (hu11_6 : pz_nc u11_6 = true), (k 2 - s).toNat = dd → ∀ (hs : 0 ≤ s ∧ s ≤ k 2), ∀ (hno : ∀ i : Int, 0 ≤ i → i < s → ¬ q_mwP v (q_ka k) k e (k 4) i),  pz_G 107 11 [some (.inr (.inl 142)), some (.inl e), some (.inr (.inl 15)), some (.inr (.inl 10)), some (.inl s), u11_5, u11_6] [] (pz_Sh L, iv, dv, cc, ss) (pz_P (pz_Sh L) (.inl (some (.inl (pz_bi (q_mw v (q_ka k) k e (k 4)))))) iv dv cc ss) := by
    intro dd11
    induction dd11 using Nat.strongRecOn with
    | _ dd11 ih11 =>
    intro s u11_5 hu11_5 u11_6 hu11_6 hd11 hs hno
    have hsp := fun h => hk.sp hs.1 h
    have hwt := fun h => q_wt_r (v := v) (k := k) (e := e) (s := s) (fun j hj => (hvb j hj).1) h
    have hka1 := fun h => q_ka_e (k := k) (e := k (212 + 4 * s).toNat) h
    have hka2 := fun h => q_ka_e (k := k) (e := k (212 + 4 * s + 1).toNat) h
    have hst := fun h1 h2 => hk.st (e := k (212 + 4 * s).toNat) h1 h2
    refine pz_G_of pz_b107_11 ?_
    refine w_loc rfl ?_
    refine w_loc rfl ?_
    refine w_getI (v := (iv 10) 0) is_10 (by decide) rfl ?_
    refine w_ige (fun h1 => ?_) (fun h1 => ?_)
    · refine pz_G_of pz_b107_89 ?_
      refine w_pure rfl ?_
      refine w_ret (pz_rok1 (Or.inl rfl)) ?_
      first | exact lf_i (pz_bi_t ⟨s, by omega, by omega, by omega⟩) rfl | exact lf_i (pz_bi_f (fun ⟨j, g1, g2, g3⟩ => hno j g1 (by omega) g3)) rfl
    · refine w_loc rfl ?_
      refine w_loc rfl ?_
      refine w_loc rfl ?_
      have hc2 : pz_R (pz_Sh L) 102 [.inr (.inl 142), .inl e, .inl s] (iv) (.inl (some (.inl (q_wt v k e s)))) (iv) := s_X8_waitOf e s (by exact hk) (by exact hVU) (by exact hvb) (by omega) (by omega)
      refine w_call hc2 rfl (pz_cokI is_142 rfl) ?_
      refine w_loc (ls' := [some (.inr (.inl 142)), some (.inl e), some (.inr (.inl 15)), some (.inr (.inl 10)), some (.inl s), some (.inl (q_wt v k e s)), u11_6]) (st' := []) rfl ?_
      refine w_loc rfl ?_
      refine w_loc rfl ?_
      refine w_loc rfl ?_
      have hc3 : pz_R (pz_Sh L) 110 [.inr (.inl 10), .inl s] (iv) (.inl (some (.inl (k (212 + 4 * s).toNat)))) (iv) := s_X9_firstOf s (by exact hk) (by exact hS) (by omega)
      refine w_call hc3 rfl (pz_cokI is_10 rfl) ?_
      have hc4 : pz_R (pz_Sh L) 26 [.inr (.inl 15), .inl (k (212 + 4 * s).toNat)] (iv) (.inl (some (.inl (pz_bi (q_sta k (k (212 + 4 * s).toNat)))))) (iv) := s_X2_hasStarted_15 (k (212 + 4 * s).toNat) (by exact hk) (by exact hC) (by omega)
      refine w_call hc4 rfl (pz_cokI is_15 rfl) ?_
      refine w_beq (fun h5 => ?_) (fun h5 => ?_)
      · refine pz_G_of pz_b107_58 ?_
        refine w_pure rfl ?_
        refine w_nil ?_
        refine pz_G_of pz_b107_59 ?_
        refine w_loc (ls' := [some (.inr (.inl 142)), some (.inl e), some (.inr (.inl 15)), some (.inr (.inl 10)), some (.inl s), some (.inl (q_wt v k e s)), some (.inl 0)]) (st' := []) rfl ?_
        refine w_loc rfl ?_
        refine w_zle (fun h6 => ?_) (fun h6 => ?_)
        · refine pz_G_of pz_b107_83 ?_
          refine w_iinc (ls' := [some (.inr (.inl 142)), some (.inl e), some (.inr (.inl 15)), some (.inr (.inl 10)), some (.inl (s + 1)), some (.inl (q_wt v k e s)), some (.inl 0)]) rfl rfl rfl (by omega) ?_
          refine w_goto ?_
          exact ih11 _ (by omega) (s + 1) (some (.inl (q_wt v k e s))) rfl (some (.inl 0)) rfl rfl (by omega) (by intro i g1 g2; by_cases g3 : i = s; (rw [g3]; omega); exact hno i g1 (by omega))
        · refine w_loc rfl ?_
          refine w_loc rfl ?_
          refine w_loc rfl ?_
          have hc7 : pz_R (pz_Sh L) 116 [.inr (.inl 10), .inl s, .inr (.inl 15)] (iv) (.inl (some (.inl (pz_bi (q_sta k (k (212 + 4 * s + 1).toNat)))))) (iv) := s_X9_hasEnded_15 s (by exact hk) (by exact hS) (by exact hC) (by omega)
          refine w_call hc7 rfl (pz_cokI is_10 rfl) ?_
          refine w_bne (fun h8 => ?_) (fun h8 => ?_)
          · refine pz_G_of pz_b107_83 ?_
            refine w_iinc (ls' := [some (.inr (.inl 142)), some (.inl e), some (.inr (.inl 15)), some (.inr (.inl 10)), some (.inl (s + 1)), some (.inl (q_wt v k e s)), some (.inl 0)]) rfl rfl rfl (by omega) ?_
            refine w_goto ?_
            exact ih11 _ (by omega) (s + 1) (some (.inl (q_wt v k e s))) rfl (some (.inl 0)) rfl rfl (by omega) (by intro i g1 g2; by_cases g3 : i = s; (rw [g3]; omega); exact hno i g1 (by omega))
          · refine w_loc rfl ?_
            refine w_zne (fun h => absurd h (by decide)) (fun _ => ?_)
            refine w_pure rfl ?_
            refine w_ret (pz_rok1 (Or.inr rfl)) ?_
            first | exact lf_i (pz_bi_t ⟨s, by omega, by omega, by omega⟩) rfl | exact lf_i (pz_bi_f (fun ⟨j, g1, g2, g3⟩ => hno j g1 (by omega) g3)) rfl
      · refine w_loc rfl ?_
        refine w_loc rfl ?_
        refine w_loc rfl ?_
        have hc9 : pz_R (pz_Sh L) 118 [.inr (.inl 10), .inl s, .inr (.inl 15)] (iv) (.inl (some (.inl (k 4 - k (6 + k (212 + 4 * s).toNat).toNat)))) (iv) := s_X9_minutesGone_15 s (by exact hk) (by exact hS) (by exact hC) (by omega)
        refine w_call hc9 rfl (pz_cokI is_10 rfl) ?_
        refine w_loc rfl ?_
        refine w_ilt (fun h10 => ?_) (fun h10 => ?_)
        · refine pz_G_of pz_b107_58 ?_
          refine w_pure rfl ?_
          refine w_nil ?_
          refine pz_G_of pz_b107_59 ?_
          refine w_loc (ls' := [some (.inr (.inl 142)), some (.inl e), some (.inr (.inl 15)), some (.inr (.inl 10)), some (.inl s), some (.inl (q_wt v k e s)), some (.inl 0)]) (st' := []) rfl ?_
          refine w_loc rfl ?_
          refine w_zle (fun h11 => ?_) (fun h11 => ?_)
          · refine pz_G_of pz_b107_83 ?_
            refine w_iinc (ls' := [some (.inr (.inl 142)), some (.inl e), some (.inr (.inl 15)), some (.inr (.inl 10)), some (.inl (s + 1)), some (.inl (q_wt v k e s)), some (.inl 0)]) rfl rfl rfl (by omega) ?_
            refine w_goto ?_
            exact ih11 _ (by omega) (s + 1) (some (.inl (q_wt v k e s))) rfl (some (.inl 0)) rfl rfl (by omega) (by intro i g1 g2; by_cases g3 : i = s; (rw [g3]; omega); exact hno i g1 (by omega))
          · refine w_loc rfl ?_
            refine w_loc rfl ?_
            refine w_loc rfl ?_
            have hc12 : pz_R (pz_Sh L) 116 [.inr (.inl 10), .inl s, .inr (.inl 15)] (iv) (.inl (some (.inl (pz_bi (q_sta k (k (212 + 4 * s + 1).toNat)))))) (iv) := s_X9_hasEnded_15 s (by exact hk) (by exact hS) (by exact hC) (by omega)
            refine w_call hc12 rfl (pz_cokI is_10 rfl) ?_
            refine w_bne (fun h13 => ?_) (fun h13 => ?_)
            · refine pz_G_of pz_b107_83 ?_
              refine w_iinc (ls' := [some (.inr (.inl 142)), some (.inl e), some (.inr (.inl 15)), some (.inr (.inl 10)), some (.inl (s + 1)), some (.inl (q_wt v k e s)), some (.inl 0)]) rfl rfl rfl (by omega) ?_
              refine w_goto ?_
              exact ih11 _ (by omega) (s + 1) (some (.inl (q_wt v k e s))) rfl (some (.inl 0)) rfl rfl (by omega) (by intro i g1 g2; by_cases g3 : i = s; (rw [g3]; omega); exact hno i g1 (by omega))
            · refine w_loc rfl ?_
              refine w_zne (fun h => absurd h (by decide)) (fun _ => ?_)
              refine w_pure rfl ?_
              refine w_ret (pz_rok1 (Or.inr rfl)) ?_
              first | exact lf_i (pz_bi_t ⟨s, by omega, by omega, by omega⟩) rfl | exact lf_i (pz_bi_f (fun ⟨j, g1, g2, g3⟩ => hno j g1 (by omega) g3)) rfl
        · refine w_pure rfl ?_
          refine w_goto ?_
          refine pz_G_of pz_b107_59 ?_
          refine w_loc (ls' := [some (.inr (.inl 142)), some (.inl e), some (.inr (.inl 15)), some (.inr (.inl 10)), some (.inl s), some (.inl (q_wt v k e s)), some (.inl 1)]) (st' := []) rfl ?_
          refine w_loc rfl ?_
          refine w_zle (fun h14 => ?_) (fun h14 => ?_)
          · refine pz_G_of pz_b107_83 ?_
            refine w_iinc (ls' := [some (.inr (.inl 142)), some (.inl e), some (.inr (.inl 15)), some (.inr (.inl 10)), some (.inl (s + 1)), some (.inl (q_wt v k e s)), some (.inl 1)]) rfl rfl rfl (by omega) ?_
            refine w_goto ?_
            exact ih11 _ (by omega) (s + 1) (some (.inl (q_wt v k e s))) rfl (some (.inl 1)) rfl rfl (by omega) (by intro i g1 g2; by_cases g3 : i = s; (rw [g3]; omega); exact hno i g1 (by omega))
          · refine w_loc rfl ?_
            refine w_loc rfl ?_
            refine w_loc rfl ?_
            have hc15 : pz_R (pz_Sh L) 116 [.inr (.inl 10), .inl s, .inr (.inl 15)] (iv) (.inl (some (.inl (pz_bi (q_sta k (k (212 + 4 * s + 1).toNat)))))) (iv) := s_X9_hasEnded_15 s (by exact hk) (by exact hS) (by exact hC) (by omega)
            refine w_call hc15 rfl (pz_cokI is_10 rfl) ?_
            refine w_bne (fun h16 => ?_) (fun h16 => ?_)
            · refine pz_G_of pz_b107_83 ?_
              refine w_iinc (ls' := [some (.inr (.inl 142)), some (.inl e), some (.inr (.inl 15)), some (.inr (.inl 10)), some (.inl (s + 1)), some (.inl (q_wt v k e s)), some (.inl 1)]) rfl rfl rfl (by omega) ?_
              refine w_goto ?_
              exact ih11 _ (by omega) (s + 1) (some (.inl (q_wt v k e s))) rfl (some (.inl 1)) rfl rfl (by omega) (by intro i g1 g2; by_cases g3 : i = s; (rw [g3]; omega); exact hno i g1 (by omega))
            · refine w_loc rfl ?_
              refine w_zne (fun _ => ?_) (fun h => absurd h (by decide))
              refine pz_G_of pz_b107_83 ?_
              refine w_iinc (ls' := [some (.inr (.inl 142)), some (.inl e), some (.inr (.inl 15)), some (.inr (.inl 10)), some (.inl (s + 1)), some (.inl (q_wt v k e s)), some (.inl 1)]) rfl rfl rfl (by omega) ?_
              refine w_goto ?_
              exact ih11 _ (by omega) (s + 1) (some (.inl (q_wt v k e s))) rfl (some (.inl 1)) rfl rfl (by omega) (by intro i g1 g2; by_cases g3 : i = s; (rw [g3]; omega); exact hno i g1 (by omega))
  exact lp11 _ 0 (none) rfl (none) rfl rfl (by omega) (by intro i g1 g2; omega)

theorem s_X8_reasonAgainst_15 {L : Nat} {iv : Nat → Nat → Int} (e : Int) {k : Nat → Int} {v : Nat → Int} (hk : q_KR k) (hE : q_cE k (iv 3)) (hS : q_cS k (iv 10) (iv 11) (iv 12) (iv 13) (iv 14)) (hC : q_cC k (iv 15) (iv 16)) (hVU : q_VU k v (iv 143) (iv 145)) (hvb : q_vb v) (he : 0 ≤ e ∧ e < k 0) : pz_R (pz_Sh L) 105 [.inr (.inl 142), .inl e, .inr (.inl 15)] iv (.inl (some (.inl (q_rs v (q_ka k) k e (k 4))))) iv := by
  intro dv cc ss
  have hk0 := hk.r0
  have hE0 := hE
  have hS0 := hS.1
  have hC0 := hC.1
  have hka := q_ka_e (k := k) he.1
  have hie := q_we_ie (k := k) (e := e) (by omega)
  show pz_G 105 0 [some (.inr (.inl 142)), some (.inl e), some (.inr (.inl 15))] [] (pz_Sh L, iv, dv, cc, ss) (pz_P (pz_Sh L) (.inl (some (.inl (q_rs v (q_ka k) k e (k 4))))) iv dv cc ss)
  refine pz_G_of pz_b105_0 ?_
  refine w_loc rfl ?_
  refine w_loc rfl ?_
  have hc1 : pz_R (pz_Sh L) 26 [.inr (.inl 15), .inl e] (iv) (.inl (some (.inl (pz_bi (q_sta k e))))) (iv) := s_X2_hasStarted_15 e (by exact hk) (by exact hC) (by omega)
  refine w_call hc1 rfl (pz_cokI is_15 rfl) ?_
  refine w_beq (fun h2 => ?_) (fun h2 => ?_)
  · refine pz_G_of pz_b105_11 ?_
    refine w_loc rfl ?_
    refine w_getR (q := 3) is_142 rf_142_0 ?_
    refine w_getR (q := 10) is_3 rf_3_2 ?_
    refine w_loc rfl ?_
    have hc3 : pz_R (pz_Sh L) 115 [.inr (.inl 10), .inl e] (iv) (.inl (some (.inl (q_we k e)))) (iv) := s_X9_withEnd e (by exact hk) (by exact hS)
    refine w_call hc3 rfl (pz_cokI is_10 rfl) ?_
    refine w_pure rfl ?_
    refine w_ieq (fun h4 => ?_) (fun h4 => ?_)
    · refine pz_G_of pz_b105_29 ?_
      refine w_loc rfl ?_
      refine w_loc rfl ?_
      refine w_loc rfl ?_
      have hc5 : pz_R (pz_Sh L) 106 [.inr (.inl 142), .inl e, .inr (.inl 15)] (iv) (.inl (some (.inl (pz_bi (q_bh v (q_ka k) k e))))) (iv) := s_X8_isBehindAnother_15 e (by exact hk) (by exact hE) (by exact hC) (by exact hVU) (by exact hvb) (by omega)
      refine w_call hc5 rfl (pz_cokI is_142 rfl) ?_
      refine w_beq (fun h6 => ?_) (fun h6 => ?_)
      · refine pz_G_of pz_b105_41 ?_
        refine w_loc rfl ?_
        refine w_loc rfl ?_
        refine w_loc rfl ?_
        have hc7 : pz_R (pz_Sh L) 107 [.inr (.inl 142), .inl e, .inr (.inl 15)] (iv) (.inl (some (.inl (pz_bi (q_mw v (q_ka k) k e (k 4)))))) (iv) := s_X8_mustWait_15 e (by exact hk) (by exact hE) (by exact hS) (by exact hC) (by exact hVU) (by exact hvb) (by omega)
        refine w_call hc7 rfl (pz_cokI is_142 rfl) ?_
        refine w_beq (fun h8 => ?_) (fun h8 => ?_)
        · refine pz_G_of pz_b105_53 ?_
          refine w_loc rfl ?_
          refine w_getI (v := (iv 15) 0) is_15 (by decide) rfl ?_
          refine w_loc rfl ?_
          refine w_loc rfl ?_
          refine w_loc rfl ?_
          have hc9 : pz_R (pz_Sh L) 103 [.inr (.inl 142), .inl e, .inr (.inl 15)] (iv) (.inl (some (.inl (q_lo v (q_ka k) k e)))) (iv) := s_X8_windowLow_15 e (by exact hk) (by exact hE) (by exact hC) (by exact hVU) (by exact hvb) (by omega)
          refine w_call hc9 rfl (pz_cokI is_142 rfl) ?_
          refine w_ige (fun h10 => ?_) (fun h10 => ?_)
          · refine pz_G_of pz_b105_69 ?_
            refine w_loc rfl ?_
            refine w_getI (v := (iv 15) 0) is_15 (by decide) rfl ?_
            refine w_loc rfl ?_
            refine w_loc rfl ?_
            refine w_loc rfl ?_
            have hc11 : pz_R (pz_Sh L) 104 [.inr (.inl 142), .inl e, .inr (.inl 15)] (iv) (.inl (some (.inl (q_hi v (q_ka k) k e)))) (iv) := s_X8_windowHigh_15 e (by exact hk) (by exact hE) (by exact hC) (by exact hVU) (by exact hvb) (by omega)
            refine w_call hc11 rfl (pz_cokI is_142 rfl) ?_
            refine w_ile (fun h12 => ?_) (fun h12 => ?_)
            · refine pz_G_of pz_b105_87 ?_
              refine w_pure rfl ?_
              refine w_nil ?_
              refine pz_G_of pz_b105_89 ?_
              refine w_ret (pz_rok2 (by omega)) ?_
              exact lf_i (by unfold q_rs; first | rw [q_if_t (by omega)] | (rw [q_if_f (by omega)]; first | rw [q_if_t (hie.mp (by assumption))] | (rw [q_if_f (fun q => absurd (hie.mpr q) (by omega))]; first | rw [q_if_t (by assumption)] | (rw [q_if_f (by assumption)]; first | rw [q_if_t (by assumption)] | (rw [q_if_f (by assumption)]; first | rw [q_if_t (by omega)] | (rw [q_if_f (by omega)]; first | rw [q_if_t (by omega)] | rw [q_if_f (by omega)])))))) rfl
            · refine w_pure rfl ?_
              refine w_goto ?_
              refine pz_G_of pz_b105_89 ?_
              refine w_ret (pz_rok2 (by omega)) ?_
              exact lf_i (by unfold q_rs; first | rw [q_if_t (by omega)] | (rw [q_if_f (by omega)]; first | rw [q_if_t (hie.mp (by assumption))] | (rw [q_if_f (fun q => absurd (hie.mpr q) (by omega))]; first | rw [q_if_t (by assumption)] | (rw [q_if_f (by assumption)]; first | rw [q_if_t (by assumption)] | (rw [q_if_f (by assumption)]; first | rw [q_if_t (by omega)] | (rw [q_if_f (by omega)]; first | rw [q_if_t (by omega)] | rw [q_if_f (by omega)])))))) rfl
          · refine w_pure rfl ?_
            refine w_ret (pz_rok2 (by omega)) ?_
            exact lf_i (by unfold q_rs; first | rw [q_if_t (by omega)] | (rw [q_if_f (by omega)]; first | rw [q_if_t (hie.mp (by assumption))] | (rw [q_if_f (fun q => absurd (hie.mpr q) (by omega))]; first | rw [q_if_t (by assumption)] | (rw [q_if_f (by assumption)]; first | rw [q_if_t (by assumption)] | (rw [q_if_f (by assumption)]; first | rw [q_if_t (by omega)] | (rw [q_if_f (by omega)]; first | rw [q_if_t (by omega)] | rw [q_if_f (by omega)])))))) rfl
        · refine w_pure rfl ?_
          refine w_ret (pz_rok2 (by omega)) ?_
          exact lf_i (by unfold q_rs; first | rw [q_if_t (by omega)] | (rw [q_if_f (by omega)]; first | rw [q_if_t (hie.mp (by assumption))] | (rw [q_if_f (fun q => absurd (hie.mpr q) (by omega))]; first | rw [q_if_t (by assumption)] | (rw [q_if_f (by assumption)]; first | rw [q_if_t (by assumption)] | (rw [q_if_f (by assumption)]; first | rw [q_if_t (by omega)] | (rw [q_if_f (by omega)]; first | rw [q_if_t (by omega)] | rw [q_if_f (by omega)])))))) rfl
      · refine w_pure rfl ?_
        refine w_ret (pz_rok2 (by omega)) ?_
        exact lf_i (by unfold q_rs; first | rw [q_if_t (by omega)] | (rw [q_if_f (by omega)]; first | rw [q_if_t (hie.mp (by assumption))] | (rw [q_if_f (fun q => absurd (hie.mpr q) (by omega))]; first | rw [q_if_t (by assumption)] | (rw [q_if_f (by assumption)]; first | rw [q_if_t (by assumption)] | (rw [q_if_f (by assumption)]; first | rw [q_if_t (by omega)] | (rw [q_if_f (by omega)]; first | rw [q_if_t (by omega)] | rw [q_if_f (by omega)])))))) rfl
    · refine w_pure rfl ?_
      refine w_ret (pz_rok2 (by omega)) ?_
      exact lf_i (by unfold q_rs; first | rw [q_if_t (by omega)] | (rw [q_if_f (by omega)]; first | rw [q_if_t (hie.mp (by assumption))] | (rw [q_if_f (fun q => absurd (hie.mpr q) (by omega))]; first | rw [q_if_t (by assumption)] | (rw [q_if_f (by assumption)]; first | rw [q_if_t (by assumption)] | (rw [q_if_f (by assumption)]; first | rw [q_if_t (by omega)] | (rw [q_if_f (by omega)]; first | rw [q_if_t (by omega)] | rw [q_if_f (by omega)])))))) rfl
  · refine w_pure rfl ?_
    refine w_ret (pz_rok2 (by omega)) ?_
    exact lf_i (by unfold q_rs; first | rw [q_if_t (by omega)] | (rw [q_if_f (by omega)]; first | rw [q_if_t (hie.mp (by assumption))] | (rw [q_if_f (fun q => absurd (hie.mpr q) (by omega))]; first | rw [q_if_t (by assumption)] | (rw [q_if_f (by assumption)]; first | rw [q_if_t (by assumption)] | (rw [q_if_f (by assumption)]; first | rw [q_if_t (by omega)] | (rw [q_if_f (by omega)]; first | rw [q_if_t (by omega)] | rw [q_if_f (by omega)])))))) rfl

theorem s_X8_windowLow_152 {L : Nat} {iv : Nat → Nat → Int} (e : Int) {k : Nat → Int} {v : Nat → Int} (hk : q_KR k) (hE : q_cE k (iv 3)) (hr : (-1 ≤ (iv 152) 0 ∧ (iv 152) 0 ≤ 1000000000) ∧ q_al (iv 153)) (hVU : q_VU k v (iv 143) (iv 145)) (hvb : q_vb v) (he : 0 ≤ e ∧ e < k 0) : pz_R (pz_Sh L) 103 [.inr (.inl 142), .inl e, .inr (.inl 152)] iv (.inl (some (.inl (q_lo v (iv 153) k e)))) iv := by
  intro dv cc ss
  have hk0 := hk.r0
  have hE0 := hE
  show pz_G 103 0 [some (.inr (.inl 142)), some (.inl e), some (.inr (.inl 152)), none, none, none] [] (pz_Sh L, iv, dv, cc, ss) (pz_P (pz_Sh L) (.inl (some (.inl (q_lo v (iv 153) k e)))) iv dv cc ss)
  refine pz_G_of pz_b103_0 ?_
  refine w_pure rfl ?_
  refine w_loc (ls' := [some (.inr (.inl 142)), some (.inl e), some (.inr (.inl 152)), some (.inl 0), none, none]) (st' := []) rfl ?_
  refine w_pure rfl ?_
  refine w_loc (ls' := [some (.inr (.inl 142)), some (.inl e), some (.inr (.inl 152)), some (.inl 0), some (.inl 0), none]) (st' := []) rfl ?_
  refine w_nil ?_
  have lp5 : ∀ (dd : Nat) (x : Int) (s : Int) (u5_5 : Option pz_V) (hu5_5 : pz_nc u5_5 = true), (k 0 - s).toNat = dd → ∀ (hs : 0 ≤ s ∧ s ≤ k 0), ∀ (hx : x = q_fr (q_loS v (iv 153) e) 0 s 0), ∀ (hxr : -2000000000 ≤ x ∧ x ≤ 2000000000),  pz_G 103 5 [some (.inr (.inl 142)), some (.inl e), some (.inr (.inl 152)), some (.inl x), some (.inl s), u5_5] [] (pz_Sh L, iv, dv, cc, ss) (pz_P (pz_Sh L) (.inl (some (.inl (q_lo v (iv 153) k e)))) iv dv cc ss) := by
    intro dd5
    induction dd5 using Nat.strongRecOn with
    | _ dd5 ih5 =>
    intro x s u5_5 hu5_5 hd5 hs hx hxr
    have hal := fun h => hr.2 s hs.1 h
    have hv1 := fun h => hVU.1 e s he.1 he.2 hs.1 h
    have hv2 := fun h => hvb (100 * 0 + 10 * e + s).toNat h
    have hn := fun h => q_N_v (hv2 h)
    refine pz_G_of pz_b103_5 ?_
    refine w_loc rfl ?_
    refine w_loc rfl ?_
    refine w_getR (q := 3) is_142 rf_142_0 ?_
    refine w_getI (v := (iv 3) 0) is_3 (by decide) rfl ?_
    refine w_ige (fun h1 => ?_) (fun h1 => ?_)
    · refine pz_G_of pz_b103_62 ?_
      refine w_loc rfl ?_
      refine w_ret rfl ?_
      exact lf_i (by rw [hx, show s = k 0 by omega]; rfl) rfl
    · refine w_loc rfl ?_
      refine w_loc rfl ?_
      refine w_loc rfl ?_
      have hc2 : pz_R (pz_Sh L) 91 [.inr (.inl 142), .inl e, .inl s] (iv) (.inl (some (.inl ((iv 143) (10 * e + s).toNat)))) (iv) := s_X8_valueOf e s (by omega) (by omega)
      refine w_call hc2 rfl (pz_cokI is_142 rfl) ?_
      refine w_loc (ls' := [some (.inr (.inl 142)), some (.inl e), some (.inr (.inl 152)), some (.inl x), some (.inl s), some (.inl ((iv 143) (10 * e + s).toNat))]) (st' := []) rfl ?_
      refine w_loc rfl ?_
      refine w_loc rfl ?_
      have hc3 : pz_R (pz_Sh L) 26 [.inr (.inl 152), .inl s] (iv) (.inl (some (.inl (pz_bi ((iv 153) s.toNat ≠ -1))))) (iv) := s_X2_hasStarted_152 s (by omega)
      refine w_call hc3 rfl (pz_cokI is_152 rfl) ?_
      refine w_beq (fun h4 => ?_) (fun h4 => ?_)
      · refine pz_G_of pz_b103_56 ?_
        refine w_iinc (ls' := [some (.inr (.inl 142)), some (.inl e), some (.inr (.inl 152)), some (.inl x), some (.inl (s + 1)), some (.inl ((iv 143) (10 * e + s).toNat))]) rfl rfl rfl (by omega) ?_
        refine w_goto ?_
        exact ih5 _ (by omega) x (s + 1) (some (.inl ((iv 143) (10 * e + s).toNat))) rfl rfl (by omega) (by rw [q_fr_s (by omega), ← hx]; unfold q_loS; first | ((rw [q_if_t (by omega)]) <;> omega) | ((rw [q_if_f (by omega)]) <;> omega) | (by_cases hq : x < (iv 153) s.toNat - v (100 * 0 + 10 * e + s).toNat; ((rw [q_if_t (by omega)]) <;> omega); ((rw [q_if_f (by omega)]) <;> omega))) (by omega)
      · refine w_loc rfl ?_
        refine w_ldcv (v := 1000000000) rfl ?_
        refine w_ieq (fun h5 => ?_) (fun h5 => ?_)
        · refine pz_G_of pz_b103_56 ?_
          refine w_iinc (ls' := [some (.inr (.inl 142)), some (.inl e), some (.inr (.inl 152)), some (.inl x), some (.inl (s + 1)), some (.inl ((iv 143) (10 * e + s).toNat))]) rfl rfl rfl (by omega) ?_
          refine w_goto ?_
          exact ih5 _ (by omega) x (s + 1) (some (.inl ((iv 143) (10 * e + s).toNat))) rfl rfl (by omega) (by rw [q_fr_s (by omega), ← hx]; unfold q_loS; first | ((rw [q_if_t (by omega)]) <;> omega) | ((rw [q_if_f (by omega)]) <;> omega) | (by_cases hq : x < (iv 153) s.toNat - v (100 * 0 + 10 * e + s).toNat; ((rw [q_if_t (by omega)]) <;> omega); ((rw [q_if_f (by omega)]) <;> omega))) (by omega)
        · refine w_loc rfl ?_
          refine w_loc rfl ?_
          refine w_loc rfl ?_
          have hc6 : pz_R (pz_Sh L) 25 [.inr (.inl 152), .inl s] (iv) (.inl (some (.inl ((iv 153) s.toNat)))) (iv) := s_X2_startOf_152 s (by omega)
          refine w_call hc6 rfl (pz_cokI is_152 rfl) ?_
          refine w_loc rfl ?_
          refine w_isub (by omega) ?_
          have hc7 : pz_R (pz_Sh L) 1 [.inl x, .inl (((iv 153) s.toNat) - ((iv 143) (10 * e + s).toNat))] (iv) (.inl (some (.inl (max x (((iv 153) s.toNat) - ((iv 143) (10 * e + s).toNat)))))) (iv) := s_J_max x (((iv 153) s.toNat) - ((iv 143) (10 * e + s).toNat))
          refine w_call hc7 rfl rfl ?_
          refine w_loc (ls' := [some (.inr (.inl 142)), some (.inl e), some (.inr (.inl 152)), some (.inl (max x (((iv 153) s.toNat) - ((iv 143) (10 * e + s).toNat)))), some (.inl s), some (.inl ((iv 143) (10 * e + s).toNat))]) (st' := []) rfl ?_
          refine w_nil ?_
          refine pz_G_of pz_b103_56 ?_
          refine w_iinc (ls' := [some (.inr (.inl 142)), some (.inl e), some (.inr (.inl 152)), some (.inl (max x (((iv 153) s.toNat) - ((iv 143) (10 * e + s).toNat)))), some (.inl (s + 1)), some (.inl ((iv 143) (10 * e + s).toNat))]) rfl rfl rfl (by omega) ?_
          refine w_goto ?_
          exact ih5 _ (by omega) (max x (((iv 153) s.toNat) - ((iv 143) (10 * e + s).toNat))) (s + 1) (some (.inl ((iv 143) (10 * e + s).toNat))) rfl rfl (by omega) (by rw [q_fr_s (by omega), ← hx]; unfold q_loS; first | ((rw [q_if_t (by omega)]) <;> omega) | ((rw [q_if_f (by omega)]) <;> omega) | (by_cases hq : x < (iv 153) s.toNat - v (100 * 0 + 10 * e + s).toNat; ((rw [q_if_t (by omega)]) <;> omega); ((rw [q_if_f (by omega)]) <;> omega))) (by omega)
  exact lp5 _ 0 0 (none) rfl rfl (by omega) (by rw [q_fr_0 (by omega)]) (by omega)

theorem s_X8_windowHigh_152 {L : Nat} {iv : Nat → Nat → Int} (e : Int) {k : Nat → Int} {v : Nat → Int} (hk : q_KR k) (hE : q_cE k (iv 3)) (hr : (-1 ≤ (iv 152) 0 ∧ (iv 152) 0 ≤ 1000000000) ∧ q_al (iv 153)) (hVU : q_VU k v (iv 143) (iv 145)) (hvb : q_vb v) (he : 0 ≤ e ∧ e < k 0) : pz_R (pz_Sh L) 104 [.inr (.inl 142), .inl e, .inr (.inl 152)] iv (.inl (some (.inl (q_hi v (iv 153) k e)))) iv := by
  intro dv cc ss
  have hk0 := hk.r0
  have hE0 := hE
  show pz_G 104 0 [some (.inr (.inl 142)), some (.inl e), some (.inr (.inl 152)), none, none, none] [] (pz_Sh L, iv, dv, cc, ss) (pz_P (pz_Sh L) (.inl (some (.inl (q_hi v (iv 153) k e)))) iv dv cc ss)
  refine pz_G_of pz_b104_0 ?_
  refine w_pure rfl ?_
  refine w_loc (ls' := [some (.inr (.inl 142)), some (.inl e), some (.inr (.inl 152)), some (.inl 9999), none, none]) (st' := []) rfl ?_
  refine w_pure rfl ?_
  refine w_loc (ls' := [some (.inr (.inl 142)), some (.inl e), some (.inr (.inl 152)), some (.inl 9999), some (.inl 0), none]) (st' := []) rfl ?_
  refine w_nil ?_
  have lp7 : ∀ (dd : Nat) (x : Int) (s : Int) (u7_5 : Option pz_V) (hu7_5 : pz_nc u7_5 = true), (k 0 - s).toNat = dd → ∀ (hs : 0 ≤ s ∧ s ≤ k 0), ∀ (hx : x = q_fr (q_hiS v (iv 153) e) 0 s 9999), ∀ (hxr : -2000000000 ≤ x ∧ x ≤ 2000000000),  pz_G 104 7 [some (.inr (.inl 142)), some (.inl e), some (.inr (.inl 152)), some (.inl x), some (.inl s), u7_5] [] (pz_Sh L, iv, dv, cc, ss) (pz_P (pz_Sh L) (.inl (some (.inl (q_hi v (iv 153) k e)))) iv dv cc ss) := by
    intro dd7
    induction dd7 using Nat.strongRecOn with
    | _ dd7 ih7 =>
    intro x s u7_5 hu7_5 hd7 hs hx hxr
    have hal := fun h => hr.2 s hs.1 h
    have hv1 := fun h => hVU.1 s e hs.1 h he.1 he.2
    have hv2 := fun h => hvb (100 * 0 + 10 * s + e).toNat h
    have hn := fun h => q_N_v (hv2 h)
    refine pz_G_of pz_b104_7 ?_
    refine w_loc rfl ?_
    refine w_loc rfl ?_
    refine w_getR (q := 3) is_142 rf_142_0 ?_
    refine w_getI (v := (iv 3) 0) is_3 (by decide) rfl ?_
    refine w_ige (fun h1 => ?_) (fun h1 => ?_)
    · refine pz_G_of pz_b104_64 ?_
      refine w_loc rfl ?_
      refine w_ret rfl ?_
      exact lf_i (by rw [hx, show s = k 0 by omega]; rfl) rfl
    · refine w_loc rfl ?_
      refine w_loc rfl ?_
      refine w_loc rfl ?_
      have hc2 : pz_R (pz_Sh L) 91 [.inr (.inl 142), .inl s, .inl e] (iv) (.inl (some (.inl ((iv 143) (10 * s + e).toNat)))) (iv) := s_X8_valueOf s e (by omega) (by omega)
      refine w_call hc2 rfl (pz_cokI is_142 rfl) ?_
      refine w_loc (ls' := [some (.inr (.inl 142)), some (.inl e), some (.inr (.inl 152)), some (.inl x), some (.inl s), some (.inl ((iv 143) (10 * s + e).toNat))]) (st' := []) rfl ?_
      refine w_loc rfl ?_
      refine w_loc rfl ?_
      have hc3 : pz_R (pz_Sh L) 26 [.inr (.inl 152), .inl s] (iv) (.inl (some (.inl (pz_bi ((iv 153) s.toNat ≠ -1))))) (iv) := s_X2_hasStarted_152 s (by omega)
      refine w_call hc3 rfl (pz_cokI is_152 rfl) ?_
      refine w_beq (fun h4 => ?_) (fun h4 => ?_)
      · refine pz_G_of pz_b104_58 ?_
        refine w_iinc (ls' := [some (.inr (.inl 142)), some (.inl e), some (.inr (.inl 152)), some (.inl x), some (.inl (s + 1)), some (.inl ((iv 143) (10 * s + e).toNat))]) rfl rfl rfl (by omega) ?_
        refine w_goto ?_
        exact ih7 _ (by omega) x (s + 1) (some (.inl ((iv 143) (10 * s + e).toNat))) rfl rfl (by omega) (by rw [q_fr_s (by omega), ← hx]; unfold q_hiS; first | ((rw [q_if_t (by omega)]) <;> omega) | ((rw [q_if_f (by omega)]) <;> omega) | (by_cases hq : (iv 153) s.toNat + v (100 * 0 + 10 * s + e).toNat < x; ((rw [q_if_t (by omega)]) <;> omega); ((rw [q_if_f (by omega)]) <;> omega))) (by omega)
      · refine w_loc rfl ?_
        refine w_ldcv (v := 1000000000) rfl ?_
        refine w_ieq (fun h5 => ?_) (fun h5 => ?_)
        · refine pz_G_of pz_b104_58 ?_
          refine w_iinc (ls' := [some (.inr (.inl 142)), some (.inl e), some (.inr (.inl 152)), some (.inl x), some (.inl (s + 1)), some (.inl ((iv 143) (10 * s + e).toNat))]) rfl rfl rfl (by omega) ?_
          refine w_goto ?_
          exact ih7 _ (by omega) x (s + 1) (some (.inl ((iv 143) (10 * s + e).toNat))) rfl rfl (by omega) (by rw [q_fr_s (by omega), ← hx]; unfold q_hiS; first | ((rw [q_if_t (by omega)]) <;> omega) | ((rw [q_if_f (by omega)]) <;> omega) | (by_cases hq : (iv 153) s.toNat + v (100 * 0 + 10 * s + e).toNat < x; ((rw [q_if_t (by omega)]) <;> omega); ((rw [q_if_f (by omega)]) <;> omega))) (by omega)
        · refine w_loc rfl ?_
          refine w_loc rfl ?_
          refine w_loc rfl ?_
          have hc6 : pz_R (pz_Sh L) 25 [.inr (.inl 152), .inl s] (iv) (.inl (some (.inl ((iv 153) s.toNat)))) (iv) := s_X2_startOf_152 s (by omega)
          refine w_call hc6 rfl (pz_cokI is_152 rfl) ?_
          refine w_loc rfl ?_
          refine w_iadd (by omega) ?_
          have hc7 : pz_R (pz_Sh L) 2 [.inl x, .inl (((iv 153) s.toNat) + ((iv 143) (10 * s + e).toNat))] (iv) (.inl (some (.inl (min x (((iv 153) s.toNat) + ((iv 143) (10 * s + e).toNat)))))) (iv) := s_J_min x (((iv 153) s.toNat) + ((iv 143) (10 * s + e).toNat))
          refine w_call hc7 rfl rfl ?_
          refine w_loc (ls' := [some (.inr (.inl 142)), some (.inl e), some (.inr (.inl 152)), some (.inl (min x (((iv 153) s.toNat) + ((iv 143) (10 * s + e).toNat)))), some (.inl s), some (.inl ((iv 143) (10 * s + e).toNat))]) (st' := []) rfl ?_
          refine w_nil ?_
          refine pz_G_of pz_b104_58 ?_
          refine w_iinc (ls' := [some (.inr (.inl 142)), some (.inl e), some (.inr (.inl 152)), some (.inl (min x (((iv 153) s.toNat) + ((iv 143) (10 * s + e).toNat)))), some (.inl (s + 1)), some (.inl ((iv 143) (10 * s + e).toNat))]) rfl rfl rfl (by omega) ?_
          refine w_goto ?_
          exact ih7 _ (by omega) (min x (((iv 153) s.toNat) + ((iv 143) (10 * s + e).toNat))) (s + 1) (some (.inl ((iv 143) (10 * s + e).toNat))) rfl rfl (by omega) (by rw [q_fr_s (by omega), ← hx]; unfold q_hiS; first | ((rw [q_if_t (by omega)]) <;> omega) | ((rw [q_if_f (by omega)]) <;> omega) | (by_cases hq : (iv 153) s.toNat + v (100 * 0 + 10 * s + e).toNat < x; ((rw [q_if_t (by omega)]) <;> omega); ((rw [q_if_f (by omega)]) <;> omega))) (by omega)
  exact lp7 _ 9999 0 (none) rfl rfl (by omega) (by rw [q_fr_0 (by omega)]) (by omega)

theorem s_X8_isBehindAnother_152 {L : Nat} {iv : Nat → Nat → Int} (e : Int) {k : Nat → Int} {v : Nat → Int} (hk : q_KR k) (hE : q_cE k (iv 3)) (hr : (-1 ≤ (iv 152) 0 ∧ (iv 152) 0 ≤ 1000000000) ∧ q_al (iv 153)) (hVU : q_VU k v (iv 143) (iv 145)) (hvb : q_vb v) (he : 0 ≤ e ∧ e < k 0) : pz_R (pz_Sh L) 106 [.inr (.inl 142), .inl e, .inr (.inl 152)] iv (.inl (some (.inl (pz_bi (q_bh v (iv 153) k e))))) iv := by
  intro dv cc ss
  have hk0 := hk.r0
  have hE0 := hE
  show pz_G 106 0 [some (.inr (.inl 142)), some (.inl e), some (.inr (.inl 152)), none] [] (pz_Sh L, iv, dv, cc, ss) (pz_P (pz_Sh L) (.inl (some (.inl (pz_bi (q_bh v (iv 153) k e))))) iv dv cc ss)
  refine pz_G_of pz_b106_0 ?_
  refine w_pure rfl ?_
  refine w_loc (ls' := [some (.inr (.inl 142)), some (.inl e), some (.inr (.inl 152)), some (.inl 0)]) (st' := []) rfl ?_
  refine w_nil ?_
  have lp2 : ∀ (dd : Nat) (s : Int) , (k 0 - s).toNat = dd → ∀ (hs : 0 ≤ s ∧ s ≤ k 0), ∀ (hno : ∀ i : Int, 0 ≤ i → i < s → ¬ q_bhP v (iv 153) e i),  pz_G 106 2 [some (.inr (.inl 142)), some (.inl e), some (.inr (.inl 152)), some (.inl s)] [] (pz_Sh L, iv, dv, cc, ss) (pz_P (pz_Sh L) (.inl (some (.inl (pz_bi (q_bh v (iv 153) k e))))) iv dv cc ss) := by
    intro dd2
    induction dd2 using Nat.strongRecOn with
    | _ dd2 ih2 =>
    intro s  hd2 hs hno
    have hv1 := fun h => hVU.1 e s he.1 he.2 hs.1 h
    have hv2 := fun h => hvb (100 * 0 + 10 * e + s).toNat h
    have hn := fun h => q_N_v (hv2 h)
    refine pz_G_of pz_b106_2 ?_
    refine w_loc rfl ?_
    refine w_loc rfl ?_
    refine w_getR (q := 3) is_142 rf_142_0 ?_
    refine w_getI (v := (iv 3) 0) is_3 (by decide) rfl ?_
    refine w_ige (fun h1 => ?_) (fun h1 => ?_)
    · refine pz_G_of pz_b106_38 ?_
      refine w_pure rfl ?_
      refine w_ret (pz_rok1 (Or.inl rfl)) ?_
      first | exact lf_i (pz_bi_t ⟨s, by omega, by omega, by omega⟩) rfl | exact lf_i (pz_bi_f (fun ⟨j, g1, g2, g3⟩ => hno j g1 (by omega) g3)) rfl
    · refine w_loc rfl ?_
      refine w_loc rfl ?_
      have hc2 : pz_R (pz_Sh L) 26 [.inr (.inl 152), .inl s] (iv) (.inl (some (.inl (pz_bi ((iv 153) s.toNat ≠ -1))))) (iv) := s_X2_hasStarted_152 s (by omega)
      refine w_call hc2 rfl (pz_cokI is_152 rfl) ?_
      refine w_bne (fun h3 => ?_) (fun h3 => ?_)
      · refine pz_G_of pz_b106_32 ?_
        refine w_iinc (ls' := [some (.inr (.inl 142)), some (.inl e), some (.inr (.inl 152)), some (.inl (s + 1))]) rfl rfl rfl (by omega) ?_
        refine w_goto ?_
        exact ih2 _ (by omega) (s + 1)  rfl (by omega) (by intro i g1 g2; by_cases g3 : i = s; (rw [g3]; omega); exact hno i g1 (by omega))
      · refine w_loc rfl ?_
        refine w_loc rfl ?_
        refine w_loc rfl ?_
        have hc4 : pz_R (pz_Sh L) 91 [.inr (.inl 142), .inl e, .inl s] (iv) (.inl (some (.inl ((iv 143) (10 * e + s).toNat)))) (iv) := s_X8_valueOf e s (by omega) (by omega)
        refine w_call hc4 rfl (pz_cokI is_142 rfl) ?_
        refine w_zge (fun h5 => ?_) (fun h5 => ?_)
        · refine pz_G_of pz_b106_32 ?_
          refine w_iinc (ls' := [some (.inr (.inl 142)), some (.inl e), some (.inr (.inl 152)), some (.inl (s + 1))]) rfl rfl rfl (by omega) ?_
          refine w_goto ?_
          exact ih2 _ (by omega) (s + 1)  rfl (by omega) (by intro i g1 g2; by_cases g3 : i = s; (rw [g3]; omega); exact hno i g1 (by omega))
        · refine w_pure rfl ?_
          refine w_ret (pz_rok1 (Or.inr rfl)) ?_
          first | exact lf_i (pz_bi_t ⟨s, by omega, by omega, by omega⟩) rfl | exact lf_i (pz_bi_f (fun ⟨j, g1, g2, g3⟩ => hno j g1 (by omega) g3)) rfl
  exact lp2 _ 0  rfl (by omega) (by intro i g1 g2; omega)

theorem s_X8_mustWait_152 {L : Nat} {iv : Nat → Nat → Int} (e : Int) {k : Nat → Int} {v : Nat → Int} (hk : q_KR k) (hE : q_cE k (iv 3)) (hS : q_cS k (iv 10) (iv 11) (iv 12) (iv 13) (iv 14)) (hr : (-1 ≤ (iv 152) 0 ∧ (iv 152) 0 ≤ 1000000000) ∧ q_al (iv 153)) (hVU : q_VU k v (iv 143) (iv 145)) (hvb : q_vb v) (he : 0 ≤ e ∧ e < k 0) : pz_R (pz_Sh L) 107 [.inr (.inl 142), .inl e, .inr (.inl 152)] iv (.inl (some (.inl (pz_bi (q_mw v (iv 153) k e ((iv 152) 0)))))) iv := by
  intro dv cc ss
  have hk0 := hk.r0
  have hE0 := hE
  have hS0 := hS.1
  show pz_G 107 0 [some (.inr (.inl 142)), some (.inl e), some (.inr (.inl 152)), none, none, none, none] [] (pz_Sh L, iv, dv, cc, ss) (pz_P (pz_Sh L) (.inl (some (.inl (pz_bi (q_mw v (iv 153) k e ((iv 152) 0)))))) iv dv cc ss)
  refine pz_G_of pz_b107_0 ?_
  refine w_loc rfl ?_
  refine w_getR (q := 3) is_142 rf_142_0 ?_
  refine w_getR (q := 10) is_3 rf_3_2 ?_
  refine w_loc (ls' := [some (.inr (.inl 142)), some (.inl e), some (.inr (.inl 152)), some (.inr (.inl 10)), none, none, none]) (st' := []) rfl ?_
  refine w_pure rfl ?_
  refine w_loc (ls' := [some (.inr (.inl 142)), some (.inl e), some (.inr (.inl 152)), some (.inr (.inl 10)), some (.inl 0), none, none]) (st' := []) rfl ?_
  refine w_nil ?_
  have lp11 : ∀ (dd : Nat) (s : Int) (u11_5 : Option pz_V) (hu11_5 : pz_nc u11_5 = true) (u11_6 : Option pz_V) (hu11_6 : pz_nc u11_6 = true), (k 2 - s).toNat = dd → ∀ (hs : 0 ≤ s ∧ s ≤ k 2), ∀ (hno : ∀ i : Int, 0 ≤ i → i < s → ¬ q_mwP v (iv 153) k e (iv 152 0) i),  pz_G 107 11 [some (.inr (.inl 142)), some (.inl e), some (.inr (.inl 152)), some (.inr (.inl 10)), some (.inl s), u11_5, u11_6] [] (pz_Sh L, iv, dv, cc, ss) (pz_P (pz_Sh L) (.inl (some (.inl (pz_bi (q_mw v (iv 153) k e ((iv 152) 0)))))) iv dv cc ss) := by
    intro dd11
    induction dd11 using Nat.strongRecOn with
    | _ dd11 ih11 =>
    intro s u11_5 hu11_5 u11_6 hu11_6 hd11 hs hno
    have hsp := fun h => hk.sp hs.1 h
    have hwt := fun h => q_wt_r (v := v) (k := k) (e := e) (s := s) (fun j hj => (hvb j hj).1) h
    have hal := fun h1 h2 => hr.2 (k (212 + 4 * s).toNat) h1 h2
    refine pz_G_of pz_b107_11 ?_
    refine w_loc rfl ?_
    refine w_loc rfl ?_
    refine w_getI (v := (iv 10) 0) is_10 (by decide) rfl ?_
    refine w_ige (fun h1 => ?_) (fun h1 => ?_)
    · refine pz_G_of pz_b107_89 ?_
      refine w_pure rfl ?_
      refine w_ret (pz_rok1 (Or.inl rfl)) ?_
      first | exact lf_i (pz_bi_t ⟨s, by omega, by omega, by omega⟩) rfl | exact lf_i (pz_bi_f (fun ⟨j, g1, g2, g3⟩ => hno j g1 (by omega) g3)) rfl
    · refine w_loc rfl ?_
      refine w_loc rfl ?_
      refine w_loc rfl ?_
      have hc2 : pz_R (pz_Sh L) 102 [.inr (.inl 142), .inl e, .inl s] (iv) (.inl (some (.inl (q_wt v k e s)))) (iv) := s_X8_waitOf e s (by exact hk) (by exact hVU) (by exact hvb) (by omega) (by omega)
      refine w_call hc2 rfl (pz_cokI is_142 rfl) ?_
      refine w_loc (ls' := [some (.inr (.inl 142)), some (.inl e), some (.inr (.inl 152)), some (.inr (.inl 10)), some (.inl s), some (.inl (q_wt v k e s)), u11_6]) (st' := []) rfl ?_
      refine w_loc rfl ?_
      refine w_loc rfl ?_
      refine w_loc rfl ?_
      have hc3 : pz_R (pz_Sh L) 110 [.inr (.inl 10), .inl s] (iv) (.inl (some (.inl (k (212 + 4 * s).toNat)))) (iv) := s_X9_firstOf s (by exact hk) (by exact hS) (by omega)
      refine w_call hc3 rfl (pz_cokI is_10 rfl) ?_
      have hc4 : pz_R (pz_Sh L) 26 [.inr (.inl 152), .inl (k (212 + 4 * s).toNat)] (iv) (.inl (some (.inl (pz_bi ((iv 153) (k (212 + 4 * s).toNat).toNat ≠ -1))))) (iv) := s_X2_hasStarted_152 (k (212 + 4 * s).toNat) (by omega)
      refine w_call hc4 rfl (pz_cokI is_152 rfl) ?_
      refine w_beq (fun h5 => ?_) (fun h5 => ?_)
      · refine pz_G_of pz_b107_58 ?_
        refine w_pure rfl ?_
        refine w_nil ?_
        refine pz_G_of pz_b107_59 ?_
        refine w_loc (ls' := [some (.inr (.inl 142)), some (.inl e), some (.inr (.inl 152)), some (.inr (.inl 10)), some (.inl s), some (.inl (q_wt v k e s)), some (.inl 0)]) (st' := []) rfl ?_
        refine w_loc rfl ?_
        refine w_zle (fun h6 => ?_) (fun h6 => ?_)
        · refine pz_G_of pz_b107_83 ?_
          refine w_iinc (ls' := [some (.inr (.inl 142)), some (.inl e), some (.inr (.inl 152)), some (.inr (.inl 10)), some (.inl (s + 1)), some (.inl (q_wt v k e s)), some (.inl 0)]) rfl rfl rfl (by omega) ?_
          refine w_goto ?_
          exact ih11 _ (by omega) (s + 1) (some (.inl (q_wt v k e s))) rfl (some (.inl 0)) rfl rfl (by omega) (by intro i g1 g2; by_cases g3 : i = s; (rw [g3]; omega); exact hno i g1 (by omega))
        · refine w_loc rfl ?_
          refine w_loc rfl ?_
          refine w_loc rfl ?_
          have hc7 : pz_R (pz_Sh L) 116 [.inr (.inl 10), .inl s, .inr (.inl 152)] (iv) (.inl (some (.inl (pz_bi ((iv 153) (k (212 + 4 * s + 1).toNat).toNat ≠ -1))))) (iv) := s_X9_hasEnded_152 s (by exact hk) (by exact hS) (by omega)
          refine w_call hc7 rfl (pz_cokI is_10 rfl) ?_
          refine w_bne (fun h8 => ?_) (fun h8 => ?_)
          · refine pz_G_of pz_b107_83 ?_
            refine w_iinc (ls' := [some (.inr (.inl 142)), some (.inl e), some (.inr (.inl 152)), some (.inr (.inl 10)), some (.inl (s + 1)), some (.inl (q_wt v k e s)), some (.inl 0)]) rfl rfl rfl (by omega) ?_
            refine w_goto ?_
            exact ih11 _ (by omega) (s + 1) (some (.inl (q_wt v k e s))) rfl (some (.inl 0)) rfl rfl (by omega) (by intro i g1 g2; by_cases g3 : i = s; (rw [g3]; omega); exact hno i g1 (by omega))
          · refine w_loc rfl ?_
            refine w_zne (fun h => absurd h (by decide)) (fun _ => ?_)
            refine w_pure rfl ?_
            refine w_ret (pz_rok1 (Or.inr rfl)) ?_
            first | exact lf_i (pz_bi_t ⟨s, by omega, by omega, by omega⟩) rfl | exact lf_i (pz_bi_f (fun ⟨j, g1, g2, g3⟩ => hno j g1 (by omega) g3)) rfl
      · refine w_loc rfl ?_
        refine w_loc rfl ?_
        refine w_loc rfl ?_
        have hc9 : pz_R (pz_Sh L) 118 [.inr (.inl 10), .inl s, .inr (.inl 152)] (iv) (.inl (some (.inl ((iv 152) 0 - (iv 153) (k (212 + 4 * s).toNat).toNat)))) (iv) := s_X9_minutesGone_152 s (by exact hk) (by exact hS) (by omega) (by first | assumption | omega)
        refine w_call hc9 rfl (pz_cokI is_10 rfl) ?_
        refine w_loc rfl ?_
        refine w_ilt (fun h10 => ?_) (fun h10 => ?_)
        · refine pz_G_of pz_b107_58 ?_
          refine w_pure rfl ?_
          refine w_nil ?_
          refine pz_G_of pz_b107_59 ?_
          refine w_loc (ls' := [some (.inr (.inl 142)), some (.inl e), some (.inr (.inl 152)), some (.inr (.inl 10)), some (.inl s), some (.inl (q_wt v k e s)), some (.inl 0)]) (st' := []) rfl ?_
          refine w_loc rfl ?_
          refine w_zle (fun h11 => ?_) (fun h11 => ?_)
          · refine pz_G_of pz_b107_83 ?_
            refine w_iinc (ls' := [some (.inr (.inl 142)), some (.inl e), some (.inr (.inl 152)), some (.inr (.inl 10)), some (.inl (s + 1)), some (.inl (q_wt v k e s)), some (.inl 0)]) rfl rfl rfl (by omega) ?_
            refine w_goto ?_
            exact ih11 _ (by omega) (s + 1) (some (.inl (q_wt v k e s))) rfl (some (.inl 0)) rfl rfl (by omega) (by intro i g1 g2; by_cases g3 : i = s; (rw [g3]; omega); exact hno i g1 (by omega))
          · refine w_loc rfl ?_
            refine w_loc rfl ?_
            refine w_loc rfl ?_
            have hc12 : pz_R (pz_Sh L) 116 [.inr (.inl 10), .inl s, .inr (.inl 152)] (iv) (.inl (some (.inl (pz_bi ((iv 153) (k (212 + 4 * s + 1).toNat).toNat ≠ -1))))) (iv) := s_X9_hasEnded_152 s (by exact hk) (by exact hS) (by omega)
            refine w_call hc12 rfl (pz_cokI is_10 rfl) ?_
            refine w_bne (fun h13 => ?_) (fun h13 => ?_)
            · refine pz_G_of pz_b107_83 ?_
              refine w_iinc (ls' := [some (.inr (.inl 142)), some (.inl e), some (.inr (.inl 152)), some (.inr (.inl 10)), some (.inl (s + 1)), some (.inl (q_wt v k e s)), some (.inl 0)]) rfl rfl rfl (by omega) ?_
              refine w_goto ?_
              exact ih11 _ (by omega) (s + 1) (some (.inl (q_wt v k e s))) rfl (some (.inl 0)) rfl rfl (by omega) (by intro i g1 g2; by_cases g3 : i = s; (rw [g3]; omega); exact hno i g1 (by omega))
            · refine w_loc rfl ?_
              refine w_zne (fun h => absurd h (by decide)) (fun _ => ?_)
              refine w_pure rfl ?_
              refine w_ret (pz_rok1 (Or.inr rfl)) ?_
              first | exact lf_i (pz_bi_t ⟨s, by omega, by omega, by omega⟩) rfl | exact lf_i (pz_bi_f (fun ⟨j, g1, g2, g3⟩ => hno j g1 (by omega) g3)) rfl
        · refine w_pure rfl ?_
          refine w_goto ?_
          refine pz_G_of pz_b107_59 ?_
          refine w_loc (ls' := [some (.inr (.inl 142)), some (.inl e), some (.inr (.inl 152)), some (.inr (.inl 10)), some (.inl s), some (.inl (q_wt v k e s)), some (.inl 1)]) (st' := []) rfl ?_
          refine w_loc rfl ?_
          refine w_zle (fun h14 => ?_) (fun h14 => ?_)
          · refine pz_G_of pz_b107_83 ?_
            refine w_iinc (ls' := [some (.inr (.inl 142)), some (.inl e), some (.inr (.inl 152)), some (.inr (.inl 10)), some (.inl (s + 1)), some (.inl (q_wt v k e s)), some (.inl 1)]) rfl rfl rfl (by omega) ?_
            refine w_goto ?_
            exact ih11 _ (by omega) (s + 1) (some (.inl (q_wt v k e s))) rfl (some (.inl 1)) rfl rfl (by omega) (by intro i g1 g2; by_cases g3 : i = s; (rw [g3]; omega); exact hno i g1 (by omega))
          · refine w_loc rfl ?_
            refine w_loc rfl ?_
            refine w_loc rfl ?_
            have hc15 : pz_R (pz_Sh L) 116 [.inr (.inl 10), .inl s, .inr (.inl 152)] (iv) (.inl (some (.inl (pz_bi ((iv 153) (k (212 + 4 * s + 1).toNat).toNat ≠ -1))))) (iv) := s_X9_hasEnded_152 s (by exact hk) (by exact hS) (by omega)
            refine w_call hc15 rfl (pz_cokI is_10 rfl) ?_
            refine w_bne (fun h16 => ?_) (fun h16 => ?_)
            · refine pz_G_of pz_b107_83 ?_
              refine w_iinc (ls' := [some (.inr (.inl 142)), some (.inl e), some (.inr (.inl 152)), some (.inr (.inl 10)), some (.inl (s + 1)), some (.inl (q_wt v k e s)), some (.inl 1)]) rfl rfl rfl (by omega) ?_
              refine w_goto ?_
              exact ih11 _ (by omega) (s + 1) (some (.inl (q_wt v k e s))) rfl (some (.inl 1)) rfl rfl (by omega) (by intro i g1 g2; by_cases g3 : i = s; (rw [g3]; omega); exact hno i g1 (by omega))
            · refine w_loc rfl ?_
              refine w_zne (fun _ => ?_) (fun h => absurd h (by decide))
              refine pz_G_of pz_b107_83 ?_
              refine w_iinc (ls' := [some (.inr (.inl 142)), some (.inl e), some (.inr (.inl 152)), some (.inr (.inl 10)), some (.inl (s + 1)), some (.inl (q_wt v k e s)), some (.inl 1)]) rfl rfl rfl (by omega) ?_
              refine w_goto ?_
              exact ih11 _ (by omega) (s + 1) (some (.inl (q_wt v k e s))) rfl (some (.inl 1)) rfl rfl (by omega) (by intro i g1 g2; by_cases g3 : i = s; (rw [g3]; omega); exact hno i g1 (by omega))
  exact lp11 _ 0 (none) rfl (none) rfl rfl (by omega) (by intro i g1 g2; omega)

theorem s_X8_reasonAgainst_152 {L : Nat} {iv : Nat → Nat → Int} (e : Int) {k : Nat → Int} {v : Nat → Int} (hk : q_KR k) (hE : q_cE k (iv 3)) (hS : q_cS k (iv 10) (iv 11) (iv 12) (iv 13) (iv 14)) (hr : (-1 ≤ (iv 152) 0 ∧ (iv 152) 0 ≤ 1000000000) ∧ q_al (iv 153)) (hVU : q_VU k v (iv 143) (iv 145)) (hvb : q_vb v) (he : 0 ≤ e ∧ e < k 0) : pz_R (pz_Sh L) 105 [.inr (.inl 142), .inl e, .inr (.inl 152)] iv (.inl (some (.inl (q_rs v (iv 153) k e ((iv 152) 0))))) iv := by
  intro dv cc ss
  have hk0 := hk.r0
  have hE0 := hE
  have hS0 := hS.1
  have hie := q_we_ie (k := k) (e := e) (by omega)
  show pz_G 105 0 [some (.inr (.inl 142)), some (.inl e), some (.inr (.inl 152))] [] (pz_Sh L, iv, dv, cc, ss) (pz_P (pz_Sh L) (.inl (some (.inl (q_rs v (iv 153) k e ((iv 152) 0))))) iv dv cc ss)
  refine pz_G_of pz_b105_0 ?_
  refine w_loc rfl ?_
  refine w_loc rfl ?_
  have hc1 : pz_R (pz_Sh L) 26 [.inr (.inl 152), .inl e] (iv) (.inl (some (.inl (pz_bi ((iv 153) e.toNat ≠ -1))))) (iv) := s_X2_hasStarted_152 e (by omega)
  refine w_call hc1 rfl (pz_cokI is_152 rfl) ?_
  refine w_beq (fun h2 => ?_) (fun h2 => ?_)
  · refine pz_G_of pz_b105_11 ?_
    refine w_loc rfl ?_
    refine w_getR (q := 3) is_142 rf_142_0 ?_
    refine w_getR (q := 10) is_3 rf_3_2 ?_
    refine w_loc rfl ?_
    have hc3 : pz_R (pz_Sh L) 115 [.inr (.inl 10), .inl e] (iv) (.inl (some (.inl (q_we k e)))) (iv) := s_X9_withEnd e (by exact hk) (by exact hS)
    refine w_call hc3 rfl (pz_cokI is_10 rfl) ?_
    refine w_pure rfl ?_
    refine w_ieq (fun h4 => ?_) (fun h4 => ?_)
    · refine pz_G_of pz_b105_29 ?_
      refine w_loc rfl ?_
      refine w_loc rfl ?_
      refine w_loc rfl ?_
      have hc5 : pz_R (pz_Sh L) 106 [.inr (.inl 142), .inl e, .inr (.inl 152)] (iv) (.inl (some (.inl (pz_bi (q_bh v (iv 153) k e))))) (iv) := s_X8_isBehindAnother_152 e (by exact hk) (by exact hE) (by first | assumption | omega) (by exact hVU) (by exact hvb) (by omega)
      refine w_call hc5 rfl (pz_cokI is_142 rfl) ?_
      refine w_beq (fun h6 => ?_) (fun h6 => ?_)
      · refine pz_G_of pz_b105_41 ?_
        refine w_loc rfl ?_
        refine w_loc rfl ?_
        refine w_loc rfl ?_
        have hc7 : pz_R (pz_Sh L) 107 [.inr (.inl 142), .inl e, .inr (.inl 152)] (iv) (.inl (some (.inl (pz_bi (q_mw v (iv 153) k e ((iv 152) 0)))))) (iv) := s_X8_mustWait_152 e (by exact hk) (by exact hE) (by exact hS) (by first | assumption | omega) (by exact hVU) (by exact hvb) (by omega)
        refine w_call hc7 rfl (pz_cokI is_142 rfl) ?_
        refine w_beq (fun h8 => ?_) (fun h8 => ?_)
        · refine pz_G_of pz_b105_53 ?_
          refine w_loc rfl ?_
          refine w_getI (v := (iv 152) 0) is_152 (by decide) rfl ?_
          refine w_loc rfl ?_
          refine w_loc rfl ?_
          refine w_loc rfl ?_
          have hc9 : pz_R (pz_Sh L) 103 [.inr (.inl 142), .inl e, .inr (.inl 152)] (iv) (.inl (some (.inl (q_lo v (iv 153) k e)))) (iv) := s_X8_windowLow_152 e (by exact hk) (by exact hE) (by first | assumption | omega) (by exact hVU) (by exact hvb) (by omega)
          refine w_call hc9 rfl (pz_cokI is_142 rfl) ?_
          refine w_ige (fun h10 => ?_) (fun h10 => ?_)
          · refine pz_G_of pz_b105_69 ?_
            refine w_loc rfl ?_
            refine w_getI (v := (iv 152) 0) is_152 (by decide) rfl ?_
            refine w_loc rfl ?_
            refine w_loc rfl ?_
            refine w_loc rfl ?_
            have hc11 : pz_R (pz_Sh L) 104 [.inr (.inl 142), .inl e, .inr (.inl 152)] (iv) (.inl (some (.inl (q_hi v (iv 153) k e)))) (iv) := s_X8_windowHigh_152 e (by exact hk) (by exact hE) (by first | assumption | omega) (by exact hVU) (by exact hvb) (by omega)
            refine w_call hc11 rfl (pz_cokI is_142 rfl) ?_
            refine w_ile (fun h12 => ?_) (fun h12 => ?_)
            · refine pz_G_of pz_b105_87 ?_
              refine w_pure rfl ?_
              refine w_nil ?_
              refine pz_G_of pz_b105_89 ?_
              refine w_ret (pz_rok2 (by omega)) ?_
              exact lf_i (by unfold q_rs; first | rw [q_if_t (by omega)] | (rw [q_if_f (by omega)]; first | rw [q_if_t (hie.mp (by assumption))] | (rw [q_if_f (fun q => absurd (hie.mpr q) (by omega))]; first | rw [q_if_t (by assumption)] | (rw [q_if_f (by assumption)]; first | rw [q_if_t (by assumption)] | (rw [q_if_f (by assumption)]; first | rw [q_if_t (by omega)] | (rw [q_if_f (by omega)]; first | rw [q_if_t (by omega)] | rw [q_if_f (by omega)])))))) rfl
            · refine w_pure rfl ?_
              refine w_goto ?_
              refine pz_G_of pz_b105_89 ?_
              refine w_ret (pz_rok2 (by omega)) ?_
              exact lf_i (by unfold q_rs; first | rw [q_if_t (by omega)] | (rw [q_if_f (by omega)]; first | rw [q_if_t (hie.mp (by assumption))] | (rw [q_if_f (fun q => absurd (hie.mpr q) (by omega))]; first | rw [q_if_t (by assumption)] | (rw [q_if_f (by assumption)]; first | rw [q_if_t (by assumption)] | (rw [q_if_f (by assumption)]; first | rw [q_if_t (by omega)] | (rw [q_if_f (by omega)]; first | rw [q_if_t (by omega)] | rw [q_if_f (by omega)])))))) rfl
          · refine w_pure rfl ?_
            refine w_ret (pz_rok2 (by omega)) ?_
            exact lf_i (by unfold q_rs; first | rw [q_if_t (by omega)] | (rw [q_if_f (by omega)]; first | rw [q_if_t (hie.mp (by assumption))] | (rw [q_if_f (fun q => absurd (hie.mpr q) (by omega))]; first | rw [q_if_t (by assumption)] | (rw [q_if_f (by assumption)]; first | rw [q_if_t (by assumption)] | (rw [q_if_f (by assumption)]; first | rw [q_if_t (by omega)] | (rw [q_if_f (by omega)]; first | rw [q_if_t (by omega)] | rw [q_if_f (by omega)])))))) rfl
        · refine w_pure rfl ?_
          refine w_ret (pz_rok2 (by omega)) ?_
          exact lf_i (by unfold q_rs; first | rw [q_if_t (by omega)] | (rw [q_if_f (by omega)]; first | rw [q_if_t (hie.mp (by assumption))] | (rw [q_if_f (fun q => absurd (hie.mpr q) (by omega))]; first | rw [q_if_t (by assumption)] | (rw [q_if_f (by assumption)]; first | rw [q_if_t (by assumption)] | (rw [q_if_f (by assumption)]; first | rw [q_if_t (by omega)] | (rw [q_if_f (by omega)]; first | rw [q_if_t (by omega)] | rw [q_if_f (by omega)])))))) rfl
      · refine w_pure rfl ?_
        refine w_ret (pz_rok2 (by omega)) ?_
        exact lf_i (by unfold q_rs; first | rw [q_if_t (by omega)] | (rw [q_if_f (by omega)]; first | rw [q_if_t (hie.mp (by assumption))] | (rw [q_if_f (fun q => absurd (hie.mpr q) (by omega))]; first | rw [q_if_t (by assumption)] | (rw [q_if_f (by assumption)]; first | rw [q_if_t (by assumption)] | (rw [q_if_f (by assumption)]; first | rw [q_if_t (by omega)] | (rw [q_if_f (by omega)]; first | rw [q_if_t (by omega)] | rw [q_if_f (by omega)])))))) rfl
    · refine w_pure rfl ?_
      refine w_ret (pz_rok2 (by omega)) ?_
      exact lf_i (by unfold q_rs; first | rw [q_if_t (by omega)] | (rw [q_if_f (by omega)]; first | rw [q_if_t (hie.mp (by assumption))] | (rw [q_if_f (fun q => absurd (hie.mpr q) (by omega))]; first | rw [q_if_t (by assumption)] | (rw [q_if_f (by assumption)]; first | rw [q_if_t (by assumption)] | (rw [q_if_f (by assumption)]; first | rw [q_if_t (by omega)] | (rw [q_if_f (by omega)]; first | rw [q_if_t (by omega)] | rw [q_if_f (by omega)])))))) rfl
  · refine w_pure rfl ?_
    refine w_ret (pz_rok2 (by omega)) ?_
    exact lf_i (by unfold q_rs; first | rw [q_if_t (by omega)] | (rw [q_if_f (by omega)]; first | rw [q_if_t (hie.mp (by assumption))] | (rw [q_if_f (fun q => absurd (hie.mpr q) (by omega))]; first | rw [q_if_t (by assumption)] | (rw [q_if_f (by assumption)]; first | rw [q_if_t (by assumption)] | (rw [q_if_f (by assumption)]; first | rw [q_if_t (by omega)] | (rw [q_if_f (by omega)]; first | rw [q_if_t (by omega)] | rw [q_if_f (by omega)])))))) rfl
