
theorem s_X11_isSeen {L : Nat} {iv : Nat → Nat → Int} (hk : q_KR (iv 155)) : pz_R (pz_Sh L) 248 [.inr (.inl 154)] iv (.inl (some (.inl (pz_bi (q_seen (iv 155) (iv 161) (iv 157) (iv 158) (iv 159)))))) (pz_u1 (pz_u1 (pz_u1 (pz_u1 iv 154 (pz_up (q_zw (iv 155) (iv 161) (iv 157) (iv 158) (iv 159) (iv 154)) 0 0)) 157 ((q_zX (iv 155) (iv 161) (iv 157) (iv 158) (iv 159)).2.2)) 158 ((q_zX (iv 155) (iv 161) (iv 157) (iv 158) (iv 159)).1)) 159 ((q_zX (iv 155) (iv 161) (iv 157) (iv 158) (iv 159)).2.1)) := by
  intro dv cc ss
  have hk0 := hk.r0
  refine pz_G_mem (iv2 := pz_u1 (pz_u1 (pz_u1 (pz_u1 iv 154 (iv 154)) 157 (iv 157)) 158 (iv 158)) 159 (iv 159)) (by exact ((((pz_u1_self iv 154).symm).trans (pz_u1_self (pz_u1 iv 154 (iv 154)) 157).symm).trans (pz_u1_self (pz_u1 (pz_u1 iv 154 (iv 154)) 157 (iv 157)) 158).symm).trans (pz_u1_self (pz_u1 (pz_u1 (pz_u1 iv 154 (iv 154)) 157 (iv 157)) 158 (iv 158)) 159).symm) ?_
  show pz_G 248 0 [some (.inr (.inl 154))] [] (pz_Sh L, pz_u1 (pz_u1 (pz_u1 (pz_u1 iv 154 (iv 154)) 157 (iv 157)) 158 (iv 158)) 159 (iv 159), dv, cc, ss) (pz_P (pz_Sh L) (.inl (some (.inl (pz_bi (q_seen (iv 155) (iv 161) (iv 157) (iv 158) (iv 159)))))) (pz_u1 (pz_u1 (pz_u1 (pz_u1 iv 154 (pz_up (q_zw (iv 155) (iv 161) (iv 157) (iv 158) (iv 159) (iv 154)) 0 0)) 157 ((q_zX (iv 155) (iv 161) (iv 157) (iv 158) (iv 159)).2.2)) 158 ((q_zX (iv 155) (iv 161) (iv 157) (iv 158) (iv 159)).1)) 159 ((q_zX (iv 155) (iv 161) (iv 157) (iv 158) (iv 159)).2.1)) dv cc ss)
  refine pz_G_of pz_b248_0 ?_
  refine w_loc rfl ?_
  have hc1 : pz_R (pz_Sh L) 247 [.inr (.inl 154)] (pz_u1 (pz_u1 (pz_u1 (pz_u1 iv 154 (iv 154)) 157 (iv 157)) 158 (iv 158)) 159 (iv 159)) (.inl none) (pz_u1 (pz_u1 (pz_u1 (pz_u1 iv 154 (q_zw (iv 155) (iv 161) (iv 157) (iv 158) (iv 159) (iv 154))) 157 ((q_zX (iv 155) (iv 161) (iv 157) (iv 158) (iv 159)).2.2)) 158 ((q_zX (iv 155) (iv 161) (iv 157) (iv 158) (iv 159)).1)) 159 ((q_zX (iv 155) (iv 161) (iv 157) (iv 158) (iv 159)).2.1)) := pz_R_mem (s_X11_reduces (by show q_KR (iv 155); exact hk)) (by rw [pz_u1_in (r := 154) (q := 159) (by decide)]; rw [pz_u1_in (r := 154) (q := 158) (by decide)]; rw [pz_u1_in (r := 154) (q := 157) (by decide)]; rw [pz_u1_top (r := 154)]; rw [pz_u1_in (r := 157) (q := 159) (by decide)]; rw [pz_u1_in (r := 157) (q := 158) (by decide)]; rw [pz_u1_top (r := 157)]; rw [pz_u1_in (r := 158) (q := 159) (by decide)]; rw [pz_u1_top (r := 158)]; rw [pz_u1_top (r := 159)]; rfl)
  refine w_callv hc1 rfl (pz_cokI is_154 rfl) ?_
  refine w_loc rfl ?_
  refine w_pure rfl ?_
  refine w_loc rfl ?_
  refine w_getI (v := (q_zw (iv 155) (iv 161) (iv 157) (iv 158) (iv 159) (iv 154)) 7) is_154 (by decide) rfl ?_
  have hc2 : pz_R (pz_Sh L) 193 [.inr (.inl 154), .inl 0, .inl ((q_zw (iv 155) (iv 161) (iv 157) (iv 158) (iv 159) (iv 154)) 7)] (pz_u1 (pz_u1 (pz_u1 (pz_u1 iv 154 (q_zw (iv 155) (iv 161) (iv 157) (iv 158) (iv 159) (iv 154))) 157 ((q_zX (iv 155) (iv 161) (iv 157) (iv 158) (iv 159)).2.2)) 158 ((q_zX (iv 155) (iv 161) (iv 157) (iv 158) (iv 159)).1)) 159 ((q_zX (iv 155) (iv 161) (iv 157) (iv 158) (iv 159)).2.1)) (.inl (some (.inl (pz_bi ((0 : Int) = 0 ∧ (((q_zw (iv 155) (iv 161) (iv 157) (iv 158) (iv 159) (iv 154)) 7) : Int) = 1))))) (pz_u1 (pz_u1 (pz_u1 (pz_u1 iv 154 (pz_up (q_zw (iv 155) (iv 161) (iv 157) (iv 158) (iv 159) (iv 154)) 0 0)) 157 ((q_zX (iv 155) (iv 161) (iv 157) (iv 158) (iv 159)).2.2)) 158 ((q_zX (iv 155) (iv 161) (iv 157) (iv 158) (iv 159)).1)) 159 ((q_zX (iv 155) (iv 161) (iv 157) (iv 158) (iv 159)).2.1)) := pz_R_mem (s_X11_asks 0 ((q_zw (iv 155) (iv 161) (iv 157) (iv 158) (iv 159) (iv 154)) 7) (by show ((q_zw (iv 155) (iv 161) (iv 157) (iv 158) (iv 159) (iv 154)) 7) = 0 ∨ ((q_zw (iv 155) (iv 161) (iv 157) (iv 158) (iv 159) (iv 154)) 7) = 1; rw [q_zw_7]; exact pz_bi01 _)) (by rw [pz_u1_in (r := 154) (q := 159) (by decide)]; rw [pz_u1_in (r := 154) (q := 158) (by decide)]; rw [pz_u1_in (r := 154) (q := 157) (by decide)]; rw [pz_u1_top (r := 154)]; rfl)
  refine w_call hc2 rfl (pz_cokI is_154 rfl) ?_
  refine w_ret (pz_rok1 (pz_bi01 _)) ?_
  exact lf_i (pz_bi_iff (q_fin q_zw_7)) rfl

theorem s_X11_rounds {L : Nat} {iv : Nat → Nat → Int} (hk : q_KR (iv 155)) : pz_R (pz_Sh L) 249 [.inr (.inl 154)] iv (.inl (some (.inl (q_rds (iv 155) (iv 161) (iv 157) (iv 158) (iv 159))))) (pz_u1 (pz_u1 (pz_u1 (pz_u1 iv 154 (pz_up (q_zw (iv 155) (iv 161) (iv 157) (iv 158) (iv 159) (iv 154)) 0 0)) 157 ((q_zX (iv 155) (iv 161) (iv 157) (iv 158) (iv 159)).2.2)) 158 ((q_zX (iv 155) (iv 161) (iv 157) (iv 158) (iv 159)).1)) 159 ((q_zX (iv 155) (iv 161) (iv 157) (iv 158) (iv 159)).2.1)) := by
  intro dv cc ss
  have hk0 := hk.r0
  refine pz_G_mem (iv2 := pz_u1 (pz_u1 (pz_u1 (pz_u1 iv 154 (iv 154)) 157 (iv 157)) 158 (iv 158)) 159 (iv 159)) (by exact ((((pz_u1_self iv 154).symm).trans (pz_u1_self (pz_u1 iv 154 (iv 154)) 157).symm).trans (pz_u1_self (pz_u1 (pz_u1 iv 154 (iv 154)) 157 (iv 157)) 158).symm).trans (pz_u1_self (pz_u1 (pz_u1 (pz_u1 iv 154 (iv 154)) 157 (iv 157)) 158 (iv 158)) 159).symm) ?_
  show pz_G 249 0 [some (.inr (.inl 154))] [] (pz_Sh L, pz_u1 (pz_u1 (pz_u1 (pz_u1 iv 154 (iv 154)) 157 (iv 157)) 158 (iv 158)) 159 (iv 159), dv, cc, ss) (pz_P (pz_Sh L) (.inl (some (.inl (q_rds (iv 155) (iv 161) (iv 157) (iv 158) (iv 159))))) (pz_u1 (pz_u1 (pz_u1 (pz_u1 iv 154 (pz_up (q_zw (iv 155) (iv 161) (iv 157) (iv 158) (iv 159) (iv 154)) 0 0)) 157 ((q_zX (iv 155) (iv 161) (iv 157) (iv 158) (iv 159)).2.2)) 158 ((q_zX (iv 155) (iv 161) (iv 157) (iv 158) (iv 159)).1)) 159 ((q_zX (iv 155) (iv 161) (iv 157) (iv 158) (iv 159)).2.1)) dv cc ss)
  refine pz_G_of pz_b249_0 ?_
  refine w_loc rfl ?_
  have hc1 : pz_R (pz_Sh L) 247 [.inr (.inl 154)] (pz_u1 (pz_u1 (pz_u1 (pz_u1 iv 154 (iv 154)) 157 (iv 157)) 158 (iv 158)) 159 (iv 159)) (.inl none) (pz_u1 (pz_u1 (pz_u1 (pz_u1 iv 154 (q_zw (iv 155) (iv 161) (iv 157) (iv 158) (iv 159) (iv 154))) 157 ((q_zX (iv 155) (iv 161) (iv 157) (iv 158) (iv 159)).2.2)) 158 ((q_zX (iv 155) (iv 161) (iv 157) (iv 158) (iv 159)).1)) 159 ((q_zX (iv 155) (iv 161) (iv 157) (iv 158) (iv 159)).2.1)) := pz_R_mem (s_X11_reduces (by show q_KR (iv 155); exact hk)) (by rw [pz_u1_in (r := 154) (q := 159) (by decide)]; rw [pz_u1_in (r := 154) (q := 158) (by decide)]; rw [pz_u1_in (r := 154) (q := 157) (by decide)]; rw [pz_u1_top (r := 154)]; rw [pz_u1_in (r := 157) (q := 159) (by decide)]; rw [pz_u1_in (r := 157) (q := 158) (by decide)]; rw [pz_u1_top (r := 157)]; rw [pz_u1_in (r := 158) (q := 159) (by decide)]; rw [pz_u1_top (r := 158)]; rw [pz_u1_top (r := 159)]; rfl)
  refine w_callv hc1 rfl (pz_cokI is_154 rfl) ?_
  refine w_loc rfl ?_
  refine w_loc rfl ?_
  refine w_getI (v := (q_zw (iv 155) (iv 161) (iv 157) (iv 158) (iv 159) (iv 154)) 8) is_154 (by decide) rfl ?_
  have hc2 : pz_R (pz_Sh L) 192 [.inr (.inl 154), .inl ((q_zw (iv 155) (iv 161) (iv 157) (iv 158) (iv 159) (iv 154)) 8)] (pz_u1 (pz_u1 (pz_u1 (pz_u1 iv 154 (q_zw (iv 155) (iv 161) (iv 157) (iv 158) (iv 159) (iv 154))) 157 ((q_zX (iv 155) (iv 161) (iv 157) (iv 158) (iv 159)).2.2)) 158 ((q_zX (iv 155) (iv 161) (iv 157) (iv 158) (iv 159)).1)) 159 ((q_zX (iv 155) (iv 161) (iv 157) (iv 158) (iv 159)).2.1)) (.inl (some (.inl ((q_zw (iv 155) (iv 161) (iv 157) (iv 158) (iv 159) (iv 154)) 8)))) (pz_u1 (pz_u1 (pz_u1 (pz_u1 iv 154 (pz_up (q_zw (iv 155) (iv 161) (iv 157) (iv 158) (iv 159) (iv 154)) 0 0)) 157 ((q_zX (iv 155) (iv 161) (iv 157) (iv 158) (iv 159)).2.2)) 158 ((q_zX (iv 155) (iv 161) (iv 157) (iv 158) (iv 159)).1)) 159 ((q_zX (iv 155) (iv 161) (iv 157) (iv 158) (iv 159)).2.1)) := pz_R_mem (s_X11_tells ((q_zw (iv 155) (iv 161) (iv 157) (iv 158) (iv 159) (iv 154)) 8)) (by rw [pz_u1_in (r := 154) (q := 159) (by decide)]; rw [pz_u1_in (r := 154) (q := 158) (by decide)]; rw [pz_u1_in (r := 154) (q := 157) (by decide)]; rw [pz_u1_top (r := 154)]; rfl)
  refine w_call hc2 rfl (pz_cokI is_154 rfl) ?_
  refine w_ret rfl ?_
  exact lf_i q_zw_8 rfl

theorem s_X11_reduced_1 {L : Nat} {iv : Nat → Nat → Int} (f : Int) (t : Int) (hk : q_KR (iv 155)) (hcase0 : ¬ (0 ≤ f ∧ f ≤ iv 155 0 - 1 ∧ 0 ≤ t ∧ t ≤ iv 155 0 - 1)) : pz_R (pz_Sh L) 250 [.inr (.inl 154), .inl f, .inl t] iv (.inl (some (.inl 0))) (pz_u1 (pz_u1 (pz_u1 (pz_u1 iv 154 (pz_up (iv 154) 0 1)) 157 (iv 157)) 158 (iv 158)) 159 (iv 159)) := by
  intro dv cc ss
  have hk0 := hk.r0
  refine pz_G_mem (iv2 := pz_u1 (pz_u1 (pz_u1 (pz_u1 iv 154 (iv 154)) 157 (iv 157)) 158 (iv 158)) 159 (iv 159)) (by exact ((((pz_u1_self iv 154).symm).trans (pz_u1_self (pz_u1 iv 154 (iv 154)) 157).symm).trans (pz_u1_self (pz_u1 (pz_u1 iv 154 (iv 154)) 157 (iv 157)) 158).symm).trans (pz_u1_self (pz_u1 (pz_u1 (pz_u1 iv 154 (iv 154)) 157 (iv 157)) 158 (iv 158)) 159).symm) ?_
  show pz_G 250 0 [some (.inr (.inl 154)), some (.inl f), some (.inl t)] [] (pz_Sh L, pz_u1 (pz_u1 (pz_u1 (pz_u1 iv 154 (iv 154)) 157 (iv 157)) 158 (iv 158)) 159 (iv 159), dv, cc, ss) (pz_P (pz_Sh L) (.inl (some (.inl 0))) (pz_u1 (pz_u1 (pz_u1 (pz_u1 iv 154 (pz_up (iv 154) 0 1)) 157 (iv 157)) 158 (iv 158)) 159 (iv 159)) dv cc ss)
  refine pz_G_of pz_b250_0 ?_
  refine w_loc rfl ?_
  refine w_loc rfl ?_
  have hc1 : pz_R (pz_Sh L) 194 [.inr (.inl 154), .inl f] (pz_u1 (pz_u1 (pz_u1 (pz_u1 iv 154 (iv 154)) 157 (iv 157)) 158 (iv 158)) 159 (iv 159)) (.inl (some (.inl (pz_bi (0 ≤ f ∧ f ≤ (iv 155) 0 - 1))))) (pz_u1 (pz_u1 (pz_u1 (pz_u1 iv 154 (iv 154)) 157 (iv 157)) 158 (iv 158)) 159 (iv 159)) := s_X11_isEvent f (by show q_KR (iv 155); exact hk)
  refine w_call hc1 rfl (pz_cokI is_154 rfl) ?_
  refine w_beq (fun h2 => ?_) (fun h2 => ?_)
  · first
    | (exfalso; first | omega | contradiction)
    | (refine pz_G_of pz_b250_16 ?_
       refine w_loc rfl ?_
       refine w_pure rfl ?_
       have hc3 : pz_R (pz_Sh L) 191 [.inr (.inl 154), .inl 1] (pz_u1 (pz_u1 (pz_u1 (pz_u1 iv 154 (iv 154)) 157 (iv 157)) 158 (iv 158)) 159 (iv 159)) (.inl (some (.inl 0))) (pz_u1 (pz_u1 (pz_u1 (pz_u1 iv 154 (pz_up (iv 154) 0 1)) 157 (iv 157)) 158 (iv 158)) 159 (iv 159)) := pz_R_mem (s_X11_fails 1) (by rw [pz_u1_in (r := 154) (q := 159) (by decide)]; rw [pz_u1_in (r := 154) (q := 158) (by decide)]; rw [pz_u1_in (r := 154) (q := 157) (by decide)]; rw [pz_u1_top (r := 154)]; rfl)
       refine w_call hc3 rfl (pz_cokI is_154 rfl) ?_
       refine w_ret rfl ?_
       first | exact lf_i (by first | rfl | omega) (by rfl) | (exfalso; omega))
  · first
    | (exfalso; first | omega | contradiction)
    | (refine w_loc rfl ?_
       refine w_loc rfl ?_
       have hc4 : pz_R (pz_Sh L) 194 [.inr (.inl 154), .inl t] (pz_u1 (pz_u1 (pz_u1 (pz_u1 iv 154 (iv 154)) 157 (iv 157)) 158 (iv 158)) 159 (iv 159)) (.inl (some (.inl (pz_bi (0 ≤ t ∧ t ≤ (iv 155) 0 - 1))))) (pz_u1 (pz_u1 (pz_u1 (pz_u1 iv 154 (iv 154)) 157 (iv 157)) 158 (iv 158)) 159 (iv 159)) := s_X11_isEvent t (by show q_KR (iv 155); exact hk)
       refine w_call hc4 rfl (pz_cokI is_154 rfl) ?_
       refine w_bne (fun h5 => ?_) (fun h5 => ?_)
       · first
         | (exfalso; first | omega | contradiction)
         | (refine pz_G_of pz_b250_22 ?_
            refine w_loc rfl ?_
            have hc6 : pz_R (pz_Sh L) 247 [.inr (.inl 154)] (pz_u1 (pz_u1 (pz_u1 (pz_u1 iv 154 (iv 154)) 157 (iv 157)) 158 (iv 158)) 159 (iv 159)) (.inl none) (pz_u1 (pz_u1 (pz_u1 (pz_u1 iv 154 (q_zw (iv 155) (iv 161) (iv 157) (iv 158) (iv 159) (iv 154))) 157 ((q_zX (iv 155) (iv 161) (iv 157) (iv 158) (iv 159)).2.2)) 158 ((q_zX (iv 155) (iv 161) (iv 157) (iv 158) (iv 159)).1)) 159 ((q_zX (iv 155) (iv 161) (iv 157) (iv 158) (iv 159)).2.1)) := pz_R_mem (s_X11_reduces (by show q_KR (iv 155); exact hk)) (by rw [pz_u1_in (r := 154) (q := 159) (by decide)]; rw [pz_u1_in (r := 154) (q := 158) (by decide)]; rw [pz_u1_in (r := 154) (q := 157) (by decide)]; rw [pz_u1_top (r := 154)]; rw [pz_u1_in (r := 157) (q := 159) (by decide)]; rw [pz_u1_in (r := 157) (q := 158) (by decide)]; rw [pz_u1_top (r := 157)]; rw [pz_u1_in (r := 158) (q := 159) (by decide)]; rw [pz_u1_top (r := 158)]; rw [pz_u1_top (r := 159)]; rfl)
            refine w_callv hc6 rfl (pz_cokI is_154 rfl) ?_
            refine w_loc rfl ?_
            refine w_getI (v := (q_zw (iv 155) (iv 161) (iv 157) (iv 158) (iv 159) (iv 154)) 7) is_154 (by decide) rfl ?_
            refine w_zne (fun h7 => ?_) (fun h7 => ?_)
            · first
              | (exfalso; first | omega | contradiction)
              | (refine pz_G_of pz_b250_39 ?_
                 refine w_loc rfl ?_
                 refine w_getR (q := 158) is_154 rf_154_5 ?_
                 refine w_pure rfl ?_
                 refine w_loc rfl ?_
                 refine w_loc rfl ?_
                 have hc8 : pz_R (pz_Sh L) 241 [.inl 0, .inl f, .inl t] (pz_u1 (pz_u1 (pz_u1 (pz_u1 iv 154 (q_zw (iv 155) (iv 161) (iv 157) (iv 158) (iv 159) (iv 154))) 157 ((q_zX (iv 155) (iv 161) (iv 157) (iv 158) (iv 159)).2.2)) 158 ((q_zX (iv 155) (iv 161) (iv 157) (iv 158) (iv 159)).1)) 159 ((q_zX (iv 155) (iv 161) (iv 157) (iv 158) (iv 159)).2.1)) (.inl (some (.inl (100 * 0 + 10 * f + t)))) (pz_u1 (pz_u1 (pz_u1 (pz_u1 iv 154 (q_zw (iv 155) (iv 161) (iv 157) (iv 158) (iv 159) (iv 154))) 157 ((q_zX (iv 155) (iv 161) (iv 157) (iv 158) (iv 159)).2.2)) 158 ((q_zX (iv 155) (iv 161) (iv 157) (iv 158) (iv 159)).1)) 159 ((q_zX (iv 155) (iv 161) (iv 157) (iv 158) (iv 159)).2.1)) := s_X11_cell 0 f t (by show 0 ≤ 0 ∧ 0 ≤ 3; omega) (by show 0 ≤ f ∧ f ≤ 9; omega) (by show 0 ≤ t ∧ t ≤ 9; omega)
                 refine w_call hc8 rfl rfl ?_
                 refine w_iald (v := (q_zX (iv 155) (iv 161) (iv 157) (iv 158) (iv 159)).1 (100 * 0 + 10 * f + t).toNat) is_158 ln_158 ⟨by omega, by omega⟩ rfl ?_
                 refine w_ldcv (v := 1000000) rfl ?_
                 refine w_ine (fun h9 => ?_) (fun h9 => ?_)
                 · first
                   | (exfalso; first | omega | contradiction)
                   | (refine pz_G_of pz_b250_63 ?_
                      refine w_loc rfl ?_
                      refine w_loc rfl ?_
                      refine w_getR (q := 158) is_154 rf_154_5 ?_
                      refine w_pure rfl ?_
                      refine w_loc rfl ?_
                      refine w_loc rfl ?_
                      have hc10 : pz_R (pz_Sh L) 241 [.inl 0, .inl f, .inl t] (pz_u1 (pz_u1 (pz_u1 (pz_u1 iv 154 (q_zw (iv 155) (iv 161) (iv 157) (iv 158) (iv 159) (iv 154))) 157 ((q_zX (iv 155) (iv 161) (iv 157) (iv 158) (iv 159)).2.2)) 158 ((q_zX (iv 155) (iv 161) (iv 157) (iv 158) (iv 159)).1)) 159 ((q_zX (iv 155) (iv 161) (iv 157) (iv 158) (iv 159)).2.1)) (.inl (some (.inl (100 * 0 + 10 * f + t)))) (pz_u1 (pz_u1 (pz_u1 (pz_u1 iv 154 (q_zw (iv 155) (iv 161) (iv 157) (iv 158) (iv 159) (iv 154))) 157 ((q_zX (iv 155) (iv 161) (iv 157) (iv 158) (iv 159)).2.2)) 158 ((q_zX (iv 155) (iv 161) (iv 157) (iv 158) (iv 159)).1)) 159 ((q_zX (iv 155) (iv 161) (iv 157) (iv 158) (iv 159)).2.1)) := s_X11_cell 0 f t (by show 0 ≤ 0 ∧ 0 ≤ 3; omega) (by show 0 ≤ f ∧ f ≤ 9; omega) (by show 0 ≤ t ∧ t ≤ 9; omega)
                      refine w_call hc10 rfl rfl ?_
                      refine w_iald (v := (q_zX (iv 155) (iv 161) (iv 157) (iv 158) (iv 159)).1 (100 * 0 + 10 * f + t).toNat) is_158 ln_158 ⟨by omega, by omega⟩ rfl ?_
                      have hc11 : pz_R (pz_Sh L) 192 [.inr (.inl 154), .inl ((q_zX (iv 155) (iv 161) (iv 157) (iv 158) (iv 159)).1 (100 * 0 + 10 * f + t).toNat)] (pz_u1 (pz_u1 (pz_u1 (pz_u1 iv 154 (q_zw (iv 155) (iv 161) (iv 157) (iv 158) (iv 159) (iv 154))) 157 ((q_zX (iv 155) (iv 161) (iv 157) (iv 158) (iv 159)).2.2)) 158 ((q_zX (iv 155) (iv 161) (iv 157) (iv 158) (iv 159)).1)) 159 ((q_zX (iv 155) (iv 161) (iv 157) (iv 158) (iv 159)).2.1)) (.inl (some (.inl ((q_zX (iv 155) (iv 161) (iv 157) (iv 158) (iv 159)).1 (100 * 0 + 10 * f + t).toNat)))) (pz_u1 (pz_u1 (pz_u1 (pz_u1 iv 154 (pz_up (q_zw (iv 155) (iv 161) (iv 157) (iv 158) (iv 159) (iv 154)) 0 0)) 157 ((q_zX (iv 155) (iv 161) (iv 157) (iv 158) (iv 159)).2.2)) 158 ((q_zX (iv 155) (iv 161) (iv 157) (iv 158) (iv 159)).1)) 159 ((q_zX (iv 155) (iv 161) (iv 157) (iv 158) (iv 159)).2.1)) := pz_R_mem (s_X11_tells ((q_zX (iv 155) (iv 161) (iv 157) (iv 158) (iv 159)).1 (100 * 0 + 10 * f + t).toNat)) (by rw [pz_u1_in (r := 154) (q := 159) (by decide)]; rw [pz_u1_in (r := 154) (q := 158) (by decide)]; rw [pz_u1_in (r := 154) (q := 157) (by decide)]; rw [pz_u1_top (r := 154)]; rfl)
                      refine w_call hc11 rfl (pz_cokI is_154 rfl) ?_
                      refine w_nil ?_
                      refine pz_G_of pz_b250_78 ?_
                      refine w_ret rfl ?_
                      first | exact lf_i (by first | rfl | omega) (by rfl) | (exfalso; omega))
                 · first
                   | (exfalso; first | omega | contradiction)
                   | (refine w_loc rfl ?_
                      refine w_pure rfl ?_
                      have hc12 : pz_R (pz_Sh L) 191 [.inr (.inl 154), .inl 3] (pz_u1 (pz_u1 (pz_u1 (pz_u1 iv 154 (q_zw (iv 155) (iv 161) (iv 157) (iv 158) (iv 159) (iv 154))) 157 ((q_zX (iv 155) (iv 161) (iv 157) (iv 158) (iv 159)).2.2)) 158 ((q_zX (iv 155) (iv 161) (iv 157) (iv 158) (iv 159)).1)) 159 ((q_zX (iv 155) (iv 161) (iv 157) (iv 158) (iv 159)).2.1)) (.inl (some (.inl 0))) (pz_u1 (pz_u1 (pz_u1 (pz_u1 iv 154 (pz_up (q_zw (iv 155) (iv 161) (iv 157) (iv 158) (iv 159) (iv 154)) 0 3)) 157 ((q_zX (iv 155) (iv 161) (iv 157) (iv 158) (iv 159)).2.2)) 158 ((q_zX (iv 155) (iv 161) (iv 157) (iv 158) (iv 159)).1)) 159 ((q_zX (iv 155) (iv 161) (iv 157) (iv 158) (iv 159)).2.1)) := pz_R_mem (s_X11_fails 3) (by rw [pz_u1_in (r := 154) (q := 159) (by decide)]; rw [pz_u1_in (r := 154) (q := 158) (by decide)]; rw [pz_u1_in (r := 154) (q := 157) (by decide)]; rw [pz_u1_top (r := 154)]; rfl)
                      refine w_call hc12 rfl (pz_cokI is_154 rfl) ?_
                      refine w_goto ?_
                      refine pz_G_of pz_b250_78 ?_
                      refine w_ret rfl ?_
                      first | exact lf_i (by first | rfl | omega) (by rfl) | (exfalso; omega)))
            · first
              | (exfalso; first | omega | contradiction)
              | (refine w_loc rfl ?_
                 refine w_pure rfl ?_
                 have hc13 : pz_R (pz_Sh L) 191 [.inr (.inl 154), .inl 2] (pz_u1 (pz_u1 (pz_u1 (pz_u1 iv 154 (q_zw (iv 155) (iv 161) (iv 157) (iv 158) (iv 159) (iv 154))) 157 ((q_zX (iv 155) (iv 161) (iv 157) (iv 158) (iv 159)).2.2)) 158 ((q_zX (iv 155) (iv 161) (iv 157) (iv 158) (iv 159)).1)) 159 ((q_zX (iv 155) (iv 161) (iv 157) (iv 158) (iv 159)).2.1)) (.inl (some (.inl 0))) (pz_u1 (pz_u1 (pz_u1 (pz_u1 iv 154 (pz_up (q_zw (iv 155) (iv 161) (iv 157) (iv 158) (iv 159) (iv 154)) 0 2)) 157 ((q_zX (iv 155) (iv 161) (iv 157) (iv 158) (iv 159)).2.2)) 158 ((q_zX (iv 155) (iv 161) (iv 157) (iv 158) (iv 159)).1)) 159 ((q_zX (iv 155) (iv 161) (iv 157) (iv 158) (iv 159)).2.1)) := pz_R_mem (s_X11_fails 2) (by rw [pz_u1_in (r := 154) (q := 159) (by decide)]; rw [pz_u1_in (r := 154) (q := 158) (by decide)]; rw [pz_u1_in (r := 154) (q := 157) (by decide)]; rw [pz_u1_top (r := 154)]; rfl)
                 refine w_call hc13 rfl (pz_cokI is_154 rfl) ?_
                 refine w_ret rfl ?_
                 first | exact lf_i (by first | rfl | omega) (by rfl) | (exfalso; omega)))
       · first
         | (exfalso; first | omega | contradiction)
         | (refine w_nil ?_
            refine pz_G_of pz_b250_16 ?_
            refine w_loc rfl ?_
            refine w_pure rfl ?_
            have hc14 : pz_R (pz_Sh L) 191 [.inr (.inl 154), .inl 1] (pz_u1 (pz_u1 (pz_u1 (pz_u1 iv 154 (iv 154)) 157 (iv 157)) 158 (iv 158)) 159 (iv 159)) (.inl (some (.inl 0))) (pz_u1 (pz_u1 (pz_u1 (pz_u1 iv 154 (pz_up (iv 154) 0 1)) 157 (iv 157)) 158 (iv 158)) 159 (iv 159)) := pz_R_mem (s_X11_fails 1) (by rw [pz_u1_in (r := 154) (q := 159) (by decide)]; rw [pz_u1_in (r := 154) (q := 158) (by decide)]; rw [pz_u1_in (r := 154) (q := 157) (by decide)]; rw [pz_u1_top (r := 154)]; rfl)
            refine w_call hc14 rfl (pz_cokI is_154 rfl) ?_
            refine w_ret rfl ?_
            first | exact lf_i (by first | rfl | omega) (by rfl) | (exfalso; omega)))

theorem s_X11_reduced_2 {L : Nat} {iv : Nat → Nat → Int} (f : Int) (t : Int) (hk : q_KR (iv 155)) (hcase0 : 0 ≤ f ∧ f ≤ iv 155 0 - 1 ∧ 0 ≤ t ∧ t ≤ iv 155 0 - 1) (hcase1 : ¬ q_seen (iv 155) (iv 161) (iv 157) (iv 158) (iv 159)) : pz_R (pz_Sh L) 250 [.inr (.inl 154), .inl f, .inl t] iv (.inl (some (.inl 0))) (pz_u1 (pz_u1 (pz_u1 (pz_u1 iv 154 (pz_up (q_zw (iv 155) (iv 161) (iv 157) (iv 158) (iv 159) (iv 154)) 0 2)) 157 ((q_zX (iv 155) (iv 161) (iv 157) (iv 158) (iv 159)).2.2)) 158 ((q_zX (iv 155) (iv 161) (iv 157) (iv 158) (iv 159)).1)) 159 ((q_zX (iv 155) (iv 161) (iv 157) (iv 158) (iv 159)).2.1)) := by
  intro dv cc ss
  have hk0 := hk.r0
  have hz7 := q_zw_7 (k := iv 155) (lf := iv 161) (g := iv 157) (v := iv 158) (a := iv 159) (w := iv 154)
  rw [pz_bi_0 hcase1] at hz7
  refine pz_G_mem (iv2 := pz_u1 (pz_u1 (pz_u1 (pz_u1 iv 154 (iv 154)) 157 (iv 157)) 158 (iv 158)) 159 (iv 159)) (by exact ((((pz_u1_self iv 154).symm).trans (pz_u1_self (pz_u1 iv 154 (iv 154)) 157).symm).trans (pz_u1_self (pz_u1 (pz_u1 iv 154 (iv 154)) 157 (iv 157)) 158).symm).trans (pz_u1_self (pz_u1 (pz_u1 (pz_u1 iv 154 (iv 154)) 157 (iv 157)) 158 (iv 158)) 159).symm) ?_
  show pz_G 250 0 [some (.inr (.inl 154)), some (.inl f), some (.inl t)] [] (pz_Sh L, pz_u1 (pz_u1 (pz_u1 (pz_u1 iv 154 (iv 154)) 157 (iv 157)) 158 (iv 158)) 159 (iv 159), dv, cc, ss) (pz_P (pz_Sh L) (.inl (some (.inl 0))) (pz_u1 (pz_u1 (pz_u1 (pz_u1 iv 154 (pz_up (q_zw (iv 155) (iv 161) (iv 157) (iv 158) (iv 159) (iv 154)) 0 2)) 157 ((q_zX (iv 155) (iv 161) (iv 157) (iv 158) (iv 159)).2.2)) 158 ((q_zX (iv 155) (iv 161) (iv 157) (iv 158) (iv 159)).1)) 159 ((q_zX (iv 155) (iv 161) (iv 157) (iv 158) (iv 159)).2.1)) dv cc ss)
  refine pz_G_of pz_b250_0 ?_
  refine w_loc rfl ?_
  refine w_loc rfl ?_
  have hc1 : pz_R (pz_Sh L) 194 [.inr (.inl 154), .inl f] (pz_u1 (pz_u1 (pz_u1 (pz_u1 iv 154 (iv 154)) 157 (iv 157)) 158 (iv 158)) 159 (iv 159)) (.inl (some (.inl (pz_bi (0 ≤ f ∧ f ≤ (iv 155) 0 - 1))))) (pz_u1 (pz_u1 (pz_u1 (pz_u1 iv 154 (iv 154)) 157 (iv 157)) 158 (iv 158)) 159 (iv 159)) := s_X11_isEvent f (by show q_KR (iv 155); exact hk)
  refine w_call hc1 rfl (pz_cokI is_154 rfl) ?_
  refine w_beq (fun h2 => ?_) (fun h2 => ?_)
  · first
    | (exfalso; first | omega | contradiction)
    | (refine pz_G_of pz_b250_16 ?_
       refine w_loc rfl ?_
       refine w_pure rfl ?_
       have hc3 : pz_R (pz_Sh L) 191 [.inr (.inl 154), .inl 1] (pz_u1 (pz_u1 (pz_u1 (pz_u1 iv 154 (iv 154)) 157 (iv 157)) 158 (iv 158)) 159 (iv 159)) (.inl (some (.inl 0))) (pz_u1 (pz_u1 (pz_u1 (pz_u1 iv 154 (pz_up (iv 154) 0 1)) 157 (iv 157)) 158 (iv 158)) 159 (iv 159)) := pz_R_mem (s_X11_fails 1) (by rw [pz_u1_in (r := 154) (q := 159) (by decide)]; rw [pz_u1_in (r := 154) (q := 158) (by decide)]; rw [pz_u1_in (r := 154) (q := 157) (by decide)]; rw [pz_u1_top (r := 154)]; rfl)
       refine w_call hc3 rfl (pz_cokI is_154 rfl) ?_
       refine w_ret rfl ?_
       first | exact lf_i (by first | rfl | omega) (by rfl) | (exfalso; omega))
  · first
    | (exfalso; first | omega | contradiction)
    | (refine w_loc rfl ?_
       refine w_loc rfl ?_
       have hc4 : pz_R (pz_Sh L) 194 [.inr (.inl 154), .inl t] (pz_u1 (pz_u1 (pz_u1 (pz_u1 iv 154 (iv 154)) 157 (iv 157)) 158 (iv 158)) 159 (iv 159)) (.inl (some (.inl (pz_bi (0 ≤ t ∧ t ≤ (iv 155) 0 - 1))))) (pz_u1 (pz_u1 (pz_u1 (pz_u1 iv 154 (iv 154)) 157 (iv 157)) 158 (iv 158)) 159 (iv 159)) := s_X11_isEvent t (by show q_KR (iv 155); exact hk)
       refine w_call hc4 rfl (pz_cokI is_154 rfl) ?_
       refine w_bne (fun h5 => ?_) (fun h5 => ?_)
       · first
         | (exfalso; first | omega | contradiction)
         | (refine pz_G_of pz_b250_22 ?_
            refine w_loc rfl ?_
            have hc6 : pz_R (pz_Sh L) 247 [.inr (.inl 154)] (pz_u1 (pz_u1 (pz_u1 (pz_u1 iv 154 (iv 154)) 157 (iv 157)) 158 (iv 158)) 159 (iv 159)) (.inl none) (pz_u1 (pz_u1 (pz_u1 (pz_u1 iv 154 (q_zw (iv 155) (iv 161) (iv 157) (iv 158) (iv 159) (iv 154))) 157 ((q_zX (iv 155) (iv 161) (iv 157) (iv 158) (iv 159)).2.2)) 158 ((q_zX (iv 155) (iv 161) (iv 157) (iv 158) (iv 159)).1)) 159 ((q_zX (iv 155) (iv 161) (iv 157) (iv 158) (iv 159)).2.1)) := pz_R_mem (s_X11_reduces (by show q_KR (iv 155); exact hk)) (by rw [pz_u1_in (r := 154) (q := 159) (by decide)]; rw [pz_u1_in (r := 154) (q := 158) (by decide)]; rw [pz_u1_in (r := 154) (q := 157) (by decide)]; rw [pz_u1_top (r := 154)]; rw [pz_u1_in (r := 157) (q := 159) (by decide)]; rw [pz_u1_in (r := 157) (q := 158) (by decide)]; rw [pz_u1_top (r := 157)]; rw [pz_u1_in (r := 158) (q := 159) (by decide)]; rw [pz_u1_top (r := 158)]; rw [pz_u1_top (r := 159)]; rfl)
            refine w_callv hc6 rfl (pz_cokI is_154 rfl) ?_
            refine w_loc rfl ?_
            refine w_getI (v := (q_zw (iv 155) (iv 161) (iv 157) (iv 158) (iv 159) (iv 154)) 7) is_154 (by decide) rfl ?_
            refine w_zne (fun h7 => ?_) (fun h7 => ?_)
            · first
              | (exfalso; first | omega | contradiction)
              | (refine pz_G_of pz_b250_39 ?_
                 refine w_loc rfl ?_
                 refine w_getR (q := 158) is_154 rf_154_5 ?_
                 refine w_pure rfl ?_
                 refine w_loc rfl ?_
                 refine w_loc rfl ?_
                 have hc8 : pz_R (pz_Sh L) 241 [.inl 0, .inl f, .inl t] (pz_u1 (pz_u1 (pz_u1 (pz_u1 iv 154 (q_zw (iv 155) (iv 161) (iv 157) (iv 158) (iv 159) (iv 154))) 157 ((q_zX (iv 155) (iv 161) (iv 157) (iv 158) (iv 159)).2.2)) 158 ((q_zX (iv 155) (iv 161) (iv 157) (iv 158) (iv 159)).1)) 159 ((q_zX (iv 155) (iv 161) (iv 157) (iv 158) (iv 159)).2.1)) (.inl (some (.inl (100 * 0 + 10 * f + t)))) (pz_u1 (pz_u1 (pz_u1 (pz_u1 iv 154 (q_zw (iv 155) (iv 161) (iv 157) (iv 158) (iv 159) (iv 154))) 157 ((q_zX (iv 155) (iv 161) (iv 157) (iv 158) (iv 159)).2.2)) 158 ((q_zX (iv 155) (iv 161) (iv 157) (iv 158) (iv 159)).1)) 159 ((q_zX (iv 155) (iv 161) (iv 157) (iv 158) (iv 159)).2.1)) := s_X11_cell 0 f t (by show 0 ≤ 0 ∧ 0 ≤ 3; omega) (by show 0 ≤ f ∧ f ≤ 9; omega) (by show 0 ≤ t ∧ t ≤ 9; omega)
                 refine w_call hc8 rfl rfl ?_
                 refine w_iald (v := (q_zX (iv 155) (iv 161) (iv 157) (iv 158) (iv 159)).1 (100 * 0 + 10 * f + t).toNat) is_158 ln_158 ⟨by omega, by omega⟩ rfl ?_
                 refine w_ldcv (v := 1000000) rfl ?_
                 refine w_ine (fun h9 => ?_) (fun h9 => ?_)
                 · first
                   | (exfalso; first | omega | contradiction)
                   | (refine pz_G_of pz_b250_63 ?_
                      refine w_loc rfl ?_
                      refine w_loc rfl ?_
                      refine w_getR (q := 158) is_154 rf_154_5 ?_
                      refine w_pure rfl ?_
                      refine w_loc rfl ?_
                      refine w_loc rfl ?_
                      have hc10 : pz_R (pz_Sh L) 241 [.inl 0, .inl f, .inl t] (pz_u1 (pz_u1 (pz_u1 (pz_u1 iv 154 (q_zw (iv 155) (iv 161) (iv 157) (iv 158) (iv 159) (iv 154))) 157 ((q_zX (iv 155) (iv 161) (iv 157) (iv 158) (iv 159)).2.2)) 158 ((q_zX (iv 155) (iv 161) (iv 157) (iv 158) (iv 159)).1)) 159 ((q_zX (iv 155) (iv 161) (iv 157) (iv 158) (iv 159)).2.1)) (.inl (some (.inl (100 * 0 + 10 * f + t)))) (pz_u1 (pz_u1 (pz_u1 (pz_u1 iv 154 (q_zw (iv 155) (iv 161) (iv 157) (iv 158) (iv 159) (iv 154))) 157 ((q_zX (iv 155) (iv 161) (iv 157) (iv 158) (iv 159)).2.2)) 158 ((q_zX (iv 155) (iv 161) (iv 157) (iv 158) (iv 159)).1)) 159 ((q_zX (iv 155) (iv 161) (iv 157) (iv 158) (iv 159)).2.1)) := s_X11_cell 0 f t (by show 0 ≤ 0 ∧ 0 ≤ 3; omega) (by show 0 ≤ f ∧ f ≤ 9; omega) (by show 0 ≤ t ∧ t ≤ 9; omega)
                      refine w_call hc10 rfl rfl ?_
                      refine w_iald (v := (q_zX (iv 155) (iv 161) (iv 157) (iv 158) (iv 159)).1 (100 * 0 + 10 * f + t).toNat) is_158 ln_158 ⟨by omega, by omega⟩ rfl ?_
                      have hc11 : pz_R (pz_Sh L) 192 [.inr (.inl 154), .inl ((q_zX (iv 155) (iv 161) (iv 157) (iv 158) (iv 159)).1 (100 * 0 + 10 * f + t).toNat)] (pz_u1 (pz_u1 (pz_u1 (pz_u1 iv 154 (q_zw (iv 155) (iv 161) (iv 157) (iv 158) (iv 159) (iv 154))) 157 ((q_zX (iv 155) (iv 161) (iv 157) (iv 158) (iv 159)).2.2)) 158 ((q_zX (iv 155) (iv 161) (iv 157) (iv 158) (iv 159)).1)) 159 ((q_zX (iv 155) (iv 161) (iv 157) (iv 158) (iv 159)).2.1)) (.inl (some (.inl ((q_zX (iv 155) (iv 161) (iv 157) (iv 158) (iv 159)).1 (100 * 0 + 10 * f + t).toNat)))) (pz_u1 (pz_u1 (pz_u1 (pz_u1 iv 154 (pz_up (q_zw (iv 155) (iv 161) (iv 157) (iv 158) (iv 159) (iv 154)) 0 0)) 157 ((q_zX (iv 155) (iv 161) (iv 157) (iv 158) (iv 159)).2.2)) 158 ((q_zX (iv 155) (iv 161) (iv 157) (iv 158) (iv 159)).1)) 159 ((q_zX (iv 155) (iv 161) (iv 157) (iv 158) (iv 159)).2.1)) := pz_R_mem (s_X11_tells ((q_zX (iv 155) (iv 161) (iv 157) (iv 158) (iv 159)).1 (100 * 0 + 10 * f + t).toNat)) (by rw [pz_u1_in (r := 154) (q := 159) (by decide)]; rw [pz_u1_in (r := 154) (q := 158) (by decide)]; rw [pz_u1_in (r := 154) (q := 157) (by decide)]; rw [pz_u1_top (r := 154)]; rfl)
                      refine w_call hc11 rfl (pz_cokI is_154 rfl) ?_
                      refine w_nil ?_
                      refine pz_G_of pz_b250_78 ?_
                      refine w_ret rfl ?_
                      first | exact lf_i (by first | rfl | omega) (by rfl) | (exfalso; omega))
                 · first
                   | (exfalso; first | omega | contradiction)
                   | (refine w_loc rfl ?_
                      refine w_pure rfl ?_
                      have hc12 : pz_R (pz_Sh L) 191 [.inr (.inl 154), .inl 3] (pz_u1 (pz_u1 (pz_u1 (pz_u1 iv 154 (q_zw (iv 155) (iv 161) (iv 157) (iv 158) (iv 159) (iv 154))) 157 ((q_zX (iv 155) (iv 161) (iv 157) (iv 158) (iv 159)).2.2)) 158 ((q_zX (iv 155) (iv 161) (iv 157) (iv 158) (iv 159)).1)) 159 ((q_zX (iv 155) (iv 161) (iv 157) (iv 158) (iv 159)).2.1)) (.inl (some (.inl 0))) (pz_u1 (pz_u1 (pz_u1 (pz_u1 iv 154 (pz_up (q_zw (iv 155) (iv 161) (iv 157) (iv 158) (iv 159) (iv 154)) 0 3)) 157 ((q_zX (iv 155) (iv 161) (iv 157) (iv 158) (iv 159)).2.2)) 158 ((q_zX (iv 155) (iv 161) (iv 157) (iv 158) (iv 159)).1)) 159 ((q_zX (iv 155) (iv 161) (iv 157) (iv 158) (iv 159)).2.1)) := pz_R_mem (s_X11_fails 3) (by rw [pz_u1_in (r := 154) (q := 159) (by decide)]; rw [pz_u1_in (r := 154) (q := 158) (by decide)]; rw [pz_u1_in (r := 154) (q := 157) (by decide)]; rw [pz_u1_top (r := 154)]; rfl)
                      refine w_call hc12 rfl (pz_cokI is_154 rfl) ?_
                      refine w_goto ?_
                      refine pz_G_of pz_b250_78 ?_
                      refine w_ret rfl ?_
                      first | exact lf_i (by first | rfl | omega) (by rfl) | (exfalso; omega)))
            · first
              | (exfalso; first | omega | contradiction)
              | (refine w_loc rfl ?_
                 refine w_pure rfl ?_
                 have hc13 : pz_R (pz_Sh L) 191 [.inr (.inl 154), .inl 2] (pz_u1 (pz_u1 (pz_u1 (pz_u1 iv 154 (q_zw (iv 155) (iv 161) (iv 157) (iv 158) (iv 159) (iv 154))) 157 ((q_zX (iv 155) (iv 161) (iv 157) (iv 158) (iv 159)).2.2)) 158 ((q_zX (iv 155) (iv 161) (iv 157) (iv 158) (iv 159)).1)) 159 ((q_zX (iv 155) (iv 161) (iv 157) (iv 158) (iv 159)).2.1)) (.inl (some (.inl 0))) (pz_u1 (pz_u1 (pz_u1 (pz_u1 iv 154 (pz_up (q_zw (iv 155) (iv 161) (iv 157) (iv 158) (iv 159) (iv 154)) 0 2)) 157 ((q_zX (iv 155) (iv 161) (iv 157) (iv 158) (iv 159)).2.2)) 158 ((q_zX (iv 155) (iv 161) (iv 157) (iv 158) (iv 159)).1)) 159 ((q_zX (iv 155) (iv 161) (iv 157) (iv 158) (iv 159)).2.1)) := pz_R_mem (s_X11_fails 2) (by rw [pz_u1_in (r := 154) (q := 159) (by decide)]; rw [pz_u1_in (r := 154) (q := 158) (by decide)]; rw [pz_u1_in (r := 154) (q := 157) (by decide)]; rw [pz_u1_top (r := 154)]; rfl)
                 refine w_call hc13 rfl (pz_cokI is_154 rfl) ?_
                 refine w_ret rfl ?_
                 first | exact lf_i (by first | rfl | omega) (by rfl) | (exfalso; omega)))
       · first
         | (exfalso; first | omega | contradiction)
         | (refine w_nil ?_
            refine pz_G_of pz_b250_16 ?_
            refine w_loc rfl ?_
            refine w_pure rfl ?_
            have hc14 : pz_R (pz_Sh L) 191 [.inr (.inl 154), .inl 1] (pz_u1 (pz_u1 (pz_u1 (pz_u1 iv 154 (iv 154)) 157 (iv 157)) 158 (iv 158)) 159 (iv 159)) (.inl (some (.inl 0))) (pz_u1 (pz_u1 (pz_u1 (pz_u1 iv 154 (pz_up (iv 154) 0 1)) 157 (iv 157)) 158 (iv 158)) 159 (iv 159)) := pz_R_mem (s_X11_fails 1) (by rw [pz_u1_in (r := 154) (q := 159) (by decide)]; rw [pz_u1_in (r := 154) (q := 158) (by decide)]; rw [pz_u1_in (r := 154) (q := 157) (by decide)]; rw [pz_u1_top (r := 154)]; rfl)
            refine w_call hc14 rfl (pz_cokI is_154 rfl) ?_
            refine w_ret rfl ?_
            first | exact lf_i (by first | rfl | omega) (by rfl) | (exfalso; omega)))

theorem s_X11_reduced_3 {L : Nat} {iv : Nat → Nat → Int} (f : Int) (t : Int) (hk : q_KR (iv 155)) (hcase0 : 0 ≤ f ∧ f ≤ iv 155 0 - 1 ∧ 0 ≤ t ∧ t ≤ iv 155 0 - 1) (hcase1 : q_seen (iv 155) (iv 161) (iv 157) (iv 158) (iv 159)) (hcase2 : (q_zX (iv 155) (iv 161) (iv 157) (iv 158) (iv 159)).1 (100 * 0 + 10 * f + t).toNat = 1000000) : pz_R (pz_Sh L) 250 [.inr (.inl 154), .inl f, .inl t] iv (.inl (some (.inl 0))) (pz_u1 (pz_u1 (pz_u1 (pz_u1 iv 154 (pz_up (q_zw (iv 155) (iv 161) (iv 157) (iv 158) (iv 159) (iv 154)) 0 3)) 157 ((q_zX (iv 155) (iv 161) (iv 157) (iv 158) (iv 159)).2.2)) 158 ((q_zX (iv 155) (iv 161) (iv 157) (iv 158) (iv 159)).1)) 159 ((q_zX (iv 155) (iv 161) (iv 157) (iv 158) (iv 159)).2.1)) := by
  intro dv cc ss
  have hk0 := hk.r0
  have hz7 := q_zw_7 (k := iv 155) (lf := iv 161) (g := iv 157) (v := iv 158) (a := iv 159) (w := iv 154)
  rw [pz_bi_1 hcase1] at hz7
  refine pz_G_mem (iv2 := pz_u1 (pz_u1 (pz_u1 (pz_u1 iv 154 (iv 154)) 157 (iv 157)) 158 (iv 158)) 159 (iv 159)) (by exact ((((pz_u1_self iv 154).symm).trans (pz_u1_self (pz_u1 iv 154 (iv 154)) 157).symm).trans (pz_u1_self (pz_u1 (pz_u1 iv 154 (iv 154)) 157 (iv 157)) 158).symm).trans (pz_u1_self (pz_u1 (pz_u1 (pz_u1 iv 154 (iv 154)) 157 (iv 157)) 158 (iv 158)) 159).symm) ?_
  show pz_G 250 0 [some (.inr (.inl 154)), some (.inl f), some (.inl t)] [] (pz_Sh L, pz_u1 (pz_u1 (pz_u1 (pz_u1 iv 154 (iv 154)) 157 (iv 157)) 158 (iv 158)) 159 (iv 159), dv, cc, ss) (pz_P (pz_Sh L) (.inl (some (.inl 0))) (pz_u1 (pz_u1 (pz_u1 (pz_u1 iv 154 (pz_up (q_zw (iv 155) (iv 161) (iv 157) (iv 158) (iv 159) (iv 154)) 0 3)) 157 ((q_zX (iv 155) (iv 161) (iv 157) (iv 158) (iv 159)).2.2)) 158 ((q_zX (iv 155) (iv 161) (iv 157) (iv 158) (iv 159)).1)) 159 ((q_zX (iv 155) (iv 161) (iv 157) (iv 158) (iv 159)).2.1)) dv cc ss)
  refine pz_G_of pz_b250_0 ?_
  refine w_loc rfl ?_
  refine w_loc rfl ?_
  have hc1 : pz_R (pz_Sh L) 194 [.inr (.inl 154), .inl f] (pz_u1 (pz_u1 (pz_u1 (pz_u1 iv 154 (iv 154)) 157 (iv 157)) 158 (iv 158)) 159 (iv 159)) (.inl (some (.inl (pz_bi (0 ≤ f ∧ f ≤ (iv 155) 0 - 1))))) (pz_u1 (pz_u1 (pz_u1 (pz_u1 iv 154 (iv 154)) 157 (iv 157)) 158 (iv 158)) 159 (iv 159)) := s_X11_isEvent f (by show q_KR (iv 155); exact hk)
  refine w_call hc1 rfl (pz_cokI is_154 rfl) ?_
  refine w_beq (fun h2 => ?_) (fun h2 => ?_)
  · first
    | (exfalso; first | omega | contradiction)
    | (refine pz_G_of pz_b250_16 ?_
       refine w_loc rfl ?_
       refine w_pure rfl ?_
       have hc3 : pz_R (pz_Sh L) 191 [.inr (.inl 154), .inl 1] (pz_u1 (pz_u1 (pz_u1 (pz_u1 iv 154 (iv 154)) 157 (iv 157)) 158 (iv 158)) 159 (iv 159)) (.inl (some (.inl 0))) (pz_u1 (pz_u1 (pz_u1 (pz_u1 iv 154 (pz_up (iv 154) 0 1)) 157 (iv 157)) 158 (iv 158)) 159 (iv 159)) := pz_R_mem (s_X11_fails 1) (by rw [pz_u1_in (r := 154) (q := 159) (by decide)]; rw [pz_u1_in (r := 154) (q := 158) (by decide)]; rw [pz_u1_in (r := 154) (q := 157) (by decide)]; rw [pz_u1_top (r := 154)]; rfl)
       refine w_call hc3 rfl (pz_cokI is_154 rfl) ?_
       refine w_ret rfl ?_
       first | exact lf_i (by first | rfl | omega) (by rfl) | (exfalso; omega))
  · first
    | (exfalso; first | omega | contradiction)
    | (refine w_loc rfl ?_
       refine w_loc rfl ?_
       have hc4 : pz_R (pz_Sh L) 194 [.inr (.inl 154), .inl t] (pz_u1 (pz_u1 (pz_u1 (pz_u1 iv 154 (iv 154)) 157 (iv 157)) 158 (iv 158)) 159 (iv 159)) (.inl (some (.inl (pz_bi (0 ≤ t ∧ t ≤ (iv 155) 0 - 1))))) (pz_u1 (pz_u1 (pz_u1 (pz_u1 iv 154 (iv 154)) 157 (iv 157)) 158 (iv 158)) 159 (iv 159)) := s_X11_isEvent t (by show q_KR (iv 155); exact hk)
       refine w_call hc4 rfl (pz_cokI is_154 rfl) ?_
       refine w_bne (fun h5 => ?_) (fun h5 => ?_)
       · first
         | (exfalso; first | omega | contradiction)
         | (refine pz_G_of pz_b250_22 ?_
            refine w_loc rfl ?_
            have hc6 : pz_R (pz_Sh L) 247 [.inr (.inl 154)] (pz_u1 (pz_u1 (pz_u1 (pz_u1 iv 154 (iv 154)) 157 (iv 157)) 158 (iv 158)) 159 (iv 159)) (.inl none) (pz_u1 (pz_u1 (pz_u1 (pz_u1 iv 154 (q_zw (iv 155) (iv 161) (iv 157) (iv 158) (iv 159) (iv 154))) 157 ((q_zX (iv 155) (iv 161) (iv 157) (iv 158) (iv 159)).2.2)) 158 ((q_zX (iv 155) (iv 161) (iv 157) (iv 158) (iv 159)).1)) 159 ((q_zX (iv 155) (iv 161) (iv 157) (iv 158) (iv 159)).2.1)) := pz_R_mem (s_X11_reduces (by show q_KR (iv 155); exact hk)) (by rw [pz_u1_in (r := 154) (q := 159) (by decide)]; rw [pz_u1_in (r := 154) (q := 158) (by decide)]; rw [pz_u1_in (r := 154) (q := 157) (by decide)]; rw [pz_u1_top (r := 154)]; rw [pz_u1_in (r := 157) (q := 159) (by decide)]; rw [pz_u1_in (r := 157) (q := 158) (by decide)]; rw [pz_u1_top (r := 157)]; rw [pz_u1_in (r := 158) (q := 159) (by decide)]; rw [pz_u1_top (r := 158)]; rw [pz_u1_top (r := 159)]; rfl)
            refine w_callv hc6 rfl (pz_cokI is_154 rfl) ?_
            refine w_loc rfl ?_
            refine w_getI (v := (q_zw (iv 155) (iv 161) (iv 157) (iv 158) (iv 159) (iv 154)) 7) is_154 (by decide) rfl ?_
            refine w_zne (fun h7 => ?_) (fun h7 => ?_)
            · first
              | (exfalso; first | omega | contradiction)
              | (refine pz_G_of pz_b250_39 ?_
                 refine w_loc rfl ?_
                 refine w_getR (q := 158) is_154 rf_154_5 ?_
                 refine w_pure rfl ?_
                 refine w_loc rfl ?_
                 refine w_loc rfl ?_
                 have hc8 : pz_R (pz_Sh L) 241 [.inl 0, .inl f, .inl t] (pz_u1 (pz_u1 (pz_u1 (pz_u1 iv 154 (q_zw (iv 155) (iv 161) (iv 157) (iv 158) (iv 159) (iv 154))) 157 ((q_zX (iv 155) (iv 161) (iv 157) (iv 158) (iv 159)).2.2)) 158 ((q_zX (iv 155) (iv 161) (iv 157) (iv 158) (iv 159)).1)) 159 ((q_zX (iv 155) (iv 161) (iv 157) (iv 158) (iv 159)).2.1)) (.inl (some (.inl (100 * 0 + 10 * f + t)))) (pz_u1 (pz_u1 (pz_u1 (pz_u1 iv 154 (q_zw (iv 155) (iv 161) (iv 157) (iv 158) (iv 159) (iv 154))) 157 ((q_zX (iv 155) (iv 161) (iv 157) (iv 158) (iv 159)).2.2)) 158 ((q_zX (iv 155) (iv 161) (iv 157) (iv 158) (iv 159)).1)) 159 ((q_zX (iv 155) (iv 161) (iv 157) (iv 158) (iv 159)).2.1)) := s_X11_cell 0 f t (by show 0 ≤ 0 ∧ 0 ≤ 3; omega) (by show 0 ≤ f ∧ f ≤ 9; omega) (by show 0 ≤ t ∧ t ≤ 9; omega)
                 refine w_call hc8 rfl rfl ?_
                 refine w_iald (v := (q_zX (iv 155) (iv 161) (iv 157) (iv 158) (iv 159)).1 (100 * 0 + 10 * f + t).toNat) is_158 ln_158 ⟨by omega, by omega⟩ rfl ?_
                 refine w_ldcv (v := 1000000) rfl ?_
                 refine w_ine (fun h9 => ?_) (fun h9 => ?_)
                 · first
                   | (exfalso; first | omega | contradiction)
                   | (refine pz_G_of pz_b250_63 ?_
                      refine w_loc rfl ?_
                      refine w_loc rfl ?_
                      refine w_getR (q := 158) is_154 rf_154_5 ?_
                      refine w_pure rfl ?_
                      refine w_loc rfl ?_
                      refine w_loc rfl ?_
                      have hc10 : pz_R (pz_Sh L) 241 [.inl 0, .inl f, .inl t] (pz_u1 (pz_u1 (pz_u1 (pz_u1 iv 154 (q_zw (iv 155) (iv 161) (iv 157) (iv 158) (iv 159) (iv 154))) 157 ((q_zX (iv 155) (iv 161) (iv 157) (iv 158) (iv 159)).2.2)) 158 ((q_zX (iv 155) (iv 161) (iv 157) (iv 158) (iv 159)).1)) 159 ((q_zX (iv 155) (iv 161) (iv 157) (iv 158) (iv 159)).2.1)) (.inl (some (.inl (100 * 0 + 10 * f + t)))) (pz_u1 (pz_u1 (pz_u1 (pz_u1 iv 154 (q_zw (iv 155) (iv 161) (iv 157) (iv 158) (iv 159) (iv 154))) 157 ((q_zX (iv 155) (iv 161) (iv 157) (iv 158) (iv 159)).2.2)) 158 ((q_zX (iv 155) (iv 161) (iv 157) (iv 158) (iv 159)).1)) 159 ((q_zX (iv 155) (iv 161) (iv 157) (iv 158) (iv 159)).2.1)) := s_X11_cell 0 f t (by show 0 ≤ 0 ∧ 0 ≤ 3; omega) (by show 0 ≤ f ∧ f ≤ 9; omega) (by show 0 ≤ t ∧ t ≤ 9; omega)
                      refine w_call hc10 rfl rfl ?_
                      refine w_iald (v := (q_zX (iv 155) (iv 161) (iv 157) (iv 158) (iv 159)).1 (100 * 0 + 10 * f + t).toNat) is_158 ln_158 ⟨by omega, by omega⟩ rfl ?_
                      have hc11 : pz_R (pz_Sh L) 192 [.inr (.inl 154), .inl ((q_zX (iv 155) (iv 161) (iv 157) (iv 158) (iv 159)).1 (100 * 0 + 10 * f + t).toNat)] (pz_u1 (pz_u1 (pz_u1 (pz_u1 iv 154 (q_zw (iv 155) (iv 161) (iv 157) (iv 158) (iv 159) (iv 154))) 157 ((q_zX (iv 155) (iv 161) (iv 157) (iv 158) (iv 159)).2.2)) 158 ((q_zX (iv 155) (iv 161) (iv 157) (iv 158) (iv 159)).1)) 159 ((q_zX (iv 155) (iv 161) (iv 157) (iv 158) (iv 159)).2.1)) (.inl (some (.inl ((q_zX (iv 155) (iv 161) (iv 157) (iv 158) (iv 159)).1 (100 * 0 + 10 * f + t).toNat)))) (pz_u1 (pz_u1 (pz_u1 (pz_u1 iv 154 (pz_up (q_zw (iv 155) (iv 161) (iv 157) (iv 158) (iv 159) (iv 154)) 0 0)) 157 ((q_zX (iv 155) (iv 161) (iv 157) (iv 158) (iv 159)).2.2)) 158 ((q_zX (iv 155) (iv 161) (iv 157) (iv 158) (iv 159)).1)) 159 ((q_zX (iv 155) (iv 161) (iv 157) (iv 158) (iv 159)).2.1)) := pz_R_mem (s_X11_tells ((q_zX (iv 155) (iv 161) (iv 157) (iv 158) (iv 159)).1 (100 * 0 + 10 * f + t).toNat)) (by rw [pz_u1_in (r := 154) (q := 159) (by decide)]; rw [pz_u1_in (r := 154) (q := 158) (by decide)]; rw [pz_u1_in (r := 154) (q := 157) (by decide)]; rw [pz_u1_top (r := 154)]; rfl)
                      refine w_call hc11 rfl (pz_cokI is_154 rfl) ?_
                      refine w_nil ?_
                      refine pz_G_of pz_b250_78 ?_
                      refine w_ret rfl ?_
                      first | exact lf_i (by first | rfl | omega) (by rfl) | (exfalso; omega))
                 · first
                   | (exfalso; first | omega | contradiction)
                   | (refine w_loc rfl ?_
                      refine w_pure rfl ?_
                      have hc12 : pz_R (pz_Sh L) 191 [.inr (.inl 154), .inl 3] (pz_u1 (pz_u1 (pz_u1 (pz_u1 iv 154 (q_zw (iv 155) (iv 161) (iv 157) (iv 158) (iv 159) (iv 154))) 157 ((q_zX (iv 155) (iv 161) (iv 157) (iv 158) (iv 159)).2.2)) 158 ((q_zX (iv 155) (iv 161) (iv 157) (iv 158) (iv 159)).1)) 159 ((q_zX (iv 155) (iv 161) (iv 157) (iv 158) (iv 159)).2.1)) (.inl (some (.inl 0))) (pz_u1 (pz_u1 (pz_u1 (pz_u1 iv 154 (pz_up (q_zw (iv 155) (iv 161) (iv 157) (iv 158) (iv 159) (iv 154)) 0 3)) 157 ((q_zX (iv 155) (iv 161) (iv 157) (iv 158) (iv 159)).2.2)) 158 ((q_zX (iv 155) (iv 161) (iv 157) (iv 158) (iv 159)).1)) 159 ((q_zX (iv 155) (iv 161) (iv 157) (iv 158) (iv 159)).2.1)) := pz_R_mem (s_X11_fails 3) (by rw [pz_u1_in (r := 154) (q := 159) (by decide)]; rw [pz_u1_in (r := 154) (q := 158) (by decide)]; rw [pz_u1_in (r := 154) (q := 157) (by decide)]; rw [pz_u1_top (r := 154)]; rfl)
                      refine w_call hc12 rfl (pz_cokI is_154 rfl) ?_
                      refine w_goto ?_
                      refine pz_G_of pz_b250_78 ?_
                      refine w_ret rfl ?_
                      first | exact lf_i (by first | rfl | omega) (by rfl) | (exfalso; omega)))
            · first
              | (exfalso; first | omega | contradiction)
              | (refine w_loc rfl ?_
                 refine w_pure rfl ?_
                 have hc13 : pz_R (pz_Sh L) 191 [.inr (.inl 154), .inl 2] (pz_u1 (pz_u1 (pz_u1 (pz_u1 iv 154 (q_zw (iv 155) (iv 161) (iv 157) (iv 158) (iv 159) (iv 154))) 157 ((q_zX (iv 155) (iv 161) (iv 157) (iv 158) (iv 159)).2.2)) 158 ((q_zX (iv 155) (iv 161) (iv 157) (iv 158) (iv 159)).1)) 159 ((q_zX (iv 155) (iv 161) (iv 157) (iv 158) (iv 159)).2.1)) (.inl (some (.inl 0))) (pz_u1 (pz_u1 (pz_u1 (pz_u1 iv 154 (pz_up (q_zw (iv 155) (iv 161) (iv 157) (iv 158) (iv 159) (iv 154)) 0 2)) 157 ((q_zX (iv 155) (iv 161) (iv 157) (iv 158) (iv 159)).2.2)) 158 ((q_zX (iv 155) (iv 161) (iv 157) (iv 158) (iv 159)).1)) 159 ((q_zX (iv 155) (iv 161) (iv 157) (iv 158) (iv 159)).2.1)) := pz_R_mem (s_X11_fails 2) (by rw [pz_u1_in (r := 154) (q := 159) (by decide)]; rw [pz_u1_in (r := 154) (q := 158) (by decide)]; rw [pz_u1_in (r := 154) (q := 157) (by decide)]; rw [pz_u1_top (r := 154)]; rfl)
                 refine w_call hc13 rfl (pz_cokI is_154 rfl) ?_
                 refine w_ret rfl ?_
                 first | exact lf_i (by first | rfl | omega) (by rfl) | (exfalso; omega)))
       · first
         | (exfalso; first | omega | contradiction)
         | (refine w_nil ?_
            refine pz_G_of pz_b250_16 ?_
            refine w_loc rfl ?_
            refine w_pure rfl ?_
            have hc14 : pz_R (pz_Sh L) 191 [.inr (.inl 154), .inl 1] (pz_u1 (pz_u1 (pz_u1 (pz_u1 iv 154 (iv 154)) 157 (iv 157)) 158 (iv 158)) 159 (iv 159)) (.inl (some (.inl 0))) (pz_u1 (pz_u1 (pz_u1 (pz_u1 iv 154 (pz_up (iv 154) 0 1)) 157 (iv 157)) 158 (iv 158)) 159 (iv 159)) := pz_R_mem (s_X11_fails 1) (by rw [pz_u1_in (r := 154) (q := 159) (by decide)]; rw [pz_u1_in (r := 154) (q := 158) (by decide)]; rw [pz_u1_in (r := 154) (q := 157) (by decide)]; rw [pz_u1_top (r := 154)]; rfl)
            refine w_call hc14 rfl (pz_cokI is_154 rfl) ?_
            refine w_ret rfl ?_
            first | exact lf_i (by first | rfl | omega) (by rfl) | (exfalso; omega)))

theorem s_X11_reduced_0 {L : Nat} {iv : Nat → Nat → Int} (f : Int) (t : Int) (hk : q_KR (iv 155)) (hcase0 : 0 ≤ f ∧ f ≤ iv 155 0 - 1 ∧ 0 ≤ t ∧ t ≤ iv 155 0 - 1) (hcase1 : q_seen (iv 155) (iv 161) (iv 157) (iv 158) (iv 159)) (hcase2 : (q_zX (iv 155) (iv 161) (iv 157) (iv 158) (iv 159)).1 (100 * 0 + 10 * f + t).toNat ≠ 1000000) : pz_R (pz_Sh L) 250 [.inr (.inl 154), .inl f, .inl t] iv (.inl (some (.inl ((q_zX (iv 155) (iv 161) (iv 157) (iv 158) (iv 159)).1 (100 * 0 + 10 * f + t).toNat)))) (pz_u1 (pz_u1 (pz_u1 (pz_u1 iv 154 (pz_up (q_zw (iv 155) (iv 161) (iv 157) (iv 158) (iv 159) (iv 154)) 0 0)) 157 ((q_zX (iv 155) (iv 161) (iv 157) (iv 158) (iv 159)).2.2)) 158 ((q_zX (iv 155) (iv 161) (iv 157) (iv 158) (iv 159)).1)) 159 ((q_zX (iv 155) (iv 161) (iv 157) (iv 158) (iv 159)).2.1)) := by
  intro dv cc ss
  have hk0 := hk.r0
  have hz7 := q_zw_7 (k := iv 155) (lf := iv 161) (g := iv 157) (v := iv 158) (a := iv 159) (w := iv 154)
  rw [pz_bi_1 hcase1] at hz7
  refine pz_G_mem (iv2 := pz_u1 (pz_u1 (pz_u1 (pz_u1 iv 154 (iv 154)) 157 (iv 157)) 158 (iv 158)) 159 (iv 159)) (by exact ((((pz_u1_self iv 154).symm).trans (pz_u1_self (pz_u1 iv 154 (iv 154)) 157).symm).trans (pz_u1_self (pz_u1 (pz_u1 iv 154 (iv 154)) 157 (iv 157)) 158).symm).trans (pz_u1_self (pz_u1 (pz_u1 (pz_u1 iv 154 (iv 154)) 157 (iv 157)) 158 (iv 158)) 159).symm) ?_
  show pz_G 250 0 [some (.inr (.inl 154)), some (.inl f), some (.inl t)] [] (pz_Sh L, pz_u1 (pz_u1 (pz_u1 (pz_u1 iv 154 (iv 154)) 157 (iv 157)) 158 (iv 158)) 159 (iv 159), dv, cc, ss) (pz_P (pz_Sh L) (.inl (some (.inl ((q_zX (iv 155) (iv 161) (iv 157) (iv 158) (iv 159)).1 (100 * 0 + 10 * f + t).toNat)))) (pz_u1 (pz_u1 (pz_u1 (pz_u1 iv 154 (pz_up (q_zw (iv 155) (iv 161) (iv 157) (iv 158) (iv 159) (iv 154)) 0 0)) 157 ((q_zX (iv 155) (iv 161) (iv 157) (iv 158) (iv 159)).2.2)) 158 ((q_zX (iv 155) (iv 161) (iv 157) (iv 158) (iv 159)).1)) 159 ((q_zX (iv 155) (iv 161) (iv 157) (iv 158) (iv 159)).2.1)) dv cc ss)
  refine pz_G_of pz_b250_0 ?_
  refine w_loc rfl ?_
  refine w_loc rfl ?_
  have hc1 : pz_R (pz_Sh L) 194 [.inr (.inl 154), .inl f] (pz_u1 (pz_u1 (pz_u1 (pz_u1 iv 154 (iv 154)) 157 (iv 157)) 158 (iv 158)) 159 (iv 159)) (.inl (some (.inl (pz_bi (0 ≤ f ∧ f ≤ (iv 155) 0 - 1))))) (pz_u1 (pz_u1 (pz_u1 (pz_u1 iv 154 (iv 154)) 157 (iv 157)) 158 (iv 158)) 159 (iv 159)) := s_X11_isEvent f (by show q_KR (iv 155); exact hk)
  refine w_call hc1 rfl (pz_cokI is_154 rfl) ?_
  refine w_beq (fun h2 => ?_) (fun h2 => ?_)
  · first
    | (exfalso; first | omega | contradiction)
    | (refine pz_G_of pz_b250_16 ?_
       refine w_loc rfl ?_
       refine w_pure rfl ?_
       have hc3 : pz_R (pz_Sh L) 191 [.inr (.inl 154), .inl 1] (pz_u1 (pz_u1 (pz_u1 (pz_u1 iv 154 (iv 154)) 157 (iv 157)) 158 (iv 158)) 159 (iv 159)) (.inl (some (.inl 0))) (pz_u1 (pz_u1 (pz_u1 (pz_u1 iv 154 (pz_up (iv 154) 0 1)) 157 (iv 157)) 158 (iv 158)) 159 (iv 159)) := pz_R_mem (s_X11_fails 1) (by rw [pz_u1_in (r := 154) (q := 159) (by decide)]; rw [pz_u1_in (r := 154) (q := 158) (by decide)]; rw [pz_u1_in (r := 154) (q := 157) (by decide)]; rw [pz_u1_top (r := 154)]; rfl)
       refine w_call hc3 rfl (pz_cokI is_154 rfl) ?_
       refine w_ret rfl ?_
       first | exact lf_i (by first | rfl | omega) (by rfl) | (exfalso; omega))
  · first
    | (exfalso; first | omega | contradiction)
    | (refine w_loc rfl ?_
       refine w_loc rfl ?_
       have hc4 : pz_R (pz_Sh L) 194 [.inr (.inl 154), .inl t] (pz_u1 (pz_u1 (pz_u1 (pz_u1 iv 154 (iv 154)) 157 (iv 157)) 158 (iv 158)) 159 (iv 159)) (.inl (some (.inl (pz_bi (0 ≤ t ∧ t ≤ (iv 155) 0 - 1))))) (pz_u1 (pz_u1 (pz_u1 (pz_u1 iv 154 (iv 154)) 157 (iv 157)) 158 (iv 158)) 159 (iv 159)) := s_X11_isEvent t (by show q_KR (iv 155); exact hk)
       refine w_call hc4 rfl (pz_cokI is_154 rfl) ?_
       refine w_bne (fun h5 => ?_) (fun h5 => ?_)
       · first
         | (exfalso; first | omega | contradiction)
         | (refine pz_G_of pz_b250_22 ?_
            refine w_loc rfl ?_
            have hc6 : pz_R (pz_Sh L) 247 [.inr (.inl 154)] (pz_u1 (pz_u1 (pz_u1 (pz_u1 iv 154 (iv 154)) 157 (iv 157)) 158 (iv 158)) 159 (iv 159)) (.inl none) (pz_u1 (pz_u1 (pz_u1 (pz_u1 iv 154 (q_zw (iv 155) (iv 161) (iv 157) (iv 158) (iv 159) (iv 154))) 157 ((q_zX (iv 155) (iv 161) (iv 157) (iv 158) (iv 159)).2.2)) 158 ((q_zX (iv 155) (iv 161) (iv 157) (iv 158) (iv 159)).1)) 159 ((q_zX (iv 155) (iv 161) (iv 157) (iv 158) (iv 159)).2.1)) := pz_R_mem (s_X11_reduces (by show q_KR (iv 155); exact hk)) (by rw [pz_u1_in (r := 154) (q := 159) (by decide)]; rw [pz_u1_in (r := 154) (q := 158) (by decide)]; rw [pz_u1_in (r := 154) (q := 157) (by decide)]; rw [pz_u1_top (r := 154)]; rw [pz_u1_in (r := 157) (q := 159) (by decide)]; rw [pz_u1_in (r := 157) (q := 158) (by decide)]; rw [pz_u1_top (r := 157)]; rw [pz_u1_in (r := 158) (q := 159) (by decide)]; rw [pz_u1_top (r := 158)]; rw [pz_u1_top (r := 159)]; rfl)
            refine w_callv hc6 rfl (pz_cokI is_154 rfl) ?_
            refine w_loc rfl ?_
            refine w_getI (v := (q_zw (iv 155) (iv 161) (iv 157) (iv 158) (iv 159) (iv 154)) 7) is_154 (by decide) rfl ?_
            refine w_zne (fun h7 => ?_) (fun h7 => ?_)
            · first
              | (exfalso; first | omega | contradiction)
              | (refine pz_G_of pz_b250_39 ?_
                 refine w_loc rfl ?_
                 refine w_getR (q := 158) is_154 rf_154_5 ?_
                 refine w_pure rfl ?_
                 refine w_loc rfl ?_
                 refine w_loc rfl ?_
                 have hc8 : pz_R (pz_Sh L) 241 [.inl 0, .inl f, .inl t] (pz_u1 (pz_u1 (pz_u1 (pz_u1 iv 154 (q_zw (iv 155) (iv 161) (iv 157) (iv 158) (iv 159) (iv 154))) 157 ((q_zX (iv 155) (iv 161) (iv 157) (iv 158) (iv 159)).2.2)) 158 ((q_zX (iv 155) (iv 161) (iv 157) (iv 158) (iv 159)).1)) 159 ((q_zX (iv 155) (iv 161) (iv 157) (iv 158) (iv 159)).2.1)) (.inl (some (.inl (100 * 0 + 10 * f + t)))) (pz_u1 (pz_u1 (pz_u1 (pz_u1 iv 154 (q_zw (iv 155) (iv 161) (iv 157) (iv 158) (iv 159) (iv 154))) 157 ((q_zX (iv 155) (iv 161) (iv 157) (iv 158) (iv 159)).2.2)) 158 ((q_zX (iv 155) (iv 161) (iv 157) (iv 158) (iv 159)).1)) 159 ((q_zX (iv 155) (iv 161) (iv 157) (iv 158) (iv 159)).2.1)) := s_X11_cell 0 f t (by show 0 ≤ 0 ∧ 0 ≤ 3; omega) (by show 0 ≤ f ∧ f ≤ 9; omega) (by show 0 ≤ t ∧ t ≤ 9; omega)
                 refine w_call hc8 rfl rfl ?_
                 refine w_iald (v := (q_zX (iv 155) (iv 161) (iv 157) (iv 158) (iv 159)).1 (100 * 0 + 10 * f + t).toNat) is_158 ln_158 ⟨by omega, by omega⟩ rfl ?_
                 refine w_ldcv (v := 1000000) rfl ?_
                 refine w_ine (fun h9 => ?_) (fun h9 => ?_)
                 · first
                   | (exfalso; first | omega | contradiction)
                   | (refine pz_G_of pz_b250_63 ?_
                      refine w_loc rfl ?_
                      refine w_loc rfl ?_
                      refine w_getR (q := 158) is_154 rf_154_5 ?_
                      refine w_pure rfl ?_
                      refine w_loc rfl ?_
                      refine w_loc rfl ?_
                      have hc10 : pz_R (pz_Sh L) 241 [.inl 0, .inl f, .inl t] (pz_u1 (pz_u1 (pz_u1 (pz_u1 iv 154 (q_zw (iv 155) (iv 161) (iv 157) (iv 158) (iv 159) (iv 154))) 157 ((q_zX (iv 155) (iv 161) (iv 157) (iv 158) (iv 159)).2.2)) 158 ((q_zX (iv 155) (iv 161) (iv 157) (iv 158) (iv 159)).1)) 159 ((q_zX (iv 155) (iv 161) (iv 157) (iv 158) (iv 159)).2.1)) (.inl (some (.inl (100 * 0 + 10 * f + t)))) (pz_u1 (pz_u1 (pz_u1 (pz_u1 iv 154 (q_zw (iv 155) (iv 161) (iv 157) (iv 158) (iv 159) (iv 154))) 157 ((q_zX (iv 155) (iv 161) (iv 157) (iv 158) (iv 159)).2.2)) 158 ((q_zX (iv 155) (iv 161) (iv 157) (iv 158) (iv 159)).1)) 159 ((q_zX (iv 155) (iv 161) (iv 157) (iv 158) (iv 159)).2.1)) := s_X11_cell 0 f t (by show 0 ≤ 0 ∧ 0 ≤ 3; omega) (by show 0 ≤ f ∧ f ≤ 9; omega) (by show 0 ≤ t ∧ t ≤ 9; omega)
                      refine w_call hc10 rfl rfl ?_
                      refine w_iald (v := (q_zX (iv 155) (iv 161) (iv 157) (iv 158) (iv 159)).1 (100 * 0 + 10 * f + t).toNat) is_158 ln_158 ⟨by omega, by omega⟩ rfl ?_
                      have hc11 : pz_R (pz_Sh L) 192 [.inr (.inl 154), .inl ((q_zX (iv 155) (iv 161) (iv 157) (iv 158) (iv 159)).1 (100 * 0 + 10 * f + t).toNat)] (pz_u1 (pz_u1 (pz_u1 (pz_u1 iv 154 (q_zw (iv 155) (iv 161) (iv 157) (iv 158) (iv 159) (iv 154))) 157 ((q_zX (iv 155) (iv 161) (iv 157) (iv 158) (iv 159)).2.2)) 158 ((q_zX (iv 155) (iv 161) (iv 157) (iv 158) (iv 159)).1)) 159 ((q_zX (iv 155) (iv 161) (iv 157) (iv 158) (iv 159)).2.1)) (.inl (some (.inl ((q_zX (iv 155) (iv 161) (iv 157) (iv 158) (iv 159)).1 (100 * 0 + 10 * f + t).toNat)))) (pz_u1 (pz_u1 (pz_u1 (pz_u1 iv 154 (pz_up (q_zw (iv 155) (iv 161) (iv 157) (iv 158) (iv 159) (iv 154)) 0 0)) 157 ((q_zX (iv 155) (iv 161) (iv 157) (iv 158) (iv 159)).2.2)) 158 ((q_zX (iv 155) (iv 161) (iv 157) (iv 158) (iv 159)).1)) 159 ((q_zX (iv 155) (iv 161) (iv 157) (iv 158) (iv 159)).2.1)) := pz_R_mem (s_X11_tells ((q_zX (iv 155) (iv 161) (iv 157) (iv 158) (iv 159)).1 (100 * 0 + 10 * f + t).toNat)) (by rw [pz_u1_in (r := 154) (q := 159) (by decide)]; rw [pz_u1_in (r := 154) (q := 158) (by decide)]; rw [pz_u1_in (r := 154) (q := 157) (by decide)]; rw [pz_u1_top (r := 154)]; rfl)
                      refine w_call hc11 rfl (pz_cokI is_154 rfl) ?_
                      refine w_nil ?_
                      refine pz_G_of pz_b250_78 ?_
                      refine w_ret rfl ?_
                      first | exact lf_i (by first | rfl | omega) (by rfl) | (exfalso; omega))
                 · first
                   | (exfalso; first | omega | contradiction)
                   | (refine w_loc rfl ?_
                      refine w_pure rfl ?_
                      have hc12 : pz_R (pz_Sh L) 191 [.inr (.inl 154), .inl 3] (pz_u1 (pz_u1 (pz_u1 (pz_u1 iv 154 (q_zw (iv 155) (iv 161) (iv 157) (iv 158) (iv 159) (iv 154))) 157 ((q_zX (iv 155) (iv 161) (iv 157) (iv 158) (iv 159)).2.2)) 158 ((q_zX (iv 155) (iv 161) (iv 157) (iv 158) (iv 159)).1)) 159 ((q_zX (iv 155) (iv 161) (iv 157) (iv 158) (iv 159)).2.1)) (.inl (some (.inl 0))) (pz_u1 (pz_u1 (pz_u1 (pz_u1 iv 154 (pz_up (q_zw (iv 155) (iv 161) (iv 157) (iv 158) (iv 159) (iv 154)) 0 3)) 157 ((q_zX (iv 155) (iv 161) (iv 157) (iv 158) (iv 159)).2.2)) 158 ((q_zX (iv 155) (iv 161) (iv 157) (iv 158) (iv 159)).1)) 159 ((q_zX (iv 155) (iv 161) (iv 157) (iv 158) (iv 159)).2.1)) := pz_R_mem (s_X11_fails 3) (by rw [pz_u1_in (r := 154) (q := 159) (by decide)]; rw [pz_u1_in (r := 154) (q := 158) (by decide)]; rw [pz_u1_in (r := 154) (q := 157) (by decide)]; rw [pz_u1_top (r := 154)]; rfl)
                      refine w_call hc12 rfl (pz_cokI is_154 rfl) ?_
                      refine w_goto ?_
                      refine pz_G_of pz_b250_78 ?_
                      refine w_ret rfl ?_
                      first | exact lf_i (by first | rfl | omega) (by rfl) | (exfalso; omega)))
            · first
              | (exfalso; first | omega | contradiction)
              | (refine w_loc rfl ?_
                 refine w_pure rfl ?_
                 have hc13 : pz_R (pz_Sh L) 191 [.inr (.inl 154), .inl 2] (pz_u1 (pz_u1 (pz_u1 (pz_u1 iv 154 (q_zw (iv 155) (iv 161) (iv 157) (iv 158) (iv 159) (iv 154))) 157 ((q_zX (iv 155) (iv 161) (iv 157) (iv 158) (iv 159)).2.2)) 158 ((q_zX (iv 155) (iv 161) (iv 157) (iv 158) (iv 159)).1)) 159 ((q_zX (iv 155) (iv 161) (iv 157) (iv 158) (iv 159)).2.1)) (.inl (some (.inl 0))) (pz_u1 (pz_u1 (pz_u1 (pz_u1 iv 154 (pz_up (q_zw (iv 155) (iv 161) (iv 157) (iv 158) (iv 159) (iv 154)) 0 2)) 157 ((q_zX (iv 155) (iv 161) (iv 157) (iv 158) (iv 159)).2.2)) 158 ((q_zX (iv 155) (iv 161) (iv 157) (iv 158) (iv 159)).1)) 159 ((q_zX (iv 155) (iv 161) (iv 157) (iv 158) (iv 159)).2.1)) := pz_R_mem (s_X11_fails 2) (by rw [pz_u1_in (r := 154) (q := 159) (by decide)]; rw [pz_u1_in (r := 154) (q := 158) (by decide)]; rw [pz_u1_in (r := 154) (q := 157) (by decide)]; rw [pz_u1_top (r := 154)]; rfl)
                 refine w_call hc13 rfl (pz_cokI is_154 rfl) ?_
                 refine w_ret rfl ?_
                 first | exact lf_i (by first | rfl | omega) (by rfl) | (exfalso; omega)))
       · first
         | (exfalso; first | omega | contradiction)
         | (refine w_nil ?_
            refine pz_G_of pz_b250_16 ?_
            refine w_loc rfl ?_
            refine w_pure rfl ?_
            have hc14 : pz_R (pz_Sh L) 191 [.inr (.inl 154), .inl 1] (pz_u1 (pz_u1 (pz_u1 (pz_u1 iv 154 (iv 154)) 157 (iv 157)) 158 (iv 158)) 159 (iv 159)) (.inl (some (.inl 0))) (pz_u1 (pz_u1 (pz_u1 (pz_u1 iv 154 (pz_up (iv 154) 0 1)) 157 (iv 157)) 158 (iv 158)) 159 (iv 159)) := pz_R_mem (s_X11_fails 1) (by rw [pz_u1_in (r := 154) (q := 159) (by decide)]; rw [pz_u1_in (r := 154) (q := 158) (by decide)]; rw [pz_u1_in (r := 154) (q := 157) (by decide)]; rw [pz_u1_top (r := 154)]; rfl)
            refine w_call hc14 rfl (pz_cokI is_154 rfl) ?_
            refine w_ret rfl ?_
            first | exact lf_i (by first | rfl | omega) (by rfl) | (exfalso; omega)))
