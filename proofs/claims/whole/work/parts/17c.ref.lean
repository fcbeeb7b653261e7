
theorem s_X11_waitFor_1 {L : Nat} {iv : Nat → Nat → Int} (e : Int) (s : Int) (hk : q_KR (iv 155)) (hcase0 : ¬ (0 ≤ e ∧ e ≤ iv 155 0 - 1 ∧ 0 ≤ s ∧ s ≤ iv 155 2 - 1)) : pz_R (pz_Sh L) 252 [.inr (.inl 154), .inl e, .inl s] iv (.inl (some (.inl 0))) (pz_u1 (pz_u1 (pz_u1 (pz_u1 iv 154 (pz_up (iv 154) 0 1)) 157 (iv 157)) 158 (iv 158)) 159 (iv 159)) := by
  intro dv cc ss
  have hk0 := hk.r0
  refine pz_G_mem (iv2 := pz_u1 (pz_u1 (pz_u1 (pz_u1 iv 154 (iv 154)) 157 (iv 157)) 158 (iv 158)) 159 (iv 159)) (by exact ((((pz_u1_self iv 154).symm).trans (pz_u1_self (pz_u1 iv 154 (iv 154)) 157).symm).trans (pz_u1_self (pz_u1 (pz_u1 iv 154 (iv 154)) 157 (iv 157)) 158).symm).trans (pz_u1_self (pz_u1 (pz_u1 (pz_u1 iv 154 (iv 154)) 157 (iv 157)) 158 (iv 158)) 159).symm) ?_
  show pz_G 252 0 [some (.inr (.inl 154)), some (.inl e), some (.inl s)] [] (pz_Sh L, pz_u1 (pz_u1 (pz_u1 (pz_u1 iv 154 (iv 154)) 157 (iv 157)) 158 (iv 158)) 159 (iv 159), dv, cc, ss) (pz_P (pz_Sh L) (.inl (some (.inl 0))) (pz_u1 (pz_u1 (pz_u1 (pz_u1 iv 154 (pz_up (iv 154) 0 1)) 157 (iv 157)) 158 (iv 158)) 159 (iv 159)) dv cc ss)
  refine pz_G_of pz_b252_0 ?_
  refine w_loc rfl ?_
  refine w_loc rfl ?_
  have hc1 : pz_R (pz_Sh L) 194 [.inr (.inl 154), .inl e] (pz_u1 (pz_u1 (pz_u1 (pz_u1 iv 154 (iv 154)) 157 (iv 157)) 158 (iv 158)) 159 (iv 159)) (.inl (some (.inl (pz_bi (0 ≤ e ∧ e ≤ (iv 155) 0 - 1))))) (pz_u1 (pz_u1 (pz_u1 (pz_u1 iv 154 (iv 154)) 157 (iv 157)) 158 (iv 158)) 159 (iv 159)) := s_X11_isEvent e (by show q_KR (iv 155); exact hk)
  refine w_call hc1 rfl (pz_cokI is_154 rfl) ?_
  refine w_beq (fun h2 => ?_) (fun h2 => ?_)
  · first
    | (exfalso; first | omega | contradiction)
    | (refine pz_G_of pz_b252_16 ?_
       refine w_loc rfl ?_
       refine w_pure rfl ?_
       have hc3 : pz_R (pz_Sh L) 191 [.inr (.inl 154), .inl 1] (pz_u1 (pz_u1 (pz_u1 (pz_u1 iv 154 (iv 154)) 157 (iv 157)) 158 (iv 158)) 159 (iv 159)) (.inl (some (.inl 0))) (pz_u1 (pz_u1 (pz_u1 (pz_u1 iv 154 (pz_up (iv 154) 0 1)) 157 (iv 157)) 158 (iv 158)) 159 (iv 159)) := pz_R_mem (s_X11_fails 1) (by rw [pz_u1_in (r := 154) (q := 159) (by decide)]; rw [pz_u1_in (r := 154) (q := 158) (by decide)]; rw [pz_u1_in (r := 154) (q := 157) (by decide)]; rw [pz_u1_top (r := 154)]; rfl)
       refine w_call hc3 rfl (pz_cokI is_154 rfl) ?_
       refine w_ret rfl ?_
       first | exact lf_i (by first | rfl | omega) (by rfl) | (exfalso; omega))
  · first
    | (exfalso; first | omega | contradiction)
    | (refine w_loc rfl ?_
       refine w_loc rfl ?_
       have hc4 : pz_R (pz_Sh L) 195 [.inr (.inl 154), .inl s] (pz_u1 (pz_u1 (pz_u1 (pz_u1 iv 154 (iv 154)) 157 (iv 157)) 158 (iv 158)) 159 (iv 159)) (.inl (some (.inl (pz_bi (0 ≤ s ∧ s ≤ (iv 155) 2 - 1))))) (pz_u1 (pz_u1 (pz_u1 (pz_u1 iv 154 (iv 154)) 157 (iv 157)) 158 (iv 158)) 159 (iv 159)) := s_X11_isSpan s (by show q_KR (iv 155); exact hk)
       refine w_call hc4 rfl (pz_cokI is_154 rfl) ?_
       refine w_bne (fun h5 => ?_) (fun h5 => ?_)
       · first
         | (exfalso; first | omega | contradiction)
         | (refine pz_G_of pz_b252_22 ?_
            refine w_loc rfl ?_
            have hc6 : pz_R (pz_Sh L) 247 [.inr (.inl 154)] (pz_u1 (pz_u1 (pz_u1 (pz_u1 iv 154 (iv 154)) 157 (iv 157)) 158 (iv 158)) 159 (iv 159)) (.inl none) (pz_u1 (pz_u1 (pz_u1 (pz_u1 iv 154 (q_zw (iv 155) (iv 161) (iv 157) (iv 158) (iv 159) (iv 154))) 157 ((q_zX (iv 155) (iv 161) (iv 157) (iv 158) (iv 159)).2.2)) 158 ((q_zX (iv 155) (iv 161) (iv 157) (iv 158) (iv 159)).1)) 159 ((q_zX (iv 155) (iv 161) (iv 157) (iv 158) (iv 159)).2.1)) := pz_R_mem (s_X11_reduces (by show q_KR (iv 155); exact hk)) (by rw [pz_u1_in (r := 154) (q := 159) (by decide)]; rw [pz_u1_in (r := 154) (q := 158) (by decide)]; rw [pz_u1_in (r := 154) (q := 157) (by decide)]; rw [pz_u1_top (r := 154)]; rw [pz_u1_in (r := 157) (q := 159) (by decide)]; rw [pz_u1_in (r := 157) (q := 158) (by decide)]; rw [pz_u1_top (r := 157)]; rw [pz_u1_in (r := 158) (q := 159) (by decide)]; rw [pz_u1_top (r := 158)]; rw [pz_u1_top (r := 159)]; rfl)
            refine w_callv hc6 rfl (pz_cokI is_154 rfl) ?_
            refine w_loc rfl ?_
            refine w_getI (v := (q_zw (iv 155) (iv 161) (iv 157) (iv 158) (iv 159) (iv 154)) 7) is_154 (by decide) rfl ?_
            refine w_zne (fun h7 => ?_) (fun h7 => ?_)
            · first
              | (exfalso; first | omega | contradiction)
              | (refine pz_G_of pz_b252_39 ?_
                 refine w_loc rfl ?_
                 refine w_loc rfl ?_
                 refine w_loc rfl ?_
                 have hc8 : pz_R (pz_Sh L) 251 [.inr (.inl 154), .inl e, .inl s] (pz_u1 (pz_u1 (pz_u1 (pz_u1 iv 154 (q_zw (iv 155) (iv 161) (iv 157) (iv 158) (iv 159) (iv 154))) 157 ((q_zX (iv 155) (iv 161) (iv 157) (iv 158) (iv 159)).2.2)) 158 ((q_zX (iv 155) (iv 161) (iv 157) (iv 158) (iv 159)).1)) 159 ((q_zX (iv 155) (iv 161) (iv 157) (iv 158) (iv 159)).2.1)) (.inl (some (.inl (q_wt ((q_zX (iv 155) (iv 161) (iv 157) (iv 158) (iv 159)).1) (iv 155) e s)))) (pz_u1 (pz_u1 (pz_u1 (pz_u1 iv 154 (q_zw (iv 155) (iv 161) (iv 157) (iv 158) (iv 159) (iv 154))) 157 ((q_zX (iv 155) (iv 161) (iv 157) (iv 158) (iv 159)).2.2)) 158 ((q_zX (iv 155) (iv 161) (iv 157) (iv 158) (iv 159)).1)) 159 ((q_zX (iv 155) (iv 161) (iv 157) (iv 158) (iv 159)).2.1)) := s_X11_waitOf e s (by show q_KR (iv 155); exact hk) (by show 0 ≤ e ∧ e ≤ 9; omega) (by show 0 ≤ s ∧ s < (iv 155) 2; omega) (by show q_vl ((q_zX (iv 155) (iv 161) (iv 157) (iv 158) (iv 159)).1); exact q_zv_l hk hcase1)
                 refine w_call hc8 rfl (pz_cokI is_154 rfl) ?_
                 refine w_zne (fun h9 => ?_) (fun h9 => ?_)
                 · first
                   | (exfalso; first | omega | contradiction)
                   | (refine pz_G_of pz_b252_56 ?_
                      refine w_loc rfl ?_
                      refine w_loc rfl ?_
                      refine w_loc rfl ?_
                      refine w_loc rfl ?_
                      have hc10 : pz_R (pz_Sh L) 251 [.inr (.inl 154), .inl e, .inl s] (pz_u1 (pz_u1 (pz_u1 (pz_u1 iv 154 (q_zw (iv 155) (iv 161) (iv 157) (iv 158) (iv 159) (iv 154))) 157 ((q_zX (iv 155) (iv 161) (iv 157) (iv 158) (iv 159)).2.2)) 158 ((q_zX (iv 155) (iv 161) (iv 157) (iv 158) (iv 159)).1)) 159 ((q_zX (iv 155) (iv 161) (iv 157) (iv 158) (iv 159)).2.1)) (.inl (some (.inl (q_wt ((q_zX (iv 155) (iv 161) (iv 157) (iv 158) (iv 159)).1) (iv 155) e s)))) (pz_u1 (pz_u1 (pz_u1 (pz_u1 iv 154 (q_zw (iv 155) (iv 161) (iv 157) (iv 158) (iv 159) (iv 154))) 157 ((q_zX (iv 155) (iv 161) (iv 157) (iv 158) (iv 159)).2.2)) 158 ((q_zX (iv 155) (iv 161) (iv 157) (iv 158) (iv 159)).1)) 159 ((q_zX (iv 155) (iv 161) (iv 157) (iv 158) (iv 159)).2.1)) := s_X11_waitOf e s (by show q_KR (iv 155); exact hk) (by show 0 ≤ e ∧ e ≤ 9; omega) (by show 0 ≤ s ∧ s < (iv 155) 2; omega) (by show q_vl ((q_zX (iv 155) (iv 161) (iv 157) (iv 158) (iv 159)).1); exact q_zv_l hk hcase1)
                      refine w_call hc10 rfl (pz_cokI is_154 rfl) ?_
                      have hc11 : pz_R (pz_Sh L) 192 [.inr (.inl 154), .inl (q_wt ((q_zX (iv 155) (iv 161) (iv 157) (iv 158) (iv 159)).1) (iv 155) e s)] (pz_u1 (pz_u1 (pz_u1 (pz_u1 iv 154 (q_zw (iv 155) (iv 161) (iv 157) (iv 158) (iv 159) (iv 154))) 157 ((q_zX (iv 155) (iv 161) (iv 157) (iv 158) (iv 159)).2.2)) 158 ((q_zX (iv 155) (iv 161) (iv 157) (iv 158) (iv 159)).1)) 159 ((q_zX (iv 155) (iv 161) (iv 157) (iv 158) (iv 159)).2.1)) (.inl (some (.inl (q_wt ((q_zX (iv 155) (iv 161) (iv 157) (iv 158) (iv 159)).1) (iv 155) e s)))) (pz_u1 (pz_u1 (pz_u1 (pz_u1 iv 154 (pz_up (q_zw (iv 155) (iv 161) (iv 157) (iv 158) (iv 159) (iv 154)) 0 0)) 157 ((q_zX (iv 155) (iv 161) (iv 157) (iv 158) (iv 159)).2.2)) 158 ((q_zX (iv 155) (iv 161) (iv 157) (iv 158) (iv 159)).1)) 159 ((q_zX (iv 155) (iv 161) (iv 157) (iv 158) (iv 159)).2.1)) := pz_R_mem (s_X11_tells (q_wt ((q_zX (iv 155) (iv 161) (iv 157) (iv 158) (iv 159)).1) (iv 155) e s)) (by rw [pz_u1_in (r := 154) (q := 159) (by decide)]; rw [pz_u1_in (r := 154) (q := 158) (by decide)]; rw [pz_u1_in (r := 154) (q := 157) (by decide)]; rw [pz_u1_top (r := 154)]; rfl)
                      refine w_call hc11 rfl (pz_cokI is_154 rfl) ?_
                      refine w_nil ?_
                      refine pz_G_of pz_b252_66 ?_
                      refine w_ret rfl ?_
                      first | exact lf_i (by first | rfl | omega) (by rfl) | (exfalso; omega))
                 · first
                   | (exfalso; first | omega | contradiction)
                   | (refine w_loc rfl ?_
                      refine w_pure rfl ?_
                      have hc12 : pz_R (pz_Sh L) 191 [.inr (.inl 154), .inl 3] (pz_u1 (pz_u1 (pz_u1 (pz_u1 iv 154 (q_zw (iv 155) (iv 161) (iv 157) (iv 158) (iv 159) (iv 154))) 157 ((q_zX (iv 155) (iv 161) (iv 157) (iv 158) (iv 159)).2.2)) 158 ((q_zX (iv 155) (iv 161) (iv 157) (iv 158) (iv 159)).1)) 159 ((q_zX (iv 155) (iv 161) (iv 157) (iv 158) (iv 159)).2.1)) (.inl (some (.inl 0))) (pz_u1 (pz_u1 (pz_u1 (pz_u1 iv 154 (pz_up (q_zw (iv 155) (iv 161) (iv 157) (iv 158) (iv 159) (iv 154)) 0 3)) 157 ((q_zX (iv 155) (iv 161) (iv 157) (iv 158) (iv 159)).2.2)) 158 ((q_zX (iv 155) (iv 161) (iv 157) (iv 158) (iv 159)).1)) 159 ((q_zX (iv 155) (iv 161) (iv 157) (iv 158) (iv 159)).2.1)) := pz_R_mem (s_X11_fails 3) (by rw [pz_u1_in (r := 154) (q := 159) (by decide)]; rw [pz_u1_in (r := 154) (q := 158) (by decide)]; rw [pz_u1_in (r := 154) (q := 157) (by decide)]; rw [pz_u1_top (r := 154)]; rfl)
                      refine w_call hc12 rfl (pz_cokI is_154 rfl) ?_
                      refine w_goto ?_
                      refine pz_G_of pz_b252_66 ?_
                      refine w_ret rfl ?_
                      first | exact lf_i (by first | rfl | omega) (by rfl) | (exfalso; omega)))
            · first
              | (exfalso; first | omega | contradiction)
              | (refine w_loc rfl ?_
                 refine w_pure rfl ?_
                 have hc13 : pz_R (pz_Sh L) 191 [.inr (.inl 154), .inl 2] (pz_u1 (pz_u1 (pz_u1 (pz_u1 iv 154 (q_zw (iv 155) (iv 161) (iv 157) (iv 158) (iv 159) (iv 154))) 157 ((q_zX (iv 155) (iv 161) (iv 157) (iv 158) (iv 159)).2.2)) 158 ((q_zX (iv 155) (iv 161) (iv 157) (iv 158) (iv 159)).1)) 159 ((q_zX (iv 155) (iv 161) (iv 157) (iv 158) (iv 159)).2.1)) (.inl (some (.inl 0))) (pz_u1 (pz_u1 (pz_u1 (pz_u1 iv 154 (pz_up (q_zw (iv 155) (iv 161) (iv 157) (iv 158) (iv 159) (iv 154)) 0 2)) 157 ((q_zX (iv 155) (iv 161) (iv 157) (iv 158) (iv 159)).2.2)) 158 ((q_zX (iv 155) (iv 161) (iv 157) (iv 158) (iv 159)).1)) 159 ((q_zX (iv 155) (iv 161) (iv 157) (iv 158) (iv 159)).2.1)) := pz_R_mem (s_X11_fails 2) (by rw [pz_u1_in (r := 154) (q := 159) (by decide)]; rw [pz_u1_in (r := 154) (q := 158) (by decide)]; rw [pz_u1_in (r := 154) (q := 157) (by decide)]; rw [pz_u1_top (r := 154)]; rfl)
                 refine w_call hc13 rfl (pz_cokI is_154 rfl) ?_
                 refine w_ret rfl ?_
                 first | exact lf_i (by first | rfl | omega) (by rfl) | (exfalso; omega)))
       · first
         | (exfalso; first | omega | contradiction)
         | (refine w_nil ?_
            refine pz_G_of pz_b252_16 ?_
            refine w_loc rfl ?_
            refine w_pure rfl ?_
            have hc14 : pz_R (pz_Sh L) 191 [.inr (.inl 154), .inl 1] (pz_u1 (pz_u1 (pz_u1 (pz_u1 iv 154 (iv 154)) 157 (iv 157)) 158 (iv 158)) 159 (iv 159)) (.inl (some (.inl 0))) (pz_u1 (pz_u1 (pz_u1 (pz_u1 iv 154 (pz_up (iv 154) 0 1)) 157 (iv 157)) 158 (iv 158)) 159 (iv 159)) := pz_R_mem (s_X11_fails 1) (by rw [pz_u1_in (r := 154) (q := 159) (by decide)]; rw [pz_u1_in (r := 154) (q := 158) (by decide)]; rw [pz_u1_in (r := 154) (q := 157) (by decide)]; rw [pz_u1_top (r := 154)]; rfl)
            refine w_call hc14 rfl (pz_cokI is_154 rfl) ?_
            refine w_ret rfl ?_
            first | exact lf_i (by first | rfl | omega) (by rfl) | (exfalso; omega)))

theorem s_X11_waitFor_2 {L : Nat} {iv : Nat → Nat → Int} (e : Int) (s : Int) (hk : q_KR (iv 155)) (hcase0 : 0 ≤ e ∧ e ≤ iv 155 0 - 1 ∧ 0 ≤ s ∧ s ≤ iv 155 2 - 1) (hcase1 : ¬ q_seen (iv 155) (iv 161) (iv 157) (iv 158) (iv 159)) : pz_R (pz_Sh L) 252 [.inr (.inl 154), .inl e, .inl s] iv (.inl (some (.inl 0))) (pz_u1 (pz_u1 (pz_u1 (pz_u1 iv 154 (pz_up (q_zw (iv 155) (iv 161) (iv 157) (iv 158) (iv 159) (iv 154)) 0 2)) 157 ((q_zX (iv 155) (iv 161) (iv 157) (iv 158) (iv 159)).2.2)) 158 ((q_zX (iv 155) (iv 161) (iv 157) (iv 158) (iv 159)).1)) 159 ((q_zX (iv 155) (iv 161) (iv 157) (iv 158) (iv 159)).2.1)) := by
  intro dv cc ss
  have hk0 := hk.r0
  have hz7 := q_zw_7 (k := iv 155) (lf := iv 161) (g := iv 157) (v := iv 158) (a := iv 159) (w := iv 154)
  rw [pz_bi_0 hcase1] at hz7
  refine pz_G_mem (iv2 := pz_u1 (pz_u1 (pz_u1 (pz_u1 iv 154 (iv 154)) 157 (iv 157)) 158 (iv 158)) 159 (iv 159)) (by exact ((((pz_u1_self iv 154).symm).trans (pz_u1_self (pz_u1 iv 154 (iv 154)) 157).symm).trans (pz_u1_self (pz_u1 (pz_u1 iv 154 (iv 154)) 157 (iv 157)) 158).symm).trans (pz_u1_self (pz_u1 (pz_u1 (pz_u1 iv 154 (iv 154)) 157 (iv 157)) 158 (iv 158)) 159).symm) ?_
  show pz_G 252 0 [some (.inr (.inl 154)), some (.inl e), some (.inl s)] [] (pz_Sh L, pz_u1 (pz_u1 (pz_u1 (pz_u1 iv 154 (iv 154)) 157 (iv 157)) 158 (iv 158)) 159 (iv 159), dv, cc, ss) (pz_P (pz_Sh L) (.inl (some (.inl 0))) (pz_u1 (pz_u1 (pz_u1 (pz_u1 iv 154 (pz_up (q_zw (iv 155) (iv 161) (iv 157) (iv 158) (iv 159) (iv 154)) 0 2)) 157 ((q_zX (iv 155) (iv 161) (iv 157) (iv 158) (iv 159)).2.2)) 158 ((q_zX (iv 155) (iv 161) (iv 157) (iv 158) (iv 159)).1)) 159 ((q_zX (iv 155) (iv 161) (iv 157) (iv 158) (iv 159)).2.1)) dv cc ss)
  refine pz_G_of pz_b252_0 ?_
  refine w_loc rfl ?_
  refine w_loc rfl ?_
  have hc1 : pz_R (pz_Sh L) 194 [.inr (.inl 154), .inl e] (pz_u1 (pz_u1 (pz_u1 (pz_u1 iv 154 (iv 154)) 157 (iv 157)) 158 (iv 158)) 159 (iv 159)) (.inl (some (.inl (pz_bi (0 ≤ e ∧ e ≤ (iv 155) 0 - 1))))) (pz_u1 (pz_u1 (pz_u1 (pz_u1 iv 154 (iv 154)) 157 (iv 157)) 158 (iv 158)) 159 (iv 159)) := s_X11_isEvent e (by show q_KR (iv 155); exact hk)
  refine w_call hc1 rfl (pz_cokI is_154 rfl) ?_
  refine w_beq (fun h2 => ?_) (fun h2 => ?_)
  · first
    | (exfalso; first | omega | contradiction)
    | (refine pz_G_of pz_b252_16 ?_
       refine w_loc rfl ?_
       refine w_pure rfl ?_
       have hc3 : pz_R (pz_Sh L) 191 [.inr (.inl 154), .inl 1] (pz_u1 (pz_u1 (pz_u1 (pz_u1 iv 154 (iv 154)) 157 (iv 157)) 158 (iv 158)) 159 (iv 159)) (.inl (some (.inl 0))) (pz_u1 (pz_u1 (pz_u1 (pz_u1 iv 154 (pz_up (iv 154) 0 1)) 157 (iv 157)) 158 (iv 158)) 159 (iv 159)) := pz_R_mem (s_X11_fails 1) (by rw [pz_u1_in (r := 154) (q := 159) (by decide)]; rw [pz_u1_in (r := 154) (q := 158) (by decide)]; rw [pz_u1_in (r := 154) (q := 157) (by decide)]; rw [pz_u1_top (r := 154)]; rfl)
       refine w_call hc3 rfl (pz_cokI is_154 rfl) ?_
       refine w_ret rfl ?_
       first | exact lf_i (by first | rfl | omega) (by rfl) | (exfalso; omega))
  · first
    | (exfalso; first | omega | contradiction)
    | (refine w_loc rfl ?_
       refine w_loc rfl ?_
       have hc4 : pz_R (pz_Sh L) 195 [.inr (.inl 154), .inl s] (pz_u1 (pz_u1 (pz_u1 (pz_u1 iv 154 (iv 154)) 157 (iv 157)) 158 (iv 158)) 159 (iv 159)) (.inl (some (.inl (pz_bi (0 ≤ s ∧ s ≤ (iv 155) 2 - 1))))) (pz_u1 (pz_u1 (pz_u1 (pz_u1 iv 154 (iv 154)) 157 (iv 157)) 158 (iv 158)) 159 (iv 159)) := s_X11_isSpan s (by show q_KR (iv 155); exact hk)
       refine w_call hc4 rfl (pz_cokI is_154 rfl) ?_
       refine w_bne (fun h5 => ?_) (fun h5 => ?_)
       · first
         | (exfalso; first | omega | contradiction)
         | (refine pz_G_of pz_b252_22 ?_
            refine w_loc rfl ?_
            have hc6 : pz_R (pz_Sh L) 247 [.inr (.inl 154)] (pz_u1 (pz_u1 (pz_u1 (pz_u1 iv 154 (iv 154)) 157 (iv 157)) 158 (iv 158)) 159 (iv 159)) (.inl none) (pz_u1 (pz_u1 (pz_u1 (pz_u1 iv 154 (q_zw (iv 155) (iv 161) (iv 157) (iv 158) (iv 159) (iv 154))) 157 ((q_zX (iv 155) (iv 161) (iv 157) (iv 158) (iv 159)).2.2)) 158 ((q_zX (iv 155) (iv 161) (iv 157) (iv 158) (iv 159)).1)) 159 ((q_zX (iv 155) (iv 161) (iv 157) (iv 158) (iv 159)).2.1)) := pz_R_mem (s_X11_reduces (by show q_KR (iv 155); exact hk)) (by rw [pz_u1_in (r := 154) (q := 159) (by decide)]; rw [pz_u1_in (r := 154) (q := 158) (by decide)]; rw [pz_u1_in (r := 154) (q := 157) (by decide)]; rw [pz_u1_top (r := 154)]; rw [pz_u1_in (r := 157) (q := 159) (by decide)]; rw [pz_u1_in (r := 157) (q := 158) (by decide)]; rw [pz_u1_top (r := 157)]; rw [pz_u1_in (r := 158) (q := 159) (by decide)]; rw [pz_u1_top (r := 158)]; rw [pz_u1_top (r := 159)]; rfl)
            refine w_callv hc6 rfl (pz_cokI is_154 rfl) ?_
            refine w_loc rfl ?_
            refine w_getI (v := (q_zw (iv 155) (iv 161) (iv 157) (iv 158) (iv 159) (iv 154)) 7) is_154 (by decide) rfl ?_
            refine w_zne (fun h7 => ?_) (fun h7 => ?_)
            · first
              | (exfalso; first | omega | contradiction)
              | (refine pz_G_of pz_b252_39 ?_
                 refine w_loc rfl ?_
                 refine w_loc rfl ?_
                 refine w_loc rfl ?_
                 have hc8 : pz_R (pz_Sh L) 251 [.inr (.inl 154), .inl e, .inl s] (pz_u1 (pz_u1 (pz_u1 (pz_u1 iv 154 (q_zw (iv 155) (iv 161) (iv 157) (iv 158) (iv 159) (iv 154))) 157 ((q_zX (iv 155) (iv 161) (iv 157) (iv 158) (iv 159)).2.2)) 158 ((q_zX (iv 155) (iv 161) (iv 157) (iv 158) (iv 159)).1)) 159 ((q_zX (iv 155) (iv 161) (iv 157) (iv 158) (iv 159)).2.1)) (.inl (some (.inl (q_wt ((q_zX (iv 155) (iv 161) (iv 157) (iv 158) (iv 159)).1) (iv 155) e s)))) (pz_u1 (pz_u1 (pz_u1 (pz_u1 iv 154 (q_zw (iv 155) (iv 161) (iv 157) (iv 158) (iv 159) (iv 154))) 157 ((q_zX (iv 155) (iv 161) (iv 157) (iv 158) (iv 159)).2.2)) 158 ((q_zX (iv 155) (iv 161) (iv 157) (iv 158) (iv 159)).1)) 159 ((q_zX (iv 155) (iv 161) (iv 157) (iv 158) (iv 159)).2.1)) := s_X11_waitOf e s (by show q_KR (iv 155); exact hk) (by show 0 ≤ e ∧ e ≤ 9; omega) (by show 0 ≤ s ∧ s < (iv 155) 2; omega) (by show q_vl ((q_zX (iv 155) (iv 161) (iv 157) (iv 158) (iv 159)).1); exact q_zv_l hk hcase1)
                 refine w_call hc8 rfl (pz_cokI is_154 rfl) ?_
                 refine w_zne (fun h9 => ?_) (fun h9 => ?_)
                 · first
                   | (exfalso; first | omega | contradiction)
                   | (refine pz_G_of pz_b252_56 ?_
                      refine w_loc rfl ?_
                      refine w_loc rfl ?_
                      refine w_loc rfl ?_
                      refine w_loc rfl ?_
                      have hc10 : pz_R (pz_Sh L) 251 [.inr (.inl 154), .inl e, .inl s] (pz_u1 (pz_u1 (pz_u1 (pz_u1 iv 154 (q_zw (iv 155) (iv 161) (iv 157) (iv 158) (iv 159) (iv 154))) 157 ((q_zX (iv 155) (iv 161) (iv 157) (iv 158) (iv 159)).2.2)) 158 ((q_zX (iv 155) (iv 161) (iv 157) (iv 158) (iv 159)).1)) 159 ((q_zX (iv 155) (iv 161) (iv 157) (iv 158) (iv 159)).2.1)) (.inl (some (.inl (q_wt ((q_zX (iv 155) (iv 161) (iv 157) (iv 158) (iv 159)).1) (iv 155) e s)))) (pz_u1 (pz_u1 (pz_u1 (pz_u1 iv 154 (q_zw (iv 155) (iv 161) (iv 157) (iv 158) (iv 159) (iv 154))) 157 ((q_zX (iv 155) (iv 161) (iv 157) (iv 158) (iv 159)).2.2)) 158 ((q_zX (iv 155) (iv 161) (iv 157) (iv 158) (iv 159)).1)) 159 ((q_zX (iv 155) (iv 161) (iv 157) (iv 158) (iv 159)).2.1)) := s_X11_waitOf e s (by show q_KR (iv 155); exact hk) (by show 0 ≤ e ∧ e ≤ 9; omega) (by show 0 ≤ s ∧ s < (iv 155) 2; omega) (by show q_vl ((q_zX (iv 155) (iv 161) (iv 157) (iv 158) (iv 159)).1); exact q_zv_l hk hcase1)
                      refine w_call hc10 rfl (pz_cokI is_154 rfl) ?_
                      have hc11 : pz_R (pz_Sh L) 192 [.inr (.inl 154), .inl (q_wt ((q_zX (iv 155) (iv 161) (iv 157) (iv 158) (iv 159)).1) (iv 155) e s)] (pz_u1 (pz_u1 (pz_u1 (pz_u1 iv 154 (q_zw (iv 155) (iv 161) (iv 157) (iv 158) (iv 159) (iv 154))) 157 ((q_zX (iv 155) (iv 161) (iv 157) (iv 158) (iv 159)).2.2)) 158 ((q_zX (iv 155) (iv 161) (iv 157) (iv 158) (iv 159)).1)) 159 ((q_zX (iv 155) (iv 161) (iv 157) (iv 158) (iv 159)).2.1)) (.inl (some (.inl (q_wt ((q_zX (iv 155) (iv 161) (iv 157) (iv 158) (iv 159)).1) (iv 155) e s)))) (pz_u1 (pz_u1 (pz_u1 (pz_u1 iv 154 (pz_up (q_zw (iv 155) (iv 161) (iv 157) (iv 158) (iv 159) (iv 154)) 0 0)) 157 ((q_zX (iv 155) (iv 161) (iv 157) (iv 158) (iv 159)).2.2)) 158 ((q_zX (iv 155) (iv 161) (iv 157) (iv 158) (iv 159)).1)) 159 ((q_zX (iv 155) (iv 161) (iv 157) (iv 158) (iv 159)).2.1)) := pz_R_mem (s_X11_tells (q_wt ((q_zX (iv 155) (iv 161) (iv 157) (iv 158) (iv 159)).1) (iv 155) e s)) (by rw [pz_u1_in (r := 154) (q := 159) (by decide)]; rw [pz_u1_in (r := 154) (q := 158) (by decide)]; rw [pz_u1_in (r := 154) (q := 157) (by decide)]; rw [pz_u1_top (r := 154)]; rfl)
                      refine w_call hc11 rfl (pz_cokI is_154 rfl) ?_
                      refine w_nil ?_
                      refine pz_G_of pz_b252_66 ?_
                      refine w_ret rfl ?_
                      first | exact lf_i (by first | rfl | omega) (by rfl) | (exfalso; omega))
                 · first
                   | (exfalso; first | omega | contradiction)
                   | (refine w_loc rfl ?_
                      refine w_pure rfl ?_
                      have hc12 : pz_R (pz_Sh L) 191 [.inr (.inl 154), .inl 3] (pz_u1 (pz_u1 (pz_u1 (pz_u1 iv 154 (q_zw (iv 155) (iv 161) (iv 157) (iv 158) (iv 159) (iv 154))) 157 ((q_zX (iv 155) (iv 161) (iv 157) (iv 158) (iv 159)).2.2)) 158 ((q_zX (iv 155) (iv 161) (iv 157) (iv 158) (iv 159)).1)) 159 ((q_zX (iv 155) (iv 161) (iv 157) (iv 158) (iv 159)).2.1)) (.inl (some (.inl 0))) (pz_u1 (pz_u1 (pz_u1 (pz_u1 iv 154 (pz_up (q_zw (iv 155) (iv 161) (iv 157) (iv 158) (iv 159) (iv 154)) 0 3)) 157 ((q_zX (iv 155) (iv 161) (iv 157) (iv 158) (iv 159)).2.2)) 158 ((q_zX (iv 155) (iv 161) (iv 157) (iv 158) (iv 159)).1)) 159 ((q_zX (iv 155) (iv 161) (iv 157) (iv 158) (iv 159)).2.1)) := pz_R_mem (s_X11_fails 3) (by rw [pz_u1_in (r := 154) (q := 159) (by decide)]; rw [pz_u1_in (r := 154) (q := 158) (by decide)]; rw [pz_u1_in (r := 154) (q := 157) (by decide)]; rw [pz_u1_top (r := 154)]; rfl)
                      refine w_call hc12 rfl (pz_cokI is_154 rfl) ?_
                      refine w_goto ?_
                      refine pz_G_of pz_b252_66 ?_
                      refine w_ret rfl ?_
                      first | exact lf_i (by first | rfl | omega) (by rfl) | (exfalso; omega)))
            · first
              | (exfalso; first | omega | contradiction)
              | (refine w_loc rfl ?_
                 refine w_pure rfl ?_
                 have hc13 : pz_R (pz_Sh L) 191 [.inr (.inl 154), .inl 2] (pz_u1 (pz_u1 (pz_u1 (pz_u1 iv 154 (q_zw (iv 155) (iv 161) (iv 157) (iv 158) (iv 159) (iv 154))) 157 ((q_zX (iv 155) (iv 161) (iv 157) (iv 158) (iv 159)).2.2)) 158 ((q_zX (iv 155) (iv 161) (iv 157) (iv 158) (iv 159)).1)) 159 ((q_zX (iv 155) (iv 161) (iv 157) (iv 158) (iv 159)).2.1)) (.inl (some (.inl 0))) (pz_u1 (pz_u1 (pz_u1 (pz_u1 iv 154 (pz_up (q_zw (iv 155) (iv 161) (iv 157) (iv 158) (iv 159) (iv 154)) 0 2)) 157 ((q_zX (iv 155) (iv 161) (iv 157) (iv 158) (iv 159)).2.2)) 158 ((q_zX (iv 155) (iv 161) (iv 157) (iv 158) (iv 159)).1)) 159 ((q_zX (iv 155) (iv 161) (iv 157) (iv 158) (iv 159)).2.1)) := pz_R_mem (s_X11_fails 2) (by rw [pz_u1_in (r := 154) (q := 159) (by decide)]; rw [pz_u1_in (r := 154) (q := 158) (by decide)]; rw [pz_u1_in (r := 154) (q := 157) (by decide)]; rw [pz_u1_top (r := 154)]; rfl)
                 refine w_call hc13 rfl (pz_cokI is_154 rfl) ?_
                 refine w_ret rfl ?_
                 first | exact lf_i (by first | rfl | omega) (by rfl) | (exfalso; omega)))
       · first
         | (exfalso; first | omega | contradiction)
         | (refine w_nil ?_
            refine pz_G_of pz_b252_16 ?_
            refine w_loc rfl ?_
            refine w_pure rfl ?_
            have hc14 : pz_R (pz_Sh L) 191 [.inr (.inl 154), .inl 1] (pz_u1 (pz_u1 (pz_u1 (pz_u1 iv 154 (iv 154)) 157 (iv 157)) 158 (iv 158)) 159 (iv 159)) (.inl (some (.inl 0))) (pz_u1 (pz_u1 (pz_u1 (pz_u1 iv 154 (pz_up (iv 154) 0 1)) 157 (iv 157)) 158 (iv 158)) 159 (iv 159)) := pz_R_mem (s_X11_fails 1) (by rw [pz_u1_in (r := 154) (q := 159) (by decide)]; rw [pz_u1_in (r := 154) (q := 158) (by decide)]; rw [pz_u1_in (r := 154) (q := 157) (by decide)]; rw [pz_u1_top (r := 154)]; rfl)
            refine w_call hc14 rfl (pz_cokI is_154 rfl) ?_
            refine w_ret rfl ?_
            first | exact lf_i (by first | rfl | omega) (by rfl) | (exfalso; omega)))

theorem s_X11_waitFor_3 {L : Nat} {iv : Nat → Nat → Int} (e : Int) (s : Int) (hk : q_KR (iv 155)) (hcase0 : 0 ≤ e ∧ e ≤ iv 155 0 - 1 ∧ 0 ≤ s ∧ s ≤ iv 155 2 - 1) (hcase1 : q_seen (iv 155) (iv 161) (iv 157) (iv 158) (iv 159)) (hcase2 : q_wt (q_zX (iv 155) (iv 161) (iv 157) (iv 158) (iv 159)).1 (iv 155) e s = 0) : pz_R (pz_Sh L) 252 [.inr (.inl 154), .inl e, .inl s] iv (.inl (some (.inl 0))) (pz_u1 (pz_u1 (pz_u1 (pz_u1 iv 154 (pz_up (q_zw (iv 155) (iv 161) (iv 157) (iv 158) (iv 159) (iv 154)) 0 3)) 157 ((q_zX (iv 155) (iv 161) (iv 157) (iv 158) (iv 159)).2.2)) 158 ((q_zX (iv 155) (iv 161) (iv 157) (iv 158) (iv 159)).1)) 159 ((q_zX (iv 155) (iv 161) (iv 157) (iv 158) (iv 159)).2.1)) := by
  intro dv cc ss
  have hk0 := hk.r0
  have hz7 := q_zw_7 (k := iv 155) (lf := iv 161) (g := iv 157) (v := iv 158) (a := iv 159) (w := iv 154)
  rw [pz_bi_1 hcase1] at hz7
  refine pz_G_mem (iv2 := pz_u1 (pz_u1 (pz_u1 (pz_u1 iv 154 (iv 154)) 157 (iv 157)) 158 (iv 158)) 159 (iv 159)) (by exact ((((pz_u1_self iv 154).symm).trans (pz_u1_self (pz_u1 iv 154 (iv 154)) 157).symm).trans (pz_u1_self (pz_u1 (pz_u1 iv 154 (iv 154)) 157 (iv 157)) 158).symm).trans (pz_u1_self (pz_u1 (pz_u1 (pz_u1 iv 154 (iv 154)) 157 (iv 157)) 158 (iv 158)) 159).symm) ?_
  show pz_G 252 0 [some (.inr (.inl 154)), some (.inl e), some (.inl s)] [] (pz_Sh L, pz_u1 (pz_u1 (pz_u1 (pz_u1 iv 154 (iv 154)) 157 (iv 157)) 158 (iv 158)) 159 (iv 159), dv, cc, ss) (pz_P (pz_Sh L) (.inl (some (.inl 0))) (pz_u1 (pz_u1 (pz_u1 (pz_u1 iv 154 (pz_up (q_zw (iv 155) (iv 161) (iv 157) (iv 158) (iv 159) (iv 154)) 0 3)) 157 ((q_zX (iv 155) (iv 161) (iv 157) (iv 158) (iv 159)).2.2)) 158 ((q_zX (iv 155) (iv 161) (iv 157) (iv 158) (iv 159)).1)) 159 ((q_zX (iv 155) (iv 161) (iv 157) (iv 158) (iv 159)).2.1)) dv cc ss)
  refine pz_G_of pz_b252_0 ?_
  refine w_loc rfl ?_
  refine w_loc rfl ?_
  have hc1 : pz_R (pz_Sh L) 194 [.inr (.inl 154), .inl e] (pz_u1 (pz_u1 (pz_u1 (pz_u1 iv 154 (iv 154)) 157 (iv 157)) 158 (iv 158)) 159 (iv 159)) (.inl (some (.inl (pz_bi (0 ≤ e ∧ e ≤ (iv 155) 0 - 1))))) (pz_u1 (pz_u1 (pz_u1 (pz_u1 iv 154 (iv 154)) 157 (iv 157)) 158 (iv 158)) 159 (iv 159)) := s_X11_isEvent e (by show q_KR (iv 155); exact hk)
  refine w_call hc1 rfl (pz_cokI is_154 rfl) ?_
  refine w_beq (fun h2 => ?_) (fun h2 => ?_)
  · first
    | (exfalso; first | omega | contradiction)
    | (refine pz_G_of pz_b252_16 ?_
       refine w_loc rfl ?_
       refine w_pure rfl ?_
       have hc3 : pz_R (pz_Sh L) 191 [.inr (.inl 154), .inl 1] (pz_u1 (pz_u1 (pz_u1 (pz_u1 iv 154 (iv 154)) 157 (iv 157)) 158 (iv 158)) 159 (iv 159)) (.inl (some (.inl 0))) (pz_u1 (pz_u1 (pz_u1 (pz_u1 iv 154 (pz_up (iv 154) 0 1)) 157 (iv 157)) 158 (iv 158)) 159 (iv 159)) := pz_R_mem (s_X11_fails 1) (by rw [pz_u1_in (r := 154) (q := 159) (by decide)]; rw [pz_u1_in (r := 154) (q := 158) (by decide)]; rw [pz_u1_in (r := 154) (q := 157) (by decide)]; rw [pz_u1_top (r := 154)]; rfl)
       refine w_call hc3 rfl (pz_cokI is_154 rfl) ?_
       refine w_ret rfl ?_
       first | exact lf_i (by first | rfl | omega) (by rfl) | (exfalso; omega))
  · first
    | (exfalso; first | omega | contradiction)
    | (refine w_loc rfl ?_
       refine w_loc rfl ?_
       have hc4 : pz_R (pz_Sh L) 195 [.inr (.inl 154), .inl s] (pz_u1 (pz_u1 (pz_u1 (pz_u1 iv 154 (iv 154)) 157 (iv 157)) 158 (iv 158)) 159 (iv 159)) (.inl (some (.inl (pz_bi (0 ≤ s ∧ s ≤ (iv 155) 2 - 1))))) (pz_u1 (pz_u1 (pz_u1 (pz_u1 iv 154 (iv 154)) 157 (iv 157)) 158 (iv 158)) 159 (iv 159)) := s_X11_isSpan s (by show q_KR (iv 155); exact hk)
       refine w_call hc4 rfl (pz_cokI is_154 rfl) ?_
       refine w_bne (fun h5 => ?_) (fun h5 => ?_)
       · first
         | (exfalso; first | omega | contradiction)
         | (refine pz_G_of pz_b252_22 ?_
            refine w_loc rfl ?_
            have hc6 : pz_R (pz_Sh L) 247 [.inr (.inl 154)] (pz_u1 (pz_u1 (pz_u1 (pz_u1 iv 154 (iv 154)) 157 (iv 157)) 158 (iv 158)) 159 (iv 159)) (.inl none) (pz_u1 (pz_u1 (pz_u1 (pz_u1 iv 154 (q_zw (iv 155) (iv 161) (iv 157) (iv 158) (iv 159) (iv 154))) 157 ((q_zX (iv 155) (iv 161) (iv 157) (iv 158) (iv 159)).2.2)) 158 ((q_zX (iv 155) (iv 161) (iv 157) (iv 158) (iv 159)).1)) 159 ((q_zX (iv 155) (iv 161) (iv 157) (iv 158) (iv 159)).2.1)) := pz_R_mem (s_X11_reduces (by show q_KR (iv 155); exact hk)) (by rw [pz_u1_in (r := 154) (q := 159) (by decide)]; rw [pz_u1_in (r := 154) (q := 158) (by decide)]; rw [pz_u1_in (r := 154) (q := 157) (by decide)]; rw [pz_u1_top (r := 154)]; rw [pz_u1_in (r := 157) (q := 159) (by decide)]; rw [pz_u1_in (r := 157) (q := 158) (by decide)]; rw [pz_u1_top (r := 157)]; rw [pz_u1_in (r := 158) (q := 159) (by decide)]; rw [pz_u1_top (r := 158)]; rw [pz_u1_top (r := 159)]; rfl)
            refine w_callv hc6 rfl (pz_cokI is_154 rfl) ?_
            refine w_loc rfl ?_
            refine w_getI (v := (q_zw (iv 155) (iv 161) (iv 157) (iv 158) (iv 159) (iv 154)) 7) is_154 (by decide) rfl ?_
            refine w_zne (fun h7 => ?_) (fun h7 => ?_)
            · first
              | (exfalso; first | omega | contradiction)
              | (refine pz_G_of pz_b252_39 ?_
                 refine w_loc rfl ?_
                 refine w_loc rfl ?_
                 refine w_loc rfl ?_
                 have hc8 : pz_R (pz_Sh L) 251 [.inr (.inl 154), .inl e, .inl s] (pz_u1 (pz_u1 (pz_u1 (pz_u1 iv 154 (q_zw (iv 155) (iv 161) (iv 157) (iv 158) (iv 159) (iv 154))) 157 ((q_zX (iv 155) (iv 161) (iv 157) (iv 158) (iv 159)).2.2)) 158 ((q_zX (iv 155) (iv 161) (iv 157) (iv 158) (iv 159)).1)) 159 ((q_zX (iv 155) (iv 161) (iv 157) (iv 158) (iv 159)).2.1)) (.inl (some (.inl (q_wt ((q_zX (iv 155) (iv 161) (iv 157) (iv 158) (iv 159)).1) (iv 155) e s)))) (pz_u1 (pz_u1 (pz_u1 (pz_u1 iv 154 (q_zw (iv 155) (iv 161) (iv 157) (iv 158) (iv 159) (iv 154))) 157 ((q_zX (iv 155) (iv 161) (iv 157) (iv 158) (iv 159)).2.2)) 158 ((q_zX (iv 155) (iv 161) (iv 157) (iv 158) (iv 159)).1)) 159 ((q_zX (iv 155) (iv 161) (iv 157) (iv 158) (iv 159)).2.1)) := s_X11_waitOf e s (by show q_KR (iv 155); exact hk) (by show 0 ≤ e ∧ e ≤ 9; omega) (by show 0 ≤ s ∧ s < (iv 155) 2; omega) (by show q_vl ((q_zX (iv 155) (iv 161) (iv 157) (iv 158) (iv 159)).1); exact q_zv_l hk hcase1)
                 refine w_call hc8 rfl (pz_cokI is_154 rfl) ?_
                 refine w_zne (fun h9 => ?_) (fun h9 => ?_)
                 · first
                   | (exfalso; first | omega | contradiction)
                   | (refine pz_G_of pz_b252_56 ?_
                      refine w_loc rfl ?_
                      refine w_loc rfl ?_
                      refine w_loc rfl ?_
                      refine w_loc rfl ?_
                      have hc10 : pz_R (pz_Sh L) 251 [.inr (.inl 154), .inl e, .inl s] (pz_u1 (pz_u1 (pz_u1 (pz_u1 iv 154 (q_zw (iv 155) (iv 161) (iv 157) (iv 158) (iv 159) (iv 154))) 157 ((q_zX (iv 155) (iv 161) (iv 157) (iv 158) (iv 159)).2.2)) 158 ((q_zX (iv 155) (iv 161) (iv 157) (iv 158) (iv 159)).1)) 159 ((q_zX (iv 155) (iv 161) (iv 157) (iv 158) (iv 159)).2.1)) (.inl (some (.inl (q_wt ((q_zX (iv 155) (iv 161) (iv 157) (iv 158) (iv 159)).1) (iv 155) e s)))) (pz_u1 (pz_u1 (pz_u1 (pz_u1 iv 154 (q_zw (iv 155) (iv 161) (iv 157) (iv 158) (iv 159) (iv 154))) 157 ((q_zX (iv 155) (iv 161) (iv 157) (iv 158) (iv 159)).2.2)) 158 ((q_zX (iv 155) (iv 161) (iv 157) (iv 158) (iv 159)).1)) 159 ((q_zX (iv 155) (iv 161) (iv 157) (iv 158) (iv 159)).2.1)) := s_X11_waitOf e s (by show q_KR (iv 155); exact hk) (by show 0 ≤ e ∧ e ≤ 9; omega) (by show 0 ≤ s ∧ s < (iv 155) 2; omega) (by show q_vl ((q_zX (iv 155) (iv 161) (iv 157) (iv 158) (iv 159)).1); exact q_zv_l hk hcase1)
                      refine w_call hc10 rfl (pz_cokI is_154 rfl) ?_
                      have hc11 : pz_R (pz_Sh L) 192 [.inr (.inl 154), .inl (q_wt ((q_zX (iv 155) (iv 161) (iv 157) (iv 158) (iv 159)).1) (iv 155) e s)] (pz_u1 (pz_u1 (pz_u1 (pz_u1 iv 154 (q_zw (iv 155) (iv 161) (iv 157) (iv 158) (iv 159) (iv 154))) 157 ((q_zX (iv 155) (iv 161) (iv 157) (iv 158) (iv 159)).2.2)) 158 ((q_zX (iv 155) (iv 161) (iv 157) (iv 158) (iv 159)).1)) 159 ((q_zX (iv 155) (iv 161) (iv 157) (iv 158) (iv 159)).2.1)) (.inl (some (.inl (q_wt ((q_zX (iv 155) (iv 161) (iv 157) (iv 158) (iv 159)).1) (iv 155) e s)))) (pz_u1 (pz_u1 (pz_u1 (pz_u1 iv 154 (pz_up (q_zw (iv 155) (iv 161) (iv 157) (iv 158) (iv 159) (iv 154)) 0 0)) 157 ((q_zX (iv 155) (iv 161) (iv 157) (iv 158) (iv 159)).2.2)) 158 ((q_zX (iv 155) (iv 161) (iv 157) (iv 158) (iv 159)).1)) 159 ((q_zX (iv 155) (iv 161) (iv 157) (iv 158) (iv 159)).2.1)) := pz_R_mem (s_X11_tells (q_wt ((q_zX (iv 155) (iv 161) (iv 157) (iv 158) (iv 159)).1) (iv 155) e s)) (by rw [pz_u1_in (r := 154) (q := 159) (by decide)]; rw [pz_u1_in (r := 154) (q := 158) (by decide)]; rw [pz_u1_in (r := 154) (q := 157) (by decide)]; rw [pz_u1_top (r := 154)]; rfl)
                      refine w_call hc11 rfl (pz_cokI is_154 rfl) ?_
                      refine w_nil ?_
                      refine pz_G_of pz_b252_66 ?_
                      refine w_ret rfl ?_
                      first | exact lf_i (by first | rfl | omega) (by rfl) | (exfalso; omega))
                 · first
                   | (exfalso; first | omega | contradiction)
                   | (refine w_loc rfl ?_
                      refine w_pure rfl ?_
                      have hc12 : pz_R (pz_Sh L) 191 [.inr (.inl 154), .inl 3] (pz_u1 (pz_u1 (pz_u1 (pz_u1 iv 154 (q_zw (iv 155) (iv 161) (iv 157) (iv 158) (iv 159) (iv 154))) 157 ((q_zX (iv 155) (iv 161) (iv 157) (iv 158) (iv 159)).2.2)) 158 ((q_zX (iv 155) (iv 161) (iv 157) (iv 158) (iv 159)).1)) 159 ((q_zX (iv 155) (iv 161) (iv 157) (iv 158) (iv 159)).2.1)) (.inl (some (.inl 0))) (pz_u1 (pz_u1 (pz_u1 (pz_u1 iv 154 (pz_up (q_zw (iv 155) (iv 161) (iv 157) (iv 158) (iv 159) (iv 154)) 0 3)) 157 ((q_zX (iv 155) (iv 161) (iv 157) (iv 158) (iv 159)).2.2)) 158 ((q_zX (iv 155) (iv 161) (iv 157) (iv 158) (iv 159)).1)) 159 ((q_zX (iv 155) (iv 161) (iv 157) (iv 158) (iv 159)).2.1)) := pz_R_mem (s_X11_fails 3) (by rw [pz_u1_in (r := 154) (q := 159) (by decide)]; rw [pz_u1_in (r := 154) (q := 158) (by decide)]; rw [pz_u1_in (r := 154) (q := 157) (by decide)]; rw [pz_u1_top (r := 154)]; rfl)
                      refine w_call hc12 rfl (pz_cokI is_154 rfl) ?_
                      refine w_goto ?_
                      refine pz_G_of pz_b252_66 ?_
                      refine w_ret rfl ?_
                      first | exact lf_i (by first | rfl | omega) (by rfl) | (exfalso; omega)))
            · first
              | (exfalso; first | omega | contradiction)
              | (refine w_loc rfl ?_
                 refine w_pure rfl ?_
                 have hc13 : pz_R (pz_Sh L) 191 [.inr (.inl 154), .inl 2] (pz_u1 (pz_u1 (pz_u1 (pz_u1 iv 154 (q_zw (iv 155) (iv 161) (iv 157) (iv 158) (iv 159) (iv 154))) 157 ((q_zX (iv 155) (iv 161) (iv 157) (iv 158) (iv 159)).2.2)) 158 ((q_zX (iv 155) (iv 161) (iv 157) (iv 158) (iv 159)).1)) 159 ((q_zX (iv 155) (iv 161) (iv 157) (iv 158) (iv 159)).2.1)) (.inl (some (.inl 0))) (pz_u1 (pz_u1 (pz_u1 (pz_u1 iv 154 (pz_up (q_zw (iv 155) (iv 161) (iv 157) (iv 158) (iv 159) (iv 154)) 0 2)) 157 ((q_zX (iv 155) (iv 161) (iv 157) (iv 158) (iv 159)).2.2)) 158 ((q_zX (iv 155) (iv 161) (iv 157) (iv 158) (iv 159)).1)) 159 ((q_zX (iv 155) (iv 161) (iv 157) (iv 158) (iv 159)).2.1)) := pz_R_mem (s_X11_fails 2) (by rw [pz_u1_in (r := 154) (q := 159) (by decide)]; rw [pz_u1_in (r := 154) (q := 158) (by decide)]; rw [pz_u1_in (r := 154) (q := 157) (by decide)]; rw [pz_u1_top (r := 154)]; rfl)
                 refine w_call hc13 rfl (pz_cokI is_154 rfl) ?_
                 refine w_ret rfl ?_
                 first | exact lf_i (by first | rfl | omega) (by rfl) | (exfalso; omega)))
       · first
         | (exfalso; first | omega | contradiction)
         | (refine w_nil ?_
            refine pz_G_of pz_b252_16 ?_
            refine w_loc rfl ?_
            refine w_pure rfl ?_
            have hc14 : pz_R (pz_Sh L) 191 [.inr (.inl 154), .inl 1] (pz_u1 (pz_u1 (pz_u1 (pz_u1 iv 154 (iv 154)) 157 (iv 157)) 158 (iv 158)) 159 (iv 159)) (.inl (some (.inl 0))) (pz_u1 (pz_u1 (pz_u1 (pz_u1 iv 154 (pz_up (iv 154) 0 1)) 157 (iv 157)) 158 (iv 158)) 159 (iv 159)) := pz_R_mem (s_X11_fails 1) (by rw [pz_u1_in (r := 154) (q := 159) (by decide)]; rw [pz_u1_in (r := 154) (q := 158) (by decide)]; rw [pz_u1_in (r := 154) (q := 157) (by decide)]; rw [pz_u1_top (r := 154)]; rfl)
            refine w_call hc14 rfl (pz_cokI is_154 rfl) ?_
            refine w_ret rfl ?_
            first | exact lf_i (by first | rfl | omega) (by rfl) | (exfalso; omega)))

theorem s_X11_waitFor_0 {L : Nat} {iv : Nat → Nat → Int} (e : Int) (s : Int) (hk : q_KR (iv 155)) (hcase0 : 0 ≤ e ∧ e ≤ iv 155 0 - 1 ∧ 0 ≤ s ∧ s ≤ iv 155 2 - 1) (hcase1 : q_seen (iv 155) (iv 161) (iv 157) (iv 158) (iv 159)) (hcase2 : q_wt (q_zX (iv 155) (iv 161) (iv 157) (iv 158) (iv 159)).1 (iv 155) e s ≠ 0) : pz_R (pz_Sh L) 252 [.inr (.inl 154), .inl e, .inl s] iv (.inl (some (.inl (q_wt (q_zX (iv 155) (iv 161) (iv 157) (iv 158) (iv 159)).1 (iv 155) e s)))) (pz_u1 (pz_u1 (pz_u1 (pz_u1 iv 154 (pz_up (q_zw (iv 155) (iv 161) (iv 157) (iv 158) (iv 159) (iv 154)) 0 0)) 157 ((q_zX (iv 155) (iv 161) (iv 157) (iv 158) (iv 159)).2.2)) 158 ((q_zX (iv 155) (iv 161) (iv 157) (iv 158) (iv 159)).1)) 159 ((q_zX (iv 155) (iv 161) (iv 157) (iv 158) (iv 159)).2.1)) := by
  intro dv cc ss
  have hk0 := hk.r0
  have hz7 := q_zw_7 (k := iv 155) (lf := iv 161) (g := iv 157) (v := iv 158) (a := iv 159) (w := iv 154)
  rw [pz_bi_1 hcase1] at hz7
  refine pz_G_mem (iv2 := pz_u1 (pz_u1 (pz_u1 (pz_u1 iv 154 (iv 154)) 157 (iv 157)) 158 (iv 158)) 159 (iv 159)) (by exact ((((pz_u1_self iv 154).symm).trans (pz_u1_self (pz_u1 iv 154 (iv 154)) 157).symm).trans (pz_u1_self (pz_u1 (pz_u1 iv 154 (iv 154)) 157 (iv 157)) 158).symm).trans (pz_u1_self (pz_u1 (pz_u1 (pz_u1 iv 154 (iv 154)) 157 (iv 157)) 158 (iv 158)) 159).symm) ?_
  show pz_G 252 0 [some (.inr (.inl 154)), some (.inl e), some (.inl s)] [] (pz_Sh L, pz_u1 (pz_u1 (pz_u1 (pz_u1 iv 154 (iv 154)) 157 (iv 157)) 158 (iv 158)) 159 (iv 159), dv, cc, ss) (pz_P (pz_Sh L) (.inl (some (.inl (q_wt (q_zX (iv 155) (iv 161) (iv 157) (iv 158) (iv 159)).1 (iv 155) e s)))) (pz_u1 (pz_u1 (pz_u1 (pz_u1 iv 154 (pz_up (q_zw (iv 155) (iv 161) (iv 157) (iv 158) (iv 159) (iv 154)) 0 0)) 157 ((q_zX (iv 155) (iv 161) (iv 157) (iv 158) (iv 159)).2.2)) 158 ((q_zX (iv 155) (iv 161) (iv 157) (iv 158) (iv 159)).1)) 159 ((q_zX (iv 155) (iv 161) (iv 157) (iv 158) (iv 159)).2.1)) dv cc ss)
  refine pz_G_of pz_b252_0 ?_
  refine w_loc rfl ?_
  refine w_loc rfl ?_
  have hc1 : pz_R (pz_Sh L) 194 [.inr (.inl 154), .inl e] (pz_u1 (pz_u1 (pz_u1 (pz_u1 iv 154 (iv 154)) 157 (iv 157)) 158 (iv 158)) 159 (iv 159)) (.inl (some (.inl (pz_bi (0 ≤ e ∧ e ≤ (iv 155) 0 - 1))))) (pz_u1 (pz_u1 (pz_u1 (pz_u1 iv 154 (iv 154)) 157 (iv 157)) 158 (iv 158)) 159 (iv 159)) := s_X11_isEvent e (by show q_KR (iv 155); exact hk)
  refine w_call hc1 rfl (pz_cokI is_154 rfl) ?_
  refine w_beq (fun h2 => ?_) (fun h2 => ?_)
  · first
    | (exfalso; first | omega | contradiction)
    | (refine pz_G_of pz_b252_16 ?_
       refine w_loc rfl ?_
       refine w_pure rfl ?_
       have hc3 : pz_R (pz_Sh L) 191 [.inr (.inl 154), .inl 1] (pz_u1 (pz_u1 (pz_u1 (pz_u1 iv 154 (iv 154)) 157 (iv 157)) 158 (iv 158)) 159 (iv 159)) (.inl (some (.inl 0))) (pz_u1 (pz_u1 (pz_u1 (pz_u1 iv 154 (pz_up (iv 154) 0 1)) 157 (iv 157)) 158 (iv 158)) 159 (iv 159)) := pz_R_mem (s_X11_fails 1) (by rw [pz_u1_in (r := 154) (q := 159) (by decide)]; rw [pz_u1_in (r := 154) (q := 158) (by decide)]; rw [pz_u1_in (r := 154) (q := 157) (by decide)]; rw [pz_u1_top (r := 154)]; rfl)
       refine w_call hc3 rfl (pz_cokI is_154 rfl) ?_
       refine w_ret rfl ?_
       first | exact lf_i (by first | rfl | omega) (by rfl) | (exfalso; omega))
  · first
    | (exfalso; first | omega | contradiction)
    | (refine w_loc rfl ?_
       refine w_loc rfl ?_
       have hc4 : pz_R (pz_Sh L) 195 [.inr (.inl 154), .inl s] (pz_u1 (pz_u1 (pz_u1 (pz_u1 iv 154 (iv 154)) 157 (iv 157)) 158 (iv 158)) 159 (iv 159)) (.inl (some (.inl (pz_bi (0 ≤ s ∧ s ≤ (iv 155) 2 - 1))))) (pz_u1 (pz_u1 (pz_u1 (pz_u1 iv 154 (iv 154)) 157 (iv 157)) 158 (iv 158)) 159 (iv 159)) := s_X11_isSpan s (by show q_KR (iv 155); exact hk)
       refine w_call hc4 rfl (pz_cokI is_154 rfl) ?_
       refine w_bne (fun h5 => ?_) (fun h5 => ?_)
       · first
         | (exfalso; first | omega | contradiction)
         | (refine pz_G_of pz_b252_22 ?_
            refine w_loc rfl ?_
            have hc6 : pz_R (pz_Sh L) 247 [.inr (.inl 154)] (pz_u1 (pz_u1 (pz_u1 (pz_u1 iv 154 (iv 154)) 157 (iv 157)) 158 (iv 158)) 159 (iv 159)) (.inl none) (pz_u1 (pz_u1 (pz_u1 (pz_u1 iv 154 (q_zw (iv 155) (iv 161) (iv 157) (iv 158) (iv 159) (iv 154))) 157 ((q_zX (iv 155) (iv 161) (iv 157) (iv 158) (iv 159)).2.2)) 158 ((q_zX (iv 155) (iv 161) (iv 157) (iv 158) (iv 159)).1)) 159 ((q_zX (iv 155) (iv 161) (iv 157) (iv 158) (iv 159)).2.1)) := pz_R_mem (s_X11_reduces (by show q_KR (iv 155); exact hk)) (by rw [pz_u1_in (r := 154) (q := 159) (by decide)]; rw [pz_u1_in (r := 154) (q := 158) (by decide)]; rw [pz_u1_in (r := 154) (q := 157) (by decide)]; rw [pz_u1_top (r := 154)]; rw [pz_u1_in (r := 157) (q := 159) (by decide)]; rw [pz_u1_in (r := 157) (q := 158) (by decide)]; rw [pz_u1_top (r := 157)]; rw [pz_u1_in (r := 158) (q := 159) (by decide)]; rw [pz_u1_top (r := 158)]; rw [pz_u1_top (r := 159)]; rfl)
            refine w_callv hc6 rfl (pz_cokI is_154 rfl) ?_
            refine w_loc rfl ?_
            refine w_getI (v := (q_zw (iv 155) (iv 161) (iv 157) (iv 158) (iv 159) (iv 154)) 7) is_154 (by decide) rfl ?_
            refine w_zne (fun h7 => ?_) (fun h7 => ?_)
            · first
              | (exfalso; first | omega | contradiction)
              | (refine pz_G_of pz_b252_39 ?_
                 refine w_loc rfl ?_
                 refine w_loc rfl ?_
                 refine w_loc rfl ?_
                 have hc8 : pz_R (pz_Sh L) 251 [.inr (.inl 154), .inl e, .inl s] (pz_u1 (pz_u1 (pz_u1 (pz_u1 iv 154 (q_zw (iv 155) (iv 161) (iv 157) (iv 158) (iv 159) (iv 154))) 157 ((q_zX (iv 155) (iv 161) (iv 157) (iv 158) (iv 159)).2.2)) 158 ((q_zX (iv 155) (iv 161) (iv 157) (iv 158) (iv 159)).1)) 159 ((q_zX (iv 155) (iv 161) (iv 157) (iv 158) (iv 159)).2.1)) (.inl (some (.inl (q_wt ((q_zX (iv 155) (iv 161) (iv 157) (iv 158) (iv 159)).1) (iv 155) e s)))) (pz_u1 (pz_u1 (pz_u1 (pz_u1 iv 154 (q_zw (iv 155) (iv 161) (iv 157) (iv 158) (iv 159) (iv 154))) 157 ((q_zX (iv 155) (iv 161) (iv 157) (iv 158) (iv 159)).2.2)) 158 ((q_zX (iv 155) (iv 161) (iv 157) (iv 158) (iv 159)).1)) 159 ((q_zX (iv 155) (iv 161) (iv 157) (iv 158) (iv 159)).2.1)) := s_X11_waitOf e s (by show q_KR (iv 155); exact hk) (by show 0 ≤ e ∧ e ≤ 9; omega) (by show 0 ≤ s ∧ s < (iv 155) 2; omega) (by show q_vl ((q_zX (iv 155) (iv 161) (iv 157) (iv 158) (iv 159)).1); exact q_zv_l hk hcase1)
                 refine w_call hc8 rfl (pz_cokI is_154 rfl) ?_
                 refine w_zne (fun h9 => ?_) (fun h9 => ?_)
                 · first
                   | (exfalso; first | omega | contradiction)
                   | (refine pz_G_of pz_b252_56 ?_
                      refine w_loc rfl ?_
                      refine w_loc rfl ?_
                      refine w_loc rfl ?_
                      refine w_loc rfl ?_
                      have hc10 : pz_R (pz_Sh L) 251 [.inr (.inl 154), .inl e, .inl s] (pz_u1 (pz_u1 (pz_u1 (pz_u1 iv 154 (q_zw (iv 155) (iv 161) (iv 157) (iv 158) (iv 159) (iv 154))) 157 ((q_zX (iv 155) (iv 161) (iv 157) (iv 158) (iv 159)).2.2)) 158 ((q_zX (iv 155) (iv 161) (iv 157) (iv 158) (iv 159)).1)) 159 ((q_zX (iv 155) (iv 161) (iv 157) (iv 158) (iv 159)).2.1)) (.inl (some (.inl (q_wt ((q_zX (iv 155) (iv 161) (iv 157) (iv 158) (iv 159)).1) (iv 155) e s)))) (pz_u1 (pz_u1 (pz_u1 (pz_u1 iv 154 (q_zw (iv 155) (iv 161) (iv 157) (iv 158) (iv 159) (iv 154))) 157 ((q_zX (iv 155) (iv 161) (iv 157) (iv 158) (iv 159)).2.2)) 158 ((q_zX (iv 155) (iv 161) (iv 157) (iv 158) (iv 159)).1)) 159 ((q_zX (iv 155) (iv 161) (iv 157) (iv 158) (iv 159)).2.1)) := s_X11_waitOf e s (by show q_KR (iv 155); exact hk) (by show 0 ≤ e ∧ e ≤ 9; omega) (by show 0 ≤ s ∧ s < (iv 155) 2; omega) (by show q_vl ((q_zX (iv 155) (iv 161) (iv 157) (iv 158) (iv 159)).1); exact q_zv_l hk hcase1)
                      refine w_call hc10 rfl (pz_cokI is_154 rfl) ?_
                      have hc11 : pz_R (pz_Sh L) 192 [.inr (.inl 154), .inl (q_wt ((q_zX (iv 155) (iv 161) (iv 157) (iv 158) (iv 159)).1) (iv 155) e s)] (pz_u1 (pz_u1 (pz_u1 (pz_u1 iv 154 (q_zw (iv 155) (iv 161) (iv 157) (iv 158) (iv 159) (iv 154))) 157 ((q_zX (iv 155) (iv 161) (iv 157) (iv 158) (iv 159)).2.2)) 158 ((q_zX (iv 155) (iv 161) (iv 157) (iv 158) (iv 159)).1)) 159 ((q_zX (iv 155) (iv 161) (iv 157) (iv 158) (iv 159)).2.1)) (.inl (some (.inl (q_wt ((q_zX (iv 155) (iv 161) (iv 157) (iv 158) (iv 159)).1) (iv 155) e s)))) (pz_u1 (pz_u1 (pz_u1 (pz_u1 iv 154 (pz_up (q_zw (iv 155) (iv 161) (iv 157) (iv 158) (iv 159) (iv 154)) 0 0)) 157 ((q_zX (iv 155) (iv 161) (iv 157) (iv 158) (iv 159)).2.2)) 158 ((q_zX (iv 155) (iv 161) (iv 157) (iv 158) (iv 159)).1)) 159 ((q_zX (iv 155) (iv 161) (iv 157) (iv 158) (iv 159)).2.1)) := pz_R_mem (s_X11_tells (q_wt ((q_zX (iv 155) (iv 161) (iv 157) (iv 158) (iv 159)).1) (iv 155) e s)) (by rw [pz_u1_in (r := 154) (q := 159) (by decide)]; rw [pz_u1_in (r := 154) (q := 158) (by decide)]; rw [pz_u1_in (r := 154) (q := 157) (by decide)]; rw [pz_u1_top (r := 154)]; rfl)
                      refine w_call hc11 rfl (pz_cokI is_154 rfl) ?_
                      refine w_nil ?_
                      refine pz_G_of pz_b252_66 ?_
                      refine w_ret rfl ?_
                      first | exact lf_i (by first | rfl | omega) (by rfl) | (exfalso; omega))
                 · first
                   | (exfalso; first | omega | contradiction)
                   | (refine w_loc rfl ?_
                      refine w_pure rfl ?_
                      have hc12 : pz_R (pz_Sh L) 191 [.inr (.inl 154), .inl 3] (pz_u1 (pz_u1 (pz_u1 (pz_u1 iv 154 (q_zw (iv 155) (iv 161) (iv 157) (iv 158) (iv 159) (iv 154))) 157 ((q_zX (iv 155) (iv 161) (iv 157) (iv 158) (iv 159)).2.2)) 158 ((q_zX (iv 155) (iv 161) (iv 157) (iv 158) (iv 159)).1)) 159 ((q_zX (iv 155) (iv 161) (iv 157) (iv 158) (iv 159)).2.1)) (.inl (some (.inl 0))) (pz_u1 (pz_u1 (pz_u1 (pz_u1 iv 154 (pz_up (q_zw (iv 155) (iv 161) (iv 157) (iv 158) (iv 159) (iv 154)) 0 3)) 157 ((q_zX (iv 155) (iv 161) (iv 157) (iv 158) (iv 159)).2.2)) 158 ((q_zX (iv 155) (iv 161) (iv 157) (iv 158) (iv 159)).1)) 159 ((q_zX (iv 155) (iv 161) (iv 157) (iv 158) (iv 159)).2.1)) := pz_R_mem (s_X11_fails 3) (by rw [pz_u1_in (r := 154) (q := 159) (by decide)]; rw [pz_u1_in (r := 154) (q := 158) (by decide)]; rw [pz_u1_in (r := 154) (q := 157) (by decide)]; rw [pz_u1_top (r := 154)]; rfl)
                      refine w_call hc12 rfl (pz_cokI is_154 rfl) ?_
                      refine w_goto ?_
                      refine pz_G_of pz_b252_66 ?_
                      refine w_ret rfl ?_
                      first | exact lf_i (by first | rfl | omega) (by rfl) | (exfalso; omega)))
            · first
              | (exfalso; first | omega | contradiction)
              | (refine w_loc rfl ?_
                 refine w_pure rfl ?_
                 have hc13 : pz_R (pz_Sh L) 191 [.inr (.inl 154), .inl 2] (pz_u1 (pz_u1 (pz_u1 (pz_u1 iv 154 (q_zw (iv 155) (iv 161) (iv 157) (iv 158) (iv 159) (iv 154))) 157 ((q_zX (iv 155) (iv 161) (iv 157) (iv 158) (iv 159)).2.2)) 158 ((q_zX (iv 155) (iv 161) (iv 157) (iv 158) (iv 159)).1)) 159 ((q_zX (iv 155) (iv 161) (iv 157) (iv 158) (iv 159)).2.1)) (.inl (some (.inl 0))) (pz_u1 (pz_u1 (pz_u1 (pz_u1 iv 154 (pz_up (q_zw (iv 155) (iv 161) (iv 157) (iv 158) (iv 159) (iv 154)) 0 2)) 157 ((q_zX (iv 155) (iv 161) (iv 157) (iv 158) (iv 159)).2.2)) 158 ((q_zX (iv 155) (iv 161) (iv 157) (iv 158) (iv 159)).1)) 159 ((q_zX (iv 155) (iv 161) (iv 157) (iv 158) (iv 159)).2.1)) := pz_R_mem (s_X11_fails 2) (by rw [pz_u1_in (r := 154) (q := 159) (by decide)]; rw [pz_u1_in (r := 154) (q := 158) (by decide)]; rw [pz_u1_in (r := 154) (q := 157) (by decide)]; rw [pz_u1_top (r := 154)]; rfl)
                 refine w_call hc13 rfl (pz_cokI is_154 rfl) ?_
                 refine w_ret rfl ?_
                 first | exact lf_i (by first | rfl | omega) (by rfl) | (exfalso; omega)))
       · first
         | (exfalso; first | omega | contradiction)
         | (refine w_nil ?_
            refine pz_G_of pz_b252_16 ?_
            refine w_loc rfl ?_
            refine w_pure rfl ?_
            have hc14 : pz_R (pz_Sh L) 191 [.inr (.inl 154), .inl 1] (pz_u1 (pz_u1 (pz_u1 (pz_u1 iv 154 (iv 154)) 157 (iv 157)) 158 (iv 158)) 159 (iv 159)) (.inl (some (.inl 0))) (pz_u1 (pz_u1 (pz_u1 (pz_u1 iv 154 (pz_up (iv 154) 0 1)) 157 (iv 157)) 158 (iv 158)) 159 (iv 159)) := pz_R_mem (s_X11_fails 1) (by rw [pz_u1_in (r := 154) (q := 159) (by decide)]; rw [pz_u1_in (r := 154) (q := 158) (by decide)]; rw [pz_u1_in (r := 154) (q := 157) (by decide)]; rw [pz_u1_top (r := 154)]; rfl)
            refine w_call hc14 rfl (pz_cokI is_154 rfl) ?_
            refine w_ret rfl ?_
            first | exact lf_i (by first | rfl | omega) (by rfl) | (exfalso; omega)))

theorem s_X11_areAll {L : Nat} {iv : Nat → Nat → Int} (hk : q_KR (iv 155)) : pz_R (pz_Sh L) 260 [.inr (.inl 154)] iv (.inl (some (.inl (pz_bi (q_aa (iv 155) (iv 160)))))) iv := by
  intro dv cc ss
  have hk0 := hk.r0
  show pz_G 260 0 [some (.inr (.inl 154)), none, none] [] (pz_Sh L, iv, dv, cc, ss) (pz_P (pz_Sh L) (.inl (some (.inl (pz_bi (q_aa (iv 155) (iv 160)))))) iv dv cc ss)
  refine pz_G_of pz_b260_0 ?_
  refine w_pure rfl ?_
  refine w_loc (ls' := [some (.inr (.inl 154)), some (.inl 1), none]) (st' := []) rfl ?_
  refine w_pure rfl ?_
  refine w_loc (ls' := [some (.inr (.inl 154)), some (.inl 1), some (.inl 0)]) (st' := []) rfl ?_
  refine w_nil ?_
  have lp4 : ∀ (dd : Nat) (z : Int) (e : Int) , (iv 155 0 - e).toNat = dd → ∀ (he : 0 ≤ e ∧ e ≤ iv 155 0), ∀ (hz : z = pz_bi (q_all (q_aaP (iv 160)) e)),  pz_G 260 4 [some (.inr (.inl 154)), some (.inl z), some (.inl e)] [] (pz_Sh L, iv, dv, cc, ss) (pz_P (pz_Sh L) (.inl (some (.inl (pz_bi (q_aa (iv 155) (iv 160)))))) iv dv cc ss) := by
    intro dd4
    induction dd4 using Nat.strongRecOn with
    | _ dd4 ih4 =>
    intro z e  hd4 he hz
    refine pz_G_of pz_b260_4 ?_
    refine w_loc rfl ?_
    refine w_loc rfl ?_
    refine w_getR (q := 155) is_154 rf_154_1 ?_
    refine w_pure rfl ?_
    refine w_iald (v := (iv 155) 0) is_155 ln_155 ⟨by omega, by omega⟩ rfl ?_
    refine w_ige (fun h1 => ?_) (fun h1 => ?_)
    · refine pz_G_of pz_b260_40 ?_
      refine w_loc rfl ?_
      refine w_ret (pz_rok1 (by first | omega | (rw [hz]; exact pz_bi01 _))) ?_
      exact lf_i (by rw [hz, show e = iv 155 0 by omega]; rfl) rfl
    · refine w_loc rfl ?_
      refine w_zeq (fun h2 => ?_) (fun h2 => ?_)
      · refine pz_G_of pz_b260_32 ?_
        refine w_pure rfl ?_
        refine w_nil ?_
        refine pz_G_of pz_b260_33 ?_
        refine w_loc (ls' := [some (.inr (.inl 154)), some (.inl 0), some (.inl e)]) (st' := []) rfl ?_
        refine w_iinc (ls' := [some (.inr (.inl 154)), some (.inl 0), some (.inl (e + 1))]) rfl rfl rfl (by omega) ?_
        refine w_goto ?_
        exact ih4 _ (by omega) 0 (e + 1)  rfl (by omega) (by first | (exfalso; omega) | exact q_all_f1 hz (by omega) (by omega) | exact q_all_t hz (by omega) (by omega) (by omega) | exact q_all_f2 (by omega) (by omega))
      · refine w_loc rfl ?_
        refine w_getR (q := 160) is_154 rf_154_9 ?_
        refine w_loc rfl ?_
        refine w_iald (v := (iv 160) e.toNat) is_160 ln_160 ⟨by omega, by omega⟩ rfl ?_
        refine w_pure rfl ?_
        refine w_ieq (fun h3 => ?_) (fun h3 => ?_)
        · refine pz_G_of pz_b260_32 ?_
          refine w_pure rfl ?_
          refine w_nil ?_
          refine pz_G_of pz_b260_33 ?_
          refine w_loc (ls' := [some (.inr (.inl 154)), some (.inl 0), some (.inl e)]) (st' := []) rfl ?_
          refine w_iinc (ls' := [some (.inr (.inl 154)), some (.inl 0), some (.inl (e + 1))]) rfl rfl rfl (by omega) ?_
          refine w_goto ?_
          exact ih4 _ (by omega) 0 (e + 1)  rfl (by omega) (by first | (exfalso; omega) | exact q_all_f1 hz (by omega) (by omega) | exact q_all_t hz (by omega) (by omega) (by omega) | exact q_all_f2 (by omega) (by omega))
        · refine w_pure rfl ?_
          refine w_goto ?_
          refine pz_G_of pz_b260_33 ?_
          refine w_loc (ls' := [some (.inr (.inl 154)), some (.inl 1), some (.inl e)]) (st' := []) rfl ?_
          refine w_iinc (ls' := [some (.inr (.inl 154)), some (.inl 1), some (.inl (e + 1))]) rfl rfl rfl (by omega) ?_
          refine w_goto ?_
          exact ih4 _ (by omega) 1 (e + 1)  rfl (by omega) (by first | (exfalso; omega) | exact q_all_f1 hz (by omega) (by omega) | exact q_all_t hz (by omega) (by omega) (by omega) | exact q_all_f2 (by omega) (by omega))
  exact lp4 _ 1 0  rfl (by omega) (by exact q_all_0 (by omega))

theorem s_X11_next {L : Nat} {iv : Nat → Nat → Int} (m : Int) (e0 : Int) (h0 : q_nx (iv 158) (iv 160) (iv 155) m e0) (hk : q_KR (iv 155)) (hm : 0 ≤ m ∧ m ≤ 1000) (hv : q_vl (iv 158)) (ha : q_al (iv 160)) : pz_R (pz_Sh L) 259 [.inr (.inl 154), .inl m] iv (.inl (some (.inl e0))) iv := by
  intro dv cc ss
  have hk0 := hk.r0
  show pz_G 259 0 [some (.inr (.inl 154)), some (.inl m), none] [] (pz_Sh L, iv, dv, cc, ss) (pz_P (pz_Sh L) (.inl (some (.inl e0))) iv dv cc ss)
  refine pz_G_of pz_b259_0 ?_
  refine w_pure rfl ?_
  refine w_loc (ls' := [some (.inr (.inl 154)), some (.inl m), some (.inl 0)]) (st' := []) rfl ?_
  refine w_nil ?_
  have lp2 : ∀ (dd : Nat) (e : Int) , (iv 155 0 - e).toNat = dd → ∀ (he : 0 ≤ e ∧ e ≤ iv 155 0), ∀ (hno : ∀ i : Int, 0 ≤ i → i < e → q_rs (iv 158) (iv 160) (iv 155) i m ≠ 45),  pz_G 259 2 [some (.inr (.inl 154)), some (.inl m), some (.inl e)] [] (pz_Sh L, iv, dv, cc, ss) (pz_P (pz_Sh L) (.inl (some (.inl e0))) iv dv cc ss) := by
    intro dd2
    induction dd2 using Nat.strongRecOn with
    | _ dd2 ih2 =>
    intro e  hd2 he hno
    refine pz_G_of pz_b259_2 ?_
    refine w_loc rfl ?_
    refine w_loc rfl ?_
    refine w_getR (q := 155) is_154 rf_154_1 ?_
    refine w_pure rfl ?_
    refine w_iald (v := (iv 155) 0) is_155 ln_155 ⟨by omega, by omega⟩ rfl ?_
    refine w_ige (fun h1 => ?_) (fun h1 => ?_)
    · refine pz_G_of pz_b259_31 ?_
      refine w_pure rfl ?_
      refine w_ret rfl ?_
      exact lf_i (by rcases h0 with ⟨g1, g2, g3, g4⟩ | ⟨g1, g2⟩; (rcases Int.lt_or_le e e0 with hq | hq; (exact absurd (by omega) (g4 e he.1 hq)); (rcases Int.lt_or_le e0 e with hq2 | hq2; (exact absurd g3 (hno e0 g1 hq2)); omega)); (first | omega | exact absurd (by omega) (g2 e he.1 (by omega)))) rfl
    · refine w_loc rfl ?_
      refine w_loc rfl ?_
      refine w_loc rfl ?_
      have hc2 : pz_R (pz_Sh L) 257 [.inr (.inl 154), .inl e, .inl m] (iv) (.inl (some (.inl (q_rs (iv 158) (iv 160) (iv 155) e m)))) (iv) := s_X11_reasonOf e m (by exact hk) (by omega) (by omega) (by exact hv) (by exact ha)
      refine w_call hc2 rfl (pz_cokI is_154 rfl) ?_
      refine w_pure rfl ?_
      refine w_ine (fun h3 => ?_) (fun h3 => ?_)
      · refine pz_G_of pz_b259_25 ?_
        refine w_iinc (ls' := [some (.inr (.inl 154)), some (.inl m), some (.inl (e + 1))]) rfl rfl rfl (by omega) ?_
        refine w_goto ?_
        exact ih2 _ (by omega) (e + 1)  rfl (by omega) (by intro i g1 g2; by_cases hq : i = e; (rw [hq]; omega); exact hno i g1 (by omega))
      · refine w_loc rfl ?_
        refine w_ret rfl ?_
        exact lf_i (by rcases h0 with ⟨g1, g2, g3, g4⟩ | ⟨g1, g2⟩; (rcases Int.lt_or_le e e0 with hq | hq; (exact absurd (by omega) (g4 e he.1 hq)); (rcases Int.lt_or_le e0 e with hq2 | hq2; (exact absurd g3 (hno e0 g1 hq2)); omega)); (first | omega | exact absurd (by omega) (g2 e he.1 (by omega)))) rfl
  exact lp2 _ 0  rfl (by omega) (by intro i g1 g2; omega)
