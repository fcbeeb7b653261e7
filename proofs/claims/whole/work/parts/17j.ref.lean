
theorem s_X11_failure_1 {L : Nat} {iv : Nat → Nat → Int} (p : Int) (hk : q_KR (iv 155)) (hcase0 : ¬ (0 ≤ p ∧ p ≤ q_p2 (iv 155 2) - 1)) : pz_R (pz_Sh L) 264 [.inr (.inl 154), .inl p] iv (.inl (some (.inl 32))) (pz_u1 (pz_u1 (pz_u1 (pz_u1 (pz_u1 iv 154 (pz_up (iv 154) 0 1)) 157 (iv 157)) 158 (iv 158)) 159 (iv 159)) 160 (iv 160)) := by
  intro dv cc ss
  have hk0 := hk.r0
  refine pz_G_mem (iv2 := pz_u1 (pz_u1 (pz_u1 (pz_u1 (pz_u1 iv 154 (iv 154)) 157 (iv 157)) 158 (iv 158)) 159 (iv 159)) 160 (iv 160)) (by exact (((((pz_u1_self iv 154).symm).trans (pz_u1_self (pz_u1 iv 154 (iv 154)) 157).symm).trans (pz_u1_self (pz_u1 (pz_u1 iv 154 (iv 154)) 157 (iv 157)) 158).symm).trans (pz_u1_self (pz_u1 (pz_u1 (pz_u1 iv 154 (iv 154)) 157 (iv 157)) 158 (iv 158)) 159).symm).trans (pz_u1_self (pz_u1 (pz_u1 (pz_u1 (pz_u1 iv 154 (iv 154)) 157 (iv 157)) 158 (iv 158)) 159 (iv 159)) 160).symm) ?_
  show pz_G 264 0 [some (.inr (.inl 154)), some (.inl p)] [] (pz_Sh L, pz_u1 (pz_u1 (pz_u1 (pz_u1 (pz_u1 iv 154 (iv 154)) 157 (iv 157)) 158 (iv 158)) 159 (iv 159)) 160 (iv 160), dv, cc, ss) (pz_P (pz_Sh L) (.inl (some (.inl 32))) (pz_u1 (pz_u1 (pz_u1 (pz_u1 (pz_u1 iv 154 (pz_up (iv 154) 0 1)) 157 (iv 157)) 158 (iv 158)) 159 (iv 159)) 160 (iv 160)) dv cc ss)
  refine pz_G_of pz_b264_0 ?_
  refine w_loc rfl ?_
  refine w_loc rfl ?_
  refine w_loc rfl ?_
  have hc1 : pz_R (pz_Sh L) 258 [.inr (.inl 154), .inl p] (pz_u1 (pz_u1 (pz_u1 (pz_u1 (pz_u1 iv 154 (iv 154)) 157 (iv 157)) 158 (iv 158)) 159 (iv 159)) 160 (iv 160)) (.inl (some (.inl 1))) (pz_u1 (pz_u1 (pz_u1 (pz_u1 (pz_u1 iv 154 (iv 154)) 157 (iv 157)) 158 (iv 158)) 159 (iv 159)) 160 (iv 160)) := pz_R_mem (s_X11_wrongPlay_1 p (by show q_KR (iv 155); exact hk) (by show ¬ (0 ≤ p ∧ p ≤ q_p2 (iv 155 2) - 1); first | assumption | omega)) (by rw [pz_u1_in (r := 154) (q := 160) (by decide)]; rw [pz_u1_in (r := 154) (q := 159) (by decide)]; rw [pz_u1_in (r := 154) (q := 158) (by decide)]; rw [pz_u1_in (r := 154) (q := 157) (by decide)]; rw [pz_u1_top (r := 154)]; rw [pz_u1_in (r := 157) (q := 160) (by decide)]; rw [pz_u1_in (r := 157) (q := 159) (by decide)]; rw [pz_u1_in (r := 157) (q := 158) (by decide)]; rw [pz_u1_top (r := 157)]; rw [pz_u1_in (r := 158) (q := 160) (by decide)]; rw [pz_u1_in (r := 158) (q := 159) (by decide)]; rw [pz_u1_top (r := 158)]; rw [pz_u1_in (r := 159) (q := 160) (by decide)]; rw [pz_u1_top (r := 159)]; rfl)
  refine w_call hc1 rfl (pz_cokI is_154 rfl) ?_
  refine w_putIm (iv2 := pz_u1 (pz_u1 (pz_u1 (pz_u1 (pz_u1 iv 154 (pz_up (iv 154) 0 1)) 157 (iv 157)) 158 (iv 158)) 159 (iv 159)) 160 (iv 160)) is_154 pz_fit0 (by rw [pz_u2_in (r := 154) (q := 160) (by decide)]; rw [pz_u2_in (r := 154) (q := 159) (by decide)]; rw [pz_u2_in (r := 154) (q := 158) (by decide)]; rw [pz_u2_in (r := 154) (q := 157) (by decide)]; rw [pz_u2_top]) ?_
  refine w_loc rfl ?_
  refine w_getI (v := 1) is_154 (by decide) rfl ?_
  refine w_zle (fun h => absurd h (by decide)) (fun _ => ?_)
  refine w_pure rfl ?_
  refine w_goto ?_
  refine pz_G_of pz_b264_26 ?_
  refine w_ret (pz_rok2 (by omega)) ?_
  first | exact lf_i (by first | rfl | omega) (by rfl) | (exfalso; omega)

theorem s_X11_failure_2a {L : Nat} {iv : Nat → Nat → Int} (p : Int) (hk : q_KR (iv 155)) (hcase0 : 0 ≤ p ∧ p ≤ q_p2 (iv 155 2) - 1) (hcase1 : q_exi (fun i => 1 ≤ i ∧ q_sta (iv 155) i) ((iv 155) 0)) : pz_R (pz_Sh L) 264 [.inr (.inl 154), .inl p] iv (.inl (some (.inl 32))) (pz_u1 (pz_u1 (pz_u1 (pz_u1 (pz_u1 iv 154 (pz_up (q_zw (iv 155) (iv 161) (iv 157) (iv 158) (iv 159) (iv 154)) 0 2)) 157 ((q_zX (iv 155) (iv 161) (iv 157) (iv 158) (iv 159)).2.2)) 158 ((q_zX (iv 155) (iv 161) (iv 157) (iv 158) (iv 159)).1)) 159 ((q_zX (iv 155) (iv 161) (iv 157) (iv 158) (iv 159)).2.1)) 160 (iv 160)) := by
  intro dv cc ss
  have hk0 := hk.r0
  refine pz_G_mem (iv2 := pz_u1 (pz_u1 (pz_u1 (pz_u1 (pz_u1 iv 154 (iv 154)) 157 (iv 157)) 158 (iv 158)) 159 (iv 159)) 160 (iv 160)) (by exact (((((pz_u1_self iv 154).symm).trans (pz_u1_self (pz_u1 iv 154 (iv 154)) 157).symm).trans (pz_u1_self (pz_u1 (pz_u1 iv 154 (iv 154)) 157 (iv 157)) 158).symm).trans (pz_u1_self (pz_u1 (pz_u1 (pz_u1 iv 154 (iv 154)) 157 (iv 157)) 158 (iv 158)) 159).symm).trans (pz_u1_self (pz_u1 (pz_u1 (pz_u1 (pz_u1 iv 154 (iv 154)) 157 (iv 157)) 158 (iv 158)) 159 (iv 159)) 160).symm) ?_
  show pz_G 264 0 [some (.inr (.inl 154)), some (.inl p)] [] (pz_Sh L, pz_u1 (pz_u1 (pz_u1 (pz_u1 (pz_u1 iv 154 (iv 154)) 157 (iv 157)) 158 (iv 158)) 159 (iv 159)) 160 (iv 160), dv, cc, ss) (pz_P (pz_Sh L) (.inl (some (.inl 32))) (pz_u1 (pz_u1 (pz_u1 (pz_u1 (pz_u1 iv 154 (pz_up (q_zw (iv 155) (iv 161) (iv 157) (iv 158) (iv 159) (iv 154)) 0 2)) 157 ((q_zX (iv 155) (iv 161) (iv 157) (iv 158) (iv 159)).2.2)) 158 ((q_zX (iv 155) (iv 161) (iv 157) (iv 158) (iv 159)).1)) 159 ((q_zX (iv 155) (iv 161) (iv 157) (iv 158) (iv 159)).2.1)) 160 (iv 160)) dv cc ss)
  refine pz_G_of pz_b264_0 ?_
  refine w_loc rfl ?_
  refine w_loc rfl ?_
  refine w_loc rfl ?_
  have hc1 : pz_R (pz_Sh L) 258 [.inr (.inl 154), .inl p] (pz_u1 (pz_u1 (pz_u1 (pz_u1 (pz_u1 iv 154 (iv 154)) 157 (iv 157)) 158 (iv 158)) 159 (iv 159)) 160 (iv 160)) (.inl (some (.inl 2))) (pz_u1 (pz_u1 (pz_u1 (pz_u1 (pz_u1 iv 154 (q_zw (iv 155) (iv 161) (iv 157) (iv 158) (iv 159) (iv 154))) 157 ((q_zX (iv 155) (iv 161) (iv 157) (iv 158) (iv 159)).2.2)) 158 ((q_zX (iv 155) (iv 161) (iv 157) (iv 158) (iv 159)).1)) 159 ((q_zX (iv 155) (iv 161) (iv 157) (iv 158) (iv 159)).2.1)) 160 (iv 160)) := pz_R_mem (s_X11_wrongPlay_2a p (by show q_KR (iv 155); exact hk) (by show 0 ≤ p ∧ p ≤ q_p2 (iv 155 2) - 1; first | assumption | omega) (by show q_exi (fun i => 1 ≤ i ∧ q_sta (iv 155) i) ((iv 155) 0); first | assumption | omega)) (by rw [pz_u1_in (r := 154) (q := 160) (by decide)]; rw [pz_u1_in (r := 154) (q := 159) (by decide)]; rw [pz_u1_in (r := 154) (q := 158) (by decide)]; rw [pz_u1_in (r := 154) (q := 157) (by decide)]; rw [pz_u1_top (r := 154)]; rw [pz_u1_in (r := 157) (q := 160) (by decide)]; rw [pz_u1_in (r := 157) (q := 159) (by decide)]; rw [pz_u1_in (r := 157) (q := 158) (by decide)]; rw [pz_u1_top (r := 157)]; rw [pz_u1_in (r := 158) (q := 160) (by decide)]; rw [pz_u1_in (r := 158) (q := 159) (by decide)]; rw [pz_u1_top (r := 158)]; rw [pz_u1_in (r := 159) (q := 160) (by decide)]; rw [pz_u1_top (r := 159)]; rfl)
  refine w_call hc1 rfl (pz_cokI is_154 rfl) ?_
  refine w_putIm (iv2 := pz_u1 (pz_u1 (pz_u1 (pz_u1 (pz_u1 iv 154 (pz_up (q_zw (iv 155) (iv 161) (iv 157) (iv 158) (iv 159) (iv 154)) 0 2)) 157 ((q_zX (iv 155) (iv 161) (iv 157) (iv 158) (iv 159)).2.2)) 158 ((q_zX (iv 155) (iv 161) (iv 157) (iv 158) (iv 159)).1)) 159 ((q_zX (iv 155) (iv 161) (iv 157) (iv 158) (iv 159)).2.1)) 160 (iv 160)) is_154 pz_fit0 (by rw [pz_u2_in (r := 154) (q := 160) (by decide)]; rw [pz_u2_in (r := 154) (q := 159) (by decide)]; rw [pz_u2_in (r := 154) (q := 158) (by decide)]; rw [pz_u2_in (r := 154) (q := 157) (by decide)]; rw [pz_u2_top]) ?_
  refine w_loc rfl ?_
  refine w_getI (v := 2) is_154 (by decide) rfl ?_
  refine w_zle (fun h => absurd h (by decide)) (fun _ => ?_)
  refine w_pure rfl ?_
  refine w_goto ?_
  refine pz_G_of pz_b264_26 ?_
  refine w_ret (pz_rok2 (by omega)) ?_
  first | exact lf_i (by first | rfl | omega) (by rfl) | (exfalso; omega)

theorem s_X11_failure_2b {L : Nat} {iv : Nat → Nat → Int} (p : Int) (hk : q_KR (iv 155)) (hcase0 : 0 ≤ p ∧ p ≤ q_p2 (iv 155 2) - 1) (hcase1 : ¬ (q_exi (fun i => 1 ≤ i ∧ q_sta (iv 155) i) ((iv 155) 0))) (hcase2 : ¬ q_seen (iv 155) (iv 161) (iv 157) (iv 158) (iv 159)) : pz_R (pz_Sh L) 264 [.inr (.inl 154), .inl p] iv (.inl (some (.inl 32))) (pz_u1 (pz_u1 (pz_u1 (pz_u1 (pz_u1 iv 154 (pz_up (q_zw (iv 155) (iv 161) (iv 157) (iv 158) (iv 159) (iv 154)) 0 2)) 157 ((q_zX (iv 155) (iv 161) (iv 157) (iv 158) (iv 159)).2.2)) 158 ((q_zX (iv 155) (iv 161) (iv 157) (iv 158) (iv 159)).1)) 159 ((q_zX (iv 155) (iv 161) (iv 157) (iv 158) (iv 159)).2.1)) 160 (iv 160)) := by
  intro dv cc ss
  have hk0 := hk.r0
  refine pz_G_mem (iv2 := pz_u1 (pz_u1 (pz_u1 (pz_u1 (pz_u1 iv 154 (iv 154)) 157 (iv 157)) 158 (iv 158)) 159 (iv 159)) 160 (iv 160)) (by exact (((((pz_u1_self iv 154).symm).trans (pz_u1_self (pz_u1 iv 154 (iv 154)) 157).symm).trans (pz_u1_self (pz_u1 (pz_u1 iv 154 (iv 154)) 157 (iv 157)) 158).symm).trans (pz_u1_self (pz_u1 (pz_u1 (pz_u1 iv 154 (iv 154)) 157 (iv 157)) 158 (iv 158)) 159).symm).trans (pz_u1_self (pz_u1 (pz_u1 (pz_u1 (pz_u1 iv 154 (iv 154)) 157 (iv 157)) 158 (iv 158)) 159 (iv 159)) 160).symm) ?_
  show pz_G 264 0 [some (.inr (.inl 154)), some (.inl p)] [] (pz_Sh L, pz_u1 (pz_u1 (pz_u1 (pz_u1 (pz_u1 iv 154 (iv 154)) 157 (iv 157)) 158 (iv 158)) 159 (iv 159)) 160 (iv 160), dv, cc, ss) (pz_P (pz_Sh L) (.inl (some (.inl 32))) (pz_u1 (pz_u1 (pz_u1 (pz_u1 (pz_u1 iv 154 (pz_up (q_zw (iv 155) (iv 161) (iv 157) (iv 158) (iv 159) (iv 154)) 0 2)) 157 ((q_zX (iv 155) (iv 161) (iv 157) (iv 158) (iv 159)).2.2)) 158 ((q_zX (iv 155) (iv 161) (iv 157) (iv 158) (iv 159)).1)) 159 ((q_zX (iv 155) (iv 161) (iv 157) (iv 158) (iv 159)).2.1)) 160 (iv 160)) dv cc ss)
  refine pz_G_of pz_b264_0 ?_
  refine w_loc rfl ?_
  refine w_loc rfl ?_
  refine w_loc rfl ?_
  have hc1 : pz_R (pz_Sh L) 258 [.inr (.inl 154), .inl p] (pz_u1 (pz_u1 (pz_u1 (pz_u1 (pz_u1 iv 154 (iv 154)) 157 (iv 157)) 158 (iv 158)) 159 (iv 159)) 160 (iv 160)) (.inl (some (.inl 2))) (pz_u1 (pz_u1 (pz_u1 (pz_u1 (pz_u1 iv 154 (q_zw (iv 155) (iv 161) (iv 157) (iv 158) (iv 159) (iv 154))) 157 ((q_zX (iv 155) (iv 161) (iv 157) (iv 158) (iv 159)).2.2)) 158 ((q_zX (iv 155) (iv 161) (iv 157) (iv 158) (iv 159)).1)) 159 ((q_zX (iv 155) (iv 161) (iv 157) (iv 158) (iv 159)).2.1)) 160 (iv 160)) := pz_R_mem (s_X11_wrongPlay_2b p (by show q_KR (iv 155); exact hk) (by show 0 ≤ p ∧ p ≤ q_p2 (iv 155 2) - 1; first | assumption | omega) (by show ¬ (q_exi (fun i => 1 ≤ i ∧ q_sta (iv 155) i) ((iv 155) 0)); first | assumption | omega) (by show ¬ q_seen (iv 155) (iv 161) (iv 157) (iv 158) (iv 159); first | assumption | omega)) (by rw [pz_u1_in (r := 154) (q := 160) (by decide)]; rw [pz_u1_in (r := 154) (q := 159) (by decide)]; rw [pz_u1_in (r := 154) (q := 158) (by decide)]; rw [pz_u1_in (r := 154) (q := 157) (by decide)]; rw [pz_u1_top (r := 154)]; rw [pz_u1_in (r := 157) (q := 160) (by decide)]; rw [pz_u1_in (r := 157) (q := 159) (by decide)]; rw [pz_u1_in (r := 157) (q := 158) (by decide)]; rw [pz_u1_top (r := 157)]; rw [pz_u1_in (r := 158) (q := 160) (by decide)]; rw [pz_u1_in (r := 158) (q := 159) (by decide)]; rw [pz_u1_top (r := 158)]; rw [pz_u1_in (r := 159) (q := 160) (by decide)]; rw [pz_u1_top (r := 159)]; rfl)
  refine w_call hc1 rfl (pz_cokI is_154 rfl) ?_
  refine w_putIm (iv2 := pz_u1 (pz_u1 (pz_u1 (pz_u1 (pz_u1 iv 154 (pz_up (q_zw (iv 155) (iv 161) (iv 157) (iv 158) (iv 159) (iv 154)) 0 2)) 157 ((q_zX (iv 155) (iv 161) (iv 157) (iv 158) (iv 159)).2.2)) 158 ((q_zX (iv 155) (iv 161) (iv 157) (iv 158) (iv 159)).1)) 159 ((q_zX (iv 155) (iv 161) (iv 157) (iv 158) (iv 159)).2.1)) 160 (iv 160)) is_154 pz_fit0 (by rw [pz_u2_in (r := 154) (q := 160) (by decide)]; rw [pz_u2_in (r := 154) (q := 159) (by decide)]; rw [pz_u2_in (r := 154) (q := 158) (by decide)]; rw [pz_u2_in (r := 154) (q := 157) (by decide)]; rw [pz_u2_top]) ?_
  refine w_loc rfl ?_
  refine w_getI (v := 2) is_154 (by decide) rfl ?_
  refine w_zle (fun h => absurd h (by decide)) (fun _ => ?_)
  refine w_pure rfl ?_
  refine w_goto ?_
  refine pz_G_of pz_b264_26 ?_
  refine w_ret (pz_rok2 (by omega)) ?_
  first | exact lf_i (by first | rfl | omega) (by rfl) | (exfalso; omega)

theorem s_X11_failure_0 {L : Nat} {iv : Nat → Nat → Int} (p : Int) (hk : q_KR (iv 155)) (hcase0 : 0 ≤ p ∧ p ≤ q_p2 (iv 155 2) - 1) (hcase1 : ¬ (q_exi (fun i => 1 ≤ i ∧ q_sta (iv 155) i) ((iv 155) 0))) (hcase2 : q_seen (iv 155) (iv 161) (iv 157) (iv 158) (iv 159)) : pz_R (pz_Sh L) 264 [.inr (.inl 154), .inl p] iv (.inl (some (.inl (q_fl (q_zX (iv 155) (iv 161) (iv 157) (iv 158) (iv 159)).1 (iv 155) p (iv 160))))) (pz_u1 (pz_u1 (pz_u1 (pz_u1 (pz_u1 iv 154 (pz_up (q_zw (iv 155) (iv 161) (iv 157) (iv 158) (iv 159) (iv 154)) 0 0)) 157 ((q_zX (iv 155) (iv 161) (iv 157) (iv 158) (iv 159)).2.2)) 158 ((q_zX (iv 155) (iv 161) (iv 157) (iv 158) (iv 159)).1)) 159 ((q_zX (iv 155) (iv 161) (iv 157) (iv 158) (iv 159)).2.1)) 160 (q_pl (q_zX (iv 155) (iv 161) (iv 157) (iv 158) (iv 159)).1 (iv 155) p (iv 160))) := by
  intro dv cc ss
  have hk0 := hk.r0
  have hfr := q_fl_r (v := (q_zX (iv 155) (iv 161) (iv 157) (iv 158) (iv 159)).1) (k := iv 155) (p := p) (a := iv 160)
  refine pz_G_mem (iv2 := pz_u1 (pz_u1 (pz_u1 (pz_u1 (pz_u1 iv 154 (iv 154)) 157 (iv 157)) 158 (iv 158)) 159 (iv 159)) 160 (iv 160)) (by exact (((((pz_u1_self iv 154).symm).trans (pz_u1_self (pz_u1 iv 154 (iv 154)) 157).symm).trans (pz_u1_self (pz_u1 (pz_u1 iv 154 (iv 154)) 157 (iv 157)) 158).symm).trans (pz_u1_self (pz_u1 (pz_u1 (pz_u1 iv 154 (iv 154)) 157 (iv 157)) 158 (iv 158)) 159).symm).trans (pz_u1_self (pz_u1 (pz_u1 (pz_u1 (pz_u1 iv 154 (iv 154)) 157 (iv 157)) 158 (iv 158)) 159 (iv 159)) 160).symm) ?_
  show pz_G 264 0 [some (.inr (.inl 154)), some (.inl p)] [] (pz_Sh L, pz_u1 (pz_u1 (pz_u1 (pz_u1 (pz_u1 iv 154 (iv 154)) 157 (iv 157)) 158 (iv 158)) 159 (iv 159)) 160 (iv 160), dv, cc, ss) (pz_P (pz_Sh L) (.inl (some (.inl (q_fl (q_zX (iv 155) (iv 161) (iv 157) (iv 158) (iv 159)).1 (iv 155) p (iv 160))))) (pz_u1 (pz_u1 (pz_u1 (pz_u1 (pz_u1 iv 154 (pz_up (q_zw (iv 155) (iv 161) (iv 157) (iv 158) (iv 159) (iv 154)) 0 0)) 157 ((q_zX (iv 155) (iv 161) (iv 157) (iv 158) (iv 159)).2.2)) 158 ((q_zX (iv 155) (iv 161) (iv 157) (iv 158) (iv 159)).1)) 159 ((q_zX (iv 155) (iv 161) (iv 157) (iv 158) (iv 159)).2.1)) 160 (q_pl (q_zX (iv 155) (iv 161) (iv 157) (iv 158) (iv 159)).1 (iv 155) p (iv 160))) dv cc ss)
  refine pz_G_of pz_b264_0 ?_
  refine w_loc rfl ?_
  refine w_loc rfl ?_
  refine w_loc rfl ?_
  have hc1 : pz_R (pz_Sh L) 258 [.inr (.inl 154), .inl p] (pz_u1 (pz_u1 (pz_u1 (pz_u1 (pz_u1 iv 154 (iv 154)) 157 (iv 157)) 158 (iv 158)) 159 (iv 159)) 160 (iv 160)) (.inl (some (.inl 0))) (pz_u1 (pz_u1 (pz_u1 (pz_u1 (pz_u1 iv 154 (q_zw (iv 155) (iv 161) (iv 157) (iv 158) (iv 159) (iv 154))) 157 ((q_zX (iv 155) (iv 161) (iv 157) (iv 158) (iv 159)).2.2)) 158 ((q_zX (iv 155) (iv 161) (iv 157) (iv 158) (iv 159)).1)) 159 ((q_zX (iv 155) (iv 161) (iv 157) (iv 158) (iv 159)).2.1)) 160 (iv 160)) := pz_R_mem (s_X11_wrongPlay_0 p (by show q_KR (iv 155); exact hk) (by show 0 ≤ p ∧ p ≤ q_p2 (iv 155 2) - 1; first | assumption | omega) (by show ¬ (q_exi (fun i => 1 ≤ i ∧ q_sta (iv 155) i) ((iv 155) 0)); first | assumption | omega) (by show q_seen (iv 155) (iv 161) (iv 157) (iv 158) (iv 159); first | assumption | omega)) (by rw [pz_u1_in (r := 154) (q := 160) (by decide)]; rw [pz_u1_in (r := 154) (q := 159) (by decide)]; rw [pz_u1_in (r := 154) (q := 158) (by decide)]; rw [pz_u1_in (r := 154) (q := 157) (by decide)]; rw [pz_u1_top (r := 154)]; rw [pz_u1_in (r := 157) (q := 160) (by decide)]; rw [pz_u1_in (r := 157) (q := 159) (by decide)]; rw [pz_u1_in (r := 157) (q := 158) (by decide)]; rw [pz_u1_top (r := 157)]; rw [pz_u1_in (r := 158) (q := 160) (by decide)]; rw [pz_u1_in (r := 158) (q := 159) (by decide)]; rw [pz_u1_top (r := 158)]; rw [pz_u1_in (r := 159) (q := 160) (by decide)]; rw [pz_u1_top (r := 159)]; rfl)
  refine w_call hc1 rfl (pz_cokI is_154 rfl) ?_
  refine w_putIm (iv2 := pz_u1 (pz_u1 (pz_u1 (pz_u1 (pz_u1 iv 154 (pz_up (q_zw (iv 155) (iv 161) (iv 157) (iv 158) (iv 159) (iv 154)) 0 0)) 157 ((q_zX (iv 155) (iv 161) (iv 157) (iv 158) (iv 159)).2.2)) 158 ((q_zX (iv 155) (iv 161) (iv 157) (iv 158) (iv 159)).1)) 159 ((q_zX (iv 155) (iv 161) (iv 157) (iv 158) (iv 159)).2.1)) 160 (iv 160)) is_154 pz_fit0 (by rw [pz_u2_in (r := 154) (q := 160) (by decide)]; rw [pz_u2_in (r := 154) (q := 159) (by decide)]; rw [pz_u2_in (r := 154) (q := 158) (by decide)]; rw [pz_u2_in (r := 154) (q := 157) (by decide)]; rw [pz_u2_top]) ?_
  refine w_loc rfl ?_
  refine w_getI (v := 0) is_154 (by decide) rfl ?_
  refine w_zle (fun _ => ?_) (fun h => absurd h (by decide))
  refine pz_G_of pz_b264_21 ?_
  refine w_loc rfl ?_
  refine w_loc rfl ?_
  have hc2 : pz_R (pz_Sh L) 262 [.inr (.inl 154), .inl p] (pz_u1 (pz_u1 (pz_u1 (pz_u1 (pz_u1 iv 154 (pz_up (q_zw (iv 155) (iv 161) (iv 157) (iv 158) (iv 159) (iv 154)) 0 0)) 157 ((q_zX (iv 155) (iv 161) (iv 157) (iv 158) (iv 159)).2.2)) 158 ((q_zX (iv 155) (iv 161) (iv 157) (iv 158) (iv 159)).1)) 159 ((q_zX (iv 155) (iv 161) (iv 157) (iv 158) (iv 159)).2.1)) 160 (iv 160)) (.inl (some (.inl (q_fl ((q_zX (iv 155) (iv 161) (iv 157) (iv 158) (iv 159)).1) (iv 155) p (iv 160))))) (pz_u1 (pz_u1 (pz_u1 (pz_u1 (pz_u1 iv 154 (pz_up (q_zw (iv 155) (iv 161) (iv 157) (iv 158) (iv 159) (iv 154)) 0 0)) 157 ((q_zX (iv 155) (iv 161) (iv 157) (iv 158) (iv 159)).2.2)) 158 ((q_zX (iv 155) (iv 161) (iv 157) (iv 158) (iv 159)).1)) 159 ((q_zX (iv 155) (iv 161) (iv 157) (iv 158) (iv 159)).2.1)) 160 (q_pl ((q_zX (iv 155) (iv 161) (iv 157) (iv 158) (iv 159)).1) (iv 155) p (iv 160))) := pz_R_mem (s_X11_failureOf p (by show q_KR (iv 155); exact hk) (by show q_vl ((q_zX (iv 155) (iv 161) (iv 157) (iv 158) (iv 159)).1); exact q_zv_l hk hcase2)) (by rw [pz_u1_top (r := 160)]; rfl)
  refine w_call hc2 rfl (pz_cokI is_154 rfl) ?_
  refine w_nil ?_
  refine pz_G_of pz_b264_26 ?_
  refine w_ret (pz_rok2 (by omega)) ?_
  first | exact lf_i (by first | rfl | omega) (by rfl) | (exfalso; omega)
