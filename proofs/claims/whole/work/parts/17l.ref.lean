
theorem s_X11_play_1 {L : Nat} {iv : Nat → Nat → Int} (p : Int) (hk : q_KR (iv 155)) (hcase0 : ¬ (0 ≤ p ∧ p ≤ q_p2 (iv 155 2) - 1)) : pz_R (pz_Sh L) 263 [.inr (.inl 154), .inl p] iv (.inl (some (.inl 0))) (pz_u1 (pz_u1 (pz_u1 (pz_u1 (pz_u1 (pz_u1 iv 154 (pz_up (iv 154) 0 1)) 155 (iv 155)) 157 (iv 157)) 158 (iv 158)) 159 (iv 159)) 160 (iv 160)) := by
  intro dv cc ss
  have hk0 := hk.r0
  refine pz_G_mem (iv2 := pz_u1 (pz_u1 (pz_u1 (pz_u1 (pz_u1 (pz_u1 iv 154 (iv 154)) 155 (iv 155)) 157 (iv 157)) 158 (iv 158)) 159 (iv 159)) 160 (iv 160)) (by exact ((((((pz_u1_self iv 154).symm).trans (pz_u1_self (pz_u1 iv 154 (iv 154)) 155).symm).trans (pz_u1_self (pz_u1 (pz_u1 iv 154 (iv 154)) 155 (iv 155)) 157).symm).trans (pz_u1_self (pz_u1 (pz_u1 (pz_u1 iv 154 (iv 154)) 155 (iv 155)) 157 (iv 157)) 158).symm).trans (pz_u1_self (pz_u1 (pz_u1 (pz_u1 (pz_u1 iv 154 (iv 154)) 155 (iv 155)) 157 (iv 157)) 158 (iv 158)) 159).symm).trans (pz_u1_self (pz_u1 (pz_u1 (pz_u1 (pz_u1 (pz_u1 iv 154 (iv 154)) 155 (iv 155)) 157 (iv 157)) 158 (iv 158)) 159 (iv 159)) 160).symm) ?_
  show pz_G 263 0 [some (.inr (.inl 154)), some (.inl p), none, none, none] [] (pz_Sh L, pz_u1 (pz_u1 (pz_u1 (pz_u1 (pz_u1 (pz_u1 iv 154 (iv 154)) 155 (iv 155)) 157 (iv 157)) 158 (iv 158)) 159 (iv 159)) 160 (iv 160), dv, cc, ss) (pz_P (pz_Sh L) (.inl (some (.inl 0))) (pz_u1 (pz_u1 (pz_u1 (pz_u1 (pz_u1 (pz_u1 iv 154 (pz_up (iv 154) 0 1)) 155 (iv 155)) 157 (iv 157)) 158 (iv 158)) 159 (iv 159)) 160 (iv 160)) dv cc ss)
  refine pz_G_of pz_b263_0 ?_
  refine w_loc rfl ?_
  refine w_loc rfl ?_
  have hc1 : pz_R (pz_Sh L) 258 [.inr (.inl 154), .inl p] (pz_u1 (pz_u1 (pz_u1 (pz_u1 (pz_u1 (pz_u1 iv 154 (iv 154)) 155 (iv 155)) 157 (iv 157)) 158 (iv 158)) 159 (iv 159)) 160 (iv 160)) (.inl (some (.inl 1))) (pz_u1 (pz_u1 (pz_u1 (pz_u1 (pz_u1 (pz_u1 iv 154 (iv 154)) 155 (iv 155)) 157 (iv 157)) 158 (iv 158)) 159 (iv 159)) 160 (iv 160)) := pz_R_mem (s_X11_wrongPlay_1 p (by show q_KR (iv 155); exact hk) (by show ¬ (0 ≤ p ∧ p ≤ q_p2 (iv 155 2) - 1); first | assumption | omega)) (by rw [pz_u1_in (r := 154) (q := 160) (by decide)]; rw [pz_u1_in (r := 154) (q := 159) (by decide)]; rw [pz_u1_in (r := 154) (q := 158) (by decide)]; rw [pz_u1_in (r := 154) (q := 157) (by decide)]; rw [pz_u1_in (r := 154) (q := 155) (by decide)]; rw [pz_u1_top (r := 154)]; rw [pz_u1_in (r := 157) (q := 160) (by decide)]; rw [pz_u1_in (r := 157) (q := 159) (by decide)]; rw [pz_u1_in (r := 157) (q := 158) (by decide)]; rw [pz_u1_top (r := 157)]; rw [pz_u1_in (r := 158) (q := 160) (by decide)]; rw [pz_u1_in (r := 158) (q := 159) (by decide)]; rw [pz_u1_top (r := 158)]; rw [pz_u1_in (r := 159) (q := 160) (by decide)]; rw [pz_u1_top (r := 159)]; rfl)
  refine w_call hc1 rfl (pz_cokI is_154 rfl) ?_
  refine w_loc (ls' := [some (.inr (.inl 154)), some (.inl p), some (.inl 1), none, none]) (st' := []) rfl ?_
  refine w_loc rfl ?_
  refine w_zle (fun h2 => ?_) (fun h2 => ?_)
  · first
    | (exfalso; first | omega | contradiction)
    | (exfalso; first | omega | contradiction)
  · first
    | (exfalso; first | omega | contradiction)
    | (refine w_loc rfl ?_
       refine w_loc rfl ?_
       have hc3 : pz_R (pz_Sh L) 191 [.inr (.inl 154), .inl 1] (pz_u1 (pz_u1 (pz_u1 (pz_u1 (pz_u1 (pz_u1 iv 154 (iv 154)) 155 (iv 155)) 157 (iv 157)) 158 (iv 158)) 159 (iv 159)) 160 (iv 160)) (.inl (some (.inl 0))) (pz_u1 (pz_u1 (pz_u1 (pz_u1 (pz_u1 (pz_u1 iv 154 (pz_up (iv 154) 0 1)) 155 (iv 155)) 157 (iv 157)) 158 (iv 158)) 159 (iv 159)) 160 (iv 160)) := pz_R_mem (s_X11_fails 1) (by rw [pz_u1_in (r := 154) (q := 160) (by decide)]; rw [pz_u1_in (r := 154) (q := 159) (by decide)]; rw [pz_u1_in (r := 154) (q := 158) (by decide)]; rw [pz_u1_in (r := 154) (q := 157) (by decide)]; rw [pz_u1_in (r := 154) (q := 155) (by decide)]; rw [pz_u1_top (r := 154)]; rfl)
       refine w_call hc3 rfl (pz_cokI is_154 rfl) ?_
       refine w_ret rfl ?_
       first | exact lf_i (by first | rfl | omega) (by rfl) | (exfalso; omega))

theorem s_X11_play_2a {L : Nat} {iv : Nat → Nat → Int} (p : Int) (hk : q_KR (iv 155)) (hcase0 : 0 ≤ p ∧ p ≤ q_p2 (iv 155 2) - 1) (hcase1 : q_exi (fun i => 1 ≤ i ∧ q_sta (iv 155) i) ((iv 155) 0)) : pz_R (pz_Sh L) 263 [.inr (.inl 154), .inl p] iv (.inl (some (.inl 0))) (pz_u1 (pz_u1 (pz_u1 (pz_u1 (pz_u1 (pz_u1 iv 154 (pz_up (q_zw (iv 155) (iv 161) (iv 157) (iv 158) (iv 159) (iv 154)) 0 2)) 155 (iv 155)) 157 ((q_zX (iv 155) (iv 161) (iv 157) (iv 158) (iv 159)).2.2)) 158 ((q_zX (iv 155) (iv 161) (iv 157) (iv 158) (iv 159)).1)) 159 ((q_zX (iv 155) (iv 161) (iv 157) (iv 158) (iv 159)).2.1)) 160 (iv 160)) := by
  intro dv cc ss
  have hk0 := hk.r0
  refine pz_G_mem (iv2 := pz_u1 (pz_u1 (pz_u1 (pz_u1 (pz_u1 (pz_u1 iv 154 (iv 154)) 155 (iv 155)) 157 (iv 157)) 158 (iv 158)) 159 (iv 159)) 160 (iv 160)) (by exact ((((((pz_u1_self iv 154).symm).trans (pz_u1_self (pz_u1 iv 154 (iv 154)) 155).symm).trans (pz_u1_self (pz_u1 (pz_u1 iv 154 (iv 154)) 155 (iv 155)) 157).symm).trans (pz_u1_self (pz_u1 (pz_u1 (pz_u1 iv 154 (iv 154)) 155 (iv 155)) 157 (iv 157)) 158).symm).trans (pz_u1_self (pz_u1 (pz_u1 (pz_u1 (pz_u1 iv 154 (iv 154)) 155 (iv 155)) 157 (iv 157)) 158 (iv 158)) 159).symm).trans (pz_u1_self (pz_u1 (pz_u1 (pz_u1 (pz_u1 (pz_u1 iv 154 (iv 154)) 155 (iv 155)) 157 (iv 157)) 158 (iv 158)) 159 (iv 159)) 160).symm) ?_
  show pz_G 263 0 [some (.inr (.inl 154)), some (.inl p), none, none, none] [] (pz_Sh L, pz_u1 (pz_u1 (pz_u1 (pz_u1 (pz_u1 (pz_u1 iv 154 (iv 154)) 155 (iv 155)) 157 (iv 157)) 158 (iv 158)) 159 (iv 159)) 160 (iv 160), dv, cc, ss) (pz_P (pz_Sh L) (.inl (some (.inl 0))) (pz_u1 (pz_u1 (pz_u1 (pz_u1 (pz_u1 (pz_u1 iv 154 (pz_up (q_zw (iv 155) (iv 161) (iv 157) (iv 158) (iv 159) (iv 154)) 0 2)) 155 (iv 155)) 157 ((q_zX (iv 155) (iv 161) (iv 157) (iv 158) (iv 159)).2.2)) 158 ((q_zX (iv 155) (iv 161) (iv 157) (iv 158) (iv 159)).1)) 159 ((q_zX (iv 155) (iv 161) (iv 157) (iv 158) (iv 159)).2.1)) 160 (iv 160)) dv cc ss)
  refine pz_G_of pz_b263_0 ?_
  refine w_loc rfl ?_
  refine w_loc rfl ?_
  have hc1 : pz_R (pz_Sh L) 258 [.inr (.inl 154), .inl p] (pz_u1 (pz_u1 (pz_u1 (pz_u1 (pz_u1 (pz_u1 iv 154 (iv 154)) 155 (iv 155)) 157 (iv 157)) 158 (iv 158)) 159 (iv 159)) 160 (iv 160)) (.inl (some (.inl 2))) (pz_u1 (pz_u1 (pz_u1 (pz_u1 (pz_u1 (pz_u1 iv 154 (q_zw (iv 155) (iv 161) (iv 157) (iv 158) (iv 159) (iv 154))) 155 (iv 155)) 157 ((q_zX (iv 155) (iv 161) (iv 157) (iv 158) (iv 159)).2.2)) 158 ((q_zX (iv 155) (iv 161) (iv 157) (iv 158) (iv 159)).1)) 159 ((q_zX (iv 155) (iv 161) (iv 157) (iv 158) (iv 159)).2.1)) 160 (iv 160)) := pz_R_mem (s_X11_wrongPlay_2a p (by show q_KR (iv 155); exact hk) (by show 0 ≤ p ∧ p ≤ q_p2 (iv 155 2) - 1; first | assumption | omega) (by show q_exi (fun i => 1 ≤ i ∧ q_sta (iv 155) i) ((iv 155) 0); first | assumption | omega)) (by rw [pz_u1_in (r := 154) (q := 160) (by decide)]; rw [pz_u1_in (r := 154) (q := 159) (by decide)]; rw [pz_u1_in (r := 154) (q := 158) (by decide)]; rw [pz_u1_in (r := 154) (q := 157) (by decide)]; rw [pz_u1_in (r := 154) (q := 155) (by decide)]; rw [pz_u1_top (r := 154)]; rw [pz_u1_in (r := 157) (q := 160) (by decide)]; rw [pz_u1_in (r := 157) (q := 159) (by decide)]; rw [pz_u1_in (r := 157) (q := 158) (by decide)]; rw [pz_u1_top (r := 157)]; rw [pz_u1_in (r := 158) (q := 160) (by decide)]; rw [pz_u1_in (r := 158) (q := 159) (by decide)]; rw [pz_u1_top (r := 158)]; rw [pz_u1_in (r := 159) (q := 160) (by decide)]; rw [pz_u1_top (r := 159)]; rfl)
  refine w_call hc1 rfl (pz_cokI is_154 rfl) ?_
  refine w_loc (ls' := [some (.inr (.inl 154)), some (.inl p), some (.inl 2), none, none]) (st' := []) rfl ?_
  refine w_loc rfl ?_
  refine w_zle (fun h2 => ?_) (fun h2 => ?_)
  · first
    | (exfalso; first | omega | contradiction)
    | (exfalso; first | omega | contradiction)
  · first
    | (exfalso; first | omega | contradiction)
    | (refine w_loc rfl ?_
       refine w_loc rfl ?_
       have hc3 : pz_R (pz_Sh L) 191 [.inr (.inl 154), .inl 2] (pz_u1 (pz_u1 (pz_u1 (pz_u1 (pz_u1 (pz_u1 iv 154 (q_zw (iv 155) (iv 161) (iv 157) (iv 158) (iv 159) (iv 154))) 155 (iv 155)) 157 ((q_zX (iv 155) (iv 161) (iv 157) (iv 158) (iv 159)).2.2)) 158 ((q_zX (iv 155) (iv 161) (iv 157) (iv 158) (iv 159)).1)) 159 ((q_zX (iv 155) (iv 161) (iv 157) (iv 158) (iv 159)).2.1)) 160 (iv 160)) (.inl (some (.inl 0))) (pz_u1 (pz_u1 (pz_u1 (pz_u1 (pz_u1 (pz_u1 iv 154 (pz_up (q_zw (iv 155) (iv 161) (iv 157) (iv 158) (iv 159) (iv 154)) 0 2)) 155 (iv 155)) 157 ((q_zX (iv 155) (iv 161) (iv 157) (iv 158) (iv 159)).2.2)) 158 ((q_zX (iv 155) (iv 161) (iv 157) (iv 158) (iv 159)).1)) 159 ((q_zX (iv 155) (iv 161) (iv 157) (iv 158) (iv 159)).2.1)) 160 (iv 160)) := pz_R_mem (s_X11_fails 2) (by rw [pz_u1_in (r := 154) (q := 160) (by decide)]; rw [pz_u1_in (r := 154) (q := 159) (by decide)]; rw [pz_u1_in (r := 154) (q := 158) (by decide)]; rw [pz_u1_in (r := 154) (q := 157) (by decide)]; rw [pz_u1_in (r := 154) (q := 155) (by decide)]; rw [pz_u1_top (r := 154)]; rfl)
       refine w_call hc3 rfl (pz_cokI is_154 rfl) ?_
       refine w_ret rfl ?_
       first | exact lf_i (by first | rfl | omega) (by rfl) | (exfalso; omega))

theorem s_X11_play_2b {L : Nat} {iv : Nat → Nat → Int} (p : Int) (hk : q_KR (iv 155)) (hcase0 : 0 ≤ p ∧ p ≤ q_p2 (iv 155 2) - 1) (hcase1 : ¬ (q_exi (fun i => 1 ≤ i ∧ q_sta (iv 155) i) ((iv 155) 0))) (hcase2 : ¬ q_seen (iv 155) (iv 161) (iv 157) (iv 158) (iv 159)) : pz_R (pz_Sh L) 263 [.inr (.inl 154), .inl p] iv (.inl (some (.inl 0))) (pz_u1 (pz_u1 (pz_u1 (pz_u1 (pz_u1 (pz_u1 iv 154 (pz_up (q_zw (iv 155) (iv 161) (iv 157) (iv 158) (iv 159) (iv 154)) 0 2)) 155 (iv 155)) 157 ((q_zX (iv 155) (iv 161) (iv 157) (iv 158) (iv 159)).2.2)) 158 ((q_zX (iv 155) (iv 161) (iv 157) (iv 158) (iv 159)).1)) 159 ((q_zX (iv 155) (iv 161) (iv 157) (iv 158) (iv 159)).2.1)) 160 (iv 160)) := by
  intro dv cc ss
  have hk0 := hk.r0
  refine pz_G_mem (iv2 := pz_u1 (pz_u1 (pz_u1 (pz_u1 (pz_u1 (pz_u1 iv 154 (iv 154)) 155 (iv 155)) 157 (iv 157)) 158 (iv 158)) 159 (iv 159)) 160 (iv 160)) (by exact ((((((pz_u1_self iv 154).symm).trans (pz_u1_self (pz_u1 iv 154 (iv 154)) 155).symm).trans (pz_u1_self (pz_u1 (pz_u1 iv 154 (iv 154)) 155 (iv 155)) 157).symm).trans (pz_u1_self (pz_u1 (pz_u1 (pz_u1 iv 154 (iv 154)) 155 (iv 155)) 157 (iv 157)) 158).symm).trans (pz_u1_self (pz_u1 (pz_u1 (pz_u1 (pz_u1 iv 154 (iv 154)) 155 (iv 155)) 157 (iv 157)) 158 (iv 158)) 159).symm).trans (pz_u1_self (pz_u1 (pz_u1 (pz_u1 (pz_u1 (pz_u1 iv 154 (iv 154)) 155 (iv 155)) 157 (iv 157)) 158 (iv 158)) 159 (iv 159)) 160).symm) ?_
  show pz_G 263 0 [some (.inr (.inl 154)), some (.inl p), none, none, none] [] (pz_Sh L, pz_u1 (pz_u1 (pz_u1 (pz_u1 (pz_u1 (pz_u1 iv 154 (iv 154)) 155 (iv 155)) 157 (iv 157)) 158 (iv 158)) 159 (iv 159)) 160 (iv 160), dv, cc, ss) (pz_P (pz_Sh L) (.inl (some (.inl 0))) (pz_u1 (pz_u1 (pz_u1 (pz_u1 (pz_u1 (pz_u1 iv 154 (pz_up (q_zw (iv 155) (iv 161) (iv 157) (iv 158) (iv 159) (iv 154)) 0 2)) 155 (iv 155)) 157 ((q_zX (iv 155) (iv 161) (iv 157) (iv 158) (iv 159)).2.2)) 158 ((q_zX (iv 155) (iv 161) (iv 157) (iv 158) (iv 159)).1)) 159 ((q_zX (iv 155) (iv 161) (iv 157) (iv 158) (iv 159)).2.1)) 160 (iv 160)) dv cc ss)
  refine pz_G_of pz_b263_0 ?_
  refine w_loc rfl ?_
  refine w_loc rfl ?_
  have hc1 : pz_R (pz_Sh L) 258 [.inr (.inl 154), .inl p] (pz_u1 (pz_u1 (pz_u1 (pz_u1 (pz_u1 (pz_u1 iv 154 (iv 154)) 155 (iv 155)) 157 (iv 157)) 158 (iv 158)) 159 (iv 159)) 160 (iv 160)) (.inl (some (.inl 2))) (pz_u1 (pz_u1 (pz_u1 (pz_u1 (pz_u1 (pz_u1 iv 154 (q_zw (iv 155) (iv 161) (iv 157) (iv 158) (iv 159) (iv 154))) 155 (iv 155)) 157 ((q_zX (iv 155) (iv 161) (iv 157) (iv 158) (iv 159)).2.2)) 158 ((q_zX (iv 155) (iv 161) (iv 157) (iv 158) (iv 159)).1)) 159 ((q_zX (iv 155) (iv 161) (iv 157) (iv 158) (iv 159)).2.1)) 160 (iv 160)) := pz_R_mem (s_X11_wrongPlay_2b p (by show q_KR (iv 155); exact hk) (by show 0 ≤ p ∧ p ≤ q_p2 (iv 155 2) - 1; first | assumption | omega) (by show ¬ (q_exi (fun i => 1 ≤ i ∧ q_sta (iv 155) i) ((iv 155) 0)); first | assumption | omega) (by show ¬ q_seen (iv 155) (iv 161) (iv 157) (iv 158) (iv 159); first | assumption | omega)) (by rw [pz_u1_in (r := 154) (q := 160) (by decide)]; rw [pz_u1_in (r := 154) (q := 159) (by decide)]; rw [pz_u1_in (r := 154) (q := 158) (by decide)]; rw [pz_u1_in (r := 154) (q := 157) (by decide)]; rw [pz_u1_in (r := 154) (q := 155) (by decide)]; rw [pz_u1_top (r := 154)]; rw [pz_u1_in (r := 157) (q := 160) (by decide)]; rw [pz_u1_in (r := 157) (q := 159) (by decide)]; rw [pz_u1_in (r := 157) (q := 158) (by decide)]; rw [pz_u1_top (r := 157)]; rw [pz_u1_in (r := 158) (q := 160) (by decide)]; rw [pz_u1_in (r := 158) (q := 159) (by decide)]; rw [pz_u1_top (r := 158)]; rw [pz_u1_in (r := 159) (q := 160) (by decide)]; rw [pz_u1_top (r := 159)]; rfl)
  refine w_call hc1 rfl (pz_cokI is_154 rfl) ?_
  refine w_loc (ls' := [some (.inr (.inl 154)), some (.inl p), some (.inl 2), none, none]) (st' := []) rfl ?_
  refine w_loc rfl ?_
  refine w_zle (fun h2 => ?_) (fun h2 => ?_)
  · first
    | (exfalso; first | omega | contradiction)
    | (exfalso; first | omega | contradiction)
  · first
    | (exfalso; first | omega | contradiction)
    | (refine w_loc rfl ?_
       refine w_loc rfl ?_
       have hc3 : pz_R (pz_Sh L) 191 [.inr (.inl 154), .inl 2] (pz_u1 (pz_u1 (pz_u1 (pz_u1 (pz_u1 (pz_u1 iv 154 (q_zw (iv 155) (iv 161) (iv 157) (iv 158) (iv 159) (iv 154))) 155 (iv 155)) 157 ((q_zX (iv 155) (iv 161) (iv 157) (iv 158) (iv 159)).2.2)) 158 ((q_zX (iv 155) (iv 161) (iv 157) (iv 158) (iv 159)).1)) 159 ((q_zX (iv 155) (iv 161) (iv 157) (iv 158) (iv 159)).2.1)) 160 (iv 160)) (.inl (some (.inl 0))) (pz_u1 (pz_u1 (pz_u1 (pz_u1 (pz_u1 (pz_u1 iv 154 (pz_up (q_zw (iv 155) (iv 161) (iv 157) (iv 158) (iv 159) (iv 154)) 0 2)) 155 (iv 155)) 157 ((q_zX (iv 155) (iv 161) (iv 157) (iv 158) (iv 159)).2.2)) 158 ((q_zX (iv 155) (iv 161) (iv 157) (iv 158) (iv 159)).1)) 159 ((q_zX (iv 155) (iv 161) (iv 157) (iv 158) (iv 159)).2.1)) 160 (iv 160)) := pz_R_mem (s_X11_fails 2) (by rw [pz_u1_in (r := 154) (q := 160) (by decide)]; rw [pz_u1_in (r := 154) (q := 159) (by decide)]; rw [pz_u1_in (r := 154) (q := 158) (by decide)]; rw [pz_u1_in (r := 154) (q := 157) (by decide)]; rw [pz_u1_in (r := 154) (q := 155) (by decide)]; rw [pz_u1_top (r := 154)]; rfl)
       refine w_call hc3 rfl (pz_cokI is_154 rfl) ?_
       refine w_ret rfl ?_
       first | exact lf_i (by first | rfl | omega) (by rfl) | (exfalso; omega))

theorem s_X11_play_3 {L : Nat} {iv : Nat → Nat → Int} (p : Int) (hk : q_KR (iv 155)) (hcase0 : 0 ≤ p ∧ p ≤ q_p2 (iv 155 2) - 1) (hcase1 : ¬ (q_exi (fun i => 1 ≤ i ∧ q_sta (iv 155) i) ((iv 155) 0))) (hcase2 : q_seen (iv 155) (iv 161) (iv 157) (iv 158) (iv 159)) (hcase3 : q_fl (q_zX (iv 155) (iv 161) (iv 157) (iv 158) (iv 159)).1 (iv 155) p (iv 160) ≠ 45) : pz_R (pz_Sh L) 263 [.inr (.inl 154), .inl p] iv (.inl (some (.inl 0))) (pz_u1 (pz_u1 (pz_u1 (pz_u1 (pz_u1 (pz_u1 iv 154 (pz_up (q_zw (iv 155) (iv 161) (iv 157) (iv 158) (iv 159) (iv 154)) 0 3)) 155 (iv 155)) 157 ((q_zX (iv 155) (iv 161) (iv 157) (iv 158) (iv 159)).2.2)) 158 ((q_zX (iv 155) (iv 161) (iv 157) (iv 158) (iv 159)).1)) 159 ((q_zX (iv 155) (iv 161) (iv 157) (iv 158) (iv 159)).2.1)) 160 (q_pl (q_zX (iv 155) (iv 161) (iv 157) (iv 158) (iv 159)).1 (iv 155) p (iv 160))) := by
  intro dv cc ss
  have hk0 := hk.r0
  have hfr := q_fl_r (v := (q_zX (iv 155) (iv 161) (iv 157) (iv 158) (iv 159)).1) (k := iv 155) (p := p) (a := iv 160)
  have hal9 : q_al (q_pl (q_zX (iv 155) (iv 161) (iv 157) (iv 158) (iv 159)).1 (iv 155) p (iv 160)) := q_pl_al hk
  refine pz_G_mem (iv2 := pz_u1 (pz_u1 (pz_u1 (pz_u1 (pz_u1 (pz_u1 iv 154 (iv 154)) 155 (iv 155)) 157 (iv 157)) 158 (iv 158)) 159 (iv 159)) 160 (iv 160)) (by exact ((((((pz_u1_self iv 154).symm).trans (pz_u1_self (pz_u1 iv 154 (iv 154)) 155).symm).trans (pz_u1_self (pz_u1 (pz_u1 iv 154 (iv 154)) 155 (iv 155)) 157).symm).trans (pz_u1_self (pz_u1 (pz_u1 (pz_u1 iv 154 (iv 154)) 155 (iv 155)) 157 (iv 157)) 158).symm).trans (pz_u1_self (pz_u1 (pz_u1 (pz_u1 (pz_u1 iv 154 (iv 154)) 155 (iv 155)) 157 (iv 157)) 158 (iv 158)) 159).symm).trans (pz_u1_self (pz_u1 (pz_u1 (pz_u1 (pz_u1 (pz_u1 iv 154 (iv 154)) 155 (iv 155)) 157 (iv 157)) 158 (iv 158)) 159 (iv 159)) 160).symm) ?_
  show pz_G 263 0 [some (.inr (.inl 154)), some (.inl p), none, none, none] [] (pz_Sh L, pz_u1 (pz_u1 (pz_u1 (pz_u1 (pz_u1 (pz_u1 iv 154 (iv 154)) 155 (iv 155)) 157 (iv 157)) 158 (iv 158)) 159 (iv 159)) 160 (iv 160), dv, cc, ss) (pz_P (pz_Sh L) (.inl (some (.inl 0))) (pz_u1 (pz_u1 (pz_u1 (pz_u1 (pz_u1 (pz_u1 iv 154 (pz_up (q_zw (iv 155) (iv 161) (iv 157) (iv 158) (iv 159) (iv 154)) 0 3)) 155 (iv 155)) 157 ((q_zX (iv 155) (iv 161) (iv 157) (iv 158) (iv 159)).2.2)) 158 ((q_zX (iv 155) (iv 161) (iv 157) (iv 158) (iv 159)).1)) 159 ((q_zX (iv 155) (iv 161) (iv 157) (iv 158) (iv 159)).2.1)) 160 (q_pl (q_zX (iv 155) (iv 161) (iv 157) (iv 158) (iv 159)).1 (iv 155) p (iv 160))) dv cc ss)
  refine pz_G_of pz_b263_0 ?_
  refine w_loc rfl ?_
  refine w_loc rfl ?_
  have hc1 : pz_R (pz_Sh L) 258 [.inr (.inl 154), .inl p] (pz_u1 (pz_u1 (pz_u1 (pz_u1 (pz_u1 (pz_u1 iv 154 (iv 154)) 155 (iv 155)) 157 (iv 157)) 158 (iv 158)) 159 (iv 159)) 160 (iv 160)) (.inl (some (.inl 0))) (pz_u1 (pz_u1 (pz_u1 (pz_u1 (pz_u1 (pz_u1 iv 154 (q_zw (iv 155) (iv 161) (iv 157) (iv 158) (iv 159) (iv 154))) 155 (iv 155)) 157 ((q_zX (iv 155) (iv 161) (iv 157) (iv 158) (iv 159)).2.2)) 158 ((q_zX (iv 155) (iv 161) (iv 157) (iv 158) (iv 159)).1)) 159 ((q_zX (iv 155) (iv 161) (iv 157) (iv 158) (iv 159)).2.1)) 160 (iv 160)) := pz_R_mem (s_X11_wrongPlay_0 p (by show q_KR (iv 155); exact hk) (by show 0 ≤ p ∧ p ≤ q_p2 (iv 155 2) - 1; first | assumption | omega) (by show ¬ (q_exi (fun i => 1 ≤ i ∧ q_sta (iv 155) i) ((iv 155) 0)); first | assumption | omega) (by show q_seen (iv 155) (iv 161) (iv 157) (iv 158) (iv 159); first | assumption | omega)) (by rw [pz_u1_in (r := 154) (q := 160) (by decide)]; rw [pz_u1_in (r := 154) (q := 159) (by decide)]; rw [pz_u1_in (r := 154) (q := 158) (by decide)]; rw [pz_u1_in (r := 154) (q := 157) (by decide)]; rw [pz_u1_in (r := 154) (q := 155) (by decide)]; rw [pz_u1_top (r := 154)]; rw [pz_u1_in (r := 157) (q := 160) (by decide)]; rw [pz_u1_in (r := 157) (q := 159) (by decide)]; rw [pz_u1_in (r := 157) (q := 158) (by decide)]; rw [pz_u1_top (r := 157)]; rw [pz_u1_in (r := 158) (q := 160) (by decide)]; rw [pz_u1_in (r := 158) (q := 159) (by decide)]; rw [pz_u1_top (r := 158)]; rw [pz_u1_in (r := 159) (q := 160) (by decide)]; rw [pz_u1_top (r := 159)]; rfl)
  refine w_call hc1 rfl (pz_cokI is_154 rfl) ?_
  refine w_loc (ls' := [some (.inr (.inl 154)), some (.inl p), some (.inl 0), none, none]) (st' := []) rfl ?_
  refine w_loc rfl ?_
  refine w_zle (fun h2 => ?_) (fun h2 => ?_)
  · first
    | (exfalso; first | omega | contradiction)
    | (refine pz_G_of pz_b263_16 ?_
       refine w_loc rfl ?_
       refine w_loc rfl ?_
       have hc3 : pz_R (pz_Sh L) 262 [.inr (.inl 154), .inl p] (pz_u1 (pz_u1 (pz_u1 (pz_u1 (pz_u1 (pz_u1 iv 154 (q_zw (iv 155) (iv 161) (iv 157) (iv 158) (iv 159) (iv 154))) 155 (iv 155)) 157 ((q_zX (iv 155) (iv 161) (iv 157) (iv 158) (iv 159)).2.2)) 158 ((q_zX (iv 155) (iv 161) (iv 157) (iv 158) (iv 159)).1)) 159 ((q_zX (iv 155) (iv 161) (iv 157) (iv 158) (iv 159)).2.1)) 160 (iv 160)) (.inl (some (.inl (q_fl ((q_zX (iv 155) (iv 161) (iv 157) (iv 158) (iv 159)).1) (iv 155) p (iv 160))))) (pz_u1 (pz_u1 (pz_u1 (pz_u1 (pz_u1 (pz_u1 iv 154 (q_zw (iv 155) (iv 161) (iv 157) (iv 158) (iv 159) (iv 154))) 155 (iv 155)) 157 ((q_zX (iv 155) (iv 161) (iv 157) (iv 158) (iv 159)).2.2)) 158 ((q_zX (iv 155) (iv 161) (iv 157) (iv 158) (iv 159)).1)) 159 ((q_zX (iv 155) (iv 161) (iv 157) (iv 158) (iv 159)).2.1)) 160 (q_pl ((q_zX (iv 155) (iv 161) (iv 157) (iv 158) (iv 159)).1) (iv 155) p (iv 160))) := pz_R_mem (s_X11_failureOf p (by show q_KR (iv 155); exact hk) (by show q_vl ((q_zX (iv 155) (iv 161) (iv 157) (iv 158) (iv 159)).1); exact q_zv_l hk hcase2)) (by rw [pz_u1_top (r := 160)]; rfl)
       refine w_call hc3 rfl (pz_cokI is_154 rfl) ?_
       refine w_pure rfl ?_
       refine w_ieq (fun h4 => ?_) (fun h4 => ?_)
       · first
         | (exfalso; first | omega | contradiction)
         | (exfalso; first | omega | contradiction)
       · first
         | (exfalso; first | omega | contradiction)
         | (refine w_loc rfl ?_
            refine w_pure rfl ?_
            have hc5 : pz_R (pz_Sh L) 191 [.inr (.inl 154), .inl 3] (pz_u1 (pz_u1 (pz_u1 (pz_u1 (pz_u1 (pz_u1 iv 154 (q_zw (iv 155) (iv 161) (iv 157) (iv 158) (iv 159) (iv 154))) 155 (iv 155)) 157 ((q_zX (iv 155) (iv 161) (iv 157) (iv 158) (iv 159)).2.2)) 158 ((q_zX (iv 155) (iv 161) (iv 157) (iv 158) (iv 159)).1)) 159 ((q_zX (iv 155) (iv 161) (iv 157) (iv 158) (iv 159)).2.1)) 160 (q_pl ((q_zX (iv 155) (iv 161) (iv 157) (iv 158) (iv 159)).1) (iv 155) p (iv 160))) (.inl (some (.inl 0))) (pz_u1 (pz_u1 (pz_u1 (pz_u1 (pz_u1 (pz_u1 iv 154 (pz_up (q_zw (iv 155) (iv 161) (iv 157) (iv 158) (iv 159) (iv 154)) 0 3)) 155 (iv 155)) 157 ((q_zX (iv 155) (iv 161) (iv 157) (iv 158) (iv 159)).2.2)) 158 ((q_zX (iv 155) (iv 161) (iv 157) (iv 158) (iv 159)).1)) 159 ((q_zX (iv 155) (iv 161) (iv 157) (iv 158) (iv 159)).2.1)) 160 (q_pl ((q_zX (iv 155) (iv 161) (iv 157) (iv 158) (iv 159)).1) (iv 155) p (iv 160))) := pz_R_mem (s_X11_fails 3) (by rw [pz_u1_in (r := 154) (q := 160) (by decide)]; rw [pz_u1_in (r := 154) (q := 159) (by decide)]; rw [pz_u1_in (r := 154) (q := 158) (by decide)]; rw [pz_u1_in (r := 154) (q := 157) (by decide)]; rw [pz_u1_in (r := 154) (q := 155) (by decide)]; rw [pz_u1_top (r := 154)]; rfl)
            refine w_call hc5 rfl (pz_cokI is_154 rfl) ?_
            refine w_ret rfl ?_
            first | exact lf_i (by first | rfl | omega) (by rfl) | (exfalso; omega)))
  · first
    | (exfalso; first | omega | contradiction)
    | (refine w_loc rfl ?_
       refine w_loc rfl ?_
       have hc6 : pz_R (pz_Sh L) 191 [.inr (.inl 154), .inl 0] (pz_u1 (pz_u1 (pz_u1 (pz_u1 (pz_u1 (pz_u1 iv 154 (q_zw (iv 155) (iv 161) (iv 157) (iv 158) (iv 159) (iv 154))) 155 (iv 155)) 157 ((q_zX (iv 155) (iv 161) (iv 157) (iv 158) (iv 159)).2.2)) 158 ((q_zX (iv 155) (iv 161) (iv 157) (iv 158) (iv 159)).1)) 159 ((q_zX (iv 155) (iv 161) (iv 157) (iv 158) (iv 159)).2.1)) 160 (iv 160)) (.inl (some (.inl 0))) (pz_u1 (pz_u1 (pz_u1 (pz_u1 (pz_u1 (pz_u1 iv 154 (pz_up (q_zw (iv 155) (iv 161) (iv 157) (iv 158) (iv 159) (iv 154)) 0 0)) 155 (iv 155)) 157 ((q_zX (iv 155) (iv 161) (iv 157) (iv 158) (iv 159)).2.2)) 158 ((q_zX (iv 155) (iv 161) (iv 157) (iv 158) (iv 159)).1)) 159 ((q_zX (iv 155) (iv 161) (iv 157) (iv 158) (iv 159)).2.1)) 160 (iv 160)) := pz_R_mem (s_X11_fails 0) (by rw [pz_u1_in (r := 154) (q := 160) (by decide)]; rw [pz_u1_in (r := 154) (q := 159) (by decide)]; rw [pz_u1_in (r := 154) (q := 158) (by decide)]; rw [pz_u1_in (r := 154) (q := 157) (by decide)]; rw [pz_u1_in (r := 154) (q := 155) (by decide)]; rw [pz_u1_top (r := 154)]; rfl)
       refine w_call hc6 rfl (pz_cokI is_154 rfl) ?_
       refine w_ret rfl ?_
       first | exact lf_i (by first | rfl | omega) (by rfl) | (exfalso; omega))

theorem s_X11_play_0 {L : Nat} {iv : Nat → Nat → Int} (p : Int) (hk : q_KR (iv 155)) (hcase0 : 0 ≤ p ∧ p ≤ q_p2 (iv 155 2) - 1) (hcase1 : ¬ (q_exi (fun i => 1 ≤ i ∧ q_sta (iv 155) i) ((iv 155) 0))) (hcase2 : q_seen (iv 155) (iv 161) (iv 157) (iv 158) (iv 159)) (hcase3 : q_fl (q_zX (iv 155) (iv 161) (iv 157) (iv 158) (iv 159)).1 (iv 155) p (iv 160) = 45) : pz_R (pz_Sh L) 263 [.inr (.inl 154), .inl p] iv (.inl (some (.inl (q_la (q_pl (q_zX (iv 155) (iv 161) (iv 157) (iv 158) (iv 159)).1 (iv 155) p (iv 160)) ((iv 155) 0))))) (pz_u1 (pz_u1 (pz_u1 (pz_u1 (pz_u1 (pz_u1 iv 154 (pz_up (q_zw (iv 155) (iv 161) (iv 157) (iv 158) (iv 159) (iv 154)) 0 0)) 155 (q_kpl (iv 155) (q_pl (q_zX (iv 155) (iv 161) (iv 157) (iv 158) (iv 159)).1 (iv 155) p (iv 160)) ((iv 155) 0))) 157 ((q_zX (iv 155) (iv 161) (iv 157) (iv 158) (iv 159)).2.2)) 158 ((q_zX (iv 155) (iv 161) (iv 157) (iv 158) (iv 159)).1)) 159 ((q_zX (iv 155) (iv 161) (iv 157) (iv 158) (iv 159)).2.1)) 160 (q_pl (q_zX (iv 155) (iv 161) (iv 157) (iv 158) (iv 159)).1 (iv 155) p (iv 160))) := by
  intro dv cc ss
  have hk0 := hk.r0
  have hfr := q_fl_r (v := (q_zX (iv 155) (iv 161) (iv 157) (iv 158) (iv 159)).1) (k := iv 155) (p := p) (a := iv 160)
  have hal9 : q_al (q_pl (q_zX (iv 155) (iv 161) (iv 157) (iv 158) (iv 159)).1 (iv 155) p (iv 160)) := q_pl_al hk
  refine pz_G_mem (iv2 := pz_u1 (pz_u1 (pz_u1 (pz_u1 (pz_u1 (pz_u1 iv 154 (iv 154)) 155 (iv 155)) 157 (iv 157)) 158 (iv 158)) 159 (iv 159)) 160 (iv 160)) (by exact ((((((pz_u1_self iv 154).symm).trans (pz_u1_self (pz_u1 iv 154 (iv 154)) 155).symm).trans (pz_u1_self (pz_u1 (pz_u1 iv 154 (iv 154)) 155 (iv 155)) 157).symm).trans (pz_u1_self (pz_u1 (pz_u1 (pz_u1 iv 154 (iv 154)) 155 (iv 155)) 157 (iv 157)) 158).symm).trans (pz_u1_self (pz_u1 (pz_u1 (pz_u1 (pz_u1 iv 154 (iv 154)) 155 (iv 155)) 157 (iv 157)) 158 (iv 158)) 159).symm).trans (pz_u1_self (pz_u1 (pz_u1 (pz_u1 (pz_u1 (pz_u1 iv 154 (iv 154)) 155 (iv 155)) 157 (iv 157)) 158 (iv 158)) 159 (iv 159)) 160).symm) ?_
  show pz_G 263 0 [some (.inr (.inl 154)), some (.inl p), none, none, none] [] (pz_Sh L, pz_u1 (pz_u1 (pz_u1 (pz_u1 (pz_u1 (pz_u1 iv 154 (iv 154)) 155 (iv 155)) 157 (iv 157)) 158 (iv 158)) 159 (iv 159)) 160 (iv 160), dv, cc, ss) (pz_P (pz_Sh L) (.inl (some (.inl (q_la (q_pl (q_zX (iv 155) (iv 161) (iv 157) (iv 158) (iv 159)).1 (iv 155) p (iv 160)) ((iv 155) 0))))) (pz_u1 (pz_u1 (pz_u1 (pz_u1 (pz_u1 (pz_u1 iv 154 (pz_up (q_zw (iv 155) (iv 161) (iv 157) (iv 158) (iv 159) (iv 154)) 0 0)) 155 (q_kpl (iv 155) (q_pl (q_zX (iv 155) (iv 161) (iv 157) (iv 158) (iv 159)).1 (iv 155) p (iv 160)) ((iv 155) 0))) 157 ((q_zX (iv 155) (iv 161) (iv 157) (iv 158) (iv 159)).2.2)) 158 ((q_zX (iv 155) (iv 161) (iv 157) (iv 158) (iv 159)).1)) 159 ((q_zX (iv 155) (iv 161) (iv 157) (iv 158) (iv 159)).2.1)) 160 (q_pl (q_zX (iv 155) (iv 161) (iv 157) (iv 158) (iv 159)).1 (iv 155) p (iv 160))) dv cc ss)
  refine pz_G_of pz_b263_0 ?_
  refine w_loc rfl ?_
  refine w_loc rfl ?_
  have hc1 : pz_R (pz_Sh L) 258 [.inr (.inl 154), .inl p] (pz_u1 (pz_u1 (pz_u1 (pz_u1 (pz_u1 (pz_u1 iv 154 (iv 154)) 155 (iv 155)) 157 (iv 157)) 158 (iv 158)) 159 (iv 159)) 160 (iv 160)) (.inl (some (.inl 0))) (pz_u1 (pz_u1 (pz_u1 (pz_u1 (pz_u1 (pz_u1 iv 154 (q_zw (iv 155) (iv 161) (iv 157) (iv 158) (iv 159) (iv 154))) 155 (iv 155)) 157 ((q_zX (iv 155) (iv 161) (iv 157) (iv 158) (iv 159)).2.2)) 158 ((q_zX (iv 155) (iv 161) (iv 157) (iv 158) (iv 159)).1)) 159 ((q_zX (iv 155) (iv 161) (iv 157) (iv 158) (iv 159)).2.1)) 160 (iv 160)) := pz_R_mem (s_X11_wrongPlay_0 p (by show q_KR (iv 155); exact hk) (by show 0 ≤ p ∧ p ≤ q_p2 (iv 155 2) - 1; first | assumption | omega) (by show ¬ (q_exi (fun i => 1 ≤ i ∧ q_sta (iv 155) i) ((iv 155) 0)); first | assumption | omega) (by show q_seen (iv 155) (iv 161) (iv 157) (iv 158) (iv 159); first | assumption | omega)) (by rw [pz_u1_in (r := 154) (q := 160) (by decide)]; rw [pz_u1_in (r := 154) (q := 159) (by decide)]; rw [pz_u1_in (r := 154) (q := 158) (by decide)]; rw [pz_u1_in (r := 154) (q := 157) (by decide)]; rw [pz_u1_in (r := 154) (q := 155) (by decide)]; rw [pz_u1_top (r := 154)]; rw [pz_u1_in (r := 157) (q := 160) (by decide)]; rw [pz_u1_in (r := 157) (q := 159) (by decide)]; rw [pz_u1_in (r := 157) (q := 158) (by decide)]; rw [pz_u1_top (r := 157)]; rw [pz_u1_in (r := 158) (q := 160) (by decide)]; rw [pz_u1_in (r := 158) (q := 159) (by decide)]; rw [pz_u1_top (r := 158)]; rw [pz_u1_in (r := 159) (q := 160) (by decide)]; rw [pz_u1_top (r := 159)]; rfl)
  refine w_call hc1 rfl (pz_cokI is_154 rfl) ?_
  refine w_loc (ls' := [some (.inr (.inl 154)), some (.inl p), some (.inl 0), none, none]) (st' := []) rfl ?_
  refine w_loc rfl ?_
  refine w_zle (fun h2 => ?_) (fun h2 => ?_)
  · first
    | (exfalso; first | omega | contradiction)
    | (refine pz_G_of pz_b263_16 ?_
       refine w_loc rfl ?_
       refine w_loc rfl ?_
       have hc3 : pz_R (pz_Sh L) 262 [.inr (.inl 154), .inl p] (pz_u1 (pz_u1 (pz_u1 (pz_u1 (pz_u1 (pz_u1 iv 154 (q_zw (iv 155) (iv 161) (iv 157) (iv 158) (iv 159) (iv 154))) 155 (iv 155)) 157 ((q_zX (iv 155) (iv 161) (iv 157) (iv 158) (iv 159)).2.2)) 158 ((q_zX (iv 155) (iv 161) (iv 157) (iv 158) (iv 159)).1)) 159 ((q_zX (iv 155) (iv 161) (iv 157) (iv 158) (iv 159)).2.1)) 160 (iv 160)) (.inl (some (.inl (q_fl ((q_zX (iv 155) (iv 161) (iv 157) (iv 158) (iv 159)).1) (iv 155) p (iv 160))))) (pz_u1 (pz_u1 (pz_u1 (pz_u1 (pz_u1 (pz_u1 iv 154 (q_zw (iv 155) (iv 161) (iv 157) (iv 158) (iv 159) (iv 154))) 155 (iv 155)) 157 ((q_zX (iv 155) (iv 161) (iv 157) (iv 158) (iv 159)).2.2)) 158 ((q_zX (iv 155) (iv 161) (iv 157) (iv 158) (iv 159)).1)) 159 ((q_zX (iv 155) (iv 161) (iv 157) (iv 158) (iv 159)).2.1)) 160 (q_pl ((q_zX (iv 155) (iv 161) (iv 157) (iv 158) (iv 159)).1) (iv 155) p (iv 160))) := pz_R_mem (s_X11_failureOf p (by show q_KR (iv 155); exact hk) (by show q_vl ((q_zX (iv 155) (iv 161) (iv 157) (iv 158) (iv 159)).1); exact q_zv_l hk hcase2)) (by rw [pz_u1_top (r := 160)]; rfl)
       refine w_call hc3 rfl (pz_cokI is_154 rfl) ?_
       refine w_pure rfl ?_
       refine w_ieq (fun h4 => ?_) (fun h4 => ?_)
       · first
         | (exfalso; first | omega | contradiction)
         | (refine pz_G_of pz_b263_32 ?_
            refine w_pure rfl ?_
            refine w_loc (ls' := [some (.inr (.inl 154)), some (.inl p), some (.inl 0), some (.inl 0), none]) (st' := []) rfl ?_
            refine w_loc rfl ?_
            refine w_getR (q := 155) is_154 rf_154_1 ?_
            refine w_pure rfl ?_
            refine w_loc rfl ?_
            refine w_getR (q := 155) is_154 rf_154_1 ?_
            refine w_pure rfl ?_
            refine w_iald (v := (iv 155) 0) is_155 ln_155 ⟨by omega, by omega⟩ rfl ?_
            refine w_iastm (iv2 := pz_u1 (pz_u1 (pz_u1 (pz_u1 (pz_u1 (pz_u1 iv 154 (q_zw (iv 155) (iv 161) (iv 157) (iv 158) (iv 159) (iv 154))) 155 (pz_up (iv 155) 240 ((iv 155) 0))) 157 ((q_zX (iv 155) (iv 161) (iv 157) (iv 158) (iv 159)).2.2)) 158 ((q_zX (iv 155) (iv 161) (iv 157) (iv 158) (iv 159)).1)) 159 ((q_zX (iv 155) (iv 161) (iv 157) (iv 158) (iv 159)).2.1)) 160 (q_pl ((q_zX (iv 155) (iv 161) (iv 157) (iv 158) (iv 159)).1) (iv 155) p (iv 160))) is_155 ln_155 ⟨by omega, by omega⟩ (by rw [pz_u2_in (r := 155) (q := 160) (by decide)]; rw [pz_u2_in (r := 155) (q := 159) (by decide)]; rw [pz_u2_in (r := 155) (q := 158) (by decide)]; rw [pz_u2_in (r := 155) (q := 157) (by decide)]; rw [pz_u2_top] <;> rfl) ?_
            refine w_pure rfl ?_
            refine w_loc (ls' := [some (.inr (.inl 154)), some (.inl p), some (.inl 0), some (.inl 0), some (.inl 0)]) (st' := []) rfl ?_
            refine w_nil ?_
            have lp51 : ∀ (dd : Nat) (x : Int) (e : Int) (f : Nat → Int) (u51_2 : Option pz_V) (hu51_2 : pz_nc u51_2 = true), (iv 155 0 - e).toNat = dd → ∀ (he : 0 ≤ e ∧ e ≤ iv 155 0), ∀ (hx : x = q_la (q_pl (q_zX (iv 155) (iv 161) (iv 157) (iv 158) (iv 159)).1 (iv 155) p (iv 160)) e), ∀ (hf : ∀ j : Nat, f j = q_kpl (iv 155) (q_pl (q_zX (iv 155) (iv 161) (iv 157) (iv 158) (iv 159)).1 (iv 155) p (iv 160)) e j),  pz_G 263 51 [some (.inr (.inl 154)), some (.inl p), u51_2, some (.inl x), some (.inl e)] [] (pz_Sh L, pz_u1 (pz_u1 (pz_u1 (pz_u1 (pz_u1 (pz_u1 iv 154 (q_zw (iv 155) (iv 161) (iv 157) (iv 158) (iv 159) (iv 154))) 155 f) 157 ((q_zX (iv 155) (iv 161) (iv 157) (iv 158) (iv 159)).2.2)) 158 ((q_zX (iv 155) (iv 161) (iv 157) (iv 158) (iv 159)).1)) 159 ((q_zX (iv 155) (iv 161) (iv 157) (iv 158) (iv 159)).2.1)) 160 (q_pl ((q_zX (iv 155) (iv 161) (iv 157) (iv 158) (iv 159)).1) (iv 155) p (iv 160)), dv, cc, ss) (pz_P (pz_Sh L) (.inl (some (.inl (q_la (q_pl (q_zX (iv 155) (iv 161) (iv 157) (iv 158) (iv 159)).1 (iv 155) p (iv 160)) ((iv 155) 0))))) (pz_u1 (pz_u1 (pz_u1 (pz_u1 (pz_u1 (pz_u1 iv 154 (pz_up (q_zw (iv 155) (iv 161) (iv 157) (iv 158) (iv 159) (iv 154)) 0 0)) 155 (q_kpl (iv 155) (q_pl (q_zX (iv 155) (iv 161) (iv 157) (iv 158) (iv 159)).1 (iv 155) p (iv 160)) ((iv 155) 0))) 157 ((q_zX (iv 155) (iv 161) (iv 157) (iv 158) (iv 159)).2.2)) 158 ((q_zX (iv 155) (iv 161) (iv 157) (iv 158) (iv 159)).1)) 159 ((q_zX (iv 155) (iv 161) (iv 157) (iv 158) (iv 159)).2.1)) 160 (q_pl (q_zX (iv 155) (iv 161) (iv 157) (iv 158) (iv 159)).1 (iv 155) p (iv 160))) dv cc ss) := by
              intro dd51
              induction dd51 using Nat.strongRecOn with
              | _ dd51 ih51 =>
              intro x e f u51_2 hu51_2 hd51 he hx hf
              have hf0 : f 0 = iv 155 0 := by
                rw [hf 0]; unfold q_kpl; rw [if_neg (by omega), if_neg (by omega)]
              have hal8 := fun h1 h2 => hal9 e h1 h2
              refine pz_G_of pz_b263_51 ?_
              refine w_loc rfl ?_
              refine w_loc rfl ?_
              refine w_getR (q := 155) is_154 rf_154_1 ?_
              refine w_pure rfl ?_
              refine w_iald (v := f 0) is_155 ln_155 ⟨by omega, by omega⟩ rfl ?_
              refine w_ige (fun h5 => ?_) (fun h5 => ?_)
              · first
                | (exfalso; first | omega | contradiction)
                | (have hf9 : f = q_kpl (iv 155) (q_pl (q_zX (iv 155) (iv 161) (iv 157) (iv 158) (iv 159)).1 (iv 155) p (iv 160)) (iv 155 0) := by
                     funext j
                     rw [hf j, show e = iv 155 0 by omega]
                   refine pz_G_of pz_b263_109 ?_
                   refine w_loc rfl ?_
                   refine w_loc rfl ?_
                   have hc6 : pz_R (pz_Sh L) 192 [.inr (.inl 154), .inl x] (pz_u1 (pz_u1 (pz_u1 (pz_u1 (pz_u1 (pz_u1 iv 154 (q_zw (iv 155) (iv 161) (iv 157) (iv 158) (iv 159) (iv 154))) 155 f) 157 ((q_zX (iv 155) (iv 161) (iv 157) (iv 158) (iv 159)).2.2)) 158 ((q_zX (iv 155) (iv 161) (iv 157) (iv 158) (iv 159)).1)) 159 ((q_zX (iv 155) (iv 161) (iv 157) (iv 158) (iv 159)).2.1)) 160 (q_pl ((q_zX (iv 155) (iv 161) (iv 157) (iv 158) (iv 159)).1) (iv 155) p (iv 160))) (.inl (some (.inl x))) (pz_u1 (pz_u1 (pz_u1 (pz_u1 (pz_u1 (pz_u1 iv 154 (pz_up (q_zw (iv 155) (iv 161) (iv 157) (iv 158) (iv 159) (iv 154)) 0 0)) 155 f) 157 ((q_zX (iv 155) (iv 161) (iv 157) (iv 158) (iv 159)).2.2)) 158 ((q_zX (iv 155) (iv 161) (iv 157) (iv 158) (iv 159)).1)) 159 ((q_zX (iv 155) (iv 161) (iv 157) (iv 158) (iv 159)).2.1)) 160 (q_pl ((q_zX (iv 155) (iv 161) (iv 157) (iv 158) (iv 159)).1) (iv 155) p (iv 160))) := pz_R_mem (s_X11_tells x) (by rw [pz_u1_in (r := 154) (q := 160) (by decide)]; rw [pz_u1_in (r := 154) (q := 159) (by decide)]; rw [pz_u1_in (r := 154) (q := 158) (by decide)]; rw [pz_u1_in (r := 154) (q := 157) (by decide)]; rw [pz_u1_in (r := 154) (q := 155) (by decide)]; rw [pz_u1_top (r := 154)]; rfl)
                   refine w_call hc6 rfl (pz_cokI is_154 rfl) ?_
                   refine w_ret rfl ?_
                   first | exact lf_i (by rw [hx, show e = iv 155 0 by omega]) (by rw [hf9]) | (exfalso; omega))
              · first
                | (exfalso; first | omega | contradiction)
                | (refine w_loc rfl ?_
                   refine w_getR (q := 155) is_154 rf_154_1 ?_
                   refine w_pure rfl ?_
                   refine w_loc rfl ?_
                   refine w_iadd (by omega) ?_
                   refine w_loc rfl ?_
                   refine w_getR (q := 160) is_154 rf_154_9 ?_
                   refine w_loc rfl ?_
                   refine w_iald (v := (q_pl ((q_zX (iv 155) (iv 161) (iv 157) (iv 158) (iv 159)).1) (iv 155) p (iv 160)) e.toNat) is_160 ln_160 ⟨by omega, by omega⟩ rfl ?_
                   refine w_iastm (iv2 := pz_u1 (pz_u1 (pz_u1 (pz_u1 (pz_u1 (pz_u1 iv 154 (q_zw (iv 155) (iv 161) (iv 157) (iv 158) (iv 159) (iv 154))) 155 (pz_up f (241 + e).toNat ((q_pl ((q_zX (iv 155) (iv 161) (iv 157) (iv 158) (iv 159)).1) (iv 155) p (iv 160)) e.toNat))) 157 ((q_zX (iv 155) (iv 161) (iv 157) (iv 158) (iv 159)).2.2)) 158 ((q_zX (iv 155) (iv 161) (iv 157) (iv 158) (iv 159)).1)) 159 ((q_zX (iv 155) (iv 161) (iv 157) (iv 158) (iv 159)).2.1)) 160 (q_pl ((q_zX (iv 155) (iv 161) (iv 157) (iv 158) (iv 159)).1) (iv 155) p (iv 160))) is_155 ln_155 ⟨by omega, by omega⟩ (by rw [pz_u2_in (r := 155) (q := 160) (by decide)]; rw [pz_u2_in (r := 155) (q := 159) (by decide)]; rw [pz_u2_in (r := 155) (q := 158) (by decide)]; rw [pz_u2_in (r := 155) (q := 157) (by decide)]; rw [pz_u2_top] <;> rfl) ?_
                   refine w_loc rfl ?_
                   refine w_getR (q := 160) is_154 rf_154_9 ?_
                   refine w_loc rfl ?_
                   refine w_iald (v := (q_pl ((q_zX (iv 155) (iv 161) (iv 157) (iv 158) (iv 159)).1) (iv 155) p (iv 160)) e.toNat) is_160 ln_160 ⟨by omega, by omega⟩ rfl ?_
                   refine w_loc rfl ?_
                   refine w_ile (fun h7 => ?_) (fun h7 => ?_)
                   · first
                     | (exfalso; first | omega | contradiction)
                     | (refine pz_G_of pz_b263_101 ?_
                        refine w_loc rfl ?_
                        refine w_nil ?_
                        refine pz_G_of pz_b263_102 ?_
                        refine w_st (lc' := [some (.inr (.inl 154)), some (.inl p), u51_2, some (.inl x), some (.inl e)]) rfl rfl rfl (Nat.le_of_ble_eq_true rfl) (pz_np_u rfl hu51_2) rfl ?_
                        refine w_iinc (ls' := [some (.inr (.inl 154)), some (.inl p), u51_2, some (.inl x), some (.inl (e + 1))]) rfl rfl rfl (by omega) ?_
                        refine w_goto ?_
                        exact ih51 _ (by omega) x (e + 1) (pz_up f (241 + e).toNat ((q_pl ((q_zX (iv 155) (iv 161) (iv 157) (iv 158) (iv 159)).1) (iv 155) p (iv 160)) e.toNat)) u51_2 hu51_2 rfl (by omega) (by unfold q_la; rw [q_fr_s (by omega)]; rw [show q_fr (q_laS (q_pl (q_zX (iv 155) (iv 161) (iv 157) (iv 158) (iv 159)).1 (iv 155) p (iv 160))) 0 e 0 = x from hx.symm]; unfold q_laS; first | rw [q_if_t (by omega)] | rw [q_if_f (by omega)]) (by intro j; rw [pz_up_at, hf j]; unfold q_kpl; (repeat' split) <;> first | rfl | omega | (congr 1; omega)))
                   · first
                     | (exfalso; first | omega | contradiction)
                     | (refine w_loc rfl ?_
                        refine w_getR (q := 160) is_154 rf_154_9 ?_
                        refine w_loc rfl ?_
                        refine w_iald (v := (q_pl ((q_zX (iv 155) (iv 161) (iv 157) (iv 158) (iv 159)).1) (iv 155) p (iv 160)) e.toNat) is_160 ln_160 ⟨by omega, by omega⟩ rfl ?_
                        refine w_goto ?_
                        refine pz_G_of pz_b263_102 ?_
                        refine w_st (lc' := [some (.inr (.inl 154)), some (.inl p), u51_2, some (.inl ((q_pl ((q_zX (iv 155) (iv 161) (iv 157) (iv 158) (iv 159)).1) (iv 155) p (iv 160)) e.toNat)), some (.inl e)]) rfl rfl rfl (Nat.le_of_ble_eq_true rfl) (pz_np_u rfl hu51_2) rfl ?_
                        refine w_iinc (ls' := [some (.inr (.inl 154)), some (.inl p), u51_2, some (.inl ((q_pl ((q_zX (iv 155) (iv 161) (iv 157) (iv 158) (iv 159)).1) (iv 155) p (iv 160)) e.toNat)), some (.inl (e + 1))]) rfl rfl rfl (by omega) ?_
                        refine w_goto ?_
                        exact ih51 _ (by omega) ((q_pl ((q_zX (iv 155) (iv 161) (iv 157) (iv 158) (iv 159)).1) (iv 155) p (iv 160)) e.toNat) (e + 1) (pz_up f (241 + e).toNat ((q_pl ((q_zX (iv 155) (iv 161) (iv 157) (iv 158) (iv 159)).1) (iv 155) p (iv 160)) e.toNat)) u51_2 hu51_2 rfl (by omega) (by unfold q_la; rw [q_fr_s (by omega)]; rw [show q_fr (q_laS (q_pl (q_zX (iv 155) (iv 161) (iv 157) (iv 158) (iv 159)).1 (iv 155) p (iv 160))) 0 e 0 = x from hx.symm]; unfold q_laS; first | rw [q_if_t (by omega)] | rw [q_if_f (by omega)]) (by intro j; rw [pz_up_at, hf j]; unfold q_kpl; (repeat' split) <;> first | rfl | omega | (congr 1; omega))))
            exact lp51 _ 0 0 (pz_up (iv 155) 240 ((iv 155) 0)) (some (.inl 0)) rfl rfl (by omega) (by unfold q_la; rw [q_fr_0 (by omega)]) (by intro j; rw [pz_up_at]; unfold q_kpl; (repeat' split) <;> first | rfl | omega))
       · first
         | (exfalso; first | omega | contradiction)
         | (refine w_loc rfl ?_
            refine w_pure rfl ?_
            have hc8 : pz_R (pz_Sh L) 191 [.inr (.inl 154), .inl 3] (pz_u1 (pz_u1 (pz_u1 (pz_u1 (pz_u1 (pz_u1 iv 154 (q_zw (iv 155) (iv 161) (iv 157) (iv 158) (iv 159) (iv 154))) 155 (iv 155)) 157 ((q_zX (iv 155) (iv 161) (iv 157) (iv 158) (iv 159)).2.2)) 158 ((q_zX (iv 155) (iv 161) (iv 157) (iv 158) (iv 159)).1)) 159 ((q_zX (iv 155) (iv 161) (iv 157) (iv 158) (iv 159)).2.1)) 160 (q_pl ((q_zX (iv 155) (iv 161) (iv 157) (iv 158) (iv 159)).1) (iv 155) p (iv 160))) (.inl (some (.inl 0))) (pz_u1 (pz_u1 (pz_u1 (pz_u1 (pz_u1 (pz_u1 iv 154 (pz_up (q_zw (iv 155) (iv 161) (iv 157) (iv 158) (iv 159) (iv 154)) 0 3)) 155 (iv 155)) 157 ((q_zX (iv 155) (iv 161) (iv 157) (iv 158) (iv 159)).2.2)) 158 ((q_zX (iv 155) (iv 161) (iv 157) (iv 158) (iv 159)).1)) 159 ((q_zX (iv 155) (iv 161) (iv 157) (iv 158) (iv 159)).2.1)) 160 (q_pl ((q_zX (iv 155) (iv 161) (iv 157) (iv 158) (iv 159)).1) (iv 155) p (iv 160))) := pz_R_mem (s_X11_fails 3) (by rw [pz_u1_in (r := 154) (q := 160) (by decide)]; rw [pz_u1_in (r := 154) (q := 159) (by decide)]; rw [pz_u1_in (r := 154) (q := 158) (by decide)]; rw [pz_u1_in (r := 154) (q := 157) (by decide)]; rw [pz_u1_in (r := 154) (q := 155) (by decide)]; rw [pz_u1_top (r := 154)]; rfl)
            refine w_call hc8 rfl (pz_cokI is_154 rfl) ?_
            refine w_ret rfl ?_
            first | exact lf_i (by rw [hx, show e = iv 155 0 by omega]) (by rw [hf9]) | (exfalso; omega)))
  · first
    | (exfalso; first | omega | contradiction)
    | (refine w_loc rfl ?_
       refine w_loc rfl ?_
       have hc9 : pz_R (pz_Sh L) 191 [.inr (.inl 154), .inl 0] (pz_u1 (pz_u1 (pz_u1 (pz_u1 (pz_u1 (pz_u1 iv 154 (q_zw (iv 155) (iv 161) (iv 157) (iv 158) (iv 159) (iv 154))) 155 (iv 155)) 157 ((q_zX (iv 155) (iv 161) (iv 157) (iv 158) (iv 159)).2.2)) 158 ((q_zX (iv 155) (iv 161) (iv 157) (iv 158) (iv 159)).1)) 159 ((q_zX (iv 155) (iv 161) (iv 157) (iv 158) (iv 159)).2.1)) 160 (iv 160)) (.inl (some (.inl 0))) (pz_u1 (pz_u1 (pz_u1 (pz_u1 (pz_u1 (pz_u1 iv 154 (pz_up (q_zw (iv 155) (iv 161) (iv 157) (iv 158) (iv 159) (iv 154)) 0 0)) 155 (iv 155)) 157 ((q_zX (iv 155) (iv 161) (iv 157) (iv 158) (iv 159)).2.2)) 158 ((q_zX (iv 155) (iv 161) (iv 157) (iv 158) (iv 159)).1)) 159 ((q_zX (iv 155) (iv 161) (iv 157) (iv 158) (iv 159)).2.1)) 160 (iv 160)) := pz_R_mem (s_X11_fails 0) (by rw [pz_u1_in (r := 154) (q := 160) (by decide)]; rw [pz_u1_in (r := 154) (q := 159) (by decide)]; rw [pz_u1_in (r := 154) (q := 158) (by decide)]; rw [pz_u1_in (r := 154) (q := 157) (by decide)]; rw [pz_u1_in (r := 154) (q := 155) (by decide)]; rw [pz_u1_top (r := 154)]; rfl)
       refine w_call hc9 rfl (pz_cokI is_154 rfl) ?_
       refine w_ret rfl ?_
       first | exact lf_i (by rw [hx, show e = iv 155 0 by omega]) (by rw [hf9]) | (exfalso; omega))

theorem s_X11_isKept_1a {L : Nat} {iv : Nat → Nat → Int} (hk : q_KR (iv 155)) (hcase0 : q_exi (fun i => 1 ≤ i ∧ q_sta (iv 155) i) ((iv 155) 0)) : pz_R (pz_Sh L) 266 [.inr (.inl 154)] iv (.inl (some (.inl (pz_bi (False))))) (pz_u1 (pz_u1 (pz_u1 (pz_u1 (pz_u1 iv 154 (pz_up (q_zw (iv 155) (iv 161) (iv 157) (iv 158) (iv 159) (iv 154)) 0 1)) 157 ((q_zX (iv 155) (iv 161) (iv 157) (iv 158) (iv 159)).2.2)) 158 ((q_zX (iv 155) (iv 161) (iv 157) (iv 158) (iv 159)).1)) 159 ((q_zX (iv 155) (iv 161) (iv 157) (iv 158) (iv 159)).2.1)) 160 (iv 160)) := by
  intro dv cc ss
  have hk0 := hk.r0
  have hsh := q_shl_p2 (a := iv 155 2) (by omega) (by omega)
  have hp2 := q_p2_r (a := iv 155 2) (by omega) (by omega)
  refine pz_G_mem (iv2 := pz_u1 (pz_u1 (pz_u1 (pz_u1 (pz_u1 iv 154 (iv 154)) 157 (iv 157)) 158 (iv 158)) 159 (iv 159)) 160 (iv 160)) (by exact (((((pz_u1_self iv 154).symm).trans (pz_u1_self (pz_u1 iv 154 (iv 154)) 157).symm).trans (pz_u1_self (pz_u1 (pz_u1 iv 154 (iv 154)) 157 (iv 157)) 158).symm).trans (pz_u1_self (pz_u1 (pz_u1 (pz_u1 iv 154 (iv 154)) 157 (iv 157)) 158 (iv 158)) 159).symm).trans (pz_u1_self (pz_u1 (pz_u1 (pz_u1 (pz_u1 iv 154 (iv 154)) 157 (iv 157)) 158 (iv 158)) 159 (iv 159)) 160).symm) ?_
  show pz_G 266 0 [some (.inr (.inl 154)), none, none, none] [] (pz_Sh L, pz_u1 (pz_u1 (pz_u1 (pz_u1 (pz_u1 iv 154 (iv 154)) 157 (iv 157)) 158 (iv 158)) 159 (iv 159)) 160 (iv 160), dv, cc, ss) (pz_P (pz_Sh L) (.inl (some (.inl (pz_bi (False))))) (pz_u1 (pz_u1 (pz_u1 (pz_u1 (pz_u1 iv 154 (pz_up (q_zw (iv 155) (iv 161) (iv 157) (iv 158) (iv 159) (iv 154)) 0 1)) 157 ((q_zX (iv 155) (iv 161) (iv 157) (iv 158) (iv 159)).2.2)) 158 ((q_zX (iv 155) (iv 161) (iv 157) (iv 158) (iv 159)).1)) 159 ((q_zX (iv 155) (iv 161) (iv 157) (iv 158) (iv 159)).2.1)) 160 (iv 160)) dv cc ss)
  refine pz_G_of pz_b266_0 ?_
  refine w_loc rfl ?_
  refine w_pure rfl ?_
  have hc1 : pz_R (pz_Sh L) 258 [.inr (.inl 154), .inl 0] (pz_u1 (pz_u1 (pz_u1 (pz_u1 (pz_u1 iv 154 (iv 154)) 157 (iv 157)) 158 (iv 158)) 159 (iv 159)) 160 (iv 160)) (.inl (some (.inl 2))) (pz_u1 (pz_u1 (pz_u1 (pz_u1 (pz_u1 iv 154 (q_zw (iv 155) (iv 161) (iv 157) (iv 158) (iv 159) (iv 154))) 157 ((q_zX (iv 155) (iv 161) (iv 157) (iv 158) (iv 159)).2.2)) 158 ((q_zX (iv 155) (iv 161) (iv 157) (iv 158) (iv 159)).1)) 159 ((q_zX (iv 155) (iv 161) (iv 157) (iv 158) (iv 159)).2.1)) 160 (iv 160)) := pz_R_mem (s_X11_wrongPlay_2a 0 (by show q_KR (iv 155); exact hk) (by show 0 ≤ (0 : Int) ∧ (0 : Int) ≤ q_p2 (iv 155 2) - 1; first | assumption | omega) (by show q_exi (fun i => 1 ≤ i ∧ q_sta (iv 155) i) ((iv 155) 0); assumption)) (by rw [pz_u1_in (r := 154) (q := 160) (by decide)]; rw [pz_u1_in (r := 154) (q := 159) (by decide)]; rw [pz_u1_in (r := 154) (q := 158) (by decide)]; rw [pz_u1_in (r := 154) (q := 157) (by decide)]; rw [pz_u1_top (r := 154)]; rw [pz_u1_in (r := 157) (q := 160) (by decide)]; rw [pz_u1_in (r := 157) (q := 159) (by decide)]; rw [pz_u1_in (r := 157) (q := 158) (by decide)]; rw [pz_u1_top (r := 157)]; rw [pz_u1_in (r := 158) (q := 160) (by decide)]; rw [pz_u1_in (r := 158) (q := 159) (by decide)]; rw [pz_u1_top (r := 158)]; rw [pz_u1_in (r := 159) (q := 160) (by decide)]; rw [pz_u1_top (r := 159)]; rfl)
  refine w_call hc1 rfl (pz_cokI is_154 rfl) ?_
  refine w_loc (ls' := [some (.inr (.inl 154)), some (.inl 2), none, none]) (st' := []) rfl ?_
  refine w_loc rfl ?_
  refine w_zle (fun h2 => ?_) (fun h2 => ?_)
  · first
    | (exfalso; first | omega | contradiction)
    | (exfalso; first | omega | contradiction)
  · first
    | (exfalso; first | omega | contradiction)
    | (refine w_loc rfl ?_
       refine w_pure rfl ?_
       refine w_pure rfl ?_
       have hc3 : pz_R (pz_Sh L) 193 [.inr (.inl 154), .inl 1, .inl 0] (pz_u1 (pz_u1 (pz_u1 (pz_u1 (pz_u1 iv 154 (q_zw (iv 155) (iv 161) (iv 157) (iv 158) (iv 159) (iv 154))) 157 ((q_zX (iv 155) (iv 161) (iv 157) (iv 158) (iv 159)).2.2)) 158 ((q_zX (iv 155) (iv 161) (iv 157) (iv 158) (iv 159)).1)) 159 ((q_zX (iv 155) (iv 161) (iv 157) (iv 158) (iv 159)).2.1)) 160 (iv 160)) (.inl (some (.inl (pz_bi ((1 : Int) = 0 ∧ (0 : Int) = 1))))) (pz_u1 (pz_u1 (pz_u1 (pz_u1 (pz_u1 iv 154 (pz_up (q_zw (iv 155) (iv 161) (iv 157) (iv 158) (iv 159) (iv 154)) 0 1)) 157 ((q_zX (iv 155) (iv 161) (iv 157) (iv 158) (iv 159)).2.2)) 158 ((q_zX (iv 155) (iv 161) (iv 157) (iv 158) (iv 159)).1)) 159 ((q_zX (iv 155) (iv 161) (iv 157) (iv 158) (iv 159)).2.1)) 160 (iv 160)) := pz_R_mem (s_X11_asks 1 0 (by show 0 = 0 ∨ 0 = 1; omega)) (by rw [pz_u1_in (r := 154) (q := 160) (by decide)]; rw [pz_u1_in (r := 154) (q := 159) (by decide)]; rw [pz_u1_in (r := 154) (q := 158) (by decide)]; rw [pz_u1_in (r := 154) (q := 157) (by decide)]; rw [pz_u1_top (r := 154)]; rfl)
       refine w_call hc3 rfl (pz_cokI is_154 rfl) ?_
       refine w_ret (pz_rok1 (pz_bi01 _)) ?_
       exact lf_i (pz_bi_iff ⟨fun h => absurd h.1 (by decide), False.elim⟩) rfl)

theorem s_X11_isKept_1b {L : Nat} {iv : Nat → Nat → Int} (hk : q_KR (iv 155)) (hcase0 : ¬ (q_exi (fun i => 1 ≤ i ∧ q_sta (iv 155) i) ((iv 155) 0))) (hcase1 : ¬ q_seen (iv 155) (iv 161) (iv 157) (iv 158) (iv 159)) : pz_R (pz_Sh L) 266 [.inr (.inl 154)] iv (.inl (some (.inl (pz_bi (False))))) (pz_u1 (pz_u1 (pz_u1 (pz_u1 (pz_u1 iv 154 (pz_up (q_zw (iv 155) (iv 161) (iv 157) (iv 158) (iv 159) (iv 154)) 0 1)) 157 ((q_zX (iv 155) (iv 161) (iv 157) (iv 158) (iv 159)).2.2)) 158 ((q_zX (iv 155) (iv 161) (iv 157) (iv 158) (iv 159)).1)) 159 ((q_zX (iv 155) (iv 161) (iv 157) (iv 158) (iv 159)).2.1)) 160 (iv 160)) := by
  intro dv cc ss
  have hk0 := hk.r0
  have hsh := q_shl_p2 (a := iv 155 2) (by omega) (by omega)
  have hp2 := q_p2_r (a := iv 155 2) (by omega) (by omega)
  refine pz_G_mem (iv2 := pz_u1 (pz_u1 (pz_u1 (pz_u1 (pz_u1 iv 154 (iv 154)) 157 (iv 157)) 158 (iv 158)) 159 (iv 159)) 160 (iv 160)) (by exact (((((pz_u1_self iv 154).symm).trans (pz_u1_self (pz_u1 iv 154 (iv 154)) 157).symm).trans (pz_u1_self (pz_u1 (pz_u1 iv 154 (iv 154)) 157 (iv 157)) 158).symm).trans (pz_u1_self (pz_u1 (pz_u1 (pz_u1 iv 154 (iv 154)) 157 (iv 157)) 158 (iv 158)) 159).symm).trans (pz_u1_self (pz_u1 (pz_u1 (pz_u1 (pz_u1 iv 154 (iv 154)) 157 (iv 157)) 158 (iv 158)) 159 (iv 159)) 160).symm) ?_
  show pz_G 266 0 [some (.inr (.inl 154)), none, none, none] [] (pz_Sh L, pz_u1 (pz_u1 (pz_u1 (pz_u1 (pz_u1 iv 154 (iv 154)) 157 (iv 157)) 158 (iv 158)) 159 (iv 159)) 160 (iv 160), dv, cc, ss) (pz_P (pz_Sh L) (.inl (some (.inl (pz_bi (False))))) (pz_u1 (pz_u1 (pz_u1 (pz_u1 (pz_u1 iv 154 (pz_up (q_zw (iv 155) (iv 161) (iv 157) (iv 158) (iv 159) (iv 154)) 0 1)) 157 ((q_zX (iv 155) (iv 161) (iv 157) (iv 158) (iv 159)).2.2)) 158 ((q_zX (iv 155) (iv 161) (iv 157) (iv 158) (iv 159)).1)) 159 ((q_zX (iv 155) (iv 161) (iv 157) (iv 158) (iv 159)).2.1)) 160 (iv 160)) dv cc ss)
  refine pz_G_of pz_b266_0 ?_
  refine w_loc rfl ?_
  refine w_pure rfl ?_
  have hc1 : pz_R (pz_Sh L) 258 [.inr (.inl 154), .inl 0] (pz_u1 (pz_u1 (pz_u1 (pz_u1 (pz_u1 iv 154 (iv 154)) 157 (iv 157)) 158 (iv 158)) 159 (iv 159)) 160 (iv 160)) (.inl (some (.inl 2))) (pz_u1 (pz_u1 (pz_u1 (pz_u1 (pz_u1 iv 154 (q_zw (iv 155) (iv 161) (iv 157) (iv 158) (iv 159) (iv 154))) 157 ((q_zX (iv 155) (iv 161) (iv 157) (iv 158) (iv 159)).2.2)) 158 ((q_zX (iv 155) (iv 161) (iv 157) (iv 158) (iv 159)).1)) 159 ((q_zX (iv 155) (iv 161) (iv 157) (iv 158) (iv 159)).2.1)) 160 (iv 160)) := pz_R_mem (s_X11_wrongPlay_2b 0 (by show q_KR (iv 155); exact hk) (by show 0 ≤ (0 : Int) ∧ (0 : Int) ≤ q_p2 (iv 155 2) - 1; first | assumption | omega) (by show ¬ (q_exi (fun i => 1 ≤ i ∧ q_sta (iv 155) i) ((iv 155) 0)); assumption) (by show ¬ q_seen (iv 155) (iv 161) (iv 157) (iv 158) (iv 159); assumption)) (by rw [pz_u1_in (r := 154) (q := 160) (by decide)]; rw [pz_u1_in (r := 154) (q := 159) (by decide)]; rw [pz_u1_in (r := 154) (q := 158) (by decide)]; rw [pz_u1_in (r := 154) (q := 157) (by decide)]; rw [pz_u1_top (r := 154)]; rw [pz_u1_in (r := 157) (q := 160) (by decide)]; rw [pz_u1_in (r := 157) (q := 159) (by decide)]; rw [pz_u1_in (r := 157) (q := 158) (by decide)]; rw [pz_u1_top (r := 157)]; rw [pz_u1_in (r := 158) (q := 160) (by decide)]; rw [pz_u1_in (r := 158) (q := 159) (by decide)]; rw [pz_u1_top (r := 158)]; rw [pz_u1_in (r := 159) (q := 160) (by decide)]; rw [pz_u1_top (r := 159)]; rfl)
  refine w_call hc1 rfl (pz_cokI is_154 rfl) ?_
  refine w_loc (ls' := [some (.inr (.inl 154)), some (.inl 2), none, none]) (st' := []) rfl ?_
  refine w_loc rfl ?_
  refine w_zle (fun h2 => ?_) (fun h2 => ?_)
  · first
    | (exfalso; first | omega | contradiction)
    | (exfalso; first | omega | contradiction)
  · first
    | (exfalso; first | omega | contradiction)
    | (refine w_loc rfl ?_
       refine w_pure rfl ?_
       refine w_pure rfl ?_
       have hc3 : pz_R (pz_Sh L) 193 [.inr (.inl 154), .inl 1, .inl 0] (pz_u1 (pz_u1 (pz_u1 (pz_u1 (pz_u1 iv 154 (q_zw (iv 155) (iv 161) (iv 157) (iv 158) (iv 159) (iv 154))) 157 ((q_zX (iv 155) (iv 161) (iv 157) (iv 158) (iv 159)).2.2)) 158 ((q_zX (iv 155) (iv 161) (iv 157) (iv 158) (iv 159)).1)) 159 ((q_zX (iv 155) (iv 161) (iv 157) (iv 158) (iv 159)).2.1)) 160 (iv 160)) (.inl (some (.inl (pz_bi ((1 : Int) = 0 ∧ (0 : Int) = 1))))) (pz_u1 (pz_u1 (pz_u1 (pz_u1 (pz_u1 iv 154 (pz_up (q_zw (iv 155) (iv 161) (iv 157) (iv 158) (iv 159) (iv 154)) 0 1)) 157 ((q_zX (iv 155) (iv 161) (iv 157) (iv 158) (iv 159)).2.2)) 158 ((q_zX (iv 155) (iv 161) (iv 157) (iv 158) (iv 159)).1)) 159 ((q_zX (iv 155) (iv 161) (iv 157) (iv 158) (iv 159)).2.1)) 160 (iv 160)) := pz_R_mem (s_X11_asks 1 0 (by show 0 = 0 ∨ 0 = 1; omega)) (by rw [pz_u1_in (r := 154) (q := 160) (by decide)]; rw [pz_u1_in (r := 154) (q := 159) (by decide)]; rw [pz_u1_in (r := 154) (q := 158) (by decide)]; rw [pz_u1_in (r := 154) (q := 157) (by decide)]; rw [pz_u1_top (r := 154)]; rfl)
       refine w_call hc3 rfl (pz_cokI is_154 rfl) ?_
       refine w_ret (pz_rok1 (pz_bi01 _)) ?_
       exact lf_i (pz_bi_iff ⟨fun h => absurd h.1 (by decide), False.elim⟩) rfl)

theorem s_X11_isKept_0 {L : Nat} {iv : Nat → Nat → Int} (hk : q_KR (iv 155)) (hcase0 : ¬ (q_exi (fun i => 1 ≤ i ∧ q_sta (iv 155) i) ((iv 155) 0))) (hcase1 : q_seen (iv 155) (iv 161) (iv 157) (iv 158) (iv 159)) : pz_R (pz_Sh L) 266 [.inr (.inl 154)] iv (.inl (some (.inl (pz_bi (q_all (q_ikP (q_zX (iv 155) (iv 161) (iv 157) (iv 158) (iv 159)).1 (iv 155) (iv 160)) (q_p2 ((iv 155) 2))))))) (pz_u1 (pz_u1 (pz_u1 (pz_u1 (pz_u1 iv 154 (pz_up (q_zw (iv 155) (iv 161) (iv 157) (iv 158) (iv 159) (iv 154)) 0 0)) 157 ((q_zX (iv 155) (iv 161) (iv 157) (iv 158) (iv 159)).2.2)) 158 ((q_zX (iv 155) (iv 161) (iv 157) (iv 158) (iv 159)).1)) 159 ((q_zX (iv 155) (iv 161) (iv 157) (iv 158) (iv 159)).2.1)) 160 (q_kpI (q_zX (iv 155) (iv 161) (iv 157) (iv 158) (iv 159)).1 (iv 155) (q_p2 ((iv 155) 2)) (iv 160))) := by
  intro dv cc ss
  have hk0 := hk.r0
  have hsh := q_shl_p2 (a := iv 155 2) (by omega) (by omega)
  have hp2 := q_p2_r (a := iv 155 2) (by omega) (by omega)
  refine pz_G_mem (iv2 := pz_u1 (pz_u1 (pz_u1 (pz_u1 (pz_u1 iv 154 (iv 154)) 157 (iv 157)) 158 (iv 158)) 159 (iv 159)) 160 (iv 160)) (by exact (((((pz_u1_self iv 154).symm).trans (pz_u1_self (pz_u1 iv 154 (iv 154)) 157).symm).trans (pz_u1_self (pz_u1 (pz_u1 iv 154 (iv 154)) 157 (iv 157)) 158).symm).trans (pz_u1_self (pz_u1 (pz_u1 (pz_u1 iv 154 (iv 154)) 157 (iv 157)) 158 (iv 158)) 159).symm).trans (pz_u1_self (pz_u1 (pz_u1 (pz_u1 (pz_u1 iv 154 (iv 154)) 157 (iv 157)) 158 (iv 158)) 159 (iv 159)) 160).symm) ?_
  show pz_G 266 0 [some (.inr (.inl 154)), none, none, none] [] (pz_Sh L, pz_u1 (pz_u1 (pz_u1 (pz_u1 (pz_u1 iv 154 (iv 154)) 157 (iv 157)) 158 (iv 158)) 159 (iv 159)) 160 (iv 160), dv, cc, ss) (pz_P (pz_Sh L) (.inl (some (.inl (pz_bi (q_all (q_ikP (q_zX (iv 155) (iv 161) (iv 157) (iv 158) (iv 159)).1 (iv 155) (iv 160)) (q_p2 ((iv 155) 2))))))) (pz_u1 (pz_u1 (pz_u1 (pz_u1 (pz_u1 iv 154 (pz_up (q_zw (iv 155) (iv 161) (iv 157) (iv 158) (iv 159) (iv 154)) 0 0)) 157 ((q_zX (iv 155) (iv 161) (iv 157) (iv 158) (iv 159)).2.2)) 158 ((q_zX (iv 155) (iv 161) (iv 157) (iv 158) (iv 159)).1)) 159 ((q_zX (iv 155) (iv 161) (iv 157) (iv 158) (iv 159)).2.1)) 160 (q_kpI (q_zX (iv 155) (iv 161) (iv 157) (iv 158) (iv 159)).1 (iv 155) (q_p2 ((iv 155) 2)) (iv 160))) dv cc ss)
  refine pz_G_of pz_b266_0 ?_
  refine w_loc rfl ?_
  refine w_pure rfl ?_
  have hc1 : pz_R (pz_Sh L) 258 [.inr (.inl 154), .inl 0] (pz_u1 (pz_u1 (pz_u1 (pz_u1 (pz_u1 iv 154 (iv 154)) 157 (iv 157)) 158 (iv 158)) 159 (iv 159)) 160 (iv 160)) (.inl (some (.inl 0))) (pz_u1 (pz_u1 (pz_u1 (pz_u1 (pz_u1 iv 154 (q_zw (iv 155) (iv 161) (iv 157) (iv 158) (iv 159) (iv 154))) 157 ((q_zX (iv 155) (iv 161) (iv 157) (iv 158) (iv 159)).2.2)) 158 ((q_zX (iv 155) (iv 161) (iv 157) (iv 158) (iv 159)).1)) 159 ((q_zX (iv 155) (iv 161) (iv 157) (iv 158) (iv 159)).2.1)) 160 (iv 160)) := pz_R_mem (s_X11_wrongPlay_0 0 (by show q_KR (iv 155); exact hk) (by show 0 ≤ (0 : Int) ∧ (0 : Int) ≤ q_p2 (iv 155 2) - 1; first | assumption | omega) (by show ¬ (q_exi (fun i => 1 ≤ i ∧ q_sta (iv 155) i) ((iv 155) 0)); assumption) (by show q_seen (iv 155) (iv 161) (iv 157) (iv 158) (iv 159); assumption)) (by rw [pz_u1_in (r := 154) (q := 160) (by decide)]; rw [pz_u1_in (r := 154) (q := 159) (by decide)]; rw [pz_u1_in (r := 154) (q := 158) (by decide)]; rw [pz_u1_in (r := 154) (q := 157) (by decide)]; rw [pz_u1_top (r := 154)]; rw [pz_u1_in (r := 157) (q := 160) (by decide)]; rw [pz_u1_in (r := 157) (q := 159) (by decide)]; rw [pz_u1_in (r := 157) (q := 158) (by decide)]; rw [pz_u1_top (r := 157)]; rw [pz_u1_in (r := 158) (q := 160) (by decide)]; rw [pz_u1_in (r := 158) (q := 159) (by decide)]; rw [pz_u1_top (r := 158)]; rw [pz_u1_in (r := 159) (q := 160) (by decide)]; rw [pz_u1_top (r := 159)]; rfl)
  refine w_call hc1 rfl (pz_cokI is_154 rfl) ?_
  refine w_loc (ls' := [some (.inr (.inl 154)), some (.inl 0), none, none]) (st' := []) rfl ?_
  refine w_loc rfl ?_
  refine w_zle (fun h2 => ?_) (fun h2 => ?_)
  · first
    | (exfalso; first | omega | contradiction)
    | (refine pz_G_of pz_b266_17 ?_
       refine w_pure rfl ?_
       refine w_loc (ls' := [some (.inr (.inl 154)), some (.inl 0), some (.inl 1), none]) (st' := []) rfl ?_
       refine w_pure rfl ?_
       refine w_loc (ls' := [some (.inr (.inl 154)), some (.inl 0), some (.inl 1), some (.inl 0)]) (st' := []) rfl ?_
       refine w_nil ?_
       have lp21 : ∀ (dd : Nat) (y : Int) (p : Int) (a : Nat → Int) (u21_1 : Option pz_V) (hu21_1 : pz_nc u21_1 = true), (q_p2 (iv 155 2) - p).toNat = dd → ∀ (hp : 0 ≤ p ∧ p ≤ q_p2 (iv 155 2)), ∀ (hy : y = pz_bi (q_all (q_ikP (q_zX (iv 155) (iv 161) (iv 157) (iv 158) (iv 159)).1 (iv 155) (iv 160)) p)), ∀ (ha : a = q_kpI (q_zX (iv 155) (iv 161) (iv 157) (iv 158) (iv 159)).1 (iv 155) p (iv 160)),  pz_G 266 21 [some (.inr (.inl 154)), u21_1, some (.inl y), some (.inl p)] [] (pz_Sh L, pz_u1 (pz_u1 (pz_u1 (pz_u1 (pz_u1 iv 154 (q_zw (iv 155) (iv 161) (iv 157) (iv 158) (iv 159) (iv 154))) 157 ((q_zX (iv 155) (iv 161) (iv 157) (iv 158) (iv 159)).2.2)) 158 ((q_zX (iv 155) (iv 161) (iv 157) (iv 158) (iv 159)).1)) 159 ((q_zX (iv 155) (iv 161) (iv 157) (iv 158) (iv 159)).2.1)) 160 a, dv, cc, ss) (pz_P (pz_Sh L) (.inl (some (.inl (pz_bi (q_all (q_ikP (q_zX (iv 155) (iv 161) (iv 157) (iv 158) (iv 159)).1 (iv 155) (iv 160)) (q_p2 ((iv 155) 2))))))) (pz_u1 (pz_u1 (pz_u1 (pz_u1 (pz_u1 iv 154 (pz_up (q_zw (iv 155) (iv 161) (iv 157) (iv 158) (iv 159) (iv 154)) 0 0)) 157 ((q_zX (iv 155) (iv 161) (iv 157) (iv 158) (iv 159)).2.2)) 158 ((q_zX (iv 155) (iv 161) (iv 157) (iv 158) (iv 159)).1)) 159 ((q_zX (iv 155) (iv 161) (iv 157) (iv 158) (iv 159)).2.1)) 160 (q_kpI (q_zX (iv 155) (iv 161) (iv 157) (iv 158) (iv 159)).1 (iv 155) (q_p2 ((iv 155) 2)) (iv 160))) dv cc ss) := by
         intro dd21
         induction dd21 using Nat.strongRecOn with
         | _ dd21 ih21 =>
         intro y p a u21_1 hu21_1 hd21 hp hy ha
         have hyr := pz_bi01 (q_all (q_ikP (q_zX (iv 155) (iv 161) (iv 157) (iv 158) (iv 159)).1 (iv 155) (iv 160)) p)
         rw [← hy] at hyr
         refine pz_G_of pz_b266_21 ?_
         refine w_loc rfl ?_
         refine w_pure rfl ?_
         refine w_loc rfl ?_
         refine w_getR (q := 155) is_154 rf_154_1 ?_
         refine w_pure rfl ?_
         refine w_iald (v := (iv 155) 2) is_155 ln_155 ⟨by omega, by omega⟩ rfl ?_
         refine w_ishl ?_
         refine w_ige (fun h3 => ?_) (fun h3 => ?_)
         · first
           | (exfalso; first | omega | contradiction)
           | (refine pz_G_of pz_b266_59 ?_
              refine w_loc rfl ?_
              refine w_pure rfl ?_
              refine w_loc rfl ?_
              have hc4 : pz_R (pz_Sh L) 193 [.inr (.inl 154), .inl 0, .inl y] (pz_u1 (pz_u1 (pz_u1 (pz_u1 (pz_u1 iv 154 (q_zw (iv 155) (iv 161) (iv 157) (iv 158) (iv 159) (iv 154))) 157 ((q_zX (iv 155) (iv 161) (iv 157) (iv 158) (iv 159)).2.2)) 158 ((q_zX (iv 155) (iv 161) (iv 157) (iv 158) (iv 159)).1)) 159 ((q_zX (iv 155) (iv 161) (iv 157) (iv 158) (iv 159)).2.1)) 160 a) (.inl (some (.inl (pz_bi ((0 : Int) = 0 ∧ (y : Int) = 1))))) (pz_u1 (pz_u1 (pz_u1 (pz_u1 (pz_u1 iv 154 (pz_up (q_zw (iv 155) (iv 161) (iv 157) (iv 158) (iv 159) (iv 154)) 0 0)) 157 ((q_zX (iv 155) (iv 161) (iv 157) (iv 158) (iv 159)).2.2)) 158 ((q_zX (iv 155) (iv 161) (iv 157) (iv 158) (iv 159)).1)) 159 ((q_zX (iv 155) (iv 161) (iv 157) (iv 158) (iv 159)).2.1)) 160 a) := pz_R_mem (s_X11_asks 0 y (by show y = 0 ∨ y = 1; first | omega | (rw [hy]; exact pz_bi01 _))) (by rw [pz_u1_in (r := 154) (q := 160) (by decide)]; rw [pz_u1_in (r := 154) (q := 159) (by decide)]; rw [pz_u1_in (r := 154) (q := 158) (by decide)]; rw [pz_u1_in (r := 154) (q := 157) (by decide)]; rw [pz_u1_top (r := 154)]; rfl)
              refine w_call hc4 rfl (pz_cokI is_154 rfl) ?_
              refine w_ret (pz_rok1 (pz_bi01 _)) ?_
              exact lf_i (pz_bi_iff (q_fin (by rw [hy, show p = q_p2 (iv 155 2) by omega]))) (by rw [ha, show p = q_p2 (iv 155 2) by omega]))
         · first
           | (exfalso; first | omega | contradiction)
           | (refine w_loc rfl ?_
              refine w_loc rfl ?_
              have hc5 : pz_R (pz_Sh L) 262 [.inr (.inl 154), .inl p] (pz_u1 (pz_u1 (pz_u1 (pz_u1 (pz_u1 iv 154 (q_zw (iv 155) (iv 161) (iv 157) (iv 158) (iv 159) (iv 154))) 157 ((q_zX (iv 155) (iv 161) (iv 157) (iv 158) (iv 159)).2.2)) 158 ((q_zX (iv 155) (iv 161) (iv 157) (iv 158) (iv 159)).1)) 159 ((q_zX (iv 155) (iv 161) (iv 157) (iv 158) (iv 159)).2.1)) 160 a) (.inl (some (.inl (q_fl ((q_zX (iv 155) (iv 161) (iv 157) (iv 158) (iv 159)).1) (iv 155) p a)))) (pz_u1 (pz_u1 (pz_u1 (pz_u1 (pz_u1 iv 154 (q_zw (iv 155) (iv 161) (iv 157) (iv 158) (iv 159) (iv 154))) 157 ((q_zX (iv 155) (iv 161) (iv 157) (iv 158) (iv 159)).2.2)) 158 ((q_zX (iv 155) (iv 161) (iv 157) (iv 158) (iv 159)).1)) 159 ((q_zX (iv 155) (iv 161) (iv 157) (iv 158) (iv 159)).2.1)) 160 (q_pl ((q_zX (iv 155) (iv 161) (iv 157) (iv 158) (iv 159)).1) (iv 155) p a)) := pz_R_mem (s_X11_failureOf p (by show q_KR (iv 155); exact hk) (by show q_vl ((q_zX (iv 155) (iv 161) (iv 157) (iv 158) (iv 159)).1); exact q_zv_l hk hcase1)) (by rw [pz_u1_top (r := 160)]; rfl)
              refine w_call hc5 rfl (pz_cokI is_154 rfl) ?_
              refine w_pure rfl ?_
              refine w_ine (fun h6 => ?_) (fun h6 => ?_)
              · first
                | (exfalso; first | omega | contradiction)
                | (refine pz_G_of pz_b266_51 ?_
                   refine w_pure rfl ?_
                   refine w_nil ?_
                   refine pz_G_of pz_b266_52 ?_
                   refine w_st (lc' := [some (.inr (.inl 154)), u21_1, some (.inl 0), some (.inl p)]) rfl rfl rfl (Nat.le_of_ble_eq_true rfl) (pz_np_u rfl hu21_1) rfl ?_
                   refine w_iinc (ls' := [some (.inr (.inl 154)), u21_1, some (.inl 0), some (.inl (p + 1))]) rfl rfl rfl (by omega) ?_
                   refine w_goto ?_
                   exact ih21 _ (by omega) 0 (p + 1) (q_pl ((q_zX (iv 155) (iv 161) (iv 157) (iv 158) (iv 159)).1) (iv 155) p a) u21_1 hu21_1 rfl (by omega) (by first | (exfalso; omega) | exact q_all_f1 hy (by omega) (by omega) | exact q_all_t hy (by omega) (by omega) (by show q_fl _ _ _ _ = 45; rw [← ha]; omega) | exact q_all_f2 (by omega) (by show ¬ q_fl _ _ _ _ = 45; rw [← ha]; omega)) (by exact q_kpI_s (by omega) ha))
              · first
                | (exfalso; first | omega | contradiction)
                | (refine w_loc rfl ?_
                   refine w_zeq (fun h7 => ?_) (fun h7 => ?_)
                   · first
                     | (exfalso; first | omega | contradiction)
                     | (refine pz_G_of pz_b266_51 ?_
                        refine w_pure rfl ?_
                        refine w_nil ?_
                        refine pz_G_of pz_b266_52 ?_
                        refine w_st (lc' := [some (.inr (.inl 154)), u21_1, some (.inl 0), some (.inl p)]) rfl rfl rfl (Nat.le_of_ble_eq_true rfl) (pz_np_u rfl hu21_1) rfl ?_
                        refine w_iinc (ls' := [some (.inr (.inl 154)), u21_1, some (.inl 0), some (.inl (p + 1))]) rfl rfl rfl (by omega) ?_
                        refine w_goto ?_
                        exact ih21 _ (by omega) 0 (p + 1) (q_pl ((q_zX (iv 155) (iv 161) (iv 157) (iv 158) (iv 159)).1) (iv 155) p a) u21_1 hu21_1 rfl (by omega) (by first | (exfalso; omega) | exact q_all_f1 hy (by omega) (by omega) | exact q_all_t hy (by omega) (by omega) (by show q_fl _ _ _ _ = 45; rw [← ha]; omega) | exact q_all_f2 (by omega) (by show ¬ q_fl _ _ _ _ = 45; rw [← ha]; omega)) (by exact q_kpI_s (by omega) ha))
                   · first
                     | (exfalso; first | omega | contradiction)
                     | (refine w_pure rfl ?_
                        refine w_goto ?_
                        refine pz_G_of pz_b266_52 ?_
                        refine w_st (lc' := [some (.inr (.inl 154)), u21_1, some (.inl 1), some (.inl p)]) rfl rfl rfl (Nat.le_of_ble_eq_true rfl) (pz_np_u rfl hu21_1) rfl ?_
                        refine w_iinc (ls' := [some (.inr (.inl 154)), u21_1, some (.inl 1), some (.inl (p + 1))]) rfl rfl rfl (by omega) ?_
                        refine w_goto ?_
                        exact ih21 _ (by omega) 1 (p + 1) (q_pl ((q_zX (iv 155) (iv 161) (iv 157) (iv 158) (iv 159)).1) (iv 155) p a) u21_1 hu21_1 rfl (by omega) (by first | (exfalso; omega) | exact q_all_f1 hy (by omega) (by omega) | exact q_all_t hy (by omega) (by omega) (by show q_fl _ _ _ _ = 45; rw [← ha]; omega) | exact q_all_f2 (by omega) (by show ¬ q_fl _ _ _ _ = 45; rw [← ha]; omega)) (by exact q_kpI_s (by omega) ha))))
       exact lp21 _ 1 0 (iv 160) (some (.inl 0)) rfl rfl (by omega) (by exact q_all_0 (by omega)) (by unfold q_kpI; rw [q_fr_0 (by omega)]))
  · first
    | (exfalso; first | omega | contradiction)
    | (refine w_loc rfl ?_
       refine w_pure rfl ?_
       refine w_pure rfl ?_
       have hc8 : pz_R (pz_Sh L) 193 [.inr (.inl 154), .inl 1, .inl 0] (pz_u1 (pz_u1 (pz_u1 (pz_u1 (pz_u1 iv 154 (q_zw (iv 155) (iv 161) (iv 157) (iv 158) (iv 159) (iv 154))) 157 ((q_zX (iv 155) (iv 161) (iv 157) (iv 158) (iv 159)).2.2)) 158 ((q_zX (iv 155) (iv 161) (iv 157) (iv 158) (iv 159)).1)) 159 ((q_zX (iv 155) (iv 161) (iv 157) (iv 158) (iv 159)).2.1)) 160 (iv 160)) (.inl (some (.inl (pz_bi ((1 : Int) = 0 ∧ (0 : Int) = 1))))) (pz_u1 (pz_u1 (pz_u1 (pz_u1 (pz_u1 iv 154 (pz_up (q_zw (iv 155) (iv 161) (iv 157) (iv 158) (iv 159) (iv 154)) 0 1)) 157 ((q_zX (iv 155) (iv 161) (iv 157) (iv 158) (iv 159)).2.2)) 158 ((q_zX (iv 155) (iv 161) (iv 157) (iv 158) (iv 159)).1)) 159 ((q_zX (iv 155) (iv 161) (iv 157) (iv 158) (iv 159)).2.1)) 160 (iv 160)) := pz_R_mem (s_X11_asks 1 0 (by show 0 = 0 ∨ 0 = 1; first | omega | (rw [hy]; exact pz_bi01 _))) (by rw [pz_u1_in (r := 154) (q := 160) (by decide)]; rw [pz_u1_in (r := 154) (q := 159) (by decide)]; rw [pz_u1_in (r := 154) (q := 158) (by decide)]; rw [pz_u1_in (r := 154) (q := 157) (by decide)]; rw [pz_u1_top (r := 154)]; rfl)
       refine w_call hc8 rfl (pz_cokI is_154 rfl) ?_
       refine w_ret (pz_rok1 (pz_bi01 _)) ?_
       exact lf_i (pz_bi_iff (q_fin (by rw [hy, show p = q_p2 (iv 155 2) by omega]))) (by rw [ha, show p = q_p2 (iv 155 2) by omega]))
