
theorem s_X11_takesStarts {L : Nat} {iv : Nat → Nat → Int} : pz_R (pz_Sh L) 267 [.inr (.inl 154)] iv (.inl none) (pz_u1 iv 160 (q_ts (iv 155) (iv 160))) := by
  intro dv cc ss
  refine pz_G_mem (iv2 := pz_u1 iv 160 (iv 160)) (by exact (pz_u1_self iv 160).symm) ?_
  show pz_G 267 0 [some (.inr (.inl 154)), none] [] (pz_Sh L, pz_u1 iv 160 (iv 160), dv, cc, ss) (pz_P (pz_Sh L) (.inl none) (pz_u1 iv 160 (q_ts (iv 155) (iv 160))) dv cc ss)
  refine pz_G_of pz_b267_0 ?_
  refine w_pure rfl ?_
  refine w_loc (ls' := [some (.inr (.inl 154)), some (.inl 0)]) (st' := []) rfl ?_
  refine w_nil ?_
  have lp2 : ∀ (dd : Nat) (i : Int) (f : Nat → Int) , (10 - i).toNat = dd → ∀ (hi : 0 ≤ i ∧ i ≤ 10), ∀ (hf : ∀ j : Nat, f j = if (j : Int) < i then iv 155 (6 + j) else iv 160 j),  pz_G 267 2 [some (.inr (.inl 154)), some (.inl i)] [] (pz_Sh L, pz_u1 iv 160 f, dv, cc, ss) (pz_P (pz_Sh L) (.inl none) (pz_u1 iv 160 (q_ts (iv 155) (iv 160))) dv cc ss) := by
    intro dd2
    induction dd2 using Nat.strongRecOn with
    | _ dd2 ih2 =>
    intro i f  hd2 hi hf
    refine pz_G_of pz_b267_2 ?_
    refine w_loc rfl ?_
    refine w_pure rfl ?_
    refine w_ige (fun h1 => ?_) (fun h1 => ?_)
    · refine pz_G_of pz_b267_29 ?_
      refine w_vret ?_
      exact lf_v (by rw [show f = q_ts (iv 155) (iv 160) from by funext j; rw [hf j]; unfold q_ts; (repeat' split) <;> first | rfl | omega])
    · refine w_loc rfl ?_
      refine w_getR (q := 160) is_154 rf_154_9 ?_
      refine w_loc rfl ?_
      refine w_loc rfl ?_
      refine w_getR (q := 155) is_154 rf_154_1 ?_
      refine w_pure rfl ?_
      refine w_loc rfl ?_
      refine w_iadd (by omega) ?_
      refine w_iald (v := (iv 155) (6 + i).toNat) is_155 ln_155 ⟨by omega, by omega⟩ rfl ?_
      refine w_iastm (iv2 := pz_u1 iv 160 (pz_up f i.toNat ((iv 155) (6 + i).toNat))) is_160 ln_160 ⟨by omega, by omega⟩ (by exact pz_u2_top _ _ _ _ _) ?_
      refine w_iinc (ls' := [some (.inr (.inl 154)), some (.inl (i + 1))]) rfl rfl rfl (by omega) ?_
      refine w_goto ?_
      exact ih2 _ (by omega) (i + 1) (pz_up f i.toNat ((iv 155) (6 + i).toNat))  rfl (by omega) (by intro j; rw [pz_up_at, hf j]; (repeat' split) <;> first | rfl | omega | (congr 1; omega))
  exact lp2 _ 0 (iv 160)  rfl (by omega) (by intro j; rw [if_neg (by omega)])

theorem s_X11_wrongSeen_1 {L : Nat} {iv : Nat → Nat → Int} (e : Int) (hk : q_KR (iv 155)) (hcase0 : ¬ (0 ≤ e ∧ e ≤ iv 155 0 - 1)) : pz_R (pz_Sh L) 268 [.inr (.inl 154), .inl e] iv (.inl (some (.inl 1))) (pz_u1 (pz_u1 (pz_u1 (pz_u1 (pz_u1 iv 154 (iv 154)) 157 (iv 157)) 158 (iv 158)) 159 (iv 159)) 160 (iv 160)) := by
  intro dv cc ss
  have hk0 := hk.r0
  refine pz_G_mem (iv2 := pz_u1 (pz_u1 (pz_u1 (pz_u1 (pz_u1 iv 154 (iv 154)) 157 (iv 157)) 158 (iv 158)) 159 (iv 159)) 160 (iv 160)) (by exact (((((pz_u1_self iv 154).symm).trans (pz_u1_self (pz_u1 iv 154 (iv 154)) 157).symm).trans (pz_u1_self (pz_u1 (pz_u1 iv 154 (iv 154)) 157 (iv 157)) 158).symm).trans (pz_u1_self (pz_u1 (pz_u1 (pz_u1 iv 154 (iv 154)) 157 (iv 157)) 158 (iv 158)) 159).symm).trans (pz_u1_self (pz_u1 (pz_u1 (pz_u1 (pz_u1 iv 154 (iv 154)) 157 (iv 157)) 158 (iv 158)) 159 (iv 159)) 160).symm) ?_
  show pz_G 268 0 [some (.inr (.inl 154)), some (.inl e)] [] (pz_Sh L, pz_u1 (pz_u1 (pz_u1 (pz_u1 (pz_u1 iv 154 (iv 154)) 157 (iv 157)) 158 (iv 158)) 159 (iv 159)) 160 (iv 160), dv, cc, ss) (pz_P (pz_Sh L) (.inl (some (.inl 1))) (pz_u1 (pz_u1 (pz_u1 (pz_u1 (pz_u1 iv 154 (iv 154)) 157 (iv 157)) 158 (iv 158)) 159 (iv 159)) 160 (iv 160)) dv cc ss)
  refine pz_G_of pz_b268_0 ?_
  refine w_loc rfl ?_
  refine w_loc rfl ?_
  have hc1 : pz_R (pz_Sh L) 194 [.inr (.inl 154), .inl e] (pz_u1 (pz_u1 (pz_u1 (pz_u1 (pz_u1 iv 154 (iv 154)) 157 (iv 157)) 158 (iv 158)) 159 (iv 159)) 160 (iv 160)) (.inl (some (.inl (pz_bi (0 ≤ e ∧ e ≤ (iv 155) 0 - 1))))) (pz_u1 (pz_u1 (pz_u1 (pz_u1 (pz_u1 iv 154 (iv 154)) 157 (iv 157)) 158 (iv 158)) 159 (iv 159)) 160 (iv 160)) := s_X11_isEvent e (by show q_KR (iv 155); exact hk)
  refine w_call hc1 rfl (pz_cokI is_154 rfl) ?_
  refine w_bne (fun h2 => ?_) (fun h2 => ?_)
  · first
    | (exfalso; first | omega | contradiction)
    | (refine pz_G_of pz_b268_10 ?_
       refine w_loc rfl ?_
       have hc3 : pz_R (pz_Sh L) 247 [.inr (.inl 154)] (pz_u1 (pz_u1 (pz_u1 (pz_u1 (pz_u1 iv 154 (iv 154)) 157 (iv 157)) 158 (iv 158)) 159 (iv 159)) 160 (iv 160)) (.inl none) (pz_u1 (pz_u1 (pz_u1 (pz_u1 (pz_u1 iv 154 (q_zw (iv 155) (iv 161) (iv 157) (iv 158) (iv 159) (iv 154))) 157 ((q_zX (iv 155) (iv 161) (iv 157) (iv 158) (iv 159)).2.2)) 158 ((q_zX (iv 155) (iv 161) (iv 157) (iv 158) (iv 159)).1)) 159 ((q_zX (iv 155) (iv 161) (iv 157) (iv 158) (iv 159)).2.1)) 160 (iv 160)) := pz_R_mem (s_X11_reduces (by show q_KR (iv 155); exact hk)) (by rw [pz_u1_in (r := 154) (q := 160) (by decide)]; rw [pz_u1_in (r := 154) (q := 159) (by decide)]; rw [pz_u1_in (r := 154) (q := 158) (by decide)]; rw [pz_u1_in (r := 154) (q := 157) (by decide)]; rw [pz_u1_top (r := 154)]; rw [pz_u1_in (r := 157) (q := 160) (by decide)]; rw [pz_u1_in (r := 157) (q := 159) (by decide)]; rw [pz_u1_in (r := 157) (q := 158) (by decide)]; rw [pz_u1_top (r := 157)]; rw [pz_u1_in (r := 158) (q := 160) (by decide)]; rw [pz_u1_in (r := 158) (q := 159) (by decide)]; rw [pz_u1_top (r := 158)]; rw [pz_u1_in (r := 159) (q := 160) (by decide)]; rw [pz_u1_top (r := 159)]; rfl)
       refine w_callv hc3 rfl (pz_cokI is_154 rfl) ?_
       refine w_loc rfl ?_
       have hc4 : pz_R (pz_Sh L) 267 [.inr (.inl 154)] (pz_u1 (pz_u1 (pz_u1 (pz_u1 (pz_u1 iv 154 (q_zw (iv 155) (iv 161) (iv 157) (iv 158) (iv 159) (iv 154))) 157 ((q_zX (iv 155) (iv 161) (iv 157) (iv 158) (iv 159)).2.2)) 158 ((q_zX (iv 155) (iv 161) (iv 157) (iv 158) (iv 159)).1)) 159 ((q_zX (iv 155) (iv 161) (iv 157) (iv 158) (iv 159)).2.1)) 160 (iv 160)) (.inl none) (pz_u1 (pz_u1 (pz_u1 (pz_u1 (pz_u1 iv 154 (q_zw (iv 155) (iv 161) (iv 157) (iv 158) (iv 159) (iv 154))) 157 ((q_zX (iv 155) (iv 161) (iv 157) (iv 158) (iv 159)).2.2)) 158 ((q_zX (iv 155) (iv 161) (iv 157) (iv 158) (iv 159)).1)) 159 ((q_zX (iv 155) (iv 161) (iv 157) (iv 158) (iv 159)).2.1)) 160 (q_ts (iv 155) (iv 160))) := pz_R_mem (s_X11_takesStarts) (by rw [pz_u1_top (r := 160)]; rfl)
       refine w_callv hc4 rfl (pz_cokI is_154 rfl) ?_
       refine w_loc rfl ?_
       refine w_getI (v := (q_zw (iv 155) (iv 161) (iv 157) (iv 158) (iv 159) (iv 154)) 7) is_154 (by decide) rfl ?_
       refine w_zeq (fun h5 => ?_) (fun h5 => ?_)
       · first
         | (exfalso; first | omega | contradiction)
         | (refine pz_G_of pz_b268_29 ?_
            refine w_pure rfl ?_
            refine w_nil ?_
            refine pz_G_of pz_b268_30 ?_
            refine w_ret rfl ?_
            first | exact lf_i (by first | rfl | omega) (by rfl) | (exfalso; omega))
       · first
         | (exfalso; first | omega | contradiction)
         | (refine w_pure rfl ?_
            refine w_goto ?_
            refine pz_G_of pz_b268_30 ?_
            refine w_ret rfl ?_
            first | exact lf_i (by first | rfl | omega) (by rfl) | (exfalso; omega)))
  · first
    | (exfalso; first | omega | contradiction)
    | (refine w_pure rfl ?_
       refine w_ret rfl ?_
       first | exact lf_i (by first | rfl | omega) (by rfl) | (exfalso; omega))

theorem s_X11_wrongSeen_2 {L : Nat} {iv : Nat → Nat → Int} (e : Int) (hk : q_KR (iv 155)) (hcase0 : 0 ≤ e ∧ e ≤ iv 155 0 - 1) (hcase1 : ¬ q_seen (iv 155) (iv 161) (iv 157) (iv 158) (iv 159)) : pz_R (pz_Sh L) 268 [.inr (.inl 154), .inl e] iv (.inl (some (.inl 2))) (pz_u1 (pz_u1 (pz_u1 (pz_u1 (pz_u1 iv 154 (q_zw (iv 155) (iv 161) (iv 157) (iv 158) (iv 159) (iv 154))) 157 ((q_zX (iv 155) (iv 161) (iv 157) (iv 158) (iv 159)).2.2)) 158 ((q_zX (iv 155) (iv 161) (iv 157) (iv 158) (iv 159)).1)) 159 ((q_zX (iv 155) (iv 161) (iv 157) (iv 158) (iv 159)).2.1)) 160 (q_ts (iv 155) (iv 160))) := by
  intro dv cc ss
  have hk0 := hk.r0
  have hz7 := q_zw_7 (k := iv 155) (lf := iv 161) (g := iv 157) (v := iv 158) (a := iv 159) (w := iv 154)
  rw [pz_bi_0 hcase1] at hz7
  refine pz_G_mem (iv2 := pz_u1 (pz_u1 (pz_u1 (pz_u1 (pz_u1 iv 154 (iv 154)) 157 (iv 157)) 158 (iv 158)) 159 (iv 159)) 160 (iv 160)) (by exact (((((pz_u1_self iv 154).symm).trans (pz_u1_self (pz_u1 iv 154 (iv 154)) 157).symm).trans (pz_u1_self (pz_u1 (pz_u1 iv 154 (iv 154)) 157 (iv 157)) 158).symm).trans (pz_u1_self (pz_u1 (pz_u1 (pz_u1 iv 154 (iv 154)) 157 (iv 157)) 158 (iv 158)) 159).symm).trans (pz_u1_self (pz_u1 (pz_u1 (pz_u1 (pz_u1 iv 154 (iv 154)) 157 (iv 157)) 158 (iv 158)) 159 (iv 159)) 160).symm) ?_
  show pz_G 268 0 [some (.inr (.inl 154)), some (.inl e)] [] (pz_Sh L, pz_u1 (pz_u1 (pz_u1 (pz_u1 (pz_u1 iv 154 (iv 154)) 157 (iv 157)) 158 (iv 158)) 159 (iv 159)) 160 (iv 160), dv, cc, ss) (pz_P (pz_Sh L) (.inl (some (.inl 2))) (pz_u1 (pz_u1 (pz_u1 (pz_u1 (pz_u1 iv 154 (q_zw (iv 155) (iv 161) (iv 157) (iv 158) (iv 159) (iv 154))) 157 ((q_zX (iv 155) (iv 161) (iv 157) (iv 158) (iv 159)).2.2)) 158 ((q_zX (iv 155) (iv 161) (iv 157) (iv 158) (iv 159)).1)) 159 ((q_zX (iv 155) (iv 161) (iv 157) (iv 158) (iv 159)).2.1)) 160 (q_ts (iv 155) (iv 160))) dv cc ss)
  refine pz_G_of pz_b268_0 ?_
  refine w_loc rfl ?_
  refine w_loc rfl ?_
  have hc1 : pz_R (pz_Sh L) 194 [.inr (.inl 154), .inl e] (pz_u1 (pz_u1 (pz_u1 (pz_u1 (pz_u1 iv 154 (iv 154)) 157 (iv 157)) 158 (iv 158)) 159 (iv 159)) 160 (iv 160)) (.inl (some (.inl (pz_bi (0 ≤ e ∧ e ≤ (iv 155) 0 - 1))))) (pz_u1 (pz_u1 (pz_u1 (pz_u1 (pz_u1 iv 154 (iv 154)) 157 (iv 157)) 158 (iv 158)) 159 (iv 159)) 160 (iv 160)) := s_X11_isEvent e (by show q_KR (iv 155); exact hk)
  refine w_call hc1 rfl (pz_cokI is_154 rfl) ?_
  refine w_bne (fun h2 => ?_) (fun h2 => ?_)
  · first
    | (exfalso; first | omega | contradiction)
    | (refine pz_G_of pz_b268_10 ?_
       refine w_loc rfl ?_
       have hc3 : pz_R (pz_Sh L) 247 [.inr (.inl 154)] (pz_u1 (pz_u1 (pz_u1 (pz_u1 (pz_u1 iv 154 (iv 154)) 157 (iv 157)) 158 (iv 158)) 159 (iv 159)) 160 (iv 160)) (.inl none) (pz_u1 (pz_u1 (pz_u1 (pz_u1 (pz_u1 iv 154 (q_zw (iv 155) (iv 161) (iv 157) (iv 158) (iv 159) (iv 154))) 157 ((q_zX (iv 155) (iv 161) (iv 157) (iv 158) (iv 159)).2.2)) 158 ((q_zX (iv 155) (iv 161) (iv 157) (iv 158) (iv 159)).1)) 159 ((q_zX (iv 155) (iv 161) (iv 157) (iv 158) (iv 159)).2.1)) 160 (iv 160)) := pz_R_mem (s_X11_reduces (by show q_KR (iv 155); exact hk)) (by rw [pz_u1_in (r := 154) (q := 160) (by decide)]; rw [pz_u1_in (r := 154) (q := 159) (by decide)]; rw [pz_u1_in (r := 154) (q := 158) (by decide)]; rw [pz_u1_in (r := 154) (q := 157) (by decide)]; rw [pz_u1_top (r := 154)]; rw [pz_u1_in (r := 157) (q := 160) (by decide)]; rw [pz_u1_in (r := 157) (q := 159) (by decide)]; rw [pz_u1_in (r := 157) (q := 158) (by decide)]; rw [pz_u1_top (r := 157)]; rw [pz_u1_in (r := 158) (q := 160) (by decide)]; rw [pz_u1_in (r := 158) (q := 159) (by decide)]; rw [pz_u1_top (r := 158)]; rw [pz_u1_in (r := 159) (q := 160) (by decide)]; rw [pz_u1_top (r := 159)]; rfl)
       refine w_callv hc3 rfl (pz_cokI is_154 rfl) ?_
       refine w_loc rfl ?_
       have hc4 : pz_R (pz_Sh L) 267 [.inr (.inl 154)] (pz_u1 (pz_u1 (pz_u1 (pz_u1 (pz_u1 iv 154 (q_zw (iv 155) (iv 161) (iv 157) (iv 158) (iv 159) (iv 154))) 157 ((q_zX (iv 155) (iv 161) (iv 157) (iv 158) (iv 159)).2.2)) 158 ((q_zX (iv 155) (iv 161) (iv 157) (iv 158) (iv 159)).1)) 159 ((q_zX (iv 155) (iv 161) (iv 157) (iv 158) (iv 159)).2.1)) 160 (iv 160)) (.inl none) (pz_u1 (pz_u1 (pz_u1 (pz_u1 (pz_u1 iv 154 (q_zw (iv 155) (iv 161) (iv 157) (iv 158) (iv 159) (iv 154))) 157 ((q_zX (iv 155) (iv 161) (iv 157) (iv 158) (iv 159)).2.2)) 158 ((q_zX (iv 155) (iv 161) (iv 157) (iv 158) (iv 159)).1)) 159 ((q_zX (iv 155) (iv 161) (iv 157) (iv 158) (iv 159)).2.1)) 160 (q_ts (iv 155) (iv 160))) := pz_R_mem (s_X11_takesStarts) (by rw [pz_u1_top (r := 160)]; rfl)
       refine w_callv hc4 rfl (pz_cokI is_154 rfl) ?_
       refine w_loc rfl ?_
       refine w_getI (v := (q_zw (iv 155) (iv 161) (iv 157) (iv 158) (iv 159) (iv 154)) 7) is_154 (by decide) rfl ?_
       refine w_zeq (fun h5 => ?_) (fun h5 => ?_)
       · first
         | (exfalso; first | omega | contradiction)
         | (refine pz_G_of pz_b268_29 ?_
            refine w_pure rfl ?_
            refine w_nil ?_
            refine pz_G_of pz_b268_30 ?_
            refine w_ret rfl ?_
            first | exact lf_i (by first | rfl | omega) (by rfl) | (exfalso; omega))
       · first
         | (exfalso; first | omega | contradiction)
         | (refine w_pure rfl ?_
            refine w_goto ?_
            refine pz_G_of pz_b268_30 ?_
            refine w_ret rfl ?_
            first | exact lf_i (by first | rfl | omega) (by rfl) | (exfalso; omega)))
  · first
    | (exfalso; first | omega | contradiction)
    | (refine w_pure rfl ?_
       refine w_ret rfl ?_
       first | exact lf_i (by first | rfl | omega) (by rfl) | (exfalso; omega))

theorem s_X11_wrongSeen_0 {L : Nat} {iv : Nat → Nat → Int} (e : Int) (hk : q_KR (iv 155)) (hcase0 : 0 ≤ e ∧ e ≤ iv 155 0 - 1) (hcase1 : q_seen (iv 155) (iv 161) (iv 157) (iv 158) (iv 159)) : pz_R (pz_Sh L) 268 [.inr (.inl 154), .inl e] iv (.inl (some (.inl 0))) (pz_u1 (pz_u1 (pz_u1 (pz_u1 (pz_u1 iv 154 (q_zw (iv 155) (iv 161) (iv 157) (iv 158) (iv 159) (iv 154))) 157 ((q_zX (iv 155) (iv 161) (iv 157) (iv 158) (iv 159)).2.2)) 158 ((q_zX (iv 155) (iv 161) (iv 157) (iv 158) (iv 159)).1)) 159 ((q_zX (iv 155) (iv 161) (iv 157) (iv 158) (iv 159)).2.1)) 160 (q_ts (iv 155) (iv 160))) := by
  intro dv cc ss
  have hk0 := hk.r0
  have hz7 := q_zw_7 (k := iv 155) (lf := iv 161) (g := iv 157) (v := iv 158) (a := iv 159) (w := iv 154)
  rw [pz_bi_1 hcase1] at hz7
  refine pz_G_mem (iv2 := pz_u1 (pz_u1 (pz_u1 (pz_u1 (pz_u1 iv 154 (iv 154)) 157 (iv 157)) 158 (iv 158)) 159 (iv 159)) 160 (iv 160)) (by exact (((((pz_u1_self iv 154).symm).trans (pz_u1_self (pz_u1 iv 154 (iv 154)) 157).symm).trans (pz_u1_self (pz_u1 (pz_u1 iv 154 (iv 154)) 157 (iv 157)) 158).symm).trans (pz_u1_self (pz_u1 (pz_u1 (pz_u1 iv 154 (iv 154)) 157 (iv 157)) 158 (iv 158)) 159).symm).trans (pz_u1_self (pz_u1 (pz_u1 (pz_u1 (pz_u1 iv 154 (iv 154)) 157 (iv 157)) 158 (iv 158)) 159 (iv 159)) 160).symm) ?_
  show pz_G 268 0 [some (.inr (.inl 154)), some (.inl e)] [] (pz_Sh L, pz_u1 (pz_u1 (pz_u1 (pz_u1 (pz_u1 iv 154 (iv 154)) 157 (iv 157)) 158 (iv 158)) 159 (iv 159)) 160 (iv 160), dv, cc, ss) (pz_P (pz_Sh L) (.inl (some (.inl 0))) (pz_u1 (pz_u1 (pz_u1 (pz_u1 (pz_u1 iv 154 (q_zw (iv 155) (iv 161) (iv 157) (iv 158) (iv 159) (iv 154))) 157 ((q_zX (iv 155) (iv 161) (iv 157) (iv 158) (iv 159)).2.2)) 158 ((q_zX (iv 155) (iv 161) (iv 157) (iv 158) (iv 159)).1)) 159 ((q_zX (iv 155) (iv 161) (iv 157) (iv 158) (iv 159)).2.1)) 160 (q_ts (iv 155) (iv 160))) dv cc ss)
  refine pz_G_of pz_b268_0 ?_
  refine w_loc rfl ?_
  refine w_loc rfl ?_
  have hc1 : pz_R (pz_Sh L) 194 [.inr (.inl 154), .inl e] (pz_u1 (pz_u1 (pz_u1 (pz_u1 (pz_u1 iv 154 (iv 154)) 157 (iv 157)) 158 (iv 158)) 159 (iv 159)) 160 (iv 160)) (.inl (some (.inl (pz_bi (0 ≤ e ∧ e ≤ (iv 155) 0 - 1))))) (pz_u1 (pz_u1 (pz_u1 (pz_u1 (pz_u1 iv 154 (iv 154)) 157 (iv 157)) 158 (iv 158)) 159 (iv 159)) 160 (iv 160)) := s_X11_isEvent e (by show q_KR (iv 155); exact hk)
  refine w_call hc1 rfl (pz_cokI is_154 rfl) ?_
  refine w_bne (fun h2 => ?_) (fun h2 => ?_)
  · first
    | (exfalso; first | omega | contradiction)
    | (refine pz_G_of pz_b268_10 ?_
       refine w_loc rfl ?_
       have hc3 : pz_R (pz_Sh L) 247 [.inr (.inl 154)] (pz_u1 (pz_u1 (pz_u1 (pz_u1 (pz_u1 iv 154 (iv 154)) 157 (iv 157)) 158 (iv 158)) 159 (iv 159)) 160 (iv 160)) (.inl none) (pz_u1 (pz_u1 (pz_u1 (pz_u1 (pz_u1 iv 154 (q_zw (iv 155) (iv 161) (iv 157) (iv 158) (iv 159) (iv 154))) 157 ((q_zX (iv 155) (iv 161) (iv 157) (iv 158) (iv 159)).2.2)) 158 ((q_zX (iv 155) (iv 161) (iv 157) (iv 158) (iv 159)).1)) 159 ((q_zX (iv 155) (iv 161) (iv 157) (iv 158) (iv 159)).2.1)) 160 (iv 160)) := pz_R_mem (s_X11_reduces (by show q_KR (iv 155); exact hk)) (by rw [pz_u1_in (r := 154) (q := 160) (by decide)]; rw [pz_u1_in (r := 154) (q := 159) (by decide)]; rw [pz_u1_in (r := 154) (q := 158) (by decide)]; rw [pz_u1_in (r := 154) (q := 157) (by decide)]; rw [pz_u1_top (r := 154)]; rw [pz_u1_in (r := 157) (q := 160) (by decide)]; rw [pz_u1_in (r := 157) (q := 159) (by decide)]; rw [pz_u1_in (r := 157) (q := 158) (by decide)]; rw [pz_u1_top (r := 157)]; rw [pz_u1_in (r := 158) (q := 160) (by decide)]; rw [pz_u1_in (r := 158) (q := 159) (by decide)]; rw [pz_u1_top (r := 158)]; rw [pz_u1_in (r := 159) (q := 160) (by decide)]; rw [pz_u1_top (r := 159)]; rfl)
       refine w_callv hc3 rfl (pz_cokI is_154 rfl) ?_
       refine w_loc rfl ?_
       have hc4 : pz_R (pz_Sh L) 267 [.inr (.inl 154)] (pz_u1 (pz_u1 (pz_u1 (pz_u1 (pz_u1 iv 154 (q_zw (iv 155) (iv 161) (iv 157) (iv 158) (iv 159) (iv 154))) 157 ((q_zX (iv 155) (iv 161) (iv 157) (iv 158) (iv 159)).2.2)) 158 ((q_zX (iv 155) (iv 161) (iv 157) (iv 158) (iv 159)).1)) 159 ((q_zX (iv 155) (iv 161) (iv 157) (iv 158) (iv 159)).2.1)) 160 (iv 160)) (.inl none) (pz_u1 (pz_u1 (pz_u1 (pz_u1 (pz_u1 iv 154 (q_zw (iv 155) (iv 161) (iv 157) (iv 158) (iv 159) (iv 154))) 157 ((q_zX (iv 155) (iv 161) (iv 157) (iv 158) (iv 159)).2.2)) 158 ((q_zX (iv 155) (iv 161) (iv 157) (iv 158) (iv 159)).1)) 159 ((q_zX (iv 155) (iv 161) (iv 157) (iv 158) (iv 159)).2.1)) 160 (q_ts (iv 155) (iv 160))) := pz_R_mem (s_X11_takesStarts) (by rw [pz_u1_top (r := 160)]; rfl)
       refine w_callv hc4 rfl (pz_cokI is_154 rfl) ?_
       refine w_loc rfl ?_
       refine w_getI (v := (q_zw (iv 155) (iv 161) (iv 157) (iv 158) (iv 159) (iv 154)) 7) is_154 (by decide) rfl ?_
       refine w_zeq (fun h5 => ?_) (fun h5 => ?_)
       · first
         | (exfalso; first | omega | contradiction)
         | (refine pz_G_of pz_b268_29 ?_
            refine w_pure rfl ?_
            refine w_nil ?_
            refine pz_G_of pz_b268_30 ?_
            refine w_ret rfl ?_
            first | exact lf_i (by first | rfl | omega) (by rfl) | (exfalso; omega))
       · first
         | (exfalso; first | omega | contradiction)
         | (refine w_pure rfl ?_
            refine w_goto ?_
            refine pz_G_of pz_b268_30 ?_
            refine w_ret rfl ?_
            first | exact lf_i (by first | rfl | omega) (by rfl) | (exfalso; omega)))
  · first
    | (exfalso; first | omega | contradiction)
    | (refine w_pure rfl ?_
       refine w_ret rfl ?_
       first | exact lf_i (by first | rfl | omega) (by rfl) | (exfalso; omega))

theorem s_X11_reason_1 {L : Nat} {iv : Nat → Nat → Int} (e : Int) (hk : q_KR (iv 155)) (hcase0 : ¬ (0 ≤ e ∧ e ≤ iv 155 0 - 1)) : pz_R (pz_Sh L) 269 [.inr (.inl 154), .inl e] iv (.inl (some (.inl 32))) (pz_u1 (pz_u1 (pz_u1 (pz_u1 (pz_u1 iv 154 (pz_up (iv 154) 0 1)) 157 (iv 157)) 158 (iv 158)) 159 (iv 159)) 160 (iv 160)) := by
  intro dv cc ss
  have hk0 := hk.r0
  have hrs := q_rs_r (v := (q_zX (iv 155) (iv 161) (iv 157) (iv 158) (iv 159)).1) (a := q_ts (iv 155) (iv 160)) (k := iv 155) (e := e) (m := iv 155 4)
  refine pz_G_mem (iv2 := pz_u1 (pz_u1 (pz_u1 (pz_u1 (pz_u1 iv 154 (iv 154)) 157 (iv 157)) 158 (iv 158)) 159 (iv 159)) 160 (iv 160)) (by exact (((((pz_u1_self iv 154).symm).trans (pz_u1_self (pz_u1 iv 154 (iv 154)) 157).symm).trans (pz_u1_self (pz_u1 (pz_u1 iv 154 (iv 154)) 157 (iv 157)) 158).symm).trans (pz_u1_self (pz_u1 (pz_u1 (pz_u1 iv 154 (iv 154)) 157 (iv 157)) 158 (iv 158)) 159).symm).trans (pz_u1_self (pz_u1 (pz_u1 (pz_u1 (pz_u1 iv 154 (iv 154)) 157 (iv 157)) 158 (iv 158)) 159 (iv 159)) 160).symm) ?_
  show pz_G 269 0 [some (.inr (.inl 154)), some (.inl e)] [] (pz_Sh L, pz_u1 (pz_u1 (pz_u1 (pz_u1 (pz_u1 iv 154 (iv 154)) 157 (iv 157)) 158 (iv 158)) 159 (iv 159)) 160 (iv 160), dv, cc, ss) (pz_P (pz_Sh L) (.inl (some (.inl 32))) (pz_u1 (pz_u1 (pz_u1 (pz_u1 (pz_u1 iv 154 (pz_up (iv 154) 0 1)) 157 (iv 157)) 158 (iv 158)) 159 (iv 159)) 160 (iv 160)) dv cc ss)
  refine pz_G_of pz_b269_0 ?_
  refine w_loc rfl ?_
  refine w_loc rfl ?_
  refine w_loc rfl ?_
  have hc1 : pz_R (pz_Sh L) 268 [.inr (.inl 154), .inl e] (pz_u1 (pz_u1 (pz_u1 (pz_u1 (pz_u1 iv 154 (iv 154)) 157 (iv 157)) 158 (iv 158)) 159 (iv 159)) 160 (iv 160)) (.inl (some (.inl 1))) (pz_u1 (pz_u1 (pz_u1 (pz_u1 (pz_u1 iv 154 (iv 154)) 157 (iv 157)) 158 (iv 158)) 159 (iv 159)) 160 (iv 160)) := pz_R_mem (s_X11_wrongSeen_1 e (by show q_KR (iv 155); exact hk) (by show ¬ (0 ≤ e ∧ e ≤ iv 155 0 - 1); first | assumption | omega)) (by rw [pz_u1_in (r := 154) (q := 160) (by decide)]; rw [pz_u1_in (r := 154) (q := 159) (by decide)]; rw [pz_u1_in (r := 154) (q := 158) (by decide)]; rw [pz_u1_in (r := 154) (q := 157) (by decide)]; rw [pz_u1_top (r := 154)]; rw [pz_u1_in (r := 157) (q := 160) (by decide)]; rw [pz_u1_in (r := 157) (q := 159) (by decide)]; rw [pz_u1_in (r := 157) (q := 158) (by decide)]; rw [pz_u1_top (r := 157)]; rw [pz_u1_in (r := 158) (q := 160) (by decide)]; rw [pz_u1_in (r := 158) (q := 159) (by decide)]; rw [pz_u1_top (r := 158)]; rw [pz_u1_in (r := 159) (q := 160) (by decide)]; rw [pz_u1_top (r := 159)]; rw [pz_u1_top (r := 160)]; rfl)
  refine w_call hc1 rfl (pz_cokI is_154 rfl) ?_
  refine w_putIm (iv2 := pz_u1 (pz_u1 (pz_u1 (pz_u1 (pz_u1 iv 154 (pz_up (iv 154) 0 1)) 157 (iv 157)) 158 (iv 158)) 159 (iv 159)) 160 (iv 160)) is_154 pz_fit0 (by rw [pz_u2_in (r := 154) (q := 160) (by decide)]; rw [pz_u2_in (r := 154) (q := 159) (by decide)]; rw [pz_u2_in (r := 154) (q := 158) (by decide)]; rw [pz_u2_in (r := 154) (q := 157) (by decide)]; rw [pz_u2_top]) ?_
  refine w_loc rfl ?_
  refine w_getI (v := 1) is_154 (by decide) rfl ?_
  refine w_zle (fun h => absurd h (by decide)) (fun _ => ?_)
  refine w_pure rfl ?_
  refine w_goto ?_
  refine pz_G_of pz_b269_32 ?_
  refine w_ret (pz_rok2 (by omega)) ?_
  first | exact lf_i (by first | rfl | omega) rfl | (exfalso; omega)

theorem s_X11_reason_2 {L : Nat} {iv : Nat → Nat → Int} (e : Int) (hk : q_KR (iv 155)) (hcase0 : 0 ≤ e ∧ e ≤ iv 155 0 - 1) (hcase1 : ¬ q_seen (iv 155) (iv 161) (iv 157) (iv 158) (iv 159)) : pz_R (pz_Sh L) 269 [.inr (.inl 154), .inl e] iv (.inl (some (.inl 32))) (pz_u1 (pz_u1 (pz_u1 (pz_u1 (pz_u1 iv 154 (pz_up (q_zw (iv 155) (iv 161) (iv 157) (iv 158) (iv 159) (iv 154)) 0 2)) 157 ((q_zX (iv 155) (iv 161) (iv 157) (iv 158) (iv 159)).2.2)) 158 ((q_zX (iv 155) (iv 161) (iv 157) (iv 158) (iv 159)).1)) 159 ((q_zX (iv 155) (iv 161) (iv 157) (iv 158) (iv 159)).2.1)) 160 (q_ts (iv 155) (iv 160))) := by
  intro dv cc ss
  have hk0 := hk.r0
  have hrs := q_rs_r (v := (q_zX (iv 155) (iv 161) (iv 157) (iv 158) (iv 159)).1) (a := q_ts (iv 155) (iv 160)) (k := iv 155) (e := e) (m := iv 155 4)
  refine pz_G_mem (iv2 := pz_u1 (pz_u1 (pz_u1 (pz_u1 (pz_u1 iv 154 (iv 154)) 157 (iv 157)) 158 (iv 158)) 159 (iv 159)) 160 (iv 160)) (by exact (((((pz_u1_self iv 154).symm).trans (pz_u1_self (pz_u1 iv 154 (iv 154)) 157).symm).trans (pz_u1_self (pz_u1 (pz_u1 iv 154 (iv 154)) 157 (iv 157)) 158).symm).trans (pz_u1_self (pz_u1 (pz_u1 (pz_u1 iv 154 (iv 154)) 157 (iv 157)) 158 (iv 158)) 159).symm).trans (pz_u1_self (pz_u1 (pz_u1 (pz_u1 (pz_u1 iv 154 (iv 154)) 157 (iv 157)) 158 (iv 158)) 159 (iv 159)) 160).symm) ?_
  show pz_G 269 0 [some (.inr (.inl 154)), some (.inl e)] [] (pz_Sh L, pz_u1 (pz_u1 (pz_u1 (pz_u1 (pz_u1 iv 154 (iv 154)) 157 (iv 157)) 158 (iv 158)) 159 (iv 159)) 160 (iv 160), dv, cc, ss) (pz_P (pz_Sh L) (.inl (some (.inl 32))) (pz_u1 (pz_u1 (pz_u1 (pz_u1 (pz_u1 iv 154 (pz_up (q_zw (iv 155) (iv 161) (iv 157) (iv 158) (iv 159) (iv 154)) 0 2)) 157 ((q_zX (iv 155) (iv 161) (iv 157) (iv 158) (iv 159)).2.2)) 158 ((q_zX (iv 155) (iv 161) (iv 157) (iv 158) (iv 159)).1)) 159 ((q_zX (iv 155) (iv 161) (iv 157) (iv 158) (iv 159)).2.1)) 160 (q_ts (iv 155) (iv 160))) dv cc ss)
  refine pz_G_of pz_b269_0 ?_
  refine w_loc rfl ?_
  refine w_loc rfl ?_
  refine w_loc rfl ?_
  have hc1 : pz_R (pz_Sh L) 268 [.inr (.inl 154), .inl e] (pz_u1 (pz_u1 (pz_u1 (pz_u1 (pz_u1 iv 154 (iv 154)) 157 (iv 157)) 158 (iv 158)) 159 (iv 159)) 160 (iv 160)) (.inl (some (.inl 2))) (pz_u1 (pz_u1 (pz_u1 (pz_u1 (pz_u1 iv 154 (q_zw (iv 155) (iv 161) (iv 157) (iv 158) (iv 159) (iv 154))) 157 ((q_zX (iv 155) (iv 161) (iv 157) (iv 158) (iv 159)).2.2)) 158 ((q_zX (iv 155) (iv 161) (iv 157) (iv 158) (iv 159)).1)) 159 ((q_zX (iv 155) (iv 161) (iv 157) (iv 158) (iv 159)).2.1)) 160 (q_ts (iv 155) (iv 160))) := pz_R_mem (s_X11_wrongSeen_2 e (by show q_KR (iv 155); exact hk) (by show 0 ≤ e ∧ e ≤ iv 155 0 - 1; first | assumption | omega) (by show ¬ q_seen (iv 155) (iv 161) (iv 157) (iv 158) (iv 159); first | assumption | omega)) (by rw [pz_u1_in (r := 154) (q := 160) (by decide)]; rw [pz_u1_in (r := 154) (q := 159) (by decide)]; rw [pz_u1_in (r := 154) (q := 158) (by decide)]; rw [pz_u1_in (r := 154) (q := 157) (by decide)]; rw [pz_u1_top (r := 154)]; rw [pz_u1_in (r := 157) (q := 160) (by decide)]; rw [pz_u1_in (r := 157) (q := 159) (by decide)]; rw [pz_u1_in (r := 157) (q := 158) (by decide)]; rw [pz_u1_top (r := 157)]; rw [pz_u1_in (r := 158) (q := 160) (by decide)]; rw [pz_u1_in (r := 158) (q := 159) (by decide)]; rw [pz_u1_top (r := 158)]; rw [pz_u1_in (r := 159) (q := 160) (by decide)]; rw [pz_u1_top (r := 159)]; rw [pz_u1_top (r := 160)]; rfl)
  refine w_call hc1 rfl (pz_cokI is_154 rfl) ?_
  refine w_putIm (iv2 := pz_u1 (pz_u1 (pz_u1 (pz_u1 (pz_u1 iv 154 (pz_up (q_zw (iv 155) (iv 161) (iv 157) (iv 158) (iv 159) (iv 154)) 0 2)) 157 ((q_zX (iv 155) (iv 161) (iv 157) (iv 158) (iv 159)).2.2)) 158 ((q_zX (iv 155) (iv 161) (iv 157) (iv 158) (iv 159)).1)) 159 ((q_zX (iv 155) (iv 161) (iv 157) (iv 158) (iv 159)).2.1)) 160 (q_ts (iv 155) (iv 160))) is_154 pz_fit0 (by rw [pz_u2_in (r := 154) (q := 160) (by decide)]; rw [pz_u2_in (r := 154) (q := 159) (by decide)]; rw [pz_u2_in (r := 154) (q := 158) (by decide)]; rw [pz_u2_in (r := 154) (q := 157) (by decide)]; rw [pz_u2_top]) ?_
  refine w_loc rfl ?_
  refine w_getI (v := 2) is_154 (by decide) rfl ?_
  refine w_zle (fun h => absurd h (by decide)) (fun _ => ?_)
  refine w_pure rfl ?_
  refine w_goto ?_
  refine pz_G_of pz_b269_32 ?_
  refine w_ret (pz_rok2 (by omega)) ?_
  first | exact lf_i (by first | rfl | omega) rfl | (exfalso; omega)

theorem s_X11_reason_0 {L : Nat} {iv : Nat → Nat → Int} (e : Int) (hk : q_KR (iv 155)) (hcase0 : 0 ≤ e ∧ e ≤ iv 155 0 - 1) (hcase1 : q_seen (iv 155) (iv 161) (iv 157) (iv 158) (iv 159)) : pz_R (pz_Sh L) 269 [.inr (.inl 154), .inl e] iv (.inl (some (.inl (q_rs (q_zX (iv 155) (iv 161) (iv 157) (iv 158) (iv 159)).1 (q_ts (iv 155) (iv 160)) (iv 155) e ((iv 155) 4))))) (pz_u1 (pz_u1 (pz_u1 (pz_u1 (pz_u1 iv 154 (pz_up (q_zw (iv 155) (iv 161) (iv 157) (iv 158) (iv 159) (iv 154)) 0 0)) 157 ((q_zX (iv 155) (iv 161) (iv 157) (iv 158) (iv 159)).2.2)) 158 ((q_zX (iv 155) (iv 161) (iv 157) (iv 158) (iv 159)).1)) 159 ((q_zX (iv 155) (iv 161) (iv 157) (iv 158) (iv 159)).2.1)) 160 (q_ts (iv 155) (iv 160))) := by
  intro dv cc ss
  have hk0 := hk.r0
  have hrs := q_rs_r (v := (q_zX (iv 155) (iv 161) (iv 157) (iv 158) (iv 159)).1) (a := q_ts (iv 155) (iv 160)) (k := iv 155) (e := e) (m := iv 155 4)
  refine pz_G_mem (iv2 := pz_u1 (pz_u1 (pz_u1 (pz_u1 (pz_u1 iv 154 (iv 154)) 157 (iv 157)) 158 (iv 158)) 159 (iv 159)) 160 (iv 160)) (by exact (((((pz_u1_self iv 154).symm).trans (pz_u1_self (pz_u1 iv 154 (iv 154)) 157).symm).trans (pz_u1_self (pz_u1 (pz_u1 iv 154 (iv 154)) 157 (iv 157)) 158).symm).trans (pz_u1_self (pz_u1 (pz_u1 (pz_u1 iv 154 (iv 154)) 157 (iv 157)) 158 (iv 158)) 159).symm).trans (pz_u1_self (pz_u1 (pz_u1 (pz_u1 (pz_u1 iv 154 (iv 154)) 157 (iv 157)) 158 (iv 158)) 159 (iv 159)) 160).symm) ?_
  show pz_G 269 0 [some (.inr (.inl 154)), some (.inl e)] [] (pz_Sh L, pz_u1 (pz_u1 (pz_u1 (pz_u1 (pz_u1 iv 154 (iv 154)) 157 (iv 157)) 158 (iv 158)) 159 (iv 159)) 160 (iv 160), dv, cc, ss) (pz_P (pz_Sh L) (.inl (some (.inl (q_rs (q_zX (iv 155) (iv 161) (iv 157) (iv 158) (iv 159)).1 (q_ts (iv 155) (iv 160)) (iv 155) e ((iv 155) 4))))) (pz_u1 (pz_u1 (pz_u1 (pz_u1 (pz_u1 iv 154 (pz_up (q_zw (iv 155) (iv 161) (iv 157) (iv 158) (iv 159) (iv 154)) 0 0)) 157 ((q_zX (iv 155) (iv 161) (iv 157) (iv 158) (iv 159)).2.2)) 158 ((q_zX (iv 155) (iv 161) (iv 157) (iv 158) (iv 159)).1)) 159 ((q_zX (iv 155) (iv 161) (iv 157) (iv 158) (iv 159)).2.1)) 160 (q_ts (iv 155) (iv 160))) dv cc ss)
  refine pz_G_of pz_b269_0 ?_
  refine w_loc rfl ?_
  refine w_loc rfl ?_
  refine w_loc rfl ?_
  have hc1 : pz_R (pz_Sh L) 268 [.inr (.inl 154), .inl e] (pz_u1 (pz_u1 (pz_u1 (pz_u1 (pz_u1 iv 154 (iv 154)) 157 (iv 157)) 158 (iv 158)) 159 (iv 159)) 160 (iv 160)) (.inl (some (.inl 0))) (pz_u1 (pz_u1 (pz_u1 (pz_u1 (pz_u1 iv 154 (q_zw (iv 155) (iv 161) (iv 157) (iv 158) (iv 159) (iv 154))) 157 ((q_zX (iv 155) (iv 161) (iv 157) (iv 158) (iv 159)).2.2)) 158 ((q_zX (iv 155) (iv 161) (iv 157) (iv 158) (iv 159)).1)) 159 ((q_zX (iv 155) (iv 161) (iv 157) (iv 158) (iv 159)).2.1)) 160 (q_ts (iv 155) (iv 160))) := pz_R_mem (s_X11_wrongSeen_0 e (by show q_KR (iv 155); exact hk) (by show 0 ≤ e ∧ e ≤ iv 155 0 - 1; first | assumption | omega) (by show q_seen (iv 155) (iv 161) (iv 157) (iv 158) (iv 159); first | assumption | omega)) (by rw [pz_u1_in (r := 154) (q := 160) (by decide)]; rw [pz_u1_in (r := 154) (q := 159) (by decide)]; rw [pz_u1_in (r := 154) (q := 158) (by decide)]; rw [pz_u1_in (r := 154) (q := 157) (by decide)]; rw [pz_u1_top (r := 154)]; rw [pz_u1_in (r := 157) (q := 160) (by decide)]; rw [pz_u1_in (r := 157) (q := 159) (by decide)]; rw [pz_u1_in (r := 157) (q := 158) (by decide)]; rw [pz_u1_top (r := 157)]; rw [pz_u1_in (r := 158) (q := 160) (by decide)]; rw [pz_u1_in (r := 158) (q := 159) (by decide)]; rw [pz_u1_top (r := 158)]; rw [pz_u1_in (r := 159) (q := 160) (by decide)]; rw [pz_u1_top (r := 159)]; rw [pz_u1_top (r := 160)]; rfl)
  refine w_call hc1 rfl (pz_cokI is_154 rfl) ?_
  refine w_putIm (iv2 := pz_u1 (pz_u1 (pz_u1 (pz_u1 (pz_u1 iv 154 (pz_up (q_zw (iv 155) (iv 161) (iv 157) (iv 158) (iv 159) (iv 154)) 0 0)) 157 ((q_zX (iv 155) (iv 161) (iv 157) (iv 158) (iv 159)).2.2)) 158 ((q_zX (iv 155) (iv 161) (iv 157) (iv 158) (iv 159)).1)) 159 ((q_zX (iv 155) (iv 161) (iv 157) (iv 158) (iv 159)).2.1)) 160 (q_ts (iv 155) (iv 160))) is_154 pz_fit0 (by rw [pz_u2_in (r := 154) (q := 160) (by decide)]; rw [pz_u2_in (r := 154) (q := 159) (by decide)]; rw [pz_u2_in (r := 154) (q := 158) (by decide)]; rw [pz_u2_in (r := 154) (q := 157) (by decide)]; rw [pz_u2_top]) ?_
  refine w_loc rfl ?_
  refine w_getI (v := 0) is_154 (by decide) rfl ?_
  refine w_zle (fun _ => ?_) (fun h => absurd h (by decide))
  refine pz_G_of pz_b269_21 ?_
  refine w_loc rfl ?_
  refine w_loc rfl ?_
  refine w_loc rfl ?_
  refine w_getR (q := 155) is_154 rf_154_1 ?_
  refine w_pure rfl ?_
  refine w_iald (v := (iv 155) 4) is_155 ln_155 ⟨by omega, by omega⟩ rfl ?_
  have hc2 : pz_R (pz_Sh L) 257 [.inr (.inl 154), .inl e, .inl ((iv 155) 4)] (pz_u1 (pz_u1 (pz_u1 (pz_u1 (pz_u1 iv 154 (pz_up (q_zw (iv 155) (iv 161) (iv 157) (iv 158) (iv 159) (iv 154)) 0 0)) 157 ((q_zX (iv 155) (iv 161) (iv 157) (iv 158) (iv 159)).2.2)) 158 ((q_zX (iv 155) (iv 161) (iv 157) (iv 158) (iv 159)).1)) 159 ((q_zX (iv 155) (iv 161) (iv 157) (iv 158) (iv 159)).2.1)) 160 (q_ts (iv 155) (iv 160))) (.inl (some (.inl (q_rs ((q_zX (iv 155) (iv 161) (iv 157) (iv 158) (iv 159)).1) (q_ts (iv 155) (iv 160)) (iv 155) e ((iv 155) 4))))) (pz_u1 (pz_u1 (pz_u1 (pz_u1 (pz_u1 iv 154 (pz_up (q_zw (iv 155) (iv 161) (iv 157) (iv 158) (iv 159) (iv 154)) 0 0)) 157 ((q_zX (iv 155) (iv 161) (iv 157) (iv 158) (iv 159)).2.2)) 158 ((q_zX (iv 155) (iv 161) (iv 157) (iv 158) (iv 159)).1)) 159 ((q_zX (iv 155) (iv 161) (iv 157) (iv 158) (iv 159)).2.1)) 160 (q_ts (iv 155) (iv 160))) := s_X11_reasonOf e ((iv 155) 4) (by show q_KR (iv 155); exact hk) (by show 0 ≤ e ∧ e ≤ 9; omega) (by show 0 ≤ ((iv 155) 4) ∧ ((iv 155) 4) ≤ 1000; omega) (by show q_vl ((q_zX (iv 155) (iv 161) (iv 157) (iv 158) (iv 159)).1); exact q_zv_l hk hcase1) (by show q_al (q_ts (iv 155) (iv 160)); exact q_ts_al hk)
  refine w_call hc2 rfl (pz_cokI is_154 rfl) ?_
  refine w_nil ?_
  refine pz_G_of pz_b269_32 ?_
  refine w_ret (pz_rok2 (by omega)) ?_
  first | exact lf_i (by first | rfl | omega) rfl | (exfalso; omega)

theorem s_X11_window_1lo {L : Nat} {iv : Nat → Nat → Int} (e : Int) (z : Int) (hk : q_KR (iv 155)) (hcase0 : ¬ (0 ≤ e ∧ e ≤ iv 155 0 - 1)) (hcase1 : z = 1) : pz_R (pz_Sh L) 270 [.inr (.inl 154), .inl e, .inl z] iv (.inl (some (.inl 0))) (pz_u1 (pz_u1 (pz_u1 (pz_u1 (pz_u1 iv 154 (pz_up (iv 154) 0 1)) 157 (iv 157)) 158 (iv 158)) 159 (iv 159)) 160 (iv 160)) := by
  intro dv cc ss
  have hk0 := hk.r0
  refine pz_G_mem (iv2 := pz_u1 (pz_u1 (pz_u1 (pz_u1 (pz_u1 iv 154 (iv 154)) 157 (iv 157)) 158 (iv 158)) 159 (iv 159)) 160 (iv 160)) (by exact (((((pz_u1_self iv 154).symm).trans (pz_u1_self (pz_u1 iv 154 (iv 154)) 157).symm).trans (pz_u1_self (pz_u1 (pz_u1 iv 154 (iv 154)) 157 (iv 157)) 158).symm).trans (pz_u1_self (pz_u1 (pz_u1 (pz_u1 iv 154 (iv 154)) 157 (iv 157)) 158 (iv 158)) 159).symm).trans (pz_u1_self (pz_u1 (pz_u1 (pz_u1 (pz_u1 iv 154 (iv 154)) 157 (iv 157)) 158 (iv 158)) 159 (iv 159)) 160).symm) ?_
  show pz_G 270 0 [some (.inr (.inl 154)), some (.inl e), some (.inl z), none] [] (pz_Sh L, pz_u1 (pz_u1 (pz_u1 (pz_u1 (pz_u1 iv 154 (iv 154)) 157 (iv 157)) 158 (iv 158)) 159 (iv 159)) 160 (iv 160), dv, cc, ss) (pz_P (pz_Sh L) (.inl (some (.inl 0))) (pz_u1 (pz_u1 (pz_u1 (pz_u1 (pz_u1 iv 154 (pz_up (iv 154) 0 1)) 157 (iv 157)) 158 (iv 158)) 159 (iv 159)) 160 (iv 160)) dv cc ss)
  refine pz_G_of pz_b270_0 ?_
  refine w_loc rfl ?_
  refine w_loc rfl ?_
  have hc1 : pz_R (pz_Sh L) 268 [.inr (.inl 154), .inl e] (pz_u1 (pz_u1 (pz_u1 (pz_u1 (pz_u1 iv 154 (iv 154)) 157 (iv 157)) 158 (iv 158)) 159 (iv 159)) 160 (iv 160)) (.inl (some (.inl 1))) (pz_u1 (pz_u1 (pz_u1 (pz_u1 (pz_u1 iv 154 (iv 154)) 157 (iv 157)) 158 (iv 158)) 159 (iv 159)) 160 (iv 160)) := pz_R_mem (s_X11_wrongSeen_1 e (by show q_KR (iv 155); exact hk) (by show ¬ (0 ≤ e ∧ e ≤ iv 155 0 - 1); first | assumption | omega)) (by rw [pz_u1_in (r := 154) (q := 160) (by decide)]; rw [pz_u1_in (r := 154) (q := 159) (by decide)]; rw [pz_u1_in (r := 154) (q := 158) (by decide)]; rw [pz_u1_in (r := 154) (q := 157) (by decide)]; rw [pz_u1_top (r := 154)]; rw [pz_u1_in (r := 157) (q := 160) (by decide)]; rw [pz_u1_in (r := 157) (q := 159) (by decide)]; rw [pz_u1_in (r := 157) (q := 158) (by decide)]; rw [pz_u1_top (r := 157)]; rw [pz_u1_in (r := 158) (q := 160) (by decide)]; rw [pz_u1_in (r := 158) (q := 159) (by decide)]; rw [pz_u1_top (r := 158)]; rw [pz_u1_in (r := 159) (q := 160) (by decide)]; rw [pz_u1_top (r := 159)]; rw [pz_u1_top (r := 160)]; rfl)
  refine w_call hc1 rfl (pz_cokI is_154 rfl) ?_
  refine w_loc (ls' := [some (.inr (.inl 154)), some (.inl e), some (.inl z), some (.inl 1)]) (st' := []) rfl ?_
  refine w_loc rfl ?_
  refine w_zle (fun h2 => ?_) (fun h2 => ?_)
  · first
    | (exfalso; first | omega | contradiction)
    | (refine pz_G_of pz_b270_16 ?_
       refine w_loc rfl ?_
       refine w_loc rfl ?_
       have hc3 : pz_R (pz_Sh L) 196 [.inr (.inl 154), .inl e] (pz_u1 (pz_u1 (pz_u1 (pz_u1 (pz_u1 iv 154 (iv 154)) 157 (iv 157)) 158 (iv 158)) 159 (iv 159)) 160 (iv 160)) (.inl (some (.inl (pz_bi (q_sta (iv 155) e))))) (pz_u1 (pz_u1 (pz_u1 (pz_u1 (pz_u1 iv 154 (iv 154)) 157 (iv 157)) 158 (iv 158)) 159 (iv 159)) 160 (iv 160)) := s_X11_hasStarted e (by show 0 ≤ e ∧ e ≤ 9; omega)
       refine w_call hc3 rfl (pz_cokI is_154 rfl) ?_
       refine w_beq (fun h4 => ?_) (fun h4 => ?_)
       · first
         | (exfalso; first | omega | contradiction)
         | (refine pz_G_of pz_b270_30 ?_
            refine w_loc rfl ?_
            refine w_loc rfl ?_
            refine w_zeq (fun h5 => ?_) (fun h5 => ?_)
            · first
              | (exfalso; first | omega | contradiction)
              | (refine pz_G_of pz_b270_43 ?_
                 refine w_loc rfl ?_
                 refine w_loc rfl ?_
                 have hc6 : pz_R (pz_Sh L) 254 [.inr (.inl 154), .inl e] (pz_u1 (pz_u1 (pz_u1 (pz_u1 (pz_u1 iv 154 (iv 154)) 157 (iv 157)) 158 (iv 158)) 159 (iv 159)) 160 (iv 160)) (.inl (some (.inl (q_hi (iv 158) (iv 160) (iv 155) e)))) (pz_u1 (pz_u1 (pz_u1 (pz_u1 (pz_u1 iv 154 (iv 154)) 157 (iv 157)) 158 (iv 158)) 159 (iv 159)) 160 (iv 160)) := s_X11_high e (by show q_KR (iv 155); exact hk) (by show 0 ≤ e ∧ e ≤ 9; omega) (by show q_vl (iv 158); exact q_zv_l hk hcase1) (by show q_al (iv 160); exact q_ts_al hk)
                 refine w_call hc6 rfl (pz_cokI is_154 rfl) ?_
                 refine w_nil ?_
                 refine pz_G_of pz_b270_48 ?_
                 have hc7 : pz_R (pz_Sh L) 192 [.inr (.inl 154), .inl (q_hi (iv 158) (iv 160) (iv 155) e)] (pz_u1 (pz_u1 (pz_u1 (pz_u1 (pz_u1 iv 154 (iv 154)) 157 (iv 157)) 158 (iv 158)) 159 (iv 159)) 160 (iv 160)) (.inl (some (.inl (q_hi (iv 158) (iv 160) (iv 155) e)))) (pz_u1 (pz_u1 (pz_u1 (pz_u1 (pz_u1 iv 154 (pz_up (iv 154) 0 0)) 157 (iv 157)) 158 (iv 158)) 159 (iv 159)) 160 (iv 160)) := pz_R_mem (s_X11_tells (q_hi (iv 158) (iv 160) (iv 155) e)) (by rw [pz_u1_in (r := 154) (q := 160) (by decide)]; rw [pz_u1_in (r := 154) (q := 159) (by decide)]; rw [pz_u1_in (r := 154) (q := 158) (by decide)]; rw [pz_u1_in (r := 154) (q := 157) (by decide)]; rw [pz_u1_top (r := 154)]; rfl)
                 refine w_call hc7 rfl (pz_cokI is_154 rfl) ?_
                 refine w_ret rfl ?_
                 first | exact lf_i (by first | rfl | omega) (by rfl) | (exfalso; omega))
            · first
              | (exfalso; first | omega | contradiction)
              | (refine w_loc rfl ?_
                 refine w_loc rfl ?_
                 have hc8 : pz_R (pz_Sh L) 253 [.inr (.inl 154), .inl e] (pz_u1 (pz_u1 (pz_u1 (pz_u1 (pz_u1 iv 154 (iv 154)) 157 (iv 157)) 158 (iv 158)) 159 (iv 159)) 160 (iv 160)) (.inl (some (.inl (q_lo (iv 158) (iv 160) (iv 155) e)))) (pz_u1 (pz_u1 (pz_u1 (pz_u1 (pz_u1 iv 154 (iv 154)) 157 (iv 157)) 158 (iv 158)) 159 (iv 159)) 160 (iv 160)) := s_X11_low e (by show q_KR (iv 155); exact hk) (by show 0 ≤ e ∧ e ≤ 9; omega) (by show q_vl (iv 158); exact q_zv_l hk hcase1) (by show q_al (iv 160); exact q_ts_al hk)
                 refine w_call hc8 rfl (pz_cokI is_154 rfl) ?_
                 refine w_goto ?_
                 refine pz_G_of pz_b270_48 ?_
                 have hc9 : pz_R (pz_Sh L) 192 [.inr (.inl 154), .inl (q_lo (iv 158) (iv 160) (iv 155) e)] (pz_u1 (pz_u1 (pz_u1 (pz_u1 (pz_u1 iv 154 (iv 154)) 157 (iv 157)) 158 (iv 158)) 159 (iv 159)) 160 (iv 160)) (.inl (some (.inl (q_lo (iv 158) (iv 160) (iv 155) e)))) (pz_u1 (pz_u1 (pz_u1 (pz_u1 (pz_u1 iv 154 (pz_up (iv 154) 0 0)) 157 (iv 157)) 158 (iv 158)) 159 (iv 159)) 160 (iv 160)) := pz_R_mem (s_X11_tells (q_lo (iv 158) (iv 160) (iv 155) e)) (by rw [pz_u1_in (r := 154) (q := 160) (by decide)]; rw [pz_u1_in (r := 154) (q := 159) (by decide)]; rw [pz_u1_in (r := 154) (q := 158) (by decide)]; rw [pz_u1_in (r := 154) (q := 157) (by decide)]; rw [pz_u1_top (r := 154)]; rfl)
                 refine w_call hc9 rfl (pz_cokI is_154 rfl) ?_
                 refine w_ret rfl ?_
                 first | exact lf_i (by first | rfl | omega) (by rfl) | (exfalso; omega)))
       · first
         | (exfalso; first | omega | contradiction)
         | (refine w_loc rfl ?_
            refine w_pure rfl ?_
            have hc10 : pz_R (pz_Sh L) 191 [.inr (.inl 154), .inl 2] (pz_u1 (pz_u1 (pz_u1 (pz_u1 (pz_u1 iv 154 (iv 154)) 157 (iv 157)) 158 (iv 158)) 159 (iv 159)) 160 (iv 160)) (.inl (some (.inl 0))) (pz_u1 (pz_u1 (pz_u1 (pz_u1 (pz_u1 iv 154 (pz_up (iv 154) 0 2)) 157 (iv 157)) 158 (iv 158)) 159 (iv 159)) 160 (iv 160)) := pz_R_mem (s_X11_fails 2) (by rw [pz_u1_in (r := 154) (q := 160) (by decide)]; rw [pz_u1_in (r := 154) (q := 159) (by decide)]; rw [pz_u1_in (r := 154) (q := 158) (by decide)]; rw [pz_u1_in (r := 154) (q := 157) (by decide)]; rw [pz_u1_top (r := 154)]; rfl)
            refine w_call hc10 rfl (pz_cokI is_154 rfl) ?_
            refine w_ret rfl ?_
            first | exact lf_i (by first | rfl | omega) (by rfl) | (exfalso; omega)))
  · first
    | (exfalso; first | omega | contradiction)
    | (refine w_loc rfl ?_
       refine w_loc rfl ?_
       have hc11 : pz_R (pz_Sh L) 191 [.inr (.inl 154), .inl 1] (pz_u1 (pz_u1 (pz_u1 (pz_u1 (pz_u1 iv 154 (iv 154)) 157 (iv 157)) 158 (iv 158)) 159 (iv 159)) 160 (iv 160)) (.inl (some (.inl 0))) (pz_u1 (pz_u1 (pz_u1 (pz_u1 (pz_u1 iv 154 (pz_up (iv 154) 0 1)) 157 (iv 157)) 158 (iv 158)) 159 (iv 159)) 160 (iv 160)) := pz_R_mem (s_X11_fails 1) (by rw [pz_u1_in (r := 154) (q := 160) (by decide)]; rw [pz_u1_in (r := 154) (q := 159) (by decide)]; rw [pz_u1_in (r := 154) (q := 158) (by decide)]; rw [pz_u1_in (r := 154) (q := 157) (by decide)]; rw [pz_u1_top (r := 154)]; rfl)
       refine w_call hc11 rfl (pz_cokI is_154 rfl) ?_
       refine w_ret rfl ?_
       first | exact lf_i (by first | rfl | omega) (by rfl) | (exfalso; omega))

theorem s_X11_lowest_1 {L : Nat} {iv : Nat → Nat → Int} (e : Int) (hk : q_KR (iv 155)) (hcase0 : ¬ (0 ≤ e ∧ e ≤ iv 155 0 - 1)) : pz_R (pz_Sh L) 271 [.inr (.inl 154), .inl e] iv (.inl (some (.inl 0))) (pz_u1 (pz_u1 (pz_u1 (pz_u1 (pz_u1 iv 154 (pz_up (iv 154) 0 1)) 157 (iv 157)) 158 (iv 158)) 159 (iv 159)) 160 (iv 160)) := by
  intro dv cc ss
  have hk0 := hk.r0
  refine pz_G_mem (iv2 := pz_u1 (pz_u1 (pz_u1 (pz_u1 (pz_u1 iv 154 (iv 154)) 157 (iv 157)) 158 (iv 158)) 159 (iv 159)) 160 (iv 160)) (by exact (((((pz_u1_self iv 154).symm).trans (pz_u1_self (pz_u1 iv 154 (iv 154)) 157).symm).trans (pz_u1_self (pz_u1 (pz_u1 iv 154 (iv 154)) 157 (iv 157)) 158).symm).trans (pz_u1_self (pz_u1 (pz_u1 (pz_u1 iv 154 (iv 154)) 157 (iv 157)) 158 (iv 158)) 159).symm).trans (pz_u1_self (pz_u1 (pz_u1 (pz_u1 (pz_u1 iv 154 (iv 154)) 157 (iv 157)) 158 (iv 158)) 159 (iv 159)) 160).symm) ?_
  show pz_G 271 0 [some (.inr (.inl 154)), some (.inl e)] [] (pz_Sh L, pz_u1 (pz_u1 (pz_u1 (pz_u1 (pz_u1 iv 154 (iv 154)) 157 (iv 157)) 158 (iv 158)) 159 (iv 159)) 160 (iv 160), dv, cc, ss) (pz_P (pz_Sh L) (.inl (some (.inl 0))) (pz_u1 (pz_u1 (pz_u1 (pz_u1 (pz_u1 iv 154 (pz_up (iv 154) 0 1)) 157 (iv 157)) 158 (iv 158)) 159 (iv 159)) 160 (iv 160)) dv cc ss)
  refine pz_G_of pz_b271_0 ?_
  refine w_loc rfl ?_
  refine w_loc rfl ?_
  refine w_pure rfl ?_
  have hc1 : pz_R (pz_Sh L) 270 [.inr (.inl 154), .inl e, .inl 1] (pz_u1 (pz_u1 (pz_u1 (pz_u1 (pz_u1 iv 154 (iv 154)) 157 (iv 157)) 158 (iv 158)) 159 (iv 159)) 160 (iv 160)) (.inl (some (.inl 0))) (pz_u1 (pz_u1 (pz_u1 (pz_u1 (pz_u1 iv 154 (pz_up (iv 154) 0 1)) 157 (iv 157)) 158 (iv 158)) 159 (iv 159)) 160 (iv 160)) := pz_R_mem (s_X11_window_1lo e 1 (by show q_KR (iv 155); exact hk) (by show ¬ (0 ≤ e ∧ e ≤ iv 155 0 - 1); first | assumption | omega) (by show 1 = 1; rfl)) (by rw [pz_u1_in (r := 154) (q := 160) (by decide)]; rw [pz_u1_in (r := 154) (q := 159) (by decide)]; rw [pz_u1_in (r := 154) (q := 158) (by decide)]; rw [pz_u1_in (r := 154) (q := 157) (by decide)]; rw [pz_u1_top (r := 154)]; rw [pz_u1_in (r := 157) (q := 160) (by decide)]; rw [pz_u1_in (r := 157) (q := 159) (by decide)]; rw [pz_u1_in (r := 157) (q := 158) (by decide)]; rw [pz_u1_top (r := 157)]; rw [pz_u1_in (r := 158) (q := 160) (by decide)]; rw [pz_u1_in (r := 158) (q := 159) (by decide)]; rw [pz_u1_top (r := 158)]; rw [pz_u1_in (r := 159) (q := 160) (by decide)]; rw [pz_u1_top (r := 159)]; rw [pz_u1_top (r := 160)]; rfl)
  refine w_call hc1 rfl (pz_cokI is_154 rfl) ?_
  refine w_ret rfl ?_
  first | exact lf_i (by first | rfl | omega) (by rfl) | (exfalso; omega)

theorem s_X11_window_2lo {L : Nat} {iv : Nat → Nat → Int} (e : Int) (z : Int) (hk : q_KR (iv 155)) (hcase0 : 0 ≤ e ∧ e ≤ iv 155 0 - 1) (hcase1 : ¬ q_seen (iv 155) (iv 161) (iv 157) (iv 158) (iv 159)) (hcase2 : z = 1) : pz_R (pz_Sh L) 270 [.inr (.inl 154), .inl e, .inl z] iv (.inl (some (.inl 0))) (pz_u1 (pz_u1 (pz_u1 (pz_u1 (pz_u1 iv 154 (pz_up (q_zw (iv 155) (iv 161) (iv 157) (iv 158) (iv 159) (iv 154)) 0 2)) 157 ((q_zX (iv 155) (iv 161) (iv 157) (iv 158) (iv 159)).2.2)) 158 ((q_zX (iv 155) (iv 161) (iv 157) (iv 158) (iv 159)).1)) 159 ((q_zX (iv 155) (iv 161) (iv 157) (iv 158) (iv 159)).2.1)) 160 (q_ts (iv 155) (iv 160))) := by
  intro dv cc ss
  have hk0 := hk.r0
  refine pz_G_mem (iv2 := pz_u1 (pz_u1 (pz_u1 (pz_u1 (pz_u1 iv 154 (iv 154)) 157 (iv 157)) 158 (iv 158)) 159 (iv 159)) 160 (iv 160)) (by exact (((((pz_u1_self iv 154).symm).trans (pz_u1_self (pz_u1 iv 154 (iv 154)) 157).symm).trans (pz_u1_self (pz_u1 (pz_u1 iv 154 (iv 154)) 157 (iv 157)) 158).symm).trans (pz_u1_self (pz_u1 (pz_u1 (pz_u1 iv 154 (iv 154)) 157 (iv 157)) 158 (iv 158)) 159).symm).trans (pz_u1_self (pz_u1 (pz_u1 (pz_u1 (pz_u1 iv 154 (iv 154)) 157 (iv 157)) 158 (iv 158)) 159 (iv 159)) 160).symm) ?_
  show pz_G 270 0 [some (.inr (.inl 154)), some (.inl e), some (.inl z), none] [] (pz_Sh L, pz_u1 (pz_u1 (pz_u1 (pz_u1 (pz_u1 iv 154 (iv 154)) 157 (iv 157)) 158 (iv 158)) 159 (iv 159)) 160 (iv 160), dv, cc, ss) (pz_P (pz_Sh L) (.inl (some (.inl 0))) (pz_u1 (pz_u1 (pz_u1 (pz_u1 (pz_u1 iv 154 (pz_up (q_zw (iv 155) (iv 161) (iv 157) (iv 158) (iv 159) (iv 154)) 0 2)) 157 ((q_zX (iv 155) (iv 161) (iv 157) (iv 158) (iv 159)).2.2)) 158 ((q_zX (iv 155) (iv 161) (iv 157) (iv 158) (iv 159)).1)) 159 ((q_zX (iv 155) (iv 161) (iv 157) (iv 158) (iv 159)).2.1)) 160 (q_ts (iv 155) (iv 160))) dv cc ss)
  refine pz_G_of pz_b270_0 ?_
  refine w_loc rfl ?_
  refine w_loc rfl ?_
  have hc1 : pz_R (pz_Sh L) 268 [.inr (.inl 154), .inl e] (pz_u1 (pz_u1 (pz_u1 (pz_u1 (pz_u1 iv 154 (iv 154)) 157 (iv 157)) 158 (iv 158)) 159 (iv 159)) 160 (iv 160)) (.inl (some (.inl 2))) (pz_u1 (pz_u1 (pz_u1 (pz_u1 (pz_u1 iv 154 (q_zw (iv 155) (iv 161) (iv 157) (iv 158) (iv 159) (iv 154))) 157 ((q_zX (iv 155) (iv 161) (iv 157) (iv 158) (iv 159)).2.2)) 158 ((q_zX (iv 155) (iv 161) (iv 157) (iv 158) (iv 159)).1)) 159 ((q_zX (iv 155) (iv 161) (iv 157) (iv 158) (iv 159)).2.1)) 160 (q_ts (iv 155) (iv 160))) := pz_R_mem (s_X11_wrongSeen_2 e (by show q_KR (iv 155); exact hk) (by show 0 ≤ e ∧ e ≤ iv 155 0 - 1; first | assumption | omega) (by show ¬ q_seen (iv 155) (iv 161) (iv 157) (iv 158) (iv 159); first | assumption | omega)) (by rw [pz_u1_in (r := 154) (q := 160) (by decide)]; rw [pz_u1_in (r := 154) (q := 159) (by decide)]; rw [pz_u1_in (r := 154) (q := 158) (by decide)]; rw [pz_u1_in (r := 154) (q := 157) (by decide)]; rw [pz_u1_top (r := 154)]; rw [pz_u1_in (r := 157) (q := 160) (by decide)]; rw [pz_u1_in (r := 157) (q := 159) (by decide)]; rw [pz_u1_in (r := 157) (q := 158) (by decide)]; rw [pz_u1_top (r := 157)]; rw [pz_u1_in (r := 158) (q := 160) (by decide)]; rw [pz_u1_in (r := 158) (q := 159) (by decide)]; rw [pz_u1_top (r := 158)]; rw [pz_u1_in (r := 159) (q := 160) (by decide)]; rw [pz_u1_top (r := 159)]; rw [pz_u1_top (r := 160)]; rfl)
  refine w_call hc1 rfl (pz_cokI is_154 rfl) ?_
  refine w_loc (ls' := [some (.inr (.inl 154)), some (.inl e), some (.inl z), some (.inl 2)]) (st' := []) rfl ?_
  refine w_loc rfl ?_
  refine w_zle (fun h2 => ?_) (fun h2 => ?_)
  · first
    | (exfalso; first | omega | contradiction)
    | (refine pz_G_of pz_b270_16 ?_
       refine w_loc rfl ?_
       refine w_loc rfl ?_
       have hc3 : pz_R (pz_Sh L) 196 [.inr (.inl 154), .inl e] (pz_u1 (pz_u1 (pz_u1 (pz_u1 (pz_u1 iv 154 (q_zw (iv 155) (iv 161) (iv 157) (iv 158) (iv 159) (iv 154))) 157 ((q_zX (iv 155) (iv 161) (iv 157) (iv 158) (iv 159)).2.2)) 158 ((q_zX (iv 155) (iv 161) (iv 157) (iv 158) (iv 159)).1)) 159 ((q_zX (iv 155) (iv 161) (iv 157) (iv 158) (iv 159)).2.1)) 160 (q_ts (iv 155) (iv 160))) (.inl (some (.inl (pz_bi (q_sta (iv 155) e))))) (pz_u1 (pz_u1 (pz_u1 (pz_u1 (pz_u1 iv 154 (q_zw (iv 155) (iv 161) (iv 157) (iv 158) (iv 159) (iv 154))) 157 ((q_zX (iv 155) (iv 161) (iv 157) (iv 158) (iv 159)).2.2)) 158 ((q_zX (iv 155) (iv 161) (iv 157) (iv 158) (iv 159)).1)) 159 ((q_zX (iv 155) (iv 161) (iv 157) (iv 158) (iv 159)).2.1)) 160 (q_ts (iv 155) (iv 160))) := s_X11_hasStarted e (by show 0 ≤ e ∧ e ≤ 9; omega)
       refine w_call hc3 rfl (pz_cokI is_154 rfl) ?_
       refine w_beq (fun h4 => ?_) (fun h4 => ?_)
       · first
         | (exfalso; first | omega | contradiction)
         | (refine pz_G_of pz_b270_30 ?_
            refine w_loc rfl ?_
            refine w_loc rfl ?_
            refine w_zeq (fun h5 => ?_) (fun h5 => ?_)
            · first
              | (exfalso; first | omega | contradiction)
              | (refine pz_G_of pz_b270_43 ?_
                 refine w_loc rfl ?_
                 refine w_loc rfl ?_
                 have hc6 : pz_R (pz_Sh L) 254 [.inr (.inl 154), .inl e] (pz_u1 (pz_u1 (pz_u1 (pz_u1 (pz_u1 iv 154 (q_zw (iv 155) (iv 161) (iv 157) (iv 158) (iv 159) (iv 154))) 157 ((q_zX (iv 155) (iv 161) (iv 157) (iv 158) (iv 159)).2.2)) 158 ((q_zX (iv 155) (iv 161) (iv 157) (iv 158) (iv 159)).1)) 159 ((q_zX (iv 155) (iv 161) (iv 157) (iv 158) (iv 159)).2.1)) 160 (q_ts (iv 155) (iv 160))) (.inl (some (.inl (q_hi ((q_zX (iv 155) (iv 161) (iv 157) (iv 158) (iv 159)).1) (q_ts (iv 155) (iv 160)) (iv 155) e)))) (pz_u1 (pz_u1 (pz_u1 (pz_u1 (pz_u1 iv 154 (q_zw (iv 155) (iv 161) (iv 157) (iv 158) (iv 159) (iv 154))) 157 ((q_zX (iv 155) (iv 161) (iv 157) (iv 158) (iv 159)).2.2)) 158 ((q_zX (iv 155) (iv 161) (iv 157) (iv 158) (iv 159)).1)) 159 ((q_zX (iv 155) (iv 161) (iv 157) (iv 158) (iv 159)).2.1)) 160 (q_ts (iv 155) (iv 160))) := s_X11_high e (by show q_KR (iv 155); exact hk) (by show 0 ≤ e ∧ e ≤ 9; omega) (by show q_vl ((q_zX (iv 155) (iv 161) (iv 157) (iv 158) (iv 159)).1); exact q_zv_l hk hcase1) (by show q_al (q_ts (iv 155) (iv 160)); exact q_ts_al hk)
                 refine w_call hc6 rfl (pz_cokI is_154 rfl) ?_
                 refine w_nil ?_
                 refine pz_G_of pz_b270_48 ?_
                 have hc7 : pz_R (pz_Sh L) 192 [.inr (.inl 154), .inl (q_hi ((q_zX (iv 155) (iv 161) (iv 157) (iv 158) (iv 159)).1) (q_ts (iv 155) (iv 160)) (iv 155) e)] (pz_u1 (pz_u1 (pz_u1 (pz_u1 (pz_u1 iv 154 (q_zw (iv 155) (iv 161) (iv 157) (iv 158) (iv 159) (iv 154))) 157 ((q_zX (iv 155) (iv 161) (iv 157) (iv 158) (iv 159)).2.2)) 158 ((q_zX (iv 155) (iv 161) (iv 157) (iv 158) (iv 159)).1)) 159 ((q_zX (iv 155) (iv 161) (iv 157) (iv 158) (iv 159)).2.1)) 160 (q_ts (iv 155) (iv 160))) (.inl (some (.inl (q_hi ((q_zX (iv 155) (iv 161) (iv 157) (iv 158) (iv 159)).1) (q_ts (iv 155) (iv 160)) (iv 155) e)))) (pz_u1 (pz_u1 (pz_u1 (pz_u1 (pz_u1 iv 154 (pz_up (q_zw (iv 155) (iv 161) (iv 157) (iv 158) (iv 159) (iv 154)) 0 0)) 157 ((q_zX (iv 155) (iv 161) (iv 157) (iv 158) (iv 159)).2.2)) 158 ((q_zX (iv 155) (iv 161) (iv 157) (iv 158) (iv 159)).1)) 159 ((q_zX (iv 155) (iv 161) (iv 157) (iv 158) (iv 159)).2.1)) 160 (q_ts (iv 155) (iv 160))) := pz_R_mem (s_X11_tells (q_hi ((q_zX (iv 155) (iv 161) (iv 157) (iv 158) (iv 159)).1) (q_ts (iv 155) (iv 160)) (iv 155) e)) (by rw [pz_u1_in (r := 154) (q := 160) (by decide)]; rw [pz_u1_in (r := 154) (q := 159) (by decide)]; rw [pz_u1_in (r := 154) (q := 158) (by decide)]; rw [pz_u1_in (r := 154) (q := 157) (by decide)]; rw [pz_u1_top (r := 154)]; rfl)
                 refine w_call hc7 rfl (pz_cokI is_154 rfl) ?_
                 refine w_ret rfl ?_
                 first | exact lf_i (by first | rfl | omega) (by rfl) | (exfalso; omega))
            · first
              | (exfalso; first | omega | contradiction)
              | (refine w_loc rfl ?_
                 refine w_loc rfl ?_
                 have hc8 : pz_R (pz_Sh L) 253 [.inr (.inl 154), .inl e] (pz_u1 (pz_u1 (pz_u1 (pz_u1 (pz_u1 iv 154 (q_zw (iv 155) (iv 161) (iv 157) (iv 158) (iv 159) (iv 154))) 157 ((q_zX (iv 155) (iv 161) (iv 157) (iv 158) (iv 159)).2.2)) 158 ((q_zX (iv 155) (iv 161) (iv 157) (iv 158) (iv 159)).1)) 159 ((q_zX (iv 155) (iv 161) (iv 157) (iv 158) (iv 159)).2.1)) 160 (q_ts (iv 155) (iv 160))) (.inl (some (.inl (q_lo ((q_zX (iv 155) (iv 161) (iv 157) (iv 158) (iv 159)).1) (q_ts (iv 155) (iv 160)) (iv 155) e)))) (pz_u1 (pz_u1 (pz_u1 (pz_u1 (pz_u1 iv 154 (q_zw (iv 155) (iv 161) (iv 157) (iv 158) (iv 159) (iv 154))) 157 ((q_zX (iv 155) (iv 161) (iv 157) (iv 158) (iv 159)).2.2)) 158 ((q_zX (iv 155) (iv 161) (iv 157) (iv 158) (iv 159)).1)) 159 ((q_zX (iv 155) (iv 161) (iv 157) (iv 158) (iv 159)).2.1)) 160 (q_ts (iv 155) (iv 160))) := s_X11_low e (by show q_KR (iv 155); exact hk) (by show 0 ≤ e ∧ e ≤ 9; omega) (by show q_vl ((q_zX (iv 155) (iv 161) (iv 157) (iv 158) (iv 159)).1); exact q_zv_l hk hcase1) (by show q_al (q_ts (iv 155) (iv 160)); exact q_ts_al hk)
                 refine w_call hc8 rfl (pz_cokI is_154 rfl) ?_
                 refine w_goto ?_
                 refine pz_G_of pz_b270_48 ?_
                 have hc9 : pz_R (pz_Sh L) 192 [.inr (.inl 154), .inl (q_lo ((q_zX (iv 155) (iv 161) (iv 157) (iv 158) (iv 159)).1) (q_ts (iv 155) (iv 160)) (iv 155) e)] (pz_u1 (pz_u1 (pz_u1 (pz_u1 (pz_u1 iv 154 (q_zw (iv 155) (iv 161) (iv 157) (iv 158) (iv 159) (iv 154))) 157 ((q_zX (iv 155) (iv 161) (iv 157) (iv 158) (iv 159)).2.2)) 158 ((q_zX (iv 155) (iv 161) (iv 157) (iv 158) (iv 159)).1)) 159 ((q_zX (iv 155) (iv 161) (iv 157) (iv 158) (iv 159)).2.1)) 160 (q_ts (iv 155) (iv 160))) (.inl (some (.inl (q_lo ((q_zX (iv 155) (iv 161) (iv 157) (iv 158) (iv 159)).1) (q_ts (iv 155) (iv 160)) (iv 155) e)))) (pz_u1 (pz_u1 (pz_u1 (pz_u1 (pz_u1 iv 154 (pz_up (q_zw (iv 155) (iv 161) (iv 157) (iv 158) (iv 159) (iv 154)) 0 0)) 157 ((q_zX (iv 155) (iv 161) (iv 157) (iv 158) (iv 159)).2.2)) 158 ((q_zX (iv 155) (iv 161) (iv 157) (iv 158) (iv 159)).1)) 159 ((q_zX (iv 155) (iv 161) (iv 157) (iv 158) (iv 159)).2.1)) 160 (q_ts (iv 155) (iv 160))) := pz_R_mem (s_X11_tells (q_lo ((q_zX (iv 155) (iv 161) (iv 157) (iv 158) (iv 159)).1) (q_ts (iv 155) (iv 160)) (iv 155) e)) (by rw [pz_u1_in (r := 154) (q := 160) (by decide)]; rw [pz_u1_in (r := 154) (q := 159) (by decide)]; rw [pz_u1_in (r := 154) (q := 158) (by decide)]; rw [pz_u1_in (r := 154) (q := 157) (by decide)]; rw [pz_u1_top (r := 154)]; rfl)
                 refine w_call hc9 rfl (pz_cokI is_154 rfl) ?_
                 refine w_ret rfl ?_
                 first | exact lf_i (by first | rfl | omega) (by rfl) | (exfalso; omega)))
       · first
         | (exfalso; first | omega | contradiction)
         | (refine w_loc rfl ?_
            refine w_pure rfl ?_
            have hc10 : pz_R (pz_Sh L) 191 [.inr (.inl 154), .inl 2] (pz_u1 (pz_u1 (pz_u1 (pz_u1 (pz_u1 iv 154 (q_zw (iv 155) (iv 161) (iv 157) (iv 158) (iv 159) (iv 154))) 157 ((q_zX (iv 155) (iv 161) (iv 157) (iv 158) (iv 159)).2.2)) 158 ((q_zX (iv 155) (iv 161) (iv 157) (iv 158) (iv 159)).1)) 159 ((q_zX (iv 155) (iv 161) (iv 157) (iv 158) (iv 159)).2.1)) 160 (q_ts (iv 155) (iv 160))) (.inl (some (.inl 0))) (pz_u1 (pz_u1 (pz_u1 (pz_u1 (pz_u1 iv 154 (pz_up (q_zw (iv 155) (iv 161) (iv 157) (iv 158) (iv 159) (iv 154)) 0 2)) 157 ((q_zX (iv 155) (iv 161) (iv 157) (iv 158) (iv 159)).2.2)) 158 ((q_zX (iv 155) (iv 161) (iv 157) (iv 158) (iv 159)).1)) 159 ((q_zX (iv 155) (iv 161) (iv 157) (iv 158) (iv 159)).2.1)) 160 (q_ts (iv 155) (iv 160))) := pz_R_mem (s_X11_fails 2) (by rw [pz_u1_in (r := 154) (q := 160) (by decide)]; rw [pz_u1_in (r := 154) (q := 159) (by decide)]; rw [pz_u1_in (r := 154) (q := 158) (by decide)]; rw [pz_u1_in (r := 154) (q := 157) (by decide)]; rw [pz_u1_top (r := 154)]; rfl)
            refine w_call hc10 rfl (pz_cokI is_154 rfl) ?_
            refine w_ret rfl ?_
            first | exact lf_i (by first | rfl | omega) (by rfl) | (exfalso; omega)))
  · first
    | (exfalso; first | omega | contradiction)
    | (refine w_loc rfl ?_
       refine w_loc rfl ?_
       have hc11 : pz_R (pz_Sh L) 191 [.inr (.inl 154), .inl 2] (pz_u1 (pz_u1 (pz_u1 (pz_u1 (pz_u1 iv 154 (q_zw (iv 155) (iv 161) (iv 157) (iv 158) (iv 159) (iv 154))) 157 ((q_zX (iv 155) (iv 161) (iv 157) (iv 158) (iv 159)).2.2)) 158 ((q_zX (iv 155) (iv 161) (iv 157) (iv 158) (iv 159)).1)) 159 ((q_zX (iv 155) (iv 161) (iv 157) (iv 158) (iv 159)).2.1)) 160 (q_ts (iv 155) (iv 160))) (.inl (some (.inl 0))) (pz_u1 (pz_u1 (pz_u1 (pz_u1 (pz_u1 iv 154 (pz_up (q_zw (iv 155) (iv 161) (iv 157) (iv 158) (iv 159) (iv 154)) 0 2)) 157 ((q_zX (iv 155) (iv 161) (iv 157) (iv 158) (iv 159)).2.2)) 158 ((q_zX (iv 155) (iv 161) (iv 157) (iv 158) (iv 159)).1)) 159 ((q_zX (iv 155) (iv 161) (iv 157) (iv 158) (iv 159)).2.1)) 160 (q_ts (iv 155) (iv 160))) := pz_R_mem (s_X11_fails 2) (by rw [pz_u1_in (r := 154) (q := 160) (by decide)]; rw [pz_u1_in (r := 154) (q := 159) (by decide)]; rw [pz_u1_in (r := 154) (q := 158) (by decide)]; rw [pz_u1_in (r := 154) (q := 157) (by decide)]; rw [pz_u1_top (r := 154)]; rfl)
       refine w_call hc11 rfl (pz_cokI is_154 rfl) ?_
       refine w_ret rfl ?_
       first | exact lf_i (by first | rfl | omega) (by rfl) | (exfalso; omega))

theorem s_X11_lowest_2 {L : Nat} {iv : Nat → Nat → Int} (e : Int) (hk : q_KR (iv 155)) (hcase0 : 0 ≤ e ∧ e ≤ iv 155 0 - 1) (hcase1 : ¬ q_seen (iv 155) (iv 161) (iv 157) (iv 158) (iv 159)) : pz_R (pz_Sh L) 271 [.inr (.inl 154), .inl e] iv (.inl (some (.inl 0))) (pz_u1 (pz_u1 (pz_u1 (pz_u1 (pz_u1 iv 154 (pz_up (q_zw (iv 155) (iv 161) (iv 157) (iv 158) (iv 159) (iv 154)) 0 2)) 157 ((q_zX (iv 155) (iv 161) (iv 157) (iv 158) (iv 159)).2.2)) 158 ((q_zX (iv 155) (iv 161) (iv 157) (iv 158) (iv 159)).1)) 159 ((q_zX (iv 155) (iv 161) (iv 157) (iv 158) (iv 159)).2.1)) 160 (q_ts (iv 155) (iv 160))) := by
  intro dv cc ss
  have hk0 := hk.r0
  refine pz_G_mem (iv2 := pz_u1 (pz_u1 (pz_u1 (pz_u1 (pz_u1 iv 154 (iv 154)) 157 (iv 157)) 158 (iv 158)) 159 (iv 159)) 160 (iv 160)) (by exact (((((pz_u1_self iv 154).symm).trans (pz_u1_self (pz_u1 iv 154 (iv 154)) 157).symm).trans (pz_u1_self (pz_u1 (pz_u1 iv 154 (iv 154)) 157 (iv 157)) 158).symm).trans (pz_u1_self (pz_u1 (pz_u1 (pz_u1 iv 154 (iv 154)) 157 (iv 157)) 158 (iv 158)) 159).symm).trans (pz_u1_self (pz_u1 (pz_u1 (pz_u1 (pz_u1 iv 154 (iv 154)) 157 (iv 157)) 158 (iv 158)) 159 (iv 159)) 160).symm) ?_
  show pz_G 271 0 [some (.inr (.inl 154)), some (.inl e)] [] (pz_Sh L, pz_u1 (pz_u1 (pz_u1 (pz_u1 (pz_u1 iv 154 (iv 154)) 157 (iv 157)) 158 (iv 158)) 159 (iv 159)) 160 (iv 160), dv, cc, ss) (pz_P (pz_Sh L) (.inl (some (.inl 0))) (pz_u1 (pz_u1 (pz_u1 (pz_u1 (pz_u1 iv 154 (pz_up (q_zw (iv 155) (iv 161) (iv 157) (iv 158) (iv 159) (iv 154)) 0 2)) 157 ((q_zX (iv 155) (iv 161) (iv 157) (iv 158) (iv 159)).2.2)) 158 ((q_zX (iv 155) (iv 161) (iv 157) (iv 158) (iv 159)).1)) 159 ((q_zX (iv 155) (iv 161) (iv 157) (iv 158) (iv 159)).2.1)) 160 (q_ts (iv 155) (iv 160))) dv cc ss)
  refine pz_G_of pz_b271_0 ?_
  refine w_loc rfl ?_
  refine w_loc rfl ?_
  refine w_pure rfl ?_
  have hc1 : pz_R (pz_Sh L) 270 [.inr (.inl 154), .inl e, .inl 1] (pz_u1 (pz_u1 (pz_u1 (pz_u1 (pz_u1 iv 154 (iv 154)) 157 (iv 157)) 158 (iv 158)) 159 (iv 159)) 160 (iv 160)) (.inl (some (.inl 0))) (pz_u1 (pz_u1 (pz_u1 (pz_u1 (pz_u1 iv 154 (pz_up (q_zw (iv 155) (iv 161) (iv 157) (iv 158) (iv 159) (iv 154)) 0 2)) 157 ((q_zX (iv 155) (iv 161) (iv 157) (iv 158) (iv 159)).2.2)) 158 ((q_zX (iv 155) (iv 161) (iv 157) (iv 158) (iv 159)).1)) 159 ((q_zX (iv 155) (iv 161) (iv 157) (iv 158) (iv 159)).2.1)) 160 (q_ts (iv 155) (iv 160))) := pz_R_mem (s_X11_window_2lo e 1 (by show q_KR (iv 155); exact hk) (by show 0 ≤ e ∧ e ≤ iv 155 0 - 1; first | assumption | omega) (by show ¬ q_seen (iv 155) (iv 161) (iv 157) (iv 158) (iv 159); first | assumption | omega) (by show 1 = 1; rfl)) (by rw [pz_u1_in (r := 154) (q := 160) (by decide)]; rw [pz_u1_in (r := 154) (q := 159) (by decide)]; rw [pz_u1_in (r := 154) (q := 158) (by decide)]; rw [pz_u1_in (r := 154) (q := 157) (by decide)]; rw [pz_u1_top (r := 154)]; rw [pz_u1_in (r := 157) (q := 160) (by decide)]; rw [pz_u1_in (r := 157) (q := 159) (by decide)]; rw [pz_u1_in (r := 157) (q := 158) (by decide)]; rw [pz_u1_top (r := 157)]; rw [pz_u1_in (r := 158) (q := 160) (by decide)]; rw [pz_u1_in (r := 158) (q := 159) (by decide)]; rw [pz_u1_top (r := 158)]; rw [pz_u1_in (r := 159) (q := 160) (by decide)]; rw [pz_u1_top (r := 159)]; rw [pz_u1_top (r := 160)]; rfl)
  refine w_call hc1 rfl (pz_cokI is_154 rfl) ?_
  refine w_ret rfl ?_
  first | exact lf_i (by first | rfl | omega) (by rfl) | (exfalso; omega)

theorem s_X11_window_3lo {L : Nat} {iv : Nat → Nat → Int} (e : Int) (z : Int) (hk : q_KR (iv 155)) (hcase0 : 0 ≤ e ∧ e ≤ iv 155 0 - 1) (hcase1 : q_seen (iv 155) (iv 161) (iv 157) (iv 158) (iv 159)) (hcase2 : q_sta (iv 155) e) (hcase3 : z = 1) : pz_R (pz_Sh L) 270 [.inr (.inl 154), .inl e, .inl z] iv (.inl (some (.inl 0))) (pz_u1 (pz_u1 (pz_u1 (pz_u1 (pz_u1 iv 154 (pz_up (q_zw (iv 155) (iv 161) (iv 157) (iv 158) (iv 159) (iv 154)) 0 2)) 157 ((q_zX (iv 155) (iv 161) (iv 157) (iv 158) (iv 159)).2.2)) 158 ((q_zX (iv 155) (iv 161) (iv 157) (iv 158) (iv 159)).1)) 159 ((q_zX (iv 155) (iv 161) (iv 157) (iv 158) (iv 159)).2.1)) 160 (q_ts (iv 155) (iv 160))) := by
  intro dv cc ss
  have hk0 := hk.r0
  refine pz_G_mem (iv2 := pz_u1 (pz_u1 (pz_u1 (pz_u1 (pz_u1 iv 154 (iv 154)) 157 (iv 157)) 158 (iv 158)) 159 (iv 159)) 160 (iv 160)) (by exact (((((pz_u1_self iv 154).symm).trans (pz_u1_self (pz_u1 iv 154 (iv 154)) 157).symm).trans (pz_u1_self (pz_u1 (pz_u1 iv 154 (iv 154)) 157 (iv 157)) 158).symm).trans (pz_u1_self (pz_u1 (pz_u1 (pz_u1 iv 154 (iv 154)) 157 (iv 157)) 158 (iv 158)) 159).symm).trans (pz_u1_self (pz_u1 (pz_u1 (pz_u1 (pz_u1 iv 154 (iv 154)) 157 (iv 157)) 158 (iv 158)) 159 (iv 159)) 160).symm) ?_
  show pz_G 270 0 [some (.inr (.inl 154)), some (.inl e), some (.inl z), none] [] (pz_Sh L, pz_u1 (pz_u1 (pz_u1 (pz_u1 (pz_u1 iv 154 (iv 154)) 157 (iv 157)) 158 (iv 158)) 159 (iv 159)) 160 (iv 160), dv, cc, ss) (pz_P (pz_Sh L) (.inl (some (.inl 0))) (pz_u1 (pz_u1 (pz_u1 (pz_u1 (pz_u1 iv 154 (pz_up (q_zw (iv 155) (iv 161) (iv 157) (iv 158) (iv 159) (iv 154)) 0 2)) 157 ((q_zX (iv 155) (iv 161) (iv 157) (iv 158) (iv 159)).2.2)) 158 ((q_zX (iv 155) (iv 161) (iv 157) (iv 158) (iv 159)).1)) 159 ((q_zX (iv 155) (iv 161) (iv 157) (iv 158) (iv 159)).2.1)) 160 (q_ts (iv 155) (iv 160))) dv cc ss)
  refine pz_G_of pz_b270_0 ?_
  refine w_loc rfl ?_
  refine w_loc rfl ?_
  have hc1 : pz_R (pz_Sh L) 268 [.inr (.inl 154), .inl e] (pz_u1 (pz_u1 (pz_u1 (pz_u1 (pz_u1 iv 154 (iv 154)) 157 (iv 157)) 158 (iv 158)) 159 (iv 159)) 160 (iv 160)) (.inl (some (.inl 0))) (pz_u1 (pz_u1 (pz_u1 (pz_u1 (pz_u1 iv 154 (q_zw (iv 155) (iv 161) (iv 157) (iv 158) (iv 159) (iv 154))) 157 ((q_zX (iv 155) (iv 161) (iv 157) (iv 158) (iv 159)).2.2)) 158 ((q_zX (iv 155) (iv 161) (iv 157) (iv 158) (iv 159)).1)) 159 ((q_zX (iv 155) (iv 161) (iv 157) (iv 158) (iv 159)).2.1)) 160 (q_ts (iv 155) (iv 160))) := pz_R_mem (s_X11_wrongSeen_0 e (by show q_KR (iv 155); exact hk) (by show 0 ≤ e ∧ e ≤ iv 155 0 - 1; first | assumption | omega) (by show q_seen (iv 155) (iv 161) (iv 157) (iv 158) (iv 159); first | assumption | omega)) (by rw [pz_u1_in (r := 154) (q := 160) (by decide)]; rw [pz_u1_in (r := 154) (q := 159) (by decide)]; rw [pz_u1_in (r := 154) (q := 158) (by decide)]; rw [pz_u1_in (r := 154) (q := 157) (by decide)]; rw [pz_u1_top (r := 154)]; rw [pz_u1_in (r := 157) (q := 160) (by decide)]; rw [pz_u1_in (r := 157) (q := 159) (by decide)]; rw [pz_u1_in (r := 157) (q := 158) (by decide)]; rw [pz_u1_top (r := 157)]; rw [pz_u1_in (r := 158) (q := 160) (by decide)]; rw [pz_u1_in (r := 158) (q := 159) (by decide)]; rw [pz_u1_top (r := 158)]; rw [pz_u1_in (r := 159) (q := 160) (by decide)]; rw [pz_u1_top (r := 159)]; rw [pz_u1_top (r := 160)]; rfl)
  refine w_call hc1 rfl (pz_cokI is_154 rfl) ?_
  refine w_loc (ls' := [some (.inr (.inl 154)), some (.inl e), some (.inl z), some (.inl 0)]) (st' := []) rfl ?_
  refine w_loc rfl ?_
  refine w_zle (fun h2 => ?_) (fun h2 => ?_)
  · first
    | (exfalso; first | omega | contradiction)
    | (refine pz_G_of pz_b270_16 ?_
       refine w_loc rfl ?_
       refine w_loc rfl ?_
       have hc3 : pz_R (pz_Sh L) 196 [.inr (.inl 154), .inl e] (pz_u1 (pz_u1 (pz_u1 (pz_u1 (pz_u1 iv 154 (q_zw (iv 155) (iv 161) (iv 157) (iv 158) (iv 159) (iv 154))) 157 ((q_zX (iv 155) (iv 161) (iv 157) (iv 158) (iv 159)).2.2)) 158 ((q_zX (iv 155) (iv 161) (iv 157) (iv 158) (iv 159)).1)) 159 ((q_zX (iv 155) (iv 161) (iv 157) (iv 158) (iv 159)).2.1)) 160 (q_ts (iv 155) (iv 160))) (.inl (some (.inl (pz_bi (q_sta (iv 155) e))))) (pz_u1 (pz_u1 (pz_u1 (pz_u1 (pz_u1 iv 154 (q_zw (iv 155) (iv 161) (iv 157) (iv 158) (iv 159) (iv 154))) 157 ((q_zX (iv 155) (iv 161) (iv 157) (iv 158) (iv 159)).2.2)) 158 ((q_zX (iv 155) (iv 161) (iv 157) (iv 158) (iv 159)).1)) 159 ((q_zX (iv 155) (iv 161) (iv 157) (iv 158) (iv 159)).2.1)) 160 (q_ts (iv 155) (iv 160))) := s_X11_hasStarted e (by show 0 ≤ e ∧ e ≤ 9; omega)
       refine w_call hc3 rfl (pz_cokI is_154 rfl) ?_
       refine w_beq (fun h4 => ?_) (fun h4 => ?_)
       · first
         | (exfalso; first | omega | contradiction)
         | (refine pz_G_of pz_b270_30 ?_
            refine w_loc rfl ?_
            refine w_loc rfl ?_
            refine w_zeq (fun h5 => ?_) (fun h5 => ?_)
            · first
              | (exfalso; first | omega | contradiction)
              | (refine pz_G_of pz_b270_43 ?_
                 refine w_loc rfl ?_
                 refine w_loc rfl ?_
                 have hc6 : pz_R (pz_Sh L) 254 [.inr (.inl 154), .inl e] (pz_u1 (pz_u1 (pz_u1 (pz_u1 (pz_u1 iv 154 (q_zw (iv 155) (iv 161) (iv 157) (iv 158) (iv 159) (iv 154))) 157 ((q_zX (iv 155) (iv 161) (iv 157) (iv 158) (iv 159)).2.2)) 158 ((q_zX (iv 155) (iv 161) (iv 157) (iv 158) (iv 159)).1)) 159 ((q_zX (iv 155) (iv 161) (iv 157) (iv 158) (iv 159)).2.1)) 160 (q_ts (iv 155) (iv 160))) (.inl (some (.inl (q_hi ((q_zX (iv 155) (iv 161) (iv 157) (iv 158) (iv 159)).1) (q_ts (iv 155) (iv 160)) (iv 155) e)))) (pz_u1 (pz_u1 (pz_u1 (pz_u1 (pz_u1 iv 154 (q_zw (iv 155) (iv 161) (iv 157) (iv 158) (iv 159) (iv 154))) 157 ((q_zX (iv 155) (iv 161) (iv 157) (iv 158) (iv 159)).2.2)) 158 ((q_zX (iv 155) (iv 161) (iv 157) (iv 158) (iv 159)).1)) 159 ((q_zX (iv 155) (iv 161) (iv 157) (iv 158) (iv 159)).2.1)) 160 (q_ts (iv 155) (iv 160))) := s_X11_high e (by show q_KR (iv 155); exact hk) (by show 0 ≤ e ∧ e ≤ 9; omega) (by show q_vl ((q_zX (iv 155) (iv 161) (iv 157) (iv 158) (iv 159)).1); exact q_zv_l hk hcase1) (by show q_al (q_ts (iv 155) (iv 160)); exact q_ts_al hk)
                 refine w_call hc6 rfl (pz_cokI is_154 rfl) ?_
                 refine w_nil ?_
                 refine pz_G_of pz_b270_48 ?_
                 have hc7 : pz_R (pz_Sh L) 192 [.inr (.inl 154), .inl (q_hi ((q_zX (iv 155) (iv 161) (iv 157) (iv 158) (iv 159)).1) (q_ts (iv 155) (iv 160)) (iv 155) e)] (pz_u1 (pz_u1 (pz_u1 (pz_u1 (pz_u1 iv 154 (q_zw (iv 155) (iv 161) (iv 157) (iv 158) (iv 159) (iv 154))) 157 ((q_zX (iv 155) (iv 161) (iv 157) (iv 158) (iv 159)).2.2)) 158 ((q_zX (iv 155) (iv 161) (iv 157) (iv 158) (iv 159)).1)) 159 ((q_zX (iv 155) (iv 161) (iv 157) (iv 158) (iv 159)).2.1)) 160 (q_ts (iv 155) (iv 160))) (.inl (some (.inl (q_hi ((q_zX (iv 155) (iv 161) (iv 157) (iv 158) (iv 159)).1) (q_ts (iv 155) (iv 160)) (iv 155) e)))) (pz_u1 (pz_u1 (pz_u1 (pz_u1 (pz_u1 iv 154 (pz_up (q_zw (iv 155) (iv 161) (iv 157) (iv 158) (iv 159) (iv 154)) 0 0)) 157 ((q_zX (iv 155) (iv 161) (iv 157) (iv 158) (iv 159)).2.2)) 158 ((q_zX (iv 155) (iv 161) (iv 157) (iv 158) (iv 159)).1)) 159 ((q_zX (iv 155) (iv 161) (iv 157) (iv 158) (iv 159)).2.1)) 160 (q_ts (iv 155) (iv 160))) := pz_R_mem (s_X11_tells (q_hi ((q_zX (iv 155) (iv 161) (iv 157) (iv 158) (iv 159)).1) (q_ts (iv 155) (iv 160)) (iv 155) e)) (by rw [pz_u1_in (r := 154) (q := 160) (by decide)]; rw [pz_u1_in (r := 154) (q := 159) (by decide)]; rw [pz_u1_in (r := 154) (q := 158) (by decide)]; rw [pz_u1_in (r := 154) (q := 157) (by decide)]; rw [pz_u1_top (r := 154)]; rfl)
                 refine w_call hc7 rfl (pz_cokI is_154 rfl) ?_
                 refine w_ret rfl ?_
                 first | exact lf_i (by first | rfl | omega) (by rfl) | (exfalso; omega))
            · first
              | (exfalso; first | omega | contradiction)
              | (refine w_loc rfl ?_
                 refine w_loc rfl ?_
                 have hc8 : pz_R (pz_Sh L) 253 [.inr (.inl 154), .inl e] (pz_u1 (pz_u1 (pz_u1 (pz_u1 (pz_u1 iv 154 (q_zw (iv 155) (iv 161) (iv 157) (iv 158) (iv 159) (iv 154))) 157 ((q_zX (iv 155) (iv 161) (iv 157) (iv 158) (iv 159)).2.2)) 158 ((q_zX (iv 155) (iv 161) (iv 157) (iv 158) (iv 159)).1)) 159 ((q_zX (iv 155) (iv 161) (iv 157) (iv 158) (iv 159)).2.1)) 160 (q_ts (iv 155) (iv 160))) (.inl (some (.inl (q_lo ((q_zX (iv 155) (iv 161) (iv 157) (iv 158) (iv 159)).1) (q_ts (iv 155) (iv 160)) (iv 155) e)))) (pz_u1 (pz_u1 (pz_u1 (pz_u1 (pz_u1 iv 154 (q_zw (iv 155) (iv 161) (iv 157) (iv 158) (iv 159) (iv 154))) 157 ((q_zX (iv 155) (iv 161) (iv 157) (iv 158) (iv 159)).2.2)) 158 ((q_zX (iv 155) (iv 161) (iv 157) (iv 158) (iv 159)).1)) 159 ((q_zX (iv 155) (iv 161) (iv 157) (iv 158) (iv 159)).2.1)) 160 (q_ts (iv 155) (iv 160))) := s_X11_low e (by show q_KR (iv 155); exact hk) (by show 0 ≤ e ∧ e ≤ 9; omega) (by show q_vl ((q_zX (iv 155) (iv 161) (iv 157) (iv 158) (iv 159)).1); exact q_zv_l hk hcase1) (by show q_al (q_ts (iv 155) (iv 160)); exact q_ts_al hk)
                 refine w_call hc8 rfl (pz_cokI is_154 rfl) ?_
                 refine w_goto ?_
                 refine pz_G_of pz_b270_48 ?_
                 have hc9 : pz_R (pz_Sh L) 192 [.inr (.inl 154), .inl (q_lo ((q_zX (iv 155) (iv 161) (iv 157) (iv 158) (iv 159)).1) (q_ts (iv 155) (iv 160)) (iv 155) e)] (pz_u1 (pz_u1 (pz_u1 (pz_u1 (pz_u1 iv 154 (q_zw (iv 155) (iv 161) (iv 157) (iv 158) (iv 159) (iv 154))) 157 ((q_zX (iv 155) (iv 161) (iv 157) (iv 158) (iv 159)).2.2)) 158 ((q_zX (iv 155) (iv 161) (iv 157) (iv 158) (iv 159)).1)) 159 ((q_zX (iv 155) (iv 161) (iv 157) (iv 158) (iv 159)).2.1)) 160 (q_ts (iv 155) (iv 160))) (.inl (some (.inl (q_lo ((q_zX (iv 155) (iv 161) (iv 157) (iv 158) (iv 159)).1) (q_ts (iv 155) (iv 160)) (iv 155) e)))) (pz_u1 (pz_u1 (pz_u1 (pz_u1 (pz_u1 iv 154 (pz_up (q_zw (iv 155) (iv 161) (iv 157) (iv 158) (iv 159) (iv 154)) 0 0)) 157 ((q_zX (iv 155) (iv 161) (iv 157) (iv 158) (iv 159)).2.2)) 158 ((q_zX (iv 155) (iv 161) (iv 157) (iv 158) (iv 159)).1)) 159 ((q_zX (iv 155) (iv 161) (iv 157) (iv 158) (iv 159)).2.1)) 160 (q_ts (iv 155) (iv 160))) := pz_R_mem (s_X11_tells (q_lo ((q_zX (iv 155) (iv 161) (iv 157) (iv 158) (iv 159)).1) (q_ts (iv 155) (iv 160)) (iv 155) e)) (by rw [pz_u1_in (r := 154) (q := 160) (by decide)]; rw [pz_u1_in (r := 154) (q := 159) (by decide)]; rw [pz_u1_in (r := 154) (q := 158) (by decide)]; rw [pz_u1_in (r := 154) (q := 157) (by decide)]; rw [pz_u1_top (r := 154)]; rfl)
                 refine w_call hc9 rfl (pz_cokI is_154 rfl) ?_
                 refine w_ret rfl ?_
                 first | exact lf_i (by first | rfl | omega) (by rfl) | (exfalso; omega)))
       · first
         | (exfalso; first | omega | contradiction)
         | (refine w_loc rfl ?_
            refine w_pure rfl ?_
            have hc10 : pz_R (pz_Sh L) 191 [.inr (.inl 154), .inl 2] (pz_u1 (pz_u1 (pz_u1 (pz_u1 (pz_u1 iv 154 (q_zw (iv 155) (iv 161) (iv 157) (iv 158) (iv 159) (iv 154))) 157 ((q_zX (iv 155) (iv 161) (iv 157) (iv 158) (iv 159)).2.2)) 158 ((q_zX (iv 155) (iv 161) (iv 157) (iv 158) (iv 159)).1)) 159 ((q_zX (iv 155) (iv 161) (iv 157) (iv 158) (iv 159)).2.1)) 160 (q_ts (iv 155) (iv 160))) (.inl (some (.inl 0))) (pz_u1 (pz_u1 (pz_u1 (pz_u1 (pz_u1 iv 154 (pz_up (q_zw (iv 155) (iv 161) (iv 157) (iv 158) (iv 159) (iv 154)) 0 2)) 157 ((q_zX (iv 155) (iv 161) (iv 157) (iv 158) (iv 159)).2.2)) 158 ((q_zX (iv 155) (iv 161) (iv 157) (iv 158) (iv 159)).1)) 159 ((q_zX (iv 155) (iv 161) (iv 157) (iv 158) (iv 159)).2.1)) 160 (q_ts (iv 155) (iv 160))) := pz_R_mem (s_X11_fails 2) (by rw [pz_u1_in (r := 154) (q := 160) (by decide)]; rw [pz_u1_in (r := 154) (q := 159) (by decide)]; rw [pz_u1_in (r := 154) (q := 158) (by decide)]; rw [pz_u1_in (r := 154) (q := 157) (by decide)]; rw [pz_u1_top (r := 154)]; rfl)
            refine w_call hc10 rfl (pz_cokI is_154 rfl) ?_
            refine w_ret rfl ?_
            first | exact lf_i (by first | rfl | omega) (by rfl) | (exfalso; omega)))
  · first
    | (exfalso; first | omega | contradiction)
    | (refine w_loc rfl ?_
       refine w_loc rfl ?_
       have hc11 : pz_R (pz_Sh L) 191 [.inr (.inl 154), .inl 0] (pz_u1 (pz_u1 (pz_u1 (pz_u1 (pz_u1 iv 154 (q_zw (iv 155) (iv 161) (iv 157) (iv 158) (iv 159) (iv 154))) 157 ((q_zX (iv 155) (iv 161) (iv 157) (iv 158) (iv 159)).2.2)) 158 ((q_zX (iv 155) (iv 161) (iv 157) (iv 158) (iv 159)).1)) 159 ((q_zX (iv 155) (iv 161) (iv 157) (iv 158) (iv 159)).2.1)) 160 (q_ts (iv 155) (iv 160))) (.inl (some (.inl 0))) (pz_u1 (pz_u1 (pz_u1 (pz_u1 (pz_u1 iv 154 (pz_up (q_zw (iv 155) (iv 161) (iv 157) (iv 158) (iv 159) (iv 154)) 0 0)) 157 ((q_zX (iv 155) (iv 161) (iv 157) (iv 158) (iv 159)).2.2)) 158 ((q_zX (iv 155) (iv 161) (iv 157) (iv 158) (iv 159)).1)) 159 ((q_zX (iv 155) (iv 161) (iv 157) (iv 158) (iv 159)).2.1)) 160 (q_ts (iv 155) (iv 160))) := pz_R_mem (s_X11_fails 0) (by rw [pz_u1_in (r := 154) (q := 160) (by decide)]; rw [pz_u1_in (r := 154) (q := 159) (by decide)]; rw [pz_u1_in (r := 154) (q := 158) (by decide)]; rw [pz_u1_in (r := 154) (q := 157) (by decide)]; rw [pz_u1_top (r := 154)]; rfl)
       refine w_call hc11 rfl (pz_cokI is_154 rfl) ?_
       refine w_ret rfl ?_
       first | exact lf_i (by first | rfl | omega) (by rfl) | (exfalso; omega))

theorem s_X11_lowest_3 {L : Nat} {iv : Nat → Nat → Int} (e : Int) (hk : q_KR (iv 155)) (hcase0 : 0 ≤ e ∧ e ≤ iv 155 0 - 1) (hcase1 : q_seen (iv 155) (iv 161) (iv 157) (iv 158) (iv 159)) (hcase2 : q_sta (iv 155) e) : pz_R (pz_Sh L) 271 [.inr (.inl 154), .inl e] iv (.inl (some (.inl 0))) (pz_u1 (pz_u1 (pz_u1 (pz_u1 (pz_u1 iv 154 (pz_up (q_zw (iv 155) (iv 161) (iv 157) (iv 158) (iv 159) (iv 154)) 0 2)) 157 ((q_zX (iv 155) (iv 161) (iv 157) (iv 158) (iv 159)).2.2)) 158 ((q_zX (iv 155) (iv 161) (iv 157) (iv 158) (iv 159)).1)) 159 ((q_zX (iv 155) (iv 161) (iv 157) (iv 158) (iv 159)).2.1)) 160 (q_ts (iv 155) (iv 160))) := by
  intro dv cc ss
  have hk0 := hk.r0
  refine pz_G_mem (iv2 := pz_u1 (pz_u1 (pz_u1 (pz_u1 (pz_u1 iv 154 (iv 154)) 157 (iv 157)) 158 (iv 158)) 159 (iv 159)) 160 (iv 160)) (by exact (((((pz_u1_self iv 154).symm).trans (pz_u1_self (pz_u1 iv 154 (iv 154)) 157).symm).trans (pz_u1_self (pz_u1 (pz_u1 iv 154 (iv 154)) 157 (iv 157)) 158).symm).trans (pz_u1_self (pz_u1 (pz_u1 (pz_u1 iv 154 (iv 154)) 157 (iv 157)) 158 (iv 158)) 159).symm).trans (pz_u1_self (pz_u1 (pz_u1 (pz_u1 (pz_u1 iv 154 (iv 154)) 157 (iv 157)) 158 (iv 158)) 159 (iv 159)) 160).symm) ?_
  show pz_G 271 0 [some (.inr (.inl 154)), some (.inl e)] [] (pz_Sh L, pz_u1 (pz_u1 (pz_u1 (pz_u1 (pz_u1 iv 154 (iv 154)) 157 (iv 157)) 158 (iv 158)) 159 (iv 159)) 160 (iv 160), dv, cc, ss) (pz_P (pz_Sh L) (.inl (some (.inl 0))) (pz_u1 (pz_u1 (pz_u1 (pz_u1 (pz_u1 iv 154 (pz_up (q_zw (iv 155) (iv 161) (iv 157) (iv 158) (iv 159) (iv 154)) 0 2)) 157 ((q_zX (iv 155) (iv 161) (iv 157) (iv 158) (iv 159)).2.2)) 158 ((q_zX (iv 155) (iv 161) (iv 157) (iv 158) (iv 159)).1)) 159 ((q_zX (iv 155) (iv 161) (iv 157) (iv 158) (iv 159)).2.1)) 160 (q_ts (iv 155) (iv 160))) dv cc ss)
  refine pz_G_of pz_b271_0 ?_
  refine w_loc rfl ?_
  refine w_loc rfl ?_
  refine w_pure rfl ?_
  have hc1 : pz_R (pz_Sh L) 270 [.inr (.inl 154), .inl e, .inl 1] (pz_u1 (pz_u1 (pz_u1 (pz_u1 (pz_u1 iv 154 (iv 154)) 157 (iv 157)) 158 (iv 158)) 159 (iv 159)) 160 (iv 160)) (.inl (some (.inl 0))) (pz_u1 (pz_u1 (pz_u1 (pz_u1 (pz_u1 iv 154 (pz_up (q_zw (iv 155) (iv 161) (iv 157) (iv 158) (iv 159) (iv 154)) 0 2)) 157 ((q_zX (iv 155) (iv 161) (iv 157) (iv 158) (iv 159)).2.2)) 158 ((q_zX (iv 155) (iv 161) (iv 157) (iv 158) (iv 159)).1)) 159 ((q_zX (iv 155) (iv 161) (iv 157) (iv 158) (iv 159)).2.1)) 160 (q_ts (iv 155) (iv 160))) := pz_R_mem (s_X11_window_3lo e 1 (by show q_KR (iv 155); exact hk) (by show 0 ≤ e ∧ e ≤ iv 155 0 - 1; first | assumption | omega) (by show q_seen (iv 155) (iv 161) (iv 157) (iv 158) (iv 159); first | assumption | omega) (by show q_sta (iv 155) e; first | assumption | omega) (by show 1 = 1; rfl)) (by rw [pz_u1_in (r := 154) (q := 160) (by decide)]; rw [pz_u1_in (r := 154) (q := 159) (by decide)]; rw [pz_u1_in (r := 154) (q := 158) (by decide)]; rw [pz_u1_in (r := 154) (q := 157) (by decide)]; rw [pz_u1_top (r := 154)]; rw [pz_u1_in (r := 157) (q := 160) (by decide)]; rw [pz_u1_in (r := 157) (q := 159) (by decide)]; rw [pz_u1_in (r := 157) (q := 158) (by decide)]; rw [pz_u1_top (r := 157)]; rw [pz_u1_in (r := 158) (q := 160) (by decide)]; rw [pz_u1_in (r := 158) (q := 159) (by decide)]; rw [pz_u1_top (r := 158)]; rw [pz_u1_in (r := 159) (q := 160) (by decide)]; rw [pz_u1_top (r := 159)]; rw [pz_u1_top (r := 160)]; rfl)
  refine w_call hc1 rfl (pz_cokI is_154 rfl) ?_
  refine w_ret rfl ?_
  first | exact lf_i (by first | rfl | omega) (by rfl) | (exfalso; omega)

theorem s_X11_window_0lo {L : Nat} {iv : Nat → Nat → Int} (e : Int) (z : Int) (hk : q_KR (iv 155)) (hcase0 : 0 ≤ e ∧ e ≤ iv 155 0 - 1) (hcase1 : q_seen (iv 155) (iv 161) (iv 157) (iv 158) (iv 159)) (hcase2 : ¬ q_sta (iv 155) e) (hcase3 : z = 1) : pz_R (pz_Sh L) 270 [.inr (.inl 154), .inl e, .inl z] iv (.inl (some (.inl (q_lo (q_zX (iv 155) (iv 161) (iv 157) (iv 158) (iv 159)).1 (q_ts (iv 155) (iv 160)) (iv 155) e)))) (pz_u1 (pz_u1 (pz_u1 (pz_u1 (pz_u1 iv 154 (pz_up (q_zw (iv 155) (iv 161) (iv 157) (iv 158) (iv 159) (iv 154)) 0 0)) 157 ((q_zX (iv 155) (iv 161) (iv 157) (iv 158) (iv 159)).2.2)) 158 ((q_zX (iv 155) (iv 161) (iv 157) (iv 158) (iv 159)).1)) 159 ((q_zX (iv 155) (iv 161) (iv 157) (iv 158) (iv 159)).2.1)) 160 (q_ts (iv 155) (iv 160))) := by
  intro dv cc ss
  have hk0 := hk.r0
  refine pz_G_mem (iv2 := pz_u1 (pz_u1 (pz_u1 (pz_u1 (pz_u1 iv 154 (iv 154)) 157 (iv 157)) 158 (iv 158)) 159 (iv 159)) 160 (iv 160)) (by exact (((((pz_u1_self iv 154).symm).trans (pz_u1_self (pz_u1 iv 154 (iv 154)) 157).symm).trans (pz_u1_self (pz_u1 (pz_u1 iv 154 (iv 154)) 157 (iv 157)) 158).symm).trans (pz_u1_self (pz_u1 (pz_u1 (pz_u1 iv 154 (iv 154)) 157 (iv 157)) 158 (iv 158)) 159).symm).trans (pz_u1_self (pz_u1 (pz_u1 (pz_u1 (pz_u1 iv 154 (iv 154)) 157 (iv 157)) 158 (iv 158)) 159 (iv 159)) 160).symm) ?_
  show pz_G 270 0 [some (.inr (.inl 154)), some (.inl e), some (.inl z), none] [] (pz_Sh L, pz_u1 (pz_u1 (pz_u1 (pz_u1 (pz_u1 iv 154 (iv 154)) 157 (iv 157)) 158 (iv 158)) 159 (iv 159)) 160 (iv 160), dv, cc, ss) (pz_P (pz_Sh L) (.inl (some (.inl (q_lo (q_zX (iv 155) (iv 161) (iv 157) (iv 158) (iv 159)).1 (q_ts (iv 155) (iv 160)) (iv 155) e)))) (pz_u1 (pz_u1 (pz_u1 (pz_u1 (pz_u1 iv 154 (pz_up (q_zw (iv 155) (iv 161) (iv 157) (iv 158) (iv 159) (iv 154)) 0 0)) 157 ((q_zX (iv 155) (iv 161) (iv 157) (iv 158) (iv 159)).2.2)) 158 ((q_zX (iv 155) (iv 161) (iv 157) (iv 158) (iv 159)).1)) 159 ((q_zX (iv 155) (iv 161) (iv 157) (iv 158) (iv 159)).2.1)) 160 (q_ts (iv 155) (iv 160))) dv cc ss)
  refine pz_G_of pz_b270_0 ?_
  refine w_loc rfl ?_
  refine w_loc rfl ?_
  have hc1 : pz_R (pz_Sh L) 268 [.inr (.inl 154), .inl e] (pz_u1 (pz_u1 (pz_u1 (pz_u1 (pz_u1 iv 154 (iv 154)) 157 (iv 157)) 158 (iv 158)) 159 (iv 159)) 160 (iv 160)) (.inl (some (.inl 0))) (pz_u1 (pz_u1 (pz_u1 (pz_u1 (pz_u1 iv 154 (q_zw (iv 155) (iv 161) (iv 157) (iv 158) (iv 159) (iv 154))) 157 ((q_zX (iv 155) (iv 161) (iv 157) (iv 158) (iv 159)).2.2)) 158 ((q_zX (iv 155) (iv 161) (iv 157) (iv 158) (iv 159)).1)) 159 ((q_zX (iv 155) (iv 161) (iv 157) (iv 158) (iv 159)).2.1)) 160 (q_ts (iv 155) (iv 160))) := pz_R_mem (s_X11_wrongSeen_0 e (by show q_KR (iv 155); exact hk) (by show 0 ≤ e ∧ e ≤ iv 155 0 - 1; first | assumption | omega) (by show q_seen (iv 155) (iv 161) (iv 157) (iv 158) (iv 159); first | assumption | omega)) (by rw [pz_u1_in (r := 154) (q := 160) (by decide)]; rw [pz_u1_in (r := 154) (q := 159) (by decide)]; rw [pz_u1_in (r := 154) (q := 158) (by decide)]; rw [pz_u1_in (r := 154) (q := 157) (by decide)]; rw [pz_u1_top (r := 154)]; rw [pz_u1_in (r := 157) (q := 160) (by decide)]; rw [pz_u1_in (r := 157) (q := 159) (by decide)]; rw [pz_u1_in (r := 157) (q := 158) (by decide)]; rw [pz_u1_top (r := 157)]; rw [pz_u1_in (r := 158) (q := 160) (by decide)]; rw [pz_u1_in (r := 158) (q := 159) (by decide)]; rw [pz_u1_top (r := 158)]; rw [pz_u1_in (r := 159) (q := 160) (by decide)]; rw [pz_u1_top (r := 159)]; rw [pz_u1_top (r := 160)]; rfl)
  refine w_call hc1 rfl (pz_cokI is_154 rfl) ?_
  refine w_loc (ls' := [some (.inr (.inl 154)), some (.inl e), some (.inl z), some (.inl 0)]) (st' := []) rfl ?_
  refine w_loc rfl ?_
  refine w_zle (fun h2 => ?_) (fun h2 => ?_)
  · first
    | (exfalso; first | omega | contradiction)
    | (refine pz_G_of pz_b270_16 ?_
       refine w_loc rfl ?_
       refine w_loc rfl ?_
       have hc3 : pz_R (pz_Sh L) 196 [.inr (.inl 154), .inl e] (pz_u1 (pz_u1 (pz_u1 (pz_u1 (pz_u1 iv 154 (q_zw (iv 155) (iv 161) (iv 157) (iv 158) (iv 159) (iv 154))) 157 ((q_zX (iv 155) (iv 161) (iv 157) (iv 158) (iv 159)).2.2)) 158 ((q_zX (iv 155) (iv 161) (iv 157) (iv 158) (iv 159)).1)) 159 ((q_zX (iv 155) (iv 161) (iv 157) (iv 158) (iv 159)).2.1)) 160 (q_ts (iv 155) (iv 160))) (.inl (some (.inl (pz_bi (q_sta (iv 155) e))))) (pz_u1 (pz_u1 (pz_u1 (pz_u1 (pz_u1 iv 154 (q_zw (iv 155) (iv 161) (iv 157) (iv 158) (iv 159) (iv 154))) 157 ((q_zX (iv 155) (iv 161) (iv 157) (iv 158) (iv 159)).2.2)) 158 ((q_zX (iv 155) (iv 161) (iv 157) (iv 158) (iv 159)).1)) 159 ((q_zX (iv 155) (iv 161) (iv 157) (iv 158) (iv 159)).2.1)) 160 (q_ts (iv 155) (iv 160))) := s_X11_hasStarted e (by show 0 ≤ e ∧ e ≤ 9; omega)
       refine w_call hc3 rfl (pz_cokI is_154 rfl) ?_
       refine w_beq (fun h4 => ?_) (fun h4 => ?_)
       · first
         | (exfalso; first | omega | contradiction)
         | (refine pz_G_of pz_b270_30 ?_
            refine w_loc rfl ?_
            refine w_loc rfl ?_
            refine w_zeq (fun h5 => ?_) (fun h5 => ?_)
            · first
              | (exfalso; first | omega | contradiction)
              | (refine pz_G_of pz_b270_43 ?_
                 refine w_loc rfl ?_
                 refine w_loc rfl ?_
                 have hc6 : pz_R (pz_Sh L) 254 [.inr (.inl 154), .inl e] (pz_u1 (pz_u1 (pz_u1 (pz_u1 (pz_u1 iv 154 (q_zw (iv 155) (iv 161) (iv 157) (iv 158) (iv 159) (iv 154))) 157 ((q_zX (iv 155) (iv 161) (iv 157) (iv 158) (iv 159)).2.2)) 158 ((q_zX (iv 155) (iv 161) (iv 157) (iv 158) (iv 159)).1)) 159 ((q_zX (iv 155) (iv 161) (iv 157) (iv 158) (iv 159)).2.1)) 160 (q_ts (iv 155) (iv 160))) (.inl (some (.inl (q_hi ((q_zX (iv 155) (iv 161) (iv 157) (iv 158) (iv 159)).1) (q_ts (iv 155) (iv 160)) (iv 155) e)))) (pz_u1 (pz_u1 (pz_u1 (pz_u1 (pz_u1 iv 154 (q_zw (iv 155) (iv 161) (iv 157) (iv 158) (iv 159) (iv 154))) 157 ((q_zX (iv 155) (iv 161) (iv 157) (iv 158) (iv 159)).2.2)) 158 ((q_zX (iv 155) (iv 161) (iv 157) (iv 158) (iv 159)).1)) 159 ((q_zX (iv 155) (iv 161) (iv 157) (iv 158) (iv 159)).2.1)) 160 (q_ts (iv 155) (iv 160))) := s_X11_high e (by show q_KR (iv 155); exact hk) (by show 0 ≤ e ∧ e ≤ 9; omega) (by show q_vl ((q_zX (iv 155) (iv 161) (iv 157) (iv 158) (iv 159)).1); exact q_zv_l hk hcase1) (by show q_al (q_ts (iv 155) (iv 160)); exact q_ts_al hk)
                 refine w_call hc6 rfl (pz_cokI is_154 rfl) ?_
                 refine w_nil ?_
                 refine pz_G_of pz_b270_48 ?_
                 have hc7 : pz_R (pz_Sh L) 192 [.inr (.inl 154), .inl (q_hi ((q_zX (iv 155) (iv 161) (iv 157) (iv 158) (iv 159)).1) (q_ts (iv 155) (iv 160)) (iv 155) e)] (pz_u1 (pz_u1 (pz_u1 (pz_u1 (pz_u1 iv 154 (q_zw (iv 155) (iv 161) (iv 157) (iv 158) (iv 159) (iv 154))) 157 ((q_zX (iv 155) (iv 161) (iv 157) (iv 158) (iv 159)).2.2)) 158 ((q_zX (iv 155) (iv 161) (iv 157) (iv 158) (iv 159)).1)) 159 ((q_zX (iv 155) (iv 161) (iv 157) (iv 158) (iv 159)).2.1)) 160 (q_ts (iv 155) (iv 160))) (.inl (some (.inl (q_hi ((q_zX (iv 155) (iv 161) (iv 157) (iv 158) (iv 159)).1) (q_ts (iv 155) (iv 160)) (iv 155) e)))) (pz_u1 (pz_u1 (pz_u1 (pz_u1 (pz_u1 iv 154 (pz_up (q_zw (iv 155) (iv 161) (iv 157) (iv 158) (iv 159) (iv 154)) 0 0)) 157 ((q_zX (iv 155) (iv 161) (iv 157) (iv 158) (iv 159)).2.2)) 158 ((q_zX (iv 155) (iv 161) (iv 157) (iv 158) (iv 159)).1)) 159 ((q_zX (iv 155) (iv 161) (iv 157) (iv 158) (iv 159)).2.1)) 160 (q_ts (iv 155) (iv 160))) := pz_R_mem (s_X11_tells (q_hi ((q_zX (iv 155) (iv 161) (iv 157) (iv 158) (iv 159)).1) (q_ts (iv 155) (iv 160)) (iv 155) e)) (by rw [pz_u1_in (r := 154) (q := 160) (by decide)]; rw [pz_u1_in (r := 154) (q := 159) (by decide)]; rw [pz_u1_in (r := 154) (q := 158) (by decide)]; rw [pz_u1_in (r := 154) (q := 157) (by decide)]; rw [pz_u1_top (r := 154)]; rfl)
                 refine w_call hc7 rfl (pz_cokI is_154 rfl) ?_
                 refine w_ret rfl ?_
                 first | exact lf_i (by first | rfl | omega) (by rfl) | (exfalso; omega))
            · first
              | (exfalso; first | omega | contradiction)
              | (refine w_loc rfl ?_
                 refine w_loc rfl ?_
                 have hc8 : pz_R (pz_Sh L) 253 [.inr (.inl 154), .inl e] (pz_u1 (pz_u1 (pz_u1 (pz_u1 (pz_u1 iv 154 (q_zw (iv 155) (iv 161) (iv 157) (iv 158) (iv 159) (iv 154))) 157 ((q_zX (iv 155) (iv 161) (iv 157) (iv 158) (iv 159)).2.2)) 158 ((q_zX (iv 155) (iv 161) (iv 157) (iv 158) (iv 159)).1)) 159 ((q_zX (iv 155) (iv 161) (iv 157) (iv 158) (iv 159)).2.1)) 160 (q_ts (iv 155) (iv 160))) (.inl (some (.inl (q_lo ((q_zX (iv 155) (iv 161) (iv 157) (iv 158) (iv 159)).1) (q_ts (iv 155) (iv 160)) (iv 155) e)))) (pz_u1 (pz_u1 (pz_u1 (pz_u1 (pz_u1 iv 154 (q_zw (iv 155) (iv 161) (iv 157) (iv 158) (iv 159) (iv 154))) 157 ((q_zX (iv 155) (iv 161) (iv 157) (iv 158) (iv 159)).2.2)) 158 ((q_zX (iv 155) (iv 161) (iv 157) (iv 158) (iv 159)).1)) 159 ((q_zX (iv 155) (iv 161) (iv 157) (iv 158) (iv 159)).2.1)) 160 (q_ts (iv 155) (iv 160))) := s_X11_low e (by show q_KR (iv 155); exact hk) (by show 0 ≤ e ∧ e ≤ 9; omega) (by show q_vl ((q_zX (iv 155) (iv 161) (iv 157) (iv 158) (iv 159)).1); exact q_zv_l hk hcase1) (by show q_al (q_ts (iv 155) (iv 160)); exact q_ts_al hk)
                 refine w_call hc8 rfl (pz_cokI is_154 rfl) ?_
                 refine w_goto ?_
                 refine pz_G_of pz_b270_48 ?_
                 have hc9 : pz_R (pz_Sh L) 192 [.inr (.inl 154), .inl (q_lo ((q_zX (iv 155) (iv 161) (iv 157) (iv 158) (iv 159)).1) (q_ts (iv 155) (iv 160)) (iv 155) e)] (pz_u1 (pz_u1 (pz_u1 (pz_u1 (pz_u1 iv 154 (q_zw (iv 155) (iv 161) (iv 157) (iv 158) (iv 159) (iv 154))) 157 ((q_zX (iv 155) (iv 161) (iv 157) (iv 158) (iv 159)).2.2)) 158 ((q_zX (iv 155) (iv 161) (iv 157) (iv 158) (iv 159)).1)) 159 ((q_zX (iv 155) (iv 161) (iv 157) (iv 158) (iv 159)).2.1)) 160 (q_ts (iv 155) (iv 160))) (.inl (some (.inl (q_lo ((q_zX (iv 155) (iv 161) (iv 157) (iv 158) (iv 159)).1) (q_ts (iv 155) (iv 160)) (iv 155) e)))) (pz_u1 (pz_u1 (pz_u1 (pz_u1 (pz_u1 iv 154 (pz_up (q_zw (iv 155) (iv 161) (iv 157) (iv 158) (iv 159) (iv 154)) 0 0)) 157 ((q_zX (iv 155) (iv 161) (iv 157) (iv 158) (iv 159)).2.2)) 158 ((q_zX (iv 155) (iv 161) (iv 157) (iv 158) (iv 159)).1)) 159 ((q_zX (iv 155) (iv 161) (iv 157) (iv 158) (iv 159)).2.1)) 160 (q_ts (iv 155) (iv 160))) := pz_R_mem (s_X11_tells (q_lo ((q_zX (iv 155) (iv 161) (iv 157) (iv 158) (iv 159)).1) (q_ts (iv 155) (iv 160)) (iv 155) e)) (by rw [pz_u1_in (r := 154) (q := 160) (by decide)]; rw [pz_u1_in (r := 154) (q := 159) (by decide)]; rw [pz_u1_in (r := 154) (q := 158) (by decide)]; rw [pz_u1_in (r := 154) (q := 157) (by decide)]; rw [pz_u1_top (r := 154)]; rfl)
                 refine w_call hc9 rfl (pz_cokI is_154 rfl) ?_
                 refine w_ret rfl ?_
                 first | exact lf_i (by first | rfl | omega) (by rfl) | (exfalso; omega)))
       · first
         | (exfalso; first | omega | contradiction)
         | (refine w_loc rfl ?_
            refine w_pure rfl ?_
            have hc10 : pz_R (pz_Sh L) 191 [.inr (.inl 154), .inl 2] (pz_u1 (pz_u1 (pz_u1 (pz_u1 (pz_u1 iv 154 (q_zw (iv 155) (iv 161) (iv 157) (iv 158) (iv 159) (iv 154))) 157 ((q_zX (iv 155) (iv 161) (iv 157) (iv 158) (iv 159)).2.2)) 158 ((q_zX (iv 155) (iv 161) (iv 157) (iv 158) (iv 159)).1)) 159 ((q_zX (iv 155) (iv 161) (iv 157) (iv 158) (iv 159)).2.1)) 160 (q_ts (iv 155) (iv 160))) (.inl (some (.inl 0))) (pz_u1 (pz_u1 (pz_u1 (pz_u1 (pz_u1 iv 154 (pz_up (q_zw (iv 155) (iv 161) (iv 157) (iv 158) (iv 159) (iv 154)) 0 2)) 157 ((q_zX (iv 155) (iv 161) (iv 157) (iv 158) (iv 159)).2.2)) 158 ((q_zX (iv 155) (iv 161) (iv 157) (iv 158) (iv 159)).1)) 159 ((q_zX (iv 155) (iv 161) (iv 157) (iv 158) (iv 159)).2.1)) 160 (q_ts (iv 155) (iv 160))) := pz_R_mem (s_X11_fails 2) (by rw [pz_u1_in (r := 154) (q := 160) (by decide)]; rw [pz_u1_in (r := 154) (q := 159) (by decide)]; rw [pz_u1_in (r := 154) (q := 158) (by decide)]; rw [pz_u1_in (r := 154) (q := 157) (by decide)]; rw [pz_u1_top (r := 154)]; rfl)
            refine w_call hc10 rfl (pz_cokI is_154 rfl) ?_
            refine w_ret rfl ?_
            first | exact lf_i (by first | rfl | omega) (by rfl) | (exfalso; omega)))
  · first
    | (exfalso; first | omega | contradiction)
    | (refine w_loc rfl ?_
       refine w_loc rfl ?_
       have hc11 : pz_R (pz_Sh L) 191 [.inr (.inl 154), .inl 0] (pz_u1 (pz_u1 (pz_u1 (pz_u1 (pz_u1 iv 154 (q_zw (iv 155) (iv 161) (iv 157) (iv 158) (iv 159) (iv 154))) 157 ((q_zX (iv 155) (iv 161) (iv 157) (iv 158) (iv 159)).2.2)) 158 ((q_zX (iv 155) (iv 161) (iv 157) (iv 158) (iv 159)).1)) 159 ((q_zX (iv 155) (iv 161) (iv 157) (iv 158) (iv 159)).2.1)) 160 (q_ts (iv 155) (iv 160))) (.inl (some (.inl 0))) (pz_u1 (pz_u1 (pz_u1 (pz_u1 (pz_u1 iv 154 (pz_up (q_zw (iv 155) (iv 161) (iv 157) (iv 158) (iv 159) (iv 154)) 0 0)) 157 ((q_zX (iv 155) (iv 161) (iv 157) (iv 158) (iv 159)).2.2)) 158 ((q_zX (iv 155) (iv 161) (iv 157) (iv 158) (iv 159)).1)) 159 ((q_zX (iv 155) (iv 161) (iv 157) (iv 158) (iv 159)).2.1)) 160 (q_ts (iv 155) (iv 160))) := pz_R_mem (s_X11_fails 0) (by rw [pz_u1_in (r := 154) (q := 160) (by decide)]; rw [pz_u1_in (r := 154) (q := 159) (by decide)]; rw [pz_u1_in (r := 154) (q := 158) (by decide)]; rw [pz_u1_in (r := 154) (q := 157) (by decide)]; rw [pz_u1_top (r := 154)]; rfl)
       refine w_call hc11 rfl (pz_cokI is_154 rfl) ?_
       refine w_ret rfl ?_
       first | exact lf_i (by first | rfl | omega) (by rfl) | (exfalso; omega))

theorem s_X11_lowest_0 {L : Nat} {iv : Nat → Nat → Int} (e : Int) (hk : q_KR (iv 155)) (hcase0 : 0 ≤ e ∧ e ≤ iv 155 0 - 1) (hcase1 : q_seen (iv 155) (iv 161) (iv 157) (iv 158) (iv 159)) (hcase2 : ¬ q_sta (iv 155) e) : pz_R (pz_Sh L) 271 [.inr (.inl 154), .inl e] iv (.inl (some (.inl (q_lo (q_zX (iv 155) (iv 161) (iv 157) (iv 158) (iv 159)).1 (q_ts (iv 155) (iv 160)) (iv 155) e)))) (pz_u1 (pz_u1 (pz_u1 (pz_u1 (pz_u1 iv 154 (pz_up (q_zw (iv 155) (iv 161) (iv 157) (iv 158) (iv 159) (iv 154)) 0 0)) 157 ((q_zX (iv 155) (iv 161) (iv 157) (iv 158) (iv 159)).2.2)) 158 ((q_zX (iv 155) (iv 161) (iv 157) (iv 158) (iv 159)).1)) 159 ((q_zX (iv 155) (iv 161) (iv 157) (iv 158) (iv 159)).2.1)) 160 (q_ts (iv 155) (iv 160))) := by
  intro dv cc ss
  have hk0 := hk.r0
  refine pz_G_mem (iv2 := pz_u1 (pz_u1 (pz_u1 (pz_u1 (pz_u1 iv 154 (iv 154)) 157 (iv 157)) 158 (iv 158)) 159 (iv 159)) 160 (iv 160)) (by exact (((((pz_u1_self iv 154).symm).trans (pz_u1_self (pz_u1 iv 154 (iv 154)) 157).symm).trans (pz_u1_self (pz_u1 (pz_u1 iv 154 (iv 154)) 157 (iv 157)) 158).symm).trans (pz_u1_self (pz_u1 (pz_u1 (pz_u1 iv 154 (iv 154)) 157 (iv 157)) 158 (iv 158)) 159).symm).trans (pz_u1_self (pz_u1 (pz_u1 (pz_u1 (pz_u1 iv 154 (iv 154)) 157 (iv 157)) 158 (iv 158)) 159 (iv 159)) 160).symm) ?_
  show pz_G 271 0 [some (.inr (.inl 154)), some (.inl e)] [] (pz_Sh L, pz_u1 (pz_u1 (pz_u1 (pz_u1 (pz_u1 iv 154 (iv 154)) 157 (iv 157)) 158 (iv 158)) 159 (iv 159)) 160 (iv 160), dv, cc, ss) (pz_P (pz_Sh L) (.inl (some (.inl (q_lo (q_zX (iv 155) (iv 161) (iv 157) (iv 158) (iv 159)).1 (q_ts (iv 155) (iv 160)) (iv 155) e)))) (pz_u1 (pz_u1 (pz_u1 (pz_u1 (pz_u1 iv 154 (pz_up (q_zw (iv 155) (iv 161) (iv 157) (iv 158) (iv 159) (iv 154)) 0 0)) 157 ((q_zX (iv 155) (iv 161) (iv 157) (iv 158) (iv 159)).2.2)) 158 ((q_zX (iv 155) (iv 161) (iv 157) (iv 158) (iv 159)).1)) 159 ((q_zX (iv 155) (iv 161) (iv 157) (iv 158) (iv 159)).2.1)) 160 (q_ts (iv 155) (iv 160))) dv cc ss)
  refine pz_G_of pz_b271_0 ?_
  refine w_loc rfl ?_
  refine w_loc rfl ?_
  refine w_pure rfl ?_
  have hc1 : pz_R (pz_Sh L) 270 [.inr (.inl 154), .inl e, .inl 1] (pz_u1 (pz_u1 (pz_u1 (pz_u1 (pz_u1 iv 154 (iv 154)) 157 (iv 157)) 158 (iv 158)) 159 (iv 159)) 160 (iv 160)) (.inl (some (.inl (q_lo (q_zX (iv 155) (iv 161) (iv 157) (iv 158) (iv 159)).1 (q_ts (iv 155) (iv 160)) (iv 155) e)))) (pz_u1 (pz_u1 (pz_u1 (pz_u1 (pz_u1 iv 154 (pz_up (q_zw (iv 155) (iv 161) (iv 157) (iv 158) (iv 159) (iv 154)) 0 0)) 157 ((q_zX (iv 155) (iv 161) (iv 157) (iv 158) (iv 159)).2.2)) 158 ((q_zX (iv 155) (iv 161) (iv 157) (iv 158) (iv 159)).1)) 159 ((q_zX (iv 155) (iv 161) (iv 157) (iv 158) (iv 159)).2.1)) 160 (q_ts (iv 155) (iv 160))) := pz_R_mem (s_X11_window_0lo e 1 (by show q_KR (iv 155); exact hk) (by show 0 ≤ e ∧ e ≤ iv 155 0 - 1; first | assumption | omega) (by show q_seen (iv 155) (iv 161) (iv 157) (iv 158) (iv 159); first | assumption | omega) (by show ¬ q_sta (iv 155) e; first | assumption | omega) (by show 1 = 1; rfl)) (by rw [pz_u1_in (r := 154) (q := 160) (by decide)]; rw [pz_u1_in (r := 154) (q := 159) (by decide)]; rw [pz_u1_in (r := 154) (q := 158) (by decide)]; rw [pz_u1_in (r := 154) (q := 157) (by decide)]; rw [pz_u1_top (r := 154)]; rw [pz_u1_in (r := 157) (q := 160) (by decide)]; rw [pz_u1_in (r := 157) (q := 159) (by decide)]; rw [pz_u1_in (r := 157) (q := 158) (by decide)]; rw [pz_u1_top (r := 157)]; rw [pz_u1_in (r := 158) (q := 160) (by decide)]; rw [pz_u1_in (r := 158) (q := 159) (by decide)]; rw [pz_u1_top (r := 158)]; rw [pz_u1_in (r := 159) (q := 160) (by decide)]; rw [pz_u1_top (r := 159)]; rw [pz_u1_top (r := 160)]; rfl)
  refine w_call hc1 rfl (pz_cokI is_154 rfl) ?_
  refine w_ret rfl ?_
  first | exact lf_i (by first | rfl | omega) (by rfl) | (exfalso; omega)

theorem s_X11_window_1hi {L : Nat} {iv : Nat → Nat → Int} (e : Int) (z : Int) (hk : q_KR (iv 155)) (hcase0 : ¬ (0 ≤ e ∧ e ≤ iv 155 0 - 1)) (hcase1 : z = 0) : pz_R (pz_Sh L) 270 [.inr (.inl 154), .inl e, .inl z] iv (.inl (some (.inl 0))) (pz_u1 (pz_u1 (pz_u1 (pz_u1 (pz_u1 iv 154 (pz_up (iv 154) 0 1)) 157 (iv 157)) 158 (iv 158)) 159 (iv 159)) 160 (iv 160)) := by
  intro dv cc ss
  have hk0 := hk.r0
  refine pz_G_mem (iv2 := pz_u1 (pz_u1 (pz_u1 (pz_u1 (pz_u1 iv 154 (iv 154)) 157 (iv 157)) 158 (iv 158)) 159 (iv 159)) 160 (iv 160)) (by exact (((((pz_u1_self iv 154).symm).trans (pz_u1_self (pz_u1 iv 154 (iv 154)) 157).symm).trans (pz_u1_self (pz_u1 (pz_u1 iv 154 (iv 154)) 157 (iv 157)) 158).symm).trans (pz_u1_self (pz_u1 (pz_u1 (pz_u1 iv 154 (iv 154)) 157 (iv 157)) 158 (iv 158)) 159).symm).trans (pz_u1_self (pz_u1 (pz_u1 (pz_u1 (pz_u1 iv 154 (iv 154)) 157 (iv 157)) 158 (iv 158)) 159 (iv 159)) 160).symm) ?_
  show pz_G 270 0 [some (.inr (.inl 154)), some (.inl e), some (.inl z), none] [] (pz_Sh L, pz_u1 (pz_u1 (pz_u1 (pz_u1 (pz_u1 iv 154 (iv 154)) 157 (iv 157)) 158 (iv 158)) 159 (iv 159)) 160 (iv 160), dv, cc, ss) (pz_P (pz_Sh L) (.inl (some (.inl 0))) (pz_u1 (pz_u1 (pz_u1 (pz_u1 (pz_u1 iv 154 (pz_up (iv 154) 0 1)) 157 (iv 157)) 158 (iv 158)) 159 (iv 159)) 160 (iv 160)) dv cc ss)
  refine pz_G_of pz_b270_0 ?_
  refine w_loc rfl ?_
  refine w_loc rfl ?_
  have hc1 : pz_R (pz_Sh L) 268 [.inr (.inl 154), .inl e] (pz_u1 (pz_u1 (pz_u1 (pz_u1 (pz_u1 iv 154 (iv 154)) 157 (iv 157)) 158 (iv 158)) 159 (iv 159)) 160 (iv 160)) (.inl (some (.inl 1))) (pz_u1 (pz_u1 (pz_u1 (pz_u1 (pz_u1 iv 154 (iv 154)) 157 (iv 157)) 158 (iv 158)) 159 (iv 159)) 160 (iv 160)) := pz_R_mem (s_X11_wrongSeen_1 e (by show q_KR (iv 155); exact hk) (by show ¬ (0 ≤ e ∧ e ≤ iv 155 0 - 1); first | assumption | omega)) (by rw [pz_u1_in (r := 154) (q := 160) (by decide)]; rw [pz_u1_in (r := 154) (q := 159) (by decide)]; rw [pz_u1_in (r := 154) (q := 158) (by decide)]; rw [pz_u1_in (r := 154) (q := 157) (by decide)]; rw [pz_u1_top (r := 154)]; rw [pz_u1_in (r := 157) (q := 160) (by decide)]; rw [pz_u1_in (r := 157) (q := 159) (by decide)]; rw [pz_u1_in (r := 157) (q := 158) (by decide)]; rw [pz_u1_top (r := 157)]; rw [pz_u1_in (r := 158) (q := 160) (by decide)]; rw [pz_u1_in (r := 158) (q := 159) (by decide)]; rw [pz_u1_top (r := 158)]; rw [pz_u1_in (r := 159) (q := 160) (by decide)]; rw [pz_u1_top (r := 159)]; rw [pz_u1_top (r := 160)]; rfl)
  refine w_call hc1 rfl (pz_cokI is_154 rfl) ?_
  refine w_loc (ls' := [some (.inr (.inl 154)), some (.inl e), some (.inl z), some (.inl 1)]) (st' := []) rfl ?_
  refine w_loc rfl ?_
  refine w_zle (fun h2 => ?_) (fun h2 => ?_)
  · first
    | (exfalso; first | omega | contradiction)
    | (refine pz_G_of pz_b270_16 ?_
       refine w_loc rfl ?_
       refine w_loc rfl ?_
       have hc3 : pz_R (pz_Sh L) 196 [.inr (.inl 154), .inl e] (pz_u1 (pz_u1 (pz_u1 (pz_u1 (pz_u1 iv 154 (iv 154)) 157 (iv 157)) 158 (iv 158)) 159 (iv 159)) 160 (iv 160)) (.inl (some (.inl (pz_bi (q_sta (iv 155) e))))) (pz_u1 (pz_u1 (pz_u1 (pz_u1 (pz_u1 iv 154 (iv 154)) 157 (iv 157)) 158 (iv 158)) 159 (iv 159)) 160 (iv 160)) := s_X11_hasStarted e (by show 0 ≤ e ∧ e ≤ 9; omega)
       refine w_call hc3 rfl (pz_cokI is_154 rfl) ?_
       refine w_beq (fun h4 => ?_) (fun h4 => ?_)
       · first
         | (exfalso; first | omega | contradiction)
         | (refine pz_G_of pz_b270_30 ?_
            refine w_loc rfl ?_
            refine w_loc rfl ?_
            refine w_zeq (fun h5 => ?_) (fun h5 => ?_)
            · first
              | (exfalso; first | omega | contradiction)
              | (refine pz_G_of pz_b270_43 ?_
                 refine w_loc rfl ?_
                 refine w_loc rfl ?_
                 have hc6 : pz_R (pz_Sh L) 254 [.inr (.inl 154), .inl e] (pz_u1 (pz_u1 (pz_u1 (pz_u1 (pz_u1 iv 154 (iv 154)) 157 (iv 157)) 158 (iv 158)) 159 (iv 159)) 160 (iv 160)) (.inl (some (.inl (q_hi (iv 158) (iv 160) (iv 155) e)))) (pz_u1 (pz_u1 (pz_u1 (pz_u1 (pz_u1 iv 154 (iv 154)) 157 (iv 157)) 158 (iv 158)) 159 (iv 159)) 160 (iv 160)) := s_X11_high e (by show q_KR (iv 155); exact hk) (by show 0 ≤ e ∧ e ≤ 9; omega) (by show q_vl (iv 158); exact q_zv_l hk hcase1) (by show q_al (iv 160); exact q_ts_al hk)
                 refine w_call hc6 rfl (pz_cokI is_154 rfl) ?_
                 refine w_nil ?_
                 refine pz_G_of pz_b270_48 ?_
                 have hc7 : pz_R (pz_Sh L) 192 [.inr (.inl 154), .inl (q_hi (iv 158) (iv 160) (iv 155) e)] (pz_u1 (pz_u1 (pz_u1 (pz_u1 (pz_u1 iv 154 (iv 154)) 157 (iv 157)) 158 (iv 158)) 159 (iv 159)) 160 (iv 160)) (.inl (some (.inl (q_hi (iv 158) (iv 160) (iv 155) e)))) (pz_u1 (pz_u1 (pz_u1 (pz_u1 (pz_u1 iv 154 (pz_up (iv 154) 0 0)) 157 (iv 157)) 158 (iv 158)) 159 (iv 159)) 160 (iv 160)) := pz_R_mem (s_X11_tells (q_hi (iv 158) (iv 160) (iv 155) e)) (by rw [pz_u1_in (r := 154) (q := 160) (by decide)]; rw [pz_u1_in (r := 154) (q := 159) (by decide)]; rw [pz_u1_in (r := 154) (q := 158) (by decide)]; rw [pz_u1_in (r := 154) (q := 157) (by decide)]; rw [pz_u1_top (r := 154)]; rfl)
                 refine w_call hc7 rfl (pz_cokI is_154 rfl) ?_
                 refine w_ret rfl ?_
                 first | exact lf_i (by first | rfl | omega) (by rfl) | (exfalso; omega))
            · first
              | (exfalso; first | omega | contradiction)
              | (refine w_loc rfl ?_
                 refine w_loc rfl ?_
                 have hc8 : pz_R (pz_Sh L) 253 [.inr (.inl 154), .inl e] (pz_u1 (pz_u1 (pz_u1 (pz_u1 (pz_u1 iv 154 (iv 154)) 157 (iv 157)) 158 (iv 158)) 159 (iv 159)) 160 (iv 160)) (.inl (some (.inl (q_lo (iv 158) (iv 160) (iv 155) e)))) (pz_u1 (pz_u1 (pz_u1 (pz_u1 (pz_u1 iv 154 (iv 154)) 157 (iv 157)) 158 (iv 158)) 159 (iv 159)) 160 (iv 160)) := s_X11_low e (by show q_KR (iv 155); exact hk) (by show 0 ≤ e ∧ e ≤ 9; omega) (by show q_vl (iv 158); exact q_zv_l hk hcase1) (by show q_al (iv 160); exact q_ts_al hk)
                 refine w_call hc8 rfl (pz_cokI is_154 rfl) ?_
                 refine w_goto ?_
                 refine pz_G_of pz_b270_48 ?_
                 have hc9 : pz_R (pz_Sh L) 192 [.inr (.inl 154), .inl (q_lo (iv 158) (iv 160) (iv 155) e)] (pz_u1 (pz_u1 (pz_u1 (pz_u1 (pz_u1 iv 154 (iv 154)) 157 (iv 157)) 158 (iv 158)) 159 (iv 159)) 160 (iv 160)) (.inl (some (.inl (q_lo (iv 158) (iv 160) (iv 155) e)))) (pz_u1 (pz_u1 (pz_u1 (pz_u1 (pz_u1 iv 154 (pz_up (iv 154) 0 0)) 157 (iv 157)) 158 (iv 158)) 159 (iv 159)) 160 (iv 160)) := pz_R_mem (s_X11_tells (q_lo (iv 158) (iv 160) (iv 155) e)) (by rw [pz_u1_in (r := 154) (q := 160) (by decide)]; rw [pz_u1_in (r := 154) (q := 159) (by decide)]; rw [pz_u1_in (r := 154) (q := 158) (by decide)]; rw [pz_u1_in (r := 154) (q := 157) (by decide)]; rw [pz_u1_top (r := 154)]; rfl)
                 refine w_call hc9 rfl (pz_cokI is_154 rfl) ?_
                 refine w_ret rfl ?_
                 first | exact lf_i (by first | rfl | omega) (by rfl) | (exfalso; omega)))
       · first
         | (exfalso; first | omega | contradiction)
         | (refine w_loc rfl ?_
            refine w_pure rfl ?_
            have hc10 : pz_R (pz_Sh L) 191 [.inr (.inl 154), .inl 2] (pz_u1 (pz_u1 (pz_u1 (pz_u1 (pz_u1 iv 154 (iv 154)) 157 (iv 157)) 158 (iv 158)) 159 (iv 159)) 160 (iv 160)) (.inl (some (.inl 0))) (pz_u1 (pz_u1 (pz_u1 (pz_u1 (pz_u1 iv 154 (pz_up (iv 154) 0 2)) 157 (iv 157)) 158 (iv 158)) 159 (iv 159)) 160 (iv 160)) := pz_R_mem (s_X11_fails 2) (by rw [pz_u1_in (r := 154) (q := 160) (by decide)]; rw [pz_u1_in (r := 154) (q := 159) (by decide)]; rw [pz_u1_in (r := 154) (q := 158) (by decide)]; rw [pz_u1_in (r := 154) (q := 157) (by decide)]; rw [pz_u1_top (r := 154)]; rfl)
            refine w_call hc10 rfl (pz_cokI is_154 rfl) ?_
            refine w_ret rfl ?_
            first | exact lf_i (by first | rfl | omega) (by rfl) | (exfalso; omega)))
  · first
    | (exfalso; first | omega | contradiction)
    | (refine w_loc rfl ?_
       refine w_loc rfl ?_
       have hc11 : pz_R (pz_Sh L) 191 [.inr (.inl 154), .inl 1] (pz_u1 (pz_u1 (pz_u1 (pz_u1 (pz_u1 iv 154 (iv 154)) 157 (iv 157)) 158 (iv 158)) 159 (iv 159)) 160 (iv 160)) (.inl (some (.inl 0))) (pz_u1 (pz_u1 (pz_u1 (pz_u1 (pz_u1 iv 154 (pz_up (iv 154) 0 1)) 157 (iv 157)) 158 (iv 158)) 159 (iv 159)) 160 (iv 160)) := pz_R_mem (s_X11_fails 1) (by rw [pz_u1_in (r := 154) (q := 160) (by decide)]; rw [pz_u1_in (r := 154) (q := 159) (by decide)]; rw [pz_u1_in (r := 154) (q := 158) (by decide)]; rw [pz_u1_in (r := 154) (q := 157) (by decide)]; rw [pz_u1_top (r := 154)]; rfl)
       refine w_call hc11 rfl (pz_cokI is_154 rfl) ?_
       refine w_ret rfl ?_
       first | exact lf_i (by first | rfl | omega) (by rfl) | (exfalso; omega))

theorem s_X11_uppermost_1 {L : Nat} {iv : Nat → Nat → Int} (e : Int) (hk : q_KR (iv 155)) (hcase0 : ¬ (0 ≤ e ∧ e ≤ iv 155 0 - 1)) : pz_R (pz_Sh L) 272 [.inr (.inl 154), .inl e] iv (.inl (some (.inl 0))) (pz_u1 (pz_u1 (pz_u1 (pz_u1 (pz_u1 iv 154 (pz_up (iv 154) 0 1)) 157 (iv 157)) 158 (iv 158)) 159 (iv 159)) 160 (iv 160)) := by
  intro dv cc ss
  have hk0 := hk.r0
  refine pz_G_mem (iv2 := pz_u1 (pz_u1 (pz_u1 (pz_u1 (pz_u1 iv 154 (iv 154)) 157 (iv 157)) 158 (iv 158)) 159 (iv 159)) 160 (iv 160)) (by exact (((((pz_u1_self iv 154).symm).trans (pz_u1_self (pz_u1 iv 154 (iv 154)) 157).symm).trans (pz_u1_self (pz_u1 (pz_u1 iv 154 (iv 154)) 157 (iv 157)) 158).symm).trans (pz_u1_self (pz_u1 (pz_u1 (pz_u1 iv 154 (iv 154)) 157 (iv 157)) 158 (iv 158)) 159).symm).trans (pz_u1_self (pz_u1 (pz_u1 (pz_u1 (pz_u1 iv 154 (iv 154)) 157 (iv 157)) 158 (iv 158)) 159 (iv 159)) 160).symm) ?_
  show pz_G 272 0 [some (.inr (.inl 154)), some (.inl e)] [] (pz_Sh L, pz_u1 (pz_u1 (pz_u1 (pz_u1 (pz_u1 iv 154 (iv 154)) 157 (iv 157)) 158 (iv 158)) 159 (iv 159)) 160 (iv 160), dv, cc, ss) (pz_P (pz_Sh L) (.inl (some (.inl 0))) (pz_u1 (pz_u1 (pz_u1 (pz_u1 (pz_u1 iv 154 (pz_up (iv 154) 0 1)) 157 (iv 157)) 158 (iv 158)) 159 (iv 159)) 160 (iv 160)) dv cc ss)
  refine pz_G_of pz_b272_0 ?_
  refine w_loc rfl ?_
  refine w_loc rfl ?_
  refine w_pure rfl ?_
  have hc1 : pz_R (pz_Sh L) 270 [.inr (.inl 154), .inl e, .inl 0] (pz_u1 (pz_u1 (pz_u1 (pz_u1 (pz_u1 iv 154 (iv 154)) 157 (iv 157)) 158 (iv 158)) 159 (iv 159)) 160 (iv 160)) (.inl (some (.inl 0))) (pz_u1 (pz_u1 (pz_u1 (pz_u1 (pz_u1 iv 154 (pz_up (iv 154) 0 1)) 157 (iv 157)) 158 (iv 158)) 159 (iv 159)) 160 (iv 160)) := pz_R_mem (s_X11_window_1hi e 0 (by show q_KR (iv 155); exact hk) (by show ¬ (0 ≤ e ∧ e ≤ iv 155 0 - 1); first | assumption | omega) (by show 0 = 0; rfl)) (by rw [pz_u1_in (r := 154) (q := 160) (by decide)]; rw [pz_u1_in (r := 154) (q := 159) (by decide)]; rw [pz_u1_in (r := 154) (q := 158) (by decide)]; rw [pz_u1_in (r := 154) (q := 157) (by decide)]; rw [pz_u1_top (r := 154)]; rw [pz_u1_in (r := 157) (q := 160) (by decide)]; rw [pz_u1_in (r := 157) (q := 159) (by decide)]; rw [pz_u1_in (r := 157) (q := 158) (by decide)]; rw [pz_u1_top (r := 157)]; rw [pz_u1_in (r := 158) (q := 160) (by decide)]; rw [pz_u1_in (r := 158) (q := 159) (by decide)]; rw [pz_u1_top (r := 158)]; rw [pz_u1_in (r := 159) (q := 160) (by decide)]; rw [pz_u1_top (r := 159)]; rw [pz_u1_top (r := 160)]; rfl)
  refine w_call hc1 rfl (pz_cokI is_154 rfl) ?_
  refine w_ret rfl ?_
  first | exact lf_i (by first | rfl | omega) (by rfl) | (exfalso; omega)

theorem s_X11_window_2hi {L : Nat} {iv : Nat → Nat → Int} (e : Int) (z : Int) (hk : q_KR (iv 155)) (hcase0 : 0 ≤ e ∧ e ≤ iv 155 0 - 1) (hcase1 : ¬ q_seen (iv 155) (iv 161) (iv 157) (iv 158) (iv 159)) (hcase2 : z = 0) : pz_R (pz_Sh L) 270 [.inr (.inl 154), .inl e, .inl z] iv (.inl (some (.inl 0))) (pz_u1 (pz_u1 (pz_u1 (pz_u1 (pz_u1 iv 154 (pz_up (q_zw (iv 155) (iv 161) (iv 157) (iv 158) (iv 159) (iv 154)) 0 2)) 157 ((q_zX (iv 155) (iv 161) (iv 157) (iv 158) (iv 159)).2.2)) 158 ((q_zX (iv 155) (iv 161) (iv 157) (iv 158) (iv 159)).1)) 159 ((q_zX (iv 155) (iv 161) (iv 157) (iv 158) (iv 159)).2.1)) 160 (q_ts (iv 155) (iv 160))) := by
  intro dv cc ss
  have hk0 := hk.r0
  refine pz_G_mem (iv2 := pz_u1 (pz_u1 (pz_u1 (pz_u1 (pz_u1 iv 154 (iv 154)) 157 (iv 157)) 158 (iv 158)) 159 (iv 159)) 160 (iv 160)) (by exact (((((pz_u1_self iv 154).symm).trans (pz_u1_self (pz_u1 iv 154 (iv 154)) 157).symm).trans (pz_u1_self (pz_u1 (pz_u1 iv 154 (iv 154)) 157 (iv 157)) 158).symm).trans (pz_u1_self (pz_u1 (pz_u1 (pz_u1 iv 154 (iv 154)) 157 (iv 157)) 158 (iv 158)) 159).symm).trans (pz_u1_self (pz_u1 (pz_u1 (pz_u1 (pz_u1 iv 154 (iv 154)) 157 (iv 157)) 158 (iv 158)) 159 (iv 159)) 160).symm) ?_
  show pz_G 270 0 [some (.inr (.inl 154)), some (.inl e), some (.inl z), none] [] (pz_Sh L, pz_u1 (pz_u1 (pz_u1 (pz_u1 (pz_u1 iv 154 (iv 154)) 157 (iv 157)) 158 (iv 158)) 159 (iv 159)) 160 (iv 160), dv, cc, ss) (pz_P (pz_Sh L) (.inl (some (.inl 0))) (pz_u1 (pz_u1 (pz_u1 (pz_u1 (pz_u1 iv 154 (pz_up (q_zw (iv 155) (iv 161) (iv 157) (iv 158) (iv 159) (iv 154)) 0 2)) 157 ((q_zX (iv 155) (iv 161) (iv 157) (iv 158) (iv 159)).2.2)) 158 ((q_zX (iv 155) (iv 161) (iv 157) (iv 158) (iv 159)).1)) 159 ((q_zX (iv 155) (iv 161) (iv 157) (iv 158) (iv 159)).2.1)) 160 (q_ts (iv 155) (iv 160))) dv cc ss)
  refine pz_G_of pz_b270_0 ?_
  refine w_loc rfl ?_
  refine w_loc rfl ?_
  have hc1 : pz_R (pz_Sh L) 268 [.inr (.inl 154), .inl e] (pz_u1 (pz_u1 (pz_u1 (pz_u1 (pz_u1 iv 154 (iv 154)) 157 (iv 157)) 158 (iv 158)) 159 (iv 159)) 160 (iv 160)) (.inl (some (.inl 2))) (pz_u1 (pz_u1 (pz_u1 (pz_u1 (pz_u1 iv 154 (q_zw (iv 155) (iv 161) (iv 157) (iv 158) (iv 159) (iv 154))) 157 ((q_zX (iv 155) (iv 161) (iv 157) (iv 158) (iv 159)).2.2)) 158 ((q_zX (iv 155) (iv 161) (iv 157) (iv 158) (iv 159)).1)) 159 ((q_zX (iv 155) (iv 161) (iv 157) (iv 158) (iv 159)).2.1)) 160 (q_ts (iv 155) (iv 160))) := pz_R_mem (s_X11_wrongSeen_2 e (by show q_KR (iv 155); exact hk) (by show 0 ≤ e ∧ e ≤ iv 155 0 - 1; first | assumption | omega) (by show ¬ q_seen (iv 155) (iv 161) (iv 157) (iv 158) (iv 159); first | assumption | omega)) (by rw [pz_u1_in (r := 154) (q := 160) (by decide)]; rw [pz_u1_in (r := 154) (q := 159) (by decide)]; rw [pz_u1_in (r := 154) (q := 158) (by decide)]; rw [pz_u1_in (r := 154) (q := 157) (by decide)]; rw [pz_u1_top (r := 154)]; rw [pz_u1_in (r := 157) (q := 160) (by decide)]; rw [pz_u1_in (r := 157) (q := 159) (by decide)]; rw [pz_u1_in (r := 157) (q := 158) (by decide)]; rw [pz_u1_top (r := 157)]; rw [pz_u1_in (r := 158) (q := 160) (by decide)]; rw [pz_u1_in (r := 158) (q := 159) (by decide)]; rw [pz_u1_top (r := 158)]; rw [pz_u1_in (r := 159) (q := 160) (by decide)]; rw [pz_u1_top (r := 159)]; rw [pz_u1_top (r := 160)]; rfl)
  refine w_call hc1 rfl (pz_cokI is_154 rfl) ?_
  refine w_loc (ls' := [some (.inr (.inl 154)), some (.inl e), some (.inl z), some (.inl 2)]) (st' := []) rfl ?_
  refine w_loc rfl ?_
  refine w_zle (fun h2 => ?_) (fun h2 => ?_)
  · first
    | (exfalso; first | omega | contradiction)
    | (refine pz_G_of pz_b270_16 ?_
       refine w_loc rfl ?_
       refine w_loc rfl ?_
       have hc3 : pz_R (pz_Sh L) 196 [.inr (.inl 154), .inl e] (pz_u1 (pz_u1 (pz_u1 (pz_u1 (pz_u1 iv 154 (q_zw (iv 155) (iv 161) (iv 157) (iv 158) (iv 159) (iv 154))) 157 ((q_zX (iv 155) (iv 161) (iv 157) (iv 158) (iv 159)).2.2)) 158 ((q_zX (iv 155) (iv 161) (iv 157) (iv 158) (iv 159)).1)) 159 ((q_zX (iv 155) (iv 161) (iv 157) (iv 158) (iv 159)).2.1)) 160 (q_ts (iv 155) (iv 160))) (.inl (some (.inl (pz_bi (q_sta (iv 155) e))))) (pz_u1 (pz_u1 (pz_u1 (pz_u1 (pz_u1 iv 154 (q_zw (iv 155) (iv 161) (iv 157) (iv 158) (iv 159) (iv 154))) 157 ((q_zX (iv 155) (iv 161) (iv 157) (iv 158) (iv 159)).2.2)) 158 ((q_zX (iv 155) (iv 161) (iv 157) (iv 158) (iv 159)).1)) 159 ((q_zX (iv 155) (iv 161) (iv 157) (iv 158) (iv 159)).2.1)) 160 (q_ts (iv 155) (iv 160))) := s_X11_hasStarted e (by show 0 ≤ e ∧ e ≤ 9; omega)
       refine w_call hc3 rfl (pz_cokI is_154 rfl) ?_
       refine w_beq (fun h4 => ?_) (fun h4 => ?_)
       · first
         | (exfalso; first | omega | contradiction)
         | (refine pz_G_of pz_b270_30 ?_
            refine w_loc rfl ?_
            refine w_loc rfl ?_
            refine w_zeq (fun h5 => ?_) (fun h5 => ?_)
            · first
              | (exfalso; first | omega | contradiction)
              | (refine pz_G_of pz_b270_43 ?_
                 refine w_loc rfl ?_
                 refine w_loc rfl ?_
                 have hc6 : pz_R (pz_Sh L) 254 [.inr (.inl 154), .inl e] (pz_u1 (pz_u1 (pz_u1 (pz_u1 (pz_u1 iv 154 (q_zw (iv 155) (iv 161) (iv 157) (iv 158) (iv 159) (iv 154))) 157 ((q_zX (iv 155) (iv 161) (iv 157) (iv 158) (iv 159)).2.2)) 158 ((q_zX (iv 155) (iv 161) (iv 157) (iv 158) (iv 159)).1)) 159 ((q_zX (iv 155) (iv 161) (iv 157) (iv 158) (iv 159)).2.1)) 160 (q_ts (iv 155) (iv 160))) (.inl (some (.inl (q_hi ((q_zX (iv 155) (iv 161) (iv 157) (iv 158) (iv 159)).1) (q_ts (iv 155) (iv 160)) (iv 155) e)))) (pz_u1 (pz_u1 (pz_u1 (pz_u1 (pz_u1 iv 154 (q_zw (iv 155) (iv 161) (iv 157) (iv 158) (iv 159) (iv 154))) 157 ((q_zX (iv 155) (iv 161) (iv 157) (iv 158) (iv 159)).2.2)) 158 ((q_zX (iv 155) (iv 161) (iv 157) (iv 158) (iv 159)).1)) 159 ((q_zX (iv 155) (iv 161) (iv 157) (iv 158) (iv 159)).2.1)) 160 (q_ts (iv 155) (iv 160))) := s_X11_high e (by show q_KR (iv 155); exact hk) (by show 0 ≤ e ∧ e ≤ 9; omega) (by show q_vl ((q_zX (iv 155) (iv 161) (iv 157) (iv 158) (iv 159)).1); exact q_zv_l hk hcase1) (by show q_al (q_ts (iv 155) (iv 160)); exact q_ts_al hk)
                 refine w_call hc6 rfl (pz_cokI is_154 rfl) ?_
                 refine w_nil ?_
                 refine pz_G_of pz_b270_48 ?_
                 have hc7 : pz_R (pz_Sh L) 192 [.inr (.inl 154), .inl (q_hi ((q_zX (iv 155) (iv 161) (iv 157) (iv 158) (iv 159)).1) (q_ts (iv 155) (iv 160)) (iv 155) e)] (pz_u1 (pz_u1 (pz_u1 (pz_u1 (pz_u1 iv 154 (q_zw (iv 155) (iv 161) (iv 157) (iv 158) (iv 159) (iv 154))) 157 ((q_zX (iv 155) (iv 161) (iv 157) (iv 158) (iv 159)).2.2)) 158 ((q_zX (iv 155) (iv 161) (iv 157) (iv 158) (iv 159)).1)) 159 ((q_zX (iv 155) (iv 161) (iv 157) (iv 158) (iv 159)).2.1)) 160 (q_ts (iv 155) (iv 160))) (.inl (some (.inl (q_hi ((q_zX (iv 155) (iv 161) (iv 157) (iv 158) (iv 159)).1) (q_ts (iv 155) (iv 160)) (iv 155) e)))) (pz_u1 (pz_u1 (pz_u1 (pz_u1 (pz_u1 iv 154 (pz_up (q_zw (iv 155) (iv 161) (iv 157) (iv 158) (iv 159) (iv 154)) 0 0)) 157 ((q_zX (iv 155) (iv 161) (iv 157) (iv 158) (iv 159)).2.2)) 158 ((q_zX (iv 155) (iv 161) (iv 157) (iv 158) (iv 159)).1)) 159 ((q_zX (iv 155) (iv 161) (iv 157) (iv 158) (iv 159)).2.1)) 160 (q_ts (iv 155) (iv 160))) := pz_R_mem (s_X11_tells (q_hi ((q_zX (iv 155) (iv 161) (iv 157) (iv 158) (iv 159)).1) (q_ts (iv 155) (iv 160)) (iv 155) e)) (by rw [pz_u1_in (r := 154) (q := 160) (by decide)]; rw [pz_u1_in (r := 154) (q := 159) (by decide)]; rw [pz_u1_in (r := 154) (q := 158) (by decide)]; rw [pz_u1_in (r := 154) (q := 157) (by decide)]; rw [pz_u1_top (r := 154)]; rfl)
                 refine w_call hc7 rfl (pz_cokI is_154 rfl) ?_
                 refine w_ret rfl ?_
                 first | exact lf_i (by first | rfl | omega) (by rfl) | (exfalso; omega))
            · first
              | (exfalso; first | omega | contradiction)
              | (refine w_loc rfl ?_
                 refine w_loc rfl ?_
                 have hc8 : pz_R (pz_Sh L) 253 [.inr (.inl 154), .inl e] (pz_u1 (pz_u1 (pz_u1 (pz_u1 (pz_u1 iv 154 (q_zw (iv 155) (iv 161) (iv 157) (iv 158) (iv 159) (iv 154))) 157 ((q_zX (iv 155) (iv 161) (iv 157) (iv 158) (iv 159)).2.2)) 158 ((q_zX (iv 155) (iv 161) (iv 157) (iv 158) (iv 159)).1)) 159 ((q_zX (iv 155) (iv 161) (iv 157) (iv 158) (iv 159)).2.1)) 160 (q_ts (iv 155) (iv 160))) (.inl (some (.inl (q_lo ((q_zX (iv 155) (iv 161) (iv 157) (iv 158) (iv 159)).1) (q_ts (iv 155) (iv 160)) (iv 155) e)))) (pz_u1 (pz_u1 (pz_u1 (pz_u1 (pz_u1 iv 154 (q_zw (iv 155) (iv 161) (iv 157) (iv 158) (iv 159) (iv 154))) 157 ((q_zX (iv 155) (iv 161) (iv 157) (iv 158) (iv 159)).2.2)) 158 ((q_zX (iv 155) (iv 161) (iv 157) (iv 158) (iv 159)).1)) 159 ((q_zX (iv 155) (iv 161) (iv 157) (iv 158) (iv 159)).2.1)) 160 (q_ts (iv 155) (iv 160))) := s_X11_low e (by show q_KR (iv 155); exact hk) (by show 0 ≤ e ∧ e ≤ 9; omega) (by show q_vl ((q_zX (iv 155) (iv 161) (iv 157) (iv 158) (iv 159)).1); exact q_zv_l hk hcase1) (by show q_al (q_ts (iv 155) (iv 160)); exact q_ts_al hk)
                 refine w_call hc8 rfl (pz_cokI is_154 rfl) ?_
                 refine w_goto ?_
                 refine pz_G_of pz_b270_48 ?_
                 have hc9 : pz_R (pz_Sh L) 192 [.inr (.inl 154), .inl (q_lo ((q_zX (iv 155) (iv 161) (iv 157) (iv 158) (iv 159)).1) (q_ts (iv 155) (iv 160)) (iv 155) e)] (pz_u1 (pz_u1 (pz_u1 (pz_u1 (pz_u1 iv 154 (q_zw (iv 155) (iv 161) (iv 157) (iv 158) (iv 159) (iv 154))) 157 ((q_zX (iv 155) (iv 161) (iv 157) (iv 158) (iv 159)).2.2)) 158 ((q_zX (iv 155) (iv 161) (iv 157) (iv 158) (iv 159)).1)) 159 ((q_zX (iv 155) (iv 161) (iv 157) (iv 158) (iv 159)).2.1)) 160 (q_ts (iv 155) (iv 160))) (.inl (some (.inl (q_lo ((q_zX (iv 155) (iv 161) (iv 157) (iv 158) (iv 159)).1) (q_ts (iv 155) (iv 160)) (iv 155) e)))) (pz_u1 (pz_u1 (pz_u1 (pz_u1 (pz_u1 iv 154 (pz_up (q_zw (iv 155) (iv 161) (iv 157) (iv 158) (iv 159) (iv 154)) 0 0)) 157 ((q_zX (iv 155) (iv 161) (iv 157) (iv 158) (iv 159)).2.2)) 158 ((q_zX (iv 155) (iv 161) (iv 157) (iv 158) (iv 159)).1)) 159 ((q_zX (iv 155) (iv 161) (iv 157) (iv 158) (iv 159)).2.1)) 160 (q_ts (iv 155) (iv 160))) := pz_R_mem (s_X11_tells (q_lo ((q_zX (iv 155) (iv 161) (iv 157) (iv 158) (iv 159)).1) (q_ts (iv 155) (iv 160)) (iv 155) e)) (by rw [pz_u1_in (r := 154) (q := 160) (by decide)]; rw [pz_u1_in (r := 154) (q := 159) (by decide)]; rw [pz_u1_in (r := 154) (q := 158) (by decide)]; rw [pz_u1_in (r := 154) (q := 157) (by decide)]; rw [pz_u1_top (r := 154)]; rfl)
                 refine w_call hc9 rfl (pz_cokI is_154 rfl) ?_
                 refine w_ret rfl ?_
                 first | exact lf_i (by first | rfl | omega) (by rfl) | (exfalso; omega)))
       · first
         | (exfalso; first | omega | contradiction)
         | (refine w_loc rfl ?_
            refine w_pure rfl ?_
            have hc10 : pz_R (pz_Sh L) 191 [.inr (.inl 154), .inl 2] (pz_u1 (pz_u1 (pz_u1 (pz_u1 (pz_u1 iv 154 (q_zw (iv 155) (iv 161) (iv 157) (iv 158) (iv 159) (iv 154))) 157 ((q_zX (iv 155) (iv 161) (iv 157) (iv 158) (iv 159)).2.2)) 158 ((q_zX (iv 155) (iv 161) (iv 157) (iv 158) (iv 159)).1)) 159 ((q_zX (iv 155) (iv 161) (iv 157) (iv 158) (iv 159)).2.1)) 160 (q_ts (iv 155) (iv 160))) (.inl (some (.inl 0))) (pz_u1 (pz_u1 (pz_u1 (pz_u1 (pz_u1 iv 154 (pz_up (q_zw (iv 155) (iv 161) (iv 157) (iv 158) (iv 159) (iv 154)) 0 2)) 157 ((q_zX (iv 155) (iv 161) (iv 157) (iv 158) (iv 159)).2.2)) 158 ((q_zX (iv 155) (iv 161) (iv 157) (iv 158) (iv 159)).1)) 159 ((q_zX (iv 155) (iv 161) (iv 157) (iv 158) (iv 159)).2.1)) 160 (q_ts (iv 155) (iv 160))) := pz_R_mem (s_X11_fails 2) (by rw [pz_u1_in (r := 154) (q := 160) (by decide)]; rw [pz_u1_in (r := 154) (q := 159) (by decide)]; rw [pz_u1_in (r := 154) (q := 158) (by decide)]; rw [pz_u1_in (r := 154) (q := 157) (by decide)]; rw [pz_u1_top (r := 154)]; rfl)
            refine w_call hc10 rfl (pz_cokI is_154 rfl) ?_
            refine w_ret rfl ?_
            first | exact lf_i (by first | rfl | omega) (by rfl) | (exfalso; omega)))
  · first
    | (exfalso; first | omega | contradiction)
    | (refine w_loc rfl ?_
       refine w_loc rfl ?_
       have hc11 : pz_R (pz_Sh L) 191 [.inr (.inl 154), .inl 2] (pz_u1 (pz_u1 (pz_u1 (pz_u1 (pz_u1 iv 154 (q_zw (iv 155) (iv 161) (iv 157) (iv 158) (iv 159) (iv 154))) 157 ((q_zX (iv 155) (iv 161) (iv 157) (iv 158) (iv 159)).2.2)) 158 ((q_zX (iv 155) (iv 161) (iv 157) (iv 158) (iv 159)).1)) 159 ((q_zX (iv 155) (iv 161) (iv 157) (iv 158) (iv 159)).2.1)) 160 (q_ts (iv 155) (iv 160))) (.inl (some (.inl 0))) (pz_u1 (pz_u1 (pz_u1 (pz_u1 (pz_u1 iv 154 (pz_up (q_zw (iv 155) (iv 161) (iv 157) (iv 158) (iv 159) (iv 154)) 0 2)) 157 ((q_zX (iv 155) (iv 161) (iv 157) (iv 158) (iv 159)).2.2)) 158 ((q_zX (iv 155) (iv 161) (iv 157) (iv 158) (iv 159)).1)) 159 ((q_zX (iv 155) (iv 161) (iv 157) (iv 158) (iv 159)).2.1)) 160 (q_ts (iv 155) (iv 160))) := pz_R_mem (s_X11_fails 2) (by rw [pz_u1_in (r := 154) (q := 160) (by decide)]; rw [pz_u1_in (r := 154) (q := 159) (by decide)]; rw [pz_u1_in (r := 154) (q := 158) (by decide)]; rw [pz_u1_in (r := 154) (q := 157) (by decide)]; rw [pz_u1_top (r := 154)]; rfl)
       refine w_call hc11 rfl (pz_cokI is_154 rfl) ?_
       refine w_ret rfl ?_
       first | exact lf_i (by first | rfl | omega) (by rfl) | (exfalso; omega))

theorem s_X11_uppermost_2 {L : Nat} {iv : Nat → Nat → Int} (e : Int) (hk : q_KR (iv 155)) (hcase0 : 0 ≤ e ∧ e ≤ iv 155 0 - 1) (hcase1 : ¬ q_seen (iv 155) (iv 161) (iv 157) (iv 158) (iv 159)) : pz_R (pz_Sh L) 272 [.inr (.inl 154), .inl e] iv (.inl (some (.inl 0))) (pz_u1 (pz_u1 (pz_u1 (pz_u1 (pz_u1 iv 154 (pz_up (q_zw (iv 155) (iv 161) (iv 157) (iv 158) (iv 159) (iv 154)) 0 2)) 157 ((q_zX (iv 155) (iv 161) (iv 157) (iv 158) (iv 159)).2.2)) 158 ((q_zX (iv 155) (iv 161) (iv 157) (iv 158) (iv 159)).1)) 159 ((q_zX (iv 155) (iv 161) (iv 157) (iv 158) (iv 159)).2.1)) 160 (q_ts (iv 155) (iv 160))) := by
  intro dv cc ss
  have hk0 := hk.r0
  refine pz_G_mem (iv2 := pz_u1 (pz_u1 (pz_u1 (pz_u1 (pz_u1 iv 154 (iv 154)) 157 (iv 157)) 158 (iv 158)) 159 (iv 159)) 160 (iv 160)) (by exact (((((pz_u1_self iv 154).symm).trans (pz_u1_self (pz_u1 iv 154 (iv 154)) 157).symm).trans (pz_u1_self (pz_u1 (pz_u1 iv 154 (iv 154)) 157 (iv 157)) 158).symm).trans (pz_u1_self (pz_u1 (pz_u1 (pz_u1 iv 154 (iv 154)) 157 (iv 157)) 158 (iv 158)) 159).symm).trans (pz_u1_self (pz_u1 (pz_u1 (pz_u1 (pz_u1 iv 154 (iv 154)) 157 (iv 157)) 158 (iv 158)) 159 (iv 159)) 160).symm) ?_
  show pz_G 272 0 [some (.inr (.inl 154)), some (.inl e)] [] (pz_Sh L, pz_u1 (pz_u1 (pz_u1 (pz_u1 (pz_u1 iv 154 (iv 154)) 157 (iv 157)) 158 (iv 158)) 159 (iv 159)) 160 (iv 160), dv, cc, ss) (pz_P (pz_Sh L) (.inl (some (.inl 0))) (pz_u1 (pz_u1 (pz_u1 (pz_u1 (pz_u1 iv 154 (pz_up (q_zw (iv 155) (iv 161) (iv 157) (iv 158) (iv 159) (iv 154)) 0 2)) 157 ((q_zX (iv 155) (iv 161) (iv 157) (iv 158) (iv 159)).2.2)) 158 ((q_zX (iv 155) (iv 161) (iv 157) (iv 158) (iv 159)).1)) 159 ((q_zX (iv 155) (iv 161) (iv 157) (iv 158) (iv 159)).2.1)) 160 (q_ts (iv 155) (iv 160))) dv cc ss)
  refine pz_G_of pz_b272_0 ?_
  refine w_loc rfl ?_
  refine w_loc rfl ?_
  refine w_pure rfl ?_
  have hc1 : pz_R (pz_Sh L) 270 [.inr (.inl 154), .inl e, .inl 0] (pz_u1 (pz_u1 (pz_u1 (pz_u1 (pz_u1 iv 154 (iv 154)) 157 (iv 157)) 158 (iv 158)) 159 (iv 159)) 160 (iv 160)) (.inl (some (.inl 0))) (pz_u1 (pz_u1 (pz_u1 (pz_u1 (pz_u1 iv 154 (pz_up (q_zw (iv 155) (iv 161) (iv 157) (iv 158) (iv 159) (iv 154)) 0 2)) 157 ((q_zX (iv 155) (iv 161) (iv 157) (iv 158) (iv 159)).2.2)) 158 ((q_zX (iv 155) (iv 161) (iv 157) (iv 158) (iv 159)).1)) 159 ((q_zX (iv 155) (iv 161) (iv 157) (iv 158) (iv 159)).2.1)) 160 (q_ts (iv 155) (iv 160))) := pz_R_mem (s_X11_window_2hi e 0 (by show q_KR (iv 155); exact hk) (by show 0 ≤ e ∧ e ≤ iv 155 0 - 1; first | assumption | omega) (by show ¬ q_seen (iv 155) (iv 161) (iv 157) (iv 158) (iv 159); first | assumption | omega) (by show 0 = 0; rfl)) (by rw [pz_u1_in (r := 154) (q := 160) (by decide)]; rw [pz_u1_in (r := 154) (q := 159) (by decide)]; rw [pz_u1_in (r := 154) (q := 158) (by decide)]; rw [pz_u1_in (r := 154) (q := 157) (by decide)]; rw [pz_u1_top (r := 154)]; rw [pz_u1_in (r := 157) (q := 160) (by decide)]; rw [pz_u1_in (r := 157) (q := 159) (by decide)]; rw [pz_u1_in (r := 157) (q := 158) (by decide)]; rw [pz_u1_top (r := 157)]; rw [pz_u1_in (r := 158) (q := 160) (by decide)]; rw [pz_u1_in (r := 158) (q := 159) (by decide)]; rw [pz_u1_top (r := 158)]; rw [pz_u1_in (r := 159) (q := 160) (by decide)]; rw [pz_u1_top (r := 159)]; rw [pz_u1_top (r := 160)]; rfl)
  refine w_call hc1 rfl (pz_cokI is_154 rfl) ?_
  refine w_ret rfl ?_
  first | exact lf_i (by first | rfl | omega) (by rfl) | (exfalso; omega)

theorem s_X11_window_3hi {L : Nat} {iv : Nat → Nat → Int} (e : Int) (z : Int) (hk : q_KR (iv 155)) (hcase0 : 0 ≤ e ∧ e ≤ iv 155 0 - 1) (hcase1 : q_seen (iv 155) (iv 161) (iv 157) (iv 158) (iv 159)) (hcase2 : q_sta (iv 155) e) (hcase3 : z = 0) : pz_R (pz_Sh L) 270 [.inr (.inl 154), .inl e, .inl z] iv (.inl (some (.inl 0))) (pz_u1 (pz_u1 (pz_u1 (pz_u1 (pz_u1 iv 154 (pz_up (q_zw (iv 155) (iv 161) (iv 157) (iv 158) (iv 159) (iv 154)) 0 2)) 157 ((q_zX (iv 155) (iv 161) (iv 157) (iv 158) (iv 159)).2.2)) 158 ((q_zX (iv 155) (iv 161) (iv 157) (iv 158) (iv 159)).1)) 159 ((q_zX (iv 155) (iv 161) (iv 157) (iv 158) (iv 159)).2.1)) 160 (q_ts (iv 155) (iv 160))) := by
  intro dv cc ss
  have hk0 := hk.r0
  refine pz_G_mem (iv2 := pz_u1 (pz_u1 (pz_u1 (pz_u1 (pz_u1 iv 154 (iv 154)) 157 (iv 157)) 158 (iv 158)) 159 (iv 159)) 160 (iv 160)) (by exact (((((pz_u1_self iv 154).symm).trans (pz_u1_self (pz_u1 iv 154 (iv 154)) 157).symm).trans (pz_u1_self (pz_u1 (pz_u1 iv 154 (iv 154)) 157 (iv 157)) 158).symm).trans (pz_u1_self (pz_u1 (pz_u1 (pz_u1 iv 154 (iv 154)) 157 (iv 157)) 158 (iv 158)) 159).symm).trans (pz_u1_self (pz_u1 (pz_u1 (pz_u1 (pz_u1 iv 154 (iv 154)) 157 (iv 157)) 158 (iv 158)) 159 (iv 159)) 160).symm) ?_
  show pz_G 270 0 [some (.inr (.inl 154)), some (.inl e), some (.inl z), none] [] (pz_Sh L, pz_u1 (pz_u1 (pz_u1 (pz_u1 (pz_u1 iv 154 (iv 154)) 157 (iv 157)) 158 (iv 158)) 159 (iv 159)) 160 (iv 160), dv, cc, ss) (pz_P (pz_Sh L) (.inl (some (.inl 0))) (pz_u1 (pz_u1 (pz_u1 (pz_u1 (pz_u1 iv 154 (pz_up (q_zw (iv 155) (iv 161) (iv 157) (iv 158) (iv 159) (iv 154)) 0 2)) 157 ((q_zX (iv 155) (iv 161) (iv 157) (iv 158) (iv 159)).2.2)) 158 ((q_zX (iv 155) (iv 161) (iv 157) (iv 158) (iv 159)).1)) 159 ((q_zX (iv 155) (iv 161) (iv 157) (iv 158) (iv 159)).2.1)) 160 (q_ts (iv 155) (iv 160))) dv cc ss)
  refine pz_G_of pz_b270_0 ?_
  refine w_loc rfl ?_
  refine w_loc rfl ?_
  have hc1 : pz_R (pz_Sh L) 268 [.inr (.inl 154), .inl e] (pz_u1 (pz_u1 (pz_u1 (pz_u1 (pz_u1 iv 154 (iv 154)) 157 (iv 157)) 158 (iv 158)) 159 (iv 159)) 160 (iv 160)) (.inl (some (.inl 0))) (pz_u1 (pz_u1 (pz_u1 (pz_u1 (pz_u1 iv 154 (q_zw (iv 155) (iv 161) (iv 157) (iv 158) (iv 159) (iv 154))) 157 ((q_zX (iv 155) (iv 161) (iv 157) (iv 158) (iv 159)).2.2)) 158 ((q_zX (iv 155) (iv 161) (iv 157) (iv 158) (iv 159)).1)) 159 ((q_zX (iv 155) (iv 161) (iv 157) (iv 158) (iv 159)).2.1)) 160 (q_ts (iv 155) (iv 160))) := pz_R_mem (s_X11_wrongSeen_0 e (by show q_KR (iv 155); exact hk) (by show 0 ≤ e ∧ e ≤ iv 155 0 - 1; first | assumption | omega) (by show q_seen (iv 155) (iv 161) (iv 157) (iv 158) (iv 159); first | assumption | omega)) (by rw [pz_u1_in (r := 154) (q := 160) (by decide)]; rw [pz_u1_in (r := 154) (q := 159) (by decide)]; rw [pz_u1_in (r := 154) (q := 158) (by decide)]; rw [pz_u1_in (r := 154) (q := 157) (by decide)]; rw [pz_u1_top (r := 154)]; rw [pz_u1_in (r := 157) (q := 160) (by decide)]; rw [pz_u1_in (r := 157) (q := 159) (by decide)]; rw [pz_u1_in (r := 157) (q := 158) (by decide)]; rw [pz_u1_top (r := 157)]; rw [pz_u1_in (r := 158) (q := 160) (by decide)]; rw [pz_u1_in (r := 158) (q := 159) (by decide)]; rw [pz_u1_top (r := 158)]; rw [pz_u1_in (r := 159) (q := 160) (by decide)]; rw [pz_u1_top (r := 159)]; rw [pz_u1_top (r := 160)]; rfl)
  refine w_call hc1 rfl (pz_cokI is_154 rfl) ?_
  refine w_loc (ls' := [some (.inr (.inl 154)), some (.inl e), some (.inl z), some (.inl 0)]) (st' := []) rfl ?_
  refine w_loc rfl ?_
  refine w_zle (fun h2 => ?_) (fun h2 => ?_)
  · first
    | (exfalso; first | omega | contradiction)
    | (refine pz_G_of pz_b270_16 ?_
       refine w_loc rfl ?_
       refine w_loc rfl ?_
       have hc3 : pz_R (pz_Sh L) 196 [.inr (.inl 154), .inl e] (pz_u1 (pz_u1 (pz_u1 (pz_u1 (pz_u1 iv 154 (q_zw (iv 155) (iv 161) (iv 157) (iv 158) (iv 159) (iv 154))) 157 ((q_zX (iv 155) (iv 161) (iv 157) (iv 158) (iv 159)).2.2)) 158 ((q_zX (iv 155) (iv 161) (iv 157) (iv 158) (iv 159)).1)) 159 ((q_zX (iv 155) (iv 161) (iv 157) (iv 158) (iv 159)).2.1)) 160 (q_ts (iv 155) (iv 160))) (.inl (some (.inl (pz_bi (q_sta (iv 155) e))))) (pz_u1 (pz_u1 (pz_u1 (pz_u1 (pz_u1 iv 154 (q_zw (iv 155) (iv 161) (iv 157) (iv 158) (iv 159) (iv 154))) 157 ((q_zX (iv 155) (iv 161) (iv 157) (iv 158) (iv 159)).2.2)) 158 ((q_zX (iv 155) (iv 161) (iv 157) (iv 158) (iv 159)).1)) 159 ((q_zX (iv 155) (iv 161) (iv 157) (iv 158) (iv 159)).2.1)) 160 (q_ts (iv 155) (iv 160))) := s_X11_hasStarted e (by show 0 ≤ e ∧ e ≤ 9; omega)
       refine w_call hc3 rfl (pz_cokI is_154 rfl) ?_
       refine w_beq (fun h4 => ?_) (fun h4 => ?_)
       · first
         | (exfalso; first | omega | contradiction)
         | (refine pz_G_of pz_b270_30 ?_
            refine w_loc rfl ?_
            refine w_loc rfl ?_
            refine w_zeq (fun h5 => ?_) (fun h5 => ?_)
            · first
              | (exfalso; first | omega | contradiction)
              | (refine pz_G_of pz_b270_43 ?_
                 refine w_loc rfl ?_
                 refine w_loc rfl ?_
                 have hc6 : pz_R (pz_Sh L) 254 [.inr (.inl 154), .inl e] (pz_u1 (pz_u1 (pz_u1 (pz_u1 (pz_u1 iv 154 (q_zw (iv 155) (iv 161) (iv 157) (iv 158) (iv 159) (iv 154))) 157 ((q_zX (iv 155) (iv 161) (iv 157) (iv 158) (iv 159)).2.2)) 158 ((q_zX (iv 155) (iv 161) (iv 157) (iv 158) (iv 159)).1)) 159 ((q_zX (iv 155) (iv 161) (iv 157) (iv 158) (iv 159)).2.1)) 160 (q_ts (iv 155) (iv 160))) (.inl (some (.inl (q_hi ((q_zX (iv 155) (iv 161) (iv 157) (iv 158) (iv 159)).1) (q_ts (iv 155) (iv 160)) (iv 155) e)))) (pz_u1 (pz_u1 (pz_u1 (pz_u1 (pz_u1 iv 154 (q_zw (iv 155) (iv 161) (iv 157) (iv 158) (iv 159) (iv 154))) 157 ((q_zX (iv 155) (iv 161) (iv 157) (iv 158) (iv 159)).2.2)) 158 ((q_zX (iv 155) (iv 161) (iv 157) (iv 158) (iv 159)).1)) 159 ((q_zX (iv 155) (iv 161) (iv 157) (iv 158) (iv 159)).2.1)) 160 (q_ts (iv 155) (iv 160))) := s_X11_high e (by show q_KR (iv 155); exact hk) (by show 0 ≤ e ∧ e ≤ 9; omega) (by show q_vl ((q_zX (iv 155) (iv 161) (iv 157) (iv 158) (iv 159)).1); exact q_zv_l hk hcase1) (by show q_al (q_ts (iv 155) (iv 160)); exact q_ts_al hk)
                 refine w_call hc6 rfl (pz_cokI is_154 rfl) ?_
                 refine w_nil ?_
                 refine pz_G_of pz_b270_48 ?_
                 have hc7 : pz_R (pz_Sh L) 192 [.inr (.inl 154), .inl (q_hi ((q_zX (iv 155) (iv 161) (iv 157) (iv 158) (iv 159)).1) (q_ts (iv 155) (iv 160)) (iv 155) e)] (pz_u1 (pz_u1 (pz_u1 (pz_u1 (pz_u1 iv 154 (q_zw (iv 155) (iv 161) (iv 157) (iv 158) (iv 159) (iv 154))) 157 ((q_zX (iv 155) (iv 161) (iv 157) (iv 158) (iv 159)).2.2)) 158 ((q_zX (iv 155) (iv 161) (iv 157) (iv 158) (iv 159)).1)) 159 ((q_zX (iv 155) (iv 161) (iv 157) (iv 158) (iv 159)).2.1)) 160 (q_ts (iv 155) (iv 160))) (.inl (some (.inl (q_hi ((q_zX (iv 155) (iv 161) (iv 157) (iv 158) (iv 159)).1) (q_ts (iv 155) (iv 160)) (iv 155) e)))) (pz_u1 (pz_u1 (pz_u1 (pz_u1 (pz_u1 iv 154 (pz_up (q_zw (iv 155) (iv 161) (iv 157) (iv 158) (iv 159) (iv 154)) 0 0)) 157 ((q_zX (iv 155) (iv 161) (iv 157) (iv 158) (iv 159)).2.2)) 158 ((q_zX (iv 155) (iv 161) (iv 157) (iv 158) (iv 159)).1)) 159 ((q_zX (iv 155) (iv 161) (iv 157) (iv 158) (iv 159)).2.1)) 160 (q_ts (iv 155) (iv 160))) := pz_R_mem (s_X11_tells (q_hi ((q_zX (iv 155) (iv 161) (iv 157) (iv 158) (iv 159)).1) (q_ts (iv 155) (iv 160)) (iv 155) e)) (by rw [pz_u1_in (r := 154) (q := 160) (by decide)]; rw [pz_u1_in (r := 154) (q := 159) (by decide)]; rw [pz_u1_in (r := 154) (q := 158) (by decide)]; rw [pz_u1_in (r := 154) (q := 157) (by decide)]; rw [pz_u1_top (r := 154)]; rfl)
                 refine w_call hc7 rfl (pz_cokI is_154 rfl) ?_
                 refine w_ret rfl ?_
                 first | exact lf_i (by first | rfl | omega) (by rfl) | (exfalso; omega))
            · first
              | (exfalso; first | omega | contradiction)
              | (refine w_loc rfl ?_
                 refine w_loc rfl ?_
                 have hc8 : pz_R (pz_Sh L) 253 [.inr (.inl 154), .inl e] (pz_u1 (pz_u1 (pz_u1 (pz_u1 (pz_u1 iv 154 (q_zw (iv 155) (iv 161) (iv 157) (iv 158) (iv 159) (iv 154))) 157 ((q_zX (iv 155) (iv 161) (iv 157) (iv 158) (iv 159)).2.2)) 158 ((q_zX (iv 155) (iv 161) (iv 157) (iv 158) (iv 159)).1)) 159 ((q_zX (iv 155) (iv 161) (iv 157) (iv 158) (iv 159)).2.1)) 160 (q_ts (iv 155) (iv 160))) (.inl (some (.inl (q_lo ((q_zX (iv 155) (iv 161) (iv 157) (iv 158) (iv 159)).1) (q_ts (iv 155) (iv 160)) (iv 155) e)))) (pz_u1 (pz_u1 (pz_u1 (pz_u1 (pz_u1 iv 154 (q_zw (iv 155) (iv 161) (iv 157) (iv 158) (iv 159) (iv 154))) 157 ((q_zX (iv 155) (iv 161) (iv 157) (iv 158) (iv 159)).2.2)) 158 ((q_zX (iv 155) (iv 161) (iv 157) (iv 158) (iv 159)).1)) 159 ((q_zX (iv 155) (iv 161) (iv 157) (iv 158) (iv 159)).2.1)) 160 (q_ts (iv 155) (iv 160))) := s_X11_low e (by show q_KR (iv 155); exact hk) (by show 0 ≤ e ∧ e ≤ 9; omega) (by show q_vl ((q_zX (iv 155) (iv 161) (iv 157) (iv 158) (iv 159)).1); exact q_zv_l hk hcase1) (by show q_al (q_ts (iv 155) (iv 160)); exact q_ts_al hk)
                 refine w_call hc8 rfl (pz_cokI is_154 rfl) ?_
                 refine w_goto ?_
                 refine pz_G_of pz_b270_48 ?_
                 have hc9 : pz_R (pz_Sh L) 192 [.inr (.inl 154), .inl (q_lo ((q_zX (iv 155) (iv 161) (iv 157) (iv 158) (iv 159)).1) (q_ts (iv 155) (iv 160)) (iv 155) e)] (pz_u1 (pz_u1 (pz_u1 (pz_u1 (pz_u1 iv 154 (q_zw (iv 155) (iv 161) (iv 157) (iv 158) (iv 159) (iv 154))) 157 ((q_zX (iv 155) (iv 161) (iv 157) (iv 158) (iv 159)).2.2)) 158 ((q_zX (iv 155) (iv 161) (iv 157) (iv 158) (iv 159)).1)) 159 ((q_zX (iv 155) (iv 161) (iv 157) (iv 158) (iv 159)).2.1)) 160 (q_ts (iv 155) (iv 160))) (.inl (some (.inl (q_lo ((q_zX (iv 155) (iv 161) (iv 157) (iv 158) (iv 159)).1) (q_ts (iv 155) (iv 160)) (iv 155) e)))) (pz_u1 (pz_u1 (pz_u1 (pz_u1 (pz_u1 iv 154 (pz_up (q_zw (iv 155) (iv 161) (iv 157) (iv 158) (iv 159) (iv 154)) 0 0)) 157 ((q_zX (iv 155) (iv 161) (iv 157) (iv 158) (iv 159)).2.2)) 158 ((q_zX (iv 155) (iv 161) (iv 157) (iv 158) (iv 159)).1)) 159 ((q_zX (iv 155) (iv 161) (iv 157) (iv 158) (iv 159)).2.1)) 160 (q_ts (iv 155) (iv 160))) := pz_R_mem (s_X11_tells (q_lo ((q_zX (iv 155) (iv 161) (iv 157) (iv 158) (iv 159)).1) (q_ts (iv 155) (iv 160)) (iv 155) e)) (by rw [pz_u1_in (r := 154) (q := 160) (by decide)]; rw [pz_u1_in (r := 154) (q := 159) (by decide)]; rw [pz_u1_in (r := 154) (q := 158) (by decide)]; rw [pz_u1_in (r := 154) (q := 157) (by decide)]; rw [pz_u1_top (r := 154)]; rfl)
                 refine w_call hc9 rfl (pz_cokI is_154 rfl) ?_
                 refine w_ret rfl ?_
                 first | exact lf_i (by first | rfl | omega) (by rfl) | (exfalso; omega)))
       · first
         | (exfalso; first | omega | contradiction)
         | (refine w_loc rfl ?_
            refine w_pure rfl ?_
            have hc10 : pz_R (pz_Sh L) 191 [.inr (.inl 154), .inl 2] (pz_u1 (pz_u1 (pz_u1 (pz_u1 (pz_u1 iv 154 (q_zw (iv 155) (iv 161) (iv 157) (iv 158) (iv 159) (iv 154))) 157 ((q_zX (iv 155) (iv 161) (iv 157) (iv 158) (iv 159)).2.2)) 158 ((q_zX (iv 155) (iv 161) (iv 157) (iv 158) (iv 159)).1)) 159 ((q_zX (iv 155) (iv 161) (iv 157) (iv 158) (iv 159)).2.1)) 160 (q_ts (iv 155) (iv 160))) (.inl (some (.inl 0))) (pz_u1 (pz_u1 (pz_u1 (pz_u1 (pz_u1 iv 154 (pz_up (q_zw (iv 155) (iv 161) (iv 157) (iv 158) (iv 159) (iv 154)) 0 2)) 157 ((q_zX (iv 155) (iv 161) (iv 157) (iv 158) (iv 159)).2.2)) 158 ((q_zX (iv 155) (iv 161) (iv 157) (iv 158) (iv 159)).1)) 159 ((q_zX (iv 155) (iv 161) (iv 157) (iv 158) (iv 159)).2.1)) 160 (q_ts (iv 155) (iv 160))) := pz_R_mem (s_X11_fails 2) (by rw [pz_u1_in (r := 154) (q := 160) (by decide)]; rw [pz_u1_in (r := 154) (q := 159) (by decide)]; rw [pz_u1_in (r := 154) (q := 158) (by decide)]; rw [pz_u1_in (r := 154) (q := 157) (by decide)]; rw [pz_u1_top (r := 154)]; rfl)
            refine w_call hc10 rfl (pz_cokI is_154 rfl) ?_
            refine w_ret rfl ?_
            first | exact lf_i (by first | rfl | omega) (by rfl) | (exfalso; omega)))
  · first
    | (exfalso; first | omega | contradiction)
    | (refine w_loc rfl ?_
       refine w_loc rfl ?_
       have hc11 : pz_R (pz_Sh L) 191 [.inr (.inl 154), .inl 0] (pz_u1 (pz_u1 (pz_u1 (pz_u1 (pz_u1 iv 154 (q_zw (iv 155) (iv 161) (iv 157) (iv 158) (iv 159) (iv 154))) 157 ((q_zX (iv 155) (iv 161) (iv 157) (iv 158) (iv 159)).2.2)) 158 ((q_zX (iv 155) (iv 161) (iv 157) (iv 158) (iv 159)).1)) 159 ((q_zX (iv 155) (iv 161) (iv 157) (iv 158) (iv 159)).2.1)) 160 (q_ts (iv 155) (iv 160))) (.inl (some (.inl 0))) (pz_u1 (pz_u1 (pz_u1 (pz_u1 (pz_u1 iv 154 (pz_up (q_zw (iv 155) (iv 161) (iv 157) (iv 158) (iv 159) (iv 154)) 0 0)) 157 ((q_zX (iv 155) (iv 161) (iv 157) (iv 158) (iv 159)).2.2)) 158 ((q_zX (iv 155) (iv 161) (iv 157) (iv 158) (iv 159)).1)) 159 ((q_zX (iv 155) (iv 161) (iv 157) (iv 158) (iv 159)).2.1)) 160 (q_ts (iv 155) (iv 160))) := pz_R_mem (s_X11_fails 0) (by rw [pz_u1_in (r := 154) (q := 160) (by decide)]; rw [pz_u1_in (r := 154) (q := 159) (by decide)]; rw [pz_u1_in (r := 154) (q := 158) (by decide)]; rw [pz_u1_in (r := 154) (q := 157) (by decide)]; rw [pz_u1_top (r := 154)]; rfl)
       refine w_call hc11 rfl (pz_cokI is_154 rfl) ?_
       refine w_ret rfl ?_
       first | exact lf_i (by first | rfl | omega) (by rfl) | (exfalso; omega))

theorem s_X11_uppermost_3 {L : Nat} {iv : Nat → Nat → Int} (e : Int) (hk : q_KR (iv 155)) (hcase0 : 0 ≤ e ∧ e ≤ iv 155 0 - 1) (hcase1 : q_seen (iv 155) (iv 161) (iv 157) (iv 158) (iv 159)) (hcase2 : q_sta (iv 155) e) : pz_R (pz_Sh L) 272 [.inr (.inl 154), .inl e] iv (.inl (some (.inl 0))) (pz_u1 (pz_u1 (pz_u1 (pz_u1 (pz_u1 iv 154 (pz_up (q_zw (iv 155) (iv 161) (iv 157) (iv 158) (iv 159) (iv 154)) 0 2)) 157 ((q_zX (iv 155) (iv 161) (iv 157) (iv 158) (iv 159)).2.2)) 158 ((q_zX (iv 155) (iv 161) (iv 157) (iv 158) (iv 159)).1)) 159 ((q_zX (iv 155) (iv 161) (iv 157) (iv 158) (iv 159)).2.1)) 160 (q_ts (iv 155) (iv 160))) := by
  intro dv cc ss
  have hk0 := hk.r0
  refine pz_G_mem (iv2 := pz_u1 (pz_u1 (pz_u1 (pz_u1 (pz_u1 iv 154 (iv 154)) 157 (iv 157)) 158 (iv 158)) 159 (iv 159)) 160 (iv 160)) (by exact (((((pz_u1_self iv 154).symm).trans (pz_u1_self (pz_u1 iv 154 (iv 154)) 157).symm).trans (pz_u1_self (pz_u1 (pz_u1 iv 154 (iv 154)) 157 (iv 157)) 158).symm).trans (pz_u1_self (pz_u1 (pz_u1 (pz_u1 iv 154 (iv 154)) 157 (iv 157)) 158 (iv 158)) 159).symm).trans (pz_u1_self (pz_u1 (pz_u1 (pz_u1 (pz_u1 iv 154 (iv 154)) 157 (iv 157)) 158 (iv 158)) 159 (iv 159)) 160).symm) ?_
  show pz_G 272 0 [some (.inr (.inl 154)), some (.inl e)] [] (pz_Sh L, pz_u1 (pz_u1 (pz_u1 (pz_u1 (pz_u1 iv 154 (iv 154)) 157 (iv 157)) 158 (iv 158)) 159 (iv 159)) 160 (iv 160), dv, cc, ss) (pz_P (pz_Sh L) (.inl (some (.inl 0))) (pz_u1 (pz_u1 (pz_u1 (pz_u1 (pz_u1 iv 154 (pz_up (q_zw (iv 155) (iv 161) (iv 157) (iv 158) (iv 159) (iv 154)) 0 2)) 157 ((q_zX (iv 155) (iv 161) (iv 157) (iv 158) (iv 159)).2.2)) 158 ((q_zX (iv 155) (iv 161) (iv 157) (iv 158) (iv 159)).1)) 159 ((q_zX (iv 155) (iv 161) (iv 157) (iv 158) (iv 159)).2.1)) 160 (q_ts (iv 155) (iv 160))) dv cc ss)
  refine pz_G_of pz_b272_0 ?_
  refine w_loc rfl ?_
  refine w_loc rfl ?_
  refine w_pure rfl ?_
  have hc1 : pz_R (pz_Sh L) 270 [.inr (.inl 154), .inl e, .inl 0] (pz_u1 (pz_u1 (pz_u1 (pz_u1 (pz_u1 iv 154 (iv 154)) 157 (iv 157)) 158 (iv 158)) 159 (iv 159)) 160 (iv 160)) (.inl (some (.inl 0))) (pz_u1 (pz_u1 (pz_u1 (pz_u1 (pz_u1 iv 154 (pz_up (q_zw (iv 155) (iv 161) (iv 157) (iv 158) (iv 159) (iv 154)) 0 2)) 157 ((q_zX (iv 155) (iv 161) (iv 157) (iv 158) (iv 159)).2.2)) 158 ((q_zX (iv 155) (iv 161) (iv 157) (iv 158) (iv 159)).1)) 159 ((q_zX (iv 155) (iv 161) (iv 157) (iv 158) (iv 159)).2.1)) 160 (q_ts (iv 155) (iv 160))) := pz_R_mem (s_X11_window_3hi e 0 (by show q_KR (iv 155); exact hk) (by show 0 ≤ e ∧ e ≤ iv 155 0 - 1; first | assumption | omega) (by show q_seen (iv 155) (iv 161) (iv 157) (iv 158) (iv 159); first | assumption | omega) (by show q_sta (iv 155) e; first | assumption | omega) (by show 0 = 0; rfl)) (by rw [pz_u1_in (r := 154) (q := 160) (by decide)]; rw [pz_u1_in (r := 154) (q := 159) (by decide)]; rw [pz_u1_in (r := 154) (q := 158) (by decide)]; rw [pz_u1_in (r := 154) (q := 157) (by decide)]; rw [pz_u1_top (r := 154)]; rw [pz_u1_in (r := 157) (q := 160) (by decide)]; rw [pz_u1_in (r := 157) (q := 159) (by decide)]; rw [pz_u1_in (r := 157) (q := 158) (by decide)]; rw [pz_u1_top (r := 157)]; rw [pz_u1_in (r := 158) (q := 160) (by decide)]; rw [pz_u1_in (r := 158) (q := 159) (by decide)]; rw [pz_u1_top (r := 158)]; rw [pz_u1_in (r := 159) (q := 160) (by decide)]; rw [pz_u1_top (r := 159)]; rw [pz_u1_top (r := 160)]; rfl)
  refine w_call hc1 rfl (pz_cokI is_154 rfl) ?_
  refine w_ret rfl ?_
  first | exact lf_i (by first | rfl | omega) (by rfl) | (exfalso; omega)

theorem s_X11_window_0hi {L : Nat} {iv : Nat → Nat → Int} (e : Int) (z : Int) (hk : q_KR (iv 155)) (hcase0 : 0 ≤ e ∧ e ≤ iv 155 0 - 1) (hcase1 : q_seen (iv 155) (iv 161) (iv 157) (iv 158) (iv 159)) (hcase2 : ¬ q_sta (iv 155) e) (hcase3 : z = 0) : pz_R (pz_Sh L) 270 [.inr (.inl 154), .inl e, .inl z] iv (.inl (some (.inl (q_hi (q_zX (iv 155) (iv 161) (iv 157) (iv 158) (iv 159)).1 (q_ts (iv 155) (iv 160)) (iv 155) e)))) (pz_u1 (pz_u1 (pz_u1 (pz_u1 (pz_u1 iv 154 (pz_up (q_zw (iv 155) (iv 161) (iv 157) (iv 158) (iv 159) (iv 154)) 0 0)) 157 ((q_zX (iv 155) (iv 161) (iv 157) (iv 158) (iv 159)).2.2)) 158 ((q_zX (iv 155) (iv 161) (iv 157) (iv 158) (iv 159)).1)) 159 ((q_zX (iv 155) (iv 161) (iv 157) (iv 158) (iv 159)).2.1)) 160 (q_ts (iv 155) (iv 160))) := by
  intro dv cc ss
  have hk0 := hk.r0
  refine pz_G_mem (iv2 := pz_u1 (pz_u1 (pz_u1 (pz_u1 (pz_u1 iv 154 (iv 154)) 157 (iv 157)) 158 (iv 158)) 159 (iv 159)) 160 (iv 160)) (by exact (((((pz_u1_self iv 154).symm).trans (pz_u1_self (pz_u1 iv 154 (iv 154)) 157).symm).trans (pz_u1_self (pz_u1 (pz_u1 iv 154 (iv 154)) 157 (iv 157)) 158).symm).trans (pz_u1_self (pz_u1 (pz_u1 (pz_u1 iv 154 (iv 154)) 157 (iv 157)) 158 (iv 158)) 159).symm).trans (pz_u1_self (pz_u1 (pz_u1 (pz_u1 (pz_u1 iv 154 (iv 154)) 157 (iv 157)) 158 (iv 158)) 159 (iv 159)) 160).symm) ?_
  show pz_G 270 0 [some (.inr (.inl 154)), some (.inl e), some (.inl z), none] [] (pz_Sh L, pz_u1 (pz_u1 (pz_u1 (pz_u1 (pz_u1 iv 154 (iv 154)) 157 (iv 157)) 158 (iv 158)) 159 (iv 159)) 160 (iv 160), dv, cc, ss) (pz_P (pz_Sh L) (.inl (some (.inl (q_hi (q_zX (iv 155) (iv 161) (iv 157) (iv 158) (iv 159)).1 (q_ts (iv 155) (iv 160)) (iv 155) e)))) (pz_u1 (pz_u1 (pz_u1 (pz_u1 (pz_u1 iv 154 (pz_up (q_zw (iv 155) (iv 161) (iv 157) (iv 158) (iv 159) (iv 154)) 0 0)) 157 ((q_zX (iv 155) (iv 161) (iv 157) (iv 158) (iv 159)).2.2)) 158 ((q_zX (iv 155) (iv 161) (iv 157) (iv 158) (iv 159)).1)) 159 ((q_zX (iv 155) (iv 161) (iv 157) (iv 158) (iv 159)).2.1)) 160 (q_ts (iv 155) (iv 160))) dv cc ss)
  refine pz_G_of pz_b270_0 ?_
  refine w_loc rfl ?_
  refine w_loc rfl ?_
  have hc1 : pz_R (pz_Sh L) 268 [.inr (.inl 154), .inl e] (pz_u1 (pz_u1 (pz_u1 (pz_u1 (pz_u1 iv 154 (iv 154)) 157 (iv 157)) 158 (iv 158)) 159 (iv 159)) 160 (iv 160)) (.inl (some (.inl 0))) (pz_u1 (pz_u1 (pz_u1 (pz_u1 (pz_u1 iv 154 (q_zw (iv 155) (iv 161) (iv 157) (iv 158) (iv 159) (iv 154))) 157 ((q_zX (iv 155) (iv 161) (iv 157) (iv 158) (iv 159)).2.2)) 158 ((q_zX (iv 155) (iv 161) (iv 157) (iv 158) (iv 159)).1)) 159 ((q_zX (iv 155) (iv 161) (iv 157) (iv 158) (iv 159)).2.1)) 160 (q_ts (iv 155) (iv 160))) := pz_R_mem (s_X11_wrongSeen_0 e (by show q_KR (iv 155); exact hk) (by show 0 ≤ e ∧ e ≤ iv 155 0 - 1; first | assumption | omega) (by show q_seen (iv 155) (iv 161) (iv 157) (iv 158) (iv 159); first | assumption | omega)) (by rw [pz_u1_in (r := 154) (q := 160) (by decide)]; rw [pz_u1_in (r := 154) (q := 159) (by decide)]; rw [pz_u1_in (r := 154) (q := 158) (by decide)]; rw [pz_u1_in (r := 154) (q := 157) (by decide)]; rw [pz_u1_top (r := 154)]; rw [pz_u1_in (r := 157) (q := 160) (by decide)]; rw [pz_u1_in (r := 157) (q := 159) (by decide)]; rw [pz_u1_in (r := 157) (q := 158) (by decide)]; rw [pz_u1_top (r := 157)]; rw [pz_u1_in (r := 158) (q := 160) (by decide)]; rw [pz_u1_in (r := 158) (q := 159) (by decide)]; rw [pz_u1_top (r := 158)]; rw [pz_u1_in (r := 159) (q := 160) (by decide)]; rw [pz_u1_top (r := 159)]; rw [pz_u1_top (r := 160)]; rfl)
  refine w_call hc1 rfl (pz_cokI is_154 rfl) ?_
  refine w_loc (ls' := [some (.inr (.inl 154)), some (.inl e), some (.inl z), some (.inl 0)]) (st' := []) rfl ?_
  refine w_loc rfl ?_
  refine w_zle (fun h2 => ?_) (fun h2 => ?_)
  · first
    | (exfalso; first | omega | contradiction)
    | (refine pz_G_of pz_b270_16 ?_
       refine w_loc rfl ?_
       refine w_loc rfl ?_
       have hc3 : pz_R (pz_Sh L) 196 [.inr (.inl 154), .inl e] (pz_u1 (pz_u1 (pz_u1 (pz_u1 (pz_u1 iv 154 (q_zw (iv 155) (iv 161) (iv 157) (iv 158) (iv 159) (iv 154))) 157 ((q_zX (iv 155) (iv 161) (iv 157) (iv 158) (iv 159)).2.2)) 158 ((q_zX (iv 155) (iv 161) (iv 157) (iv 158) (iv 159)).1)) 159 ((q_zX (iv 155) (iv 161) (iv 157) (iv 158) (iv 159)).2.1)) 160 (q_ts (iv 155) (iv 160))) (.inl (some (.inl (pz_bi (q_sta (iv 155) e))))) (pz_u1 (pz_u1 (pz_u1 (pz_u1 (pz_u1 iv 154 (q_zw (iv 155) (iv 161) (iv 157) (iv 158) (iv 159) (iv 154))) 157 ((q_zX (iv 155) (iv 161) (iv 157) (iv 158) (iv 159)).2.2)) 158 ((q_zX (iv 155) (iv 161) (iv 157) (iv 158) (iv 159)).1)) 159 ((q_zX (iv 155) (iv 161) (iv 157) (iv 158) (iv 159)).2.1)) 160 (q_ts (iv 155) (iv 160))) := s_X11_hasStarted e (by show 0 ≤ e ∧ e ≤ 9; omega)
       refine w_call hc3 rfl (pz_cokI is_154 rfl) ?_
       refine w_beq (fun h4 => ?_) (fun h4 => ?_)
       · first
         | (exfalso; first | omega | contradiction)
         | (refine pz_G_of pz_b270_30 ?_
            refine w_loc rfl ?_
            refine w_loc rfl ?_
            refine w_zeq (fun h5 => ?_) (fun h5 => ?_)
            · first
              | (exfalso; first | omega | contradiction)
              | (refine pz_G_of pz_b270_43 ?_
                 refine w_loc rfl ?_
                 refine w_loc rfl ?_
                 have hc6 : pz_R (pz_Sh L) 254 [.inr (.inl 154), .inl e] (pz_u1 (pz_u1 (pz_u1 (pz_u1 (pz_u1 iv 154 (q_zw (iv 155) (iv 161) (iv 157) (iv 158) (iv 159) (iv 154))) 157 ((q_zX (iv 155) (iv 161) (iv 157) (iv 158) (iv 159)).2.2)) 158 ((q_zX (iv 155) (iv 161) (iv 157) (iv 158) (iv 159)).1)) 159 ((q_zX (iv 155) (iv 161) (iv 157) (iv 158) (iv 159)).2.1)) 160 (q_ts (iv 155) (iv 160))) (.inl (some (.inl (q_hi ((q_zX (iv 155) (iv 161) (iv 157) (iv 158) (iv 159)).1) (q_ts (iv 155) (iv 160)) (iv 155) e)))) (pz_u1 (pz_u1 (pz_u1 (pz_u1 (pz_u1 iv 154 (q_zw (iv 155) (iv 161) (iv 157) (iv 158) (iv 159) (iv 154))) 157 ((q_zX (iv 155) (iv 161) (iv 157) (iv 158) (iv 159)).2.2)) 158 ((q_zX (iv 155) (iv 161) (iv 157) (iv 158) (iv 159)).1)) 159 ((q_zX (iv 155) (iv 161) (iv 157) (iv 158) (iv 159)).2.1)) 160 (q_ts (iv 155) (iv 160))) := s_X11_high e (by show q_KR (iv 155); exact hk) (by show 0 ≤ e ∧ e ≤ 9; omega) (by show q_vl ((q_zX (iv 155) (iv 161) (iv 157) (iv 158) (iv 159)).1); exact q_zv_l hk hcase1) (by show q_al (q_ts (iv 155) (iv 160)); exact q_ts_al hk)
                 refine w_call hc6 rfl (pz_cokI is_154 rfl) ?_
                 refine w_nil ?_
                 refine pz_G_of pz_b270_48 ?_
                 have hc7 : pz_R (pz_Sh L) 192 [.inr (.inl 154), .inl (q_hi ((q_zX (iv 155) (iv 161) (iv 157) (iv 158) (iv 159)).1) (q_ts (iv 155) (iv 160)) (iv 155) e)] (pz_u1 (pz_u1 (pz_u1 (pz_u1 (pz_u1 iv 154 (q_zw (iv 155) (iv 161) (iv 157) (iv 158) (iv 159) (iv 154))) 157 ((q_zX (iv 155) (iv 161) (iv 157) (iv 158) (iv 159)).2.2)) 158 ((q_zX (iv 155) (iv 161) (iv 157) (iv 158) (iv 159)).1)) 159 ((q_zX (iv 155) (iv 161) (iv 157) (iv 158) (iv 159)).2.1)) 160 (q_ts (iv 155) (iv 160))) (.inl (some (.inl (q_hi ((q_zX (iv 155) (iv 161) (iv 157) (iv 158) (iv 159)).1) (q_ts (iv 155) (iv 160)) (iv 155) e)))) (pz_u1 (pz_u1 (pz_u1 (pz_u1 (pz_u1 iv 154 (pz_up (q_zw (iv 155) (iv 161) (iv 157) (iv 158) (iv 159) (iv 154)) 0 0)) 157 ((q_zX (iv 155) (iv 161) (iv 157) (iv 158) (iv 159)).2.2)) 158 ((q_zX (iv 155) (iv 161) (iv 157) (iv 158) (iv 159)).1)) 159 ((q_zX (iv 155) (iv 161) (iv 157) (iv 158) (iv 159)).2.1)) 160 (q_ts (iv 155) (iv 160))) := pz_R_mem (s_X11_tells (q_hi ((q_zX (iv 155) (iv 161) (iv 157) (iv 158) (iv 159)).1) (q_ts (iv 155) (iv 160)) (iv 155) e)) (by rw [pz_u1_in (r := 154) (q := 160) (by decide)]; rw [pz_u1_in (r := 154) (q := 159) (by decide)]; rw [pz_u1_in (r := 154) (q := 158) (by decide)]; rw [pz_u1_in (r := 154) (q := 157) (by decide)]; rw [pz_u1_top (r := 154)]; rfl)
                 refine w_call hc7 rfl (pz_cokI is_154 rfl) ?_
                 refine w_ret rfl ?_
                 first | exact lf_i (by first | rfl | omega) (by rfl) | (exfalso; omega))
            · first
              | (exfalso; first | omega | contradiction)
              | (refine w_loc rfl ?_
                 refine w_loc rfl ?_
                 have hc8 : pz_R (pz_Sh L) 253 [.inr (.inl 154), .inl e] (pz_u1 (pz_u1 (pz_u1 (pz_u1 (pz_u1 iv 154 (q_zw (iv 155) (iv 161) (iv 157) (iv 158) (iv 159) (iv 154))) 157 ((q_zX (iv 155) (iv 161) (iv 157) (iv 158) (iv 159)).2.2)) 158 ((q_zX (iv 155) (iv 161) (iv 157) (iv 158) (iv 159)).1)) 159 ((q_zX (iv 155) (iv 161) (iv 157) (iv 158) (iv 159)).2.1)) 160 (q_ts (iv 155) (iv 160))) (.inl (some (.inl (q_lo ((q_zX (iv 155) (iv 161) (iv 157) (iv 158) (iv 159)).1) (q_ts (iv 155) (iv 160)) (iv 155) e)))) (pz_u1 (pz_u1 (pz_u1 (pz_u1 (pz_u1 iv 154 (q_zw (iv 155) (iv 161) (iv 157) (iv 158) (iv 159) (iv 154))) 157 ((q_zX (iv 155) (iv 161) (iv 157) (iv 158) (iv 159)).2.2)) 158 ((q_zX (iv 155) (iv 161) (iv 157) (iv 158) (iv 159)).1)) 159 ((q_zX (iv 155) (iv 161) (iv 157) (iv 158) (iv 159)).2.1)) 160 (q_ts (iv 155) (iv 160))) := s_X11_low e (by show q_KR (iv 155); exact hk) (by show 0 ≤ e ∧ e ≤ 9; omega) (by show q_vl ((q_zX (iv 155) (iv 161) (iv 157) (iv 158) (iv 159)).1); exact q_zv_l hk hcase1) (by show q_al (q_ts (iv 155) (iv 160)); exact q_ts_al hk)
                 refine w_call hc8 rfl (pz_cokI is_154 rfl) ?_
                 refine w_goto ?_
                 refine pz_G_of pz_b270_48 ?_
                 have hc9 : pz_R (pz_Sh L) 192 [.inr (.inl 154), .inl (q_lo ((q_zX (iv 155) (iv 161) (iv 157) (iv 158) (iv 159)).1) (q_ts (iv 155) (iv 160)) (iv 155) e)] (pz_u1 (pz_u1 (pz_u1 (pz_u1 (pz_u1 iv 154 (q_zw (iv 155) (iv 161) (iv 157) (iv 158) (iv 159) (iv 154))) 157 ((q_zX (iv 155) (iv 161) (iv 157) (iv 158) (iv 159)).2.2)) 158 ((q_zX (iv 155) (iv 161) (iv 157) (iv 158) (iv 159)).1)) 159 ((q_zX (iv 155) (iv 161) (iv 157) (iv 158) (iv 159)).2.1)) 160 (q_ts (iv 155) (iv 160))) (.inl (some (.inl (q_lo ((q_zX (iv 155) (iv 161) (iv 157) (iv 158) (iv 159)).1) (q_ts (iv 155) (iv 160)) (iv 155) e)))) (pz_u1 (pz_u1 (pz_u1 (pz_u1 (pz_u1 iv 154 (pz_up (q_zw (iv 155) (iv 161) (iv 157) (iv 158) (iv 159) (iv 154)) 0 0)) 157 ((q_zX (iv 155) (iv 161) (iv 157) (iv 158) (iv 159)).2.2)) 158 ((q_zX (iv 155) (iv 161) (iv 157) (iv 158) (iv 159)).1)) 159 ((q_zX (iv 155) (iv 161) (iv 157) (iv 158) (iv 159)).2.1)) 160 (q_ts (iv 155) (iv 160))) := pz_R_mem (s_X11_tells (q_lo ((q_zX (iv 155) (iv 161) (iv 157) (iv 158) (iv 159)).1) (q_ts (iv 155) (iv 160)) (iv 155) e)) (by rw [pz_u1_in (r := 154) (q := 160) (by decide)]; rw [pz_u1_in (r := 154) (q := 159) (by decide)]; rw [pz_u1_in (r := 154) (q := 158) (by decide)]; rw [pz_u1_in (r := 154) (q := 157) (by decide)]; rw [pz_u1_top (r := 154)]; rfl)
                 refine w_call hc9 rfl (pz_cokI is_154 rfl) ?_
                 refine w_ret rfl ?_
                 first | exact lf_i (by first | rfl | omega) (by rfl) | (exfalso; omega)))
       · first
         | (exfalso; first | omega | contradiction)
         | (refine w_loc rfl ?_
            refine w_pure rfl ?_
            have hc10 : pz_R (pz_Sh L) 191 [.inr (.inl 154), .inl 2] (pz_u1 (pz_u1 (pz_u1 (pz_u1 (pz_u1 iv 154 (q_zw (iv 155) (iv 161) (iv 157) (iv 158) (iv 159) (iv 154))) 157 ((q_zX (iv 155) (iv 161) (iv 157) (iv 158) (iv 159)).2.2)) 158 ((q_zX (iv 155) (iv 161) (iv 157) (iv 158) (iv 159)).1)) 159 ((q_zX (iv 155) (iv 161) (iv 157) (iv 158) (iv 159)).2.1)) 160 (q_ts (iv 155) (iv 160))) (.inl (some (.inl 0))) (pz_u1 (pz_u1 (pz_u1 (pz_u1 (pz_u1 iv 154 (pz_up (q_zw (iv 155) (iv 161) (iv 157) (iv 158) (iv 159) (iv 154)) 0 2)) 157 ((q_zX (iv 155) (iv 161) (iv 157) (iv 158) (iv 159)).2.2)) 158 ((q_zX (iv 155) (iv 161) (iv 157) (iv 158) (iv 159)).1)) 159 ((q_zX (iv 155) (iv 161) (iv 157) (iv 158) (iv 159)).2.1)) 160 (q_ts (iv 155) (iv 160))) := pz_R_mem (s_X11_fails 2) (by rw [pz_u1_in (r := 154) (q := 160) (by decide)]; rw [pz_u1_in (r := 154) (q := 159) (by decide)]; rw [pz_u1_in (r := 154) (q := 158) (by decide)]; rw [pz_u1_in (r := 154) (q := 157) (by decide)]; rw [pz_u1_top (r := 154)]; rfl)
            refine w_call hc10 rfl (pz_cokI is_154 rfl) ?_
            refine w_ret rfl ?_
            first | exact lf_i (by first | rfl | omega) (by rfl) | (exfalso; omega)))
  · first
    | (exfalso; first | omega | contradiction)
    | (refine w_loc rfl ?_
       refine w_loc rfl ?_
       have hc11 : pz_R (pz_Sh L) 191 [.inr (.inl 154), .inl 0] (pz_u1 (pz_u1 (pz_u1 (pz_u1 (pz_u1 iv 154 (q_zw (iv 155) (iv 161) (iv 157) (iv 158) (iv 159) (iv 154))) 157 ((q_zX (iv 155) (iv 161) (iv 157) (iv 158) (iv 159)).2.2)) 158 ((q_zX (iv 155) (iv 161) (iv 157) (iv 158) (iv 159)).1)) 159 ((q_zX (iv 155) (iv 161) (iv 157) (iv 158) (iv 159)).2.1)) 160 (q_ts (iv 155) (iv 160))) (.inl (some (.inl 0))) (pz_u1 (pz_u1 (pz_u1 (pz_u1 (pz_u1 iv 154 (pz_up (q_zw (iv 155) (iv 161) (iv 157) (iv 158) (iv 159) (iv 154)) 0 0)) 157 ((q_zX (iv 155) (iv 161) (iv 157) (iv 158) (iv 159)).2.2)) 158 ((q_zX (iv 155) (iv 161) (iv 157) (iv 158) (iv 159)).1)) 159 ((q_zX (iv 155) (iv 161) (iv 157) (iv 158) (iv 159)).2.1)) 160 (q_ts (iv 155) (iv 160))) := pz_R_mem (s_X11_fails 0) (by rw [pz_u1_in (r := 154) (q := 160) (by decide)]; rw [pz_u1_in (r := 154) (q := 159) (by decide)]; rw [pz_u1_in (r := 154) (q := 158) (by decide)]; rw [pz_u1_in (r := 154) (q := 157) (by decide)]; rw [pz_u1_top (r := 154)]; rfl)
       refine w_call hc11 rfl (pz_cokI is_154 rfl) ?_
       refine w_ret rfl ?_
       first | exact lf_i (by first | rfl | omega) (by rfl) | (exfalso; omega))

theorem s_X11_uppermost_0 {L : Nat} {iv : Nat → Nat → Int} (e : Int) (hk : q_KR (iv 155)) (hcase0 : 0 ≤ e ∧ e ≤ iv 155 0 - 1) (hcase1 : q_seen (iv 155) (iv 161) (iv 157) (iv 158) (iv 159)) (hcase2 : ¬ q_sta (iv 155) e) : pz_R (pz_Sh L) 272 [.inr (.inl 154), .inl e] iv (.inl (some (.inl (q_hi (q_zX (iv 155) (iv 161) (iv 157) (iv 158) (iv 159)).1 (q_ts (iv 155) (iv 160)) (iv 155) e)))) (pz_u1 (pz_u1 (pz_u1 (pz_u1 (pz_u1 iv 154 (pz_up (q_zw (iv 155) (iv 161) (iv 157) (iv 158) (iv 159) (iv 154)) 0 0)) 157 ((q_zX (iv 155) (iv 161) (iv 157) (iv 158) (iv 159)).2.2)) 158 ((q_zX (iv 155) (iv 161) (iv 157) (iv 158) (iv 159)).1)) 159 ((q_zX (iv 155) (iv 161) (iv 157) (iv 158) (iv 159)).2.1)) 160 (q_ts (iv 155) (iv 160))) := by
  intro dv cc ss
  have hk0 := hk.r0
  refine pz_G_mem (iv2 := pz_u1 (pz_u1 (pz_u1 (pz_u1 (pz_u1 iv 154 (iv 154)) 157 (iv 157)) 158 (iv 158)) 159 (iv 159)) 160 (iv 160)) (by exact (((((pz_u1_self iv 154).symm).trans (pz_u1_self (pz_u1 iv 154 (iv 154)) 157).symm).trans (pz_u1_self (pz_u1 (pz_u1 iv 154 (iv 154)) 157 (iv 157)) 158).symm).trans (pz_u1_self (pz_u1 (pz_u1 (pz_u1 iv 154 (iv 154)) 157 (iv 157)) 158 (iv 158)) 159).symm).trans (pz_u1_self (pz_u1 (pz_u1 (pz_u1 (pz_u1 iv 154 (iv 154)) 157 (iv 157)) 158 (iv 158)) 159 (iv 159)) 160).symm) ?_
  show pz_G 272 0 [some (.inr (.inl 154)), some (.inl e)] [] (pz_Sh L, pz_u1 (pz_u1 (pz_u1 (pz_u1 (pz_u1 iv 154 (iv 154)) 157 (iv 157)) 158 (iv 158)) 159 (iv 159)) 160 (iv 160), dv, cc, ss) (pz_P (pz_Sh L) (.inl (some (.inl (q_hi (q_zX (iv 155) (iv 161) (iv 157) (iv 158) (iv 159)).1 (q_ts (iv 155) (iv 160)) (iv 155) e)))) (pz_u1 (pz_u1 (pz_u1 (pz_u1 (pz_u1 iv 154 (pz_up (q_zw (iv 155) (iv 161) (iv 157) (iv 158) (iv 159) (iv 154)) 0 0)) 157 ((q_zX (iv 155) (iv 161) (iv 157) (iv 158) (iv 159)).2.2)) 158 ((q_zX (iv 155) (iv 161) (iv 157) (iv 158) (iv 159)).1)) 159 ((q_zX (iv 155) (iv 161) (iv 157) (iv 158) (iv 159)).2.1)) 160 (q_ts (iv 155) (iv 160))) dv cc ss)
  refine pz_G_of pz_b272_0 ?_
  refine w_loc rfl ?_
  refine w_loc rfl ?_
  refine w_pure rfl ?_
  have hc1 : pz_R (pz_Sh L) 270 [.inr (.inl 154), .inl e, .inl 0] (pz_u1 (pz_u1 (pz_u1 (pz_u1 (pz_u1 iv 154 (iv 154)) 157 (iv 157)) 158 (iv 158)) 159 (iv 159)) 160 (iv 160)) (.inl (some (.inl (q_hi (q_zX (iv 155) (iv 161) (iv 157) (iv 158) (iv 159)).1 (q_ts (iv 155) (iv 160)) (iv 155) e)))) (pz_u1 (pz_u1 (pz_u1 (pz_u1 (pz_u1 iv 154 (pz_up (q_zw (iv 155) (iv 161) (iv 157) (iv 158) (iv 159) (iv 154)) 0 0)) 157 ((q_zX (iv 155) (iv 161) (iv 157) (iv 158) (iv 159)).2.2)) 158 ((q_zX (iv 155) (iv 161) (iv 157) (iv 158) (iv 159)).1)) 159 ((q_zX (iv 155) (iv 161) (iv 157) (iv 158) (iv 159)).2.1)) 160 (q_ts (iv 155) (iv 160))) := pz_R_mem (s_X11_window_0hi e 0 (by show q_KR (iv 155); exact hk) (by show 0 ≤ e ∧ e ≤ iv 155 0 - 1; first | assumption | omega) (by show q_seen (iv 155) (iv 161) (iv 157) (iv 158) (iv 159); first | assumption | omega) (by show ¬ q_sta (iv 155) e; first | assumption | omega) (by show 0 = 0; rfl)) (by rw [pz_u1_in (r := 154) (q := 160) (by decide)]; rw [pz_u1_in (r := 154) (q := 159) (by decide)]; rw [pz_u1_in (r := 154) (q := 158) (by decide)]; rw [pz_u1_in (r := 154) (q := 157) (by decide)]; rw [pz_u1_top (r := 154)]; rw [pz_u1_in (r := 157) (q := 160) (by decide)]; rw [pz_u1_in (r := 157) (q := 159) (by decide)]; rw [pz_u1_in (r := 157) (q := 158) (by decide)]; rw [pz_u1_top (r := 157)]; rw [pz_u1_in (r := 158) (q := 160) (by decide)]; rw [pz_u1_in (r := 158) (q := 159) (by decide)]; rw [pz_u1_top (r := 158)]; rw [pz_u1_in (r := 159) (q := 160) (by decide)]; rw [pz_u1_top (r := 159)]; rw [pz_u1_top (r := 160)]; rfl)
  refine w_call hc1 rfl (pz_cokI is_154 rfl) ?_
  refine w_ret rfl ?_
  first | exact lf_i (by first | rfl | omega) (by rfl) | (exfalso; omega)

theorem s_X11_start_1 {L : Nat} {iv : Nat → Nat → Int} (e : Int) (hk : q_KR (iv 155)) (hcase0 : ¬ (0 ≤ e ∧ e ≤ iv 155 0 - 1)) : pz_R (pz_Sh L) 273 [.inr (.inl 154), .inl e] iv (.inl (some (.inl 0))) (pz_u1 (pz_u1 (pz_u1 (pz_u1 (pz_u1 (pz_u1 iv 154 (pz_up (iv 154) 0 1)) 155 (iv 155)) 157 (iv 157)) 158 (iv 158)) 159 (iv 159)) 160 (iv 160)) := by
  intro dv cc ss
  have hk0 := hk.r0
  refine pz_G_mem (iv2 := pz_u1 (pz_u1 (pz_u1 (pz_u1 (pz_u1 (pz_u1 iv 154 (iv 154)) 155 (iv 155)) 157 (iv 157)) 158 (iv 158)) 159 (iv 159)) 160 (iv 160)) (by exact ((((((pz_u1_self iv 154).symm).trans (pz_u1_self (pz_u1 iv 154 (iv 154)) 155).symm).trans (pz_u1_self (pz_u1 (pz_u1 iv 154 (iv 154)) 155 (iv 155)) 157).symm).trans (pz_u1_self (pz_u1 (pz_u1 (pz_u1 iv 154 (iv 154)) 155 (iv 155)) 157 (iv 157)) 158).symm).trans (pz_u1_self (pz_u1 (pz_u1 (pz_u1 (pz_u1 iv 154 (iv 154)) 155 (iv 155)) 157 (iv 157)) 158 (iv 158)) 159).symm).trans (pz_u1_self (pz_u1 (pz_u1 (pz_u1 (pz_u1 (pz_u1 iv 154 (iv 154)) 155 (iv 155)) 157 (iv 157)) 158 (iv 158)) 159 (iv 159)) 160).symm) ?_
  show pz_G 273 0 [some (.inr (.inl 154)), some (.inl e), none] [] (pz_Sh L, pz_u1 (pz_u1 (pz_u1 (pz_u1 (pz_u1 (pz_u1 iv 154 (iv 154)) 155 (iv 155)) 157 (iv 157)) 158 (iv 158)) 159 (iv 159)) 160 (iv 160), dv, cc, ss) (pz_P (pz_Sh L) (.inl (some (.inl 0))) (pz_u1 (pz_u1 (pz_u1 (pz_u1 (pz_u1 (pz_u1 iv 154 (pz_up (iv 154) 0 1)) 155 (iv 155)) 157 (iv 157)) 158 (iv 158)) 159 (iv 159)) 160 (iv 160)) dv cc ss)
  refine pz_G_of pz_b273_0 ?_
  refine w_loc rfl ?_
  refine w_loc rfl ?_
  have hc1 : pz_R (pz_Sh L) 268 [.inr (.inl 154), .inl e] (pz_u1 (pz_u1 (pz_u1 (pz_u1 (pz_u1 (pz_u1 iv 154 (iv 154)) 155 (iv 155)) 157 (iv 157)) 158 (iv 158)) 159 (iv 159)) 160 (iv 160)) (.inl (some (.inl 1))) (pz_u1 (pz_u1 (pz_u1 (pz_u1 (pz_u1 (pz_u1 iv 154 (iv 154)) 155 (iv 155)) 157 (iv 157)) 158 (iv 158)) 159 (iv 159)) 160 (iv 160)) := pz_R_mem (s_X11_wrongSeen_1 e (by show q_KR (iv 155); exact hk) (by show ¬ (0 ≤ e ∧ e ≤ iv 155 0 - 1); first | assumption | omega)) (by rw [pz_u1_in (r := 154) (q := 160) (by decide)]; rw [pz_u1_in (r := 154) (q := 159) (by decide)]; rw [pz_u1_in (r := 154) (q := 158) (by decide)]; rw [pz_u1_in (r := 154) (q := 157) (by decide)]; rw [pz_u1_in (r := 154) (q := 155) (by decide)]; rw [pz_u1_top (r := 154)]; rw [pz_u1_in (r := 157) (q := 160) (by decide)]; rw [pz_u1_in (r := 157) (q := 159) (by decide)]; rw [pz_u1_in (r := 157) (q := 158) (by decide)]; rw [pz_u1_top (r := 157)]; rw [pz_u1_in (r := 158) (q := 160) (by decide)]; rw [pz_u1_in (r := 158) (q := 159) (by decide)]; rw [pz_u1_top (r := 158)]; rw [pz_u1_in (r := 159) (q := 160) (by decide)]; rw [pz_u1_top (r := 159)]; rw [pz_u1_top (r := 160)]; rfl)
  refine w_call hc1 rfl (pz_cokI is_154 rfl) ?_
  refine w_loc (ls' := [some (.inr (.inl 154)), some (.inl e), some (.inl 1)]) (st' := []) rfl ?_
  refine w_loc rfl ?_
  refine w_zle (fun h2 => ?_) (fun h2 => ?_)
  · first
    | (exfalso; first | omega | contradiction)
    | (refine pz_G_of pz_b273_16 ?_
       refine w_loc rfl ?_
       refine w_loc rfl ?_
       refine w_loc rfl ?_
       refine w_getR (q := 155) is_154 rf_154_1 ?_
       refine w_pure rfl ?_
       refine w_iald (v := (iv 155) 4) is_155 ln_155 ⟨by omega, by omega⟩ rfl ?_
       have hc3 : pz_R (pz_Sh L) 257 [.inr (.inl 154), .inl e, .inl ((iv 155) 4)] (pz_u1 (pz_u1 (pz_u1 (pz_u1 (pz_u1 (pz_u1 iv 154 (iv 154)) 155 (iv 155)) 157 (iv 157)) 158 (iv 158)) 159 (iv 159)) 160 (iv 160)) (.inl (some (.inl (q_rs (iv 158) (iv 160) (iv 155) e ((iv 155) 4))))) (pz_u1 (pz_u1 (pz_u1 (pz_u1 (pz_u1 (pz_u1 iv 154 (iv 154)) 155 (iv 155)) 157 (iv 157)) 158 (iv 158)) 159 (iv 159)) 160 (iv 160)) := s_X11_reasonOf e ((iv 155) 4) (by show q_KR (iv 155); exact hk) (by show 0 ≤ e ∧ e ≤ 9; omega) (by show 0 ≤ ((iv 155) 4) ∧ ((iv 155) 4) ≤ 1000; omega) (by show q_vl (iv 158); exact q_zv_l hk hcase1) (by show q_al (iv 160); exact q_ts_al hk)
       refine w_call hc3 rfl (pz_cokI is_154 rfl) ?_
       refine w_pure rfl ?_
       refine w_ieq (fun h4 => ?_) (fun h4 => ?_)
       · first
         | (exfalso; first | omega | contradiction)
         | (refine pz_G_of pz_b273_38 ?_
            refine w_loc rfl ?_
            refine w_getR (q := 155) is_154 rf_154_1 ?_
            refine w_pure rfl ?_
            refine w_loc rfl ?_
            refine w_iadd (by omega) ?_
            refine w_loc rfl ?_
            refine w_getR (q := 155) is_154 rf_154_1 ?_
            refine w_pure rfl ?_
            refine w_iald (v := (iv 155) 4) is_155 ln_155 ⟨by omega, by omega⟩ rfl ?_
            refine w_iastm (iv2 := pz_u1 (pz_u1 (pz_u1 (pz_u1 (pz_u1 (pz_u1 iv 154 (iv 154)) 155 (pz_up (iv 155) (6 + e).toNat ((iv 155) 4))) 157 (iv 157)) 158 (iv 158)) 159 (iv 159)) 160 (iv 160)) is_155 ln_155 ⟨by omega, by omega⟩ (by rw [pz_u2_in (r := 155) (q := 160) (by decide)]; rw [pz_u2_in (r := 155) (q := 159) (by decide)]; rw [pz_u2_in (r := 155) (q := 158) (by decide)]; rw [pz_u2_in (r := 155) (q := 157) (by decide)]; rw [pz_u2_top]) ?_
            refine w_loc rfl ?_
            refine w_loc rfl ?_
            refine w_getR (q := 155) is_154 rf_154_1 ?_
            refine w_pure rfl ?_
            refine w_iald (v := (iv 155) 4) is_155 ln_155 ⟨by omega, by omega⟩ (by show (pz_up (iv 155) (6 + e).toNat ((iv 155) 4)) 4 = _; rw [pz_up_ne (by omega)]) ?_
            have hc5 : pz_R (pz_Sh L) 192 [.inr (.inl 154), .inl ((iv 155) 4)] (pz_u1 (pz_u1 (pz_u1 (pz_u1 (pz_u1 (pz_u1 iv 154 (iv 154)) 155 (pz_up (iv 155) (6 + e).toNat ((iv 155) 4))) 157 (iv 157)) 158 (iv 158)) 159 (iv 159)) 160 (iv 160)) (.inl (some (.inl ((iv 155) 4)))) (pz_u1 (pz_u1 (pz_u1 (pz_u1 (pz_u1 (pz_u1 iv 154 (pz_up (iv 154) 0 0)) 155 (pz_up (iv 155) (6 + e).toNat ((iv 155) 4))) 157 (iv 157)) 158 (iv 158)) 159 (iv 159)) 160 (iv 160)) := pz_R_mem (s_X11_tells ((iv 155) 4)) (by rw [pz_u1_in (r := 154) (q := 160) (by decide)]; rw [pz_u1_in (r := 154) (q := 159) (by decide)]; rw [pz_u1_in (r := 154) (q := 158) (by decide)]; rw [pz_u1_in (r := 154) (q := 157) (by decide)]; rw [pz_u1_in (r := 154) (q := 155) (by decide)]; rw [pz_u1_top (r := 154)]; rfl)
            refine w_call hc5 rfl (pz_cokI is_154 rfl) ?_
            refine w_ret rfl ?_
            first | exact lf_i (by first | rfl | omega) (by rfl) | (exfalso; omega))
       · first
         | (exfalso; first | omega | contradiction)
         | (refine w_loc rfl ?_
            refine w_pure rfl ?_
            have hc6 : pz_R (pz_Sh L) 191 [.inr (.inl 154), .inl 3] (pz_u1 (pz_u1 (pz_u1 (pz_u1 (pz_u1 (pz_u1 iv 154 (iv 154)) 155 (iv 155)) 157 (iv 157)) 158 (iv 158)) 159 (iv 159)) 160 (iv 160)) (.inl (some (.inl 0))) (pz_u1 (pz_u1 (pz_u1 (pz_u1 (pz_u1 (pz_u1 iv 154 (pz_up (iv 154) 0 3)) 155 (iv 155)) 157 (iv 157)) 158 (iv 158)) 159 (iv 159)) 160 (iv 160)) := pz_R_mem (s_X11_fails 3) (by rw [pz_u1_in (r := 154) (q := 160) (by decide)]; rw [pz_u1_in (r := 154) (q := 159) (by decide)]; rw [pz_u1_in (r := 154) (q := 158) (by decide)]; rw [pz_u1_in (r := 154) (q := 157) (by decide)]; rw [pz_u1_in (r := 154) (q := 155) (by decide)]; rw [pz_u1_top (r := 154)]; rfl)
            refine w_call hc6 rfl (pz_cokI is_154 rfl) ?_
            refine w_ret rfl ?_
            first | exact lf_i (by first | rfl | omega) (by rfl) | (exfalso; omega)))
  · first
    | (exfalso; first | omega | contradiction)
    | (refine w_loc rfl ?_
       refine w_loc rfl ?_
       have hc7 : pz_R (pz_Sh L) 191 [.inr (.inl 154), .inl 1] (pz_u1 (pz_u1 (pz_u1 (pz_u1 (pz_u1 (pz_u1 iv 154 (iv 154)) 155 (iv 155)) 157 (iv 157)) 158 (iv 158)) 159 (iv 159)) 160 (iv 160)) (.inl (some (.inl 0))) (pz_u1 (pz_u1 (pz_u1 (pz_u1 (pz_u1 (pz_u1 iv 154 (pz_up (iv 154) 0 1)) 155 (iv 155)) 157 (iv 157)) 158 (iv 158)) 159 (iv 159)) 160 (iv 160)) := pz_R_mem (s_X11_fails 1) (by rw [pz_u1_in (r := 154) (q := 160) (by decide)]; rw [pz_u1_in (r := 154) (q := 159) (by decide)]; rw [pz_u1_in (r := 154) (q := 158) (by decide)]; rw [pz_u1_in (r := 154) (q := 157) (by decide)]; rw [pz_u1_in (r := 154) (q := 155) (by decide)]; rw [pz_u1_top (r := 154)]; rfl)
       refine w_call hc7 rfl (pz_cokI is_154 rfl) ?_
       refine w_ret rfl ?_
       first | exact lf_i (by first | rfl | omega) (by rfl) | (exfalso; omega))

theorem s_X11_start_2 {L : Nat} {iv : Nat → Nat → Int} (e : Int) (hk : q_KR (iv 155)) (hcase0 : 0 ≤ e ∧ e ≤ iv 155 0 - 1) (hcase1 : ¬ q_seen (iv 155) (iv 161) (iv 157) (iv 158) (iv 159)) : pz_R (pz_Sh L) 273 [.inr (.inl 154), .inl e] iv (.inl (some (.inl 0))) (pz_u1 (pz_u1 (pz_u1 (pz_u1 (pz_u1 (pz_u1 iv 154 (pz_up (q_zw (iv 155) (iv 161) (iv 157) (iv 158) (iv 159) (iv 154)) 0 2)) 155 (iv 155)) 157 ((q_zX (iv 155) (iv 161) (iv 157) (iv 158) (iv 159)).2.2)) 158 ((q_zX (iv 155) (iv 161) (iv 157) (iv 158) (iv 159)).1)) 159 ((q_zX (iv 155) (iv 161) (iv 157) (iv 158) (iv 159)).2.1)) 160 (q_ts (iv 155) (iv 160))) := by
  intro dv cc ss
  have hk0 := hk.r0
  refine pz_G_mem (iv2 := pz_u1 (pz_u1 (pz_u1 (pz_u1 (pz_u1 (pz_u1 iv 154 (iv 154)) 155 (iv 155)) 157 (iv 157)) 158 (iv 158)) 159 (iv 159)) 160 (iv 160)) (by exact ((((((pz_u1_self iv 154).symm).trans (pz_u1_self (pz_u1 iv 154 (iv 154)) 155).symm).trans (pz_u1_self (pz_u1 (pz_u1 iv 154 (iv 154)) 155 (iv 155)) 157).symm).trans (pz_u1_self (pz_u1 (pz_u1 (pz_u1 iv 154 (iv 154)) 155 (iv 155)) 157 (iv 157)) 158).symm).trans (pz_u1_self (pz_u1 (pz_u1 (pz_u1 (pz_u1 iv 154 (iv 154)) 155 (iv 155)) 157 (iv 157)) 158 (iv 158)) 159).symm).trans (pz_u1_self (pz_u1 (pz_u1 (pz_u1 (pz_u1 (pz_u1 iv 154 (iv 154)) 155 (iv 155)) 157 (iv 157)) 158 (iv 158)) 159 (iv 159)) 160).symm) ?_
  show pz_G 273 0 [some (.inr (.inl 154)), some (.inl e), none] [] (pz_Sh L, pz_u1 (pz_u1 (pz_u1 (pz_u1 (pz_u1 (pz_u1 iv 154 (iv 154)) 155 (iv 155)) 157 (iv 157)) 158 (iv 158)) 159 (iv 159)) 160 (iv 160), dv, cc, ss) (pz_P (pz_Sh L) (.inl (some (.inl 0))) (pz_u1 (pz_u1 (pz_u1 (pz_u1 (pz_u1 (pz_u1 iv 154 (pz_up (q_zw (iv 155) (iv 161) (iv 157) (iv 158) (iv 159) (iv 154)) 0 2)) 155 (iv 155)) 157 ((q_zX (iv 155) (iv 161) (iv 157) (iv 158) (iv 159)).2.2)) 158 ((q_zX (iv 155) (iv 161) (iv 157) (iv 158) (iv 159)).1)) 159 ((q_zX (iv 155) (iv 161) (iv 157) (iv 158) (iv 159)).2.1)) 160 (q_ts (iv 155) (iv 160))) dv cc ss)
  refine pz_G_of pz_b273_0 ?_
  refine w_loc rfl ?_
  refine w_loc rfl ?_
  have hc1 : pz_R (pz_Sh L) 268 [.inr (.inl 154), .inl e] (pz_u1 (pz_u1 (pz_u1 (pz_u1 (pz_u1 (pz_u1 iv 154 (iv 154)) 155 (iv 155)) 157 (iv 157)) 158 (iv 158)) 159 (iv 159)) 160 (iv 160)) (.inl (some (.inl 2))) (pz_u1 (pz_u1 (pz_u1 (pz_u1 (pz_u1 (pz_u1 iv 154 (q_zw (iv 155) (iv 161) (iv 157) (iv 158) (iv 159) (iv 154))) 155 (iv 155)) 157 ((q_zX (iv 155) (iv 161) (iv 157) (iv 158) (iv 159)).2.2)) 158 ((q_zX (iv 155) (iv 161) (iv 157) (iv 158) (iv 159)).1)) 159 ((q_zX (iv 155) (iv 161) (iv 157) (iv 158) (iv 159)).2.1)) 160 (q_ts (iv 155) (iv 160))) := pz_R_mem (s_X11_wrongSeen_2 e (by show q_KR (iv 155); exact hk) (by show 0 ≤ e ∧ e ≤ iv 155 0 - 1; first | assumption | omega) (by show ¬ q_seen (iv 155) (iv 161) (iv 157) (iv 158) (iv 159); first | assumption | omega)) (by rw [pz_u1_in (r := 154) (q := 160) (by decide)]; rw [pz_u1_in (r := 154) (q := 159) (by decide)]; rw [pz_u1_in (r := 154) (q := 158) (by decide)]; rw [pz_u1_in (r := 154) (q := 157) (by decide)]; rw [pz_u1_in (r := 154) (q := 155) (by decide)]; rw [pz_u1_top (r := 154)]; rw [pz_u1_in (r := 157) (q := 160) (by decide)]; rw [pz_u1_in (r := 157) (q := 159) (by decide)]; rw [pz_u1_in (r := 157) (q := 158) (by decide)]; rw [pz_u1_top (r := 157)]; rw [pz_u1_in (r := 158) (q := 160) (by decide)]; rw [pz_u1_in (r := 158) (q := 159) (by decide)]; rw [pz_u1_top (r := 158)]; rw [pz_u1_in (r := 159) (q := 160) (by decide)]; rw [pz_u1_top (r := 159)]; rw [pz_u1_top (r := 160)]; rfl)
  refine w_call hc1 rfl (pz_cokI is_154 rfl) ?_
  refine w_loc (ls' := [some (.inr (.inl 154)), some (.inl e), some (.inl 2)]) (st' := []) rfl ?_
  refine w_loc rfl ?_
  refine w_zle (fun h2 => ?_) (fun h2 => ?_)
  · first
    | (exfalso; first | omega | contradiction)
    | (refine pz_G_of pz_b273_16 ?_
       refine w_loc rfl ?_
       refine w_loc rfl ?_
       refine w_loc rfl ?_
       refine w_getR (q := 155) is_154 rf_154_1 ?_
       refine w_pure rfl ?_
       refine w_iald (v := (iv 155) 4) is_155 ln_155 ⟨by omega, by omega⟩ rfl ?_
       have hc3 : pz_R (pz_Sh L) 257 [.inr (.inl 154), .inl e, .inl ((iv 155) 4)] (pz_u1 (pz_u1 (pz_u1 (pz_u1 (pz_u1 (pz_u1 iv 154 (q_zw (iv 155) (iv 161) (iv 157) (iv 158) (iv 159) (iv 154))) 155 (iv 155)) 157 ((q_zX (iv 155) (iv 161) (iv 157) (iv 158) (iv 159)).2.2)) 158 ((q_zX (iv 155) (iv 161) (iv 157) (iv 158) (iv 159)).1)) 159 ((q_zX (iv 155) (iv 161) (iv 157) (iv 158) (iv 159)).2.1)) 160 (q_ts (iv 155) (iv 160))) (.inl (some (.inl (q_rs ((q_zX (iv 155) (iv 161) (iv 157) (iv 158) (iv 159)).1) (q_ts (iv 155) (iv 160)) (iv 155) e ((iv 155) 4))))) (pz_u1 (pz_u1 (pz_u1 (pz_u1 (pz_u1 (pz_u1 iv 154 (q_zw (iv 155) (iv 161) (iv 157) (iv 158) (iv 159) (iv 154))) 155 (iv 155)) 157 ((q_zX (iv 155) (iv 161) (iv 157) (iv 158) (iv 159)).2.2)) 158 ((q_zX (iv 155) (iv 161) (iv 157) (iv 158) (iv 159)).1)) 159 ((q_zX (iv 155) (iv 161) (iv 157) (iv 158) (iv 159)).2.1)) 160 (q_ts (iv 155) (iv 160))) := s_X11_reasonOf e ((iv 155) 4) (by show q_KR (iv 155); exact hk) (by show 0 ≤ e ∧ e ≤ 9; omega) (by show 0 ≤ ((iv 155) 4) ∧ ((iv 155) 4) ≤ 1000; omega) (by show q_vl ((q_zX (iv 155) (iv 161) (iv 157) (iv 158) (iv 159)).1); exact q_zv_l hk hcase1) (by show q_al (q_ts (iv 155) (iv 160)); exact q_ts_al hk)
       refine w_call hc3 rfl (pz_cokI is_154 rfl) ?_
       refine w_pure rfl ?_
       refine w_ieq (fun h4 => ?_) (fun h4 => ?_)
       · first
         | (exfalso; first | omega | contradiction)
         | (refine pz_G_of pz_b273_38 ?_
            refine w_loc rfl ?_
            refine w_getR (q := 155) is_154 rf_154_1 ?_
            refine w_pure rfl ?_
            refine w_loc rfl ?_
            refine w_iadd (by omega) ?_
            refine w_loc rfl ?_
            refine w_getR (q := 155) is_154 rf_154_1 ?_
            refine w_pure rfl ?_
            refine w_iald (v := (iv 155) 4) is_155 ln_155 ⟨by omega, by omega⟩ rfl ?_
            refine w_iastm (iv2 := pz_u1 (pz_u1 (pz_u1 (pz_u1 (pz_u1 (pz_u1 iv 154 (q_zw (iv 155) (iv 161) (iv 157) (iv 158) (iv 159) (iv 154))) 155 (pz_up (iv 155) (6 + e).toNat ((iv 155) 4))) 157 ((q_zX (iv 155) (iv 161) (iv 157) (iv 158) (iv 159)).2.2)) 158 ((q_zX (iv 155) (iv 161) (iv 157) (iv 158) (iv 159)).1)) 159 ((q_zX (iv 155) (iv 161) (iv 157) (iv 158) (iv 159)).2.1)) 160 (q_ts (iv 155) (iv 160))) is_155 ln_155 ⟨by omega, by omega⟩ (by rw [pz_u2_in (r := 155) (q := 160) (by decide)]; rw [pz_u2_in (r := 155) (q := 159) (by decide)]; rw [pz_u2_in (r := 155) (q := 158) (by decide)]; rw [pz_u2_in (r := 155) (q := 157) (by decide)]; rw [pz_u2_top]) ?_
            refine w_loc rfl ?_
            refine w_loc rfl ?_
            refine w_getR (q := 155) is_154 rf_154_1 ?_
            refine w_pure rfl ?_
            refine w_iald (v := (iv 155) 4) is_155 ln_155 ⟨by omega, by omega⟩ (by show (pz_up (iv 155) (6 + e).toNat ((iv 155) 4)) 4 = _; rw [pz_up_ne (by omega)]) ?_
            have hc5 : pz_R (pz_Sh L) 192 [.inr (.inl 154), .inl ((iv 155) 4)] (pz_u1 (pz_u1 (pz_u1 (pz_u1 (pz_u1 (pz_u1 iv 154 (q_zw (iv 155) (iv 161) (iv 157) (iv 158) (iv 159) (iv 154))) 155 (pz_up (iv 155) (6 + e).toNat ((iv 155) 4))) 157 ((q_zX (iv 155) (iv 161) (iv 157) (iv 158) (iv 159)).2.2)) 158 ((q_zX (iv 155) (iv 161) (iv 157) (iv 158) (iv 159)).1)) 159 ((q_zX (iv 155) (iv 161) (iv 157) (iv 158) (iv 159)).2.1)) 160 (q_ts (iv 155) (iv 160))) (.inl (some (.inl ((iv 155) 4)))) (pz_u1 (pz_u1 (pz_u1 (pz_u1 (pz_u1 (pz_u1 iv 154 (pz_up (q_zw (iv 155) (iv 161) (iv 157) (iv 158) (iv 159) (iv 154)) 0 0)) 155 (pz_up (iv 155) (6 + e).toNat ((iv 155) 4))) 157 ((q_zX (iv 155) (iv 161) (iv 157) (iv 158) (iv 159)).2.2)) 158 ((q_zX (iv 155) (iv 161) (iv 157) (iv 158) (iv 159)).1)) 159 ((q_zX (iv 155) (iv 161) (iv 157) (iv 158) (iv 159)).2.1)) 160 (q_ts (iv 155) (iv 160))) := pz_R_mem (s_X11_tells ((iv 155) 4)) (by rw [pz_u1_in (r := 154) (q := 160) (by decide)]; rw [pz_u1_in (r := 154) (q := 159) (by decide)]; rw [pz_u1_in (r := 154) (q := 158) (by decide)]; rw [pz_u1_in (r := 154) (q := 157) (by decide)]; rw [pz_u1_in (r := 154) (q := 155) (by decide)]; rw [pz_u1_top (r := 154)]; rfl)
            refine w_call hc5 rfl (pz_cokI is_154 rfl) ?_
            refine w_ret rfl ?_
            first | exact lf_i (by first | rfl | omega) (by rfl) | (exfalso; omega))
       · first
         | (exfalso; first | omega | contradiction)
         | (refine w_loc rfl ?_
            refine w_pure rfl ?_
            have hc6 : pz_R (pz_Sh L) 191 [.inr (.inl 154), .inl 3] (pz_u1 (pz_u1 (pz_u1 (pz_u1 (pz_u1 (pz_u1 iv 154 (q_zw (iv 155) (iv 161) (iv 157) (iv 158) (iv 159) (iv 154))) 155 (iv 155)) 157 ((q_zX (iv 155) (iv 161) (iv 157) (iv 158) (iv 159)).2.2)) 158 ((q_zX (iv 155) (iv 161) (iv 157) (iv 158) (iv 159)).1)) 159 ((q_zX (iv 155) (iv 161) (iv 157) (iv 158) (iv 159)).2.1)) 160 (q_ts (iv 155) (iv 160))) (.inl (some (.inl 0))) (pz_u1 (pz_u1 (pz_u1 (pz_u1 (pz_u1 (pz_u1 iv 154 (pz_up (q_zw (iv 155) (iv 161) (iv 157) (iv 158) (iv 159) (iv 154)) 0 3)) 155 (iv 155)) 157 ((q_zX (iv 155) (iv 161) (iv 157) (iv 158) (iv 159)).2.2)) 158 ((q_zX (iv 155) (iv 161) (iv 157) (iv 158) (iv 159)).1)) 159 ((q_zX (iv 155) (iv 161) (iv 157) (iv 158) (iv 159)).2.1)) 160 (q_ts (iv 155) (iv 160))) := pz_R_mem (s_X11_fails 3) (by rw [pz_u1_in (r := 154) (q := 160) (by decide)]; rw [pz_u1_in (r := 154) (q := 159) (by decide)]; rw [pz_u1_in (r := 154) (q := 158) (by decide)]; rw [pz_u1_in (r := 154) (q := 157) (by decide)]; rw [pz_u1_in (r := 154) (q := 155) (by decide)]; rw [pz_u1_top (r := 154)]; rfl)
            refine w_call hc6 rfl (pz_cokI is_154 rfl) ?_
            refine w_ret rfl ?_
            first | exact lf_i (by first | rfl | omega) (by rfl) | (exfalso; omega)))
  · first
    | (exfalso; first | omega | contradiction)
    | (refine w_loc rfl ?_
       refine w_loc rfl ?_
       have hc7 : pz_R (pz_Sh L) 191 [.inr (.inl 154), .inl 2] (pz_u1 (pz_u1 (pz_u1 (pz_u1 (pz_u1 (pz_u1 iv 154 (q_zw (iv 155) (iv 161) (iv 157) (iv 158) (iv 159) (iv 154))) 155 (iv 155)) 157 ((q_zX (iv 155) (iv 161) (iv 157) (iv 158) (iv 159)).2.2)) 158 ((q_zX (iv 155) (iv 161) (iv 157) (iv 158) (iv 159)).1)) 159 ((q_zX (iv 155) (iv 161) (iv 157) (iv 158) (iv 159)).2.1)) 160 (q_ts (iv 155) (iv 160))) (.inl (some (.inl 0))) (pz_u1 (pz_u1 (pz_u1 (pz_u1 (pz_u1 (pz_u1 iv 154 (pz_up (q_zw (iv 155) (iv 161) (iv 157) (iv 158) (iv 159) (iv 154)) 0 2)) 155 (iv 155)) 157 ((q_zX (iv 155) (iv 161) (iv 157) (iv 158) (iv 159)).2.2)) 158 ((q_zX (iv 155) (iv 161) (iv 157) (iv 158) (iv 159)).1)) 159 ((q_zX (iv 155) (iv 161) (iv 157) (iv 158) (iv 159)).2.1)) 160 (q_ts (iv 155) (iv 160))) := pz_R_mem (s_X11_fails 2) (by rw [pz_u1_in (r := 154) (q := 160) (by decide)]; rw [pz_u1_in (r := 154) (q := 159) (by decide)]; rw [pz_u1_in (r := 154) (q := 158) (by decide)]; rw [pz_u1_in (r := 154) (q := 157) (by decide)]; rw [pz_u1_in (r := 154) (q := 155) (by decide)]; rw [pz_u1_top (r := 154)]; rfl)
       refine w_call hc7 rfl (pz_cokI is_154 rfl) ?_
       refine w_ret rfl ?_
       first | exact lf_i (by first | rfl | omega) (by rfl) | (exfalso; omega))

theorem s_X11_start_3 {L : Nat} {iv : Nat → Nat → Int} (e : Int) (hk : q_KR (iv 155)) (hcase0 : 0 ≤ e ∧ e ≤ iv 155 0 - 1) (hcase1 : q_seen (iv 155) (iv 161) (iv 157) (iv 158) (iv 159)) (hcase2 : q_rs (q_zX (iv 155) (iv 161) (iv 157) (iv 158) (iv 159)).1 (q_ts (iv 155) (iv 160)) (iv 155) e ((iv 155) 4) ≠ 45) : pz_R (pz_Sh L) 273 [.inr (.inl 154), .inl e] iv (.inl (some (.inl 0))) (pz_u1 (pz_u1 (pz_u1 (pz_u1 (pz_u1 (pz_u1 iv 154 (pz_up (q_zw (iv 155) (iv 161) (iv 157) (iv 158) (iv 159) (iv 154)) 0 3)) 155 (iv 155)) 157 ((q_zX (iv 155) (iv 161) (iv 157) (iv 158) (iv 159)).2.2)) 158 ((q_zX (iv 155) (iv 161) (iv 157) (iv 158) (iv 159)).1)) 159 ((q_zX (iv 155) (iv 161) (iv 157) (iv 158) (iv 159)).2.1)) 160 (q_ts (iv 155) (iv 160))) := by
  intro dv cc ss
  have hk0 := hk.r0
  refine pz_G_mem (iv2 := pz_u1 (pz_u1 (pz_u1 (pz_u1 (pz_u1 (pz_u1 iv 154 (iv 154)) 155 (iv 155)) 157 (iv 157)) 158 (iv 158)) 159 (iv 159)) 160 (iv 160)) (by exact ((((((pz_u1_self iv 154).symm).trans (pz_u1_self (pz_u1 iv 154 (iv 154)) 155).symm).trans (pz_u1_self (pz_u1 (pz_u1 iv 154 (iv 154)) 155 (iv 155)) 157).symm).trans (pz_u1_self (pz_u1 (pz_u1 (pz_u1 iv 154 (iv 154)) 155 (iv 155)) 157 (iv 157)) 158).symm).trans (pz_u1_self (pz_u1 (pz_u1 (pz_u1 (pz_u1 iv 154 (iv 154)) 155 (iv 155)) 157 (iv 157)) 158 (iv 158)) 159).symm).trans (pz_u1_self (pz_u1 (pz_u1 (pz_u1 (pz_u1 (pz_u1 iv 154 (iv 154)) 155 (iv 155)) 157 (iv 157)) 158 (iv 158)) 159 (iv 159)) 160).symm) ?_
  show pz_G 273 0 [some (.inr (.inl 154)), some (.inl e), none] [] (pz_Sh L, pz_u1 (pz_u1 (pz_u1 (pz_u1 (pz_u1 (pz_u1 iv 154 (iv 154)) 155 (iv 155)) 157 (iv 157)) 158 (iv 158)) 159 (iv 159)) 160 (iv 160), dv, cc, ss) (pz_P (pz_Sh L) (.inl (some (.inl 0))) (pz_u1 (pz_u1 (pz_u1 (pz_u1 (pz_u1 (pz_u1 iv 154 (pz_up (q_zw (iv 155) (iv 161) (iv 157) (iv 158) (iv 159) (iv 154)) 0 3)) 155 (iv 155)) 157 ((q_zX (iv 155) (iv 161) (iv 157) (iv 158) (iv 159)).2.2)) 158 ((q_zX (iv 155) (iv 161) (iv 157) (iv 158) (iv 159)).1)) 159 ((q_zX (iv 155) (iv 161) (iv 157) (iv 158) (iv 159)).2.1)) 160 (q_ts (iv 155) (iv 160))) dv cc ss)
  refine pz_G_of pz_b273_0 ?_
  refine w_loc rfl ?_
  refine w_loc rfl ?_
  have hc1 : pz_R (pz_Sh L) 268 [.inr (.inl 154), .inl e] (pz_u1 (pz_u1 (pz_u1 (pz_u1 (pz_u1 (pz_u1 iv 154 (iv 154)) 155 (iv 155)) 157 (iv 157)) 158 (iv 158)) 159 (iv 159)) 160 (iv 160)) (.inl (some (.inl 0))) (pz_u1 (pz_u1 (pz_u1 (pz_u1 (pz_u1 (pz_u1 iv 154 (q_zw (iv 155) (iv 161) (iv 157) (iv 158) (iv 159) (iv 154))) 155 (iv 155)) 157 ((q_zX (iv 155) (iv 161) (iv 157) (iv 158) (iv 159)).2.2)) 158 ((q_zX (iv 155) (iv 161) (iv 157) (iv 158) (iv 159)).1)) 159 ((q_zX (iv 155) (iv 161) (iv 157) (iv 158) (iv 159)).2.1)) 160 (q_ts (iv 155) (iv 160))) := pz_R_mem (s_X11_wrongSeen_0 e (by show q_KR (iv 155); exact hk) (by show 0 ≤ e ∧ e ≤ iv 155 0 - 1; first | assumption | omega) (by show q_seen (iv 155) (iv 161) (iv 157) (iv 158) (iv 159); first | assumption | omega)) (by rw [pz_u1_in (r := 154) (q := 160) (by decide)]; rw [pz_u1_in (r := 154) (q := 159) (by decide)]; rw [pz_u1_in (r := 154) (q := 158) (by decide)]; rw [pz_u1_in (r := 154) (q := 157) (by decide)]; rw [pz_u1_in (r := 154) (q := 155) (by decide)]; rw [pz_u1_top (r := 154)]; rw [pz_u1_in (r := 157) (q := 160) (by decide)]; rw [pz_u1_in (r := 157) (q := 159) (by decide)]; rw [pz_u1_in (r := 157) (q := 158) (by decide)]; rw [pz_u1_top (r := 157)]; rw [pz_u1_in (r := 158) (q := 160) (by decide)]; rw [pz_u1_in (r := 158) (q := 159) (by decide)]; rw [pz_u1_top (r := 158)]; rw [pz_u1_in (r := 159) (q := 160) (by decide)]; rw [pz_u1_top (r := 159)]; rw [pz_u1_top (r := 160)]; rfl)
  refine w_call hc1 rfl (pz_cokI is_154 rfl) ?_
  refine w_loc (ls' := [some (.inr (.inl 154)), some (.inl e), some (.inl 0)]) (st' := []) rfl ?_
  refine w_loc rfl ?_
  refine w_zle (fun h2 => ?_) (fun h2 => ?_)
  · first
    | (exfalso; first | omega | contradiction)
    | (refine pz_G_of pz_b273_16 ?_
       refine w_loc rfl ?_
       refine w_loc rfl ?_
       refine w_loc rfl ?_
       refine w_getR (q := 155) is_154 rf_154_1 ?_
       refine w_pure rfl ?_
       refine w_iald (v := (iv 155) 4) is_155 ln_155 ⟨by omega, by omega⟩ rfl ?_
       have hc3 : pz_R (pz_Sh L) 257 [.inr (.inl 154), .inl e, .inl ((iv 155) 4)] (pz_u1 (pz_u1 (pz_u1 (pz_u1 (pz_u1 (pz_u1 iv 154 (q_zw (iv 155) (iv 161) (iv 157) (iv 158) (iv 159) (iv 154))) 155 (iv 155)) 157 ((q_zX (iv 155) (iv 161) (iv 157) (iv 158) (iv 159)).2.2)) 158 ((q_zX (iv 155) (iv 161) (iv 157) (iv 158) (iv 159)).1)) 159 ((q_zX (iv 155) (iv 161) (iv 157) (iv 158) (iv 159)).2.1)) 160 (q_ts (iv 155) (iv 160))) (.inl (some (.inl (q_rs ((q_zX (iv 155) (iv 161) (iv 157) (iv 158) (iv 159)).1) (q_ts (iv 155) (iv 160)) (iv 155) e ((iv 155) 4))))) (pz_u1 (pz_u1 (pz_u1 (pz_u1 (pz_u1 (pz_u1 iv 154 (q_zw (iv 155) (iv 161) (iv 157) (iv 158) (iv 159) (iv 154))) 155 (iv 155)) 157 ((q_zX (iv 155) (iv 161) (iv 157) (iv 158) (iv 159)).2.2)) 158 ((q_zX (iv 155) (iv 161) (iv 157) (iv 158) (iv 159)).1)) 159 ((q_zX (iv 155) (iv 161) (iv 157) (iv 158) (iv 159)).2.1)) 160 (q_ts (iv 155) (iv 160))) := s_X11_reasonOf e ((iv 155) 4) (by show q_KR (iv 155); exact hk) (by show 0 ≤ e ∧ e ≤ 9; omega) (by show 0 ≤ ((iv 155) 4) ∧ ((iv 155) 4) ≤ 1000; omega) (by show q_vl ((q_zX (iv 155) (iv 161) (iv 157) (iv 158) (iv 159)).1); exact q_zv_l hk hcase1) (by show q_al (q_ts (iv 155) (iv 160)); exact q_ts_al hk)
       refine w_call hc3 rfl (pz_cokI is_154 rfl) ?_
       refine w_pure rfl ?_
       refine w_ieq (fun h4 => ?_) (fun h4 => ?_)
       · first
         | (exfalso; first | omega | contradiction)
         | (refine pz_G_of pz_b273_38 ?_
            refine w_loc rfl ?_
            refine w_getR (q := 155) is_154 rf_154_1 ?_
            refine w_pure rfl ?_
            refine w_loc rfl ?_
            refine w_iadd (by omega) ?_
            refine w_loc rfl ?_
            refine w_getR (q := 155) is_154 rf_154_1 ?_
            refine w_pure rfl ?_
            refine w_iald (v := (iv 155) 4) is_155 ln_155 ⟨by omega, by omega⟩ rfl ?_
            refine w_iastm (iv2 := pz_u1 (pz_u1 (pz_u1 (pz_u1 (pz_u1 (pz_u1 iv 154 (q_zw (iv 155) (iv 161) (iv 157) (iv 158) (iv 159) (iv 154))) 155 (pz_up (iv 155) (6 + e).toNat ((iv 155) 4))) 157 ((q_zX (iv 155) (iv 161) (iv 157) (iv 158) (iv 159)).2.2)) 158 ((q_zX (iv 155) (iv 161) (iv 157) (iv 158) (iv 159)).1)) 159 ((q_zX (iv 155) (iv 161) (iv 157) (iv 158) (iv 159)).2.1)) 160 (q_ts (iv 155) (iv 160))) is_155 ln_155 ⟨by omega, by omega⟩ (by rw [pz_u2_in (r := 155) (q := 160) (by decide)]; rw [pz_u2_in (r := 155) (q := 159) (by decide)]; rw [pz_u2_in (r := 155) (q := 158) (by decide)]; rw [pz_u2_in (r := 155) (q := 157) (by decide)]; rw [pz_u2_top]) ?_
            refine w_loc rfl ?_
            refine w_loc rfl ?_
            refine w_getR (q := 155) is_154 rf_154_1 ?_
            refine w_pure rfl ?_
            refine w_iald (v := (iv 155) 4) is_155 ln_155 ⟨by omega, by omega⟩ (by show (pz_up (iv 155) (6 + e).toNat ((iv 155) 4)) 4 = _; rw [pz_up_ne (by omega)]) ?_
            have hc5 : pz_R (pz_Sh L) 192 [.inr (.inl 154), .inl ((iv 155) 4)] (pz_u1 (pz_u1 (pz_u1 (pz_u1 (pz_u1 (pz_u1 iv 154 (q_zw (iv 155) (iv 161) (iv 157) (iv 158) (iv 159) (iv 154))) 155 (pz_up (iv 155) (6 + e).toNat ((iv 155) 4))) 157 ((q_zX (iv 155) (iv 161) (iv 157) (iv 158) (iv 159)).2.2)) 158 ((q_zX (iv 155) (iv 161) (iv 157) (iv 158) (iv 159)).1)) 159 ((q_zX (iv 155) (iv 161) (iv 157) (iv 158) (iv 159)).2.1)) 160 (q_ts (iv 155) (iv 160))) (.inl (some (.inl ((iv 155) 4)))) (pz_u1 (pz_u1 (pz_u1 (pz_u1 (pz_u1 (pz_u1 iv 154 (pz_up (q_zw (iv 155) (iv 161) (iv 157) (iv 158) (iv 159) (iv 154)) 0 0)) 155 (pz_up (iv 155) (6 + e).toNat ((iv 155) 4))) 157 ((q_zX (iv 155) (iv 161) (iv 157) (iv 158) (iv 159)).2.2)) 158 ((q_zX (iv 155) (iv 161) (iv 157) (iv 158) (iv 159)).1)) 159 ((q_zX (iv 155) (iv 161) (iv 157) (iv 158) (iv 159)).2.1)) 160 (q_ts (iv 155) (iv 160))) := pz_R_mem (s_X11_tells ((iv 155) 4)) (by rw [pz_u1_in (r := 154) (q := 160) (by decide)]; rw [pz_u1_in (r := 154) (q := 159) (by decide)]; rw [pz_u1_in (r := 154) (q := 158) (by decide)]; rw [pz_u1_in (r := 154) (q := 157) (by decide)]; rw [pz_u1_in (r := 154) (q := 155) (by decide)]; rw [pz_u1_top (r := 154)]; rfl)
            refine w_call hc5 rfl (pz_cokI is_154 rfl) ?_
            refine w_ret rfl ?_
            first | exact lf_i (by first | rfl | omega) (by rfl) | (exfalso; omega))
       · first
         | (exfalso; first | omega | contradiction)
         | (refine w_loc rfl ?_
            refine w_pure rfl ?_
            have hc6 : pz_R (pz_Sh L) 191 [.inr (.inl 154), .inl 3] (pz_u1 (pz_u1 (pz_u1 (pz_u1 (pz_u1 (pz_u1 iv 154 (q_zw (iv 155) (iv 161) (iv 157) (iv 158) (iv 159) (iv 154))) 155 (iv 155)) 157 ((q_zX (iv 155) (iv 161) (iv 157) (iv 158) (iv 159)).2.2)) 158 ((q_zX (iv 155) (iv 161) (iv 157) (iv 158) (iv 159)).1)) 159 ((q_zX (iv 155) (iv 161) (iv 157) (iv 158) (iv 159)).2.1)) 160 (q_ts (iv 155) (iv 160))) (.inl (some (.inl 0))) (pz_u1 (pz_u1 (pz_u1 (pz_u1 (pz_u1 (pz_u1 iv 154 (pz_up (q_zw (iv 155) (iv 161) (iv 157) (iv 158) (iv 159) (iv 154)) 0 3)) 155 (iv 155)) 157 ((q_zX (iv 155) (iv 161) (iv 157) (iv 158) (iv 159)).2.2)) 158 ((q_zX (iv 155) (iv 161) (iv 157) (iv 158) (iv 159)).1)) 159 ((q_zX (iv 155) (iv 161) (iv 157) (iv 158) (iv 159)).2.1)) 160 (q_ts (iv 155) (iv 160))) := pz_R_mem (s_X11_fails 3) (by rw [pz_u1_in (r := 154) (q := 160) (by decide)]; rw [pz_u1_in (r := 154) (q := 159) (by decide)]; rw [pz_u1_in (r := 154) (q := 158) (by decide)]; rw [pz_u1_in (r := 154) (q := 157) (by decide)]; rw [pz_u1_in (r := 154) (q := 155) (by decide)]; rw [pz_u1_top (r := 154)]; rfl)
            refine w_call hc6 rfl (pz_cokI is_154 rfl) ?_
            refine w_ret rfl ?_
            first | exact lf_i (by first | rfl | omega) (by rfl) | (exfalso; omega)))
  · first
    | (exfalso; first | omega | contradiction)
    | (refine w_loc rfl ?_
       refine w_loc rfl ?_
       have hc7 : pz_R (pz_Sh L) 191 [.inr (.inl 154), .inl 0] (pz_u1 (pz_u1 (pz_u1 (pz_u1 (pz_u1 (pz_u1 iv 154 (q_zw (iv 155) (iv 161) (iv 157) (iv 158) (iv 159) (iv 154))) 155 (iv 155)) 157 ((q_zX (iv 155) (iv 161) (iv 157) (iv 158) (iv 159)).2.2)) 158 ((q_zX (iv 155) (iv 161) (iv 157) (iv 158) (iv 159)).1)) 159 ((q_zX (iv 155) (iv 161) (iv 157) (iv 158) (iv 159)).2.1)) 160 (q_ts (iv 155) (iv 160))) (.inl (some (.inl 0))) (pz_u1 (pz_u1 (pz_u1 (pz_u1 (pz_u1 (pz_u1 iv 154 (pz_up (q_zw (iv 155) (iv 161) (iv 157) (iv 158) (iv 159) (iv 154)) 0 0)) 155 (iv 155)) 157 ((q_zX (iv 155) (iv 161) (iv 157) (iv 158) (iv 159)).2.2)) 158 ((q_zX (iv 155) (iv 161) (iv 157) (iv 158) (iv 159)).1)) 159 ((q_zX (iv 155) (iv 161) (iv 157) (iv 158) (iv 159)).2.1)) 160 (q_ts (iv 155) (iv 160))) := pz_R_mem (s_X11_fails 0) (by rw [pz_u1_in (r := 154) (q := 160) (by decide)]; rw [pz_u1_in (r := 154) (q := 159) (by decide)]; rw [pz_u1_in (r := 154) (q := 158) (by decide)]; rw [pz_u1_in (r := 154) (q := 157) (by decide)]; rw [pz_u1_in (r := 154) (q := 155) (by decide)]; rw [pz_u1_top (r := 154)]; rfl)
       refine w_call hc7 rfl (pz_cokI is_154 rfl) ?_
       refine w_ret rfl ?_
       first | exact lf_i (by first | rfl | omega) (by rfl) | (exfalso; omega))

theorem s_X11_start_0 {L : Nat} {iv : Nat → Nat → Int} (e : Int) (hk : q_KR (iv 155)) (hcase0 : 0 ≤ e ∧ e ≤ iv 155 0 - 1) (hcase1 : q_seen (iv 155) (iv 161) (iv 157) (iv 158) (iv 159)) (hcase2 : q_rs (q_zX (iv 155) (iv 161) (iv 157) (iv 158) (iv 159)).1 (q_ts (iv 155) (iv 160)) (iv 155) e ((iv 155) 4) = 45) : pz_R (pz_Sh L) 273 [.inr (.inl 154), .inl e] iv (.inl (some (.inl ((iv 155) 4)))) (pz_u1 (pz_u1 (pz_u1 (pz_u1 (pz_u1 (pz_u1 iv 154 (pz_up (q_zw (iv 155) (iv 161) (iv 157) (iv 158) (iv 159) (iv 154)) 0 0)) 155 (pz_up (iv 155) (6 + e).toNat ((iv 155) 4))) 157 ((q_zX (iv 155) (iv 161) (iv 157) (iv 158) (iv 159)).2.2)) 158 ((q_zX (iv 155) (iv 161) (iv 157) (iv 158) (iv 159)).1)) 159 ((q_zX (iv 155) (iv 161) (iv 157) (iv 158) (iv 159)).2.1)) 160 (q_ts (iv 155) (iv 160))) := by
  intro dv cc ss
  have hk0 := hk.r0
  refine pz_G_mem (iv2 := pz_u1 (pz_u1 (pz_u1 (pz_u1 (pz_u1 (pz_u1 iv 154 (iv 154)) 155 (iv 155)) 157 (iv 157)) 158 (iv 158)) 159 (iv 159)) 160 (iv 160)) (by exact ((((((pz_u1_self iv 154).symm).trans (pz_u1_self (pz_u1 iv 154 (iv 154)) 155).symm).trans (pz_u1_self (pz_u1 (pz_u1 iv 154 (iv 154)) 155 (iv 155)) 157).symm).trans (pz_u1_self (pz_u1 (pz_u1 (pz_u1 iv 154 (iv 154)) 155 (iv 155)) 157 (iv 157)) 158).symm).trans (pz_u1_self (pz_u1 (pz_u1 (pz_u1 (pz_u1 iv 154 (iv 154)) 155 (iv 155)) 157 (iv 157)) 158 (iv 158)) 159).symm).trans (pz_u1_self (pz_u1 (pz_u1 (pz_u1 (pz_u1 (pz_u1 iv 154 (iv 154)) 155 (iv 155)) 157 (iv 157)) 158 (iv 158)) 159 (iv 159)) 160).symm) ?_
  show pz_G 273 0 [some (.inr (.inl 154)), some (.inl e), none] [] (pz_Sh L, pz_u1 (pz_u1 (pz_u1 (pz_u1 (pz_u1 (pz_u1 iv 154 (iv 154)) 155 (iv 155)) 157 (iv 157)) 158 (iv 158)) 159 (iv 159)) 160 (iv 160), dv, cc, ss) (pz_P (pz_Sh L) (.inl (some (.inl ((iv 155) 4)))) (pz_u1 (pz_u1 (pz_u1 (pz_u1 (pz_u1 (pz_u1 iv 154 (pz_up (q_zw (iv 155) (iv 161) (iv 157) (iv 158) (iv 159) (iv 154)) 0 0)) 155 (pz_up (iv 155) (6 + e).toNat ((iv 155) 4))) 157 ((q_zX (iv 155) (iv 161) (iv 157) (iv 158) (iv 159)).2.2)) 158 ((q_zX (iv 155) (iv 161) (iv 157) (iv 158) (iv 159)).1)) 159 ((q_zX (iv 155) (iv 161) (iv 157) (iv 158) (iv 159)).2.1)) 160 (q_ts (iv 155) (iv 160))) dv cc ss)
  refine pz_G_of pz_b273_0 ?_
  refine w_loc rfl ?_
  refine w_loc rfl ?_
  have hc1 : pz_R (pz_Sh L) 268 [.inr (.inl 154), .inl e] (pz_u1 (pz_u1 (pz_u1 (pz_u1 (pz_u1 (pz_u1 iv 154 (iv 154)) 155 (iv 155)) 157 (iv 157)) 158 (iv 158)) 159 (iv 159)) 160 (iv 160)) (.inl (some (.inl 0))) (pz_u1 (pz_u1 (pz_u1 (pz_u1 (pz_u1 (pz_u1 iv 154 (q_zw (iv 155) (iv 161) (iv 157) (iv 158) (iv 159) (iv 154))) 155 (iv 155)) 157 ((q_zX (iv 155) (iv 161) (iv 157) (iv 158) (iv 159)).2.2)) 158 ((q_zX (iv 155) (iv 161) (iv 157) (iv 158) (iv 159)).1)) 159 ((q_zX (iv 155) (iv 161) (iv 157) (iv 158) (iv 159)).2.1)) 160 (q_ts (iv 155) (iv 160))) := pz_R_mem (s_X11_wrongSeen_0 e (by show q_KR (iv 155); exact hk) (by show 0 ≤ e ∧ e ≤ iv 155 0 - 1; first | assumption | omega) (by show q_seen (iv 155) (iv 161) (iv 157) (iv 158) (iv 159); first | assumption | omega)) (by rw [pz_u1_in (r := 154) (q := 160) (by decide)]; rw [pz_u1_in (r := 154) (q := 159) (by decide)]; rw [pz_u1_in (r := 154) (q := 158) (by decide)]; rw [pz_u1_in (r := 154) (q := 157) (by decide)]; rw [pz_u1_in (r := 154) (q := 155) (by decide)]; rw [pz_u1_top (r := 154)]; rw [pz_u1_in (r := 157) (q := 160) (by decide)]; rw [pz_u1_in (r := 157) (q := 159) (by decide)]; rw [pz_u1_in (r := 157) (q := 158) (by decide)]; rw [pz_u1_top (r := 157)]; rw [pz_u1_in (r := 158) (q := 160) (by decide)]; rw [pz_u1_in (r := 158) (q := 159) (by decide)]; rw [pz_u1_top (r := 158)]; rw [pz_u1_in (r := 159) (q := 160) (by decide)]; rw [pz_u1_top (r := 159)]; rw [pz_u1_top (r := 160)]; rfl)
  refine w_call hc1 rfl (pz_cokI is_154 rfl) ?_
  refine w_loc (ls' := [some (.inr (.inl 154)), some (.inl e), some (.inl 0)]) (st' := []) rfl ?_
  refine w_loc rfl ?_
  refine w_zle (fun h2 => ?_) (fun h2 => ?_)
  · first
    | (exfalso; first | omega | contradiction)
    | (refine pz_G_of pz_b273_16 ?_
       refine w_loc rfl ?_
       refine w_loc rfl ?_
       refine w_loc rfl ?_
       refine w_getR (q := 155) is_154 rf_154_1 ?_
       refine w_pure rfl ?_
       refine w_iald (v := (iv 155) 4) is_155 ln_155 ⟨by omega, by omega⟩ rfl ?_
       have hc3 : pz_R (pz_Sh L) 257 [.inr (.inl 154), .inl e, .inl ((iv 155) 4)] (pz_u1 (pz_u1 (pz_u1 (pz_u1 (pz_u1 (pz_u1 iv 154 (q_zw (iv 155) (iv 161) (iv 157) (iv 158) (iv 159) (iv 154))) 155 (iv 155)) 157 ((q_zX (iv 155) (iv 161) (iv 157) (iv 158) (iv 159)).2.2)) 158 ((q_zX (iv 155) (iv 161) (iv 157) (iv 158) (iv 159)).1)) 159 ((q_zX (iv 155) (iv 161) (iv 157) (iv 158) (iv 159)).2.1)) 160 (q_ts (iv 155) (iv 160))) (.inl (some (.inl (q_rs ((q_zX (iv 155) (iv 161) (iv 157) (iv 158) (iv 159)).1) (q_ts (iv 155) (iv 160)) (iv 155) e ((iv 155) 4))))) (pz_u1 (pz_u1 (pz_u1 (pz_u1 (pz_u1 (pz_u1 iv 154 (q_zw (iv 155) (iv 161) (iv 157) (iv 158) (iv 159) (iv 154))) 155 (iv 155)) 157 ((q_zX (iv 155) (iv 161) (iv 157) (iv 158) (iv 159)).2.2)) 158 ((q_zX (iv 155) (iv 161) (iv 157) (iv 158) (iv 159)).1)) 159 ((q_zX (iv 155) (iv 161) (iv 157) (iv 158) (iv 159)).2.1)) 160 (q_ts (iv 155) (iv 160))) := s_X11_reasonOf e ((iv 155) 4) (by show q_KR (iv 155); exact hk) (by show 0 ≤ e ∧ e ≤ 9; omega) (by show 0 ≤ ((iv 155) 4) ∧ ((iv 155) 4) ≤ 1000; omega) (by show q_vl ((q_zX (iv 155) (iv 161) (iv 157) (iv 158) (iv 159)).1); exact q_zv_l hk hcase1) (by show q_al (q_ts (iv 155) (iv 160)); exact q_ts_al hk)
       refine w_call hc3 rfl (pz_cokI is_154 rfl) ?_
       refine w_pure rfl ?_
       refine w_ieq (fun h4 => ?_) (fun h4 => ?_)
       · first
         | (exfalso; first | omega | contradiction)
         | (refine pz_G_of pz_b273_38 ?_
            refine w_loc rfl ?_
            refine w_getR (q := 155) is_154 rf_154_1 ?_
            refine w_pure rfl ?_
            refine w_loc rfl ?_
            refine w_iadd (by omega) ?_
            refine w_loc rfl ?_
            refine w_getR (q := 155) is_154 rf_154_1 ?_
            refine w_pure rfl ?_
            refine w_iald (v := (iv 155) 4) is_155 ln_155 ⟨by omega, by omega⟩ rfl ?_
            refine w_iastm (iv2 := pz_u1 (pz_u1 (pz_u1 (pz_u1 (pz_u1 (pz_u1 iv 154 (q_zw (iv 155) (iv 161) (iv 157) (iv 158) (iv 159) (iv 154))) 155 (pz_up (iv 155) (6 + e).toNat ((iv 155) 4))) 157 ((q_zX (iv 155) (iv 161) (iv 157) (iv 158) (iv 159)).2.2)) 158 ((q_zX (iv 155) (iv 161) (iv 157) (iv 158) (iv 159)).1)) 159 ((q_zX (iv 155) (iv 161) (iv 157) (iv 158) (iv 159)).2.1)) 160 (q_ts (iv 155) (iv 160))) is_155 ln_155 ⟨by omega, by omega⟩ (by rw [pz_u2_in (r := 155) (q := 160) (by decide)]; rw [pz_u2_in (r := 155) (q := 159) (by decide)]; rw [pz_u2_in (r := 155) (q := 158) (by decide)]; rw [pz_u2_in (r := 155) (q := 157) (by decide)]; rw [pz_u2_top]) ?_
            refine w_loc rfl ?_
            refine w_loc rfl ?_
            refine w_getR (q := 155) is_154 rf_154_1 ?_
            refine w_pure rfl ?_
            refine w_iald (v := (iv 155) 4) is_155 ln_155 ⟨by omega, by omega⟩ (by show (pz_up (iv 155) (6 + e).toNat ((iv 155) 4)) 4 = _; rw [pz_up_ne (by omega)]) ?_
            have hc5 : pz_R (pz_Sh L) 192 [.inr (.inl 154), .inl ((iv 155) 4)] (pz_u1 (pz_u1 (pz_u1 (pz_u1 (pz_u1 (pz_u1 iv 154 (q_zw (iv 155) (iv 161) (iv 157) (iv 158) (iv 159) (iv 154))) 155 (pz_up (iv 155) (6 + e).toNat ((iv 155) 4))) 157 ((q_zX (iv 155) (iv 161) (iv 157) (iv 158) (iv 159)).2.2)) 158 ((q_zX (iv 155) (iv 161) (iv 157) (iv 158) (iv 159)).1)) 159 ((q_zX (iv 155) (iv 161) (iv 157) (iv 158) (iv 159)).2.1)) 160 (q_ts (iv 155) (iv 160))) (.inl (some (.inl ((iv 155) 4)))) (pz_u1 (pz_u1 (pz_u1 (pz_u1 (pz_u1 (pz_u1 iv 154 (pz_up (q_zw (iv 155) (iv 161) (iv 157) (iv 158) (iv 159) (iv 154)) 0 0)) 155 (pz_up (iv 155) (6 + e).toNat ((iv 155) 4))) 157 ((q_zX (iv 155) (iv 161) (iv 157) (iv 158) (iv 159)).2.2)) 158 ((q_zX (iv 155) (iv 161) (iv 157) (iv 158) (iv 159)).1)) 159 ((q_zX (iv 155) (iv 161) (iv 157) (iv 158) (iv 159)).2.1)) 160 (q_ts (iv 155) (iv 160))) := pz_R_mem (s_X11_tells ((iv 155) 4)) (by rw [pz_u1_in (r := 154) (q := 160) (by decide)]; rw [pz_u1_in (r := 154) (q := 159) (by decide)]; rw [pz_u1_in (r := 154) (q := 158) (by decide)]; rw [pz_u1_in (r := 154) (q := 157) (by decide)]; rw [pz_u1_in (r := 154) (q := 155) (by decide)]; rw [pz_u1_top (r := 154)]; rfl)
            refine w_call hc5 rfl (pz_cokI is_154 rfl) ?_
            refine w_ret rfl ?_
            first | exact lf_i (by first | rfl | omega) (by rfl) | (exfalso; omega))
       · first
         | (exfalso; first | omega | contradiction)
         | (refine w_loc rfl ?_
            refine w_pure rfl ?_
            have hc6 : pz_R (pz_Sh L) 191 [.inr (.inl 154), .inl 3] (pz_u1 (pz_u1 (pz_u1 (pz_u1 (pz_u1 (pz_u1 iv 154 (q_zw (iv 155) (iv 161) (iv 157) (iv 158) (iv 159) (iv 154))) 155 (iv 155)) 157 ((q_zX (iv 155) (iv 161) (iv 157) (iv 158) (iv 159)).2.2)) 158 ((q_zX (iv 155) (iv 161) (iv 157) (iv 158) (iv 159)).1)) 159 ((q_zX (iv 155) (iv 161) (iv 157) (iv 158) (iv 159)).2.1)) 160 (q_ts (iv 155) (iv 160))) (.inl (some (.inl 0))) (pz_u1 (pz_u1 (pz_u1 (pz_u1 (pz_u1 (pz_u1 iv 154 (pz_up (q_zw (iv 155) (iv 161) (iv 157) (iv 158) (iv 159) (iv 154)) 0 3)) 155 (iv 155)) 157 ((q_zX (iv 155) (iv 161) (iv 157) (iv 158) (iv 159)).2.2)) 158 ((q_zX (iv 155) (iv 161) (iv 157) (iv 158) (iv 159)).1)) 159 ((q_zX (iv 155) (iv 161) (iv 157) (iv 158) (iv 159)).2.1)) 160 (q_ts (iv 155) (iv 160))) := pz_R_mem (s_X11_fails 3) (by rw [pz_u1_in (r := 154) (q := 160) (by decide)]; rw [pz_u1_in (r := 154) (q := 159) (by decide)]; rw [pz_u1_in (r := 154) (q := 158) (by decide)]; rw [pz_u1_in (r := 154) (q := 157) (by decide)]; rw [pz_u1_in (r := 154) (q := 155) (by decide)]; rw [pz_u1_top (r := 154)]; rfl)
            refine w_call hc6 rfl (pz_cokI is_154 rfl) ?_
            refine w_ret rfl ?_
            first | exact lf_i (by first | rfl | omega) (by rfl) | (exfalso; omega)))
  · first
    | (exfalso; first | omega | contradiction)
    | (refine w_loc rfl ?_
       refine w_loc rfl ?_
       have hc7 : pz_R (pz_Sh L) 191 [.inr (.inl 154), .inl 0] (pz_u1 (pz_u1 (pz_u1 (pz_u1 (pz_u1 (pz_u1 iv 154 (q_zw (iv 155) (iv 161) (iv 157) (iv 158) (iv 159) (iv 154))) 155 (iv 155)) 157 ((q_zX (iv 155) (iv 161) (iv 157) (iv 158) (iv 159)).2.2)) 158 ((q_zX (iv 155) (iv 161) (iv 157) (iv 158) (iv 159)).1)) 159 ((q_zX (iv 155) (iv 161) (iv 157) (iv 158) (iv 159)).2.1)) 160 (q_ts (iv 155) (iv 160))) (.inl (some (.inl 0))) (pz_u1 (pz_u1 (pz_u1 (pz_u1 (pz_u1 (pz_u1 iv 154 (pz_up (q_zw (iv 155) (iv 161) (iv 157) (iv 158) (iv 159) (iv 154)) 0 0)) 155 (iv 155)) 157 ((q_zX (iv 155) (iv 161) (iv 157) (iv 158) (iv 159)).2.2)) 158 ((q_zX (iv 155) (iv 161) (iv 157) (iv 158) (iv 159)).1)) 159 ((q_zX (iv 155) (iv 161) (iv 157) (iv 158) (iv 159)).2.1)) 160 (q_ts (iv 155) (iv 160))) := pz_R_mem (s_X11_fails 0) (by rw [pz_u1_in (r := 154) (q := 160) (by decide)]; rw [pz_u1_in (r := 154) (q := 159) (by decide)]; rw [pz_u1_in (r := 154) (q := 158) (by decide)]; rw [pz_u1_in (r := 154) (q := 157) (by decide)]; rw [pz_u1_in (r := 154) (q := 155) (by decide)]; rw [pz_u1_top (r := 154)]; rfl)
       refine w_call hc7 rfl (pz_cokI is_154 rfl) ?_
       refine w_ret rfl ?_
       first | exact lf_i (by first | rfl | omega) (by rfl) | (exfalso; omega))
