
theorem s_X11_roots {L : Nat} {iv : Nat → Nat → Int} (p : Int) (hk : q_KR (iv 155)) : pz_R (pz_Sh L) 239 [.inr (.inl 154), .inl p] iv (.inl none) (pz_u1 (pz_u1 iv 162 ((q_rt (iv 155) p ((iv 162), (iv 163))).1)) 163 ((q_rt (iv 155) p ((iv 162), (iv 163))).2)) := by
  intro dv cc ss
  have hk0 := hk.r0
  refine pz_G_mem (iv2 := pz_u1 (pz_u1 iv 162 (iv 162)) 163 (iv 163)) (by exact ((pz_u1_self iv 162).symm).trans (pz_u1_self (pz_u1 iv 162 (iv 162)) 163).symm) ?_
  show pz_G 239 0 [some (.inr (.inl 154)), some (.inl p), none, none] [] (pz_Sh L, pz_u1 (pz_u1 iv 162 (iv 162)) 163 (iv 163), dv, cc, ss) (pz_P (pz_Sh L) (.inl none) (pz_u1 (pz_u1 iv 162 ((q_rt (iv 155) p ((iv 162), (iv 163))).1)) 163 ((q_rt (iv 155) p ((iv 162), (iv 163))).2)) dv cc ss)
  refine pz_G_of pz_b239_0 ?_
  refine w_pure rfl ?_
  refine w_loc (ls' := [some (.inr (.inl 154)), some (.inl p), some (.inl 0), none]) (st' := []) rfl ?_
  refine w_nil ?_
  have lp2 : ∀ (dd : Nat) (e : Int) (r : Nat → Int) (h : Nat → Int) (u2_3 : Option pz_V) (hu2_3 : pz_nc u2_3 = true), (10 - e).toNat = dd → ∀ (he : 0 ≤ e ∧ e ≤ 10), ∀ (hx : (r, h) = q_fr (q_rtE (iv 155) p) 0 e (iv 162, iv 163)), ∀ (hb : q_rb r h e),  pz_G 239 2 [some (.inr (.inl 154)), some (.inl p), some (.inl e), u2_3] [] (pz_Sh L, pz_u1 (pz_u1 iv 162 r) 163 h, dv, cc, ss) (pz_P (pz_Sh L) (.inl none) (pz_u1 (pz_u1 iv 162 ((q_rt (iv 155) p ((iv 162), (iv 163))).1)) 163 ((q_rt (iv 155) p ((iv 162), (iv 163))).2)) dv cc ss) := by
    intro dd2
    induction dd2 using Nat.strongRecOn with
    | _ dd2 ih2 =>
    intro e r h u2_3 hu2_3 hd2 he hx hb
    refine pz_G_of pz_b239_2 ?_
    refine w_loc rfl ?_
    refine w_pure rfl ?_
    refine w_ige (fun h1 => ?_) (fun h1 => ?_)
    · refine pz_G_of pz_b239_121 ?_
      refine w_vret ?_
      exact lf_v (by rw [show q_rt (iv 155) p (iv 162, iv 163) = (r, h) from by rw [hx, show e = 10 by omega]; rfl])
    · refine w_loc rfl ?_
      refine w_getR (q := 162) is_154 rf_154_11 ?_
      refine w_loc rfl ?_
      refine w_loc rfl ?_
      refine w_iastm (iv2 := pz_u1 (pz_u1 iv 162 (pz_up r e.toNat e)) 163 h) is_162 ln_162 ⟨by omega, by omega⟩ (by rw [pz_u2_in (r := 162) (q := 163) (by decide)]; rw [pz_u2_top]) ?_
      refine w_loc rfl ?_
      refine w_getR (q := 163) is_154 rf_154_12 ?_
      refine w_loc rfl ?_
      refine w_pure rfl ?_
      refine w_iastm (iv2 := pz_u1 (pz_u1 iv 162 (pz_up r e.toNat e)) 163 (pz_up h e.toNat 0)) is_163 ln_163 ⟨by omega, by omega⟩ (by exact pz_u2_top _ _ _ _ _) ?_
      refine w_pure rfl ?_
      refine w_loc (ls' := [some (.inr (.inl 154)), some (.inl p), some (.inl e), some (.inl 0)]) (st' := []) rfl ?_
      refine w_nil ?_
      have lp24 : ∀ (dd : Nat) (s : Int) (r2 : Nat → Int) (g2 : Nat → Int) , (iv 155 2 - s).toNat = dd → ∀ (hs : 0 ≤ s ∧ s ≤ iv 155 2), ∀ (hy : (r2, g2) = q_fr (q_rtS (iv 155) p e) 0 s (pz_up r e.toNat e, pz_up h e.toNat 0)), ∀ (hb2 : q_rb r2 g2 e), ∀ (hbe : (0 ≤ r2 e.toNat ∧ r2 e.toNat ≤ e) ∧ 0 ≤ g2 e.toNat ∧ g2 e.toNat ≤ 200 * e),  pz_G 239 24 [some (.inr (.inl 154)), some (.inl p), some (.inl e), some (.inl s)] [] (pz_Sh L, pz_u1 (pz_u1 iv 162 r2) 163 g2, dv, cc, ss) (pz_P (pz_Sh L) (.inl none) (pz_u1 (pz_u1 iv 162 ((q_rt (iv 155) p ((iv 162), (iv 163))).1)) 163 ((q_rt (iv 155) p ((iv 162), (iv 163))).2)) dv cc ss) := by
        intro dd24
        induction dd24 using Nat.strongRecOn with
        | _ dd24 ih24 =>
        intro s r2 g2  hd24 hs hy hb2 hbe
        have hsr := fun h => hk.sp hs.1 h
        have hbf := fun h1 h2 => hb2 (iv 155 (212 + 4 * s).toNat) h1 h2
        refine pz_G_of pz_b239_24 ?_
        refine w_loc rfl ?_
        refine w_loc rfl ?_
        refine w_getR (q := 155) is_154 rf_154_1 ?_
        refine w_pure rfl ?_
        refine w_iald (v := (iv 155) 2) is_155 ln_155 ⟨by omega, by omega⟩ rfl ?_
        refine w_ige (fun h2 => ?_) (fun h2 => ?_)
        · refine pz_G_of pz_b239_115 ?_
          refine w_iinc (ls' := [some (.inr (.inl 154)), some (.inl p), some (.inl (e + 1)), some (.inl s)]) rfl rfl rfl (by omega) ?_
          refine w_goto ?_
          exact ih2 _ (by omega) (e + 1) r2 g2 (some (.inl s)) rfl rfl (by omega) (by rw [q_fr_s (by omega), ← hx]; unfold q_rtE; rw [hy, show s = iv 155 2 by omega]) (by intro i g1 g2; by_cases hq : i = e; (rw [hq]; omega); exact hb2 i g1 (by omega))
        · refine w_loc rfl ?_
          refine w_loc rfl ?_
          have hc3 : pz_R (pz_Sh L) 207 [.inr (.inl 154), .inl s] (pz_u1 (pz_u1 iv 162 r2) 163 g2) (.inl (some (.inl ((iv 155) (212 + 4 * s + 1).toNat)))) (pz_u1 (pz_u1 iv 162 r2) 163 g2) := s_X11_endOf s (by show 0 ≤ s ∧ s ≤ 2; omega)
          refine w_call hc3 rfl (pz_cokI is_154 rfl) ?_
          refine w_loc rfl ?_
          refine w_ine (fun h4 => ?_) (fun h4 => ?_)
          · refine pz_G_of pz_b239_109 ?_
            refine w_iinc (ls' := [some (.inr (.inl 154)), some (.inl p), some (.inl e), some (.inl (s + 1))]) rfl rfl rfl (by omega) ?_
            refine w_goto ?_
            exact ih24 _ (by omega) (s + 1) r2 g2  rfl (by omega) (by first | exact q_rtS_n hs.1 hy (by omega) | exact q_rtS_s hs.1 hy (by omega) (by omega) (q_if_t (by omega)).symm | exact q_rtS_s hs.1 hy (by omega) (by omega) (q_if_f (by omega)).symm) (by first | exact hb2 | (intro i g1 g3; rw [pz_up_ne (by omega), pz_up_ne (by omega)]; exact hb2 i g1 g3)) (by first | exact hbe | (rw [pz_up_eq, pz_up_eq]; omega))
          · refine w_loc rfl ?_
            refine w_loc rfl ?_
            have hc5 : pz_R (pz_Sh L) 210 [.inr (.inl 154), .inl s] (pz_u1 (pz_u1 iv 162 r2) 163 g2) (.inl (some (.inl (pz_bi (q_sta (iv 155) ((iv 155) (212 + 4 * s + 1).toNat)))))) (pz_u1 (pz_u1 iv 162 r2) 163 g2) := s_X11_hasEnded s (by show q_KR (iv 155); exact hk) (by show 0 ≤ s ∧ s < (iv 155) 2; omega)
            refine w_call hc5 rfl (pz_cokI is_154 rfl) ?_
            refine w_beq (fun h6 => ?_) (fun h6 => ?_)
            · refine pz_G_of pz_b239_54 ?_
              refine w_loc rfl ?_
              refine w_getR (q := 162) is_154 rf_154_11 ?_
              refine w_loc rfl ?_
              refine w_loc rfl ?_
              refine w_getR (q := 162) is_154 rf_154_11 ?_
              refine w_loc rfl ?_
              refine w_loc rfl ?_
              have hc7 : pz_R (pz_Sh L) 206 [.inr (.inl 154), .inl s] (pz_u1 (pz_u1 iv 162 r2) 163 g2) (.inl (some (.inl ((iv 155) (212 + 4 * s).toNat)))) (pz_u1 (pz_u1 iv 162 r2) 163 g2) := s_X11_first s (by show 0 ≤ s ∧ s ≤ 2; omega)
              refine w_call hc7 rfl (pz_cokI is_154 rfl) ?_
              refine w_iald (v := r2 ((iv 155) (212 + 4 * s).toNat).toNat) is_162 ln_162 ⟨by omega, by omega⟩ rfl ?_
              refine w_iastm (iv2 := pz_u1 (pz_u1 iv 162 (pz_up r2 e.toNat (r2 ((iv 155) (212 + 4 * s).toNat).toNat))) 163 g2) is_162 ln_162 ⟨by omega, by omega⟩ (by rw [pz_u2_in (r := 162) (q := 163) (by decide)]; rw [pz_u2_top]) ?_
              refine w_loc rfl ?_
              refine w_getR (q := 163) is_154 rf_154_12 ?_
              refine w_loc rfl ?_
              refine w_loc rfl ?_
              refine w_getR (q := 163) is_154 rf_154_12 ?_
              refine w_loc rfl ?_
              refine w_loc rfl ?_
              have hc8 : pz_R (pz_Sh L) 206 [.inr (.inl 154), .inl s] (pz_u1 (pz_u1 iv 162 (pz_up r2 e.toNat (r2 ((iv 155) (212 + 4 * s).toNat).toNat))) 163 g2) (.inl (some (.inl ((iv 155) (212 + 4 * s).toNat)))) (pz_u1 (pz_u1 iv 162 (pz_up r2 e.toNat (r2 ((iv 155) (212 + 4 * s).toNat).toNat))) 163 g2) := s_X11_first s (by show 0 ≤ s ∧ s ≤ 2; omega)
              refine w_call hc8 rfl (pz_cokI is_154 rfl) ?_
              refine w_iald (v := g2 ((iv 155) (212 + 4 * s).toNat).toNat) is_163 ln_163 ⟨by omega, by omega⟩ rfl ?_
              refine w_loc rfl ?_
              refine w_loc rfl ?_
              refine w_ishr ?_
              refine w_pure rfl ?_
              refine w_iand ?_
              refine w_pure rfl ?_
              refine w_ine (fun h9 => ?_) (fun h9 => ?_)
              · refine pz_G_of pz_b239_102 ?_
                refine w_loc rfl ?_
                refine w_loc rfl ?_
                have hc10 : pz_R (pz_Sh L) 208 [.inr (.inl 154), .inl s] (pz_u1 (pz_u1 iv 162 (pz_up r2 e.toNat (r2 ((iv 155) (212 + 4 * s).toNat).toNat))) 163 g2) (.inl (some (.inl ((iv 155) (212 + 4 * s + 2).toNat)))) (pz_u1 (pz_u1 iv 162 (pz_up r2 e.toNat (r2 ((iv 155) (212 + 4 * s).toNat).toNat))) 163 g2) := s_X11_least s (by show 0 ≤ s ∧ s ≤ 2; omega)
                refine w_call hc10 rfl (pz_cokI is_154 rfl) ?_
                refine w_nil ?_
                refine pz_G_of pz_b239_107 ?_
                refine w_iadd (by omega) ?_
                refine w_iastm (iv2 := pz_u1 (pz_u1 iv 162 (pz_up r2 e.toNat (r2 ((iv 155) (212 + 4 * s).toNat).toNat))) 163 (pz_up g2 e.toNat ((g2 ((iv 155) (212 + 4 * s).toNat).toNat) + ((iv 155) (212 + 4 * s + 2).toNat)))) is_163 ln_163 ⟨by omega, by omega⟩ (by exact pz_u2_top _ _ _ _ _) ?_
                refine w_nil ?_
                refine pz_G_of pz_b239_109 ?_
                refine w_iinc (ls' := [some (.inr (.inl 154)), some (.inl p), some (.inl e), some (.inl (s + 1))]) rfl rfl rfl (by omega) ?_
                refine w_goto ?_
                exact ih24 _ (by omega) (s + 1) (pz_up r2 e.toNat (r2 ((iv 155) (212 + 4 * s).toNat).toNat)) (pz_up g2 e.toNat ((g2 ((iv 155) (212 + 4 * s).toNat).toNat) + ((iv 155) (212 + 4 * s + 2).toNat)))  rfl (by omega) (by first | exact q_rtS_n hs.1 hy (by omega) | exact q_rtS_s hs.1 hy (by omega) (by omega) (q_if_t (by omega)).symm | exact q_rtS_s hs.1 hy (by omega) (by omega) (q_if_f (by omega)).symm) (by first | exact hb2 | (intro i g1 g3; rw [pz_up_ne (by omega), pz_up_ne (by omega)]; exact hb2 i g1 g3)) (by first | exact hbe | (rw [pz_up_eq, pz_up_eq]; omega))
              · refine w_loc rfl ?_
                refine w_loc rfl ?_
                have hc11 : pz_R (pz_Sh L) 209 [.inr (.inl 154), .inl s] (pz_u1 (pz_u1 iv 162 (pz_up r2 e.toNat (r2 ((iv 155) (212 + 4 * s).toNat).toNat))) 163 g2) (.inl (some (.inl ((iv 155) (212 + 4 * s + 3).toNat)))) (pz_u1 (pz_u1 iv 162 (pz_up r2 e.toNat (r2 ((iv 155) (212 + 4 * s).toNat).toNat))) 163 g2) := s_X11_greatest s (by show 0 ≤ s ∧ s ≤ 2; omega)
                refine w_call hc11 rfl (pz_cokI is_154 rfl) ?_
                refine w_goto ?_
                refine pz_G_of pz_b239_107 ?_
                refine w_iadd (by omega) ?_
                refine w_iastm (iv2 := pz_u1 (pz_u1 iv 162 (pz_up r2 e.toNat (r2 ((iv 155) (212 + 4 * s).toNat).toNat))) 163 (pz_up g2 e.toNat ((g2 ((iv 155) (212 + 4 * s).toNat).toNat) + ((iv 155) (212 + 4 * s + 3).toNat)))) is_163 ln_163 ⟨by omega, by omega⟩ (by exact pz_u2_top _ _ _ _ _) ?_
                refine w_nil ?_
                refine pz_G_of pz_b239_109 ?_
                refine w_iinc (ls' := [some (.inr (.inl 154)), some (.inl p), some (.inl e), some (.inl (s + 1))]) rfl rfl rfl (by omega) ?_
                refine w_goto ?_
                exact ih24 _ (by omega) (s + 1) (pz_up r2 e.toNat (r2 ((iv 155) (212 + 4 * s).toNat).toNat)) (pz_up g2 e.toNat ((g2 ((iv 155) (212 + 4 * s).toNat).toNat) + ((iv 155) (212 + 4 * s + 3).toNat)))  rfl (by omega) (by first | exact q_rtS_n hs.1 hy (by omega) | exact q_rtS_s hs.1 hy (by omega) (by omega) (q_if_t (by omega)).symm | exact q_rtS_s hs.1 hy (by omega) (by omega) (q_if_f (by omega)).symm) (by first | exact hb2 | (intro i g1 g3; rw [pz_up_ne (by omega), pz_up_ne (by omega)]; exact hb2 i g1 g3)) (by first | exact hbe | (rw [pz_up_eq, pz_up_eq]; omega))
            · refine w_goto ?_
              refine pz_G_of pz_b239_109 ?_
              refine w_iinc (ls' := [some (.inr (.inl 154)), some (.inl p), some (.inl e), some (.inl (s + 1))]) rfl rfl rfl (by omega) ?_
              refine w_goto ?_
              exact ih24 _ (by omega) (s + 1) r2 g2  rfl (by omega) (by first | exact q_rtS_n hs.1 hy (by omega) | exact q_rtS_s hs.1 hy (by omega) (by omega) (q_if_t (by omega)).symm | exact q_rtS_s hs.1 hy (by omega) (by omega) (q_if_f (by omega)).symm) (by first | exact hb2 | (intro i g1 g3; rw [pz_up_ne (by omega), pz_up_ne (by omega)]; exact hb2 i g1 g3)) (by first | exact hbe | (rw [pz_up_eq, pz_up_eq]; omega))
      exact lp24 _ 0 (pz_up r e.toNat e) (pz_up h e.toNat 0)  rfl (by omega) (by exact (q_fr_0 (by omega)).symm) (by intro i g1 g2; rw [pz_up_ne (by omega), pz_up_ne (by omega)]; exact hb i g1 g2) (by rw [pz_up_eq, pz_up_eq]; omega)
  exact lp2 _ 0 (iv 162) (iv 163) (none) rfl rfl (by omega) (by exact (q_fr_0 (by omega)).symm) (by intro i g1 g2; omega)

theorem s_X11_conflictAt_1 {L : Nat} {iv : Nat → Nat → Int} (i : Int) (hk : q_KR (iv 155)) (hcase0 : -2147483648 ≤ i ∧ i ≤ 2147483647) (hcase1 : q_con (iv 155) (iv 161)) : pz_R (pz_Sh L) 236 [.inr (.inl 154), .inl i] iv (.inl (some (.inl 0))) (pz_u1 (pz_u1 (pz_u1 iv 154 (pz_up (iv 154) 0 1)) 157 (q_dd (iv 155) (iv 161) (iv 157))) 161 (iv 161)) := by
  intro dv cc ss
  have hk0 := hk.r0
  refine pz_G_mem (iv2 := pz_u1 (pz_u1 (pz_u1 iv 154 (iv 154)) 157 (iv 157)) 161 (iv 161)) (by exact (((pz_u1_self iv 154).symm).trans (pz_u1_self (pz_u1 iv 154 (iv 154)) 157).symm).trans (pz_u1_self (pz_u1 (pz_u1 iv 154 (iv 154)) 157 (iv 157)) 161).symm) ?_
  show pz_G 236 0 [some (.inr (.inl 154)), some (.inl i), none, none, none] [] (pz_Sh L, pz_u1 (pz_u1 (pz_u1 iv 154 (iv 154)) 157 (iv 157)) 161 (iv 161), dv, cc, ss) (pz_P (pz_Sh L) (.inl (some (.inl 0))) (pz_u1 (pz_u1 (pz_u1 iv 154 (pz_up (iv 154) 0 1)) 157 (q_dd (iv 155) (iv 161) (iv 157))) 161 (iv 161)) dv cc ss)
  refine pz_G_of pz_b236_0 ?_
  refine w_loc rfl ?_
  have hc1 : pz_R (pz_Sh L) 227 [.inr (.inl 154)] (pz_u1 (pz_u1 (pz_u1 iv 154 (iv 154)) 157 (iv 157)) 161 (iv 161)) (.inl (some (.inl (pz_bi (q_con (iv 155) (iv 161)))))) (pz_u1 (pz_u1 (pz_u1 iv 154 (iv 154)) 157 (q_dd (iv 155) (iv 161) (iv 157))) 161 (iv 161)) := pz_R_mem (s_X11_isConsistentNow (by show q_KR (iv 155); exact hk)) (by rw [pz_u1_in (r := 157) (q := 161) (by decide)]; rw [pz_u1_top (r := 157)]; rfl)
  refine w_call hc1 rfl (pz_cokI is_154 rfl) ?_
  refine w_beq (fun h2 => ?_) (fun h2 => ?_)
  · first
    | (exfalso; first | omega | contradiction)
    | (exfalso; first | omega | contradiction)
  · first
    | (exfalso; first | omega | contradiction)
    | (refine w_loc rfl ?_
       refine w_pure rfl ?_
       have hc3 : pz_R (pz_Sh L) 191 [.inr (.inl 154), .inl 1] (pz_u1 (pz_u1 (pz_u1 iv 154 (iv 154)) 157 (q_dd (iv 155) (iv 161) (iv 157))) 161 (iv 161)) (.inl (some (.inl 0))) (pz_u1 (pz_u1 (pz_u1 iv 154 (pz_up (iv 154) 0 1)) 157 (q_dd (iv 155) (iv 161) (iv 157))) 161 (iv 161)) := pz_R_mem (s_X11_fails 1) (by rw [pz_u1_in (r := 154) (q := 161) (by decide)]; rw [pz_u1_in (r := 154) (q := 157) (by decide)]; rw [pz_u1_top (r := 154)]; rfl)
       refine w_call hc3 rfl (pz_cokI is_154 rfl) ?_
       refine w_ret rfl ?_
       first | exact lf_i (by first | rfl | omega) (by rfl) | (exfalso; omega))

theorem s_X11_conflictAt_2 {L : Nat} {iv : Nat → Nat → Int} (i : Int) (hk : q_KR (iv 155)) (hcase0 : -2147483648 ≤ i ∧ i ≤ 2147483647) (hcase1 : ¬ q_con (iv 155) (iv 161)) (hcase2 : q_ck (iv 155) (q_cf (iv 155) (iv 155 1) (iv 161) (q_dd (iv 155) (iv 161) (iv 157))).1 i = -1) : pz_R (pz_Sh L) 236 [.inr (.inl 154), .inl i] iv (.inl (some (.inl 0))) (pz_u1 (pz_u1 (pz_u1 iv 154 (pz_up (iv 154) 0 2)) 157 ((q_cf (iv 155) ((iv 155) 1) (iv 161) (q_dd (iv 155) (iv 161) (iv 157))).2)) 161 (q_z40 (q_cf (iv 155) ((iv 155) 1) (iv 161) (q_dd (iv 155) (iv 161) (iv 157))).1)) := by
  intro dv cc ss
  have hk0 := hk.r0
  refine pz_G_mem (iv2 := pz_u1 (pz_u1 (pz_u1 iv 154 (iv 154)) 157 (iv 157)) 161 (iv 161)) (by exact (((pz_u1_self iv 154).symm).trans (pz_u1_self (pz_u1 iv 154 (iv 154)) 157).symm).trans (pz_u1_self (pz_u1 (pz_u1 iv 154 (iv 154)) 157 (iv 157)) 161).symm) ?_
  show pz_G 236 0 [some (.inr (.inl 154)), some (.inl i), none, none, none] [] (pz_Sh L, pz_u1 (pz_u1 (pz_u1 iv 154 (iv 154)) 157 (iv 157)) 161 (iv 161), dv, cc, ss) (pz_P (pz_Sh L) (.inl (some (.inl 0))) (pz_u1 (pz_u1 (pz_u1 iv 154 (pz_up (iv 154) 0 2)) 157 ((q_cf (iv 155) ((iv 155) 1) (iv 161) (q_dd (iv 155) (iv 161) (iv 157))).2)) 161 (q_z40 (q_cf (iv 155) ((iv 155) 1) (iv 161) (q_dd (iv 155) (iv 161) (iv 157))).1)) dv cc ss)
  refine pz_G_of pz_b236_0 ?_
  refine w_loc rfl ?_
  have hc1 : pz_R (pz_Sh L) 227 [.inr (.inl 154)] (pz_u1 (pz_u1 (pz_u1 iv 154 (iv 154)) 157 (iv 157)) 161 (iv 161)) (.inl (some (.inl (pz_bi (q_con (iv 155) (iv 161)))))) (pz_u1 (pz_u1 (pz_u1 iv 154 (iv 154)) 157 (q_dd (iv 155) (iv 161) (iv 157))) 161 (iv 161)) := pz_R_mem (s_X11_isConsistentNow (by show q_KR (iv 155); exact hk)) (by rw [pz_u1_in (r := 157) (q := 161) (by decide)]; rw [pz_u1_top (r := 157)]; rfl)
  refine w_call hc1 rfl (pz_cokI is_154 rfl) ?_
  refine w_beq (fun h2 => ?_) (fun h2 => ?_)
  · first
    | (exfalso; first | omega | contradiction)
    | (refine pz_G_of pz_b236_13 ?_
       refine w_loc rfl ?_
       have hc3 : pz_R (pz_Sh L) 233 [.inr (.inl 154)] (pz_u1 (pz_u1 (pz_u1 iv 154 (iv 154)) 157 (q_dd (iv 155) (iv 161) (iv 157))) 161 (iv 161)) (.inl (some (.inl (q_cnt (q_kept (iv 155) (iv 161) (q_dd (iv 155) (iv 161) (iv 157))) ((iv 155) 1))))) (pz_u1 (pz_u1 (pz_u1 iv 154 (iv 154)) 157 ((q_cf (iv 155) ((iv 155) 1) (iv 161) (q_dd (iv 155) (iv 161) (iv 157))).2)) 161 ((q_cf (iv 155) ((iv 155) 1) (iv 161) (q_dd (iv 155) (iv 161) (iv 157))).1)) := pz_R_mem (s_X11_conflicts (by show q_KR (iv 155); exact hk)) (by rw [pz_u1_in (r := 157) (q := 161) (by decide)]; rw [pz_u1_top (r := 157)]; rw [pz_u1_top (r := 161)]; rfl)
       refine w_call hc3 rfl (pz_cokI is_154 rfl) ?_
       refine w_pure rfl ?_
       refine w_loc rfl ?_
       refine w_loc (ls' := [some (.inr (.inl 154)), some (.inl i), some (.inl i), none, none]) (st' := []) rfl ?_
       refine w_pure rfl ?_
       refine w_loc (ls' := [some (.inr (.inl 154)), some (.inl i), some (.inl i), some (.inl (-1)), none]) (st' := []) rfl ?_
       refine w_pure rfl ?_
       refine w_loc (ls' := [some (.inr (.inl 154)), some (.inl i), some (.inl i), some (.inl (-1)), some (.inl 0)]) (st' := []) rfl ?_
       refine w_nil ?_
       have lp25 : ∀ (dd : Nat) (x : Int) (y : Int) (b : Int) , (iv 155 1 - b).toNat = dd → ∀ (hb : 0 ≤ b ∧ b ≤ iv 155 1), ∀ (hx : x = pz_w (i - q_cnt (q_ckP (iv 155) (q_cf (iv 155) (iv 155 1) (iv 161) (q_dd (iv 155) (iv 161) (iv 157))).1) b)), ∀ (hy : y = q_fr (q_ckS (iv 155) (q_cf (iv 155) (iv 155 1) (iv 161) (q_dd (iv 155) (iv 161) (iv 157))).1 i) 0 b (-1)),  pz_G 236 25 [some (.inr (.inl 154)), some (.inl i), some (.inl x), some (.inl y), some (.inl b)] [] (pz_Sh L, pz_u1 (pz_u1 (pz_u1 iv 154 (iv 154)) 157 ((q_cf (iv 155) ((iv 155) 1) (iv 161) (q_dd (iv 155) (iv 161) (iv 157))).2)) 161 ((q_cf (iv 155) ((iv 155) 1) (iv 161) (q_dd (iv 155) (iv 161) (iv 157))).1), dv, cc, ss) (pz_P (pz_Sh L) (.inl (some (.inl 0))) (pz_u1 (pz_u1 (pz_u1 iv 154 (pz_up (iv 154) 0 2)) 157 ((q_cf (iv 155) ((iv 155) 1) (iv 161) (q_dd (iv 155) (iv 161) (iv 157))).2)) 161 (q_z40 (q_cf (iv 155) ((iv 155) 1) (iv 161) (q_dd (iv 155) (iv 161) (iv 157))).1)) dv cc ss) := by
         intro dd25
         induction dd25 using Nat.strongRecOn with
         | _ dd25 ih25 =>
         intro x y b  hd25 hb hx hy
         have hbr := fun h => hk.bd hb.1 h
         have hcr := q_cnt_r (q_ckP (iv 155) (q_cf (iv 155) (iv 155 1) (iv 161) (q_dd (iv 155) (iv 161) (iv 157))).1) hb.1
         have hw := q_w0 (i := i) (c := q_cnt (q_ckP (iv 155) (q_cf (iv 155) (iv 155 1) (iv 161) (q_dd (iv 155) (iv 161) (iv 157))).1) b) (by omega) (by omega)
         rw [← hx] at hw
         refine pz_G_of pz_b236_25 ?_
         refine w_loc rfl ?_
         refine w_loc rfl ?_
         refine w_getR (q := 155) is_154 rf_154_1 ?_
         refine w_pure rfl ?_
         refine w_iald (v := (iv 155) 1) is_155 ln_155 ⟨by omega, by omega⟩ rfl ?_
         refine w_ige (fun h4 => ?_) (fun h4 => ?_)
         · first
           | (exfalso; first | omega | contradiction)
           | (have hyk : y = q_ck (iv 155) (q_cf (iv 155) (iv 155 1) (iv 161) (q_dd (iv 155) (iv 161) (iv 157))).1 i := by
                rw [hy, show b = iv 155 1 by omega]
                rfl
              refine pz_G_of pz_b236_74 ?_
              refine w_loc rfl ?_
              have hc5 : pz_R (pz_Sh L) 234 [.inr (.inl 154)] (pz_u1 (pz_u1 (pz_u1 iv 154 (iv 154)) 157 ((q_cf (iv 155) ((iv 155) 1) (iv 161) (q_dd (iv 155) (iv 161) (iv 157))).2)) 161 ((q_cf (iv 155) ((iv 155) 1) (iv 161) (q_dd (iv 155) (iv 161) (iv 157))).1)) (.inl none) (pz_u1 (pz_u1 (pz_u1 iv 154 (iv 154)) 157 ((q_cf (iv 155) ((iv 155) 1) (iv 161) (q_dd (iv 155) (iv 161) (iv 157))).2)) 161 (q_z40 ((q_cf (iv 155) ((iv 155) 1) (iv 161) (q_dd (iv 155) (iv 161) (iv 157))).1))) := pz_R_mem (s_X11_takesBackIn) (by rw [pz_u1_top (r := 161)]; rfl)
              refine w_callv hc5 rfl (pz_cokI is_154 rfl) ?_
              refine w_loc rfl ?_
              refine w_pure rfl ?_
              refine w_ine (fun h6 => ?_) (fun h6 => ?_)
              · first
                | (exfalso; first | omega | contradiction)
                | (refine pz_G_of pz_b236_91 ?_
                   refine w_loc rfl ?_
                   refine w_loc rfl ?_
                   have hc7 : pz_R (pz_Sh L) 192 [.inr (.inl 154), .inl y] (pz_u1 (pz_u1 (pz_u1 iv 154 (iv 154)) 157 ((q_cf (iv 155) ((iv 155) 1) (iv 161) (q_dd (iv 155) (iv 161) (iv 157))).2)) 161 (q_z40 ((q_cf (iv 155) ((iv 155) 1) (iv 161) (q_dd (iv 155) (iv 161) (iv 157))).1))) (.inl (some (.inl y))) (pz_u1 (pz_u1 (pz_u1 iv 154 (pz_up (iv 154) 0 0)) 157 ((q_cf (iv 155) ((iv 155) 1) (iv 161) (q_dd (iv 155) (iv 161) (iv 157))).2)) 161 (q_z40 ((q_cf (iv 155) ((iv 155) 1) (iv 161) (q_dd (iv 155) (iv 161) (iv 157))).1))) := pz_R_mem (s_X11_tells y) (by rw [pz_u1_in (r := 154) (q := 161) (by decide)]; rw [pz_u1_in (r := 154) (q := 157) (by decide)]; rw [pz_u1_top (r := 154)]; rfl)
                   refine w_call hc7 rfl (pz_cokI is_154 rfl) ?_
                   refine w_nil ?_
                   refine pz_G_of pz_b236_96 ?_
                   refine w_ret rfl ?_
                   first | exact lf_i (by first | rfl | exact hyk) rfl | (exfalso; omega))
              · first
                | (exfalso; first | omega | contradiction)
                | (refine w_loc rfl ?_
                   refine w_pure rfl ?_
                   have hc8 : pz_R (pz_Sh L) 191 [.inr (.inl 154), .inl 2] (pz_u1 (pz_u1 (pz_u1 iv 154 (iv 154)) 157 ((q_cf (iv 155) ((iv 155) 1) (iv 161) (q_dd (iv 155) (iv 161) (iv 157))).2)) 161 (q_z40 ((q_cf (iv 155) ((iv 155) 1) (iv 161) (q_dd (iv 155) (iv 161) (iv 157))).1))) (.inl (some (.inl 0))) (pz_u1 (pz_u1 (pz_u1 iv 154 (pz_up (iv 154) 0 2)) 157 ((q_cf (iv 155) ((iv 155) 1) (iv 161) (q_dd (iv 155) (iv 161) (iv 157))).2)) 161 (q_z40 ((q_cf (iv 155) ((iv 155) 1) (iv 161) (q_dd (iv 155) (iv 161) (iv 157))).1))) := pz_R_mem (s_X11_fails 2) (by rw [pz_u1_in (r := 154) (q := 161) (by decide)]; rw [pz_u1_in (r := 154) (q := 157) (by decide)]; rw [pz_u1_top (r := 154)]; rfl)
                   refine w_call hc8 rfl (pz_cokI is_154 rfl) ?_
                   refine w_goto ?_
                   refine pz_G_of pz_b236_96 ?_
                   refine w_ret rfl ?_
                   first | exact lf_i (by first | rfl | exact hyk) rfl | (exfalso; omega)))
         · first
           | (exfalso; first | omega | contradiction)
           | (refine w_loc rfl ?_
              refine w_loc rfl ?_
              have hc9 : pz_R (pz_Sh L) 203 [.inr (.inl 154), .inl b] (pz_u1 (pz_u1 (pz_u1 iv 154 (iv 154)) 157 ((q_cf (iv 155) ((iv 155) 1) (iv 161) (q_dd (iv 155) (iv 161) (iv 157))).2)) 161 ((q_cf (iv 155) ((iv 155) 1) (iv 161) (q_dd (iv 155) (iv 161) (iv 157))).1)) (.inl (some (.inl (pz_bi (q_hld (iv 155) b))))) (pz_u1 (pz_u1 (pz_u1 iv 154 (iv 154)) 157 ((q_cf (iv 155) ((iv 155) 1) (iv 161) (q_dd (iv 155) (iv 161) (iv 157))).2)) 161 ((q_cf (iv 155) ((iv 155) 1) (iv 161) (q_dd (iv 155) (iv 161) (iv 157))).1)) := s_X11_holds b (by show 0 ≤ b ∧ b ≤ 39; omega) (by show (-4 ≤ (iv 155) (52 + 4 * b + 3).toNat ∧ (iv 155) (52 + 4 * b + 3).toNat ≤ 4) ∨ (iv 155) (52 + 4 * b + 3).toNat = 99; omega)
              refine w_call hc9 rfl (pz_cokI is_154 rfl) ?_
              refine w_beq (fun h10 => ?_) (fun h10 => ?_)
              · first
                | (exfalso; first | omega | contradiction)
                | (refine pz_G_of pz_b236_68 ?_
                   refine w_iinc (ls' := [some (.inr (.inl 154)), some (.inl i), some (.inl x), some (.inl y), some (.inl (b + 1))]) rfl rfl rfl (by omega) ?_
                   refine w_goto ?_
                   exact ih25 _ (by omega) x y (b + 1)  rfl (by omega) (by rw [q_cnt_s (by omega)]; first | (rw [pz_bi_0 (by omega), Int.add_zero]; exact hx) | (rw [pz_bi_1 (by omega), hx, q_w1])) (by rw [q_fr_s (by omega), ← hy]; unfold q_ckS; first | rw [q_if_f (fun q => by omega)] | rw [q_if_t ⟨by omega, by omega⟩]))
              · first
                | (exfalso; first | omega | contradiction)
                | (refine w_loc rfl ?_
                   refine w_getR (q := 161) is_154 rf_154_10 ?_
                   refine w_loc rfl ?_
                   refine w_bald (v := (q_cf (iv 155) ((iv 155) 1) (iv 161) (q_dd (iv 155) (iv 161) (iv 157))).1 b.toNat) is_161 ln_161 ⟨by omega, by omega⟩ rfl ?_
                   refine w_zeq (fun h11 => ?_) (fun h11 => ?_)
                   · first
                     | (exfalso; first | omega | contradiction)
                     | (refine pz_G_of pz_b236_58 ?_
                        refine w_loc rfl ?_
                        refine w_zne (fun h12 => ?_) (fun h12 => ?_)
                        · first
                          | (exfalso; first | omega | contradiction)
                          | (refine pz_G_of pz_b236_65 ?_
                             refine w_iincw (lc' := [some (.inr (.inl 154)), some (.inl i), some (.inl (pz_w (x + (-1)))), some (.inl y), some (.inl b)]) rfl rfl rfl ?_
                             refine w_nil ?_
                             refine pz_G_of pz_b236_68 ?_
                             refine w_iinc (ls' := [some (.inr (.inl 154)), some (.inl i), some (.inl (pz_w (x + (-1)))), some (.inl y), some (.inl (b + 1))]) rfl rfl rfl (by omega) ?_
                             refine w_goto ?_
                             exact ih25 _ (by omega) (pz_w (x + (-1))) y (b + 1)  rfl (by omega) (by rw [q_cnt_s (by omega)]; first | (rw [pz_bi_0 (by omega), Int.add_zero]; exact hx) | (rw [pz_bi_1 (by omega), hx, q_w1])) (by rw [q_fr_s (by omega), ← hy]; unfold q_ckS; first | rw [q_if_f (fun q => by omega)] | rw [q_if_t ⟨by omega, by omega⟩]))
                        · first
                          | (exfalso; first | omega | contradiction)
                          | (refine w_loc rfl ?_
                             refine w_loc (ls' := [some (.inr (.inl 154)), some (.inl i), some (.inl x), some (.inl b), some (.inl b)]) (st' := []) rfl ?_
                             refine w_nil ?_
                             refine pz_G_of pz_b236_65 ?_
                             refine w_iincw (lc' := [some (.inr (.inl 154)), some (.inl i), some (.inl (pz_w (x + (-1)))), some (.inl b), some (.inl b)]) rfl rfl rfl ?_
                             refine w_nil ?_
                             refine pz_G_of pz_b236_68 ?_
                             refine w_iinc (ls' := [some (.inr (.inl 154)), some (.inl i), some (.inl (pz_w (x + (-1)))), some (.inl b), some (.inl (b + 1))]) rfl rfl rfl (by omega) ?_
                             refine w_goto ?_
                             exact ih25 _ (by omega) (pz_w (x + (-1))) b (b + 1)  rfl (by omega) (by rw [q_cnt_s (by omega)]; first | (rw [pz_bi_0 (by omega), Int.add_zero]; exact hx) | (rw [pz_bi_1 (by omega), hx, q_w1])) (by rw [q_fr_s (by omega), ← hy]; unfold q_ckS; first | rw [q_if_f (fun q => by omega)] | rw [q_if_t ⟨by omega, by omega⟩])))
                   · first
                     | (exfalso; first | omega | contradiction)
                     | (refine w_goto ?_
                        refine pz_G_of pz_b236_68 ?_
                        refine w_iinc (ls' := [some (.inr (.inl 154)), some (.inl i), some (.inl x), some (.inl y), some (.inl (b + 1))]) rfl rfl rfl (by omega) ?_
                        refine w_goto ?_
                        exact ih25 _ (by omega) x y (b + 1)  rfl (by omega) (by rw [q_cnt_s (by omega)]; first | (rw [pz_bi_0 (by omega), Int.add_zero]; exact hx) | (rw [pz_bi_1 (by omega), hx, q_w1])) (by rw [q_fr_s (by omega), ← hy]; unfold q_ckS; first | rw [q_if_f (fun q => by omega)] | rw [q_if_t ⟨by omega, by omega⟩]))))
       exact lp25 _ i (-1) 0  rfl (by omega) (by rw [show q_cnt (q_ckP (iv 155) (q_cf (iv 155) (iv 155 1) (iv 161) (q_dd (iv 155) (iv 161) (iv 157))).1) 0 = 0 from rfl, Int.sub_zero, pz_wr (by omega)]) (by rw [q_fr_0 (by omega)]))
  · first
    | (exfalso; first | omega | contradiction)
    | (refine w_loc rfl ?_
       refine w_pure rfl ?_
       have hc13 : pz_R (pz_Sh L) 191 [.inr (.inl 154), .inl 1] (pz_u1 (pz_u1 (pz_u1 iv 154 (iv 154)) 157 (q_dd (iv 155) (iv 161) (iv 157))) 161 (iv 161)) (.inl (some (.inl 0))) (pz_u1 (pz_u1 (pz_u1 iv 154 (pz_up (iv 154) 0 1)) 157 (q_dd (iv 155) (iv 161) (iv 157))) 161 (iv 161)) := pz_R_mem (s_X11_fails 1) (by rw [pz_u1_in (r := 154) (q := 161) (by decide)]; rw [pz_u1_in (r := 154) (q := 157) (by decide)]; rw [pz_u1_top (r := 154)]; rfl)
       refine w_call hc13 rfl (pz_cokI is_154 rfl) ?_
       refine w_ret rfl ?_
       first | exact lf_i (by first | rfl | exact hyk) rfl | (exfalso; omega))

theorem s_X11_conflictAt_0 {L : Nat} {iv : Nat → Nat → Int} (i : Int) (hk : q_KR (iv 155)) (hcase0 : -2147483648 ≤ i ∧ i ≤ 2147483647) (hcase1 : ¬ q_con (iv 155) (iv 161)) (hcase2 : q_ck (iv 155) (q_cf (iv 155) (iv 155 1) (iv 161) (q_dd (iv 155) (iv 161) (iv 157))).1 i ≠ -1) : pz_R (pz_Sh L) 236 [.inr (.inl 154), .inl i] iv (.inl (some (.inl (q_ck (iv 155) (q_cf (iv 155) ((iv 155) 1) (iv 161) (q_dd (iv 155) (iv 161) (iv 157))).1 i)))) (pz_u1 (pz_u1 (pz_u1 iv 154 (pz_up (iv 154) 0 0)) 157 ((q_cf (iv 155) ((iv 155) 1) (iv 161) (q_dd (iv 155) (iv 161) (iv 157))).2)) 161 (q_z40 (q_cf (iv 155) ((iv 155) 1) (iv 161) (q_dd (iv 155) (iv 161) (iv 157))).1)) := by
  intro dv cc ss
  have hk0 := hk.r0
  refine pz_G_mem (iv2 := pz_u1 (pz_u1 (pz_u1 iv 154 (iv 154)) 157 (iv 157)) 161 (iv 161)) (by exact (((pz_u1_self iv 154).symm).trans (pz_u1_self (pz_u1 iv 154 (iv 154)) 157).symm).trans (pz_u1_self (pz_u1 (pz_u1 iv 154 (iv 154)) 157 (iv 157)) 161).symm) ?_
  show pz_G 236 0 [some (.inr (.inl 154)), some (.inl i), none, none, none] [] (pz_Sh L, pz_u1 (pz_u1 (pz_u1 iv 154 (iv 154)) 157 (iv 157)) 161 (iv 161), dv, cc, ss) (pz_P (pz_Sh L) (.inl (some (.inl (q_ck (iv 155) (q_cf (iv 155) ((iv 155) 1) (iv 161) (q_dd (iv 155) (iv 161) (iv 157))).1 i)))) (pz_u1 (pz_u1 (pz_u1 iv 154 (pz_up (iv 154) 0 0)) 157 ((q_cf (iv 155) ((iv 155) 1) (iv 161) (q_dd (iv 155) (iv 161) (iv 157))).2)) 161 (q_z40 (q_cf (iv 155) ((iv 155) 1) (iv 161) (q_dd (iv 155) (iv 161) (iv 157))).1)) dv cc ss)
  refine pz_G_of pz_b236_0 ?_
  refine w_loc rfl ?_
  have hc1 : pz_R (pz_Sh L) 227 [.inr (.inl 154)] (pz_u1 (pz_u1 (pz_u1 iv 154 (iv 154)) 157 (iv 157)) 161 (iv 161)) (.inl (some (.inl (pz_bi (q_con (iv 155) (iv 161)))))) (pz_u1 (pz_u1 (pz_u1 iv 154 (iv 154)) 157 (q_dd (iv 155) (iv 161) (iv 157))) 161 (iv 161)) := pz_R_mem (s_X11_isConsistentNow (by show q_KR (iv 155); exact hk)) (by rw [pz_u1_in (r := 157) (q := 161) (by decide)]; rw [pz_u1_top (r := 157)]; rfl)
  refine w_call hc1 rfl (pz_cokI is_154 rfl) ?_
  refine w_beq (fun h2 => ?_) (fun h2 => ?_)
  · first
    | (exfalso; first | omega | contradiction)
    | (refine pz_G_of pz_b236_13 ?_
       refine w_loc rfl ?_
       have hc3 : pz_R (pz_Sh L) 233 [.inr (.inl 154)] (pz_u1 (pz_u1 (pz_u1 iv 154 (iv 154)) 157 (q_dd (iv 155) (iv 161) (iv 157))) 161 (iv 161)) (.inl (some (.inl (q_cnt (q_kept (iv 155) (iv 161) (q_dd (iv 155) (iv 161) (iv 157))) ((iv 155) 1))))) (pz_u1 (pz_u1 (pz_u1 iv 154 (iv 154)) 157 ((q_cf (iv 155) ((iv 155) 1) (iv 161) (q_dd (iv 155) (iv 161) (iv 157))).2)) 161 ((q_cf (iv 155) ((iv 155) 1) (iv 161) (q_dd (iv 155) (iv 161) (iv 157))).1)) := pz_R_mem (s_X11_conflicts (by show q_KR (iv 155); exact hk)) (by rw [pz_u1_in (r := 157) (q := 161) (by decide)]; rw [pz_u1_top (r := 157)]; rw [pz_u1_top (r := 161)]; rfl)
       refine w_call hc3 rfl (pz_cokI is_154 rfl) ?_
       refine w_pure rfl ?_
       refine w_loc rfl ?_
       refine w_loc (ls' := [some (.inr (.inl 154)), some (.inl i), some (.inl i), none, none]) (st' := []) rfl ?_
       refine w_pure rfl ?_
       refine w_loc (ls' := [some (.inr (.inl 154)), some (.inl i), some (.inl i), some (.inl (-1)), none]) (st' := []) rfl ?_
       refine w_pure rfl ?_
       refine w_loc (ls' := [some (.inr (.inl 154)), some (.inl i), some (.inl i), some (.inl (-1)), some (.inl 0)]) (st' := []) rfl ?_
       refine w_nil ?_
       have lp25 : ∀ (dd : Nat) (x : Int) (y : Int) (b : Int) , (iv 155 1 - b).toNat = dd → ∀ (hb : 0 ≤ b ∧ b ≤ iv 155 1), ∀ (hx : x = pz_w (i - q_cnt (q_ckP (iv 155) (q_cf (iv 155) (iv 155 1) (iv 161) (q_dd (iv 155) (iv 161) (iv 157))).1) b)), ∀ (hy : y = q_fr (q_ckS (iv 155) (q_cf (iv 155) (iv 155 1) (iv 161) (q_dd (iv 155) (iv 161) (iv 157))).1 i) 0 b (-1)),  pz_G 236 25 [some (.inr (.inl 154)), some (.inl i), some (.inl x), some (.inl y), some (.inl b)] [] (pz_Sh L, pz_u1 (pz_u1 (pz_u1 iv 154 (iv 154)) 157 ((q_cf (iv 155) ((iv 155) 1) (iv 161) (q_dd (iv 155) (iv 161) (iv 157))).2)) 161 ((q_cf (iv 155) ((iv 155) 1) (iv 161) (q_dd (iv 155) (iv 161) (iv 157))).1), dv, cc, ss) (pz_P (pz_Sh L) (.inl (some (.inl (q_ck (iv 155) (q_cf (iv 155) ((iv 155) 1) (iv 161) (q_dd (iv 155) (iv 161) (iv 157))).1 i)))) (pz_u1 (pz_u1 (pz_u1 iv 154 (pz_up (iv 154) 0 0)) 157 ((q_cf (iv 155) ((iv 155) 1) (iv 161) (q_dd (iv 155) (iv 161) (iv 157))).2)) 161 (q_z40 (q_cf (iv 155) ((iv 155) 1) (iv 161) (q_dd (iv 155) (iv 161) (iv 157))).1)) dv cc ss) := by
         intro dd25
         induction dd25 using Nat.strongRecOn with
         | _ dd25 ih25 =>
         intro x y b  hd25 hb hx hy
         have hbr := fun h => hk.bd hb.1 h
         have hcr := q_cnt_r (q_ckP (iv 155) (q_cf (iv 155) (iv 155 1) (iv 161) (q_dd (iv 155) (iv 161) (iv 157))).1) hb.1
         have hw := q_w0 (i := i) (c := q_cnt (q_ckP (iv 155) (q_cf (iv 155) (iv 155 1) (iv 161) (q_dd (iv 155) (iv 161) (iv 157))).1) b) (by omega) (by omega)
         rw [← hx] at hw
         refine pz_G_of pz_b236_25 ?_
         refine w_loc rfl ?_
         refine w_loc rfl ?_
         refine w_getR (q := 155) is_154 rf_154_1 ?_
         refine w_pure rfl ?_
         refine w_iald (v := (iv 155) 1) is_155 ln_155 ⟨by omega, by omega⟩ rfl ?_
         refine w_ige (fun h4 => ?_) (fun h4 => ?_)
         · first
           | (exfalso; first | omega | contradiction)
           | (have hyk : y = q_ck (iv 155) (q_cf (iv 155) (iv 155 1) (iv 161) (q_dd (iv 155) (iv 161) (iv 157))).1 i := by
                rw [hy, show b = iv 155 1 by omega]
                rfl
              refine pz_G_of pz_b236_74 ?_
              refine w_loc rfl ?_
              have hc5 : pz_R (pz_Sh L) 234 [.inr (.inl 154)] (pz_u1 (pz_u1 (pz_u1 iv 154 (iv 154)) 157 ((q_cf (iv 155) ((iv 155) 1) (iv 161) (q_dd (iv 155) (iv 161) (iv 157))).2)) 161 ((q_cf (iv 155) ((iv 155) 1) (iv 161) (q_dd (iv 155) (iv 161) (iv 157))).1)) (.inl none) (pz_u1 (pz_u1 (pz_u1 iv 154 (iv 154)) 157 ((q_cf (iv 155) ((iv 155) 1) (iv 161) (q_dd (iv 155) (iv 161) (iv 157))).2)) 161 (q_z40 ((q_cf (iv 155) ((iv 155) 1) (iv 161) (q_dd (iv 155) (iv 161) (iv 157))).1))) := pz_R_mem (s_X11_takesBackIn) (by rw [pz_u1_top (r := 161)]; rfl)
              refine w_callv hc5 rfl (pz_cokI is_154 rfl) ?_
              refine w_loc rfl ?_
              refine w_pure rfl ?_
              refine w_ine (fun h6 => ?_) (fun h6 => ?_)
              · first
                | (exfalso; first | omega | contradiction)
                | (refine pz_G_of pz_b236_91 ?_
                   refine w_loc rfl ?_
                   refine w_loc rfl ?_
                   have hc7 : pz_R (pz_Sh L) 192 [.inr (.inl 154), .inl y] (pz_u1 (pz_u1 (pz_u1 iv 154 (iv 154)) 157 ((q_cf (iv 155) ((iv 155) 1) (iv 161) (q_dd (iv 155) (iv 161) (iv 157))).2)) 161 (q_z40 ((q_cf (iv 155) ((iv 155) 1) (iv 161) (q_dd (iv 155) (iv 161) (iv 157))).1))) (.inl (some (.inl y))) (pz_u1 (pz_u1 (pz_u1 iv 154 (pz_up (iv 154) 0 0)) 157 ((q_cf (iv 155) ((iv 155) 1) (iv 161) (q_dd (iv 155) (iv 161) (iv 157))).2)) 161 (q_z40 ((q_cf (iv 155) ((iv 155) 1) (iv 161) (q_dd (iv 155) (iv 161) (iv 157))).1))) := pz_R_mem (s_X11_tells y) (by rw [pz_u1_in (r := 154) (q := 161) (by decide)]; rw [pz_u1_in (r := 154) (q := 157) (by decide)]; rw [pz_u1_top (r := 154)]; rfl)
                   refine w_call hc7 rfl (pz_cokI is_154 rfl) ?_
                   refine w_nil ?_
                   refine pz_G_of pz_b236_96 ?_
                   refine w_ret rfl ?_
                   first | exact lf_i (by first | rfl | exact hyk) rfl | (exfalso; omega))
              · first
                | (exfalso; first | omega | contradiction)
                | (refine w_loc rfl ?_
                   refine w_pure rfl ?_
                   have hc8 : pz_R (pz_Sh L) 191 [.inr (.inl 154), .inl 2] (pz_u1 (pz_u1 (pz_u1 iv 154 (iv 154)) 157 ((q_cf (iv 155) ((iv 155) 1) (iv 161) (q_dd (iv 155) (iv 161) (iv 157))).2)) 161 (q_z40 ((q_cf (iv 155) ((iv 155) 1) (iv 161) (q_dd (iv 155) (iv 161) (iv 157))).1))) (.inl (some (.inl 0))) (pz_u1 (pz_u1 (pz_u1 iv 154 (pz_up (iv 154) 0 2)) 157 ((q_cf (iv 155) ((iv 155) 1) (iv 161) (q_dd (iv 155) (iv 161) (iv 157))).2)) 161 (q_z40 ((q_cf (iv 155) ((iv 155) 1) (iv 161) (q_dd (iv 155) (iv 161) (iv 157))).1))) := pz_R_mem (s_X11_fails 2) (by rw [pz_u1_in (r := 154) (q := 161) (by decide)]; rw [pz_u1_in (r := 154) (q := 157) (by decide)]; rw [pz_u1_top (r := 154)]; rfl)
                   refine w_call hc8 rfl (pz_cokI is_154 rfl) ?_
                   refine w_goto ?_
                   refine pz_G_of pz_b236_96 ?_
                   refine w_ret rfl ?_
                   first | exact lf_i (by first | rfl | exact hyk) rfl | (exfalso; omega)))
         · first
           | (exfalso; first | omega | contradiction)
           | (refine w_loc rfl ?_
              refine w_loc rfl ?_
              have hc9 : pz_R (pz_Sh L) 203 [.inr (.inl 154), .inl b] (pz_u1 (pz_u1 (pz_u1 iv 154 (iv 154)) 157 ((q_cf (iv 155) ((iv 155) 1) (iv 161) (q_dd (iv 155) (iv 161) (iv 157))).2)) 161 ((q_cf (iv 155) ((iv 155) 1) (iv 161) (q_dd (iv 155) (iv 161) (iv 157))).1)) (.inl (some (.inl (pz_bi (q_hld (iv 155) b))))) (pz_u1 (pz_u1 (pz_u1 iv 154 (iv 154)) 157 ((q_cf (iv 155) ((iv 155) 1) (iv 161) (q_dd (iv 155) (iv 161) (iv 157))).2)) 161 ((q_cf (iv 155) ((iv 155) 1) (iv 161) (q_dd (iv 155) (iv 161) (iv 157))).1)) := s_X11_holds b (by show 0 ≤ b ∧ b ≤ 39; omega) (by show (-4 ≤ (iv 155) (52 + 4 * b + 3).toNat ∧ (iv 155) (52 + 4 * b + 3).toNat ≤ 4) ∨ (iv 155) (52 + 4 * b + 3).toNat = 99; omega)
              refine w_call hc9 rfl (pz_cokI is_154 rfl) ?_
              refine w_beq (fun h10 => ?_) (fun h10 => ?_)
              · first
                | (exfalso; first | omega | contradiction)
                | (refine pz_G_of pz_b236_68 ?_
                   refine w_iinc (ls' := [some (.inr (.inl 154)), some (.inl i), some (.inl x), some (.inl y), some (.inl (b + 1))]) rfl rfl rfl (by omega) ?_
                   refine w_goto ?_
                   exact ih25 _ (by omega) x y (b + 1)  rfl (by omega) (by rw [q_cnt_s (by omega)]; first | (rw [pz_bi_0 (by omega), Int.add_zero]; exact hx) | (rw [pz_bi_1 (by omega), hx, q_w1])) (by rw [q_fr_s (by omega), ← hy]; unfold q_ckS; first | rw [q_if_f (fun q => by omega)] | rw [q_if_t ⟨by omega, by omega⟩]))
              · first
                | (exfalso; first | omega | contradiction)
                | (refine w_loc rfl ?_
                   refine w_getR (q := 161) is_154 rf_154_10 ?_
                   refine w_loc rfl ?_
                   refine w_bald (v := (q_cf (iv 155) ((iv 155) 1) (iv 161) (q_dd (iv 155) (iv 161) (iv 157))).1 b.toNat) is_161 ln_161 ⟨by omega, by omega⟩ rfl ?_
                   refine w_zeq (fun h11 => ?_) (fun h11 => ?_)
                   · first
                     | (exfalso; first | omega | contradiction)
                     | (refine pz_G_of pz_b236_58 ?_
                        refine w_loc rfl ?_
                        refine w_zne (fun h12 => ?_) (fun h12 => ?_)
                        · first
                          | (exfalso; first | omega | contradiction)
                          | (refine pz_G_of pz_b236_65 ?_
                             refine w_iincw (lc' := [some (.inr (.inl 154)), some (.inl i), some (.inl (pz_w (x + (-1)))), some (.inl y), some (.inl b)]) rfl rfl rfl ?_
                             refine w_nil ?_
                             refine pz_G_of pz_b236_68 ?_
                             refine w_iinc (ls' := [some (.inr (.inl 154)), some (.inl i), some (.inl (pz_w (x + (-1)))), some (.inl y), some (.inl (b + 1))]) rfl rfl rfl (by omega) ?_
                             refine w_goto ?_
                             exact ih25 _ (by omega) (pz_w (x + (-1))) y (b + 1)  rfl (by omega) (by rw [q_cnt_s (by omega)]; first | (rw [pz_bi_0 (by omega), Int.add_zero]; exact hx) | (rw [pz_bi_1 (by omega), hx, q_w1])) (by rw [q_fr_s (by omega), ← hy]; unfold q_ckS; first | rw [q_if_f (fun q => by omega)] | rw [q_if_t ⟨by omega, by omega⟩]))
                        · first
                          | (exfalso; first | omega | contradiction)
                          | (refine w_loc rfl ?_
                             refine w_loc (ls' := [some (.inr (.inl 154)), some (.inl i), some (.inl x), some (.inl b), some (.inl b)]) (st' := []) rfl ?_
                             refine w_nil ?_
                             refine pz_G_of pz_b236_65 ?_
                             refine w_iincw (lc' := [some (.inr (.inl 154)), some (.inl i), some (.inl (pz_w (x + (-1)))), some (.inl b), some (.inl b)]) rfl rfl rfl ?_
                             refine w_nil ?_
                             refine pz_G_of pz_b236_68 ?_
                             refine w_iinc (ls' := [some (.inr (.inl 154)), some (.inl i), some (.inl (pz_w (x + (-1)))), some (.inl b), some (.inl (b + 1))]) rfl rfl rfl (by omega) ?_
                             refine w_goto ?_
                             exact ih25 _ (by omega) (pz_w (x + (-1))) b (b + 1)  rfl (by omega) (by rw [q_cnt_s (by omega)]; first | (rw [pz_bi_0 (by omega), Int.add_zero]; exact hx) | (rw [pz_bi_1 (by omega), hx, q_w1])) (by rw [q_fr_s (by omega), ← hy]; unfold q_ckS; first | rw [q_if_f (fun q => by omega)] | rw [q_if_t ⟨by omega, by omega⟩])))
                   · first
                     | (exfalso; first | omega | contradiction)
                     | (refine w_goto ?_
                        refine pz_G_of pz_b236_68 ?_
                        refine w_iinc (ls' := [some (.inr (.inl 154)), some (.inl i), some (.inl x), some (.inl y), some (.inl (b + 1))]) rfl rfl rfl (by omega) ?_
                        refine w_goto ?_
                        exact ih25 _ (by omega) x y (b + 1)  rfl (by omega) (by rw [q_cnt_s (by omega)]; first | (rw [pz_bi_0 (by omega), Int.add_zero]; exact hx) | (rw [pz_bi_1 (by omega), hx, q_w1])) (by rw [q_fr_s (by omega), ← hy]; unfold q_ckS; first | rw [q_if_f (fun q => by omega)] | rw [q_if_t ⟨by omega, by omega⟩]))))
       exact lp25 _ i (-1) 0  rfl (by omega) (by rw [show q_cnt (q_ckP (iv 155) (q_cf (iv 155) (iv 155 1) (iv 161) (q_dd (iv 155) (iv 161) (iv 157))).1) 0 = 0 from rfl, Int.sub_zero, pz_wr (by omega)]) (by rw [q_fr_0 (by omega)]))
  · first
    | (exfalso; first | omega | contradiction)
    | (refine w_loc rfl ?_
       refine w_pure rfl ?_
       have hc13 : pz_R (pz_Sh L) 191 [.inr (.inl 154), .inl 1] (pz_u1 (pz_u1 (pz_u1 iv 154 (iv 154)) 157 (q_dd (iv 155) (iv 161) (iv 157))) 161 (iv 161)) (.inl (some (.inl 0))) (pz_u1 (pz_u1 (pz_u1 iv 154 (pz_up (iv 154) 0 1)) 157 (q_dd (iv 155) (iv 161) (iv 157))) 161 (iv 161)) := pz_R_mem (s_X11_fails 1) (by rw [pz_u1_in (r := 154) (q := 161) (by decide)]; rw [pz_u1_in (r := 154) (q := 157) (by decide)]; rw [pz_u1_top (r := 154)]; rfl)
       refine w_call hc13 rfl (pz_cokI is_154 rfl) ?_
       refine w_ret rfl ?_
       first | exact lf_i (by first | rfl | exact hyk) rfl | (exfalso; omega))
