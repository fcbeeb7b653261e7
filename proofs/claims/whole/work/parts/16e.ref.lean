
theorem s_X11_addSpan_1 {L : Nat} {iv : Nat → Nat → Int} (f : Int) (t : Int) (l : Int) (g : Int) (hk : q_KR (iv 155)) (hcase0 : ¬ (0 ≤ f ∧ f ≤ iv 155 0 - 1 ∧ 0 ≤ t ∧ t ≤ iv 155 0 - 1)) : pz_R (pz_Sh L) 212 [.inr (.inl 154), .inl f, .inl t, .inl l, .inl g] iv (.inl (some (.inl 0))) (pz_u1 (pz_u1 iv 154 (pz_up (iv 154) 0 1)) 155 (iv 155)) := by
  intro dv cc ss
  have hk0 := hk.r0
  refine pz_G_mem (iv2 := pz_u1 (pz_u1 iv 154 (iv 154)) 155 (iv 155)) (by exact ((pz_u1_self iv 154).symm).trans (pz_u1_self (pz_u1 iv 154 (iv 154)) 155).symm) ?_
  show pz_G 212 0 [some (.inr (.inl 154)), some (.inl f), some (.inl t), some (.inl l), some (.inl g), none] [] (pz_Sh L, pz_u1 (pz_u1 iv 154 (iv 154)) 155 (iv 155), dv, cc, ss) (pz_P (pz_Sh L) (.inl (some (.inl 0))) (pz_u1 (pz_u1 iv 154 (pz_up (iv 154) 0 1)) 155 (iv 155)) dv cc ss)
  refine pz_G_of pz_b212_0 ?_
  refine w_loc rfl ?_
  refine w_loc rfl ?_
  have hc1 : pz_R (pz_Sh L) 194 [.inr (.inl 154), .inl f] (pz_u1 (pz_u1 iv 154 (iv 154)) 155 (iv 155)) (.inl (some (.inl (pz_bi (0 ≤ f ∧ f ≤ (iv 155) 0 - 1))))) (pz_u1 (pz_u1 iv 154 (iv 154)) 155 (iv 155)) := s_X11_isEvent f (by show q_KR (iv 155); exact hk)
  refine w_call hc1 rfl (pz_cokI is_154 rfl) ?_
  refine w_beq (fun h2 => ?_) (fun h2 => ?_)
  · first
    | (exfalso; first | omega | contradiction)
    | (refine pz_G_of pz_b212_16 ?_
       refine w_loc rfl ?_
       refine w_pure rfl ?_
       have hc3 : pz_R (pz_Sh L) 191 [.inr (.inl 154), .inl 1] (pz_u1 (pz_u1 iv 154 (iv 154)) 155 (iv 155)) (.inl (some (.inl 0))) (pz_u1 (pz_u1 iv 154 (pz_up (iv 154) 0 1)) 155 (iv 155)) := pz_R_mem (s_X11_fails 1) (by rw [pz_u1_in (r := 154) (q := 155) (by decide)]; rw [pz_u1_top (r := 154)]; rfl)
       refine w_call hc3 rfl (pz_cokI is_154 rfl) ?_
       refine w_ret rfl ?_
       first | exact lf_i (by first | rfl | omega) rfl | (exfalso; omega))
  · first
    | (exfalso; first | omega | contradiction)
    | (refine w_loc rfl ?_
       refine w_loc rfl ?_
       have hc4 : pz_R (pz_Sh L) 194 [.inr (.inl 154), .inl t] (pz_u1 (pz_u1 iv 154 (iv 154)) 155 (iv 155)) (.inl (some (.inl (pz_bi (0 ≤ t ∧ t ≤ (iv 155) 0 - 1))))) (pz_u1 (pz_u1 iv 154 (iv 154)) 155 (iv 155)) := s_X11_isEvent t (by show q_KR (iv 155); exact hk)
       refine w_call hc4 rfl (pz_cokI is_154 rfl) ?_
       refine w_bne (fun h5 => ?_) (fun h5 => ?_)
       · first
         | (exfalso; first | omega | contradiction)
         | (refine pz_G_of pz_b212_22 ?_
            refine w_loc rfl ?_
            refine w_loc rfl ?_
            refine w_ile (fun h6 => ?_) (fun h6 => ?_)
            · first
              | (exfalso; first | omega | contradiction)
              | (refine pz_G_of pz_b212_50 ?_
                 refine w_loc rfl ?_
                 refine w_pure rfl ?_
                 have hc7 : pz_R (pz_Sh L) 191 [.inr (.inl 154), .inl 2] (pz_u1 (pz_u1 iv 154 (iv 154)) 155 (iv 155)) (.inl (some (.inl 0))) (pz_u1 (pz_u1 iv 154 (pz_up (iv 154) 0 2)) 155 (iv 155)) := pz_R_mem (s_X11_fails 2) (by rw [pz_u1_in (r := 154) (q := 155) (by decide)]; rw [pz_u1_top (r := 154)]; rfl)
                 refine w_call hc7 rfl (pz_cokI is_154 rfl) ?_
                 refine w_ret rfl ?_
                 first | exact lf_i (by first | rfl | omega) rfl | (exfalso; omega))
            · first
              | (exfalso; first | omega | contradiction)
              | (refine w_loc rfl ?_
                 refine w_pure rfl ?_
                 refine w_pure rfl ?_
                 have hc8 : pz_R (pz_Sh L) 190 [.inl l, .inl 1, .inl 200] (pz_u1 (pz_u1 iv 154 (iv 154)) 155 (iv 155)) (.inl (some (.inl (pz_bi (1 ≤ l ∧ l ≤ 200))))) (pz_u1 (pz_u1 iv 154 (iv 154)) 155 (iv 155)) := s_X11_in l 1 200
                 refine w_call hc8 rfl rfl ?_
                 refine w_beq (fun h9 => ?_) (fun h9 => ?_)
                 · first
                   | (exfalso; first | omega | contradiction)
                   | (refine pz_G_of pz_b212_50 ?_
                      refine w_loc rfl ?_
                      refine w_pure rfl ?_
                      have hc10 : pz_R (pz_Sh L) 191 [.inr (.inl 154), .inl 2] (pz_u1 (pz_u1 iv 154 (iv 154)) 155 (iv 155)) (.inl (some (.inl 0))) (pz_u1 (pz_u1 iv 154 (pz_up (iv 154) 0 2)) 155 (iv 155)) := pz_R_mem (s_X11_fails 2) (by rw [pz_u1_in (r := 154) (q := 155) (by decide)]; rw [pz_u1_top (r := 154)]; rfl)
                      refine w_call hc10 rfl (pz_cokI is_154 rfl) ?_
                      refine w_ret rfl ?_
                      first | exact lf_i (by first | rfl | omega) rfl | (exfalso; omega))
                 · first
                   | (exfalso; first | omega | contradiction)
                   | (refine w_loc rfl ?_
                      refine w_loc rfl ?_
                      refine w_pure rfl ?_
                      have hc11 : pz_R (pz_Sh L) 190 [.inl g, .inl l, .inl 200] (pz_u1 (pz_u1 iv 154 (iv 154)) 155 (iv 155)) (.inl (some (.inl (pz_bi (l ≤ g ∧ g ≤ 200))))) (pz_u1 (pz_u1 iv 154 (iv 154)) 155 (iv 155)) := s_X11_in g l 200
                      refine w_call hc11 rfl rfl ?_
                      refine w_bne (fun h12 => ?_) (fun h12 => ?_)
                      · first
                        | (exfalso; first | omega | contradiction)
                        | (refine pz_G_of pz_b212_56 ?_
                           refine w_loc rfl ?_
                           refine w_getR (q := 155) is_154 rf_154_1 ?_
                           refine w_pure rfl ?_
                           refine w_iald (v := (iv 155) 2) is_155 ln_155 ⟨by omega, by omega⟩ rfl ?_
                           refine w_pure rfl ?_
                           refine w_ieq (fun h13 => ?_) (fun h13 => ?_)
                           · first
                             | (exfalso; first | omega | contradiction)
                             | (refine pz_G_of pz_b212_94 ?_
                                refine w_loc rfl ?_
                                refine w_pure rfl ?_
                                have hc14 : pz_R (pz_Sh L) 191 [.inr (.inl 154), .inl 3] (pz_u1 (pz_u1 iv 154 (iv 154)) 155 (iv 155)) (.inl (some (.inl 0))) (pz_u1 (pz_u1 iv 154 (pz_up (iv 154) 0 3)) 155 (iv 155)) := pz_R_mem (s_X11_fails 3) (by rw [pz_u1_in (r := 154) (q := 155) (by decide)]; rw [pz_u1_top (r := 154)]; rfl)
                                refine w_call hc14 rfl (pz_cokI is_154 rfl) ?_
                                refine w_ret rfl ?_
                                first | exact lf_i (by first | rfl | omega) rfl | (exfalso; omega))
                           · first
                             | (exfalso; first | omega | contradiction)
                             | (refine w_loc rfl ?_
                                refine w_loc rfl ?_
                                have hc15 : pz_R (pz_Sh L) 211 [.inr (.inl 154), .inl t] (pz_u1 (pz_u1 iv 154 (iv 154)) 155 (iv 155)) (.inl (some (.inl (pz_bi (q_exi (fun s => (iv 155) (212 + 4 * s + 1).toNat = t) ((iv 155) 2)))))) (pz_u1 (pz_u1 iv 154 (iv 154)) 155 (iv 155)) := s_X11_isEnd t (by show q_KR (iv 155); exact hk)
                                refine w_call hc15 rfl (pz_cokI is_154 rfl) ?_
                                refine w_bne (fun h16 => ?_) (fun h16 => ?_)
                                · first
                                  | (exfalso; first | omega | contradiction)
                                  | (refine pz_G_of pz_b212_94 ?_
                                     refine w_loc rfl ?_
                                     refine w_pure rfl ?_
                                     have hc17 : pz_R (pz_Sh L) 191 [.inr (.inl 154), .inl 3] (pz_u1 (pz_u1 iv 154 (iv 154)) 155 (iv 155)) (.inl (some (.inl 0))) (pz_u1 (pz_u1 iv 154 (pz_up (iv 154) 0 3)) 155 (iv 155)) := pz_R_mem (s_X11_fails 3) (by rw [pz_u1_in (r := 154) (q := 155) (by decide)]; rw [pz_u1_top (r := 154)]; rfl)
                                     refine w_call hc17 rfl (pz_cokI is_154 rfl) ?_
                                     refine w_ret rfl ?_
                                     first | exact lf_i (by first | rfl | omega) rfl | (exfalso; omega))
                                · first
                                  | (exfalso; first | omega | contradiction)
                                  | (refine w_loc rfl ?_
                                     refine w_zle (fun h18 => ?_) (fun h18 => ?_)
                                     · first
                                       | (exfalso; first | omega | contradiction)
                                       | (refine pz_G_of pz_b212_86 ?_
                                          refine w_loc rfl ?_
                                          refine w_loc rfl ?_
                                          have hc19 : pz_R (pz_Sh L) 196 [.inr (.inl 154), .inl t] (pz_u1 (pz_u1 iv 154 (iv 154)) 155 (iv 155)) (.inl (some (.inl (pz_bi (q_sta (iv 155) t))))) (pz_u1 (pz_u1 iv 154 (iv 154)) 155 (iv 155)) := s_X11_hasStarted t (by show 0 ≤ t ∧ t ≤ 9; omega)
                                          refine w_call hc19 rfl (pz_cokI is_154 rfl) ?_
                                          refine w_beq (fun h20 => ?_) (fun h20 => ?_)
                                          · first
                                            | (exfalso; first | omega | contradiction)
                                            | (refine pz_G_of pz_b212_100 ?_
                                               refine w_pure rfl ?_
                                               refine w_pure rfl ?_
                                               refine w_loc rfl ?_
                                               refine w_getR (q := 155) is_154 rf_154_1 ?_
                                               refine w_pure rfl ?_
                                               refine w_iald (v := (iv 155) 2) is_155 ln_155 ⟨by omega, by omega⟩ rfl ?_
                                               refine w_imul (by omega) ?_
                                               refine w_iadd (by omega) ?_
                                               refine w_loc (ls' := [some (.inr (.inl 154)), some (.inl f), some (.inl t), some (.inl l), some (.inl g), some (.inl (212 + (4 * ((iv 155) 2))))]) (st' := []) rfl ?_
                                               refine w_loc rfl ?_
                                               refine w_getR (q := 155) is_154 rf_154_1 ?_
                                               refine w_loc rfl ?_
                                               refine w_loc rfl ?_
                                               refine w_iastm (iv2 := pz_u1 (pz_u1 iv 154 (iv 154)) 155 (pz_up (iv 155) (212 + (4 * ((iv 155) 2))).toNat f)) is_155 ln_155 ⟨by omega, by omega⟩ (by exact pz_u2_top _ _ _ _ _) ?_
                                               refine w_loc rfl ?_
                                               refine w_getR (q := 155) is_154 rf_154_1 ?_
                                               refine w_loc rfl ?_
                                               refine w_pure rfl ?_
                                               refine w_iadd (by omega) ?_
                                               refine w_loc rfl ?_
                                               refine w_iastm (iv2 := pz_u1 (pz_u1 iv 154 (iv 154)) 155 (pz_up (pz_up (iv 155) (212 + (4 * ((iv 155) 2))).toNat f) ((212 + (4 * ((iv 155) 2))) + 1).toNat t)) is_155 ln_155 ⟨by omega, by omega⟩ (by exact pz_u2_top _ _ _ _ _) ?_
                                               refine w_loc rfl ?_
                                               refine w_getR (q := 155) is_154 rf_154_1 ?_
                                               refine w_loc rfl ?_
                                               refine w_pure rfl ?_
                                               refine w_iadd (by omega) ?_
                                               refine w_loc rfl ?_
                                               refine w_iastm (iv2 := pz_u1 (pz_u1 iv 154 (iv 154)) 155 (pz_up (pz_up (pz_up (iv 155) (212 + (4 * ((iv 155) 2))).toNat f) ((212 + (4 * ((iv 155) 2))) + 1).toNat t) ((212 + (4 * ((iv 155) 2))) + 2).toNat l)) is_155 ln_155 ⟨by omega, by omega⟩ (by exact pz_u2_top _ _ _ _ _) ?_
                                               refine w_loc rfl ?_
                                               refine w_getR (q := 155) is_154 rf_154_1 ?_
                                               refine w_loc rfl ?_
                                               refine w_pure rfl ?_
                                               refine w_iadd (by omega) ?_
                                               refine w_loc rfl ?_
                                               refine w_iastm (iv2 := pz_u1 (pz_u1 iv 154 (iv 154)) 155 (pz_up (pz_up (pz_up (pz_up (iv 155) (212 + (4 * ((iv 155) 2))).toNat f) ((212 + (4 * ((iv 155) 2))) + 1).toNat t) ((212 + (4 * ((iv 155) 2))) + 2).toNat l) ((212 + (4 * ((iv 155) 2))) + 3).toNat g)) is_155 ln_155 ⟨by omega, by omega⟩ (by exact pz_u2_top _ _ _ _ _) ?_
                                               refine w_loc rfl ?_
                                               refine w_getR (q := 155) is_154 rf_154_1 ?_
                                               refine w_pure rfl ?_
                                               refine w_pure rfl ?_
                                               refine w_iald (v := (iv 155) 2) is_155 ln_155 ⟨by omega, by omega⟩ (by show (pz_up (pz_up (pz_up (pz_up (iv 155) (212 + (4 * ((iv 155) 2))).toNat f) ((212 + (4 * ((iv 155) 2))) + 1).toNat t) ((212 + (4 * ((iv 155) 2))) + 2).toNat l) ((212 + (4 * ((iv 155) 2))) + 3).toNat g) 2 = _; rw [pz_up_ne (by omega), pz_up_ne (by omega), pz_up_ne (by omega), pz_up_ne (by omega)]) ?_
                                               refine w_pure rfl ?_
                                               refine w_iadd (by omega) ?_
                                               refine w_iastm (iv2 := pz_u1 (pz_u1 iv 154 (iv 154)) 155 (pz_up (pz_up (pz_up (pz_up (pz_up (iv 155) (212 + (4 * ((iv 155) 2))).toNat f) ((212 + (4 * ((iv 155) 2))) + 1).toNat t) ((212 + (4 * ((iv 155) 2))) + 2).toNat l) ((212 + (4 * ((iv 155) 2))) + 3).toNat g) 2 (((iv 155) 2) + 1))) is_155 ln_155 ⟨by omega, by omega⟩ (by exact pz_u2_top _ _ _ _ _) ?_
                                               refine w_loc rfl ?_
                                               refine w_loc rfl ?_
                                               refine w_getR (q := 155) is_154 rf_154_1 ?_
                                               refine w_pure rfl ?_
                                               refine w_iald (v := ((iv 155) 2) + 1) is_155 ln_155 ⟨by omega, by omega⟩ rfl ?_
                                               refine w_pure rfl ?_
                                               refine w_isub (by omega) ?_
                                               have hc21 : pz_R (pz_Sh L) 192 [.inr (.inl 154), .inl ((((iv 155) 2) + 1) - 1)] (pz_u1 (pz_u1 iv 154 (iv 154)) 155 (pz_up (pz_up (pz_up (pz_up (pz_up (iv 155) (212 + (4 * ((iv 155) 2))).toNat f) ((212 + (4 * ((iv 155) 2))) + 1).toNat t) ((212 + (4 * ((iv 155) 2))) + 2).toNat l) ((212 + (4 * ((iv 155) 2))) + 3).toNat g) 2 (((iv 155) 2) + 1))) (.inl (some (.inl ((((iv 155) 2) + 1) - 1)))) (pz_u1 (pz_u1 iv 154 (pz_up (iv 154) 0 0)) 155 (pz_up (pz_up (pz_up (pz_up (pz_up (iv 155) (212 + (4 * ((iv 155) 2))).toNat f) ((212 + (4 * ((iv 155) 2))) + 1).toNat t) ((212 + (4 * ((iv 155) 2))) + 2).toNat l) ((212 + (4 * ((iv 155) 2))) + 3).toNat g) 2 (((iv 155) 2) + 1))) := pz_R_mem (s_X11_tells ((((iv 155) 2) + 1) - 1)) (by rw [pz_u1_in (r := 154) (q := 155) (by decide)]; rw [pz_u1_top (r := 154)]; rfl)
                                               refine w_call hc21 rfl (pz_cokI is_154 rfl) ?_
                                               refine w_ret rfl ?_
                                               first | exact lf_i (by first | rfl | omega) rfl | (exfalso; omega))
                                          · first
                                            | (exfalso; first | omega | contradiction)
                                            | (refine w_nil ?_
                                               refine pz_G_of pz_b212_94 ?_
                                               refine w_loc rfl ?_
                                               refine w_pure rfl ?_
                                               have hc22 : pz_R (pz_Sh L) 191 [.inr (.inl 154), .inl 3] (pz_u1 (pz_u1 iv 154 (iv 154)) 155 (iv 155)) (.inl (some (.inl 0))) (pz_u1 (pz_u1 iv 154 (pz_up (iv 154) 0 3)) 155 (iv 155)) := pz_R_mem (s_X11_fails 3) (by rw [pz_u1_in (r := 154) (q := 155) (by decide)]; rw [pz_u1_top (r := 154)]; rfl)
                                               refine w_call hc22 rfl (pz_cokI is_154 rfl) ?_
                                               refine w_ret rfl ?_
                                               first | exact lf_i (by first | rfl | omega) rfl | (exfalso; omega)))
                                     · first
                                       | (exfalso; first | omega | contradiction)
                                       | (refine w_loc rfl ?_
                                          refine w_loc rfl ?_
                                          have hc23 : pz_R (pz_Sh L) 196 [.inr (.inl 154), .inl f] (pz_u1 (pz_u1 iv 154 (iv 154)) 155 (iv 155)) (.inl (some (.inl (pz_bi (q_sta (iv 155) f))))) (pz_u1 (pz_u1 iv 154 (iv 154)) 155 (iv 155)) := s_X11_hasStarted f (by show 0 ≤ f ∧ f ≤ 9; omega)
                                          refine w_call hc23 rfl (pz_cokI is_154 rfl) ?_
                                          refine w_bne (fun h24 => ?_) (fun h24 => ?_)
                                          · first
                                            | (exfalso; first | omega | contradiction)
                                            | (refine pz_G_of pz_b212_94 ?_
                                               refine w_loc rfl ?_
                                               refine w_pure rfl ?_
                                               have hc25 : pz_R (pz_Sh L) 191 [.inr (.inl 154), .inl 3] (pz_u1 (pz_u1 iv 154 (iv 154)) 155 (iv 155)) (.inl (some (.inl 0))) (pz_u1 (pz_u1 iv 154 (pz_up (iv 154) 0 3)) 155 (iv 155)) := pz_R_mem (s_X11_fails 3) (by rw [pz_u1_in (r := 154) (q := 155) (by decide)]; rw [pz_u1_top (r := 154)]; rfl)
                                               refine w_call hc25 rfl (pz_cokI is_154 rfl) ?_
                                               refine w_ret rfl ?_
                                               first | exact lf_i (by first | rfl | omega) rfl | (exfalso; omega))
                                          · first
                                            | (exfalso; first | omega | contradiction)
                                            | (refine w_nil ?_
                                               refine pz_G_of pz_b212_86 ?_
                                               refine w_loc rfl ?_
                                               refine w_loc rfl ?_
                                               have hc26 : pz_R (pz_Sh L) 196 [.inr (.inl 154), .inl t] (pz_u1 (pz_u1 iv 154 (iv 154)) 155 (iv 155)) (.inl (some (.inl (pz_bi (q_sta (iv 155) t))))) (pz_u1 (pz_u1 iv 154 (iv 154)) 155 (iv 155)) := s_X11_hasStarted t (by show 0 ≤ t ∧ t ≤ 9; omega)
                                               refine w_call hc26 rfl (pz_cokI is_154 rfl) ?_
                                               refine w_beq (fun h27 => ?_) (fun h27 => ?_)
                                               · first
                                                 | (exfalso; first | omega | contradiction)
                                                 | (refine pz_G_of pz_b212_100 ?_
                                                    refine w_pure rfl ?_
                                                    refine w_pure rfl ?_
                                                    refine w_loc rfl ?_
                                                    refine w_getR (q := 155) is_154 rf_154_1 ?_
                                                    refine w_pure rfl ?_
                                                    refine w_iald (v := (iv 155) 2) is_155 ln_155 ⟨by omega, by omega⟩ rfl ?_
                                                    refine w_imul (by omega) ?_
                                                    refine w_iadd (by omega) ?_
                                                    refine w_loc (ls' := [some (.inr (.inl 154)), some (.inl f), some (.inl t), some (.inl l), some (.inl g), some (.inl (212 + (4 * ((iv 155) 2))))]) (st' := []) rfl ?_
                                                    refine w_loc rfl ?_
                                                    refine w_getR (q := 155) is_154 rf_154_1 ?_
                                                    refine w_loc rfl ?_
                                                    refine w_loc rfl ?_
                                                    refine w_iastm (iv2 := pz_u1 (pz_u1 iv 154 (iv 154)) 155 (pz_up (iv 155) (212 + (4 * ((iv 155) 2))).toNat f)) is_155 ln_155 ⟨by omega, by omega⟩ (by exact pz_u2_top _ _ _ _ _) ?_
                                                    refine w_loc rfl ?_
                                                    refine w_getR (q := 155) is_154 rf_154_1 ?_
                                                    refine w_loc rfl ?_
                                                    refine w_pure rfl ?_
                                                    refine w_iadd (by omega) ?_
                                                    refine w_loc rfl ?_
                                                    refine w_iastm (iv2 := pz_u1 (pz_u1 iv 154 (iv 154)) 155 (pz_up (pz_up (iv 155) (212 + (4 * ((iv 155) 2))).toNat f) ((212 + (4 * ((iv 155) 2))) + 1).toNat t)) is_155 ln_155 ⟨by omega, by omega⟩ (by exact pz_u2_top _ _ _ _ _) ?_
                                                    refine w_loc rfl ?_
                                                    refine w_getR (q := 155) is_154 rf_154_1 ?_
                                                    refine w_loc rfl ?_
                                                    refine w_pure rfl ?_
                                                    refine w_iadd (by omega) ?_
                                                    refine w_loc rfl ?_
                                                    refine w_iastm (iv2 := pz_u1 (pz_u1 iv 154 (iv 154)) 155 (pz_up (pz_up (pz_up (iv 155) (212 + (4 * ((iv 155) 2))).toNat f) ((212 + (4 * ((iv 155) 2))) + 1).toNat t) ((212 + (4 * ((iv 155) 2))) + 2).toNat l)) is_155 ln_155 ⟨by omega, by omega⟩ (by exact pz_u2_top _ _ _ _ _) ?_
                                                    refine w_loc rfl ?_
                                                    refine w_getR (q := 155) is_154 rf_154_1 ?_
                                                    refine w_loc rfl ?_
                                                    refine w_pure rfl ?_
                                                    refine w_iadd (by omega) ?_
                                                    refine w_loc rfl ?_
                                                    refine w_iastm (iv2 := pz_u1 (pz_u1 iv 154 (iv 154)) 155 (pz_up (pz_up (pz_up (pz_up (iv 155) (212 + (4 * ((iv 155) 2))).toNat f) ((212 + (4 * ((iv 155) 2))) + 1).toNat t) ((212 + (4 * ((iv 155) 2))) + 2).toNat l) ((212 + (4 * ((iv 155) 2))) + 3).toNat g)) is_155 ln_155 ⟨by omega, by omega⟩ (by exact pz_u2_top _ _ _ _ _) ?_
                                                    refine w_loc rfl ?_
                                                    refine w_getR (q := 155) is_154 rf_154_1 ?_
                                                    refine w_pure rfl ?_
                                                    refine w_pure rfl ?_
                                                    refine w_iald (v := (iv 155) 2) is_155 ln_155 ⟨by omega, by omega⟩ (by show (pz_up (pz_up (pz_up (pz_up (iv 155) (212 + (4 * ((iv 155) 2))).toNat f) ((212 + (4 * ((iv 155) 2))) + 1).toNat t) ((212 + (4 * ((iv 155) 2))) + 2).toNat l) ((212 + (4 * ((iv 155) 2))) + 3).toNat g) 2 = _; rw [pz_up_ne (by omega), pz_up_ne (by omega), pz_up_ne (by omega), pz_up_ne (by omega)]) ?_
                                                    refine w_pure rfl ?_
                                                    refine w_iadd (by omega) ?_
                                                    refine w_iastm (iv2 := pz_u1 (pz_u1 iv 154 (iv 154)) 155 (pz_up (pz_up (pz_up (pz_up (pz_up (iv 155) (212 + (4 * ((iv 155) 2))).toNat f) ((212 + (4 * ((iv 155) 2))) + 1).toNat t) ((212 + (4 * ((iv 155) 2))) + 2).toNat l) ((212 + (4 * ((iv 155) 2))) + 3).toNat g) 2 (((iv 155) 2) + 1))) is_155 ln_155 ⟨by omega, by omega⟩ (by exact pz_u2_top _ _ _ _ _) ?_
                                                    refine w_loc rfl ?_
                                                    refine w_loc rfl ?_
                                                    refine w_getR (q := 155) is_154 rf_154_1 ?_
                                                    refine w_pure rfl ?_
                                                    refine w_iald (v := ((iv 155) 2) + 1) is_155 ln_155 ⟨by omega, by omega⟩ rfl ?_
                                                    refine w_pure rfl ?_
                                                    refine w_isub (by omega) ?_
                                                    have hc28 : pz_R (pz_Sh L) 192 [.inr (.inl 154), .inl ((((iv 155) 2) + 1) - 1)] (pz_u1 (pz_u1 iv 154 (iv 154)) 155 (pz_up (pz_up (pz_up (pz_up (pz_up (iv 155) (212 + (4 * ((iv 155) 2))).toNat f) ((212 + (4 * ((iv 155) 2))) + 1).toNat t) ((212 + (4 * ((iv 155) 2))) + 2).toNat l) ((212 + (4 * ((iv 155) 2))) + 3).toNat g) 2 (((iv 155) 2) + 1))) (.inl (some (.inl ((((iv 155) 2) + 1) - 1)))) (pz_u1 (pz_u1 iv 154 (pz_up (iv 154) 0 0)) 155 (pz_up (pz_up (pz_up (pz_up (pz_up (iv 155) (212 + (4 * ((iv 155) 2))).toNat f) ((212 + (4 * ((iv 155) 2))) + 1).toNat t) ((212 + (4 * ((iv 155) 2))) + 2).toNat l) ((212 + (4 * ((iv 155) 2))) + 3).toNat g) 2 (((iv 155) 2) + 1))) := pz_R_mem (s_X11_tells ((((iv 155) 2) + 1) - 1)) (by rw [pz_u1_in (r := 154) (q := 155) (by decide)]; rw [pz_u1_top (r := 154)]; rfl)
                                                    refine w_call hc28 rfl (pz_cokI is_154 rfl) ?_
                                                    refine w_ret rfl ?_
                                                    first | exact lf_i (by first | rfl | omega) rfl | (exfalso; omega))
                                               · first
                                                 | (exfalso; first | omega | contradiction)
                                                 | (refine w_nil ?_
                                                    refine pz_G_of pz_b212_94 ?_
                                                    refine w_loc rfl ?_
                                                    refine w_pure rfl ?_
                                                    have hc29 : pz_R (pz_Sh L) 191 [.inr (.inl 154), .inl 3] (pz_u1 (pz_u1 iv 154 (iv 154)) 155 (iv 155)) (.inl (some (.inl 0))) (pz_u1 (pz_u1 iv 154 (pz_up (iv 154) 0 3)) 155 (iv 155)) := pz_R_mem (s_X11_fails 3) (by rw [pz_u1_in (r := 154) (q := 155) (by decide)]; rw [pz_u1_top (r := 154)]; rfl)
                                                    refine w_call hc29 rfl (pz_cokI is_154 rfl) ?_
                                                    refine w_ret rfl ?_
                                                    first | exact lf_i (by first | rfl | omega) rfl | (exfalso; omega)))))))
                      · first
                        | (exfalso; first | omega | contradiction)
                        | (refine w_nil ?_
                           refine pz_G_of pz_b212_50 ?_
                           refine w_loc rfl ?_
                           refine w_pure rfl ?_
                           have hc30 : pz_R (pz_Sh L) 191 [.inr (.inl 154), .inl 2] (pz_u1 (pz_u1 iv 154 (iv 154)) 155 (iv 155)) (.inl (some (.inl 0))) (pz_u1 (pz_u1 iv 154 (pz_up (iv 154) 0 2)) 155 (iv 155)) := pz_R_mem (s_X11_fails 2) (by rw [pz_u1_in (r := 154) (q := 155) (by decide)]; rw [pz_u1_top (r := 154)]; rfl)
                           refine w_call hc30 rfl (pz_cokI is_154 rfl) ?_
                           refine w_ret rfl ?_
                           first | exact lf_i (by first | rfl | omega) rfl | (exfalso; omega)))))
       · first
         | (exfalso; first | omega | contradiction)
         | (refine w_nil ?_
            refine pz_G_of pz_b212_16 ?_
            refine w_loc rfl ?_
            refine w_pure rfl ?_
            have hc31 : pz_R (pz_Sh L) 191 [.inr (.inl 154), .inl 1] (pz_u1 (pz_u1 iv 154 (iv 154)) 155 (iv 155)) (.inl (some (.inl 0))) (pz_u1 (pz_u1 iv 154 (pz_up (iv 154) 0 1)) 155 (iv 155)) := pz_R_mem (s_X11_fails 1) (by rw [pz_u1_in (r := 154) (q := 155) (by decide)]; rw [pz_u1_top (r := 154)]; rfl)
            refine w_call hc31 rfl (pz_cokI is_154 rfl) ?_
            refine w_ret rfl ?_
            first | exact lf_i (by first | rfl | omega) rfl | (exfalso; omega)))

theorem s_X11_addSpan_2 {L : Nat} {iv : Nat → Nat → Int} (f : Int) (t : Int) (l : Int) (g : Int) (hk : q_KR (iv 155)) (hcase0 : 0 ≤ f ∧ f ≤ iv 155 0 - 1 ∧ 0 ≤ t ∧ t ≤ iv 155 0 - 1) (hcase1 : ¬ (f < t ∧ 1 ≤ l ∧ l ≤ 200 ∧ l ≤ g ∧ g ≤ 200)) : pz_R (pz_Sh L) 212 [.inr (.inl 154), .inl f, .inl t, .inl l, .inl g] iv (.inl (some (.inl 0))) (pz_u1 (pz_u1 iv 154 (pz_up (iv 154) 0 2)) 155 (iv 155)) := by
  intro dv cc ss
  have hk0 := hk.r0
  refine pz_G_mem (iv2 := pz_u1 (pz_u1 iv 154 (iv 154)) 155 (iv 155)) (by exact ((pz_u1_self iv 154).symm).trans (pz_u1_self (pz_u1 iv 154 (iv 154)) 155).symm) ?_
  show pz_G 212 0 [some (.inr (.inl 154)), some (.inl f), some (.inl t), some (.inl l), some (.inl g), none] [] (pz_Sh L, pz_u1 (pz_u1 iv 154 (iv 154)) 155 (iv 155), dv, cc, ss) (pz_P (pz_Sh L) (.inl (some (.inl 0))) (pz_u1 (pz_u1 iv 154 (pz_up (iv 154) 0 2)) 155 (iv 155)) dv cc ss)
  refine pz_G_of pz_b212_0 ?_
  refine w_loc rfl ?_
  refine w_loc rfl ?_
  have hc1 : pz_R (pz_Sh L) 194 [.inr (.inl 154), .inl f] (pz_u1 (pz_u1 iv 154 (iv 154)) 155 (iv 155)) (.inl (some (.inl (pz_bi (0 ≤ f ∧ f ≤ (iv 155) 0 - 1))))) (pz_u1 (pz_u1 iv 154 (iv 154)) 155 (iv 155)) := s_X11_isEvent f (by show q_KR (iv 155); exact hk)
  refine w_call hc1 rfl (pz_cokI is_154 rfl) ?_
  refine w_beq (fun h2 => ?_) (fun h2 => ?_)
  · first
    | (exfalso; first | omega | contradiction)
    | (refine pz_G_of pz_b212_16 ?_
       refine w_loc rfl ?_
       refine w_pure rfl ?_
       have hc3 : pz_R (pz_Sh L) 191 [.inr (.inl 154), .inl 1] (pz_u1 (pz_u1 iv 154 (iv 154)) 155 (iv 155)) (.inl (some (.inl 0))) (pz_u1 (pz_u1 iv 154 (pz_up (iv 154) 0 1)) 155 (iv 155)) := pz_R_mem (s_X11_fails 1) (by rw [pz_u1_in (r := 154) (q := 155) (by decide)]; rw [pz_u1_top (r := 154)]; rfl)
       refine w_call hc3 rfl (pz_cokI is_154 rfl) ?_
       refine w_ret rfl ?_
       first | exact lf_i (by first | rfl | omega) rfl | (exfalso; omega))
  · first
    | (exfalso; first | omega | contradiction)
    | (refine w_loc rfl ?_
       refine w_loc rfl ?_
       have hc4 : pz_R (pz_Sh L) 194 [.inr (.inl 154), .inl t] (pz_u1 (pz_u1 iv 154 (iv 154)) 155 (iv 155)) (.inl (some (.inl (pz_bi (0 ≤ t ∧ t ≤ (iv 155) 0 - 1))))) (pz_u1 (pz_u1 iv 154 (iv 154)) 155 (iv 155)) := s_X11_isEvent t (by show q_KR (iv 155); exact hk)
       refine w_call hc4 rfl (pz_cokI is_154 rfl) ?_
       refine w_bne (fun h5 => ?_) (fun h5 => ?_)
       · first
         | (exfalso; first | omega | contradiction)
         | (refine pz_G_of pz_b212_22 ?_
            refine w_loc rfl ?_
            refine w_loc rfl ?_
            refine w_ile (fun h6 => ?_) (fun h6 => ?_)
            · first
              | (exfalso; first | omega | contradiction)
              | (refine pz_G_of pz_b212_50 ?_
                 refine w_loc rfl ?_
                 refine w_pure rfl ?_
                 have hc7 : pz_R (pz_Sh L) 191 [.inr (.inl 154), .inl 2] (pz_u1 (pz_u1 iv 154 (iv 154)) 155 (iv 155)) (.inl (some (.inl 0))) (pz_u1 (pz_u1 iv 154 (pz_up (iv 154) 0 2)) 155 (iv 155)) := pz_R_mem (s_X11_fails 2) (by rw [pz_u1_in (r := 154) (q := 155) (by decide)]; rw [pz_u1_top (r := 154)]; rfl)
                 refine w_call hc7 rfl (pz_cokI is_154 rfl) ?_
                 refine w_ret rfl ?_
                 first | exact lf_i (by first | rfl | omega) rfl | (exfalso; omega))
            · first
              | (exfalso; first | omega | contradiction)
              | (refine w_loc rfl ?_
                 refine w_pure rfl ?_
                 refine w_pure rfl ?_
                 have hc8 : pz_R (pz_Sh L) 190 [.inl l, .inl 1, .inl 200] (pz_u1 (pz_u1 iv 154 (iv 154)) 155 (iv 155)) (.inl (some (.inl (pz_bi (1 ≤ l ∧ l ≤ 200))))) (pz_u1 (pz_u1 iv 154 (iv 154)) 155 (iv 155)) := s_X11_in l 1 200
                 refine w_call hc8 rfl rfl ?_
                 refine w_beq (fun h9 => ?_) (fun h9 => ?_)
                 · first
                   | (exfalso; first | omega | contradiction)
                   | (refine pz_G_of pz_b212_50 ?_
                      refine w_loc rfl ?_
                      refine w_pure rfl ?_
                      have hc10 : pz_R (pz_Sh L) 191 [.inr (.inl 154), .inl 2] (pz_u1 (pz_u1 iv 154 (iv 154)) 155 (iv 155)) (.inl (some (.inl 0))) (pz_u1 (pz_u1 iv 154 (pz_up (iv 154) 0 2)) 155 (iv 155)) := pz_R_mem (s_X11_fails 2) (by rw [pz_u1_in (r := 154) (q := 155) (by decide)]; rw [pz_u1_top (r := 154)]; rfl)
                      refine w_call hc10 rfl (pz_cokI is_154 rfl) ?_
                      refine w_ret rfl ?_
                      first | exact lf_i (by first | rfl | omega) rfl | (exfalso; omega))
                 · first
                   | (exfalso; first | omega | contradiction)
                   | (refine w_loc rfl ?_
                      refine w_loc rfl ?_
                      refine w_pure rfl ?_
                      have hc11 : pz_R (pz_Sh L) 190 [.inl g, .inl l, .inl 200] (pz_u1 (pz_u1 iv 154 (iv 154)) 155 (iv 155)) (.inl (some (.inl (pz_bi (l ≤ g ∧ g ≤ 200))))) (pz_u1 (pz_u1 iv 154 (iv 154)) 155 (iv 155)) := s_X11_in g l 200
                      refine w_call hc11 rfl rfl ?_
                      refine w_bne (fun h12 => ?_) (fun h12 => ?_)
                      · first
                        | (exfalso; first | omega | contradiction)
                        | (refine pz_G_of pz_b212_56 ?_
                           refine w_loc rfl ?_
                           refine w_getR (q := 155) is_154 rf_154_1 ?_
                           refine w_pure rfl ?_
                           refine w_iald (v := (iv 155) 2) is_155 ln_155 ⟨by omega, by omega⟩ rfl ?_
                           refine w_pure rfl ?_
                           refine w_ieq (fun h13 => ?_) (fun h13 => ?_)
                           · first
                             | (exfalso; first | omega | contradiction)
                             | (refine pz_G_of pz_b212_94 ?_
                                refine w_loc rfl ?_
                                refine w_pure rfl ?_
                                have hc14 : pz_R (pz_Sh L) 191 [.inr (.inl 154), .inl 3] (pz_u1 (pz_u1 iv 154 (iv 154)) 155 (iv 155)) (.inl (some (.inl 0))) (pz_u1 (pz_u1 iv 154 (pz_up (iv 154) 0 3)) 155 (iv 155)) := pz_R_mem (s_X11_fails 3) (by rw [pz_u1_in (r := 154) (q := 155) (by decide)]; rw [pz_u1_top (r := 154)]; rfl)
                                refine w_call hc14 rfl (pz_cokI is_154 rfl) ?_
                                refine w_ret rfl ?_
                                first | exact lf_i (by first | rfl | omega) rfl | (exfalso; omega))
                           · first
                             | (exfalso; first | omega | contradiction)
                             | (refine w_loc rfl ?_
                                refine w_loc rfl ?_
                                have hc15 : pz_R (pz_Sh L) 211 [.inr (.inl 154), .inl t] (pz_u1 (pz_u1 iv 154 (iv 154)) 155 (iv 155)) (.inl (some (.inl (pz_bi (q_exi (fun s => (iv 155) (212 + 4 * s + 1).toNat = t) ((iv 155) 2)))))) (pz_u1 (pz_u1 iv 154 (iv 154)) 155 (iv 155)) := s_X11_isEnd t (by show q_KR (iv 155); exact hk)
                                refine w_call hc15 rfl (pz_cokI is_154 rfl) ?_
                                refine w_bne (fun h16 => ?_) (fun h16 => ?_)
                                · first
                                  | (exfalso; first | omega | contradiction)
                                  | (refine pz_G_of pz_b212_94 ?_
                                     refine w_loc rfl ?_
                                     refine w_pure rfl ?_
                                     have hc17 : pz_R (pz_Sh L) 191 [.inr (.inl 154), .inl 3] (pz_u1 (pz_u1 iv 154 (iv 154)) 155 (iv 155)) (.inl (some (.inl 0))) (pz_u1 (pz_u1 iv 154 (pz_up (iv 154) 0 3)) 155 (iv 155)) := pz_R_mem (s_X11_fails 3) (by rw [pz_u1_in (r := 154) (q := 155) (by decide)]; rw [pz_u1_top (r := 154)]; rfl)
                                     refine w_call hc17 rfl (pz_cokI is_154 rfl) ?_
                                     refine w_ret rfl ?_
                                     first | exact lf_i (by first | rfl | omega) rfl | (exfalso; omega))
                                · first
                                  | (exfalso; first | omega | contradiction)
                                  | (refine w_loc rfl ?_
                                     refine w_zle (fun h18 => ?_) (fun h18 => ?_)
                                     · first
                                       | (exfalso; first | omega | contradiction)
                                       | (refine pz_G_of pz_b212_86 ?_
                                          refine w_loc rfl ?_
                                          refine w_loc rfl ?_
                                          have hc19 : pz_R (pz_Sh L) 196 [.inr (.inl 154), .inl t] (pz_u1 (pz_u1 iv 154 (iv 154)) 155 (iv 155)) (.inl (some (.inl (pz_bi (q_sta (iv 155) t))))) (pz_u1 (pz_u1 iv 154 (iv 154)) 155 (iv 155)) := s_X11_hasStarted t (by show 0 ≤ t ∧ t ≤ 9; omega)
                                          refine w_call hc19 rfl (pz_cokI is_154 rfl) ?_
                                          refine w_beq (fun h20 => ?_) (fun h20 => ?_)
                                          · first
                                            | (exfalso; first | omega | contradiction)
                                            | (refine pz_G_of pz_b212_100 ?_
                                               refine w_pure rfl ?_
                                               refine w_pure rfl ?_
                                               refine w_loc rfl ?_
                                               refine w_getR (q := 155) is_154 rf_154_1 ?_
                                               refine w_pure rfl ?_
                                               refine w_iald (v := (iv 155) 2) is_155 ln_155 ⟨by omega, by omega⟩ rfl ?_
                                               refine w_imul (by omega) ?_
                                               refine w_iadd (by omega) ?_
                                               refine w_loc (ls' := [some (.inr (.inl 154)), some (.inl f), some (.inl t), some (.inl l), some (.inl g), some (.inl (212 + (4 * ((iv 155) 2))))]) (st' := []) rfl ?_
                                               refine w_loc rfl ?_
                                               refine w_getR (q := 155) is_154 rf_154_1 ?_
                                               refine w_loc rfl ?_
                                               refine w_loc rfl ?_
                                               refine w_iastm (iv2 := pz_u1 (pz_u1 iv 154 (iv 154)) 155 (pz_up (iv 155) (212 + (4 * ((iv 155) 2))).toNat f)) is_155 ln_155 ⟨by omega, by omega⟩ (by exact pz_u2_top _ _ _ _ _) ?_
                                               refine w_loc rfl ?_
                                               refine w_getR (q := 155) is_154 rf_154_1 ?_
                                               refine w_loc rfl ?_
                                               refine w_pure rfl ?_
                                               refine w_iadd (by omega) ?_
                                               refine w_loc rfl ?_
                                               refine w_iastm (iv2 := pz_u1 (pz_u1 iv 154 (iv 154)) 155 (pz_up (pz_up (iv 155) (212 + (4 * ((iv 155) 2))).toNat f) ((212 + (4 * ((iv 155) 2))) + 1).toNat t)) is_155 ln_155 ⟨by omega, by omega⟩ (by exact pz_u2_top _ _ _ _ _) ?_
                                               refine w_loc rfl ?_
                                               refine w_getR (q := 155) is_154 rf_154_1 ?_
                                               refine w_loc rfl ?_
                                               refine w_pure rfl ?_
                                               refine w_iadd (by omega) ?_
                                               refine w_loc rfl ?_
                                               refine w_iastm (iv2 := pz_u1 (pz_u1 iv 154 (iv 154)) 155 (pz_up (pz_up (pz_up (iv 155) (212 + (4 * ((iv 155) 2))).toNat f) ((212 + (4 * ((iv 155) 2))) + 1).toNat t) ((212 + (4 * ((iv 155) 2))) + 2).toNat l)) is_155 ln_155 ⟨by omega, by omega⟩ (by exact pz_u2_top _ _ _ _ _) ?_
                                               refine w_loc rfl ?_
                                               refine w_getR (q := 155) is_154 rf_154_1 ?_
                                               refine w_loc rfl ?_
                                               refine w_pure rfl ?_
                                               refine w_iadd (by omega) ?_
                                               refine w_loc rfl ?_
                                               refine w_iastm (iv2 := pz_u1 (pz_u1 iv 154 (iv 154)) 155 (pz_up (pz_up (pz_up (pz_up (iv 155) (212 + (4 * ((iv 155) 2))).toNat f) ((212 + (4 * ((iv 155) 2))) + 1).toNat t) ((212 + (4 * ((iv 155) 2))) + 2).toNat l) ((212 + (4 * ((iv 155) 2))) + 3).toNat g)) is_155 ln_155 ⟨by omega, by omega⟩ (by exact pz_u2_top _ _ _ _ _) ?_
                                               refine w_loc rfl ?_
                                               refine w_getR (q := 155) is_154 rf_154_1 ?_
                                               refine w_pure rfl ?_
                                               refine w_pure rfl ?_
                                               refine w_iald (v := (iv 155) 2) is_155 ln_155 ⟨by omega, by omega⟩ (by show (pz_up (pz_up (pz_up (pz_up (iv 155) (212 + (4 * ((iv 155) 2))).toNat f) ((212 + (4 * ((iv 155) 2))) + 1).toNat t) ((212 + (4 * ((iv 155) 2))) + 2).toNat l) ((212 + (4 * ((iv 155) 2))) + 3).toNat g) 2 = _; rw [pz_up_ne (by omega), pz_up_ne (by omega), pz_up_ne (by omega), pz_up_ne (by omega)]) ?_
                                               refine w_pure rfl ?_
                                               refine w_iadd (by omega) ?_
                                               refine w_iastm (iv2 := pz_u1 (pz_u1 iv 154 (iv 154)) 155 (pz_up (pz_up (pz_up (pz_up (pz_up (iv 155) (212 + (4 * ((iv 155) 2))).toNat f) ((212 + (4 * ((iv 155) 2))) + 1).toNat t) ((212 + (4 * ((iv 155) 2))) + 2).toNat l) ((212 + (4 * ((iv 155) 2))) + 3).toNat g) 2 (((iv 155) 2) + 1))) is_155 ln_155 ⟨by omega, by omega⟩ (by exact pz_u2_top _ _ _ _ _) ?_
                                               refine w_loc rfl ?_
                                               refine w_loc rfl ?_
                                               refine w_getR (q := 155) is_154 rf_154_1 ?_
                                               refine w_pure rfl ?_
                                               refine w_iald (v := ((iv 155) 2) + 1) is_155 ln_155 ⟨by omega, by omega⟩ rfl ?_
                                               refine w_pure rfl ?_
                                               refine w_isub (by omega) ?_
                                               have hc21 : pz_R (pz_Sh L) 192 [.inr (.inl 154), .inl ((((iv 155) 2) + 1) - 1)] (pz_u1 (pz_u1 iv 154 (iv 154)) 155 (pz_up (pz_up (pz_up (pz_up (pz_up (iv 155) (212 + (4 * ((iv 155) 2))).toNat f) ((212 + (4 * ((iv 155) 2))) + 1).toNat t) ((212 + (4 * ((iv 155) 2))) + 2).toNat l) ((212 + (4 * ((iv 155) 2))) + 3).toNat g) 2 (((iv 155) 2) + 1))) (.inl (some (.inl ((((iv 155) 2) + 1) - 1)))) (pz_u1 (pz_u1 iv 154 (pz_up (iv 154) 0 0)) 155 (pz_up (pz_up (pz_up (pz_up (pz_up (iv 155) (212 + (4 * ((iv 155) 2))).toNat f) ((212 + (4 * ((iv 155) 2))) + 1).toNat t) ((212 + (4 * ((iv 155) 2))) + 2).toNat l) ((212 + (4 * ((iv 155) 2))) + 3).toNat g) 2 (((iv 155) 2) + 1))) := pz_R_mem (s_X11_tells ((((iv 155) 2) + 1) - 1)) (by rw [pz_u1_in (r := 154) (q := 155) (by decide)]; rw [pz_u1_top (r := 154)]; rfl)
                                               refine w_call hc21 rfl (pz_cokI is_154 rfl) ?_
                                               refine w_ret rfl ?_
                                               first | exact lf_i (by first | rfl | omega) rfl | (exfalso; omega))
                                          · first
                                            | (exfalso; first | omega | contradiction)
                                            | (refine w_nil ?_
                                               refine pz_G_of pz_b212_94 ?_
                                               refine w_loc rfl ?_
                                               refine w_pure rfl ?_
                                               have hc22 : pz_R (pz_Sh L) 191 [.inr (.inl 154), .inl 3] (pz_u1 (pz_u1 iv 154 (iv 154)) 155 (iv 155)) (.inl (some (.inl 0))) (pz_u1 (pz_u1 iv 154 (pz_up (iv 154) 0 3)) 155 (iv 155)) := pz_R_mem (s_X11_fails 3) (by rw [pz_u1_in (r := 154) (q := 155) (by decide)]; rw [pz_u1_top (r := 154)]; rfl)
                                               refine w_call hc22 rfl (pz_cokI is_154 rfl) ?_
                                               refine w_ret rfl ?_
                                               first | exact lf_i (by first | rfl | omega) rfl | (exfalso; omega)))
                                     · first
                                       | (exfalso; first | omega | contradiction)
                                       | (refine w_loc rfl ?_
                                          refine w_loc rfl ?_
                                          have hc23 : pz_R (pz_Sh L) 196 [.inr (.inl 154), .inl f] (pz_u1 (pz_u1 iv 154 (iv 154)) 155 (iv 155)) (.inl (some (.inl (pz_bi (q_sta (iv 155) f))))) (pz_u1 (pz_u1 iv 154 (iv 154)) 155 (iv 155)) := s_X11_hasStarted f (by show 0 ≤ f ∧ f ≤ 9; omega)
                                          refine w_call hc23 rfl (pz_cokI is_154 rfl) ?_
                                          refine w_bne (fun h24 => ?_) (fun h24 => ?_)
                                          · first
                                            | (exfalso; first | omega | contradiction)
                                            | (refine pz_G_of pz_b212_94 ?_
                                               refine w_loc rfl ?_
                                               refine w_pure rfl ?_
                                               have hc25 : pz_R (pz_Sh L) 191 [.inr (.inl 154), .inl 3] (pz_u1 (pz_u1 iv 154 (iv 154)) 155 (iv 155)) (.inl (some (.inl 0))) (pz_u1 (pz_u1 iv 154 (pz_up (iv 154) 0 3)) 155 (iv 155)) := pz_R_mem (s_X11_fails 3) (by rw [pz_u1_in (r := 154) (q := 155) (by decide)]; rw [pz_u1_top (r := 154)]; rfl)
                                               refine w_call hc25 rfl (pz_cokI is_154 rfl) ?_
                                               refine w_ret rfl ?_
                                               first | exact lf_i (by first | rfl | omega) rfl | (exfalso; omega))
                                          · first
                                            | (exfalso; first | omega | contradiction)
                                            | (refine w_nil ?_
                                               refine pz_G_of pz_b212_86 ?_
                                               refine w_loc rfl ?_
                                               refine w_loc rfl ?_
                                               have hc26 : pz_R (pz_Sh L) 196 [.inr (.inl 154), .inl t] (pz_u1 (pz_u1 iv 154 (iv 154)) 155 (iv 155)) (.inl (some (.inl (pz_bi (q_sta (iv 155) t))))) (pz_u1 (pz_u1 iv 154 (iv 154)) 155 (iv 155)) := s_X11_hasStarted t (by show 0 ≤ t ∧ t ≤ 9; omega)
                                               refine w_call hc26 rfl (pz_cokI is_154 rfl) ?_
                                               refine w_beq (fun h27 => ?_) (fun h27 => ?_)
                                               · first
                                                 | (exfalso; first | omega | contradiction)
                                                 | (refine pz_G_of pz_b212_100 ?_
                                                    refine w_pure rfl ?_
                                                    refine w_pure rfl ?_
                                                    refine w_loc rfl ?_
                                                    refine w_getR (q := 155) is_154 rf_154_1 ?_
                                                    refine w_pure rfl ?_
                                                    refine w_iald (v := (iv 155) 2) is_155 ln_155 ⟨by omega, by omega⟩ rfl ?_
                                                    refine w_imul (by omega) ?_
                                                    refine w_iadd (by omega) ?_
                                                    refine w_loc (ls' := [some (.inr (.inl 154)), some (.inl f), some (.inl t), some (.inl l), some (.inl g), some (.inl (212 + (4 * ((iv 155) 2))))]) (st' := []) rfl ?_
                                                    refine w_loc rfl ?_
                                                    refine w_getR (q := 155) is_154 rf_154_1 ?_
                                                    refine w_loc rfl ?_
                                                    refine w_loc rfl ?_
                                                    refine w_iastm (iv2 := pz_u1 (pz_u1 iv 154 (iv 154)) 155 (pz_up (iv 155) (212 + (4 * ((iv 155) 2))).toNat f)) is_155 ln_155 ⟨by omega, by omega⟩ (by exact pz_u2_top _ _ _ _ _) ?_
                                                    refine w_loc rfl ?_
                                                    refine w_getR (q := 155) is_154 rf_154_1 ?_
                                                    refine w_loc rfl ?_
                                                    refine w_pure rfl ?_
                                                    refine w_iadd (by omega) ?_
                                                    refine w_loc rfl ?_
                                                    refine w_iastm (iv2 := pz_u1 (pz_u1 iv 154 (iv 154)) 155 (pz_up (pz_up (iv 155) (212 + (4 * ((iv 155) 2))).toNat f) ((212 + (4 * ((iv 155) 2))) + 1).toNat t)) is_155 ln_155 ⟨by omega, by omega⟩ (by exact pz_u2_top _ _ _ _ _) ?_
                                                    refine w_loc rfl ?_
                                                    refine w_getR (q := 155) is_154 rf_154_1 ?_
                                                    refine w_loc rfl ?_
                                                    refine w_pure rfl ?_
                                                    refine w_iadd (by omega) ?_
                                                    refine w_loc rfl ?_
                                                    refine w_iastm (iv2 := pz_u1 (pz_u1 iv 154 (iv 154)) 155 (pz_up (pz_up (pz_up (iv 155) (212 + (4 * ((iv 155) 2))).toNat f) ((212 + (4 * ((iv 155) 2))) + 1).toNat t) ((212 + (4 * ((iv 155) 2))) + 2).toNat l)) is_155 ln_155 ⟨by omega, by omega⟩ (by exact pz_u2_top _ _ _ _ _) ?_
                                                    refine w_loc rfl ?_
                                                    refine w_getR (q := 155) is_154 rf_154_1 ?_
                                                    refine w_loc rfl ?_
                                                    refine w_pure rfl ?_
                                                    refine w_iadd (by omega) ?_
                                                    refine w_loc rfl ?_
                                                    refine w_iastm (iv2 := pz_u1 (pz_u1 iv 154 (iv 154)) 155 (pz_up (pz_up (pz_up (pz_up (iv 155) (212 + (4 * ((iv 155) 2))).toNat f) ((212 + (4 * ((iv 155) 2))) + 1).toNat t) ((212 + (4 * ((iv 155) 2))) + 2).toNat l) ((212 + (4 * ((iv 155) 2))) + 3).toNat g)) is_155 ln_155 ⟨by omega, by omega⟩ (by exact pz_u2_top _ _ _ _ _) ?_
                                                    refine w_loc rfl ?_
                                                    refine w_getR (q := 155) is_154 rf_154_1 ?_
                                                    refine w_pure rfl ?_
                                                    refine w_pure rfl ?_
                                                    refine w_iald (v := (iv 155) 2) is_155 ln_155 ⟨by omega, by omega⟩ (by show (pz_up (pz_up (pz_up (pz_up (iv 155) (212 + (4 * ((iv 155) 2))).toNat f) ((212 + (4 * ((iv 155) 2))) + 1).toNat t) ((212 + (4 * ((iv 155) 2))) + 2).toNat l) ((212 + (4 * ((iv 155) 2))) + 3).toNat g) 2 = _; rw [pz_up_ne (by omega), pz_up_ne (by omega), pz_up_ne (by omega), pz_up_ne (by omega)]) ?_
                                                    refine w_pure rfl ?_
                                                    refine w_iadd (by omega) ?_
                                                    refine w_iastm (iv2 := pz_u1 (pz_u1 iv 154 (iv 154)) 155 (pz_up (pz_up (pz_up (pz_up (pz_up (iv 155) (212 + (4 * ((iv 155) 2))).toNat f) ((212 + (4 * ((iv 155) 2))) + 1).toNat t) ((212 + (4 * ((iv 155) 2))) + 2).toNat l) ((212 + (4 * ((iv 155) 2))) + 3).toNat g) 2 (((iv 155) 2) + 1))) is_155 ln_155 ⟨by omega, by omega⟩ (by exact pz_u2_top _ _ _ _ _) ?_
                                                    refine w_loc rfl ?_
                                                    refine w_loc rfl ?_
                                                    refine w_getR (q := 155) is_154 rf_154_1 ?_
                                                    refine w_pure rfl ?_
                                                    refine w_iald (v := ((iv 155) 2) + 1) is_155 ln_155 ⟨by omega, by omega⟩ rfl ?_
                                                    refine w_pure rfl ?_
                                                    refine w_isub (by omega) ?_
                                                    have hc28 : pz_R (pz_Sh L) 192 [.inr (.inl 154), .inl ((((iv 155) 2) + 1) - 1)] (pz_u1 (pz_u1 iv 154 (iv 154)) 155 (pz_up (pz_up (pz_up (pz_up (pz_up (iv 155) (212 + (4 * ((iv 155) 2))).toNat f) ((212 + (4 * ((iv 155) 2))) + 1).toNat t) ((212 + (4 * ((iv 155) 2))) + 2).toNat l) ((212 + (4 * ((iv 155) 2))) + 3).toNat g) 2 (((iv 155) 2) + 1))) (.inl (some (.inl ((((iv 155) 2) + 1) - 1)))) (pz_u1 (pz_u1 iv 154 (pz_up (iv 154) 0 0)) 155 (pz_up (pz_up (pz_up (pz_up (pz_up (iv 155) (212 + (4 * ((iv 155) 2))).toNat f) ((212 + (4 * ((iv 155) 2))) + 1).toNat t) ((212 + (4 * ((iv 155) 2))) + 2).toNat l) ((212 + (4 * ((iv 155) 2))) + 3).toNat g) 2 (((iv 155) 2) + 1))) := pz_R_mem (s_X11_tells ((((iv 155) 2) + 1) - 1)) (by rw [pz_u1_in (r := 154) (q := 155) (by decide)]; rw [pz_u1_top (r := 154)]; rfl)
                                                    refine w_call hc28 rfl (pz_cokI is_154 rfl) ?_
                                                    refine w_ret rfl ?_
                                                    first | exact lf_i (by first | rfl | omega) rfl | (exfalso; omega))
                                               · first
                                                 | (exfalso; first | omega | contradiction)
                                                 | (refine w_nil ?_
                                                    refine pz_G_of pz_b212_94 ?_
                                                    refine w_loc rfl ?_
                                                    refine w_pure rfl ?_
                                                    have hc29 : pz_R (pz_Sh L) 191 [.inr (.inl 154), .inl 3] (pz_u1 (pz_u1 iv 154 (iv 154)) 155 (iv 155)) (.inl (some (.inl 0))) (pz_u1 (pz_u1 iv 154 (pz_up (iv 154) 0 3)) 155 (iv 155)) := pz_R_mem (s_X11_fails 3) (by rw [pz_u1_in (r := 154) (q := 155) (by decide)]; rw [pz_u1_top (r := 154)]; rfl)
                                                    refine w_call hc29 rfl (pz_cokI is_154 rfl) ?_
                                                    refine w_ret rfl ?_
                                                    first | exact lf_i (by first | rfl | omega) rfl | (exfalso; omega)))))))
                      · first
                        | (exfalso; first | omega | contradiction)
                        | (refine w_nil ?_
                           refine pz_G_of pz_b212_50 ?_
                           refine w_loc rfl ?_
                           refine w_pure rfl ?_
                           have hc30 : pz_R (pz_Sh L) 191 [.inr (.inl 154), .inl 2] (pz_u1 (pz_u1 iv 154 (iv 154)) 155 (iv 155)) (.inl (some (.inl 0))) (pz_u1 (pz_u1 iv 154 (pz_up (iv 154) 0 2)) 155 (iv 155)) := pz_R_mem (s_X11_fails 2) (by rw [pz_u1_in (r := 154) (q := 155) (by decide)]; rw [pz_u1_top (r := 154)]; rfl)
                           refine w_call hc30 rfl (pz_cokI is_154 rfl) ?_
                           refine w_ret rfl ?_
                           first | exact lf_i (by first | rfl | omega) rfl | (exfalso; omega)))))
       · first
         | (exfalso; first | omega | contradiction)
         | (refine w_nil ?_
            refine pz_G_of pz_b212_16 ?_
            refine w_loc rfl ?_
            refine w_pure rfl ?_
            have hc31 : pz_R (pz_Sh L) 191 [.inr (.inl 154), .inl 1] (pz_u1 (pz_u1 iv 154 (iv 154)) 155 (iv 155)) (.inl (some (.inl 0))) (pz_u1 (pz_u1 iv 154 (pz_up (iv 154) 0 1)) 155 (iv 155)) := pz_R_mem (s_X11_fails 1) (by rw [pz_u1_in (r := 154) (q := 155) (by decide)]; rw [pz_u1_top (r := 154)]; rfl)
            refine w_call hc31 rfl (pz_cokI is_154 rfl) ?_
            refine w_ret rfl ?_
            first | exact lf_i (by first | rfl | omega) rfl | (exfalso; omega)))

theorem s_X11_addSpan_3a {L : Nat} {iv : Nat → Nat → Int} (f : Int) (t : Int) (l : Int) (g : Int) (hk : q_KR (iv 155)) (hcase0 : 0 ≤ f ∧ f ≤ iv 155 0 - 1 ∧ 0 ≤ t ∧ t ≤ iv 155 0 - 1) (hcase1 : f < t ∧ 1 ≤ l ∧ l ≤ 200 ∧ l ≤ g ∧ g ≤ 200) (hcase2 : iv 155 2 = 3) : pz_R (pz_Sh L) 212 [.inr (.inl 154), .inl f, .inl t, .inl l, .inl g] iv (.inl (some (.inl 0))) (pz_u1 (pz_u1 iv 154 (pz_up (iv 154) 0 3)) 155 (iv 155)) := by
  intro dv cc ss
  have hk0 := hk.r0
  refine pz_G_mem (iv2 := pz_u1 (pz_u1 iv 154 (iv 154)) 155 (iv 155)) (by exact ((pz_u1_self iv 154).symm).trans (pz_u1_self (pz_u1 iv 154 (iv 154)) 155).symm) ?_
  show pz_G 212 0 [some (.inr (.inl 154)), some (.inl f), some (.inl t), some (.inl l), some (.inl g), none] [] (pz_Sh L, pz_u1 (pz_u1 iv 154 (iv 154)) 155 (iv 155), dv, cc, ss) (pz_P (pz_Sh L) (.inl (some (.inl 0))) (pz_u1 (pz_u1 iv 154 (pz_up (iv 154) 0 3)) 155 (iv 155)) dv cc ss)
  refine pz_G_of pz_b212_0 ?_
  refine w_loc rfl ?_
  refine w_loc rfl ?_
  have hc1 : pz_R (pz_Sh L) 194 [.inr (.inl 154), .inl f] (pz_u1 (pz_u1 iv 154 (iv 154)) 155 (iv 155)) (.inl (some (.inl (pz_bi (0 ≤ f ∧ f ≤ (iv 155) 0 - 1))))) (pz_u1 (pz_u1 iv 154 (iv 154)) 155 (iv 155)) := s_X11_isEvent f (by show q_KR (iv 155); exact hk)
  refine w_call hc1 rfl (pz_cokI is_154 rfl) ?_
  refine w_beq (fun h2 => ?_) (fun h2 => ?_)
  · first
    | (exfalso; first | omega | contradiction)
    | (refine pz_G_of pz_b212_16 ?_
       refine w_loc rfl ?_
       refine w_pure rfl ?_
       have hc3 : pz_R (pz_Sh L) 191 [.inr (.inl 154), .inl 1] (pz_u1 (pz_u1 iv 154 (iv 154)) 155 (iv 155)) (.inl (some (.inl 0))) (pz_u1 (pz_u1 iv 154 (pz_up (iv 154) 0 1)) 155 (iv 155)) := pz_R_mem (s_X11_fails 1) (by rw [pz_u1_in (r := 154) (q := 155) (by decide)]; rw [pz_u1_top (r := 154)]; rfl)
       refine w_call hc3 rfl (pz_cokI is_154 rfl) ?_
       refine w_ret rfl ?_
       first | exact lf_i (by first | rfl | omega) rfl | (exfalso; omega))
  · first
    | (exfalso; first | omega | contradiction)
    | (refine w_loc rfl ?_
       refine w_loc rfl ?_
       have hc4 : pz_R (pz_Sh L) 194 [.inr (.inl 154), .inl t] (pz_u1 (pz_u1 iv 154 (iv 154)) 155 (iv 155)) (.inl (some (.inl (pz_bi (0 ≤ t ∧ t ≤ (iv 155) 0 - 1))))) (pz_u1 (pz_u1 iv 154 (iv 154)) 155 (iv 155)) := s_X11_isEvent t (by show q_KR (iv 155); exact hk)
       refine w_call hc4 rfl (pz_cokI is_154 rfl) ?_
       refine w_bne (fun h5 => ?_) (fun h5 => ?_)
       · first
         | (exfalso; first | omega | contradiction)
         | (refine pz_G_of pz_b212_22 ?_
            refine w_loc rfl ?_
            refine w_loc rfl ?_
            refine w_ile (fun h6 => ?_) (fun h6 => ?_)
            · first
              | (exfalso; first | omega | contradiction)
              | (refine pz_G_of pz_b212_50 ?_
                 refine w_loc rfl ?_
                 refine w_pure rfl ?_
                 have hc7 : pz_R (pz_Sh L) 191 [.inr (.inl 154), .inl 2] (pz_u1 (pz_u1 iv 154 (iv 154)) 155 (iv 155)) (.inl (some (.inl 0))) (pz_u1 (pz_u1 iv 154 (pz_up (iv 154) 0 2)) 155 (iv 155)) := pz_R_mem (s_X11_fails 2) (by rw [pz_u1_in (r := 154) (q := 155) (by decide)]; rw [pz_u1_top (r := 154)]; rfl)
                 refine w_call hc7 rfl (pz_cokI is_154 rfl) ?_
                 refine w_ret rfl ?_
                 first | exact lf_i (by first | rfl | omega) rfl | (exfalso; omega))
            · first
              | (exfalso; first | omega | contradiction)
              | (refine w_loc rfl ?_
                 refine w_pure rfl ?_
                 refine w_pure rfl ?_
                 have hc8 : pz_R (pz_Sh L) 190 [.inl l, .inl 1, .inl 200] (pz_u1 (pz_u1 iv 154 (iv 154)) 155 (iv 155)) (.inl (some (.inl (pz_bi (1 ≤ l ∧ l ≤ 200))))) (pz_u1 (pz_u1 iv 154 (iv 154)) 155 (iv 155)) := s_X11_in l 1 200
                 refine w_call hc8 rfl rfl ?_
                 refine w_beq (fun h9 => ?_) (fun h9 => ?_)
                 · first
                   | (exfalso; first | omega | contradiction)
                   | (refine pz_G_of pz_b212_50 ?_
                      refine w_loc rfl ?_
                      refine w_pure rfl ?_
                      have hc10 : pz_R (pz_Sh L) 191 [.inr (.inl 154), .inl 2] (pz_u1 (pz_u1 iv 154 (iv 154)) 155 (iv 155)) (.inl (some (.inl 0))) (pz_u1 (pz_u1 iv 154 (pz_up (iv 154) 0 2)) 155 (iv 155)) := pz_R_mem (s_X11_fails 2) (by rw [pz_u1_in (r := 154) (q := 155) (by decide)]; rw [pz_u1_top (r := 154)]; rfl)
                      refine w_call hc10 rfl (pz_cokI is_154 rfl) ?_
                      refine w_ret rfl ?_
                      first | exact lf_i (by first | rfl | omega) rfl | (exfalso; omega))
                 · first
                   | (exfalso; first | omega | contradiction)
                   | (refine w_loc rfl ?_
                      refine w_loc rfl ?_
                      refine w_pure rfl ?_
                      have hc11 : pz_R (pz_Sh L) 190 [.inl g, .inl l, .inl 200] (pz_u1 (pz_u1 iv 154 (iv 154)) 155 (iv 155)) (.inl (some (.inl (pz_bi (l ≤ g ∧ g ≤ 200))))) (pz_u1 (pz_u1 iv 154 (iv 154)) 155 (iv 155)) := s_X11_in g l 200
                      refine w_call hc11 rfl rfl ?_
                      refine w_bne (fun h12 => ?_) (fun h12 => ?_)
                      · first
                        | (exfalso; first | omega | contradiction)
                        | (refine pz_G_of pz_b212_56 ?_
                           refine w_loc rfl ?_
                           refine w_getR (q := 155) is_154 rf_154_1 ?_
                           refine w_pure rfl ?_
                           refine w_iald (v := (iv 155) 2) is_155 ln_155 ⟨by omega, by omega⟩ rfl ?_
                           refine w_pure rfl ?_
                           refine w_ieq (fun h13 => ?_) (fun h13 => ?_)
                           · first
                             | (exfalso; first | omega | contradiction)
                             | (refine pz_G_of pz_b212_94 ?_
                                refine w_loc rfl ?_
                                refine w_pure rfl ?_
                                have hc14 : pz_R (pz_Sh L) 191 [.inr (.inl 154), .inl 3] (pz_u1 (pz_u1 iv 154 (iv 154)) 155 (iv 155)) (.inl (some (.inl 0))) (pz_u1 (pz_u1 iv 154 (pz_up (iv 154) 0 3)) 155 (iv 155)) := pz_R_mem (s_X11_fails 3) (by rw [pz_u1_in (r := 154) (q := 155) (by decide)]; rw [pz_u1_top (r := 154)]; rfl)
                                refine w_call hc14 rfl (pz_cokI is_154 rfl) ?_
                                refine w_ret rfl ?_
                                first | exact lf_i (by first | rfl | omega) rfl | (exfalso; omega))
                           · first
                             | (exfalso; first | omega | contradiction)
                             | (refine w_loc rfl ?_
                                refine w_loc rfl ?_
                                have hc15 : pz_R (pz_Sh L) 211 [.inr (.inl 154), .inl t] (pz_u1 (pz_u1 iv 154 (iv 154)) 155 (iv 155)) (.inl (some (.inl (pz_bi (q_exi (fun s => (iv 155) (212 + 4 * s + 1).toNat = t) ((iv 155) 2)))))) (pz_u1 (pz_u1 iv 154 (iv 154)) 155 (iv 155)) := s_X11_isEnd t (by show q_KR (iv 155); exact hk)
                                refine w_call hc15 rfl (pz_cokI is_154 rfl) ?_
                                refine w_bne (fun h16 => ?_) (fun h16 => ?_)
                                · first
                                  | (exfalso; first | omega | contradiction)
                                  | (refine pz_G_of pz_b212_94 ?_
                                     refine w_loc rfl ?_
                                     refine w_pure rfl ?_
                                     have hc17 : pz_R (pz_Sh L) 191 [.inr (.inl 154), .inl 3] (pz_u1 (pz_u1 iv 154 (iv 154)) 155 (iv 155)) (.inl (some (.inl 0))) (pz_u1 (pz_u1 iv 154 (pz_up (iv 154) 0 3)) 155 (iv 155)) := pz_R_mem (s_X11_fails 3) (by rw [pz_u1_in (r := 154) (q := 155) (by decide)]; rw [pz_u1_top (r := 154)]; rfl)
                                     refine w_call hc17 rfl (pz_cokI is_154 rfl) ?_
                                     refine w_ret rfl ?_
                                     first | exact lf_i (by first | rfl | omega) rfl | (exfalso; omega))
                                · first
                                  | (exfalso; first | omega | contradiction)
                                  | (refine w_loc rfl ?_
                                     refine w_zle (fun h18 => ?_) (fun h18 => ?_)
                                     · first
                                       | (exfalso; first | omega | contradiction)
                                       | (refine pz_G_of pz_b212_86 ?_
                                          refine w_loc rfl ?_
                                          refine w_loc rfl ?_
                                          have hc19 : pz_R (pz_Sh L) 196 [.inr (.inl 154), .inl t] (pz_u1 (pz_u1 iv 154 (iv 154)) 155 (iv 155)) (.inl (some (.inl (pz_bi (q_sta (iv 155) t))))) (pz_u1 (pz_u1 iv 154 (iv 154)) 155 (iv 155)) := s_X11_hasStarted t (by show 0 ≤ t ∧ t ≤ 9; omega)
                                          refine w_call hc19 rfl (pz_cokI is_154 rfl) ?_
                                          refine w_beq (fun h20 => ?_) (fun h20 => ?_)
                                          · first
                                            | (exfalso; first | omega | contradiction)
                                            | (refine pz_G_of pz_b212_100 ?_
                                               refine w_pure rfl ?_
                                               refine w_pure rfl ?_
                                               refine w_loc rfl ?_
                                               refine w_getR (q := 155) is_154 rf_154_1 ?_
                                               refine w_pure rfl ?_
                                               refine w_iald (v := (iv 155) 2) is_155 ln_155 ⟨by omega, by omega⟩ rfl ?_
                                               refine w_imul (by omega) ?_
                                               refine w_iadd (by omega) ?_
                                               refine w_loc (ls' := [some (.inr (.inl 154)), some (.inl f), some (.inl t), some (.inl l), some (.inl g), some (.inl (212 + (4 * ((iv 155) 2))))]) (st' := []) rfl ?_
                                               refine w_loc rfl ?_
                                               refine w_getR (q := 155) is_154 rf_154_1 ?_
                                               refine w_loc rfl ?_
                                               refine w_loc rfl ?_
                                               refine w_iastm (iv2 := pz_u1 (pz_u1 iv 154 (iv 154)) 155 (pz_up (iv 155) (212 + (4 * ((iv 155) 2))).toNat f)) is_155 ln_155 ⟨by omega, by omega⟩ (by exact pz_u2_top _ _ _ _ _) ?_
                                               refine w_loc rfl ?_
                                               refine w_getR (q := 155) is_154 rf_154_1 ?_
                                               refine w_loc rfl ?_
                                               refine w_pure rfl ?_
                                               refine w_iadd (by omega) ?_
                                               refine w_loc rfl ?_
                                               refine w_iastm (iv2 := pz_u1 (pz_u1 iv 154 (iv 154)) 155 (pz_up (pz_up (iv 155) (212 + (4 * ((iv 155) 2))).toNat f) ((212 + (4 * ((iv 155) 2))) + 1).toNat t)) is_155 ln_155 ⟨by omega, by omega⟩ (by exact pz_u2_top _ _ _ _ _) ?_
                                               refine w_loc rfl ?_
                                               refine w_getR (q := 155) is_154 rf_154_1 ?_
                                               refine w_loc rfl ?_
                                               refine w_pure rfl ?_
                                               refine w_iadd (by omega) ?_
                                               refine w_loc rfl ?_
                                               refine w_iastm (iv2 := pz_u1 (pz_u1 iv 154 (iv 154)) 155 (pz_up (pz_up (pz_up (iv 155) (212 + (4 * ((iv 155) 2))).toNat f) ((212 + (4 * ((iv 155) 2))) + 1).toNat t) ((212 + (4 * ((iv 155) 2))) + 2).toNat l)) is_155 ln_155 ⟨by omega, by omega⟩ (by exact pz_u2_top _ _ _ _ _) ?_
                                               refine w_loc rfl ?_
                                               refine w_getR (q := 155) is_154 rf_154_1 ?_
                                               refine w_loc rfl ?_
                                               refine w_pure rfl ?_
                                               refine w_iadd (by omega) ?_
                                               refine w_loc rfl ?_
                                               refine w_iastm (iv2 := pz_u1 (pz_u1 iv 154 (iv 154)) 155 (pz_up (pz_up (pz_up (pz_up (iv 155) (212 + (4 * ((iv 155) 2))).toNat f) ((212 + (4 * ((iv 155) 2))) + 1).toNat t) ((212 + (4 * ((iv 155) 2))) + 2).toNat l) ((212 + (4 * ((iv 155) 2))) + 3).toNat g)) is_155 ln_155 ⟨by omega, by omega⟩ (by exact pz_u2_top _ _ _ _ _) ?_
                                               refine w_loc rfl ?_
                                               refine w_getR (q := 155) is_154 rf_154_1 ?_
                                               refine w_pure rfl ?_
                                               refine w_pure rfl ?_
                                               refine w_iald (v := (iv 155) 2) is_155 ln_155 ⟨by omega, by omega⟩ (by show (pz_up (pz_up (pz_up (pz_up (iv 155) (212 + (4 * ((iv 155) 2))).toNat f) ((212 + (4 * ((iv 155) 2))) + 1).toNat t) ((212 + (4 * ((iv 155) 2))) + 2).toNat l) ((212 + (4 * ((iv 155) 2))) + 3).toNat g) 2 = _; rw [pz_up_ne (by omega), pz_up_ne (by omega), pz_up_ne (by omega), pz_up_ne (by omega)]) ?_
                                               refine w_pure rfl ?_
                                               refine w_iadd (by omega) ?_
                                               refine w_iastm (iv2 := pz_u1 (pz_u1 iv 154 (iv 154)) 155 (pz_up (pz_up (pz_up (pz_up (pz_up (iv 155) (212 + (4 * ((iv 155) 2))).toNat f) ((212 + (4 * ((iv 155) 2))) + 1).toNat t) ((212 + (4 * ((iv 155) 2))) + 2).toNat l) ((212 + (4 * ((iv 155) 2))) + 3).toNat g) 2 (((iv 155) 2) + 1))) is_155 ln_155 ⟨by omega, by omega⟩ (by exact pz_u2_top _ _ _ _ _) ?_
                                               refine w_loc rfl ?_
                                               refine w_loc rfl ?_
                                               refine w_getR (q := 155) is_154 rf_154_1 ?_
                                               refine w_pure rfl ?_
                                               refine w_iald (v := ((iv 155) 2) + 1) is_155 ln_155 ⟨by omega, by omega⟩ rfl ?_
                                               refine w_pure rfl ?_
                                               refine w_isub (by omega) ?_
                                               have hc21 : pz_R (pz_Sh L) 192 [.inr (.inl 154), .inl ((((iv 155) 2) + 1) - 1)] (pz_u1 (pz_u1 iv 154 (iv 154)) 155 (pz_up (pz_up (pz_up (pz_up (pz_up (iv 155) (212 + (4 * ((iv 155) 2))).toNat f) ((212 + (4 * ((iv 155) 2))) + 1).toNat t) ((212 + (4 * ((iv 155) 2))) + 2).toNat l) ((212 + (4 * ((iv 155) 2))) + 3).toNat g) 2 (((iv 155) 2) + 1))) (.inl (some (.inl ((((iv 155) 2) + 1) - 1)))) (pz_u1 (pz_u1 iv 154 (pz_up (iv 154) 0 0)) 155 (pz_up (pz_up (pz_up (pz_up (pz_up (iv 155) (212 + (4 * ((iv 155) 2))).toNat f) ((212 + (4 * ((iv 155) 2))) + 1).toNat t) ((212 + (4 * ((iv 155) 2))) + 2).toNat l) ((212 + (4 * ((iv 155) 2))) + 3).toNat g) 2 (((iv 155) 2) + 1))) := pz_R_mem (s_X11_tells ((((iv 155) 2) + 1) - 1)) (by rw [pz_u1_in (r := 154) (q := 155) (by decide)]; rw [pz_u1_top (r := 154)]; rfl)
                                               refine w_call hc21 rfl (pz_cokI is_154 rfl) ?_
                                               refine w_ret rfl ?_
                                               first | exact lf_i (by first | rfl | omega) rfl | (exfalso; omega))
                                          · first
                                            | (exfalso; first | omega | contradiction)
                                            | (refine w_nil ?_
                                               refine pz_G_of pz_b212_94 ?_
                                               refine w_loc rfl ?_
                                               refine w_pure rfl ?_
                                               have hc22 : pz_R (pz_Sh L) 191 [.inr (.inl 154), .inl 3] (pz_u1 (pz_u1 iv 154 (iv 154)) 155 (iv 155)) (.inl (some (.inl 0))) (pz_u1 (pz_u1 iv 154 (pz_up (iv 154) 0 3)) 155 (iv 155)) := pz_R_mem (s_X11_fails 3) (by rw [pz_u1_in (r := 154) (q := 155) (by decide)]; rw [pz_u1_top (r := 154)]; rfl)
                                               refine w_call hc22 rfl (pz_cokI is_154 rfl) ?_
                                               refine w_ret rfl ?_
                                               first | exact lf_i (by first | rfl | omega) rfl | (exfalso; omega)))
                                     · first
                                       | (exfalso; first | omega | contradiction)
                                       | (refine w_loc rfl ?_
                                          refine w_loc rfl ?_
                                          have hc23 : pz_R (pz_Sh L) 196 [.inr (.inl 154), .inl f] (pz_u1 (pz_u1 iv 154 (iv 154)) 155 (iv 155)) (.inl (some (.inl (pz_bi (q_sta (iv 155) f))))) (pz_u1 (pz_u1 iv 154 (iv 154)) 155 (iv 155)) := s_X11_hasStarted f (by show 0 ≤ f ∧ f ≤ 9; omega)
                                          refine w_call hc23 rfl (pz_cokI is_154 rfl) ?_
                                          refine w_bne (fun h24 => ?_) (fun h24 => ?_)
                                          · first
                                            | (exfalso; first | omega | contradiction)
                                            | (refine pz_G_of pz_b212_94 ?_
                                               refine w_loc rfl ?_
                                               refine w_pure rfl ?_
                                               have hc25 : pz_R (pz_Sh L) 191 [.inr (.inl 154), .inl 3] (pz_u1 (pz_u1 iv 154 (iv 154)) 155 (iv 155)) (.inl (some (.inl 0))) (pz_u1 (pz_u1 iv 154 (pz_up (iv 154) 0 3)) 155 (iv 155)) := pz_R_mem (s_X11_fails 3) (by rw [pz_u1_in (r := 154) (q := 155) (by decide)]; rw [pz_u1_top (r := 154)]; rfl)
                                               refine w_call hc25 rfl (pz_cokI is_154 rfl) ?_
                                               refine w_ret rfl ?_
                                               first | exact lf_i (by first | rfl | omega) rfl | (exfalso; omega))
                                          · first
                                            | (exfalso; first | omega | contradiction)
                                            | (refine w_nil ?_
                                               refine pz_G_of pz_b212_86 ?_
                                               refine w_loc rfl ?_
                                               refine w_loc rfl ?_
                                               have hc26 : pz_R (pz_Sh L) 196 [.inr (.inl 154), .inl t] (pz_u1 (pz_u1 iv 154 (iv 154)) 155 (iv 155)) (.inl (some (.inl (pz_bi (q_sta (iv 155) t))))) (pz_u1 (pz_u1 iv 154 (iv 154)) 155 (iv 155)) := s_X11_hasStarted t (by show 0 ≤ t ∧ t ≤ 9; omega)
                                               refine w_call hc26 rfl (pz_cokI is_154 rfl) ?_
                                               refine w_beq (fun h27 => ?_) (fun h27 => ?_)
                                               · first
                                                 | (exfalso; first | omega | contradiction)
                                                 | (refine pz_G_of pz_b212_100 ?_
                                                    refine w_pure rfl ?_
                                                    refine w_pure rfl ?_
                                                    refine w_loc rfl ?_
                                                    refine w_getR (q := 155) is_154 rf_154_1 ?_
                                                    refine w_pure rfl ?_
                                                    refine w_iald (v := (iv 155) 2) is_155 ln_155 ⟨by omega, by omega⟩ rfl ?_
                                                    refine w_imul (by omega) ?_
                                                    refine w_iadd (by omega) ?_
                                                    refine w_loc (ls' := [some (.inr (.inl 154)), some (.inl f), some (.inl t), some (.inl l), some (.inl g), some (.inl (212 + (4 * ((iv 155) 2))))]) (st' := []) rfl ?_
                                                    refine w_loc rfl ?_
                                                    refine w_getR (q := 155) is_154 rf_154_1 ?_
                                                    refine w_loc rfl ?_
                                                    refine w_loc rfl ?_
                                                    refine w_iastm (iv2 := pz_u1 (pz_u1 iv 154 (iv 154)) 155 (pz_up (iv 155) (212 + (4 * ((iv 155) 2))).toNat f)) is_155 ln_155 ⟨by omega, by omega⟩ (by exact pz_u2_top _ _ _ _ _) ?_
                                                    refine w_loc rfl ?_
                                                    refine w_getR (q := 155) is_154 rf_154_1 ?_
                                                    refine w_loc rfl ?_
                                                    refine w_pure rfl ?_
                                                    refine w_iadd (by omega) ?_
                                                    refine w_loc rfl ?_
                                                    refine w_iastm (iv2 := pz_u1 (pz_u1 iv 154 (iv 154)) 155 (pz_up (pz_up (iv 155) (212 + (4 * ((iv 155) 2))).toNat f) ((212 + (4 * ((iv 155) 2))) + 1).toNat t)) is_155 ln_155 ⟨by omega, by omega⟩ (by exact pz_u2_top _ _ _ _ _) ?_
                                                    refine w_loc rfl ?_
                                                    refine w_getR (q := 155) is_154 rf_154_1 ?_
                                                    refine w_loc rfl ?_
                                                    refine w_pure rfl ?_
                                                    refine w_iadd (by omega) ?_
                                                    refine w_loc rfl ?_
                                                    refine w_iastm (iv2 := pz_u1 (pz_u1 iv 154 (iv 154)) 155 (pz_up (pz_up (pz_up (iv 155) (212 + (4 * ((iv 155) 2))).toNat f) ((212 + (4 * ((iv 155) 2))) + 1).toNat t) ((212 + (4 * ((iv 155) 2))) + 2).toNat l)) is_155 ln_155 ⟨by omega, by omega⟩ (by exact pz_u2_top _ _ _ _ _) ?_
                                                    refine w_loc rfl ?_
                                                    refine w_getR (q := 155) is_154 rf_154_1 ?_
                                                    refine w_loc rfl ?_
                                                    refine w_pure rfl ?_
                                                    refine w_iadd (by omega) ?_
                                                    refine w_loc rfl ?_
                                                    refine w_iastm (iv2 := pz_u1 (pz_u1 iv 154 (iv 154)) 155 (pz_up (pz_up (pz_up (pz_up (iv 155) (212 + (4 * ((iv 155) 2))).toNat f) ((212 + (4 * ((iv 155) 2))) + 1).toNat t) ((212 + (4 * ((iv 155) 2))) + 2).toNat l) ((212 + (4 * ((iv 155) 2))) + 3).toNat g)) is_155 ln_155 ⟨by omega, by omega⟩ (by exact pz_u2_top _ _ _ _ _) ?_
                                                    refine w_loc rfl ?_
                                                    refine w_getR (q := 155) is_154 rf_154_1 ?_
                                                    refine w_pure rfl ?_
                                                    refine w_pure rfl ?_
                                                    refine w_iald (v := (iv 155) 2) is_155 ln_155 ⟨by omega, by omega⟩ (by show (pz_up (pz_up (pz_up (pz_up (iv 155) (212 + (4 * ((iv 155) 2))).toNat f) ((212 + (4 * ((iv 155) 2))) + 1).toNat t) ((212 + (4 * ((iv 155) 2))) + 2).toNat l) ((212 + (4 * ((iv 155) 2))) + 3).toNat g) 2 = _; rw [pz_up_ne (by omega), pz_up_ne (by omega), pz_up_ne (by omega), pz_up_ne (by omega)]) ?_
                                                    refine w_pure rfl ?_
                                                    refine w_iadd (by omega) ?_
                                                    refine w_iastm (iv2 := pz_u1 (pz_u1 iv 154 (iv 154)) 155 (pz_up (pz_up (pz_up (pz_up (pz_up (iv 155) (212 + (4 * ((iv 155) 2))).toNat f) ((212 + (4 * ((iv 155) 2))) + 1).toNat t) ((212 + (4 * ((iv 155) 2))) + 2).toNat l) ((212 + (4 * ((iv 155) 2))) + 3).toNat g) 2 (((iv 155) 2) + 1))) is_155 ln_155 ⟨by omega, by omega⟩ (by exact pz_u2_top _ _ _ _ _) ?_
                                                    refine w_loc rfl ?_
                                                    refine w_loc rfl ?_
                                                    refine w_getR (q := 155) is_154 rf_154_1 ?_
                                                    refine w_pure rfl ?_
                                                    refine w_iald (v := ((iv 155) 2) + 1) is_155 ln_155 ⟨by omega, by omega⟩ rfl ?_
                                                    refine w_pure rfl ?_
                                                    refine w_isub (by omega) ?_
                                                    have hc28 : pz_R (pz_Sh L) 192 [.inr (.inl 154), .inl ((((iv 155) 2) + 1) - 1)] (pz_u1 (pz_u1 iv 154 (iv 154)) 155 (pz_up (pz_up (pz_up (pz_up (pz_up (iv 155) (212 + (4 * ((iv 155) 2))).toNat f) ((212 + (4 * ((iv 155) 2))) + 1).toNat t) ((212 + (4 * ((iv 155) 2))) + 2).toNat l) ((212 + (4 * ((iv 155) 2))) + 3).toNat g) 2 (((iv 155) 2) + 1))) (.inl (some (.inl ((((iv 155) 2) + 1) - 1)))) (pz_u1 (pz_u1 iv 154 (pz_up (iv 154) 0 0)) 155 (pz_up (pz_up (pz_up (pz_up (pz_up (iv 155) (212 + (4 * ((iv 155) 2))).toNat f) ((212 + (4 * ((iv 155) 2))) + 1).toNat t) ((212 + (4 * ((iv 155) 2))) + 2).toNat l) ((212 + (4 * ((iv 155) 2))) + 3).toNat g) 2 (((iv 155) 2) + 1))) := pz_R_mem (s_X11_tells ((((iv 155) 2) + 1) - 1)) (by rw [pz_u1_in (r := 154) (q := 155) (by decide)]; rw [pz_u1_top (r := 154)]; rfl)
                                                    refine w_call hc28 rfl (pz_cokI is_154 rfl) ?_
                                                    refine w_ret rfl ?_
                                                    first | exact lf_i (by first | rfl | omega) rfl | (exfalso; omega))
                                               · first
                                                 | (exfalso; first | omega | contradiction)
                                                 | (refine w_nil ?_
                                                    refine pz_G_of pz_b212_94 ?_
                                                    refine w_loc rfl ?_
                                                    refine w_pure rfl ?_
                                                    have hc29 : pz_R (pz_Sh L) 191 [.inr (.inl 154), .inl 3] (pz_u1 (pz_u1 iv 154 (iv 154)) 155 (iv 155)) (.inl (some (.inl 0))) (pz_u1 (pz_u1 iv 154 (pz_up (iv 154) 0 3)) 155 (iv 155)) := pz_R_mem (s_X11_fails 3) (by rw [pz_u1_in (r := 154) (q := 155) (by decide)]; rw [pz_u1_top (r := 154)]; rfl)
                                                    refine w_call hc29 rfl (pz_cokI is_154 rfl) ?_
                                                    refine w_ret rfl ?_
                                                    first | exact lf_i (by first | rfl | omega) rfl | (exfalso; omega)))))))
                      · first
                        | (exfalso; first | omega | contradiction)
                        | (refine w_nil ?_
                           refine pz_G_of pz_b212_50 ?_
                           refine w_loc rfl ?_
                           refine w_pure rfl ?_
                           have hc30 : pz_R (pz_Sh L) 191 [.inr (.inl 154), .inl 2] (pz_u1 (pz_u1 iv 154 (iv 154)) 155 (iv 155)) (.inl (some (.inl 0))) (pz_u1 (pz_u1 iv 154 (pz_up (iv 154) 0 2)) 155 (iv 155)) := pz_R_mem (s_X11_fails 2) (by rw [pz_u1_in (r := 154) (q := 155) (by decide)]; rw [pz_u1_top (r := 154)]; rfl)
                           refine w_call hc30 rfl (pz_cokI is_154 rfl) ?_
                           refine w_ret rfl ?_
                           first | exact lf_i (by first | rfl | omega) rfl | (exfalso; omega)))))
       · first
         | (exfalso; first | omega | contradiction)
         | (refine w_nil ?_
            refine pz_G_of pz_b212_16 ?_
            refine w_loc rfl ?_
            refine w_pure rfl ?_
            have hc31 : pz_R (pz_Sh L) 191 [.inr (.inl 154), .inl 1] (pz_u1 (pz_u1 iv 154 (iv 154)) 155 (iv 155)) (.inl (some (.inl 0))) (pz_u1 (pz_u1 iv 154 (pz_up (iv 154) 0 1)) 155 (iv 155)) := pz_R_mem (s_X11_fails 1) (by rw [pz_u1_in (r := 154) (q := 155) (by decide)]; rw [pz_u1_top (r := 154)]; rfl)
            refine w_call hc31 rfl (pz_cokI is_154 rfl) ?_
            refine w_ret rfl ?_
            first | exact lf_i (by first | rfl | omega) rfl | (exfalso; omega)))

theorem s_X11_addSpan_3b {L : Nat} {iv : Nat → Nat → Int} (f : Int) (t : Int) (l : Int) (g : Int) (hk : q_KR (iv 155)) (hcase0 : 0 ≤ f ∧ f ≤ iv 155 0 - 1 ∧ 0 ≤ t ∧ t ≤ iv 155 0 - 1) (hcase1 : f < t ∧ 1 ≤ l ∧ l ≤ 200 ∧ l ≤ g ∧ g ≤ 200) (hcase2 : iv 155 2 ≠ 3) (hcase3 : q_exi (fun s => iv 155 (212 + 4 * s + 1).toNat = t) (iv 155 2)) : pz_R (pz_Sh L) 212 [.inr (.inl 154), .inl f, .inl t, .inl l, .inl g] iv (.inl (some (.inl 0))) (pz_u1 (pz_u1 iv 154 (pz_up (iv 154) 0 3)) 155 (iv 155)) := by
  intro dv cc ss
  have hk0 := hk.r0
  refine pz_G_mem (iv2 := pz_u1 (pz_u1 iv 154 (iv 154)) 155 (iv 155)) (by exact ((pz_u1_self iv 154).symm).trans (pz_u1_self (pz_u1 iv 154 (iv 154)) 155).symm) ?_
  show pz_G 212 0 [some (.inr (.inl 154)), some (.inl f), some (.inl t), some (.inl l), some (.inl g), none] [] (pz_Sh L, pz_u1 (pz_u1 iv 154 (iv 154)) 155 (iv 155), dv, cc, ss) (pz_P (pz_Sh L) (.inl (some (.inl 0))) (pz_u1 (pz_u1 iv 154 (pz_up (iv 154) 0 3)) 155 (iv 155)) dv cc ss)
  refine pz_G_of pz_b212_0 ?_
  refine w_loc rfl ?_
  refine w_loc rfl ?_
  have hc1 : pz_R (pz_Sh L) 194 [.inr (.inl 154), .inl f] (pz_u1 (pz_u1 iv 154 (iv 154)) 155 (iv 155)) (.inl (some (.inl (pz_bi (0 ≤ f ∧ f ≤ (iv 155) 0 - 1))))) (pz_u1 (pz_u1 iv 154 (iv 154)) 155 (iv 155)) := s_X11_isEvent f (by show q_KR (iv 155); exact hk)
  refine w_call hc1 rfl (pz_cokI is_154 rfl) ?_
  refine w_beq (fun h2 => ?_) (fun h2 => ?_)
  · first
    | (exfalso; first | omega | contradiction)
    | (refine pz_G_of pz_b212_16 ?_
       refine w_loc rfl ?_
       refine w_pure rfl ?_
       have hc3 : pz_R (pz_Sh L) 191 [.inr (.inl 154), .inl 1] (pz_u1 (pz_u1 iv 154 (iv 154)) 155 (iv 155)) (.inl (some (.inl 0))) (pz_u1 (pz_u1 iv 154 (pz_up (iv 154) 0 1)) 155 (iv 155)) := pz_R_mem (s_X11_fails 1) (by rw [pz_u1_in (r := 154) (q := 155) (by decide)]; rw [pz_u1_top (r := 154)]; rfl)
       refine w_call hc3 rfl (pz_cokI is_154 rfl) ?_
       refine w_ret rfl ?_
       first | exact lf_i (by first | rfl | omega) rfl | (exfalso; omega))
  · first
    | (exfalso; first | omega | contradiction)
    | (refine w_loc rfl ?_
       refine w_loc rfl ?_
       have hc4 : pz_R (pz_Sh L) 194 [.inr (.inl 154), .inl t] (pz_u1 (pz_u1 iv 154 (iv 154)) 155 (iv 155)) (.inl (some (.inl (pz_bi (0 ≤ t ∧ t ≤ (iv 155) 0 - 1))))) (pz_u1 (pz_u1 iv 154 (iv 154)) 155 (iv 155)) := s_X11_isEvent t (by show q_KR (iv 155); exact hk)
       refine w_call hc4 rfl (pz_cokI is_154 rfl) ?_
       refine w_bne (fun h5 => ?_) (fun h5 => ?_)
       · first
         | (exfalso; first | omega | contradiction)
         | (refine pz_G_of pz_b212_22 ?_
            refine w_loc rfl ?_
            refine w_loc rfl ?_
            refine w_ile (fun h6 => ?_) (fun h6 => ?_)
            · first
              | (exfalso; first | omega | contradiction)
              | (refine pz_G_of pz_b212_50 ?_
                 refine w_loc rfl ?_
                 refine w_pure rfl ?_
                 have hc7 : pz_R (pz_Sh L) 191 [.inr (.inl 154), .inl 2] (pz_u1 (pz_u1 iv 154 (iv 154)) 155 (iv 155)) (.inl (some (.inl 0))) (pz_u1 (pz_u1 iv 154 (pz_up (iv 154) 0 2)) 155 (iv 155)) := pz_R_mem (s_X11_fails 2) (by rw [pz_u1_in (r := 154) (q := 155) (by decide)]; rw [pz_u1_top (r := 154)]; rfl)
                 refine w_call hc7 rfl (pz_cokI is_154 rfl) ?_
                 refine w_ret rfl ?_
                 first | exact lf_i (by first | rfl | omega) rfl | (exfalso; omega))
            · first
              | (exfalso; first | omega | contradiction)
              | (refine w_loc rfl ?_
                 refine w_pure rfl ?_
                 refine w_pure rfl ?_
                 have hc8 : pz_R (pz_Sh L) 190 [.inl l, .inl 1, .inl 200] (pz_u1 (pz_u1 iv 154 (iv 154)) 155 (iv 155)) (.inl (some (.inl (pz_bi (1 ≤ l ∧ l ≤ 200))))) (pz_u1 (pz_u1 iv 154 (iv 154)) 155 (iv 155)) := s_X11_in l 1 200
                 refine w_call hc8 rfl rfl ?_
                 refine w_beq (fun h9 => ?_) (fun h9 => ?_)
                 · first
                   | (exfalso; first | omega | contradiction)
                   | (refine pz_G_of pz_b212_50 ?_
                      refine w_loc rfl ?_
                      refine w_pure rfl ?_
                      have hc10 : pz_R (pz_Sh L) 191 [.inr (.inl 154), .inl 2] (pz_u1 (pz_u1 iv 154 (iv 154)) 155 (iv 155)) (.inl (some (.inl 0))) (pz_u1 (pz_u1 iv 154 (pz_up (iv 154) 0 2)) 155 (iv 155)) := pz_R_mem (s_X11_fails 2) (by rw [pz_u1_in (r := 154) (q := 155) (by decide)]; rw [pz_u1_top (r := 154)]; rfl)
                      refine w_call hc10 rfl (pz_cokI is_154 rfl) ?_
                      refine w_ret rfl ?_
                      first | exact lf_i (by first | rfl | omega) rfl | (exfalso; omega))
                 · first
                   | (exfalso; first | omega | contradiction)
                   | (refine w_loc rfl ?_
                      refine w_loc rfl ?_
                      refine w_pure rfl ?_
                      have hc11 : pz_R (pz_Sh L) 190 [.inl g, .inl l, .inl 200] (pz_u1 (pz_u1 iv 154 (iv 154)) 155 (iv 155)) (.inl (some (.inl (pz_bi (l ≤ g ∧ g ≤ 200))))) (pz_u1 (pz_u1 iv 154 (iv 154)) 155 (iv 155)) := s_X11_in g l 200
                      refine w_call hc11 rfl rfl ?_
                      refine w_bne (fun h12 => ?_) (fun h12 => ?_)
                      · first
                        | (exfalso; first | omega | contradiction)
                        | (refine pz_G_of pz_b212_56 ?_
                           refine w_loc rfl ?_
                           refine w_getR (q := 155) is_154 rf_154_1 ?_
                           refine w_pure rfl ?_
                           refine w_iald (v := (iv 155) 2) is_155 ln_155 ⟨by omega, by omega⟩ rfl ?_
                           refine w_pure rfl ?_
                           refine w_ieq (fun h13 => ?_) (fun h13 => ?_)
                           · first
                             | (exfalso; first | omega | contradiction)
                             | (refine pz_G_of pz_b212_94 ?_
                                refine w_loc rfl ?_
                                refine w_pure rfl ?_
                                have hc14 : pz_R (pz_Sh L) 191 [.inr (.inl 154), .inl 3] (pz_u1 (pz_u1 iv 154 (iv 154)) 155 (iv 155)) (.inl (some (.inl 0))) (pz_u1 (pz_u1 iv 154 (pz_up (iv 154) 0 3)) 155 (iv 155)) := pz_R_mem (s_X11_fails 3) (by rw [pz_u1_in (r := 154) (q := 155) (by decide)]; rw [pz_u1_top (r := 154)]; rfl)
                                refine w_call hc14 rfl (pz_cokI is_154 rfl) ?_
                                refine w_ret rfl ?_
                                first | exact lf_i (by first | rfl | omega) rfl | (exfalso; omega))
                           · first
                             | (exfalso; first | omega | contradiction)
                             | (refine w_loc rfl ?_
                                refine w_loc rfl ?_
                                have hc15 : pz_R (pz_Sh L) 211 [.inr (.inl 154), .inl t] (pz_u1 (pz_u1 iv 154 (iv 154)) 155 (iv 155)) (.inl (some (.inl (pz_bi (q_exi (fun s => (iv 155) (212 + 4 * s + 1).toNat = t) ((iv 155) 2)))))) (pz_u1 (pz_u1 iv 154 (iv 154)) 155 (iv 155)) := s_X11_isEnd t (by show q_KR (iv 155); exact hk)
                                refine w_call hc15 rfl (pz_cokI is_154 rfl) ?_
                                refine w_bne (fun h16 => ?_) (fun h16 => ?_)
                                · first
                                  | (exfalso; first | omega | contradiction)
                                  | (refine pz_G_of pz_b212_94 ?_
                                     refine w_loc rfl ?_
                                     refine w_pure rfl ?_
                                     have hc17 : pz_R (pz_Sh L) 191 [.inr (.inl 154), .inl 3] (pz_u1 (pz_u1 iv 154 (iv 154)) 155 (iv 155)) (.inl (some (.inl 0))) (pz_u1 (pz_u1 iv 154 (pz_up (iv 154) 0 3)) 155 (iv 155)) := pz_R_mem (s_X11_fails 3) (by rw [pz_u1_in (r := 154) (q := 155) (by decide)]; rw [pz_u1_top (r := 154)]; rfl)
                                     refine w_call hc17 rfl (pz_cokI is_154 rfl) ?_
                                     refine w_ret rfl ?_
                                     first | exact lf_i (by first | rfl | omega) rfl | (exfalso; omega))
                                · first
                                  | (exfalso; first | omega | contradiction)
                                  | (refine w_loc rfl ?_
                                     refine w_zle (fun h18 => ?_) (fun h18 => ?_)
                                     · first
                                       | (exfalso; first | omega | contradiction)
                                       | (refine pz_G_of pz_b212_86 ?_
                                          refine w_loc rfl ?_
                                          refine w_loc rfl ?_
                                          have hc19 : pz_R (pz_Sh L) 196 [.inr (.inl 154), .inl t] (pz_u1 (pz_u1 iv 154 (iv 154)) 155 (iv 155)) (.inl (some (.inl (pz_bi (q_sta (iv 155) t))))) (pz_u1 (pz_u1 iv 154 (iv 154)) 155 (iv 155)) := s_X11_hasStarted t (by show 0 ≤ t ∧ t ≤ 9; omega)
                                          refine w_call hc19 rfl (pz_cokI is_154 rfl) ?_
                                          refine w_beq (fun h20 => ?_) (fun h20 => ?_)
                                          · first
                                            | (exfalso; first | omega | contradiction)
                                            | (refine pz_G_of pz_b212_100 ?_
                                               refine w_pure rfl ?_
                                               refine w_pure rfl ?_
                                               refine w_loc rfl ?_
                                               refine w_getR (q := 155) is_154 rf_154_1 ?_
                                               refine w_pure rfl ?_
                                               refine w_iald (v := (iv 155) 2) is_155 ln_155 ⟨by omega, by omega⟩ rfl ?_
                                               refine w_imul (by omega) ?_
                                               refine w_iadd (by omega) ?_
                                               refine w_loc (ls' := [some (.inr (.inl 154)), some (.inl f), some (.inl t), some (.inl l), some (.inl g), some (.inl (212 + (4 * ((iv 155) 2))))]) (st' := []) rfl ?_
                                               refine w_loc rfl ?_
                                               refine w_getR (q := 155) is_154 rf_154_1 ?_
                                               refine w_loc rfl ?_
                                               refine w_loc rfl ?_
                                               refine w_iastm (iv2 := pz_u1 (pz_u1 iv 154 (iv 154)) 155 (pz_up (iv 155) (212 + (4 * ((iv 155) 2))).toNat f)) is_155 ln_155 ⟨by omega, by omega⟩ (by exact pz_u2_top _ _ _ _ _) ?_
                                               refine w_loc rfl ?_
                                               refine w_getR (q := 155) is_154 rf_154_1 ?_
                                               refine w_loc rfl ?_
                                               refine w_pure rfl ?_
                                               refine w_iadd (by omega) ?_
                                               refine w_loc rfl ?_
                                               refine w_iastm (iv2 := pz_u1 (pz_u1 iv 154 (iv 154)) 155 (pz_up (pz_up (iv 155) (212 + (4 * ((iv 155) 2))).toNat f) ((212 + (4 * ((iv 155) 2))) + 1).toNat t)) is_155 ln_155 ⟨by omega, by omega⟩ (by exact pz_u2_top _ _ _ _ _) ?_
                                               refine w_loc rfl ?_
                                               refine w_getR (q := 155) is_154 rf_154_1 ?_
                                               refine w_loc rfl ?_
                                               refine w_pure rfl ?_
                                               refine w_iadd (by omega) ?_
                                               refine w_loc rfl ?_
                                               refine w_iastm (iv2 := pz_u1 (pz_u1 iv 154 (iv 154)) 155 (pz_up (pz_up (pz_up (iv 155) (212 + (4 * ((iv 155) 2))).toNat f) ((212 + (4 * ((iv 155) 2))) + 1).toNat t) ((212 + (4 * ((iv 155) 2))) + 2).toNat l)) is_155 ln_155 ⟨by omega, by omega⟩ (by exact pz_u2_top _ _ _ _ _) ?_
                                               refine w_loc rfl ?_
                                               refine w_getR (q := 155) is_154 rf_154_1 ?_
                                               refine w_loc rfl ?_
                                               refine w_pure rfl ?_
                                               refine w_iadd (by omega) ?_
                                               refine w_loc rfl ?_
                                               refine w_iastm (iv2 := pz_u1 (pz_u1 iv 154 (iv 154)) 155 (pz_up (pz_up (pz_up (pz_up (iv 155) (212 + (4 * ((iv 155) 2))).toNat f) ((212 + (4 * ((iv 155) 2))) + 1).toNat t) ((212 + (4 * ((iv 155) 2))) + 2).toNat l) ((212 + (4 * ((iv 155) 2))) + 3).toNat g)) is_155 ln_155 ⟨by omega, by omega⟩ (by exact pz_u2_top _ _ _ _ _) ?_
                                               refine w_loc rfl ?_
                                               refine w_getR (q := 155) is_154 rf_154_1 ?_
                                               refine w_pure rfl ?_
                                               refine w_pure rfl ?_
                                               refine w_iald (v := (iv 155) 2) is_155 ln_155 ⟨by omega, by omega⟩ (by show (pz_up (pz_up (pz_up (pz_up (iv 155) (212 + (4 * ((iv 155) 2))).toNat f) ((212 + (4 * ((iv 155) 2))) + 1).toNat t) ((212 + (4 * ((iv 155) 2))) + 2).toNat l) ((212 + (4 * ((iv 155) 2))) + 3).toNat g) 2 = _; rw [pz_up_ne (by omega), pz_up_ne (by omega), pz_up_ne (by omega), pz_up_ne (by omega)]) ?_
                                               refine w_pure rfl ?_
                                               refine w_iadd (by omega) ?_
                                               refine w_iastm (iv2 := pz_u1 (pz_u1 iv 154 (iv 154)) 155 (pz_up (pz_up (pz_up (pz_up (pz_up (iv 155) (212 + (4 * ((iv 155) 2))).toNat f) ((212 + (4 * ((iv 155) 2))) + 1).toNat t) ((212 + (4 * ((iv 155) 2))) + 2).toNat l) ((212 + (4 * ((iv 155) 2))) + 3).toNat g) 2 (((iv 155) 2) + 1))) is_155 ln_155 ⟨by omega, by omega⟩ (by exact pz_u2_top _ _ _ _ _) ?_
                                               refine w_loc rfl ?_
                                               refine w_loc rfl ?_
                                               refine w_getR (q := 155) is_154 rf_154_1 ?_
                                               refine w_pure rfl ?_
                                               refine w_iald (v := ((iv 155) 2) + 1) is_155 ln_155 ⟨by omega, by omega⟩ rfl ?_
                                               refine w_pure rfl ?_
                                               refine w_isub (by omega) ?_
                                               have hc21 : pz_R (pz_Sh L) 192 [.inr (.inl 154), .inl ((((iv 155) 2) + 1) - 1)] (pz_u1 (pz_u1 iv 154 (iv 154)) 155 (pz_up (pz_up (pz_up (pz_up (pz_up (iv 155) (212 + (4 * ((iv 155) 2))).toNat f) ((212 + (4 * ((iv 155) 2))) + 1).toNat t) ((212 + (4 * ((iv 155) 2))) + 2).toNat l) ((212 + (4 * ((iv 155) 2))) + 3).toNat g) 2 (((iv 155) 2) + 1))) (.inl (some (.inl ((((iv 155) 2) + 1) - 1)))) (pz_u1 (pz_u1 iv 154 (pz_up (iv 154) 0 0)) 155 (pz_up (pz_up (pz_up (pz_up (pz_up (iv 155) (212 + (4 * ((iv 155) 2))).toNat f) ((212 + (4 * ((iv 155) 2))) + 1).toNat t) ((212 + (4 * ((iv 155) 2))) + 2).toNat l) ((212 + (4 * ((iv 155) 2))) + 3).toNat g) 2 (((iv 155) 2) + 1))) := pz_R_mem (s_X11_tells ((((iv 155) 2) + 1) - 1)) (by rw [pz_u1_in (r := 154) (q := 155) (by decide)]; rw [pz_u1_top (r := 154)]; rfl)
                                               refine w_call hc21 rfl (pz_cokI is_154 rfl) ?_
                                               refine w_ret rfl ?_
                                               first | exact lf_i (by first | rfl | omega) rfl | (exfalso; omega))
                                          · first
                                            | (exfalso; first | omega | contradiction)
                                            | (refine w_nil ?_
                                               refine pz_G_of pz_b212_94 ?_
                                               refine w_loc rfl ?_
                                               refine w_pure rfl ?_
                                               have hc22 : pz_R (pz_Sh L) 191 [.inr (.inl 154), .inl 3] (pz_u1 (pz_u1 iv 154 (iv 154)) 155 (iv 155)) (.inl (some (.inl 0))) (pz_u1 (pz_u1 iv 154 (pz_up (iv 154) 0 3)) 155 (iv 155)) := pz_R_mem (s_X11_fails 3) (by rw [pz_u1_in (r := 154) (q := 155) (by decide)]; rw [pz_u1_top (r := 154)]; rfl)
                                               refine w_call hc22 rfl (pz_cokI is_154 rfl) ?_
                                               refine w_ret rfl ?_
                                               first | exact lf_i (by first | rfl | omega) rfl | (exfalso; omega)))
                                     · first
                                       | (exfalso; first | omega | contradiction)
                                       | (refine w_loc rfl ?_
                                          refine w_loc rfl ?_
                                          have hc23 : pz_R (pz_Sh L) 196 [.inr (.inl 154), .inl f] (pz_u1 (pz_u1 iv 154 (iv 154)) 155 (iv 155)) (.inl (some (.inl (pz_bi (q_sta (iv 155) f))))) (pz_u1 (pz_u1 iv 154 (iv 154)) 155 (iv 155)) := s_X11_hasStarted f (by show 0 ≤ f ∧ f ≤ 9; omega)
                                          refine w_call hc23 rfl (pz_cokI is_154 rfl) ?_
                                          refine w_bne (fun h24 => ?_) (fun h24 => ?_)
                                          · first
                                            | (exfalso; first | omega | contradiction)
                                            | (refine pz_G_of pz_b212_94 ?_
                                               refine w_loc rfl ?_
                                               refine w_pure rfl ?_
                                               have hc25 : pz_R (pz_Sh L) 191 [.inr (.inl 154), .inl 3] (pz_u1 (pz_u1 iv 154 (iv 154)) 155 (iv 155)) (.inl (some (.inl 0))) (pz_u1 (pz_u1 iv 154 (pz_up (iv 154) 0 3)) 155 (iv 155)) := pz_R_mem (s_X11_fails 3) (by rw [pz_u1_in (r := 154) (q := 155) (by decide)]; rw [pz_u1_top (r := 154)]; rfl)
                                               refine w_call hc25 rfl (pz_cokI is_154 rfl) ?_
                                               refine w_ret rfl ?_
                                               first | exact lf_i (by first | rfl | omega) rfl | (exfalso; omega))
                                          · first
                                            | (exfalso; first | omega | contradiction)
                                            | (refine w_nil ?_
                                               refine pz_G_of pz_b212_86 ?_
                                               refine w_loc rfl ?_
                                               refine w_loc rfl ?_
                                               have hc26 : pz_R (pz_Sh L) 196 [.inr (.inl 154), .inl t] (pz_u1 (pz_u1 iv 154 (iv 154)) 155 (iv 155)) (.inl (some (.inl (pz_bi (q_sta (iv 155) t))))) (pz_u1 (pz_u1 iv 154 (iv 154)) 155 (iv 155)) := s_X11_hasStarted t (by show 0 ≤ t ∧ t ≤ 9; omega)
                                               refine w_call hc26 rfl (pz_cokI is_154 rfl) ?_
                                               refine w_beq (fun h27 => ?_) (fun h27 => ?_)
                                               · first
                                                 | (exfalso; first | omega | contradiction)
                                                 | (refine pz_G_of pz_b212_100 ?_
                                                    refine w_pure rfl ?_
                                                    refine w_pure rfl ?_
                                                    refine w_loc rfl ?_
                                                    refine w_getR (q := 155) is_154 rf_154_1 ?_
                                                    refine w_pure rfl ?_
                                                    refine w_iald (v := (iv 155) 2) is_155 ln_155 ⟨by omega, by omega⟩ rfl ?_
                                                    refine w_imul (by omega) ?_
                                                    refine w_iadd (by omega) ?_
                                                    refine w_loc (ls' := [some (.inr (.inl 154)), some (.inl f), some (.inl t), some (.inl l), some (.inl g), some (.inl (212 + (4 * ((iv 155) 2))))]) (st' := []) rfl ?_
                                                    refine w_loc rfl ?_
                                                    refine w_getR (q := 155) is_154 rf_154_1 ?_
                                                    refine w_loc rfl ?_
                                                    refine w_loc rfl ?_
                                                    refine w_iastm (iv2 := pz_u1 (pz_u1 iv 154 (iv 154)) 155 (pz_up (iv 155) (212 + (4 * ((iv 155) 2))).toNat f)) is_155 ln_155 ⟨by omega, by omega⟩ (by exact pz_u2_top _ _ _ _ _) ?_
                                                    refine w_loc rfl ?_
                                                    refine w_getR (q := 155) is_154 rf_154_1 ?_
                                                    refine w_loc rfl ?_
                                                    refine w_pure rfl ?_
                                                    refine w_iadd (by omega) ?_
                                                    refine w_loc rfl ?_
                                                    refine w_iastm (iv2 := pz_u1 (pz_u1 iv 154 (iv 154)) 155 (pz_up (pz_up (iv 155) (212 + (4 * ((iv 155) 2))).toNat f) ((212 + (4 * ((iv 155) 2))) + 1).toNat t)) is_155 ln_155 ⟨by omega, by omega⟩ (by exact pz_u2_top _ _ _ _ _) ?_
                                                    refine w_loc rfl ?_
                                                    refine w_getR (q := 155) is_154 rf_154_1 ?_
                                                    refine w_loc rfl ?_
                                                    refine w_pure rfl ?_
                                                    refine w_iadd (by omega) ?_
                                                    refine w_loc rfl ?_
                                                    refine w_iastm (iv2 := pz_u1 (pz_u1 iv 154 (iv 154)) 155 (pz_up (pz_up (pz_up (iv 155) (212 + (4 * ((iv 155) 2))).toNat f) ((212 + (4 * ((iv 155) 2))) + 1).toNat t) ((212 + (4 * ((iv 155) 2))) + 2).toNat l)) is_155 ln_155 ⟨by omega, by omega⟩ (by exact pz_u2_top _ _ _ _ _) ?_
                                                    refine w_loc rfl ?_
                                                    refine w_getR (q := 155) is_154 rf_154_1 ?_
                                                    refine w_loc rfl ?_
                                                    refine w_pure rfl ?_
                                                    refine w_iadd (by omega) ?_
                                                    refine w_loc rfl ?_
                                                    refine w_iastm (iv2 := pz_u1 (pz_u1 iv 154 (iv 154)) 155 (pz_up (pz_up (pz_up (pz_up (iv 155) (212 + (4 * ((iv 155) 2))).toNat f) ((212 + (4 * ((iv 155) 2))) + 1).toNat t) ((212 + (4 * ((iv 155) 2))) + 2).toNat l) ((212 + (4 * ((iv 155) 2))) + 3).toNat g)) is_155 ln_155 ⟨by omega, by omega⟩ (by exact pz_u2_top _ _ _ _ _) ?_
                                                    refine w_loc rfl ?_
                                                    refine w_getR (q := 155) is_154 rf_154_1 ?_
                                                    refine w_pure rfl ?_
                                                    refine w_pure rfl ?_
                                                    refine w_iald (v := (iv 155) 2) is_155 ln_155 ⟨by omega, by omega⟩ (by show (pz_up (pz_up (pz_up (pz_up (iv 155) (212 + (4 * ((iv 155) 2))).toNat f) ((212 + (4 * ((iv 155) 2))) + 1).toNat t) ((212 + (4 * ((iv 155) 2))) + 2).toNat l) ((212 + (4 * ((iv 155) 2))) + 3).toNat g) 2 = _; rw [pz_up_ne (by omega), pz_up_ne (by omega), pz_up_ne (by omega), pz_up_ne (by omega)]) ?_
                                                    refine w_pure rfl ?_
                                                    refine w_iadd (by omega) ?_
                                                    refine w_iastm (iv2 := pz_u1 (pz_u1 iv 154 (iv 154)) 155 (pz_up (pz_up (pz_up (pz_up (pz_up (iv 155) (212 + (4 * ((iv 155) 2))).toNat f) ((212 + (4 * ((iv 155) 2))) + 1).toNat t) ((212 + (4 * ((iv 155) 2))) + 2).toNat l) ((212 + (4 * ((iv 155) 2))) + 3).toNat g) 2 (((iv 155) 2) + 1))) is_155 ln_155 ⟨by omega, by omega⟩ (by exact pz_u2_top _ _ _ _ _) ?_
                                                    refine w_loc rfl ?_
                                                    refine w_loc rfl ?_
                                                    refine w_getR (q := 155) is_154 rf_154_1 ?_
                                                    refine w_pure rfl ?_
                                                    refine w_iald (v := ((iv 155) 2) + 1) is_155 ln_155 ⟨by omega, by omega⟩ rfl ?_
                                                    refine w_pure rfl ?_
                                                    refine w_isub (by omega) ?_
                                                    have hc28 : pz_R (pz_Sh L) 192 [.inr (.inl 154), .inl ((((iv 155) 2) + 1) - 1)] (pz_u1 (pz_u1 iv 154 (iv 154)) 155 (pz_up (pz_up (pz_up (pz_up (pz_up (iv 155) (212 + (4 * ((iv 155) 2))).toNat f) ((212 + (4 * ((iv 155) 2))) + 1).toNat t) ((212 + (4 * ((iv 155) 2))) + 2).toNat l) ((212 + (4 * ((iv 155) 2))) + 3).toNat g) 2 (((iv 155) 2) + 1))) (.inl (some (.inl ((((iv 155) 2) + 1) - 1)))) (pz_u1 (pz_u1 iv 154 (pz_up (iv 154) 0 0)) 155 (pz_up (pz_up (pz_up (pz_up (pz_up (iv 155) (212 + (4 * ((iv 155) 2))).toNat f) ((212 + (4 * ((iv 155) 2))) + 1).toNat t) ((212 + (4 * ((iv 155) 2))) + 2).toNat l) ((212 + (4 * ((iv 155) 2))) + 3).toNat g) 2 (((iv 155) 2) + 1))) := pz_R_mem (s_X11_tells ((((iv 155) 2) + 1) - 1)) (by rw [pz_u1_in (r := 154) (q := 155) (by decide)]; rw [pz_u1_top (r := 154)]; rfl)
                                                    refine w_call hc28 rfl (pz_cokI is_154 rfl) ?_
                                                    refine w_ret rfl ?_
                                                    first | exact lf_i (by first | rfl | omega) rfl | (exfalso; omega))
                                               · first
                                                 | (exfalso; first | omega | contradiction)
                                                 | (refine w_nil ?_
                                                    refine pz_G_of pz_b212_94 ?_
                                                    refine w_loc rfl ?_
                                                    refine w_pure rfl ?_
                                                    have hc29 : pz_R (pz_Sh L) 191 [.inr (.inl 154), .inl 3] (pz_u1 (pz_u1 iv 154 (iv 154)) 155 (iv 155)) (.inl (some (.inl 0))) (pz_u1 (pz_u1 iv 154 (pz_up (iv 154) 0 3)) 155 (iv 155)) := pz_R_mem (s_X11_fails 3) (by rw [pz_u1_in (r := 154) (q := 155) (by decide)]; rw [pz_u1_top (r := 154)]; rfl)
                                                    refine w_call hc29 rfl (pz_cokI is_154 rfl) ?_
                                                    refine w_ret rfl ?_
                                                    first | exact lf_i (by first | rfl | omega) rfl | (exfalso; omega)))))))
                      · first
                        | (exfalso; first | omega | contradiction)
                        | (refine w_nil ?_
                           refine pz_G_of pz_b212_50 ?_
                           refine w_loc rfl ?_
                           refine w_pure rfl ?_
                           have hc30 : pz_R (pz_Sh L) 191 [.inr (.inl 154), .inl 2] (pz_u1 (pz_u1 iv 154 (iv 154)) 155 (iv 155)) (.inl (some (.inl 0))) (pz_u1 (pz_u1 iv 154 (pz_up (iv 154) 0 2)) 155 (iv 155)) := pz_R_mem (s_X11_fails 2) (by rw [pz_u1_in (r := 154) (q := 155) (by decide)]; rw [pz_u1_top (r := 154)]; rfl)
                           refine w_call hc30 rfl (pz_cokI is_154 rfl) ?_
                           refine w_ret rfl ?_
                           first | exact lf_i (by first | rfl | omega) rfl | (exfalso; omega)))))
       · first
         | (exfalso; first | omega | contradiction)
         | (refine w_nil ?_
            refine pz_G_of pz_b212_16 ?_
            refine w_loc rfl ?_
            refine w_pure rfl ?_
            have hc31 : pz_R (pz_Sh L) 191 [.inr (.inl 154), .inl 1] (pz_u1 (pz_u1 iv 154 (iv 154)) 155 (iv 155)) (.inl (some (.inl 0))) (pz_u1 (pz_u1 iv 154 (pz_up (iv 154) 0 1)) 155 (iv 155)) := pz_R_mem (s_X11_fails 1) (by rw [pz_u1_in (r := 154) (q := 155) (by decide)]; rw [pz_u1_top (r := 154)]; rfl)
            refine w_call hc31 rfl (pz_cokI is_154 rfl) ?_
            refine w_ret rfl ?_
            first | exact lf_i (by first | rfl | omega) rfl | (exfalso; omega)))

theorem s_X11_addSpan_3c {L : Nat} {iv : Nat → Nat → Int} (f : Int) (t : Int) (l : Int) (g : Int) (hk : q_KR (iv 155)) (hcase0 : 0 ≤ f ∧ f ≤ iv 155 0 - 1 ∧ 0 ≤ t ∧ t ≤ iv 155 0 - 1) (hcase1 : f < t ∧ 1 ≤ l ∧ l ≤ 200 ∧ l ≤ g ∧ g ≤ 200) (hcase2 : iv 155 2 ≠ 3) (hcase3 : ¬ (q_exi (fun s => iv 155 (212 + 4 * s + 1).toNat = t) (iv 155 2))) (hcase4 : 0 < f ∧ q_sta (iv 155) f) : pz_R (pz_Sh L) 212 [.inr (.inl 154), .inl f, .inl t, .inl l, .inl g] iv (.inl (some (.inl 0))) (pz_u1 (pz_u1 iv 154 (pz_up (iv 154) 0 3)) 155 (iv 155)) := by
  intro dv cc ss
  have hk0 := hk.r0
  refine pz_G_mem (iv2 := pz_u1 (pz_u1 iv 154 (iv 154)) 155 (iv 155)) (by exact ((pz_u1_self iv 154).symm).trans (pz_u1_self (pz_u1 iv 154 (iv 154)) 155).symm) ?_
  show pz_G 212 0 [some (.inr (.inl 154)), some (.inl f), some (.inl t), some (.inl l), some (.inl g), none] [] (pz_Sh L, pz_u1 (pz_u1 iv 154 (iv 154)) 155 (iv 155), dv, cc, ss) (pz_P (pz_Sh L) (.inl (some (.inl 0))) (pz_u1 (pz_u1 iv 154 (pz_up (iv 154) 0 3)) 155 (iv 155)) dv cc ss)
  refine pz_G_of pz_b212_0 ?_
  refine w_loc rfl ?_
  refine w_loc rfl ?_
  have hc1 : pz_R (pz_Sh L) 194 [.inr (.inl 154), .inl f] (pz_u1 (pz_u1 iv 154 (iv 154)) 155 (iv 155)) (.inl (some (.inl (pz_bi (0 ≤ f ∧ f ≤ (iv 155) 0 - 1))))) (pz_u1 (pz_u1 iv 154 (iv 154)) 155 (iv 155)) := s_X11_isEvent f (by show q_KR (iv 155); exact hk)
  refine w_call hc1 rfl (pz_cokI is_154 rfl) ?_
  refine w_beq (fun h2 => ?_) (fun h2 => ?_)
  · first
    | (exfalso; first | omega | contradiction)
    | (refine pz_G_of pz_b212_16 ?_
       refine w_loc rfl ?_
       refine w_pure rfl ?_
       have hc3 : pz_R (pz_Sh L) 191 [.inr (.inl 154), .inl 1] (pz_u1 (pz_u1 iv 154 (iv 154)) 155 (iv 155)) (.inl (some (.inl 0))) (pz_u1 (pz_u1 iv 154 (pz_up (iv 154) 0 1)) 155 (iv 155)) := pz_R_mem (s_X11_fails 1) (by rw [pz_u1_in (r := 154) (q := 155) (by decide)]; rw [pz_u1_top (r := 154)]; rfl)
       refine w_call hc3 rfl (pz_cokI is_154 rfl) ?_
       refine w_ret rfl ?_
       first | exact lf_i (by first | rfl | omega) rfl | (exfalso; omega))
  · first
    | (exfalso; first | omega | contradiction)
    | (refine w_loc rfl ?_
       refine w_loc rfl ?_
       have hc4 : pz_R (pz_Sh L) 194 [.inr (.inl 154), .inl t] (pz_u1 (pz_u1 iv 154 (iv 154)) 155 (iv 155)) (.inl (some (.inl (pz_bi (0 ≤ t ∧ t ≤ (iv 155) 0 - 1))))) (pz_u1 (pz_u1 iv 154 (iv 154)) 155 (iv 155)) := s_X11_isEvent t (by show q_KR (iv 155); exact hk)
       refine w_call hc4 rfl (pz_cokI is_154 rfl) ?_
       refine w_bne (fun h5 => ?_) (fun h5 => ?_)
       · first
         | (exfalso; first | omega | contradiction)
         | (refine pz_G_of pz_b212_22 ?_
            refine w_loc rfl ?_
            refine w_loc rfl ?_
            refine w_ile (fun h6 => ?_) (fun h6 => ?_)
            · first
              | (exfalso; first | omega | contradiction)
              | (refine pz_G_of pz_b212_50 ?_
                 refine w_loc rfl ?_
                 refine w_pure rfl ?_
                 have hc7 : pz_R (pz_Sh L) 191 [.inr (.inl 154), .inl 2] (pz_u1 (pz_u1 iv 154 (iv 154)) 155 (iv 155)) (.inl (some (.inl 0))) (pz_u1 (pz_u1 iv 154 (pz_up (iv 154) 0 2)) 155 (iv 155)) := pz_R_mem (s_X11_fails 2) (by rw [pz_u1_in (r := 154) (q := 155) (by decide)]; rw [pz_u1_top (r := 154)]; rfl)
                 refine w_call hc7 rfl (pz_cokI is_154 rfl) ?_
                 refine w_ret rfl ?_
                 first | exact lf_i (by first | rfl | omega) rfl | (exfalso; omega))
            · first
              | (exfalso; first | omega | contradiction)
              | (refine w_loc rfl ?_
                 refine w_pure rfl ?_
                 refine w_pure rfl ?_
                 have hc8 : pz_R (pz_Sh L) 190 [.inl l, .inl 1, .inl 200] (pz_u1 (pz_u1 iv 154 (iv 154)) 155 (iv 155)) (.inl (some (.inl (pz_bi (1 ≤ l ∧ l ≤ 200))))) (pz_u1 (pz_u1 iv 154 (iv 154)) 155 (iv 155)) := s_X11_in l 1 200
                 refine w_call hc8 rfl rfl ?_
                 refine w_beq (fun h9 => ?_) (fun h9 => ?_)
                 · first
                   | (exfalso; first | omega | contradiction)
                   | (refine pz_G_of pz_b212_50 ?_
                      refine w_loc rfl ?_
                      refine w_pure rfl ?_
                      have hc10 : pz_R (pz_Sh L) 191 [.inr (.inl 154), .inl 2] (pz_u1 (pz_u1 iv 154 (iv 154)) 155 (iv 155)) (.inl (some (.inl 0))) (pz_u1 (pz_u1 iv 154 (pz_up (iv 154) 0 2)) 155 (iv 155)) := pz_R_mem (s_X11_fails 2) (by rw [pz_u1_in (r := 154) (q := 155) (by decide)]; rw [pz_u1_top (r := 154)]; rfl)
                      refine w_call hc10 rfl (pz_cokI is_154 rfl) ?_
                      refine w_ret rfl ?_
                      first | exact lf_i (by first | rfl | omega) rfl | (exfalso; omega))
                 · first
                   | (exfalso; first | omega | contradiction)
                   | (refine w_loc rfl ?_
                      refine w_loc rfl ?_
                      refine w_pure rfl ?_
                      have hc11 : pz_R (pz_Sh L) 190 [.inl g, .inl l, .inl 200] (pz_u1 (pz_u1 iv 154 (iv 154)) 155 (iv 155)) (.inl (some (.inl (pz_bi (l ≤ g ∧ g ≤ 200))))) (pz_u1 (pz_u1 iv 154 (iv 154)) 155 (iv 155)) := s_X11_in g l 200
                      refine w_call hc11 rfl rfl ?_
                      refine w_bne (fun h12 => ?_) (fun h12 => ?_)
                      · first
                        | (exfalso; first | omega | contradiction)
                        | (refine pz_G_of pz_b212_56 ?_
                           refine w_loc rfl ?_
                           refine w_getR (q := 155) is_154 rf_154_1 ?_
                           refine w_pure rfl ?_
                           refine w_iald (v := (iv 155) 2) is_155 ln_155 ⟨by omega, by omega⟩ rfl ?_
                           refine w_pure rfl ?_
                           refine w_ieq (fun h13 => ?_) (fun h13 => ?_)
                           · first
                             | (exfalso; first | omega | contradiction)
                             | (refine pz_G_of pz_b212_94 ?_
                                refine w_loc rfl ?_
                                refine w_pure rfl ?_
                                have hc14 : pz_R (pz_Sh L) 191 [.inr (.inl 154), .inl 3] (pz_u1 (pz_u1 iv 154 (iv 154)) 155 (iv 155)) (.inl (some (.inl 0))) (pz_u1 (pz_u1 iv 154 (pz_up (iv 154) 0 3)) 155 (iv 155)) := pz_R_mem (s_X11_fails 3) (by rw [pz_u1_in (r := 154) (q := 155) (by decide)]; rw [pz_u1_top (r := 154)]; rfl)
                                refine w_call hc14 rfl (pz_cokI is_154 rfl) ?_
                                refine w_ret rfl ?_
                                first | exact lf_i (by first | rfl | omega) rfl | (exfalso; omega))
                           · first
                             | (exfalso; first | omega | contradiction)
                             | (refine w_loc rfl ?_
                                refine w_loc rfl ?_
                                have hc15 : pz_R (pz_Sh L) 211 [.inr (.inl 154), .inl t] (pz_u1 (pz_u1 iv 154 (iv 154)) 155 (iv 155)) (.inl (some (.inl (pz_bi (q_exi (fun s => (iv 155) (212 + 4 * s + 1).toNat = t) ((iv 155) 2)))))) (pz_u1 (pz_u1 iv 154 (iv 154)) 155 (iv 155)) := s_X11_isEnd t (by show q_KR (iv 155); exact hk)
                                refine w_call hc15 rfl (pz_cokI is_154 rfl) ?_
                                refine w_bne (fun h16 => ?_) (fun h16 => ?_)
                                · first
                                  | (exfalso; first | omega | contradiction)
                                  | (refine pz_G_of pz_b212_94 ?_
                                     refine w_loc rfl ?_
                                     refine w_pure rfl ?_
                                     have hc17 : pz_R (pz_Sh L) 191 [.inr (.inl 154), .inl 3] (pz_u1 (pz_u1 iv 154 (iv 154)) 155 (iv 155)) (.inl (some (.inl 0))) (pz_u1 (pz_u1 iv 154 (pz_up (iv 154) 0 3)) 155 (iv 155)) := pz_R_mem (s_X11_fails 3) (by rw [pz_u1_in (r := 154) (q := 155) (by decide)]; rw [pz_u1_top (r := 154)]; rfl)
                                     refine w_call hc17 rfl (pz_cokI is_154 rfl) ?_
                                     refine w_ret rfl ?_
                                     first | exact lf_i (by first | rfl | omega) rfl | (exfalso; omega))
                                · first
                                  | (exfalso; first | omega | contradiction)
                                  | (refine w_loc rfl ?_
                                     refine w_zle (fun h18 => ?_) (fun h18 => ?_)
                                     · first
                                       | (exfalso; first | omega | contradiction)
                                       | (refine pz_G_of pz_b212_86 ?_
                                          refine w_loc rfl ?_
                                          refine w_loc rfl ?_
                                          have hc19 : pz_R (pz_Sh L) 196 [.inr (.inl 154), .inl t] (pz_u1 (pz_u1 iv 154 (iv 154)) 155 (iv 155)) (.inl (some (.inl (pz_bi (q_sta (iv 155) t))))) (pz_u1 (pz_u1 iv 154 (iv 154)) 155 (iv 155)) := s_X11_hasStarted t (by show 0 ≤ t ∧ t ≤ 9; omega)
                                          refine w_call hc19 rfl (pz_cokI is_154 rfl) ?_
                                          refine w_beq (fun h20 => ?_) (fun h20 => ?_)
                                          · first
                                            | (exfalso; first | omega | contradiction)
                                            | (refine pz_G_of pz_b212_100 ?_
                                               refine w_pure rfl ?_
                                               refine w_pure rfl ?_
                                               refine w_loc rfl ?_
                                               refine w_getR (q := 155) is_154 rf_154_1 ?_
                                               refine w_pure rfl ?_
                                               refine w_iald (v := (iv 155) 2) is_155 ln_155 ⟨by omega, by omega⟩ rfl ?_
                                               refine w_imul (by omega) ?_
                                               refine w_iadd (by omega) ?_
                                               refine w_loc (ls' := [some (.inr (.inl 154)), some (.inl f), some (.inl t), some (.inl l), some (.inl g), some (.inl (212 + (4 * ((iv 155) 2))))]) (st' := []) rfl ?_
                                               refine w_loc rfl ?_
                                               refine w_getR (q := 155) is_154 rf_154_1 ?_
                                               refine w_loc rfl ?_
                                               refine w_loc rfl ?_
                                               refine w_iastm (iv2 := pz_u1 (pz_u1 iv 154 (iv 154)) 155 (pz_up (iv 155) (212 + (4 * ((iv 155) 2))).toNat f)) is_155 ln_155 ⟨by omega, by omega⟩ (by exact pz_u2_top _ _ _ _ _) ?_
                                               refine w_loc rfl ?_
                                               refine w_getR (q := 155) is_154 rf_154_1 ?_
                                               refine w_loc rfl ?_
                                               refine w_pure rfl ?_
                                               refine w_iadd (by omega) ?_
                                               refine w_loc rfl ?_
                                               refine w_iastm (iv2 := pz_u1 (pz_u1 iv 154 (iv 154)) 155 (pz_up (pz_up (iv 155) (212 + (4 * ((iv 155) 2))).toNat f) ((212 + (4 * ((iv 155) 2))) + 1).toNat t)) is_155 ln_155 ⟨by omega, by omega⟩ (by exact pz_u2_top _ _ _ _ _) ?_
                                               refine w_loc rfl ?_
                                               refine w_getR (q := 155) is_154 rf_154_1 ?_
                                               refine w_loc rfl ?_
                                               refine w_pure rfl ?_
                                               refine w_iadd (by omega) ?_
                                               refine w_loc rfl ?_
                                               refine w_iastm (iv2 := pz_u1 (pz_u1 iv 154 (iv 154)) 155 (pz_up (pz_up (pz_up (iv 155) (212 + (4 * ((iv 155) 2))).toNat f) ((212 + (4 * ((iv 155) 2))) + 1).toNat t) ((212 + (4 * ((iv 155) 2))) + 2).toNat l)) is_155 ln_155 ⟨by omega, by omega⟩ (by exact pz_u2_top _ _ _ _ _) ?_
                                               refine w_loc rfl ?_
                                               refine w_getR (q := 155) is_154 rf_154_1 ?_
                                               refine w_loc rfl ?_
                                               refine w_pure rfl ?_
                                               refine w_iadd (by omega) ?_
                                               refine w_loc rfl ?_
                                               refine w_iastm (iv2 := pz_u1 (pz_u1 iv 154 (iv 154)) 155 (pz_up (pz_up (pz_up (pz_up (iv 155) (212 + (4 * ((iv 155) 2))).toNat f) ((212 + (4 * ((iv 155) 2))) + 1).toNat t) ((212 + (4 * ((iv 155) 2))) + 2).toNat l) ((212 + (4 * ((iv 155) 2))) + 3).toNat g)) is_155 ln_155 ⟨by omega, by omega⟩ (by exact pz_u2_top _ _ _ _ _) ?_
                                               refine w_loc rfl ?_
                                               refine w_getR (q := 155) is_154 rf_154_1 ?_
                                               refine w_pure rfl ?_
                                               refine w_pure rfl ?_
                                               refine w_iald (v := (iv 155) 2) is_155 ln_155 ⟨by omega, by omega⟩ (by show (pz_up (pz_up (pz_up (pz_up (iv 155) (212 + (4 * ((iv 155) 2))).toNat f) ((212 + (4 * ((iv 155) 2))) + 1).toNat t) ((212 + (4 * ((iv 155) 2))) + 2).toNat l) ((212 + (4 * ((iv 155) 2))) + 3).toNat g) 2 = _; rw [pz_up_ne (by omega), pz_up_ne (by omega), pz_up_ne (by omega), pz_up_ne (by omega)]) ?_
                                               refine w_pure rfl ?_
                                               refine w_iadd (by omega) ?_
                                               refine w_iastm (iv2 := pz_u1 (pz_u1 iv 154 (iv 154)) 155 (pz_up (pz_up (pz_up (pz_up (pz_up (iv 155) (212 + (4 * ((iv 155) 2))).toNat f) ((212 + (4 * ((iv 155) 2))) + 1).toNat t) ((212 + (4 * ((iv 155) 2))) + 2).toNat l) ((212 + (4 * ((iv 155) 2))) + 3).toNat g) 2 (((iv 155) 2) + 1))) is_155 ln_155 ⟨by omega, by omega⟩ (by exact pz_u2_top _ _ _ _ _) ?_
                                               refine w_loc rfl ?_
                                               refine w_loc rfl ?_
                                               refine w_getR (q := 155) is_154 rf_154_1 ?_
                                               refine w_pure rfl ?_
                                               refine w_iald (v := ((iv 155) 2) + 1) is_155 ln_155 ⟨by omega, by omega⟩ rfl ?_
                                               refine w_pure rfl ?_
                                               refine w_isub (by omega) ?_
                                               have hc21 : pz_R (pz_Sh L) 192 [.inr (.inl 154), .inl ((((iv 155) 2) + 1) - 1)] (pz_u1 (pz_u1 iv 154 (iv 154)) 155 (pz_up (pz_up (pz_up (pz_up (pz_up (iv 155) (212 + (4 * ((iv 155) 2))).toNat f) ((212 + (4 * ((iv 155) 2))) + 1).toNat t) ((212 + (4 * ((iv 155) 2))) + 2).toNat l) ((212 + (4 * ((iv 155) 2))) + 3).toNat g) 2 (((iv 155) 2) + 1))) (.inl (some (.inl ((((iv 155) 2) + 1) - 1)))) (pz_u1 (pz_u1 iv 154 (pz_up (iv 154) 0 0)) 155 (pz_up (pz_up (pz_up (pz_up (pz_up (iv 155) (212 + (4 * ((iv 155) 2))).toNat f) ((212 + (4 * ((iv 155) 2))) + 1).toNat t) ((212 + (4 * ((iv 155) 2))) + 2).toNat l) ((212 + (4 * ((iv 155) 2))) + 3).toNat g) 2 (((iv 155) 2) + 1))) := pz_R_mem (s_X11_tells ((((iv 155) 2) + 1) - 1)) (by rw [pz_u1_in (r := 154) (q := 155) (by decide)]; rw [pz_u1_top (r := 154)]; rfl)
                                               refine w_call hc21 rfl (pz_cokI is_154 rfl) ?_
                                               refine w_ret rfl ?_
                                               first | exact lf_i (by first | rfl | omega) rfl | (exfalso; omega))
                                          · first
                                            | (exfalso; first | omega | contradiction)
                                            | (refine w_nil ?_
                                               refine pz_G_of pz_b212_94 ?_
                                               refine w_loc rfl ?_
                                               refine w_pure rfl ?_
                                               have hc22 : pz_R (pz_Sh L) 191 [.inr (.inl 154), .inl 3] (pz_u1 (pz_u1 iv 154 (iv 154)) 155 (iv 155)) (.inl (some (.inl 0))) (pz_u1 (pz_u1 iv 154 (pz_up (iv 154) 0 3)) 155 (iv 155)) := pz_R_mem (s_X11_fails 3) (by rw [pz_u1_in (r := 154) (q := 155) (by decide)]; rw [pz_u1_top (r := 154)]; rfl)
                                               refine w_call hc22 rfl (pz_cokI is_154 rfl) ?_
                                               refine w_ret rfl ?_
                                               first | exact lf_i (by first | rfl | omega) rfl | (exfalso; omega)))
                                     · first
                                       | (exfalso; first | omega | contradiction)
                                       | (refine w_loc rfl ?_
                                          refine w_loc rfl ?_
                                          have hc23 : pz_R (pz_Sh L) 196 [.inr (.inl 154), .inl f] (pz_u1 (pz_u1 iv 154 (iv 154)) 155 (iv 155)) (.inl (some (.inl (pz_bi (q_sta (iv 155) f))))) (pz_u1 (pz_u1 iv 154 (iv 154)) 155 (iv 155)) := s_X11_hasStarted f (by show 0 ≤ f ∧ f ≤ 9; omega)
                                          refine w_call hc23 rfl (pz_cokI is_154 rfl) ?_
                                          refine w_bne (fun h24 => ?_) (fun h24 => ?_)
                                          · first
                                            | (exfalso; first | omega | contradiction)
                                            | (refine pz_G_of pz_b212_94 ?_
                                               refine w_loc rfl ?_
                                               refine w_pure rfl ?_
                                               have hc25 : pz_R (pz_Sh L) 191 [.inr (.inl 154), .inl 3] (pz_u1 (pz_u1 iv 154 (iv 154)) 155 (iv 155)) (.inl (some (.inl 0))) (pz_u1 (pz_u1 iv 154 (pz_up (iv 154) 0 3)) 155 (iv 155)) := pz_R_mem (s_X11_fails 3) (by rw [pz_u1_in (r := 154) (q := 155) (by decide)]; rw [pz_u1_top (r := 154)]; rfl)
                                               refine w_call hc25 rfl (pz_cokI is_154 rfl) ?_
                                               refine w_ret rfl ?_
                                               first | exact lf_i (by first | rfl | omega) rfl | (exfalso; omega))
                                          · first
                                            | (exfalso; first | omega | contradiction)
                                            | (refine w_nil ?_
                                               refine pz_G_of pz_b212_86 ?_
                                               refine w_loc rfl ?_
                                               refine w_loc rfl ?_
                                               have hc26 : pz_R (pz_Sh L) 196 [.inr (.inl 154), .inl t] (pz_u1 (pz_u1 iv 154 (iv 154)) 155 (iv 155)) (.inl (some (.inl (pz_bi (q_sta (iv 155) t))))) (pz_u1 (pz_u1 iv 154 (iv 154)) 155 (iv 155)) := s_X11_hasStarted t (by show 0 ≤ t ∧ t ≤ 9; omega)
                                               refine w_call hc26 rfl (pz_cokI is_154 rfl) ?_
                                               refine w_beq (fun h27 => ?_) (fun h27 => ?_)
                                               · first
                                                 | (exfalso; first | omega | contradiction)
                                                 | (refine pz_G_of pz_b212_100 ?_
                                                    refine w_pure rfl ?_
                                                    refine w_pure rfl ?_
                                                    refine w_loc rfl ?_
                                                    refine w_getR (q := 155) is_154 rf_154_1 ?_
                                                    refine w_pure rfl ?_
                                                    refine w_iald (v := (iv 155) 2) is_155 ln_155 ⟨by omega, by omega⟩ rfl ?_
                                                    refine w_imul (by omega) ?_
                                                    refine w_iadd (by omega) ?_
                                                    refine w_loc (ls' := [some (.inr (.inl 154)), some (.inl f), some (.inl t), some (.inl l), some (.inl g), some (.inl (212 + (4 * ((iv 155) 2))))]) (st' := []) rfl ?_
                                                    refine w_loc rfl ?_
                                                    refine w_getR (q := 155) is_154 rf_154_1 ?_
                                                    refine w_loc rfl ?_
                                                    refine w_loc rfl ?_
                                                    refine w_iastm (iv2 := pz_u1 (pz_u1 iv 154 (iv 154)) 155 (pz_up (iv 155) (212 + (4 * ((iv 155) 2))).toNat f)) is_155 ln_155 ⟨by omega, by omega⟩ (by exact pz_u2_top _ _ _ _ _) ?_
                                                    refine w_loc rfl ?_
                                                    refine w_getR (q := 155) is_154 rf_154_1 ?_
                                                    refine w_loc rfl ?_
                                                    refine w_pure rfl ?_
                                                    refine w_iadd (by omega) ?_
                                                    refine w_loc rfl ?_
                                                    refine w_iastm (iv2 := pz_u1 (pz_u1 iv 154 (iv 154)) 155 (pz_up (pz_up (iv 155) (212 + (4 * ((iv 155) 2))).toNat f) ((212 + (4 * ((iv 155) 2))) + 1).toNat t)) is_155 ln_155 ⟨by omega, by omega⟩ (by exact pz_u2_top _ _ _ _ _) ?_
                                                    refine w_loc rfl ?_
                                                    refine w_getR (q := 155) is_154 rf_154_1 ?_
                                                    refine w_loc rfl ?_
                                                    refine w_pure rfl ?_
                                                    refine w_iadd (by omega) ?_
                                                    refine w_loc rfl ?_
                                                    refine w_iastm (iv2 := pz_u1 (pz_u1 iv 154 (iv 154)) 155 (pz_up (pz_up (pz_up (iv 155) (212 + (4 * ((iv 155) 2))).toNat f) ((212 + (4 * ((iv 155) 2))) + 1).toNat t) ((212 + (4 * ((iv 155) 2))) + 2).toNat l)) is_155 ln_155 ⟨by omega, by omega⟩ (by exact pz_u2_top _ _ _ _ _) ?_
                                                    refine w_loc rfl ?_
                                                    refine w_getR (q := 155) is_154 rf_154_1 ?_
                                                    refine w_loc rfl ?_
                                                    refine w_pure rfl ?_
                                                    refine w_iadd (by omega) ?_
                                                    refine w_loc rfl ?_
                                                    refine w_iastm (iv2 := pz_u1 (pz_u1 iv 154 (iv 154)) 155 (pz_up (pz_up (pz_up (pz_up (iv 155) (212 + (4 * ((iv 155) 2))).toNat f) ((212 + (4 * ((iv 155) 2))) + 1).toNat t) ((212 + (4 * ((iv 155) 2))) + 2).toNat l) ((212 + (4 * ((iv 155) 2))) + 3).toNat g)) is_155 ln_155 ⟨by omega, by omega⟩ (by exact pz_u2_top _ _ _ _ _) ?_
                                                    refine w_loc rfl ?_
                                                    refine w_getR (q := 155) is_154 rf_154_1 ?_
                                                    refine w_pure rfl ?_
                                                    refine w_pure rfl ?_
                                                    refine w_iald (v := (iv 155) 2) is_155 ln_155 ⟨by omega, by omega⟩ (by show (pz_up (pz_up (pz_up (pz_up (iv 155) (212 + (4 * ((iv 155) 2))).toNat f) ((212 + (4 * ((iv 155) 2))) + 1).toNat t) ((212 + (4 * ((iv 155) 2))) + 2).toNat l) ((212 + (4 * ((iv 155) 2))) + 3).toNat g) 2 = _; rw [pz_up_ne (by omega), pz_up_ne (by omega), pz_up_ne (by omega), pz_up_ne (by omega)]) ?_
                                                    refine w_pure rfl ?_
                                                    refine w_iadd (by omega) ?_
                                                    refine w_iastm (iv2 := pz_u1 (pz_u1 iv 154 (iv 154)) 155 (pz_up (pz_up (pz_up (pz_up (pz_up (iv 155) (212 + (4 * ((iv 155) 2))).toNat f) ((212 + (4 * ((iv 155) 2))) + 1).toNat t) ((212 + (4 * ((iv 155) 2))) + 2).toNat l) ((212 + (4 * ((iv 155) 2))) + 3).toNat g) 2 (((iv 155) 2) + 1))) is_155 ln_155 ⟨by omega, by omega⟩ (by exact pz_u2_top _ _ _ _ _) ?_
                                                    refine w_loc rfl ?_
                                                    refine w_loc rfl ?_
                                                    refine w_getR (q := 155) is_154 rf_154_1 ?_
                                                    refine w_pure rfl ?_
                                                    refine w_iald (v := ((iv 155) 2) + 1) is_155 ln_155 ⟨by omega, by omega⟩ rfl ?_
                                                    refine w_pure rfl ?_
                                                    refine w_isub (by omega) ?_
                                                    have hc28 : pz_R (pz_Sh L) 192 [.inr (.inl 154), .inl ((((iv 155) 2) + 1) - 1)] (pz_u1 (pz_u1 iv 154 (iv 154)) 155 (pz_up (pz_up (pz_up (pz_up (pz_up (iv 155) (212 + (4 * ((iv 155) 2))).toNat f) ((212 + (4 * ((iv 155) 2))) + 1).toNat t) ((212 + (4 * ((iv 155) 2))) + 2).toNat l) ((212 + (4 * ((iv 155) 2))) + 3).toNat g) 2 (((iv 155) 2) + 1))) (.inl (some (.inl ((((iv 155) 2) + 1) - 1)))) (pz_u1 (pz_u1 iv 154 (pz_up (iv 154) 0 0)) 155 (pz_up (pz_up (pz_up (pz_up (pz_up (iv 155) (212 + (4 * ((iv 155) 2))).toNat f) ((212 + (4 * ((iv 155) 2))) + 1).toNat t) ((212 + (4 * ((iv 155) 2))) + 2).toNat l) ((212 + (4 * ((iv 155) 2))) + 3).toNat g) 2 (((iv 155) 2) + 1))) := pz_R_mem (s_X11_tells ((((iv 155) 2) + 1) - 1)) (by rw [pz_u1_in (r := 154) (q := 155) (by decide)]; rw [pz_u1_top (r := 154)]; rfl)
                                                    refine w_call hc28 rfl (pz_cokI is_154 rfl) ?_
                                                    refine w_ret rfl ?_
                                                    first | exact lf_i (by first | rfl | omega) rfl | (exfalso; omega))
                                               · first
                                                 | (exfalso; first | omega | contradiction)
                                                 | (refine w_nil ?_
                                                    refine pz_G_of pz_b212_94 ?_
                                                    refine w_loc rfl ?_
                                                    refine w_pure rfl ?_
                                                    have hc29 : pz_R (pz_Sh L) 191 [.inr (.inl 154), .inl 3] (pz_u1 (pz_u1 iv 154 (iv 154)) 155 (iv 155)) (.inl (some (.inl 0))) (pz_u1 (pz_u1 iv 154 (pz_up (iv 154) 0 3)) 155 (iv 155)) := pz_R_mem (s_X11_fails 3) (by rw [pz_u1_in (r := 154) (q := 155) (by decide)]; rw [pz_u1_top (r := 154)]; rfl)
                                                    refine w_call hc29 rfl (pz_cokI is_154 rfl) ?_
                                                    refine w_ret rfl ?_
                                                    first | exact lf_i (by first | rfl | omega) rfl | (exfalso; omega)))))))
                      · first
                        | (exfalso; first | omega | contradiction)
                        | (refine w_nil ?_
                           refine pz_G_of pz_b212_50 ?_
                           refine w_loc rfl ?_
                           refine w_pure rfl ?_
                           have hc30 : pz_R (pz_Sh L) 191 [.inr (.inl 154), .inl 2] (pz_u1 (pz_u1 iv 154 (iv 154)) 155 (iv 155)) (.inl (some (.inl 0))) (pz_u1 (pz_u1 iv 154 (pz_up (iv 154) 0 2)) 155 (iv 155)) := pz_R_mem (s_X11_fails 2) (by rw [pz_u1_in (r := 154) (q := 155) (by decide)]; rw [pz_u1_top (r := 154)]; rfl)
                           refine w_call hc30 rfl (pz_cokI is_154 rfl) ?_
                           refine w_ret rfl ?_
                           first | exact lf_i (by first | rfl | omega) rfl | (exfalso; omega)))))
       · first
         | (exfalso; first | omega | contradiction)
         | (refine w_nil ?_
            refine pz_G_of pz_b212_16 ?_
            refine w_loc rfl ?_
            refine w_pure rfl ?_
            have hc31 : pz_R (pz_Sh L) 191 [.inr (.inl 154), .inl 1] (pz_u1 (pz_u1 iv 154 (iv 154)) 155 (iv 155)) (.inl (some (.inl 0))) (pz_u1 (pz_u1 iv 154 (pz_up (iv 154) 0 1)) 155 (iv 155)) := pz_R_mem (s_X11_fails 1) (by rw [pz_u1_in (r := 154) (q := 155) (by decide)]; rw [pz_u1_top (r := 154)]; rfl)
            refine w_call hc31 rfl (pz_cokI is_154 rfl) ?_
            refine w_ret rfl ?_
            first | exact lf_i (by first | rfl | omega) rfl | (exfalso; omega)))

theorem s_X11_addSpan_3d {L : Nat} {iv : Nat → Nat → Int} (f : Int) (t : Int) (l : Int) (g : Int) (hk : q_KR (iv 155)) (hcase0 : 0 ≤ f ∧ f ≤ iv 155 0 - 1 ∧ 0 ≤ t ∧ t ≤ iv 155 0 - 1) (hcase1 : f < t ∧ 1 ≤ l ∧ l ≤ 200 ∧ l ≤ g ∧ g ≤ 200) (hcase2 : iv 155 2 ≠ 3) (hcase3 : ¬ (q_exi (fun s => iv 155 (212 + 4 * s + 1).toNat = t) (iv 155 2))) (hcase4 : ¬ (0 < f ∧ q_sta (iv 155) f)) (hcase5 : q_sta (iv 155) t) : pz_R (pz_Sh L) 212 [.inr (.inl 154), .inl f, .inl t, .inl l, .inl g] iv (.inl (some (.inl 0))) (pz_u1 (pz_u1 iv 154 (pz_up (iv 154) 0 3)) 155 (iv 155)) := by
  intro dv cc ss
  have hk0 := hk.r0
  refine pz_G_mem (iv2 := pz_u1 (pz_u1 iv 154 (iv 154)) 155 (iv 155)) (by exact ((pz_u1_self iv 154).symm).trans (pz_u1_self (pz_u1 iv 154 (iv 154)) 155).symm) ?_
  show pz_G 212 0 [some (.inr (.inl 154)), some (.inl f), some (.inl t), some (.inl l), some (.inl g), none] [] (pz_Sh L, pz_u1 (pz_u1 iv 154 (iv 154)) 155 (iv 155), dv, cc, ss) (pz_P (pz_Sh L) (.inl (some (.inl 0))) (pz_u1 (pz_u1 iv 154 (pz_up (iv 154) 0 3)) 155 (iv 155)) dv cc ss)
  refine pz_G_of pz_b212_0 ?_
  refine w_loc rfl ?_
  refine w_loc rfl ?_
  have hc1 : pz_R (pz_Sh L) 194 [.inr (.inl 154), .inl f] (pz_u1 (pz_u1 iv 154 (iv 154)) 155 (iv 155)) (.inl (some (.inl (pz_bi (0 ≤ f ∧ f ≤ (iv 155) 0 - 1))))) (pz_u1 (pz_u1 iv 154 (iv 154)) 155 (iv 155)) := s_X11_isEvent f (by show q_KR (iv 155); exact hk)
  refine w_call hc1 rfl (pz_cokI is_154 rfl) ?_
  refine w_beq (fun h2 => ?_) (fun h2 => ?_)
  · first
    | (exfalso; first | omega | contradiction)
    | (refine pz_G_of pz_b212_16 ?_
       refine w_loc rfl ?_
       refine w_pure rfl ?_
       have hc3 : pz_R (pz_Sh L) 191 [.inr (.inl 154), .inl 1] (pz_u1 (pz_u1 iv 154 (iv 154)) 155 (iv 155)) (.inl (some (.inl 0))) (pz_u1 (pz_u1 iv 154 (pz_up (iv 154) 0 1)) 155 (iv 155)) := pz_R_mem (s_X11_fails 1) (by rw [pz_u1_in (r := 154) (q := 155) (by decide)]; rw [pz_u1_top (r := 154)]; rfl)
       refine w_call hc3 rfl (pz_cokI is_154 rfl) ?_
       refine w_ret rfl ?_
       first | exact lf_i (by first | rfl | omega) rfl | (exfalso; omega))
  · first
    | (exfalso; first | omega | contradiction)
    | (refine w_loc rfl ?_
       refine w_loc rfl ?_
       have hc4 : pz_R (pz_Sh L) 194 [.inr (.inl 154), .inl t] (pz_u1 (pz_u1 iv 154 (iv 154)) 155 (iv 155)) (.inl (some (.inl (pz_bi (0 ≤ t ∧ t ≤ (iv 155) 0 - 1))))) (pz_u1 (pz_u1 iv 154 (iv 154)) 155 (iv 155)) := s_X11_isEvent t (by show q_KR (iv 155); exact hk)
       refine w_call hc4 rfl (pz_cokI is_154 rfl) ?_
       refine w_bne (fun h5 => ?_) (fun h5 => ?_)
       · first
         | (exfalso; first | omega | contradiction)
         | (refine pz_G_of pz_b212_22 ?_
            refine w_loc rfl ?_
            refine w_loc rfl ?_
            refine w_ile (fun h6 => ?_) (fun h6 => ?_)
            · first
              | (exfalso; first | omega | contradiction)
              | (refine pz_G_of pz_b212_50 ?_
                 refine w_loc rfl ?_
                 refine w_pure rfl ?_
                 have hc7 : pz_R (pz_Sh L) 191 [.inr (.inl 154), .inl 2] (pz_u1 (pz_u1 iv 154 (iv 154)) 155 (iv 155)) (.inl (some (.inl 0))) (pz_u1 (pz_u1 iv 154 (pz_up (iv 154) 0 2)) 155 (iv 155)) := pz_R_mem (s_X11_fails 2) (by rw [pz_u1_in (r := 154) (q := 155) (by decide)]; rw [pz_u1_top (r := 154)]; rfl)
                 refine w_call hc7 rfl (pz_cokI is_154 rfl) ?_
                 refine w_ret rfl ?_
                 first | exact lf_i (by first | rfl | omega) rfl | (exfalso; omega))
            · first
              | (exfalso; first | omega | contradiction)
              | (refine w_loc rfl ?_
                 refine w_pure rfl ?_
                 refine w_pure rfl ?_
                 have hc8 : pz_R (pz_Sh L) 190 [.inl l, .inl 1, .inl 200] (pz_u1 (pz_u1 iv 154 (iv 154)) 155 (iv 155)) (.inl (some (.inl (pz_bi (1 ≤ l ∧ l ≤ 200))))) (pz_u1 (pz_u1 iv 154 (iv 154)) 155 (iv 155)) := s_X11_in l 1 200
                 refine w_call hc8 rfl rfl ?_
                 refine w_beq (fun h9 => ?_) (fun h9 => ?_)
                 · first
                   | (exfalso; first | omega | contradiction)
                   | (refine pz_G_of pz_b212_50 ?_
                      refine w_loc rfl ?_
                      refine w_pure rfl ?_
                      have hc10 : pz_R (pz_Sh L) 191 [.inr (.inl 154), .inl 2] (pz_u1 (pz_u1 iv 154 (iv 154)) 155 (iv 155)) (.inl (some (.inl 0))) (pz_u1 (pz_u1 iv 154 (pz_up (iv 154) 0 2)) 155 (iv 155)) := pz_R_mem (s_X11_fails 2) (by rw [pz_u1_in (r := 154) (q := 155) (by decide)]; rw [pz_u1_top (r := 154)]; rfl)
                      refine w_call hc10 rfl (pz_cokI is_154 rfl) ?_
                      refine w_ret rfl ?_
                      first | exact lf_i (by first | rfl | omega) rfl | (exfalso; omega))
                 · first
                   | (exfalso; first | omega | contradiction)
                   | (refine w_loc rfl ?_
                      refine w_loc rfl ?_
                      refine w_pure rfl ?_
                      have hc11 : pz_R (pz_Sh L) 190 [.inl g, .inl l, .inl 200] (pz_u1 (pz_u1 iv 154 (iv 154)) 155 (iv 155)) (.inl (some (.inl (pz_bi (l ≤ g ∧ g ≤ 200))))) (pz_u1 (pz_u1 iv 154 (iv 154)) 155 (iv 155)) := s_X11_in g l 200
                      refine w_call hc11 rfl rfl ?_
                      refine w_bne (fun h12 => ?_) (fun h12 => ?_)
                      · first
                        | (exfalso; first | omega | contradiction)
                        | (refine pz_G_of pz_b212_56 ?_
                           refine w_loc rfl ?_
                           refine w_getR (q := 155) is_154 rf_154_1 ?_
                           refine w_pure rfl ?_
                           refine w_iald (v := (iv 155) 2) is_155 ln_155 ⟨by omega, by omega⟩ rfl ?_
                           refine w_pure rfl ?_
                           refine w_ieq (fun h13 => ?_) (fun h13 => ?_)
                           · first
                             | (exfalso; first | omega | contradiction)
                             | (refine pz_G_of pz_b212_94 ?_
                                refine w_loc rfl ?_
                                refine w_pure rfl ?_
                                have hc14 : pz_R (pz_Sh L) 191 [.inr (.inl 154), .inl 3] (pz_u1 (pz_u1 iv 154 (iv 154)) 155 (iv 155)) (.inl (some (.inl 0))) (pz_u1 (pz_u1 iv 154 (pz_up (iv 154) 0 3)) 155 (iv 155)) := pz_R_mem (s_X11_fails 3) (by rw [pz_u1_in (r := 154) (q := 155) (by decide)]; rw [pz_u1_top (r := 154)]; rfl)
                                refine w_call hc14 rfl (pz_cokI is_154 rfl) ?_
                                refine w_ret rfl ?_
                                first | exact lf_i (by first | rfl | omega) rfl | (exfalso; omega))
                           · first
                             | (exfalso; first | omega | contradiction)
                             | (refine w_loc rfl ?_
                                refine w_loc rfl ?_
                                have hc15 : pz_R (pz_Sh L) 211 [.inr (.inl 154), .inl t] (pz_u1 (pz_u1 iv 154 (iv 154)) 155 (iv 155)) (.inl (some (.inl (pz_bi (q_exi (fun s => (iv 155) (212 + 4 * s + 1).toNat = t) ((iv 155) 2)))))) (pz_u1 (pz_u1 iv 154 (iv 154)) 155 (iv 155)) := s_X11_isEnd t (by show q_KR (iv 155); exact hk)
                                refine w_call hc15 rfl (pz_cokI is_154 rfl) ?_
                                refine w_bne (fun h16 => ?_) (fun h16 => ?_)
                                · first
                                  | (exfalso; first | omega | contradiction)
                                  | (refine pz_G_of pz_b212_94 ?_
                                     refine w_loc rfl ?_
                                     refine w_pure rfl ?_
                                     have hc17 : pz_R (pz_Sh L) 191 [.inr (.inl 154), .inl 3] (pz_u1 (pz_u1 iv 154 (iv 154)) 155 (iv 155)) (.inl (some (.inl 0))) (pz_u1 (pz_u1 iv 154 (pz_up (iv 154) 0 3)) 155 (iv 155)) := pz_R_mem (s_X11_fails 3) (by rw [pz_u1_in (r := 154) (q := 155) (by decide)]; rw [pz_u1_top (r := 154)]; rfl)
                                     refine w_call hc17 rfl (pz_cokI is_154 rfl) ?_
                                     refine w_ret rfl ?_
                                     first | exact lf_i (by first | rfl | omega) rfl | (exfalso; omega))
                                · first
                                  | (exfalso; first | omega | contradiction)
                                  | (refine w_loc rfl ?_
                                     refine w_zle (fun h18 => ?_) (fun h18 => ?_)
                                     · first
                                       | (exfalso; first | omega | contradiction)
                                       | (refine pz_G_of pz_b212_86 ?_
                                          refine w_loc rfl ?_
                                          refine w_loc rfl ?_
                                          have hc19 : pz_R (pz_Sh L) 196 [.inr (.inl 154), .inl t] (pz_u1 (pz_u1 iv 154 (iv 154)) 155 (iv 155)) (.inl (some (.inl (pz_bi (q_sta (iv 155) t))))) (pz_u1 (pz_u1 iv 154 (iv 154)) 155 (iv 155)) := s_X11_hasStarted t (by show 0 ≤ t ∧ t ≤ 9; omega)
                                          refine w_call hc19 rfl (pz_cokI is_154 rfl) ?_
                                          refine w_beq (fun h20 => ?_) (fun h20 => ?_)
                                          · first
                                            | (exfalso; first | omega | contradiction)
                                            | (refine pz_G_of pz_b212_100 ?_
                                               refine w_pure rfl ?_
                                               refine w_pure rfl ?_
                                               refine w_loc rfl ?_
                                               refine w_getR (q := 155) is_154 rf_154_1 ?_
                                               refine w_pure rfl ?_
                                               refine w_iald (v := (iv 155) 2) is_155 ln_155 ⟨by omega, by omega⟩ rfl ?_
                                               refine w_imul (by omega) ?_
                                               refine w_iadd (by omega) ?_
                                               refine w_loc (ls' := [some (.inr (.inl 154)), some (.inl f), some (.inl t), some (.inl l), some (.inl g), some (.inl (212 + (4 * ((iv 155) 2))))]) (st' := []) rfl ?_
                                               refine w_loc rfl ?_
                                               refine w_getR (q := 155) is_154 rf_154_1 ?_
                                               refine w_loc rfl ?_
                                               refine w_loc rfl ?_
                                               refine w_iastm (iv2 := pz_u1 (pz_u1 iv 154 (iv 154)) 155 (pz_up (iv 155) (212 + (4 * ((iv 155) 2))).toNat f)) is_155 ln_155 ⟨by omega, by omega⟩ (by exact pz_u2_top _ _ _ _ _) ?_
                                               refine w_loc rfl ?_
                                               refine w_getR (q := 155) is_154 rf_154_1 ?_
                                               refine w_loc rfl ?_
                                               refine w_pure rfl ?_
                                               refine w_iadd (by omega) ?_
                                               refine w_loc rfl ?_
                                               refine w_iastm (iv2 := pz_u1 (pz_u1 iv 154 (iv 154)) 155 (pz_up (pz_up (iv 155) (212 + (4 * ((iv 155) 2))).toNat f) ((212 + (4 * ((iv 155) 2))) + 1).toNat t)) is_155 ln_155 ⟨by omega, by omega⟩ (by exact pz_u2_top _ _ _ _ _) ?_
                                               refine w_loc rfl ?_
                                               refine w_getR (q := 155) is_154 rf_154_1 ?_
                                               refine w_loc rfl ?_
                                               refine w_pure rfl ?_
                                               refine w_iadd (by omega) ?_
                                               refine w_loc rfl ?_
                                               refine w_iastm (iv2 := pz_u1 (pz_u1 iv 154 (iv 154)) 155 (pz_up (pz_up (pz_up (iv 155) (212 + (4 * ((iv 155) 2))).toNat f) ((212 + (4 * ((iv 155) 2))) + 1).toNat t) ((212 + (4 * ((iv 155) 2))) + 2).toNat l)) is_155 ln_155 ⟨by omega, by omega⟩ (by exact pz_u2_top _ _ _ _ _) ?_
                                               refine w_loc rfl ?_
                                               refine w_getR (q := 155) is_154 rf_154_1 ?_
                                               refine w_loc rfl ?_
                                               refine w_pure rfl ?_
                                               refine w_iadd (by omega) ?_
                                               refine w_loc rfl ?_
                                               refine w_iastm (iv2 := pz_u1 (pz_u1 iv 154 (iv 154)) 155 (pz_up (pz_up (pz_up (pz_up (iv 155) (212 + (4 * ((iv 155) 2))).toNat f) ((212 + (4 * ((iv 155) 2))) + 1).toNat t) ((212 + (4 * ((iv 155) 2))) + 2).toNat l) ((212 + (4 * ((iv 155) 2))) + 3).toNat g)) is_155 ln_155 ⟨by omega, by omega⟩ (by exact pz_u2_top _ _ _ _ _) ?_
                                               refine w_loc rfl ?_
                                               refine w_getR (q := 155) is_154 rf_154_1 ?_
                                               refine w_pure rfl ?_
                                               refine w_pure rfl ?_
                                               refine w_iald (v := (iv 155) 2) is_155 ln_155 ⟨by omega, by omega⟩ (by show (pz_up (pz_up (pz_up (pz_up (iv 155) (212 + (4 * ((iv 155) 2))).toNat f) ((212 + (4 * ((iv 155) 2))) + 1).toNat t) ((212 + (4 * ((iv 155) 2))) + 2).toNat l) ((212 + (4 * ((iv 155) 2))) + 3).toNat g) 2 = _; rw [pz_up_ne (by omega), pz_up_ne (by omega), pz_up_ne (by omega), pz_up_ne (by omega)]) ?_
                                               refine w_pure rfl ?_
                                               refine w_iadd (by omega) ?_
                                               refine w_iastm (iv2 := pz_u1 (pz_u1 iv 154 (iv 154)) 155 (pz_up (pz_up (pz_up (pz_up (pz_up (iv 155) (212 + (4 * ((iv 155) 2))).toNat f) ((212 + (4 * ((iv 155) 2))) + 1).toNat t) ((212 + (4 * ((iv 155) 2))) + 2).toNat l) ((212 + (4 * ((iv 155) 2))) + 3).toNat g) 2 (((iv 155) 2) + 1))) is_155 ln_155 ⟨by omega, by omega⟩ (by exact pz_u2_top _ _ _ _ _) ?_
                                               refine w_loc rfl ?_
                                               refine w_loc rfl ?_
                                               refine w_getR (q := 155) is_154 rf_154_1 ?_
                                               refine w_pure rfl ?_
                                               refine w_iald (v := ((iv 155) 2) + 1) is_155 ln_155 ⟨by omega, by omega⟩ rfl ?_
                                               refine w_pure rfl ?_
                                               refine w_isub (by omega) ?_
                                               have hc21 : pz_R (pz_Sh L) 192 [.inr (.inl 154), .inl ((((iv 155) 2) + 1) - 1)] (pz_u1 (pz_u1 iv 154 (iv 154)) 155 (pz_up (pz_up (pz_up (pz_up (pz_up (iv 155) (212 + (4 * ((iv 155) 2))).toNat f) ((212 + (4 * ((iv 155) 2))) + 1).toNat t) ((212 + (4 * ((iv 155) 2))) + 2).toNat l) ((212 + (4 * ((iv 155) 2))) + 3).toNat g) 2 (((iv 155) 2) + 1))) (.inl (some (.inl ((((iv 155) 2) + 1) - 1)))) (pz_u1 (pz_u1 iv 154 (pz_up (iv 154) 0 0)) 155 (pz_up (pz_up (pz_up (pz_up (pz_up (iv 155) (212 + (4 * ((iv 155) 2))).toNat f) ((212 + (4 * ((iv 155) 2))) + 1).toNat t) ((212 + (4 * ((iv 155) 2))) + 2).toNat l) ((212 + (4 * ((iv 155) 2))) + 3).toNat g) 2 (((iv 155) 2) + 1))) := pz_R_mem (s_X11_tells ((((iv 155) 2) + 1) - 1)) (by rw [pz_u1_in (r := 154) (q := 155) (by decide)]; rw [pz_u1_top (r := 154)]; rfl)
                                               refine w_call hc21 rfl (pz_cokI is_154 rfl) ?_
                                               refine w_ret rfl ?_
                                               first | exact lf_i (by first | rfl | omega) rfl | (exfalso; omega))
                                          · first
                                            | (exfalso; first | omega | contradiction)
                                            | (refine w_nil ?_
                                               refine pz_G_of pz_b212_94 ?_
                                               refine w_loc rfl ?_
                                               refine w_pure rfl ?_
                                               have hc22 : pz_R (pz_Sh L) 191 [.inr (.inl 154), .inl 3] (pz_u1 (pz_u1 iv 154 (iv 154)) 155 (iv 155)) (.inl (some (.inl 0))) (pz_u1 (pz_u1 iv 154 (pz_up (iv 154) 0 3)) 155 (iv 155)) := pz_R_mem (s_X11_fails 3) (by rw [pz_u1_in (r := 154) (q := 155) (by decide)]; rw [pz_u1_top (r := 154)]; rfl)
                                               refine w_call hc22 rfl (pz_cokI is_154 rfl) ?_
                                               refine w_ret rfl ?_
                                               first | exact lf_i (by first | rfl | omega) rfl | (exfalso; omega)))
                                     · first
                                       | (exfalso; first | omega | contradiction)
                                       | (refine w_loc rfl ?_
                                          refine w_loc rfl ?_
                                          have hc23 : pz_R (pz_Sh L) 196 [.inr (.inl 154), .inl f] (pz_u1 (pz_u1 iv 154 (iv 154)) 155 (iv 155)) (.inl (some (.inl (pz_bi (q_sta (iv 155) f))))) (pz_u1 (pz_u1 iv 154 (iv 154)) 155 (iv 155)) := s_X11_hasStarted f (by show 0 ≤ f ∧ f ≤ 9; omega)
                                          refine w_call hc23 rfl (pz_cokI is_154 rfl) ?_
                                          refine w_bne (fun h24 => ?_) (fun h24 => ?_)
                                          · first
                                            | (exfalso; first | omega | contradiction)
                                            | (refine pz_G_of pz_b212_94 ?_
                                               refine w_loc rfl ?_
                                               refine w_pure rfl ?_
                                               have hc25 : pz_R (pz_Sh L) 191 [.inr (.inl 154), .inl 3] (pz_u1 (pz_u1 iv 154 (iv 154)) 155 (iv 155)) (.inl (some (.inl 0))) (pz_u1 (pz_u1 iv 154 (pz_up (iv 154) 0 3)) 155 (iv 155)) := pz_R_mem (s_X11_fails 3) (by rw [pz_u1_in (r := 154) (q := 155) (by decide)]; rw [pz_u1_top (r := 154)]; rfl)
                                               refine w_call hc25 rfl (pz_cokI is_154 rfl) ?_
                                               refine w_ret rfl ?_
                                               first | exact lf_i (by first | rfl | omega) rfl | (exfalso; omega))
                                          · first
                                            | (exfalso; first | omega | contradiction)
                                            | (refine w_nil ?_
                                               refine pz_G_of pz_b212_86 ?_
                                               refine w_loc rfl ?_
                                               refine w_loc rfl ?_
                                               have hc26 : pz_R (pz_Sh L) 196 [.inr (.inl 154), .inl t] (pz_u1 (pz_u1 iv 154 (iv 154)) 155 (iv 155)) (.inl (some (.inl (pz_bi (q_sta (iv 155) t))))) (pz_u1 (pz_u1 iv 154 (iv 154)) 155 (iv 155)) := s_X11_hasStarted t (by show 0 ≤ t ∧ t ≤ 9; omega)
                                               refine w_call hc26 rfl (pz_cokI is_154 rfl) ?_
                                               refine w_beq (fun h27 => ?_) (fun h27 => ?_)
                                               · first
                                                 | (exfalso; first | omega | contradiction)
                                                 | (refine pz_G_of pz_b212_100 ?_
                                                    refine w_pure rfl ?_
                                                    refine w_pure rfl ?_
                                                    refine w_loc rfl ?_
                                                    refine w_getR (q := 155) is_154 rf_154_1 ?_
                                                    refine w_pure rfl ?_
                                                    refine w_iald (v := (iv 155) 2) is_155 ln_155 ⟨by omega, by omega⟩ rfl ?_
                                                    refine w_imul (by omega) ?_
                                                    refine w_iadd (by omega) ?_
                                                    refine w_loc (ls' := [some (.inr (.inl 154)), some (.inl f), some (.inl t), some (.inl l), some (.inl g), some (.inl (212 + (4 * ((iv 155) 2))))]) (st' := []) rfl ?_
                                                    refine w_loc rfl ?_
                                                    refine w_getR (q := 155) is_154 rf_154_1 ?_
                                                    refine w_loc rfl ?_
                                                    refine w_loc rfl ?_
                                                    refine w_iastm (iv2 := pz_u1 (pz_u1 iv 154 (iv 154)) 155 (pz_up (iv 155) (212 + (4 * ((iv 155) 2))).toNat f)) is_155 ln_155 ⟨by omega, by omega⟩ (by exact pz_u2_top _ _ _ _ _) ?_
                                                    refine w_loc rfl ?_
                                                    refine w_getR (q := 155) is_154 rf_154_1 ?_
                                                    refine w_loc rfl ?_
                                                    refine w_pure rfl ?_
                                                    refine w_iadd (by omega) ?_
                                                    refine w_loc rfl ?_
                                                    refine w_iastm (iv2 := pz_u1 (pz_u1 iv 154 (iv 154)) 155 (pz_up (pz_up (iv 155) (212 + (4 * ((iv 155) 2))).toNat f) ((212 + (4 * ((iv 155) 2))) + 1).toNat t)) is_155 ln_155 ⟨by omega, by omega⟩ (by exact pz_u2_top _ _ _ _ _) ?_
                                                    refine w_loc rfl ?_
                                                    refine w_getR (q := 155) is_154 rf_154_1 ?_
                                                    refine w_loc rfl ?_
                                                    refine w_pure rfl ?_
                                                    refine w_iadd (by omega) ?_
                                                    refine w_loc rfl ?_
                                                    refine w_iastm (iv2 := pz_u1 (pz_u1 iv 154 (iv 154)) 155 (pz_up (pz_up (pz_up (iv 155) (212 + (4 * ((iv 155) 2))).toNat f) ((212 + (4 * ((iv 155) 2))) + 1).toNat t) ((212 + (4 * ((iv 155) 2))) + 2).toNat l)) is_155 ln_155 ⟨by omega, by omega⟩ (by exact pz_u2_top _ _ _ _ _) ?_
                                                    refine w_loc rfl ?_
                                                    refine w_getR (q := 155) is_154 rf_154_1 ?_
                                                    refine w_loc rfl ?_
                                                    refine w_pure rfl ?_
                                                    refine w_iadd (by omega) ?_
                                                    refine w_loc rfl ?_
                                                    refine w_iastm (iv2 := pz_u1 (pz_u1 iv 154 (iv 154)) 155 (pz_up (pz_up (pz_up (pz_up (iv 155) (212 + (4 * ((iv 155) 2))).toNat f) ((212 + (4 * ((iv 155) 2))) + 1).toNat t) ((212 + (4 * ((iv 155) 2))) + 2).toNat l) ((212 + (4 * ((iv 155) 2))) + 3).toNat g)) is_155 ln_155 ⟨by omega, by omega⟩ (by exact pz_u2_top _ _ _ _ _) ?_
                                                    refine w_loc rfl ?_
                                                    refine w_getR (q := 155) is_154 rf_154_1 ?_
                                                    refine w_pure rfl ?_
                                                    refine w_pure rfl ?_
                                                    refine w_iald (v := (iv 155) 2) is_155 ln_155 ⟨by omega, by omega⟩ (by show (pz_up (pz_up (pz_up (pz_up (iv 155) (212 + (4 * ((iv 155) 2))).toNat f) ((212 + (4 * ((iv 155) 2))) + 1).toNat t) ((212 + (4 * ((iv 155) 2))) + 2).toNat l) ((212 + (4 * ((iv 155) 2))) + 3).toNat g) 2 = _; rw [pz_up_ne (by omega), pz_up_ne (by omega), pz_up_ne (by omega), pz_up_ne (by omega)]) ?_
                                                    refine w_pure rfl ?_
                                                    refine w_iadd (by omega) ?_
                                                    refine w_iastm (iv2 := pz_u1 (pz_u1 iv 154 (iv 154)) 155 (pz_up (pz_up (pz_up (pz_up (pz_up (iv 155) (212 + (4 * ((iv 155) 2))).toNat f) ((212 + (4 * ((iv 155) 2))) + 1).toNat t) ((212 + (4 * ((iv 155) 2))) + 2).toNat l) ((212 + (4 * ((iv 155) 2))) + 3).toNat g) 2 (((iv 155) 2) + 1))) is_155 ln_155 ⟨by omega, by omega⟩ (by exact pz_u2_top _ _ _ _ _) ?_
                                                    refine w_loc rfl ?_
                                                    refine w_loc rfl ?_
                                                    refine w_getR (q := 155) is_154 rf_154_1 ?_
                                                    refine w_pure rfl ?_
                                                    refine w_iald (v := ((iv 155) 2) + 1) is_155 ln_155 ⟨by omega, by omega⟩ rfl ?_
                                                    refine w_pure rfl ?_
                                                    refine w_isub (by omega) ?_
                                                    have hc28 : pz_R (pz_Sh L) 192 [.inr (.inl 154), .inl ((((iv 155) 2) + 1) - 1)] (pz_u1 (pz_u1 iv 154 (iv 154)) 155 (pz_up (pz_up (pz_up (pz_up (pz_up (iv 155) (212 + (4 * ((iv 155) 2))).toNat f) ((212 + (4 * ((iv 155) 2))) + 1).toNat t) ((212 + (4 * ((iv 155) 2))) + 2).toNat l) ((212 + (4 * ((iv 155) 2))) + 3).toNat g) 2 (((iv 155) 2) + 1))) (.inl (some (.inl ((((iv 155) 2) + 1) - 1)))) (pz_u1 (pz_u1 iv 154 (pz_up (iv 154) 0 0)) 155 (pz_up (pz_up (pz_up (pz_up (pz_up (iv 155) (212 + (4 * ((iv 155) 2))).toNat f) ((212 + (4 * ((iv 155) 2))) + 1).toNat t) ((212 + (4 * ((iv 155) 2))) + 2).toNat l) ((212 + (4 * ((iv 155) 2))) + 3).toNat g) 2 (((iv 155) 2) + 1))) := pz_R_mem (s_X11_tells ((((iv 155) 2) + 1) - 1)) (by rw [pz_u1_in (r := 154) (q := 155) (by decide)]; rw [pz_u1_top (r := 154)]; rfl)
                                                    refine w_call hc28 rfl (pz_cokI is_154 rfl) ?_
                                                    refine w_ret rfl ?_
                                                    first | exact lf_i (by first | rfl | omega) rfl | (exfalso; omega))
                                               · first
                                                 | (exfalso; first | omega | contradiction)
                                                 | (refine w_nil ?_
                                                    refine pz_G_of pz_b212_94 ?_
                                                    refine w_loc rfl ?_
                                                    refine w_pure rfl ?_
                                                    have hc29 : pz_R (pz_Sh L) 191 [.inr (.inl 154), .inl 3] (pz_u1 (pz_u1 iv 154 (iv 154)) 155 (iv 155)) (.inl (some (.inl 0))) (pz_u1 (pz_u1 iv 154 (pz_up (iv 154) 0 3)) 155 (iv 155)) := pz_R_mem (s_X11_fails 3) (by rw [pz_u1_in (r := 154) (q := 155) (by decide)]; rw [pz_u1_top (r := 154)]; rfl)
                                                    refine w_call hc29 rfl (pz_cokI is_154 rfl) ?_
                                                    refine w_ret rfl ?_
                                                    first | exact lf_i (by first | rfl | omega) rfl | (exfalso; omega)))))))
                      · first
                        | (exfalso; first | omega | contradiction)
                        | (refine w_nil ?_
                           refine pz_G_of pz_b212_50 ?_
                           refine w_loc rfl ?_
                           refine w_pure rfl ?_
                           have hc30 : pz_R (pz_Sh L) 191 [.inr (.inl 154), .inl 2] (pz_u1 (pz_u1 iv 154 (iv 154)) 155 (iv 155)) (.inl (some (.inl 0))) (pz_u1 (pz_u1 iv 154 (pz_up (iv 154) 0 2)) 155 (iv 155)) := pz_R_mem (s_X11_fails 2) (by rw [pz_u1_in (r := 154) (q := 155) (by decide)]; rw [pz_u1_top (r := 154)]; rfl)
                           refine w_call hc30 rfl (pz_cokI is_154 rfl) ?_
                           refine w_ret rfl ?_
                           first | exact lf_i (by first | rfl | omega) rfl | (exfalso; omega)))))
       · first
         | (exfalso; first | omega | contradiction)
         | (refine w_nil ?_
            refine pz_G_of pz_b212_16 ?_
            refine w_loc rfl ?_
            refine w_pure rfl ?_
            have hc31 : pz_R (pz_Sh L) 191 [.inr (.inl 154), .inl 1] (pz_u1 (pz_u1 iv 154 (iv 154)) 155 (iv 155)) (.inl (some (.inl 0))) (pz_u1 (pz_u1 iv 154 (pz_up (iv 154) 0 1)) 155 (iv 155)) := pz_R_mem (s_X11_fails 1) (by rw [pz_u1_in (r := 154) (q := 155) (by decide)]; rw [pz_u1_top (r := 154)]; rfl)
            refine w_call hc31 rfl (pz_cokI is_154 rfl) ?_
            refine w_ret rfl ?_
            first | exact lf_i (by first | rfl | omega) rfl | (exfalso; omega)))

theorem s_X11_addSpan_0 {L : Nat} {iv : Nat → Nat → Int} (f : Int) (t : Int) (l : Int) (g : Int) (hk : q_KR (iv 155)) (hcase0 : 0 ≤ f ∧ f ≤ iv 155 0 - 1 ∧ 0 ≤ t ∧ t ≤ iv 155 0 - 1) (hcase1 : f < t ∧ 1 ≤ l ∧ l ≤ 200 ∧ l ≤ g ∧ g ≤ 200) (hcase2 : iv 155 2 ≠ 3) (hcase3 : ¬ (q_exi (fun s => iv 155 (212 + 4 * s + 1).toNat = t) (iv 155 2))) (hcase4 : ¬ (0 < f ∧ q_sta (iv 155) f)) (hcase5 : ¬ q_sta (iv 155) t) : pz_R (pz_Sh L) 212 [.inr (.inl 154), .inl f, .inl t, .inl l, .inl g] iv (.inl (some (.inl ((iv 155) 2)))) (pz_u1 (pz_u1 iv 154 (pz_up (iv 154) 0 0)) 155 (q_addsp (iv 155) f t l g)) := by
  intro dv cc ss
  have hk0 := hk.r0
  refine pz_G_mem (iv2 := pz_u1 (pz_u1 iv 154 (iv 154)) 155 (iv 155)) (by exact ((pz_u1_self iv 154).symm).trans (pz_u1_self (pz_u1 iv 154 (iv 154)) 155).symm) ?_
  show pz_G 212 0 [some (.inr (.inl 154)), some (.inl f), some (.inl t), some (.inl l), some (.inl g), none] [] (pz_Sh L, pz_u1 (pz_u1 iv 154 (iv 154)) 155 (iv 155), dv, cc, ss) (pz_P (pz_Sh L) (.inl (some (.inl ((iv 155) 2)))) (pz_u1 (pz_u1 iv 154 (pz_up (iv 154) 0 0)) 155 (q_addsp (iv 155) f t l g)) dv cc ss)
  refine pz_G_of pz_b212_0 ?_
  refine w_loc rfl ?_
  refine w_loc rfl ?_
  have hc1 : pz_R (pz_Sh L) 194 [.inr (.inl 154), .inl f] (pz_u1 (pz_u1 iv 154 (iv 154)) 155 (iv 155)) (.inl (some (.inl (pz_bi (0 ≤ f ∧ f ≤ (iv 155) 0 - 1))))) (pz_u1 (pz_u1 iv 154 (iv 154)) 155 (iv 155)) := s_X11_isEvent f (by show q_KR (iv 155); exact hk)
  refine w_call hc1 rfl (pz_cokI is_154 rfl) ?_
  refine w_beq (fun h2 => ?_) (fun h2 => ?_)
  · first
    | (exfalso; first | omega | contradiction)
    | (refine pz_G_of pz_b212_16 ?_
       refine w_loc rfl ?_
       refine w_pure rfl ?_
       have hc3 : pz_R (pz_Sh L) 191 [.inr (.inl 154), .inl 1] (pz_u1 (pz_u1 iv 154 (iv 154)) 155 (iv 155)) (.inl (some (.inl 0))) (pz_u1 (pz_u1 iv 154 (pz_up (iv 154) 0 1)) 155 (iv 155)) := pz_R_mem (s_X11_fails 1) (by rw [pz_u1_in (r := 154) (q := 155) (by decide)]; rw [pz_u1_top (r := 154)]; rfl)
       refine w_call hc3 rfl (pz_cokI is_154 rfl) ?_
       refine w_ret rfl ?_
       first | exact lf_i (by first | rfl | omega) rfl | (exfalso; omega))
  · first
    | (exfalso; first | omega | contradiction)
    | (refine w_loc rfl ?_
       refine w_loc rfl ?_
       have hc4 : pz_R (pz_Sh L) 194 [.inr (.inl 154), .inl t] (pz_u1 (pz_u1 iv 154 (iv 154)) 155 (iv 155)) (.inl (some (.inl (pz_bi (0 ≤ t ∧ t ≤ (iv 155) 0 - 1))))) (pz_u1 (pz_u1 iv 154 (iv 154)) 155 (iv 155)) := s_X11_isEvent t (by show q_KR (iv 155); exact hk)
       refine w_call hc4 rfl (pz_cokI is_154 rfl) ?_
       refine w_bne (fun h5 => ?_) (fun h5 => ?_)
       · first
         | (exfalso; first | omega | contradiction)
         | (refine pz_G_of pz_b212_22 ?_
            refine w_loc rfl ?_
            refine w_loc rfl ?_
            refine w_ile (fun h6 => ?_) (fun h6 => ?_)
            · first
              | (exfalso; first | omega | contradiction)
              | (refine pz_G_of pz_b212_50 ?_
                 refine w_loc rfl ?_
                 refine w_pure rfl ?_
                 have hc7 : pz_R (pz_Sh L) 191 [.inr (.inl 154), .inl 2] (pz_u1 (pz_u1 iv 154 (iv 154)) 155 (iv 155)) (.inl (some (.inl 0))) (pz_u1 (pz_u1 iv 154 (pz_up (iv 154) 0 2)) 155 (iv 155)) := pz_R_mem (s_X11_fails 2) (by rw [pz_u1_in (r := 154) (q := 155) (by decide)]; rw [pz_u1_top (r := 154)]; rfl)
                 refine w_call hc7 rfl (pz_cokI is_154 rfl) ?_
                 refine w_ret rfl ?_
                 first | exact lf_i (by first | rfl | omega) rfl | (exfalso; omega))
            · first
              | (exfalso; first | omega | contradiction)
              | (refine w_loc rfl ?_
                 refine w_pure rfl ?_
                 refine w_pure rfl ?_
                 have hc8 : pz_R (pz_Sh L) 190 [.inl l, .inl 1, .inl 200] (pz_u1 (pz_u1 iv 154 (iv 154)) 155 (iv 155)) (.inl (some (.inl (pz_bi (1 ≤ l ∧ l ≤ 200))))) (pz_u1 (pz_u1 iv 154 (iv 154)) 155 (iv 155)) := s_X11_in l 1 200
                 refine w_call hc8 rfl rfl ?_
                 refine w_beq (fun h9 => ?_) (fun h9 => ?_)
                 · first
                   | (exfalso; first | omega | contradiction)
                   | (refine pz_G_of pz_b212_50 ?_
                      refine w_loc rfl ?_
                      refine w_pure rfl ?_
                      have hc10 : pz_R (pz_Sh L) 191 [.inr (.inl 154), .inl 2] (pz_u1 (pz_u1 iv 154 (iv 154)) 155 (iv 155)) (.inl (some (.inl 0))) (pz_u1 (pz_u1 iv 154 (pz_up (iv 154) 0 2)) 155 (iv 155)) := pz_R_mem (s_X11_fails 2) (by rw [pz_u1_in (r := 154) (q := 155) (by decide)]; rw [pz_u1_top (r := 154)]; rfl)
                      refine w_call hc10 rfl (pz_cokI is_154 rfl) ?_
                      refine w_ret rfl ?_
                      first | exact lf_i (by first | rfl | omega) rfl | (exfalso; omega))
                 · first
                   | (exfalso; first | omega | contradiction)
                   | (refine w_loc rfl ?_
                      refine w_loc rfl ?_
                      refine w_pure rfl ?_
                      have hc11 : pz_R (pz_Sh L) 190 [.inl g, .inl l, .inl 200] (pz_u1 (pz_u1 iv 154 (iv 154)) 155 (iv 155)) (.inl (some (.inl (pz_bi (l ≤ g ∧ g ≤ 200))))) (pz_u1 (pz_u1 iv 154 (iv 154)) 155 (iv 155)) := s_X11_in g l 200
                      refine w_call hc11 rfl rfl ?_
                      refine w_bne (fun h12 => ?_) (fun h12 => ?_)
                      · first
                        | (exfalso; first | omega | contradiction)
                        | (refine pz_G_of pz_b212_56 ?_
                           refine w_loc rfl ?_
                           refine w_getR (q := 155) is_154 rf_154_1 ?_
                           refine w_pure rfl ?_
                           refine w_iald (v := (iv 155) 2) is_155 ln_155 ⟨by omega, by omega⟩ rfl ?_
                           refine w_pure rfl ?_
                           refine w_ieq (fun h13 => ?_) (fun h13 => ?_)
                           · first
                             | (exfalso; first | omega | contradiction)
                             | (refine pz_G_of pz_b212_94 ?_
                                refine w_loc rfl ?_
                                refine w_pure rfl ?_
                                have hc14 : pz_R (pz_Sh L) 191 [.inr (.inl 154), .inl 3] (pz_u1 (pz_u1 iv 154 (iv 154)) 155 (iv 155)) (.inl (some (.inl 0))) (pz_u1 (pz_u1 iv 154 (pz_up (iv 154) 0 3)) 155 (iv 155)) := pz_R_mem (s_X11_fails 3) (by rw [pz_u1_in (r := 154) (q := 155) (by decide)]; rw [pz_u1_top (r := 154)]; rfl)
                                refine w_call hc14 rfl (pz_cokI is_154 rfl) ?_
                                refine w_ret rfl ?_
                                first | exact lf_i (by first | rfl | omega) rfl | (exfalso; omega))
                           · first
                             | (exfalso; first | omega | contradiction)
                             | (refine w_loc rfl ?_
                                refine w_loc rfl ?_
                                have hc15 : pz_R (pz_Sh L) 211 [.inr (.inl 154), .inl t] (pz_u1 (pz_u1 iv 154 (iv 154)) 155 (iv 155)) (.inl (some (.inl (pz_bi (q_exi (fun s => (iv 155) (212 + 4 * s + 1).toNat = t) ((iv 155) 2)))))) (pz_u1 (pz_u1 iv 154 (iv 154)) 155 (iv 155)) := s_X11_isEnd t (by show q_KR (iv 155); exact hk)
                                refine w_call hc15 rfl (pz_cokI is_154 rfl) ?_
                                refine w_bne (fun h16 => ?_) (fun h16 => ?_)
                                · first
                                  | (exfalso; first | omega | contradiction)
                                  | (refine pz_G_of pz_b212_94 ?_
                                     refine w_loc rfl ?_
                                     refine w_pure rfl ?_
                                     have hc17 : pz_R (pz_Sh L) 191 [.inr (.inl 154), .inl 3] (pz_u1 (pz_u1 iv 154 (iv 154)) 155 (iv 155)) (.inl (some (.inl 0))) (pz_u1 (pz_u1 iv 154 (pz_up (iv 154) 0 3)) 155 (iv 155)) := pz_R_mem (s_X11_fails 3) (by rw [pz_u1_in (r := 154) (q := 155) (by decide)]; rw [pz_u1_top (r := 154)]; rfl)
                                     refine w_call hc17 rfl (pz_cokI is_154 rfl) ?_
                                     refine w_ret rfl ?_
                                     first | exact lf_i (by first | rfl | omega) rfl | (exfalso; omega))
                                · first
                                  | (exfalso; first | omega | contradiction)
                                  | (refine w_loc rfl ?_
                                     refine w_zle (fun h18 => ?_) (fun h18 => ?_)
                                     · first
                                       | (exfalso; first | omega | contradiction)
                                       | (refine pz_G_of pz_b212_86 ?_
                                          refine w_loc rfl ?_
                                          refine w_loc rfl ?_
                                          have hc19 : pz_R (pz_Sh L) 196 [.inr (.inl 154), .inl t] (pz_u1 (pz_u1 iv 154 (iv 154)) 155 (iv 155)) (.inl (some (.inl (pz_bi (q_sta (iv 155) t))))) (pz_u1 (pz_u1 iv 154 (iv 154)) 155 (iv 155)) := s_X11_hasStarted t (by show 0 ≤ t ∧ t ≤ 9; omega)
                                          refine w_call hc19 rfl (pz_cokI is_154 rfl) ?_
                                          refine w_beq (fun h20 => ?_) (fun h20 => ?_)
                                          · first
                                            | (exfalso; first | omega | contradiction)
                                            | (refine pz_G_of pz_b212_100 ?_
                                               refine w_pure rfl ?_
                                               refine w_pure rfl ?_
                                               refine w_loc rfl ?_
                                               refine w_getR (q := 155) is_154 rf_154_1 ?_
                                               refine w_pure rfl ?_
                                               refine w_iald (v := (iv 155) 2) is_155 ln_155 ⟨by omega, by omega⟩ rfl ?_
                                               refine w_imul (by omega) ?_
                                               refine w_iadd (by omega) ?_
                                               refine w_loc (ls' := [some (.inr (.inl 154)), some (.inl f), some (.inl t), some (.inl l), some (.inl g), some (.inl (212 + (4 * ((iv 155) 2))))]) (st' := []) rfl ?_
                                               refine w_loc rfl ?_
                                               refine w_getR (q := 155) is_154 rf_154_1 ?_
                                               refine w_loc rfl ?_
                                               refine w_loc rfl ?_
                                               refine w_iastm (iv2 := pz_u1 (pz_u1 iv 154 (iv 154)) 155 (pz_up (iv 155) (212 + (4 * ((iv 155) 2))).toNat f)) is_155 ln_155 ⟨by omega, by omega⟩ (by exact pz_u2_top _ _ _ _ _) ?_
                                               refine w_loc rfl ?_
                                               refine w_getR (q := 155) is_154 rf_154_1 ?_
                                               refine w_loc rfl ?_
                                               refine w_pure rfl ?_
                                               refine w_iadd (by omega) ?_
                                               refine w_loc rfl ?_
                                               refine w_iastm (iv2 := pz_u1 (pz_u1 iv 154 (iv 154)) 155 (pz_up (pz_up (iv 155) (212 + (4 * ((iv 155) 2))).toNat f) ((212 + (4 * ((iv 155) 2))) + 1).toNat t)) is_155 ln_155 ⟨by omega, by omega⟩ (by exact pz_u2_top _ _ _ _ _) ?_
                                               refine w_loc rfl ?_
                                               refine w_getR (q := 155) is_154 rf_154_1 ?_
                                               refine w_loc rfl ?_
                                               refine w_pure rfl ?_
                                               refine w_iadd (by omega) ?_
                                               refine w_loc rfl ?_
                                               refine w_iastm (iv2 := pz_u1 (pz_u1 iv 154 (iv 154)) 155 (pz_up (pz_up (pz_up (iv 155) (212 + (4 * ((iv 155) 2))).toNat f) ((212 + (4 * ((iv 155) 2))) + 1).toNat t) ((212 + (4 * ((iv 155) 2))) + 2).toNat l)) is_155 ln_155 ⟨by omega, by omega⟩ (by exact pz_u2_top _ _ _ _ _) ?_
                                               refine w_loc rfl ?_
                                               refine w_getR (q := 155) is_154 rf_154_1 ?_
                                               refine w_loc rfl ?_
                                               refine w_pure rfl ?_
                                               refine w_iadd (by omega) ?_
                                               refine w_loc rfl ?_
                                               refine w_iastm (iv2 := pz_u1 (pz_u1 iv 154 (iv 154)) 155 (pz_up (pz_up (pz_up (pz_up (iv 155) (212 + (4 * ((iv 155) 2))).toNat f) ((212 + (4 * ((iv 155) 2))) + 1).toNat t) ((212 + (4 * ((iv 155) 2))) + 2).toNat l) ((212 + (4 * ((iv 155) 2))) + 3).toNat g)) is_155 ln_155 ⟨by omega, by omega⟩ (by exact pz_u2_top _ _ _ _ _) ?_
                                               refine w_loc rfl ?_
                                               refine w_getR (q := 155) is_154 rf_154_1 ?_
                                               refine w_pure rfl ?_
                                               refine w_pure rfl ?_
                                               refine w_iald (v := (iv 155) 2) is_155 ln_155 ⟨by omega, by omega⟩ (by show (pz_up (pz_up (pz_up (pz_up (iv 155) (212 + (4 * ((iv 155) 2))).toNat f) ((212 + (4 * ((iv 155) 2))) + 1).toNat t) ((212 + (4 * ((iv 155) 2))) + 2).toNat l) ((212 + (4 * ((iv 155) 2))) + 3).toNat g) 2 = _; rw [pz_up_ne (by omega), pz_up_ne (by omega), pz_up_ne (by omega), pz_up_ne (by omega)]) ?_
                                               refine w_pure rfl ?_
                                               refine w_iadd (by omega) ?_
                                               refine w_iastm (iv2 := pz_u1 (pz_u1 iv 154 (iv 154)) 155 (pz_up (pz_up (pz_up (pz_up (pz_up (iv 155) (212 + (4 * ((iv 155) 2))).toNat f) ((212 + (4 * ((iv 155) 2))) + 1).toNat t) ((212 + (4 * ((iv 155) 2))) + 2).toNat l) ((212 + (4 * ((iv 155) 2))) + 3).toNat g) 2 (((iv 155) 2) + 1))) is_155 ln_155 ⟨by omega, by omega⟩ (by exact pz_u2_top _ _ _ _ _) ?_
                                               refine w_loc rfl ?_
                                               refine w_loc rfl ?_
                                               refine w_getR (q := 155) is_154 rf_154_1 ?_
                                               refine w_pure rfl ?_
                                               refine w_iald (v := ((iv 155) 2) + 1) is_155 ln_155 ⟨by omega, by omega⟩ rfl ?_
                                               refine w_pure rfl ?_
                                               refine w_isub (by omega) ?_
                                               have hc21 : pz_R (pz_Sh L) 192 [.inr (.inl 154), .inl ((((iv 155) 2) + 1) - 1)] (pz_u1 (pz_u1 iv 154 (iv 154)) 155 (pz_up (pz_up (pz_up (pz_up (pz_up (iv 155) (212 + (4 * ((iv 155) 2))).toNat f) ((212 + (4 * ((iv 155) 2))) + 1).toNat t) ((212 + (4 * ((iv 155) 2))) + 2).toNat l) ((212 + (4 * ((iv 155) 2))) + 3).toNat g) 2 (((iv 155) 2) + 1))) (.inl (some (.inl ((((iv 155) 2) + 1) - 1)))) (pz_u1 (pz_u1 iv 154 (pz_up (iv 154) 0 0)) 155 (pz_up (pz_up (pz_up (pz_up (pz_up (iv 155) (212 + (4 * ((iv 155) 2))).toNat f) ((212 + (4 * ((iv 155) 2))) + 1).toNat t) ((212 + (4 * ((iv 155) 2))) + 2).toNat l) ((212 + (4 * ((iv 155) 2))) + 3).toNat g) 2 (((iv 155) 2) + 1))) := pz_R_mem (s_X11_tells ((((iv 155) 2) + 1) - 1)) (by rw [pz_u1_in (r := 154) (q := 155) (by decide)]; rw [pz_u1_top (r := 154)]; rfl)
                                               refine w_call hc21 rfl (pz_cokI is_154 rfl) ?_
                                               refine w_ret rfl ?_
                                               first | exact lf_i (by first | rfl | omega) rfl | (exfalso; omega))
                                          · first
                                            | (exfalso; first | omega | contradiction)
                                            | (refine w_nil ?_
                                               refine pz_G_of pz_b212_94 ?_
                                               refine w_loc rfl ?_
                                               refine w_pure rfl ?_
                                               have hc22 : pz_R (pz_Sh L) 191 [.inr (.inl 154), .inl 3] (pz_u1 (pz_u1 iv 154 (iv 154)) 155 (iv 155)) (.inl (some (.inl 0))) (pz_u1 (pz_u1 iv 154 (pz_up (iv 154) 0 3)) 155 (iv 155)) := pz_R_mem (s_X11_fails 3) (by rw [pz_u1_in (r := 154) (q := 155) (by decide)]; rw [pz_u1_top (r := 154)]; rfl)
                                               refine w_call hc22 rfl (pz_cokI is_154 rfl) ?_
                                               refine w_ret rfl ?_
                                               first | exact lf_i (by first | rfl | omega) rfl | (exfalso; omega)))
                                     · first
                                       | (exfalso; first | omega | contradiction)
                                       | (refine w_loc rfl ?_
                                          refine w_loc rfl ?_
                                          have hc23 : pz_R (pz_Sh L) 196 [.inr (.inl 154), .inl f] (pz_u1 (pz_u1 iv 154 (iv 154)) 155 (iv 155)) (.inl (some (.inl (pz_bi (q_sta (iv 155) f))))) (pz_u1 (pz_u1 iv 154 (iv 154)) 155 (iv 155)) := s_X11_hasStarted f (by show 0 ≤ f ∧ f ≤ 9; omega)
                                          refine w_call hc23 rfl (pz_cokI is_154 rfl) ?_
                                          refine w_bne (fun h24 => ?_) (fun h24 => ?_)
                                          · first
                                            | (exfalso; first | omega | contradiction)
                                            | (refine pz_G_of pz_b212_94 ?_
                                               refine w_loc rfl ?_
                                               refine w_pure rfl ?_
                                               have hc25 : pz_R (pz_Sh L) 191 [.inr (.inl 154), .inl 3] (pz_u1 (pz_u1 iv 154 (iv 154)) 155 (iv 155)) (.inl (some (.inl 0))) (pz_u1 (pz_u1 iv 154 (pz_up (iv 154) 0 3)) 155 (iv 155)) := pz_R_mem (s_X11_fails 3) (by rw [pz_u1_in (r := 154) (q := 155) (by decide)]; rw [pz_u1_top (r := 154)]; rfl)
                                               refine w_call hc25 rfl (pz_cokI is_154 rfl) ?_
                                               refine w_ret rfl ?_
                                               first | exact lf_i (by first | rfl | omega) rfl | (exfalso; omega))
                                          · first
                                            | (exfalso; first | omega | contradiction)
                                            | (refine w_nil ?_
                                               refine pz_G_of pz_b212_86 ?_
                                               refine w_loc rfl ?_
                                               refine w_loc rfl ?_
                                               have hc26 : pz_R (pz_Sh L) 196 [.inr (.inl 154), .inl t] (pz_u1 (pz_u1 iv 154 (iv 154)) 155 (iv 155)) (.inl (some (.inl (pz_bi (q_sta (iv 155) t))))) (pz_u1 (pz_u1 iv 154 (iv 154)) 155 (iv 155)) := s_X11_hasStarted t (by show 0 ≤ t ∧ t ≤ 9; omega)
                                               refine w_call hc26 rfl (pz_cokI is_154 rfl) ?_
                                               refine w_beq (fun h27 => ?_) (fun h27 => ?_)
                                               · first
                                                 | (exfalso; first | omega | contradiction)
                                                 | (refine pz_G_of pz_b212_100 ?_
                                                    refine w_pure rfl ?_
                                                    refine w_pure rfl ?_
                                                    refine w_loc rfl ?_
                                                    refine w_getR (q := 155) is_154 rf_154_1 ?_
                                                    refine w_pure rfl ?_
                                                    refine w_iald (v := (iv 155) 2) is_155 ln_155 ⟨by omega, by omega⟩ rfl ?_
                                                    refine w_imul (by omega) ?_
                                                    refine w_iadd (by omega) ?_
                                                    refine w_loc (ls' := [some (.inr (.inl 154)), some (.inl f), some (.inl t), some (.inl l), some (.inl g), some (.inl (212 + (4 * ((iv 155) 2))))]) (st' := []) rfl ?_
                                                    refine w_loc rfl ?_
                                                    refine w_getR (q := 155) is_154 rf_154_1 ?_
                                                    refine w_loc rfl ?_
                                                    refine w_loc rfl ?_
                                                    refine w_iastm (iv2 := pz_u1 (pz_u1 iv 154 (iv 154)) 155 (pz_up (iv 155) (212 + (4 * ((iv 155) 2))).toNat f)) is_155 ln_155 ⟨by omega, by omega⟩ (by exact pz_u2_top _ _ _ _ _) ?_
                                                    refine w_loc rfl ?_
                                                    refine w_getR (q := 155) is_154 rf_154_1 ?_
                                                    refine w_loc rfl ?_
                                                    refine w_pure rfl ?_
                                                    refine w_iadd (by omega) ?_
                                                    refine w_loc rfl ?_
                                                    refine w_iastm (iv2 := pz_u1 (pz_u1 iv 154 (iv 154)) 155 (pz_up (pz_up (iv 155) (212 + (4 * ((iv 155) 2))).toNat f) ((212 + (4 * ((iv 155) 2))) + 1).toNat t)) is_155 ln_155 ⟨by omega, by omega⟩ (by exact pz_u2_top _ _ _ _ _) ?_
                                                    refine w_loc rfl ?_
                                                    refine w_getR (q := 155) is_154 rf_154_1 ?_
                                                    refine w_loc rfl ?_
                                                    refine w_pure rfl ?_
                                                    refine w_iadd (by omega) ?_
                                                    refine w_loc rfl ?_
                                                    refine w_iastm (iv2 := pz_u1 (pz_u1 iv 154 (iv 154)) 155 (pz_up (pz_up (pz_up (iv 155) (212 + (4 * ((iv 155) 2))).toNat f) ((212 + (4 * ((iv 155) 2))) + 1).toNat t) ((212 + (4 * ((iv 155) 2))) + 2).toNat l)) is_155 ln_155 ⟨by omega, by omega⟩ (by exact pz_u2_top _ _ _ _ _) ?_
                                                    refine w_loc rfl ?_
                                                    refine w_getR (q := 155) is_154 rf_154_1 ?_
                                                    refine w_loc rfl ?_
                                                    refine w_pure rfl ?_
                                                    refine w_iadd (by omega) ?_
                                                    refine w_loc rfl ?_
                                                    refine w_iastm (iv2 := pz_u1 (pz_u1 iv 154 (iv 154)) 155 (pz_up (pz_up (pz_up (pz_up (iv 155) (212 + (4 * ((iv 155) 2))).toNat f) ((212 + (4 * ((iv 155) 2))) + 1).toNat t) ((212 + (4 * ((iv 155) 2))) + 2).toNat l) ((212 + (4 * ((iv 155) 2))) + 3).toNat g)) is_155 ln_155 ⟨by omega, by omega⟩ (by exact pz_u2_top _ _ _ _ _) ?_
                                                    refine w_loc rfl ?_
                                                    refine w_getR (q := 155) is_154 rf_154_1 ?_
                                                    refine w_pure rfl ?_
                                                    refine w_pure rfl ?_
                                                    refine w_iald (v := (iv 155) 2) is_155 ln_155 ⟨by omega, by omega⟩ (by show (pz_up (pz_up (pz_up (pz_up (iv 155) (212 + (4 * ((iv 155) 2))).toNat f) ((212 + (4 * ((iv 155) 2))) + 1).toNat t) ((212 + (4 * ((iv 155) 2))) + 2).toNat l) ((212 + (4 * ((iv 155) 2))) + 3).toNat g) 2 = _; rw [pz_up_ne (by omega), pz_up_ne (by omega), pz_up_ne (by omega), pz_up_ne (by omega)]) ?_
                                                    refine w_pure rfl ?_
                                                    refine w_iadd (by omega) ?_
                                                    refine w_iastm (iv2 := pz_u1 (pz_u1 iv 154 (iv 154)) 155 (pz_up (pz_up (pz_up (pz_up (pz_up (iv 155) (212 + (4 * ((iv 155) 2))).toNat f) ((212 + (4 * ((iv 155) 2))) + 1).toNat t) ((212 + (4 * ((iv 155) 2))) + 2).toNat l) ((212 + (4 * ((iv 155) 2))) + 3).toNat g) 2 (((iv 155) 2) + 1))) is_155 ln_155 ⟨by omega, by omega⟩ (by exact pz_u2_top _ _ _ _ _) ?_
                                                    refine w_loc rfl ?_
                                                    refine w_loc rfl ?_
                                                    refine w_getR (q := 155) is_154 rf_154_1 ?_
                                                    refine w_pure rfl ?_
                                                    refine w_iald (v := ((iv 155) 2) + 1) is_155 ln_155 ⟨by omega, by omega⟩ rfl ?_
                                                    refine w_pure rfl ?_
                                                    refine w_isub (by omega) ?_
                                                    have hc28 : pz_R (pz_Sh L) 192 [.inr (.inl 154), .inl ((((iv 155) 2) + 1) - 1)] (pz_u1 (pz_u1 iv 154 (iv 154)) 155 (pz_up (pz_up (pz_up (pz_up (pz_up (iv 155) (212 + (4 * ((iv 155) 2))).toNat f) ((212 + (4 * ((iv 155) 2))) + 1).toNat t) ((212 + (4 * ((iv 155) 2))) + 2).toNat l) ((212 + (4 * ((iv 155) 2))) + 3).toNat g) 2 (((iv 155) 2) + 1))) (.inl (some (.inl ((((iv 155) 2) + 1) - 1)))) (pz_u1 (pz_u1 iv 154 (pz_up (iv 154) 0 0)) 155 (pz_up (pz_up (pz_up (pz_up (pz_up (iv 155) (212 + (4 * ((iv 155) 2))).toNat f) ((212 + (4 * ((iv 155) 2))) + 1).toNat t) ((212 + (4 * ((iv 155) 2))) + 2).toNat l) ((212 + (4 * ((iv 155) 2))) + 3).toNat g) 2 (((iv 155) 2) + 1))) := pz_R_mem (s_X11_tells ((((iv 155) 2) + 1) - 1)) (by rw [pz_u1_in (r := 154) (q := 155) (by decide)]; rw [pz_u1_top (r := 154)]; rfl)
                                                    refine w_call hc28 rfl (pz_cokI is_154 rfl) ?_
                                                    refine w_ret rfl ?_
                                                    first | exact lf_i (by first | rfl | omega) rfl | (exfalso; omega))
                                               · first
                                                 | (exfalso; first | omega | contradiction)
                                                 | (refine w_nil ?_
                                                    refine pz_G_of pz_b212_94 ?_
                                                    refine w_loc rfl ?_
                                                    refine w_pure rfl ?_
                                                    have hc29 : pz_R (pz_Sh L) 191 [.inr (.inl 154), .inl 3] (pz_u1 (pz_u1 iv 154 (iv 154)) 155 (iv 155)) (.inl (some (.inl 0))) (pz_u1 (pz_u1 iv 154 (pz_up (iv 154) 0 3)) 155 (iv 155)) := pz_R_mem (s_X11_fails 3) (by rw [pz_u1_in (r := 154) (q := 155) (by decide)]; rw [pz_u1_top (r := 154)]; rfl)
                                                    refine w_call hc29 rfl (pz_cokI is_154 rfl) ?_
                                                    refine w_ret rfl ?_
                                                    first | exact lf_i (by first | rfl | omega) rfl | (exfalso; omega)))))))
                      · first
                        | (exfalso; first | omega | contradiction)
                        | (refine w_nil ?_
                           refine pz_G_of pz_b212_50 ?_
                           refine w_loc rfl ?_
                           refine w_pure rfl ?_
                           have hc30 : pz_R (pz_Sh L) 191 [.inr (.inl 154), .inl 2] (pz_u1 (pz_u1 iv 154 (iv 154)) 155 (iv 155)) (.inl (some (.inl 0))) (pz_u1 (pz_u1 iv 154 (pz_up (iv 154) 0 2)) 155 (iv 155)) := pz_R_mem (s_X11_fails 2) (by rw [pz_u1_in (r := 154) (q := 155) (by decide)]; rw [pz_u1_top (r := 154)]; rfl)
                           refine w_call hc30 rfl (pz_cokI is_154 rfl) ?_
                           refine w_ret rfl ?_
                           first | exact lf_i (by first | rfl | omega) rfl | (exfalso; omega)))))
       · first
         | (exfalso; first | omega | contradiction)
         | (refine w_nil ?_
            refine pz_G_of pz_b212_16 ?_
            refine w_loc rfl ?_
            refine w_pure rfl ?_
            have hc31 : pz_R (pz_Sh L) 191 [.inr (.inl 154), .inl 1] (pz_u1 (pz_u1 iv 154 (iv 154)) 155 (iv 155)) (.inl (some (.inl 0))) (pz_u1 (pz_u1 iv 154 (pz_up (iv 154) 0 1)) 155 (iv 155)) := pz_R_mem (s_X11_fails 1) (by rw [pz_u1_in (r := 154) (q := 155) (by decide)]; rw [pz_u1_top (r := 154)]; rfl)
            refine w_call hc31 rfl (pz_cokI is_154 rfl) ?_
            refine w_ret rfl ?_
            first | exact lf_i (by first | rfl | omega) rfl | (exfalso; omega)))

theorem s_X11_end_1 {L : Nat} {iv : Nat → Nat → Int} (s : Int) (hk : q_KR (iv 155)) (hcase0 : ¬ (0 ≤ s ∧ s ≤ iv 155 2 - 1)) : pz_R (pz_Sh L) 274 [.inr (.inl 154), .inl s] iv (.inl (some (.inl 0))) (pz_u1 (pz_u1 iv 154 (pz_up (iv 154) 0 1)) 155 (iv 155)) := by
  intro dv cc ss
  have hk0 := hk.r0
  have hsp := fun h1 h2 => hk.sp (s := s) h1 h2
  have hs6 := fun h1 h2 => hk.st (e := iv 155 (212 + 4 * s).toNat) h1 h2
  refine pz_G_mem (iv2 := pz_u1 (pz_u1 iv 154 (iv 154)) 155 (iv 155)) (by exact ((pz_u1_self iv 154).symm).trans (pz_u1_self (pz_u1 iv 154 (iv 154)) 155).symm) ?_
  show pz_G 274 0 [some (.inr (.inl 154)), some (.inl s), none] [] (pz_Sh L, pz_u1 (pz_u1 iv 154 (iv 154)) 155 (iv 155), dv, cc, ss) (pz_P (pz_Sh L) (.inl (some (.inl 0))) (pz_u1 (pz_u1 iv 154 (pz_up (iv 154) 0 1)) 155 (iv 155)) dv cc ss)
  refine pz_G_of pz_b274_0 ?_
  refine w_loc rfl ?_
  refine w_loc rfl ?_
  have hc1 : pz_R (pz_Sh L) 195 [.inr (.inl 154), .inl s] (pz_u1 (pz_u1 iv 154 (iv 154)) 155 (iv 155)) (.inl (some (.inl (pz_bi (0 ≤ s ∧ s ≤ (iv 155) 2 - 1))))) (pz_u1 (pz_u1 iv 154 (iv 154)) 155 (iv 155)) := s_X11_isSpan s (by show q_KR (iv 155); exact hk)
  refine w_call hc1 rfl (pz_cokI is_154 rfl) ?_
  refine w_bne (fun h2 => ?_) (fun h2 => ?_)
  · first
    | (exfalso; first | omega | contradiction)
    | (refine pz_G_of pz_b274_14 ?_
       refine w_loc rfl ?_
       refine w_loc rfl ?_
       refine w_loc rfl ?_
       have hc3 : pz_R (pz_Sh L) 206 [.inr (.inl 154), .inl s] (pz_u1 (pz_u1 iv 154 (iv 154)) 155 (iv 155)) (.inl (some (.inl ((iv 155) (212 + 4 * s).toNat)))) (pz_u1 (pz_u1 iv 154 (iv 154)) 155 (iv 155)) := s_X11_first s (by show 0 ≤ s ∧ s ≤ 2; omega)
       refine w_call hc3 rfl (pz_cokI is_154 rfl) ?_
       have hc4 : pz_R (pz_Sh L) 196 [.inr (.inl 154), .inl ((iv 155) (212 + 4 * s).toNat)] (pz_u1 (pz_u1 iv 154 (iv 154)) 155 (iv 155)) (.inl (some (.inl (pz_bi (q_sta (iv 155) ((iv 155) (212 + 4 * s).toNat)))))) (pz_u1 (pz_u1 iv 154 (iv 154)) 155 (iv 155)) := s_X11_hasStarted ((iv 155) (212 + 4 * s).toNat) (by show 0 ≤ ((iv 155) (212 + 4 * s).toNat) ∧ ((iv 155) (212 + 4 * s).toNat) ≤ 9; omega)
       refine w_call hc4 rfl (pz_cokI is_154 rfl) ?_
       refine w_beq (fun h5 => ?_) (fun h5 => ?_)
       · first
         | (exfalso; first | omega | contradiction)
         | (refine pz_G_of pz_b274_34 ?_
            refine w_loc rfl ?_
            refine w_pure rfl ?_
            have hc6 : pz_R (pz_Sh L) 191 [.inr (.inl 154), .inl 2] (pz_u1 (pz_u1 iv 154 (iv 154)) 155 (iv 155)) (.inl (some (.inl 0))) (pz_u1 (pz_u1 iv 154 (pz_up (iv 154) 0 2)) 155 (iv 155)) := pz_R_mem (s_X11_fails 2) (by rw [pz_u1_in (r := 154) (q := 155) (by decide)]; rw [pz_u1_top (r := 154)]; rfl)
            refine w_call hc6 rfl (pz_cokI is_154 rfl) ?_
            refine w_ret rfl ?_
            first | exact lf_i (by first | rfl | omega) (by rfl) | (exfalso; omega))
       · first
         | (exfalso; first | omega | contradiction)
         | (refine w_loc rfl ?_
            refine w_loc rfl ?_
            have hc7 : pz_R (pz_Sh L) 210 [.inr (.inl 154), .inl s] (pz_u1 (pz_u1 iv 154 (iv 154)) 155 (iv 155)) (.inl (some (.inl (pz_bi (q_sta (iv 155) ((iv 155) (212 + 4 * s + 1).toNat)))))) (pz_u1 (pz_u1 iv 154 (iv 154)) 155 (iv 155)) := s_X11_hasEnded s (by show q_KR (iv 155); exact hk) (by show 0 ≤ s ∧ s < (iv 155) 2; omega)
            refine w_call hc7 rfl (pz_cokI is_154 rfl) ?_
            refine w_beq (fun h8 => ?_) (fun h8 => ?_)
            · first
              | (exfalso; first | omega | contradiction)
              | (refine pz_G_of pz_b274_40 ?_
                 refine w_loc rfl ?_
                 refine w_getR (q := 155) is_154 rf_154_1 ?_
                 refine w_pure rfl ?_
                 refine w_iald (v := (iv 155) 4) is_155 ln_155 ⟨by omega, by omega⟩ rfl ?_
                 refine w_loc rfl ?_
                 refine w_getR (q := 155) is_154 rf_154_1 ?_
                 refine w_pure rfl ?_
                 refine w_loc rfl ?_
                 refine w_loc rfl ?_
                 have hc9 : pz_R (pz_Sh L) 206 [.inr (.inl 154), .inl s] (pz_u1 (pz_u1 iv 154 (iv 154)) 155 (iv 155)) (.inl (some (.inl ((iv 155) (212 + 4 * s).toNat)))) (pz_u1 (pz_u1 iv 154 (iv 154)) 155 (iv 155)) := s_X11_first s (by show 0 ≤ s ∧ s ≤ 2; omega)
                 refine w_call hc9 rfl (pz_cokI is_154 rfl) ?_
                 refine w_iadd (by omega) ?_
                 refine w_iald (v := (iv 155) (6 + ((iv 155) (212 + 4 * s).toNat)).toNat) is_155 ln_155 ⟨by omega, by omega⟩ rfl ?_
                 refine w_isub (by omega) ?_
                 refine w_loc (ls' := [some (.inr (.inl 154)), some (.inl s), some (.inl (((iv 155) 4) - ((iv 155) (6 + ((iv 155) (212 + 4 * s).toNat)).toNat)))]) (st' := []) rfl ?_
                 refine w_loc rfl ?_
                 refine w_loc rfl ?_
                 refine w_loc rfl ?_
                 have hc10 : pz_R (pz_Sh L) 208 [.inr (.inl 154), .inl s] (pz_u1 (pz_u1 iv 154 (iv 154)) 155 (iv 155)) (.inl (some (.inl ((iv 155) (212 + 4 * s + 2).toNat)))) (pz_u1 (pz_u1 iv 154 (iv 154)) 155 (iv 155)) := s_X11_least s (by show 0 ≤ s ∧ s ≤ 2; omega)
                 refine w_call hc10 rfl (pz_cokI is_154 rfl) ?_
                 refine w_loc rfl ?_
                 refine w_loc rfl ?_
                 have hc11 : pz_R (pz_Sh L) 209 [.inr (.inl 154), .inl s] (pz_u1 (pz_u1 iv 154 (iv 154)) 155 (iv 155)) (.inl (some (.inl ((iv 155) (212 + 4 * s + 3).toNat)))) (pz_u1 (pz_u1 iv 154 (iv 154)) 155 (iv 155)) := s_X11_greatest s (by show 0 ≤ s ∧ s ≤ 2; omega)
                 refine w_call hc11 rfl (pz_cokI is_154 rfl) ?_
                 have hc12 : pz_R (pz_Sh L) 190 [.inl (((iv 155) 4) - ((iv 155) (6 + ((iv 155) (212 + 4 * s).toNat)).toNat)), .inl ((iv 155) (212 + 4 * s + 2).toNat), .inl ((iv 155) (212 + 4 * s + 3).toNat)] (pz_u1 (pz_u1 iv 154 (iv 154)) 155 (iv 155)) (.inl (some (.inl (pz_bi (((iv 155) (212 + 4 * s + 2).toNat) ≤ (((iv 155) 4) - ((iv 155) (6 + ((iv 155) (212 + 4 * s).toNat)).toNat)) ∧ (((iv 155) 4) - ((iv 155) (6 + ((iv 155) (212 + 4 * s).toNat)).toNat)) ≤ ((iv 155) (212 + 4 * s + 3).toNat)))))) (pz_u1 (pz_u1 iv 154 (iv 154)) 155 (iv 155)) := s_X11_in (((iv 155) 4) - ((iv 155) (6 + ((iv 155) (212 + 4 * s).toNat)).toNat)) ((iv 155) (212 + 4 * s + 2).toNat) ((iv 155) (212 + 4 * s + 3).toNat)
                 refine w_call hc12 rfl rfl ?_
                 refine w_bne (fun h13 => ?_) (fun h13 => ?_)
                 · first
                   | (exfalso; first | omega | contradiction)
                   | (refine pz_G_of pz_b274_84 ?_
                      refine w_loc rfl ?_
                      refine w_getR (q := 155) is_154 rf_154_1 ?_
                      refine w_pure rfl ?_
                      refine w_loc rfl ?_
                      refine w_loc rfl ?_
                      have hc14 : pz_R (pz_Sh L) 207 [.inr (.inl 154), .inl s] (pz_u1 (pz_u1 iv 154 (iv 154)) 155 (iv 155)) (.inl (some (.inl ((iv 155) (212 + 4 * s + 1).toNat)))) (pz_u1 (pz_u1 iv 154 (iv 154)) 155 (iv 155)) := s_X11_endOf s (by show 0 ≤ s ∧ s ≤ 2; omega)
                      refine w_call hc14 rfl (pz_cokI is_154 rfl) ?_
                      refine w_iadd (by omega) ?_
                      refine w_loc rfl ?_
                      refine w_getR (q := 155) is_154 rf_154_1 ?_
                      refine w_pure rfl ?_
                      refine w_iald (v := (iv 155) 4) is_155 ln_155 ⟨by omega, by omega⟩ rfl ?_
                      refine w_iastm (iv2 := pz_u1 (pz_u1 iv 154 (iv 154)) 155 (pz_up (iv 155) (6 + ((iv 155) (212 + 4 * s + 1).toNat)).toNat ((iv 155) 4))) is_155 ln_155 ⟨by omega, by omega⟩ (by exact pz_u2_top _ _ _ _ _) ?_
                      refine w_loc rfl ?_
                      refine w_loc rfl ?_
                      have hc15 : pz_R (pz_Sh L) 192 [.inr (.inl 154), .inl (((iv 155) 4) - ((iv 155) (6 + ((iv 155) (212 + 4 * s).toNat)).toNat))] (pz_u1 (pz_u1 iv 154 (iv 154)) 155 (pz_up (iv 155) (6 + ((iv 155) (212 + 4 * s + 1).toNat)).toNat ((iv 155) 4))) (.inl (some (.inl (((iv 155) 4) - ((iv 155) (6 + ((iv 155) (212 + 4 * s).toNat)).toNat))))) (pz_u1 (pz_u1 iv 154 (pz_up (iv 154) 0 0)) 155 (pz_up (iv 155) (6 + ((iv 155) (212 + 4 * s + 1).toNat)).toNat ((iv 155) 4))) := pz_R_mem (s_X11_tells (((iv 155) 4) - ((iv 155) (6 + ((iv 155) (212 + 4 * s).toNat)).toNat))) (by rw [pz_u1_in (r := 154) (q := 155) (by decide)]; rw [pz_u1_top (r := 154)]; rfl)
                      refine w_call hc15 rfl (pz_cokI is_154 rfl) ?_
                      refine w_ret rfl ?_
                      first | exact lf_i (by first | rfl | omega) (by rfl) | (exfalso; omega))
                 · first
                   | (exfalso; first | omega | contradiction)
                   | (refine w_loc rfl ?_
                      refine w_pure rfl ?_
                      have hc16 : pz_R (pz_Sh L) 191 [.inr (.inl 154), .inl 3] (pz_u1 (pz_u1 iv 154 (iv 154)) 155 (iv 155)) (.inl (some (.inl 0))) (pz_u1 (pz_u1 iv 154 (pz_up (iv 154) 0 3)) 155 (iv 155)) := pz_R_mem (s_X11_fails 3) (by rw [pz_u1_in (r := 154) (q := 155) (by decide)]; rw [pz_u1_top (r := 154)]; rfl)
                      refine w_call hc16 rfl (pz_cokI is_154 rfl) ?_
                      refine w_ret rfl ?_
                      first | exact lf_i (by first | rfl | omega) (by rfl) | (exfalso; omega)))
            · first
              | (exfalso; first | omega | contradiction)
              | (refine w_nil ?_
                 refine pz_G_of pz_b274_34 ?_
                 refine w_loc rfl ?_
                 refine w_pure rfl ?_
                 have hc17 : pz_R (pz_Sh L) 191 [.inr (.inl 154), .inl 2] (pz_u1 (pz_u1 iv 154 (iv 154)) 155 (iv 155)) (.inl (some (.inl 0))) (pz_u1 (pz_u1 iv 154 (pz_up (iv 154) 0 2)) 155 (iv 155)) := pz_R_mem (s_X11_fails 2) (by rw [pz_u1_in (r := 154) (q := 155) (by decide)]; rw [pz_u1_top (r := 154)]; rfl)
                 refine w_call hc17 rfl (pz_cokI is_154 rfl) ?_
                 refine w_ret rfl ?_
                 first | exact lf_i (by first | rfl | omega) (by rfl) | (exfalso; omega))))
  · first
    | (exfalso; first | omega | contradiction)
    | (refine w_loc rfl ?_
       refine w_pure rfl ?_
       have hc18 : pz_R (pz_Sh L) 191 [.inr (.inl 154), .inl 1] (pz_u1 (pz_u1 iv 154 (iv 154)) 155 (iv 155)) (.inl (some (.inl 0))) (pz_u1 (pz_u1 iv 154 (pz_up (iv 154) 0 1)) 155 (iv 155)) := pz_R_mem (s_X11_fails 1) (by rw [pz_u1_in (r := 154) (q := 155) (by decide)]; rw [pz_u1_top (r := 154)]; rfl)
       refine w_call hc18 rfl (pz_cokI is_154 rfl) ?_
       refine w_ret rfl ?_
       first | exact lf_i (by first | rfl | omega) (by rfl) | (exfalso; omega))

theorem s_X11_end_2 {L : Nat} {iv : Nat → Nat → Int} (s : Int) (hk : q_KR (iv 155)) (hcase0 : 0 ≤ s ∧ s ≤ iv 155 2 - 1) (hcase1 : ¬ (q_sta (iv 155) (iv 155 (212 + 4 * s).toNat) ∧ ¬ q_sta (iv 155) (iv 155 (212 + 4 * s + 1).toNat))) : pz_R (pz_Sh L) 274 [.inr (.inl 154), .inl s] iv (.inl (some (.inl 0))) (pz_u1 (pz_u1 iv 154 (pz_up (iv 154) 0 2)) 155 (iv 155)) := by
  intro dv cc ss
  have hk0 := hk.r0
  have hsp := fun h1 h2 => hk.sp (s := s) h1 h2
  have hs6 := fun h1 h2 => hk.st (e := iv 155 (212 + 4 * s).toNat) h1 h2
  refine pz_G_mem (iv2 := pz_u1 (pz_u1 iv 154 (iv 154)) 155 (iv 155)) (by exact ((pz_u1_self iv 154).symm).trans (pz_u1_self (pz_u1 iv 154 (iv 154)) 155).symm) ?_
  show pz_G 274 0 [some (.inr (.inl 154)), some (.inl s), none] [] (pz_Sh L, pz_u1 (pz_u1 iv 154 (iv 154)) 155 (iv 155), dv, cc, ss) (pz_P (pz_Sh L) (.inl (some (.inl 0))) (pz_u1 (pz_u1 iv 154 (pz_up (iv 154) 0 2)) 155 (iv 155)) dv cc ss)
  refine pz_G_of pz_b274_0 ?_
  refine w_loc rfl ?_
  refine w_loc rfl ?_
  have hc1 : pz_R (pz_Sh L) 195 [.inr (.inl 154), .inl s] (pz_u1 (pz_u1 iv 154 (iv 154)) 155 (iv 155)) (.inl (some (.inl (pz_bi (0 ≤ s ∧ s ≤ (iv 155) 2 - 1))))) (pz_u1 (pz_u1 iv 154 (iv 154)) 155 (iv 155)) := s_X11_isSpan s (by show q_KR (iv 155); exact hk)
  refine w_call hc1 rfl (pz_cokI is_154 rfl) ?_
  refine w_bne (fun h2 => ?_) (fun h2 => ?_)
  · first
    | (exfalso; first | omega | contradiction)
    | (refine pz_G_of pz_b274_14 ?_
       refine w_loc rfl ?_
       refine w_loc rfl ?_
       refine w_loc rfl ?_
       have hc3 : pz_R (pz_Sh L) 206 [.inr (.inl 154), .inl s] (pz_u1 (pz_u1 iv 154 (iv 154)) 155 (iv 155)) (.inl (some (.inl ((iv 155) (212 + 4 * s).toNat)))) (pz_u1 (pz_u1 iv 154 (iv 154)) 155 (iv 155)) := s_X11_first s (by show 0 ≤ s ∧ s ≤ 2; omega)
       refine w_call hc3 rfl (pz_cokI is_154 rfl) ?_
       have hc4 : pz_R (pz_Sh L) 196 [.inr (.inl 154), .inl ((iv 155) (212 + 4 * s).toNat)] (pz_u1 (pz_u1 iv 154 (iv 154)) 155 (iv 155)) (.inl (some (.inl (pz_bi (q_sta (iv 155) ((iv 155) (212 + 4 * s).toNat)))))) (pz_u1 (pz_u1 iv 154 (iv 154)) 155 (iv 155)) := s_X11_hasStarted ((iv 155) (212 + 4 * s).toNat) (by show 0 ≤ ((iv 155) (212 + 4 * s).toNat) ∧ ((iv 155) (212 + 4 * s).toNat) ≤ 9; omega)
       refine w_call hc4 rfl (pz_cokI is_154 rfl) ?_
       refine w_beq (fun h5 => ?_) (fun h5 => ?_)
       · first
         | (exfalso; first | omega | contradiction)
         | (refine pz_G_of pz_b274_34 ?_
            refine w_loc rfl ?_
            refine w_pure rfl ?_
            have hc6 : pz_R (pz_Sh L) 191 [.inr (.inl 154), .inl 2] (pz_u1 (pz_u1 iv 154 (iv 154)) 155 (iv 155)) (.inl (some (.inl 0))) (pz_u1 (pz_u1 iv 154 (pz_up (iv 154) 0 2)) 155 (iv 155)) := pz_R_mem (s_X11_fails 2) (by rw [pz_u1_in (r := 154) (q := 155) (by decide)]; rw [pz_u1_top (r := 154)]; rfl)
            refine w_call hc6 rfl (pz_cokI is_154 rfl) ?_
            refine w_ret rfl ?_
            first | exact lf_i (by first | rfl | omega) (by rfl) | (exfalso; omega))
       · first
         | (exfalso; first | omega | contradiction)
         | (refine w_loc rfl ?_
            refine w_loc rfl ?_
            have hc7 : pz_R (pz_Sh L) 210 [.inr (.inl 154), .inl s] (pz_u1 (pz_u1 iv 154 (iv 154)) 155 (iv 155)) (.inl (some (.inl (pz_bi (q_sta (iv 155) ((iv 155) (212 + 4 * s + 1).toNat)))))) (pz_u1 (pz_u1 iv 154 (iv 154)) 155 (iv 155)) := s_X11_hasEnded s (by show q_KR (iv 155); exact hk) (by show 0 ≤ s ∧ s < (iv 155) 2; omega)
            refine w_call hc7 rfl (pz_cokI is_154 rfl) ?_
            refine w_beq (fun h8 => ?_) (fun h8 => ?_)
            · first
              | (exfalso; first | omega | contradiction)
              | (refine pz_G_of pz_b274_40 ?_
                 refine w_loc rfl ?_
                 refine w_getR (q := 155) is_154 rf_154_1 ?_
                 refine w_pure rfl ?_
                 refine w_iald (v := (iv 155) 4) is_155 ln_155 ⟨by omega, by omega⟩ rfl ?_
                 refine w_loc rfl ?_
                 refine w_getR (q := 155) is_154 rf_154_1 ?_
                 refine w_pure rfl ?_
                 refine w_loc rfl ?_
                 refine w_loc rfl ?_
                 have hc9 : pz_R (pz_Sh L) 206 [.inr (.inl 154), .inl s] (pz_u1 (pz_u1 iv 154 (iv 154)) 155 (iv 155)) (.inl (some (.inl ((iv 155) (212 + 4 * s).toNat)))) (pz_u1 (pz_u1 iv 154 (iv 154)) 155 (iv 155)) := s_X11_first s (by show 0 ≤ s ∧ s ≤ 2; omega)
                 refine w_call hc9 rfl (pz_cokI is_154 rfl) ?_
                 refine w_iadd (by omega) ?_
                 refine w_iald (v := (iv 155) (6 + ((iv 155) (212 + 4 * s).toNat)).toNat) is_155 ln_155 ⟨by omega, by omega⟩ rfl ?_
                 refine w_isub (by omega) ?_
                 refine w_loc (ls' := [some (.inr (.inl 154)), some (.inl s), some (.inl (((iv 155) 4) - ((iv 155) (6 + ((iv 155) (212 + 4 * s).toNat)).toNat)))]) (st' := []) rfl ?_
                 refine w_loc rfl ?_
                 refine w_loc rfl ?_
                 refine w_loc rfl ?_
                 have hc10 : pz_R (pz_Sh L) 208 [.inr (.inl 154), .inl s] (pz_u1 (pz_u1 iv 154 (iv 154)) 155 (iv 155)) (.inl (some (.inl ((iv 155) (212 + 4 * s + 2).toNat)))) (pz_u1 (pz_u1 iv 154 (iv 154)) 155 (iv 155)) := s_X11_least s (by show 0 ≤ s ∧ s ≤ 2; omega)
                 refine w_call hc10 rfl (pz_cokI is_154 rfl) ?_
                 refine w_loc rfl ?_
                 refine w_loc rfl ?_
                 have hc11 : pz_R (pz_Sh L) 209 [.inr (.inl 154), .inl s] (pz_u1 (pz_u1 iv 154 (iv 154)) 155 (iv 155)) (.inl (some (.inl ((iv 155) (212 + 4 * s + 3).toNat)))) (pz_u1 (pz_u1 iv 154 (iv 154)) 155 (iv 155)) := s_X11_greatest s (by show 0 ≤ s ∧ s ≤ 2; omega)
                 refine w_call hc11 rfl (pz_cokI is_154 rfl) ?_
                 have hc12 : pz_R (pz_Sh L) 190 [.inl (((iv 155) 4) - ((iv 155) (6 + ((iv 155) (212 + 4 * s).toNat)).toNat)), .inl ((iv 155) (212 + 4 * s + 2).toNat), .inl ((iv 155) (212 + 4 * s + 3).toNat)] (pz_u1 (pz_u1 iv 154 (iv 154)) 155 (iv 155)) (.inl (some (.inl (pz_bi (((iv 155) (212 + 4 * s + 2).toNat) ≤ (((iv 155) 4) - ((iv 155) (6 + ((iv 155) (212 + 4 * s).toNat)).toNat)) ∧ (((iv 155) 4) - ((iv 155) (6 + ((iv 155) (212 + 4 * s).toNat)).toNat)) ≤ ((iv 155) (212 + 4 * s + 3).toNat)))))) (pz_u1 (pz_u1 iv 154 (iv 154)) 155 (iv 155)) := s_X11_in (((iv 155) 4) - ((iv 155) (6 + ((iv 155) (212 + 4 * s).toNat)).toNat)) ((iv 155) (212 + 4 * s + 2).toNat) ((iv 155) (212 + 4 * s + 3).toNat)
                 refine w_call hc12 rfl rfl ?_
                 refine w_bne (fun h13 => ?_) (fun h13 => ?_)
                 · first
                   | (exfalso; first | omega | contradiction)
                   | (refine pz_G_of pz_b274_84 ?_
                      refine w_loc rfl ?_
                      refine w_getR (q := 155) is_154 rf_154_1 ?_
                      refine w_pure rfl ?_
                      refine w_loc rfl ?_
                      refine w_loc rfl ?_
                      have hc14 : pz_R (pz_Sh L) 207 [.inr (.inl 154), .inl s] (pz_u1 (pz_u1 iv 154 (iv 154)) 155 (iv 155)) (.inl (some (.inl ((iv 155) (212 + 4 * s + 1).toNat)))) (pz_u1 (pz_u1 iv 154 (iv 154)) 155 (iv 155)) := s_X11_endOf s (by show 0 ≤ s ∧ s ≤ 2; omega)
                      refine w_call hc14 rfl (pz_cokI is_154 rfl) ?_
                      refine w_iadd (by omega) ?_
                      refine w_loc rfl ?_
                      refine w_getR (q := 155) is_154 rf_154_1 ?_
                      refine w_pure rfl ?_
                      refine w_iald (v := (iv 155) 4) is_155 ln_155 ⟨by omega, by omega⟩ rfl ?_
                      refine w_iastm (iv2 := pz_u1 (pz_u1 iv 154 (iv 154)) 155 (pz_up (iv 155) (6 + ((iv 155) (212 + 4 * s + 1).toNat)).toNat ((iv 155) 4))) is_155 ln_155 ⟨by omega, by omega⟩ (by exact pz_u2_top _ _ _ _ _) ?_
                      refine w_loc rfl ?_
                      refine w_loc rfl ?_
                      have hc15 : pz_R (pz_Sh L) 192 [.inr (.inl 154), .inl (((iv 155) 4) - ((iv 155) (6 + ((iv 155) (212 + 4 * s).toNat)).toNat))] (pz_u1 (pz_u1 iv 154 (iv 154)) 155 (pz_up (iv 155) (6 + ((iv 155) (212 + 4 * s + 1).toNat)).toNat ((iv 155) 4))) (.inl (some (.inl (((iv 155) 4) - ((iv 155) (6 + ((iv 155) (212 + 4 * s).toNat)).toNat))))) (pz_u1 (pz_u1 iv 154 (pz_up (iv 154) 0 0)) 155 (pz_up (iv 155) (6 + ((iv 155) (212 + 4 * s + 1).toNat)).toNat ((iv 155) 4))) := pz_R_mem (s_X11_tells (((iv 155) 4) - ((iv 155) (6 + ((iv 155) (212 + 4 * s).toNat)).toNat))) (by rw [pz_u1_in (r := 154) (q := 155) (by decide)]; rw [pz_u1_top (r := 154)]; rfl)
                      refine w_call hc15 rfl (pz_cokI is_154 rfl) ?_
                      refine w_ret rfl ?_
                      first | exact lf_i (by first | rfl | omega) (by rfl) | (exfalso; omega))
                 · first
                   | (exfalso; first | omega | contradiction)
                   | (refine w_loc rfl ?_
                      refine w_pure rfl ?_
                      have hc16 : pz_R (pz_Sh L) 191 [.inr (.inl 154), .inl 3] (pz_u1 (pz_u1 iv 154 (iv 154)) 155 (iv 155)) (.inl (some (.inl 0))) (pz_u1 (pz_u1 iv 154 (pz_up (iv 154) 0 3)) 155 (iv 155)) := pz_R_mem (s_X11_fails 3) (by rw [pz_u1_in (r := 154) (q := 155) (by decide)]; rw [pz_u1_top (r := 154)]; rfl)
                      refine w_call hc16 rfl (pz_cokI is_154 rfl) ?_
                      refine w_ret rfl ?_
                      first | exact lf_i (by first | rfl | omega) (by rfl) | (exfalso; omega)))
            · first
              | (exfalso; first | omega | contradiction)
              | (refine w_nil ?_
                 refine pz_G_of pz_b274_34 ?_
                 refine w_loc rfl ?_
                 refine w_pure rfl ?_
                 have hc17 : pz_R (pz_Sh L) 191 [.inr (.inl 154), .inl 2] (pz_u1 (pz_u1 iv 154 (iv 154)) 155 (iv 155)) (.inl (some (.inl 0))) (pz_u1 (pz_u1 iv 154 (pz_up (iv 154) 0 2)) 155 (iv 155)) := pz_R_mem (s_X11_fails 2) (by rw [pz_u1_in (r := 154) (q := 155) (by decide)]; rw [pz_u1_top (r := 154)]; rfl)
                 refine w_call hc17 rfl (pz_cokI is_154 rfl) ?_
                 refine w_ret rfl ?_
                 first | exact lf_i (by first | rfl | omega) (by rfl) | (exfalso; omega))))
  · first
    | (exfalso; first | omega | contradiction)
    | (refine w_loc rfl ?_
       refine w_pure rfl ?_
       have hc18 : pz_R (pz_Sh L) 191 [.inr (.inl 154), .inl 1] (pz_u1 (pz_u1 iv 154 (iv 154)) 155 (iv 155)) (.inl (some (.inl 0))) (pz_u1 (pz_u1 iv 154 (pz_up (iv 154) 0 1)) 155 (iv 155)) := pz_R_mem (s_X11_fails 1) (by rw [pz_u1_in (r := 154) (q := 155) (by decide)]; rw [pz_u1_top (r := 154)]; rfl)
       refine w_call hc18 rfl (pz_cokI is_154 rfl) ?_
       refine w_ret rfl ?_
       first | exact lf_i (by first | rfl | omega) (by rfl) | (exfalso; omega))

theorem s_X11_end_3 {L : Nat} {iv : Nat → Nat → Int} (s : Int) (hk : q_KR (iv 155)) (hcase0 : 0 ≤ s ∧ s ≤ iv 155 2 - 1) (hcase1 : q_sta (iv 155) (iv 155 (212 + 4 * s).toNat) ∧ ¬ q_sta (iv 155) (iv 155 (212 + 4 * s + 1).toNat)) (hcase2 : ¬ (iv 155 (212 + 4 * s + 2).toNat ≤ iv 155 4 - iv 155 (6 + iv 155 (212 + 4 * s).toNat).toNat ∧ iv 155 4 - iv 155 (6 + iv 155 (212 + 4 * s).toNat).toNat ≤ iv 155 (212 + 4 * s + 3).toNat)) : pz_R (pz_Sh L) 274 [.inr (.inl 154), .inl s] iv (.inl (some (.inl 0))) (pz_u1 (pz_u1 iv 154 (pz_up (iv 154) 0 3)) 155 (iv 155)) := by
  intro dv cc ss
  have hk0 := hk.r0
  have hsp := fun h1 h2 => hk.sp (s := s) h1 h2
  have hs6 := fun h1 h2 => hk.st (e := iv 155 (212 + 4 * s).toNat) h1 h2
  refine pz_G_mem (iv2 := pz_u1 (pz_u1 iv 154 (iv 154)) 155 (iv 155)) (by exact ((pz_u1_self iv 154).symm).trans (pz_u1_self (pz_u1 iv 154 (iv 154)) 155).symm) ?_
  show pz_G 274 0 [some (.inr (.inl 154)), some (.inl s), none] [] (pz_Sh L, pz_u1 (pz_u1 iv 154 (iv 154)) 155 (iv 155), dv, cc, ss) (pz_P (pz_Sh L) (.inl (some (.inl 0))) (pz_u1 (pz_u1 iv 154 (pz_up (iv 154) 0 3)) 155 (iv 155)) dv cc ss)
  refine pz_G_of pz_b274_0 ?_
  refine w_loc rfl ?_
  refine w_loc rfl ?_
  have hc1 : pz_R (pz_Sh L) 195 [.inr (.inl 154), .inl s] (pz_u1 (pz_u1 iv 154 (iv 154)) 155 (iv 155)) (.inl (some (.inl (pz_bi (0 ≤ s ∧ s ≤ (iv 155) 2 - 1))))) (pz_u1 (pz_u1 iv 154 (iv 154)) 155 (iv 155)) := s_X11_isSpan s (by show q_KR (iv 155); exact hk)
  refine w_call hc1 rfl (pz_cokI is_154 rfl) ?_
  refine w_bne (fun h2 => ?_) (fun h2 => ?_)
  · first
    | (exfalso; first | omega | contradiction)
    | (refine pz_G_of pz_b274_14 ?_
       refine w_loc rfl ?_
       refine w_loc rfl ?_
       refine w_loc rfl ?_
       have hc3 : pz_R (pz_Sh L) 206 [.inr (.inl 154), .inl s] (pz_u1 (pz_u1 iv 154 (iv 154)) 155 (iv 155)) (.inl (some (.inl ((iv 155) (212 + 4 * s).toNat)))) (pz_u1 (pz_u1 iv 154 (iv 154)) 155 (iv 155)) := s_X11_first s (by show 0 ≤ s ∧ s ≤ 2; omega)
       refine w_call hc3 rfl (pz_cokI is_154 rfl) ?_
       have hc4 : pz_R (pz_Sh L) 196 [.inr (.inl 154), .inl ((iv 155) (212 + 4 * s).toNat)] (pz_u1 (pz_u1 iv 154 (iv 154)) 155 (iv 155)) (.inl (some (.inl (pz_bi (q_sta (iv 155) ((iv 155) (212 + 4 * s).toNat)))))) (pz_u1 (pz_u1 iv 154 (iv 154)) 155 (iv 155)) := s_X11_hasStarted ((iv 155) (212 + 4 * s).toNat) (by show 0 ≤ ((iv 155) (212 + 4 * s).toNat) ∧ ((iv 155) (212 + 4 * s).toNat) ≤ 9; omega)
       refine w_call hc4 rfl (pz_cokI is_154 rfl) ?_
       refine w_beq (fun h5 => ?_) (fun h5 => ?_)
       · first
         | (exfalso; first | omega | contradiction)
         | (refine pz_G_of pz_b274_34 ?_
            refine w_loc rfl ?_
            refine w_pure rfl ?_
            have hc6 : pz_R (pz_Sh L) 191 [.inr (.inl 154), .inl 2] (pz_u1 (pz_u1 iv 154 (iv 154)) 155 (iv 155)) (.inl (some (.inl 0))) (pz_u1 (pz_u1 iv 154 (pz_up (iv 154) 0 2)) 155 (iv 155)) := pz_R_mem (s_X11_fails 2) (by rw [pz_u1_in (r := 154) (q := 155) (by decide)]; rw [pz_u1_top (r := 154)]; rfl)
            refine w_call hc6 rfl (pz_cokI is_154 rfl) ?_
            refine w_ret rfl ?_
            first | exact lf_i (by first | rfl | omega) (by rfl) | (exfalso; omega))
       · first
         | (exfalso; first | omega | contradiction)
         | (refine w_loc rfl ?_
            refine w_loc rfl ?_
            have hc7 : pz_R (pz_Sh L) 210 [.inr (.inl 154), .inl s] (pz_u1 (pz_u1 iv 154 (iv 154)) 155 (iv 155)) (.inl (some (.inl (pz_bi (q_sta (iv 155) ((iv 155) (212 + 4 * s + 1).toNat)))))) (pz_u1 (pz_u1 iv 154 (iv 154)) 155 (iv 155)) := s_X11_hasEnded s (by show q_KR (iv 155); exact hk) (by show 0 ≤ s ∧ s < (iv 155) 2; omega)
            refine w_call hc7 rfl (pz_cokI is_154 rfl) ?_
            refine w_beq (fun h8 => ?_) (fun h8 => ?_)
            · first
              | (exfalso; first | omega | contradiction)
              | (refine pz_G_of pz_b274_40 ?_
                 refine w_loc rfl ?_
                 refine w_getR (q := 155) is_154 rf_154_1 ?_
                 refine w_pure rfl ?_
                 refine w_iald (v := (iv 155) 4) is_155 ln_155 ⟨by omega, by omega⟩ rfl ?_
                 refine w_loc rfl ?_
                 refine w_getR (q := 155) is_154 rf_154_1 ?_
                 refine w_pure rfl ?_
                 refine w_loc rfl ?_
                 refine w_loc rfl ?_
                 have hc9 : pz_R (pz_Sh L) 206 [.inr (.inl 154), .inl s] (pz_u1 (pz_u1 iv 154 (iv 154)) 155 (iv 155)) (.inl (some (.inl ((iv 155) (212 + 4 * s).toNat)))) (pz_u1 (pz_u1 iv 154 (iv 154)) 155 (iv 155)) := s_X11_first s (by show 0 ≤ s ∧ s ≤ 2; omega)
                 refine w_call hc9 rfl (pz_cokI is_154 rfl) ?_
                 refine w_iadd (by omega) ?_
                 refine w_iald (v := (iv 155) (6 + ((iv 155) (212 + 4 * s).toNat)).toNat) is_155 ln_155 ⟨by omega, by omega⟩ rfl ?_
                 refine w_isub (by omega) ?_
                 refine w_loc (ls' := [some (.inr (.inl 154)), some (.inl s), some (.inl (((iv 155) 4) - ((iv 155) (6 + ((iv 155) (212 + 4 * s).toNat)).toNat)))]) (st' := []) rfl ?_
                 refine w_loc rfl ?_
                 refine w_loc rfl ?_
                 refine w_loc rfl ?_
                 have hc10 : pz_R (pz_Sh L) 208 [.inr (.inl 154), .inl s] (pz_u1 (pz_u1 iv 154 (iv 154)) 155 (iv 155)) (.inl (some (.inl ((iv 155) (212 + 4 * s + 2).toNat)))) (pz_u1 (pz_u1 iv 154 (iv 154)) 155 (iv 155)) := s_X11_least s (by show 0 ≤ s ∧ s ≤ 2; omega)
                 refine w_call hc10 rfl (pz_cokI is_154 rfl) ?_
                 refine w_loc rfl ?_
                 refine w_loc rfl ?_
                 have hc11 : pz_R (pz_Sh L) 209 [.inr (.inl 154), .inl s] (pz_u1 (pz_u1 iv 154 (iv 154)) 155 (iv 155)) (.inl (some (.inl ((iv 155) (212 + 4 * s + 3).toNat)))) (pz_u1 (pz_u1 iv 154 (iv 154)) 155 (iv 155)) := s_X11_greatest s (by show 0 ≤ s ∧ s ≤ 2; omega)
                 refine w_call hc11 rfl (pz_cokI is_154 rfl) ?_
                 have hc12 : pz_R (pz_Sh L) 190 [.inl (((iv 155) 4) - ((iv 155) (6 + ((iv 155) (212 + 4 * s).toNat)).toNat)), .inl ((iv 155) (212 + 4 * s + 2).toNat), .inl ((iv 155) (212 + 4 * s + 3).toNat)] (pz_u1 (pz_u1 iv 154 (iv 154)) 155 (iv 155)) (.inl (some (.inl (pz_bi (((iv 155) (212 + 4 * s + 2).toNat) ≤ (((iv 155) 4) - ((iv 155) (6 + ((iv 155) (212 + 4 * s).toNat)).toNat)) ∧ (((iv 155) 4) - ((iv 155) (6 + ((iv 155) (212 + 4 * s).toNat)).toNat)) ≤ ((iv 155) (212 + 4 * s + 3).toNat)))))) (pz_u1 (pz_u1 iv 154 (iv 154)) 155 (iv 155)) := s_X11_in (((iv 155) 4) - ((iv 155) (6 + ((iv 155) (212 + 4 * s).toNat)).toNat)) ((iv 155) (212 + 4 * s + 2).toNat) ((iv 155) (212 + 4 * s + 3).toNat)
                 refine w_call hc12 rfl rfl ?_
                 refine w_bne (fun h13 => ?_) (fun h13 => ?_)
                 · first
                   | (exfalso; first | omega | contradiction)
                   | (refine pz_G_of pz_b274_84 ?_
                      refine w_loc rfl ?_
                      refine w_getR (q := 155) is_154 rf_154_1 ?_
                      refine w_pure rfl ?_
                      refine w_loc rfl ?_
                      refine w_loc rfl ?_
                      have hc14 : pz_R (pz_Sh L) 207 [.inr (.inl 154), .inl s] (pz_u1 (pz_u1 iv 154 (iv 154)) 155 (iv 155)) (.inl (some (.inl ((iv 155) (212 + 4 * s + 1).toNat)))) (pz_u1 (pz_u1 iv 154 (iv 154)) 155 (iv 155)) := s_X11_endOf s (by show 0 ≤ s ∧ s ≤ 2; omega)
                      refine w_call hc14 rfl (pz_cokI is_154 rfl) ?_
                      refine w_iadd (by omega) ?_
                      refine w_loc rfl ?_
                      refine w_getR (q := 155) is_154 rf_154_1 ?_
                      refine w_pure rfl ?_
                      refine w_iald (v := (iv 155) 4) is_155 ln_155 ⟨by omega, by omega⟩ rfl ?_
                      refine w_iastm (iv2 := pz_u1 (pz_u1 iv 154 (iv 154)) 155 (pz_up (iv 155) (6 + ((iv 155) (212 + 4 * s + 1).toNat)).toNat ((iv 155) 4))) is_155 ln_155 ⟨by omega, by omega⟩ (by exact pz_u2_top _ _ _ _ _) ?_
                      refine w_loc rfl ?_
                      refine w_loc rfl ?_
                      have hc15 : pz_R (pz_Sh L) 192 [.inr (.inl 154), .inl (((iv 155) 4) - ((iv 155) (6 + ((iv 155) (212 + 4 * s).toNat)).toNat))] (pz_u1 (pz_u1 iv 154 (iv 154)) 155 (pz_up (iv 155) (6 + ((iv 155) (212 + 4 * s + 1).toNat)).toNat ((iv 155) 4))) (.inl (some (.inl (((iv 155) 4) - ((iv 155) (6 + ((iv 155) (212 + 4 * s).toNat)).toNat))))) (pz_u1 (pz_u1 iv 154 (pz_up (iv 154) 0 0)) 155 (pz_up (iv 155) (6 + ((iv 155) (212 + 4 * s + 1).toNat)).toNat ((iv 155) 4))) := pz_R_mem (s_X11_tells (((iv 155) 4) - ((iv 155) (6 + ((iv 155) (212 + 4 * s).toNat)).toNat))) (by rw [pz_u1_in (r := 154) (q := 155) (by decide)]; rw [pz_u1_top (r := 154)]; rfl)
                      refine w_call hc15 rfl (pz_cokI is_154 rfl) ?_
                      refine w_ret rfl ?_
                      first | exact lf_i (by first | rfl | omega) (by rfl) | (exfalso; omega))
                 · first
                   | (exfalso; first | omega | contradiction)
                   | (refine w_loc rfl ?_
                      refine w_pure rfl ?_
                      have hc16 : pz_R (pz_Sh L) 191 [.inr (.inl 154), .inl 3] (pz_u1 (pz_u1 iv 154 (iv 154)) 155 (iv 155)) (.inl (some (.inl 0))) (pz_u1 (pz_u1 iv 154 (pz_up (iv 154) 0 3)) 155 (iv 155)) := pz_R_mem (s_X11_fails 3) (by rw [pz_u1_in (r := 154) (q := 155) (by decide)]; rw [pz_u1_top (r := 154)]; rfl)
                      refine w_call hc16 rfl (pz_cokI is_154 rfl) ?_
                      refine w_ret rfl ?_
                      first | exact lf_i (by first | rfl | omega) (by rfl) | (exfalso; omega)))
            · first
              | (exfalso; first | omega | contradiction)
              | (refine w_nil ?_
                 refine pz_G_of pz_b274_34 ?_
                 refine w_loc rfl ?_
                 refine w_pure rfl ?_
                 have hc17 : pz_R (pz_Sh L) 191 [.inr (.inl 154), .inl 2] (pz_u1 (pz_u1 iv 154 (iv 154)) 155 (iv 155)) (.inl (some (.inl 0))) (pz_u1 (pz_u1 iv 154 (pz_up (iv 154) 0 2)) 155 (iv 155)) := pz_R_mem (s_X11_fails 2) (by rw [pz_u1_in (r := 154) (q := 155) (by decide)]; rw [pz_u1_top (r := 154)]; rfl)
                 refine w_call hc17 rfl (pz_cokI is_154 rfl) ?_
                 refine w_ret rfl ?_
                 first | exact lf_i (by first | rfl | omega) (by rfl) | (exfalso; omega))))
  · first
    | (exfalso; first | omega | contradiction)
    | (refine w_loc rfl ?_
       refine w_pure rfl ?_
       have hc18 : pz_R (pz_Sh L) 191 [.inr (.inl 154), .inl 1] (pz_u1 (pz_u1 iv 154 (iv 154)) 155 (iv 155)) (.inl (some (.inl 0))) (pz_u1 (pz_u1 iv 154 (pz_up (iv 154) 0 1)) 155 (iv 155)) := pz_R_mem (s_X11_fails 1) (by rw [pz_u1_in (r := 154) (q := 155) (by decide)]; rw [pz_u1_top (r := 154)]; rfl)
       refine w_call hc18 rfl (pz_cokI is_154 rfl) ?_
       refine w_ret rfl ?_
       first | exact lf_i (by first | rfl | omega) (by rfl) | (exfalso; omega))

theorem s_X11_end_0 {L : Nat} {iv : Nat → Nat → Int} (s : Int) (hk : q_KR (iv 155)) (hcase0 : 0 ≤ s ∧ s ≤ iv 155 2 - 1) (hcase1 : q_sta (iv 155) (iv 155 (212 + 4 * s).toNat) ∧ ¬ q_sta (iv 155) (iv 155 (212 + 4 * s + 1).toNat)) (hcase2 : iv 155 (212 + 4 * s + 2).toNat ≤ iv 155 4 - iv 155 (6 + iv 155 (212 + 4 * s).toNat).toNat ∧ iv 155 4 - iv 155 (6 + iv 155 (212 + 4 * s).toNat).toNat ≤ iv 155 (212 + 4 * s + 3).toNat) : pz_R (pz_Sh L) 274 [.inr (.inl 154), .inl s] iv (.inl (some (.inl ((iv 155) 4 - (iv 155) (6 + (iv 155) (212 + 4 * s).toNat).toNat)))) (pz_u1 (pz_u1 iv 154 (pz_up (iv 154) 0 0)) 155 (pz_up (iv 155) (6 + (iv 155) (212 + 4 * s + 1).toNat).toNat ((iv 155) 4))) := by
  intro dv cc ss
  have hk0 := hk.r0
  have hsp := fun h1 h2 => hk.sp (s := s) h1 h2
  have hs6 := fun h1 h2 => hk.st (e := iv 155 (212 + 4 * s).toNat) h1 h2
  refine pz_G_mem (iv2 := pz_u1 (pz_u1 iv 154 (iv 154)) 155 (iv 155)) (by exact ((pz_u1_self iv 154).symm).trans (pz_u1_self (pz_u1 iv 154 (iv 154)) 155).symm) ?_
  show pz_G 274 0 [some (.inr (.inl 154)), some (.inl s), none] [] (pz_Sh L, pz_u1 (pz_u1 iv 154 (iv 154)) 155 (iv 155), dv, cc, ss) (pz_P (pz_Sh L) (.inl (some (.inl ((iv 155) 4 - (iv 155) (6 + (iv 155) (212 + 4 * s).toNat).toNat)))) (pz_u1 (pz_u1 iv 154 (pz_up (iv 154) 0 0)) 155 (pz_up (iv 155) (6 + (iv 155) (212 + 4 * s + 1).toNat).toNat ((iv 155) 4))) dv cc ss)
  refine pz_G_of pz_b274_0 ?_
  refine w_loc rfl ?_
  refine w_loc rfl ?_
  have hc1 : pz_R (pz_Sh L) 195 [.inr (.inl 154), .inl s] (pz_u1 (pz_u1 iv 154 (iv 154)) 155 (iv 155)) (.inl (some (.inl (pz_bi (0 ≤ s ∧ s ≤ (iv 155) 2 - 1))))) (pz_u1 (pz_u1 iv 154 (iv 154)) 155 (iv 155)) := s_X11_isSpan s (by show q_KR (iv 155); exact hk)
  refine w_call hc1 rfl (pz_cokI is_154 rfl) ?_
  refine w_bne (fun h2 => ?_) (fun h2 => ?_)
  · first
    | (exfalso; first | omega | contradiction)
    | (refine pz_G_of pz_b274_14 ?_
       refine w_loc rfl ?_
       refine w_loc rfl ?_
       refine w_loc rfl ?_
       have hc3 : pz_R (pz_Sh L) 206 [.inr (.inl 154), .inl s] (pz_u1 (pz_u1 iv 154 (iv 154)) 155 (iv 155)) (.inl (some (.inl ((iv 155) (212 + 4 * s).toNat)))) (pz_u1 (pz_u1 iv 154 (iv 154)) 155 (iv 155)) := s_X11_first s (by show 0 ≤ s ∧ s ≤ 2; omega)
       refine w_call hc3 rfl (pz_cokI is_154 rfl) ?_
       have hc4 : pz_R (pz_Sh L) 196 [.inr (.inl 154), .inl ((iv 155) (212 + 4 * s).toNat)] (pz_u1 (pz_u1 iv 154 (iv 154)) 155 (iv 155)) (.inl (some (.inl (pz_bi (q_sta (iv 155) ((iv 155) (212 + 4 * s).toNat)))))) (pz_u1 (pz_u1 iv 154 (iv 154)) 155 (iv 155)) := s_X11_hasStarted ((iv 155) (212 + 4 * s).toNat) (by show 0 ≤ ((iv 155) (212 + 4 * s).toNat) ∧ ((iv 155) (212 + 4 * s).toNat) ≤ 9; omega)
       refine w_call hc4 rfl (pz_cokI is_154 rfl) ?_
       refine w_beq (fun h5 => ?_) (fun h5 => ?_)
       · first
         | (exfalso; first | omega | contradiction)
         | (refine pz_G_of pz_b274_34 ?_
            refine w_loc rfl ?_
            refine w_pure rfl ?_
            have hc6 : pz_R (pz_Sh L) 191 [.inr (.inl 154), .inl 2] (pz_u1 (pz_u1 iv 154 (iv 154)) 155 (iv 155)) (.inl (some (.inl 0))) (pz_u1 (pz_u1 iv 154 (pz_up (iv 154) 0 2)) 155 (iv 155)) := pz_R_mem (s_X11_fails 2) (by rw [pz_u1_in (r := 154) (q := 155) (by decide)]; rw [pz_u1_top (r := 154)]; rfl)
            refine w_call hc6 rfl (pz_cokI is_154 rfl) ?_
            refine w_ret rfl ?_
            first | exact lf_i (by first | rfl | omega) (by rfl) | (exfalso; omega))
       · first
         | (exfalso; first | omega | contradiction)
         | (refine w_loc rfl ?_
            refine w_loc rfl ?_
            have hc7 : pz_R (pz_Sh L) 210 [.inr (.inl 154), .inl s] (pz_u1 (pz_u1 iv 154 (iv 154)) 155 (iv 155)) (.inl (some (.inl (pz_bi (q_sta (iv 155) ((iv 155) (212 + 4 * s + 1).toNat)))))) (pz_u1 (pz_u1 iv 154 (iv 154)) 155 (iv 155)) := s_X11_hasEnded s (by show q_KR (iv 155); exact hk) (by show 0 ≤ s ∧ s < (iv 155) 2; omega)
            refine w_call hc7 rfl (pz_cokI is_154 rfl) ?_
            refine w_beq (fun h8 => ?_) (fun h8 => ?_)
            · first
              | (exfalso; first | omega | contradiction)
              | (refine pz_G_of pz_b274_40 ?_
                 refine w_loc rfl ?_
                 refine w_getR (q := 155) is_154 rf_154_1 ?_
                 refine w_pure rfl ?_
                 refine w_iald (v := (iv 155) 4) is_155 ln_155 ⟨by omega, by omega⟩ rfl ?_
                 refine w_loc rfl ?_
                 refine w_getR (q := 155) is_154 rf_154_1 ?_
                 refine w_pure rfl ?_
                 refine w_loc rfl ?_
                 refine w_loc rfl ?_
                 have hc9 : pz_R (pz_Sh L) 206 [.inr (.inl 154), .inl s] (pz_u1 (pz_u1 iv 154 (iv 154)) 155 (iv 155)) (.inl (some (.inl ((iv 155) (212 + 4 * s).toNat)))) (pz_u1 (pz_u1 iv 154 (iv 154)) 155 (iv 155)) := s_X11_first s (by show 0 ≤ s ∧ s ≤ 2; omega)
                 refine w_call hc9 rfl (pz_cokI is_154 rfl) ?_
                 refine w_iadd (by omega) ?_
                 refine w_iald (v := (iv 155) (6 + ((iv 155) (212 + 4 * s).toNat)).toNat) is_155 ln_155 ⟨by omega, by omega⟩ rfl ?_
                 refine w_isub (by omega) ?_
                 refine w_loc (ls' := [some (.inr (.inl 154)), some (.inl s), some (.inl (((iv 155) 4) - ((iv 155) (6 + ((iv 155) (212 + 4 * s).toNat)).toNat)))]) (st' := []) rfl ?_
                 refine w_loc rfl ?_
                 refine w_loc rfl ?_
                 refine w_loc rfl ?_
                 have hc10 : pz_R (pz_Sh L) 208 [.inr (.inl 154), .inl s] (pz_u1 (pz_u1 iv 154 (iv 154)) 155 (iv 155)) (.inl (some (.inl ((iv 155) (212 + 4 * s + 2).toNat)))) (pz_u1 (pz_u1 iv 154 (iv 154)) 155 (iv 155)) := s_X11_least s (by show 0 ≤ s ∧ s ≤ 2; omega)
                 refine w_call hc10 rfl (pz_cokI is_154 rfl) ?_
                 refine w_loc rfl ?_
                 refine w_loc rfl ?_
                 have hc11 : pz_R (pz_Sh L) 209 [.inr (.inl 154), .inl s] (pz_u1 (pz_u1 iv 154 (iv 154)) 155 (iv 155)) (.inl (some (.inl ((iv 155) (212 + 4 * s + 3).toNat)))) (pz_u1 (pz_u1 iv 154 (iv 154)) 155 (iv 155)) := s_X11_greatest s (by show 0 ≤ s ∧ s ≤ 2; omega)
                 refine w_call hc11 rfl (pz_cokI is_154 rfl) ?_
                 have hc12 : pz_R (pz_Sh L) 190 [.inl (((iv 155) 4) - ((iv 155) (6 + ((iv 155) (212 + 4 * s).toNat)).toNat)), .inl ((iv 155) (212 + 4 * s + 2).toNat), .inl ((iv 155) (212 + 4 * s + 3).toNat)] (pz_u1 (pz_u1 iv 154 (iv 154)) 155 (iv 155)) (.inl (some (.inl (pz_bi (((iv 155) (212 + 4 * s + 2).toNat) ≤ (((iv 155) 4) - ((iv 155) (6 + ((iv 155) (212 + 4 * s).toNat)).toNat)) ∧ (((iv 155) 4) - ((iv 155) (6 + ((iv 155) (212 + 4 * s).toNat)).toNat)) ≤ ((iv 155) (212 + 4 * s + 3).toNat)))))) (pz_u1 (pz_u1 iv 154 (iv 154)) 155 (iv 155)) := s_X11_in (((iv 155) 4) - ((iv 155) (6 + ((iv 155) (212 + 4 * s).toNat)).toNat)) ((iv 155) (212 + 4 * s + 2).toNat) ((iv 155) (212 + 4 * s + 3).toNat)
                 refine w_call hc12 rfl rfl ?_
                 refine w_bne (fun h13 => ?_) (fun h13 => ?_)
                 · first
                   | (exfalso; first | omega | contradiction)
                   | (refine pz_G_of pz_b274_84 ?_
                      refine w_loc rfl ?_
                      refine w_getR (q := 155) is_154 rf_154_1 ?_
                      refine w_pure rfl ?_
                      refine w_loc rfl ?_
                      refine w_loc rfl ?_
                      have hc14 : pz_R (pz_Sh L) 207 [.inr (.inl 154), .inl s] (pz_u1 (pz_u1 iv 154 (iv 154)) 155 (iv 155)) (.inl (some (.inl ((iv 155) (212 + 4 * s + 1).toNat)))) (pz_u1 (pz_u1 iv 154 (iv 154)) 155 (iv 155)) := s_X11_endOf s (by show 0 ≤ s ∧ s ≤ 2; omega)
                      refine w_call hc14 rfl (pz_cokI is_154 rfl) ?_
                      refine w_iadd (by omega) ?_
                      refine w_loc rfl ?_
                      refine w_getR (q := 155) is_154 rf_154_1 ?_
                      refine w_pure rfl ?_
                      refine w_iald (v := (iv 155) 4) is_155 ln_155 ⟨by omega, by omega⟩ rfl ?_
                      refine w_iastm (iv2 := pz_u1 (pz_u1 iv 154 (iv 154)) 155 (pz_up (iv 155) (6 + ((iv 155) (212 + 4 * s + 1).toNat)).toNat ((iv 155) 4))) is_155 ln_155 ⟨by omega, by omega⟩ (by exact pz_u2_top _ _ _ _ _) ?_
                      refine w_loc rfl ?_
                      refine w_loc rfl ?_
                      have hc15 : pz_R (pz_Sh L) 192 [.inr (.inl 154), .inl (((iv 155) 4) - ((iv 155) (6 + ((iv 155) (212 + 4 * s).toNat)).toNat))] (pz_u1 (pz_u1 iv 154 (iv 154)) 155 (pz_up (iv 155) (6 + ((iv 155) (212 + 4 * s + 1).toNat)).toNat ((iv 155) 4))) (.inl (some (.inl (((iv 155) 4) - ((iv 155) (6 + ((iv 155) (212 + 4 * s).toNat)).toNat))))) (pz_u1 (pz_u1 iv 154 (pz_up (iv 154) 0 0)) 155 (pz_up (iv 155) (6 + ((iv 155) (212 + 4 * s + 1).toNat)).toNat ((iv 155) 4))) := pz_R_mem (s_X11_tells (((iv 155) 4) - ((iv 155) (6 + ((iv 155) (212 + 4 * s).toNat)).toNat))) (by rw [pz_u1_in (r := 154) (q := 155) (by decide)]; rw [pz_u1_top (r := 154)]; rfl)
                      refine w_call hc15 rfl (pz_cokI is_154 rfl) ?_
                      refine w_ret rfl ?_
                      first | exact lf_i (by first | rfl | omega) (by rfl) | (exfalso; omega))
                 · first
                   | (exfalso; first | omega | contradiction)
                   | (refine w_loc rfl ?_
                      refine w_pure rfl ?_
                      have hc16 : pz_R (pz_Sh L) 191 [.inr (.inl 154), .inl 3] (pz_u1 (pz_u1 iv 154 (iv 154)) 155 (iv 155)) (.inl (some (.inl 0))) (pz_u1 (pz_u1 iv 154 (pz_up (iv 154) 0 3)) 155 (iv 155)) := pz_R_mem (s_X11_fails 3) (by rw [pz_u1_in (r := 154) (q := 155) (by decide)]; rw [pz_u1_top (r := 154)]; rfl)
                      refine w_call hc16 rfl (pz_cokI is_154 rfl) ?_
                      refine w_ret rfl ?_
                      first | exact lf_i (by first | rfl | omega) (by rfl) | (exfalso; omega)))
            · first
              | (exfalso; first | omega | contradiction)
              | (refine w_nil ?_
                 refine pz_G_of pz_b274_34 ?_
                 refine w_loc rfl ?_
                 refine w_pure rfl ?_
                 have hc17 : pz_R (pz_Sh L) 191 [.inr (.inl 154), .inl 2] (pz_u1 (pz_u1 iv 154 (iv 154)) 155 (iv 155)) (.inl (some (.inl 0))) (pz_u1 (pz_u1 iv 154 (pz_up (iv 154) 0 2)) 155 (iv 155)) := pz_R_mem (s_X11_fails 2) (by rw [pz_u1_in (r := 154) (q := 155) (by decide)]; rw [pz_u1_top (r := 154)]; rfl)
                 refine w_call hc17 rfl (pz_cokI is_154 rfl) ?_
                 refine w_ret rfl ?_
                 first | exact lf_i (by first | rfl | omega) (by rfl) | (exfalso; omega))))
  · first
    | (exfalso; first | omega | contradiction)
    | (refine w_loc rfl ?_
       refine w_pure rfl ?_
       have hc18 : pz_R (pz_Sh L) 191 [.inr (.inl 154), .inl 1] (pz_u1 (pz_u1 iv 154 (iv 154)) 155 (iv 155)) (.inl (some (.inl 0))) (pz_u1 (pz_u1 iv 154 (pz_up (iv 154) 0 1)) 155 (iv 155)) := pz_R_mem (s_X11_fails 1) (by rw [pz_u1_in (r := 154) (q := 155) (by decide)]; rw [pz_u1_top (r := 154)]; rfl)
       refine w_call hc18 rfl (pz_cokI is_154 rfl) ?_
       refine w_ret rfl ?_
       first | exact lf_i (by first | rfl | omega) (by rfl) | (exfalso; omega))

theorem s_X11_costAt {L : Nat} {iv : Nat → Nat → Int} (e : Int) (m : Int) (hk : q_KR (iv 155)) (he : 0 ≤ e ∧ e ≤ 9) (hm : 0 ≤ m ∧ m ≤ 1000000) : pz_R (pz_Sh L) 296 [.inr (.inl 154), .inl e, .inl m] iv (.inl (some (.inl (q_cst (iv 155) e m)))) iv := by
  intro dv cc ss
  have hk0 := hk.r0
  have hcs := hk.cs he.1 he.2
  have hm1 : iv 155 (16 + e).toNat ≠ -1 → m < iv 155 (16 + e).toNat → 0 ≤ iv 155 (26 + e).toNat * (iv 155 (16 + e).toNat - m) ∧ iv 155 (26 + e).toNat * (iv 155 (16 + e).toNat - m) ≤ 99 * 999 := fun h1 h2 => q_mul_r hcs.2.1 (by omega)
  have hm2 : iv 155 (16 + e).toNat ≠ -1 → iv 155 (16 + e).toNat ≤ m → 0 ≤ iv 155 (36 + e).toNat * (m - iv 155 (16 + e).toNat) ∧ iv 155 (36 + e).toNat * (m - iv 155 (16 + e).toNat) ≤ 99 * 1000000 := fun h1 h2 => q_mul_r hcs.2.2 (by omega)
  show pz_G 296 0 [some (.inr (.inl 154)), some (.inl e), some (.inl m)] [] (pz_Sh L, iv, dv, cc, ss) (pz_P (pz_Sh L) (.inl (some (.inl (q_cst (iv 155) e m)))) iv dv cc ss)
  refine pz_G_of pz_b296_0 ?_
  refine w_loc rfl ?_
  refine w_getR (q := 155) is_154 rf_154_1 ?_
  refine w_pure rfl ?_
  refine w_loc rfl ?_
  refine w_iadd (by omega) ?_
  refine w_iald (v := (iv 155) (16 + e).toNat) is_155 ln_155 ⟨by omega, by omega⟩ rfl ?_
  refine w_pure rfl ?_
  refine w_ine (fun h1 => ?_) (fun h1 => ?_)
  · refine pz_G_of pz_b296_15 ?_
    refine w_loc rfl ?_
    refine w_loc rfl ?_
    refine w_getR (q := 155) is_154 rf_154_1 ?_
    refine w_pure rfl ?_
    refine w_loc rfl ?_
    refine w_iadd (by omega) ?_
    refine w_iald (v := (iv 155) (16 + e).toNat) is_155 ln_155 ⟨by omega, by omega⟩ rfl ?_
    refine w_ige (fun h2 => ?_) (fun h2 => ?_)
    · refine pz_G_of pz_b296_52 ?_
      refine w_loc rfl ?_
      refine w_getR (q := 155) is_154 rf_154_1 ?_
      refine w_pure rfl ?_
      refine w_loc rfl ?_
      refine w_iadd (by omega) ?_
      refine w_iald (v := (iv 155) (36 + e).toNat) is_155 ln_155 ⟨by omega, by omega⟩ rfl ?_
      refine w_loc rfl ?_
      refine w_loc rfl ?_
      refine w_getR (q := 155) is_154 rf_154_1 ?_
      refine w_pure rfl ?_
      refine w_loc rfl ?_
      refine w_iadd (by omega) ?_
      refine w_iald (v := (iv 155) (16 + e).toNat) is_155 ln_155 ⟨by omega, by omega⟩ rfl ?_
      refine w_isub (by omega) ?_
      refine w_imul (by omega) ?_
      refine w_nil ?_
      refine pz_G_of pz_b296_73 ?_
      refine w_ret rfl ?_
      exact lf_i (by unfold q_cst; (repeat' split) <;> first | rfl | omega) rfl
    · refine w_loc rfl ?_
      refine w_getR (q := 155) is_154 rf_154_1 ?_
      refine w_pure rfl ?_
      refine w_loc rfl ?_
      refine w_iadd (by omega) ?_
      refine w_iald (v := (iv 155) (26 + e).toNat) is_155 ln_155 ⟨by omega, by omega⟩ rfl ?_
      refine w_loc rfl ?_
      refine w_getR (q := 155) is_154 rf_154_1 ?_
      refine w_pure rfl ?_
      refine w_loc rfl ?_
      refine w_iadd (by omega) ?_
      refine w_iald (v := (iv 155) (16 + e).toNat) is_155 ln_155 ⟨by omega, by omega⟩ rfl ?_
      refine w_loc rfl ?_
      refine w_isub (by omega) ?_
      refine w_imul (by omega) ?_
      refine w_goto ?_
      refine pz_G_of pz_b296_73 ?_
      refine w_ret rfl ?_
      exact lf_i (by unfold q_cst; (repeat' split) <;> first | rfl | omega) rfl
  · refine w_pure rfl ?_
    refine w_ret rfl ?_
    exact lf_i (by unfold q_cst; (repeat' split) <;> first | rfl | omega) rfl

theorem s_X11_costOf_1 {L : Nat} {iv : Nat → Nat → Int} (e : Int) (m : Int) (hk : q_KR (iv 155)) (hcase0 : ¬ (0 ≤ e ∧ e ≤ iv 155 0 - 1)) : pz_R (pz_Sh L) 297 [.inr (.inl 154), .inl e, .inl m] iv (.inl (some (.inl 0))) (pz_u1 iv 154 (pz_up (iv 154) 0 1)) := by
  intro dv cc ss
  have hk0 := hk.r0
  refine pz_G_mem (iv2 := pz_u1 iv 154 (iv 154)) (by exact (pz_u1_self iv 154).symm) ?_
  show pz_G 297 0 [some (.inr (.inl 154)), some (.inl e), some (.inl m)] [] (pz_Sh L, pz_u1 iv 154 (iv 154), dv, cc, ss) (pz_P (pz_Sh L) (.inl (some (.inl 0))) (pz_u1 iv 154 (pz_up (iv 154) 0 1)) dv cc ss)
  refine pz_G_of pz_b297_0 ?_
  refine w_loc rfl ?_
  refine w_loc rfl ?_
  have hc1 : pz_R (pz_Sh L) 194 [.inr (.inl 154), .inl e] (pz_u1 iv 154 (iv 154)) (.inl (some (.inl (pz_bi (0 ≤ e ∧ e ≤ (iv 155) 0 - 1))))) (pz_u1 iv 154 (iv 154)) := s_X11_isEvent e (by show q_KR (iv 155); exact hk)
  refine w_call hc1 rfl (pz_cokI is_154 rfl) ?_
  refine w_bne (fun h2 => ?_) (fun h2 => ?_)
  · first
    | (exfalso; first | omega | contradiction)
    | (refine pz_G_of pz_b297_14 ?_
       refine w_loc rfl ?_
       refine w_pure rfl ?_
       refine w_pure rfl ?_
       have hc3 : pz_R (pz_Sh L) 190 [.inl m, .inl 0, .inl 999] (pz_u1 iv 154 (iv 154)) (.inl (some (.inl (pz_bi (0 ≤ m ∧ m ≤ 999))))) (pz_u1 iv 154 (iv 154)) := s_X11_in m 0 999
       refine w_call hc3 rfl rfl ?_
       refine w_beq (fun h4 => ?_) (fun h4 => ?_)
       · first
         | (exfalso; first | omega | contradiction)
         | (refine pz_G_of pz_b297_38 ?_
            refine w_loc rfl ?_
            refine w_pure rfl ?_
            have hc5 : pz_R (pz_Sh L) 191 [.inr (.inl 154), .inl 2] (pz_u1 iv 154 (iv 154)) (.inl (some (.inl 0))) (pz_u1 iv 154 (pz_up (iv 154) 0 2)) := pz_R_mem (s_X11_fails 2) (by rw [pz_u1_top (r := 154)]; rfl)
            refine w_call hc5 rfl (pz_cokI is_154 rfl) ?_
            refine w_nil ?_
            refine pz_G_of pz_b297_43 ?_
            refine w_ret rfl ?_
            first | exact lf_i (by first | rfl | omega) (by rfl) | (exfalso; omega))
       · first
         | (exfalso; first | omega | contradiction)
         | (refine w_loc rfl ?_
            refine w_loc rfl ?_
            refine w_loc rfl ?_
            refine w_loc rfl ?_
            have hc6 : pz_R (pz_Sh L) 296 [.inr (.inl 154), .inl e, .inl m] (pz_u1 iv 154 (iv 154)) (.inl (some (.inl (q_cst (iv 155) e m)))) (pz_u1 iv 154 (iv 154)) := s_X11_costAt e m (by show q_KR (iv 155); exact hk) (by show 0 ≤ e ∧ e ≤ 9; omega) (by show 0 ≤ m ∧ m ≤ 1000000; omega)
            refine w_call hc6 rfl (pz_cokI is_154 rfl) ?_
            have hc7 : pz_R (pz_Sh L) 192 [.inr (.inl 154), .inl (q_cst (iv 155) e m)] (pz_u1 iv 154 (iv 154)) (.inl (some (.inl (q_cst (iv 155) e m)))) (pz_u1 iv 154 (pz_up (iv 154) 0 0)) := pz_R_mem (s_X11_tells (q_cst (iv 155) e m)) (by rw [pz_u1_top (r := 154)]; rfl)
            refine w_call hc7 rfl (pz_cokI is_154 rfl) ?_
            refine w_goto ?_
            refine pz_G_of pz_b297_43 ?_
            refine w_ret rfl ?_
            first | exact lf_i (by first | rfl | omega) (by rfl) | (exfalso; omega)))
  · first
    | (exfalso; first | omega | contradiction)
    | (refine w_loc rfl ?_
       refine w_pure rfl ?_
       have hc8 : pz_R (pz_Sh L) 191 [.inr (.inl 154), .inl 1] (pz_u1 iv 154 (iv 154)) (.inl (some (.inl 0))) (pz_u1 iv 154 (pz_up (iv 154) 0 1)) := pz_R_mem (s_X11_fails 1) (by rw [pz_u1_top (r := 154)]; rfl)
       refine w_call hc8 rfl (pz_cokI is_154 rfl) ?_
       refine w_ret rfl ?_
       first | exact lf_i (by first | rfl | omega) (by rfl) | (exfalso; omega))

theorem s_X11_costOf_2 {L : Nat} {iv : Nat → Nat → Int} (e : Int) (m : Int) (hk : q_KR (iv 155)) (hcase0 : 0 ≤ e ∧ e ≤ iv 155 0 - 1) (hcase1 : ¬ (0 ≤ m ∧ m ≤ 999)) : pz_R (pz_Sh L) 297 [.inr (.inl 154), .inl e, .inl m] iv (.inl (some (.inl 0))) (pz_u1 iv 154 (pz_up (iv 154) 0 2)) := by
  intro dv cc ss
  have hk0 := hk.r0
  refine pz_G_mem (iv2 := pz_u1 iv 154 (iv 154)) (by exact (pz_u1_self iv 154).symm) ?_
  show pz_G 297 0 [some (.inr (.inl 154)), some (.inl e), some (.inl m)] [] (pz_Sh L, pz_u1 iv 154 (iv 154), dv, cc, ss) (pz_P (pz_Sh L) (.inl (some (.inl 0))) (pz_u1 iv 154 (pz_up (iv 154) 0 2)) dv cc ss)
  refine pz_G_of pz_b297_0 ?_
  refine w_loc rfl ?_
  refine w_loc rfl ?_
  have hc1 : pz_R (pz_Sh L) 194 [.inr (.inl 154), .inl e] (pz_u1 iv 154 (iv 154)) (.inl (some (.inl (pz_bi (0 ≤ e ∧ e ≤ (iv 155) 0 - 1))))) (pz_u1 iv 154 (iv 154)) := s_X11_isEvent e (by show q_KR (iv 155); exact hk)
  refine w_call hc1 rfl (pz_cokI is_154 rfl) ?_
  refine w_bne (fun h2 => ?_) (fun h2 => ?_)
  · first
    | (exfalso; first | omega | contradiction)
    | (refine pz_G_of pz_b297_14 ?_
       refine w_loc rfl ?_
       refine w_pure rfl ?_
       refine w_pure rfl ?_
       have hc3 : pz_R (pz_Sh L) 190 [.inl m, .inl 0, .inl 999] (pz_u1 iv 154 (iv 154)) (.inl (some (.inl (pz_bi (0 ≤ m ∧ m ≤ 999))))) (pz_u1 iv 154 (iv 154)) := s_X11_in m 0 999
       refine w_call hc3 rfl rfl ?_
       refine w_beq (fun h4 => ?_) (fun h4 => ?_)
       · first
         | (exfalso; first | omega | contradiction)
         | (refine pz_G_of pz_b297_38 ?_
            refine w_loc rfl ?_
            refine w_pure rfl ?_
            have hc5 : pz_R (pz_Sh L) 191 [.inr (.inl 154), .inl 2] (pz_u1 iv 154 (iv 154)) (.inl (some (.inl 0))) (pz_u1 iv 154 (pz_up (iv 154) 0 2)) := pz_R_mem (s_X11_fails 2) (by rw [pz_u1_top (r := 154)]; rfl)
            refine w_call hc5 rfl (pz_cokI is_154 rfl) ?_
            refine w_nil ?_
            refine pz_G_of pz_b297_43 ?_
            refine w_ret rfl ?_
            first | exact lf_i (by first | rfl | omega) (by rfl) | (exfalso; omega))
       · first
         | (exfalso; first | omega | contradiction)
         | (refine w_loc rfl ?_
            refine w_loc rfl ?_
            refine w_loc rfl ?_
            refine w_loc rfl ?_
            have hc6 : pz_R (pz_Sh L) 296 [.inr (.inl 154), .inl e, .inl m] (pz_u1 iv 154 (iv 154)) (.inl (some (.inl (q_cst (iv 155) e m)))) (pz_u1 iv 154 (iv 154)) := s_X11_costAt e m (by show q_KR (iv 155); exact hk) (by show 0 ≤ e ∧ e ≤ 9; omega) (by show 0 ≤ m ∧ m ≤ 1000000; omega)
            refine w_call hc6 rfl (pz_cokI is_154 rfl) ?_
            have hc7 : pz_R (pz_Sh L) 192 [.inr (.inl 154), .inl (q_cst (iv 155) e m)] (pz_u1 iv 154 (iv 154)) (.inl (some (.inl (q_cst (iv 155) e m)))) (pz_u1 iv 154 (pz_up (iv 154) 0 0)) := pz_R_mem (s_X11_tells (q_cst (iv 155) e m)) (by rw [pz_u1_top (r := 154)]; rfl)
            refine w_call hc7 rfl (pz_cokI is_154 rfl) ?_
            refine w_goto ?_
            refine pz_G_of pz_b297_43 ?_
            refine w_ret rfl ?_
            first | exact lf_i (by first | rfl | omega) (by rfl) | (exfalso; omega)))
  · first
    | (exfalso; first | omega | contradiction)
    | (refine w_loc rfl ?_
       refine w_pure rfl ?_
       have hc8 : pz_R (pz_Sh L) 191 [.inr (.inl 154), .inl 1] (pz_u1 iv 154 (iv 154)) (.inl (some (.inl 0))) (pz_u1 iv 154 (pz_up (iv 154) 0 1)) := pz_R_mem (s_X11_fails 1) (by rw [pz_u1_top (r := 154)]; rfl)
       refine w_call hc8 rfl (pz_cokI is_154 rfl) ?_
       refine w_ret rfl ?_
       first | exact lf_i (by first | rfl | omega) (by rfl) | (exfalso; omega))

theorem s_X11_costOf_0 {L : Nat} {iv : Nat → Nat → Int} (e : Int) (m : Int) (hk : q_KR (iv 155)) (hcase0 : 0 ≤ e ∧ e ≤ iv 155 0 - 1) (hcase1 : 0 ≤ m ∧ m ≤ 999) : pz_R (pz_Sh L) 297 [.inr (.inl 154), .inl e, .inl m] iv (.inl (some (.inl (q_cst (iv 155) e m)))) (pz_u1 iv 154 (pz_up (iv 154) 0 0)) := by
  intro dv cc ss
  have hk0 := hk.r0
  refine pz_G_mem (iv2 := pz_u1 iv 154 (iv 154)) (by exact (pz_u1_self iv 154).symm) ?_
  show pz_G 297 0 [some (.inr (.inl 154)), some (.inl e), some (.inl m)] [] (pz_Sh L, pz_u1 iv 154 (iv 154), dv, cc, ss) (pz_P (pz_Sh L) (.inl (some (.inl (q_cst (iv 155) e m)))) (pz_u1 iv 154 (pz_up (iv 154) 0 0)) dv cc ss)
  refine pz_G_of pz_b297_0 ?_
  refine w_loc rfl ?_
  refine w_loc rfl ?_
  have hc1 : pz_R (pz_Sh L) 194 [.inr (.inl 154), .inl e] (pz_u1 iv 154 (iv 154)) (.inl (some (.inl (pz_bi (0 ≤ e ∧ e ≤ (iv 155) 0 - 1))))) (pz_u1 iv 154 (iv 154)) := s_X11_isEvent e (by show q_KR (iv 155); exact hk)
  refine w_call hc1 rfl (pz_cokI is_154 rfl) ?_
  refine w_bne (fun h2 => ?_) (fun h2 => ?_)
  · first
    | (exfalso; first | omega | contradiction)
    | (refine pz_G_of pz_b297_14 ?_
       refine w_loc rfl ?_
       refine w_pure rfl ?_
       refine w_pure rfl ?_
       have hc3 : pz_R (pz_Sh L) 190 [.inl m, .inl 0, .inl 999] (pz_u1 iv 154 (iv 154)) (.inl (some (.inl (pz_bi (0 ≤ m ∧ m ≤ 999))))) (pz_u1 iv 154 (iv 154)) := s_X11_in m 0 999
       refine w_call hc3 rfl rfl ?_
       refine w_beq (fun h4 => ?_) (fun h4 => ?_)
       · first
         | (exfalso; first | omega | contradiction)
         | (refine pz_G_of pz_b297_38 ?_
            refine w_loc rfl ?_
            refine w_pure rfl ?_
            have hc5 : pz_R (pz_Sh L) 191 [.inr (.inl 154), .inl 2] (pz_u1 iv 154 (iv 154)) (.inl (some (.inl 0))) (pz_u1 iv 154 (pz_up (iv 154) 0 2)) := pz_R_mem (s_X11_fails 2) (by rw [pz_u1_top (r := 154)]; rfl)
            refine w_call hc5 rfl (pz_cokI is_154 rfl) ?_
            refine w_nil ?_
            refine pz_G_of pz_b297_43 ?_
            refine w_ret rfl ?_
            first | exact lf_i (by first | rfl | omega) (by rfl) | (exfalso; omega))
       · first
         | (exfalso; first | omega | contradiction)
         | (refine w_loc rfl ?_
            refine w_loc rfl ?_
            refine w_loc rfl ?_
            refine w_loc rfl ?_
            have hc6 : pz_R (pz_Sh L) 296 [.inr (.inl 154), .inl e, .inl m] (pz_u1 iv 154 (iv 154)) (.inl (some (.inl (q_cst (iv 155) e m)))) (pz_u1 iv 154 (iv 154)) := s_X11_costAt e m (by show q_KR (iv 155); exact hk) (by show 0 ≤ e ∧ e ≤ 9; omega) (by show 0 ≤ m ∧ m ≤ 1000000; omega)
            refine w_call hc6 rfl (pz_cokI is_154 rfl) ?_
            have hc7 : pz_R (pz_Sh L) 192 [.inr (.inl 154), .inl (q_cst (iv 155) e m)] (pz_u1 iv 154 (iv 154)) (.inl (some (.inl (q_cst (iv 155) e m)))) (pz_u1 iv 154 (pz_up (iv 154) 0 0)) := pz_R_mem (s_X11_tells (q_cst (iv 155) e m)) (by rw [pz_u1_top (r := 154)]; rfl)
            refine w_call hc7 rfl (pz_cokI is_154 rfl) ?_
            refine w_goto ?_
            refine pz_G_of pz_b297_43 ?_
            refine w_ret rfl ?_
            first | exact lf_i (by first | rfl | omega) (by rfl) | (exfalso; omega)))
  · first
    | (exfalso; first | omega | contradiction)
    | (refine w_loc rfl ?_
       refine w_pure rfl ?_
       have hc8 : pz_R (pz_Sh L) 191 [.inr (.inl 154), .inl 1] (pz_u1 iv 154 (iv 154)) (.inl (some (.inl 0))) (pz_u1 iv 154 (pz_up (iv 154) 0 1)) := pz_R_mem (s_X11_fails 1) (by rw [pz_u1_top (r := 154)]; rfl)
       refine w_call hc8 rfl (pz_cokI is_154 rfl) ?_
       refine w_ret rfl ?_
       first | exact lf_i (by first | rfl | omega) (by rfl) | (exfalso; omega))

theorem s_X11_firstOf {L : Nat} {iv : Nat → Nat → Int} (e : Int) (he : 0 ≤ e ∧ e ≤ 9) (hd : q_dl (iv 157)) : pz_R (pz_Sh L) 281 [.inr (.inl 154), .inl e] iv (.inl (some (.inl (q_ft (iv 157) e)))) iv := by
  intro dv cc ss
  have hde := hd e he.1 he.2
  show pz_G 281 0 [some (.inr (.inl 154)), some (.inl e), none] [] (pz_Sh L, iv, dv, cc, ss) (pz_P (pz_Sh L) (.inl (some (.inl (q_ft (iv 157) e)))) iv dv cc ss)
  refine pz_G_of pz_b281_0 ?_
  refine w_loc rfl ?_
  refine w_getR (q := 157) is_154 rf_154_4 ?_
  refine w_pure rfl ?_
  refine w_loc rfl ?_
  refine w_imul (by omega) ?_
  refine w_iald (v := (iv 157) (10 * e).toNat) is_157 ln_157 ⟨by omega, by omega⟩ rfl ?_
  refine w_loc (ls' := [some (.inr (.inl 154)), some (.inl e), some (.inl ((iv 157) (10 * e).toNat))]) (st' := []) rfl ?_
  refine w_loc rfl ?_
  refine w_ldcv (v := 1000000) rfl ?_
  refine w_ige (fun h1 => ?_) (fun h1 => ?_)
  · refine pz_G_of pz_b281_25 ?_
    refine w_pure rfl ?_
    refine w_nil ?_
    refine pz_G_of pz_b281_26 ?_
    refine w_ret rfl ?_
    exact lf_i (by unfold q_ft; split <;> first | rfl | omega) rfl
  · refine w_loc rfl ?_
    refine w_zge (fun h2 => ?_) (fun h2 => ?_)
    · refine pz_G_of pz_b281_25 ?_
      refine w_pure rfl ?_
      refine w_nil ?_
      refine pz_G_of pz_b281_26 ?_
      refine w_ret rfl ?_
      exact lf_i (by unfold q_ft; split <;> first | rfl | omega) rfl
    · refine w_loc rfl ?_
      refine w_ineg (by omega) ?_
      refine w_goto ?_
      refine pz_G_of pz_b281_26 ?_
      refine w_ret rfl ?_
      exact lf_i (by unfold q_ft; split <;> first | rfl | omega) rfl

theorem s_X11_firstTime_1 {L : Nat} {iv : Nat → Nat → Int} (e : Int) (hk : q_KR (iv 155)) (hcase0 : ¬ (0 ≤ e ∧ e ≤ iv 155 0 - 1)) : pz_R (pz_Sh L) 282 [.inr (.inl 154), .inl e] iv (.inl (some (.inl 0))) (pz_u1 (pz_u1 iv 154 (pz_up (iv 154) 0 1)) 157 (iv 157)) := by
  intro dv cc ss
  have hk0 := hk.r0
  refine pz_G_mem (iv2 := pz_u1 (pz_u1 iv 154 (iv 154)) 157 (iv 157)) (by exact ((pz_u1_self iv 154).symm).trans (pz_u1_self (pz_u1 iv 154 (iv 154)) 157).symm) ?_
  show pz_G 282 0 [some (.inr (.inl 154)), some (.inl e)] [] (pz_Sh L, pz_u1 (pz_u1 iv 154 (iv 154)) 157 (iv 157), dv, cc, ss) (pz_P (pz_Sh L) (.inl (some (.inl 0))) (pz_u1 (pz_u1 iv 154 (pz_up (iv 154) 0 1)) 157 (iv 157)) dv cc ss)
  refine pz_G_of pz_b282_0 ?_
  refine w_loc rfl ?_
  refine w_loc rfl ?_
  have hc1 : pz_R (pz_Sh L) 194 [.inr (.inl 154), .inl e] (pz_u1 (pz_u1 iv 154 (iv 154)) 157 (iv 157)) (.inl (some (.inl (pz_bi (0 ≤ e ∧ e ≤ (iv 155) 0 - 1))))) (pz_u1 (pz_u1 iv 154 (iv 154)) 157 (iv 157)) := s_X11_isEvent e (by show q_KR (iv 155); exact hk)
  refine w_call hc1 rfl (pz_cokI is_154 rfl) ?_
  refine w_bne (fun h2 => ?_) (fun h2 => ?_)
  · first
    | (exfalso; first | omega | contradiction)
    | (refine pz_G_of pz_b282_14 ?_
       refine w_loc rfl ?_
       have hc3 : pz_R (pz_Sh L) 227 [.inr (.inl 154)] (pz_u1 (pz_u1 iv 154 (iv 154)) 157 (iv 157)) (.inl (some (.inl (pz_bi (q_con (iv 155) (iv 161)))))) (pz_u1 (pz_u1 iv 154 (iv 154)) 157 (q_dd (iv 155) (iv 161) (iv 157))) := pz_R_mem (s_X11_isConsistentNow (by show q_KR (iv 155); exact hk)) (by rw [pz_u1_top (r := 157)]; rfl)
       refine w_call hc3 rfl (pz_cokI is_154 rfl) ?_
       refine w_beq (fun h4 => ?_) (fun h4 => ?_)
       · first
         | (exfalso; first | omega | contradiction)
         | (refine pz_G_of pz_b282_33 ?_
            refine w_loc rfl ?_
            refine w_pure rfl ?_
            have hc5 : pz_R (pz_Sh L) 191 [.inr (.inl 154), .inl 2] (pz_u1 (pz_u1 iv 154 (iv 154)) 157 (q_dd (iv 155) (iv 161) (iv 157))) (.inl (some (.inl 0))) (pz_u1 (pz_u1 iv 154 (pz_up (iv 154) 0 2)) 157 (q_dd (iv 155) (iv 161) (iv 157))) := pz_R_mem (s_X11_fails 2) (by rw [pz_u1_in (r := 154) (q := 157) (by decide)]; rw [pz_u1_top (r := 154)]; rfl)
            refine w_call hc5 rfl (pz_cokI is_154 rfl) ?_
            refine w_nil ?_
            refine pz_G_of pz_b282_38 ?_
            refine w_ret rfl ?_
            first | exact lf_i (by first | rfl | omega) (by rfl) | (exfalso; omega))
       · first
         | (exfalso; first | omega | contradiction)
         | (refine w_loc rfl ?_
            refine w_loc rfl ?_
            refine w_loc rfl ?_
            have hc6 : pz_R (pz_Sh L) 281 [.inr (.inl 154), .inl e] (pz_u1 (pz_u1 iv 154 (iv 154)) 157 (q_dd (iv 155) (iv 161) (iv 157))) (.inl (some (.inl (q_ft (q_dd (iv 155) (iv 161) (iv 157)) e)))) (pz_u1 (pz_u1 iv 154 (iv 154)) 157 (q_dd (iv 155) (iv 161) (iv 157))) := s_X11_firstOf e (by show 0 ≤ e ∧ e ≤ 9; omega) (by show q_dl (q_dd (iv 155) (iv 161) (iv 157)); first | exact hd | exact q_dd_l hk (by assumption))
            refine w_call hc6 rfl (pz_cokI is_154 rfl) ?_
            have hc7 : pz_R (pz_Sh L) 192 [.inr (.inl 154), .inl (q_ft (q_dd (iv 155) (iv 161) (iv 157)) e)] (pz_u1 (pz_u1 iv 154 (iv 154)) 157 (q_dd (iv 155) (iv 161) (iv 157))) (.inl (some (.inl (q_ft (q_dd (iv 155) (iv 161) (iv 157)) e)))) (pz_u1 (pz_u1 iv 154 (pz_up (iv 154) 0 0)) 157 (q_dd (iv 155) (iv 161) (iv 157))) := pz_R_mem (s_X11_tells (q_ft (q_dd (iv 155) (iv 161) (iv 157)) e)) (by rw [pz_u1_in (r := 154) (q := 157) (by decide)]; rw [pz_u1_top (r := 154)]; rfl)
            refine w_call hc7 rfl (pz_cokI is_154 rfl) ?_
            refine w_goto ?_
            refine pz_G_of pz_b282_38 ?_
            refine w_ret rfl ?_
            first | exact lf_i (by first | rfl | omega) (by rfl) | (exfalso; omega)))
  · first
    | (exfalso; first | omega | contradiction)
    | (refine w_loc rfl ?_
       refine w_pure rfl ?_
       have hc8 : pz_R (pz_Sh L) 191 [.inr (.inl 154), .inl 1] (pz_u1 (pz_u1 iv 154 (iv 154)) 157 (iv 157)) (.inl (some (.inl 0))) (pz_u1 (pz_u1 iv 154 (pz_up (iv 154) 0 1)) 157 (iv 157)) := pz_R_mem (s_X11_fails 1) (by rw [pz_u1_in (r := 154) (q := 157) (by decide)]; rw [pz_u1_top (r := 154)]; rfl)
       refine w_call hc8 rfl (pz_cokI is_154 rfl) ?_
       refine w_ret rfl ?_
       first | exact lf_i (by first | rfl | omega) (by rfl) | (exfalso; omega))

theorem s_X11_firstTime_2 {L : Nat} {iv : Nat → Nat → Int} (e : Int) (hk : q_KR (iv 155)) (hcase0 : 0 ≤ e ∧ e ≤ iv 155 0 - 1) (hcase1 : ¬ q_con (iv 155) (iv 161)) : pz_R (pz_Sh L) 282 [.inr (.inl 154), .inl e] iv (.inl (some (.inl 0))) (pz_u1 (pz_u1 iv 154 (pz_up (iv 154) 0 2)) 157 (q_dd (iv 155) (iv 161) (iv 157))) := by
  intro dv cc ss
  have hk0 := hk.r0
  refine pz_G_mem (iv2 := pz_u1 (pz_u1 iv 154 (iv 154)) 157 (iv 157)) (by exact ((pz_u1_self iv 154).symm).trans (pz_u1_self (pz_u1 iv 154 (iv 154)) 157).symm) ?_
  show pz_G 282 0 [some (.inr (.inl 154)), some (.inl e)] [] (pz_Sh L, pz_u1 (pz_u1 iv 154 (iv 154)) 157 (iv 157), dv, cc, ss) (pz_P (pz_Sh L) (.inl (some (.inl 0))) (pz_u1 (pz_u1 iv 154 (pz_up (iv 154) 0 2)) 157 (q_dd (iv 155) (iv 161) (iv 157))) dv cc ss)
  refine pz_G_of pz_b282_0 ?_
  refine w_loc rfl ?_
  refine w_loc rfl ?_
  have hc1 : pz_R (pz_Sh L) 194 [.inr (.inl 154), .inl e] (pz_u1 (pz_u1 iv 154 (iv 154)) 157 (iv 157)) (.inl (some (.inl (pz_bi (0 ≤ e ∧ e ≤ (iv 155) 0 - 1))))) (pz_u1 (pz_u1 iv 154 (iv 154)) 157 (iv 157)) := s_X11_isEvent e (by show q_KR (iv 155); exact hk)
  refine w_call hc1 rfl (pz_cokI is_154 rfl) ?_
  refine w_bne (fun h2 => ?_) (fun h2 => ?_)
  · first
    | (exfalso; first | omega | contradiction)
    | (refine pz_G_of pz_b282_14 ?_
       refine w_loc rfl ?_
       have hc3 : pz_R (pz_Sh L) 227 [.inr (.inl 154)] (pz_u1 (pz_u1 iv 154 (iv 154)) 157 (iv 157)) (.inl (some (.inl (pz_bi (q_con (iv 155) (iv 161)))))) (pz_u1 (pz_u1 iv 154 (iv 154)) 157 (q_dd (iv 155) (iv 161) (iv 157))) := pz_R_mem (s_X11_isConsistentNow (by show q_KR (iv 155); exact hk)) (by rw [pz_u1_top (r := 157)]; rfl)
       refine w_call hc3 rfl (pz_cokI is_154 rfl) ?_
       refine w_beq (fun h4 => ?_) (fun h4 => ?_)
       · first
         | (exfalso; first | omega | contradiction)
         | (refine pz_G_of pz_b282_33 ?_
            refine w_loc rfl ?_
            refine w_pure rfl ?_
            have hc5 : pz_R (pz_Sh L) 191 [.inr (.inl 154), .inl 2] (pz_u1 (pz_u1 iv 154 (iv 154)) 157 (q_dd (iv 155) (iv 161) (iv 157))) (.inl (some (.inl 0))) (pz_u1 (pz_u1 iv 154 (pz_up (iv 154) 0 2)) 157 (q_dd (iv 155) (iv 161) (iv 157))) := pz_R_mem (s_X11_fails 2) (by rw [pz_u1_in (r := 154) (q := 157) (by decide)]; rw [pz_u1_top (r := 154)]; rfl)
            refine w_call hc5 rfl (pz_cokI is_154 rfl) ?_
            refine w_nil ?_
            refine pz_G_of pz_b282_38 ?_
            refine w_ret rfl ?_
            first | exact lf_i (by first | rfl | omega) (by rfl) | (exfalso; omega))
       · first
         | (exfalso; first | omega | contradiction)
         | (refine w_loc rfl ?_
            refine w_loc rfl ?_
            refine w_loc rfl ?_
            have hc6 : pz_R (pz_Sh L) 281 [.inr (.inl 154), .inl e] (pz_u1 (pz_u1 iv 154 (iv 154)) 157 (q_dd (iv 155) (iv 161) (iv 157))) (.inl (some (.inl (q_ft (q_dd (iv 155) (iv 161) (iv 157)) e)))) (pz_u1 (pz_u1 iv 154 (iv 154)) 157 (q_dd (iv 155) (iv 161) (iv 157))) := s_X11_firstOf e (by show 0 ≤ e ∧ e ≤ 9; omega) (by show q_dl (q_dd (iv 155) (iv 161) (iv 157)); first | exact hd | exact q_dd_l hk (by assumption))
            refine w_call hc6 rfl (pz_cokI is_154 rfl) ?_
            have hc7 : pz_R (pz_Sh L) 192 [.inr (.inl 154), .inl (q_ft (q_dd (iv 155) (iv 161) (iv 157)) e)] (pz_u1 (pz_u1 iv 154 (iv 154)) 157 (q_dd (iv 155) (iv 161) (iv 157))) (.inl (some (.inl (q_ft (q_dd (iv 155) (iv 161) (iv 157)) e)))) (pz_u1 (pz_u1 iv 154 (pz_up (iv 154) 0 0)) 157 (q_dd (iv 155) (iv 161) (iv 157))) := pz_R_mem (s_X11_tells (q_ft (q_dd (iv 155) (iv 161) (iv 157)) e)) (by rw [pz_u1_in (r := 154) (q := 157) (by decide)]; rw [pz_u1_top (r := 154)]; rfl)
            refine w_call hc7 rfl (pz_cokI is_154 rfl) ?_
            refine w_goto ?_
            refine pz_G_of pz_b282_38 ?_
            refine w_ret rfl ?_
            first | exact lf_i (by first | rfl | omega) (by rfl) | (exfalso; omega)))
  · first
    | (exfalso; first | omega | contradiction)
    | (refine w_loc rfl ?_
       refine w_pure rfl ?_
       have hc8 : pz_R (pz_Sh L) 191 [.inr (.inl 154), .inl 1] (pz_u1 (pz_u1 iv 154 (iv 154)) 157 (iv 157)) (.inl (some (.inl 0))) (pz_u1 (pz_u1 iv 154 (pz_up (iv 154) 0 1)) 157 (iv 157)) := pz_R_mem (s_X11_fails 1) (by rw [pz_u1_in (r := 154) (q := 157) (by decide)]; rw [pz_u1_top (r := 154)]; rfl)
       refine w_call hc8 rfl (pz_cokI is_154 rfl) ?_
       refine w_ret rfl ?_
       first | exact lf_i (by first | rfl | omega) (by rfl) | (exfalso; omega))

theorem s_X11_firstTime_0 {L : Nat} {iv : Nat → Nat → Int} (e : Int) (hk : q_KR (iv 155)) (hcase0 : 0 ≤ e ∧ e ≤ iv 155 0 - 1) (hcase1 : q_con (iv 155) (iv 161)) : pz_R (pz_Sh L) 282 [.inr (.inl 154), .inl e] iv (.inl (some (.inl (q_ft (q_dd (iv 155) (iv 161) (iv 157)) e)))) (pz_u1 (pz_u1 iv 154 (pz_up (iv 154) 0 0)) 157 (q_dd (iv 155) (iv 161) (iv 157))) := by
  intro dv cc ss
  have hk0 := hk.r0
  refine pz_G_mem (iv2 := pz_u1 (pz_u1 iv 154 (iv 154)) 157 (iv 157)) (by exact ((pz_u1_self iv 154).symm).trans (pz_u1_self (pz_u1 iv 154 (iv 154)) 157).symm) ?_
  show pz_G 282 0 [some (.inr (.inl 154)), some (.inl e)] [] (pz_Sh L, pz_u1 (pz_u1 iv 154 (iv 154)) 157 (iv 157), dv, cc, ss) (pz_P (pz_Sh L) (.inl (some (.inl (q_ft (q_dd (iv 155) (iv 161) (iv 157)) e)))) (pz_u1 (pz_u1 iv 154 (pz_up (iv 154) 0 0)) 157 (q_dd (iv 155) (iv 161) (iv 157))) dv cc ss)
  refine pz_G_of pz_b282_0 ?_
  refine w_loc rfl ?_
  refine w_loc rfl ?_
  have hc1 : pz_R (pz_Sh L) 194 [.inr (.inl 154), .inl e] (pz_u1 (pz_u1 iv 154 (iv 154)) 157 (iv 157)) (.inl (some (.inl (pz_bi (0 ≤ e ∧ e ≤ (iv 155) 0 - 1))))) (pz_u1 (pz_u1 iv 154 (iv 154)) 157 (iv 157)) := s_X11_isEvent e (by show q_KR (iv 155); exact hk)
  refine w_call hc1 rfl (pz_cokI is_154 rfl) ?_
  refine w_bne (fun h2 => ?_) (fun h2 => ?_)
  · first
    | (exfalso; first | omega | contradiction)
    | (refine pz_G_of pz_b282_14 ?_
       refine w_loc rfl ?_
       have hc3 : pz_R (pz_Sh L) 227 [.inr (.inl 154)] (pz_u1 (pz_u1 iv 154 (iv 154)) 157 (iv 157)) (.inl (some (.inl (pz_bi (q_con (iv 155) (iv 161)))))) (pz_u1 (pz_u1 iv 154 (iv 154)) 157 (q_dd (iv 155) (iv 161) (iv 157))) := pz_R_mem (s_X11_isConsistentNow (by show q_KR (iv 155); exact hk)) (by rw [pz_u1_top (r := 157)]; rfl)
       refine w_call hc3 rfl (pz_cokI is_154 rfl) ?_
       refine w_beq (fun h4 => ?_) (fun h4 => ?_)
       · first
         | (exfalso; first | omega | contradiction)
         | (refine pz_G_of pz_b282_33 ?_
            refine w_loc rfl ?_
            refine w_pure rfl ?_
            have hc5 : pz_R (pz_Sh L) 191 [.inr (.inl 154), .inl 2] (pz_u1 (pz_u1 iv 154 (iv 154)) 157 (q_dd (iv 155) (iv 161) (iv 157))) (.inl (some (.inl 0))) (pz_u1 (pz_u1 iv 154 (pz_up (iv 154) 0 2)) 157 (q_dd (iv 155) (iv 161) (iv 157))) := pz_R_mem (s_X11_fails 2) (by rw [pz_u1_in (r := 154) (q := 157) (by decide)]; rw [pz_u1_top (r := 154)]; rfl)
            refine w_call hc5 rfl (pz_cokI is_154 rfl) ?_
            refine w_nil ?_
            refine pz_G_of pz_b282_38 ?_
            refine w_ret rfl ?_
            first | exact lf_i (by first | rfl | omega) (by rfl) | (exfalso; omega))
       · first
         | (exfalso; first | omega | contradiction)
         | (refine w_loc rfl ?_
            refine w_loc rfl ?_
            refine w_loc rfl ?_
            have hc6 : pz_R (pz_Sh L) 281 [.inr (.inl 154), .inl e] (pz_u1 (pz_u1 iv 154 (iv 154)) 157 (q_dd (iv 155) (iv 161) (iv 157))) (.inl (some (.inl (q_ft (q_dd (iv 155) (iv 161) (iv 157)) e)))) (pz_u1 (pz_u1 iv 154 (iv 154)) 157 (q_dd (iv 155) (iv 161) (iv 157))) := s_X11_firstOf e (by show 0 ≤ e ∧ e ≤ 9; omega) (by show q_dl (q_dd (iv 155) (iv 161) (iv 157)); first | exact hd | exact q_dd_l hk (by assumption))
            refine w_call hc6 rfl (pz_cokI is_154 rfl) ?_
            have hc7 : pz_R (pz_Sh L) 192 [.inr (.inl 154), .inl (q_ft (q_dd (iv 155) (iv 161) (iv 157)) e)] (pz_u1 (pz_u1 iv 154 (iv 154)) 157 (q_dd (iv 155) (iv 161) (iv 157))) (.inl (some (.inl (q_ft (q_dd (iv 155) (iv 161) (iv 157)) e)))) (pz_u1 (pz_u1 iv 154 (pz_up (iv 154) 0 0)) 157 (q_dd (iv 155) (iv 161) (iv 157))) := pz_R_mem (s_X11_tells (q_ft (q_dd (iv 155) (iv 161) (iv 157)) e)) (by rw [pz_u1_in (r := 154) (q := 157) (by decide)]; rw [pz_u1_top (r := 154)]; rfl)
            refine w_call hc7 rfl (pz_cokI is_154 rfl) ?_
            refine w_goto ?_
            refine pz_G_of pz_b282_38 ?_
            refine w_ret rfl ?_
            first | exact lf_i (by first | rfl | omega) (by rfl) | (exfalso; omega)))
  · first
    | (exfalso; first | omega | contradiction)
    | (refine w_loc rfl ?_
       refine w_pure rfl ?_
       have hc8 : pz_R (pz_Sh L) 191 [.inr (.inl 154), .inl 1] (pz_u1 (pz_u1 iv 154 (iv 154)) 157 (iv 157)) (.inl (some (.inl 0))) (pz_u1 (pz_u1 iv 154 (pz_up (iv 154) 0 1)) 157 (iv 157)) := pz_R_mem (s_X11_fails 1) (by rw [pz_u1_in (r := 154) (q := 157) (by decide)]; rw [pz_u1_top (r := 154)]; rfl)
       refine w_call hc8 rfl (pz_cokI is_154 rfl) ?_
       refine w_ret rfl ?_
       first | exact lf_i (by first | rfl | omega) (by rfl) | (exfalso; omega))

theorem s_X11_isOn {L : Nat} {iv : Nat → Nat → Int} (a : Int) (m : Int) (hk : q_KR (iv 155)) (ha : 0 ≤ a ∧ a < (iv 155) 3) (hd : q_dl (iv 157)) : pz_R (pz_Sh L) 283 [.inr (.inl 154), .inl a, .inl m] iv (.inl (some (.inl (pz_bi (q_on (iv 155) (iv 157) a m))))) iv := by
  intro dv cc ss
  have hk0 := hk.r0
  have hac := hk.ac ha.1 ha.2
  show pz_G 283 0 [some (.inr (.inl 154)), some (.inl a), some (.inl m)] [] (pz_Sh L, iv, dv, cc, ss) (pz_P (pz_Sh L) (.inl (some (.inl (pz_bi (q_on (iv 155) (iv 157) a m))))) iv dv cc ss)
  refine pz_G_of pz_b283_0 ?_
  refine w_loc rfl ?_
  refine w_loc rfl ?_
  refine w_getR (q := 155) is_154 rf_154_1 ?_
  refine w_pure rfl ?_
  refine w_pure rfl ?_
  refine w_loc rfl ?_
  refine w_imul (by omega) ?_
  refine w_iadd (by omega) ?_
  refine w_iald (v := (iv 155) (224 + (3 * a)).toNat) is_155 ln_155 ⟨by omega, by omega⟩ rfl ?_
  have hc1 : pz_R (pz_Sh L) 281 [.inr (.inl 154), .inl ((iv 155) (224 + (3 * a)).toNat)] (iv) (.inl (some (.inl (q_ft (iv 157) ((iv 155) (224 + (3 * a)).toNat))))) (iv) := s_X11_firstOf ((iv 155) (224 + (3 * a)).toNat) (by omega) (by first | exact hd | exact q_dd_l hk (by assumption))
  refine w_call hc1 rfl (pz_cokI is_154 rfl) ?_
  refine w_loc rfl ?_
  refine w_igt (fun h2 => ?_) (fun h2 => ?_)
  · refine pz_G_of pz_b283_46 ?_
    refine w_pure rfl ?_
    refine w_nil ?_
    refine pz_G_of pz_b283_47 ?_
    refine w_ret (pz_rok1 (Or.inl rfl)) ?_
    first | exact lf_i (pz_bi_f (by omega)) (by rfl) | (exfalso; omega)
  · refine w_loc rfl ?_
    refine w_loc rfl ?_
    refine w_loc rfl ?_
    refine w_getR (q := 155) is_154 rf_154_1 ?_
    refine w_pure rfl ?_
    refine w_pure rfl ?_
    refine w_loc rfl ?_
    refine w_imul (by omega) ?_
    refine w_iadd (by omega) ?_
    refine w_pure rfl ?_
    refine w_iadd (by omega) ?_
    refine w_iald (v := (iv 155) ((224 + (3 * a)) + 1).toNat) is_155 ln_155 ⟨by omega, by omega⟩ rfl ?_
    have hc3 : pz_R (pz_Sh L) 281 [.inr (.inl 154), .inl ((iv 155) ((224 + (3 * a)) + 1).toNat)] (iv) (.inl (some (.inl (q_ft (iv 157) ((iv 155) ((224 + (3 * a)) + 1).toNat))))) (iv) := s_X11_firstOf ((iv 155) ((224 + (3 * a)) + 1).toNat) (by omega) (by first | exact hd | exact q_dd_l hk (by assumption))
    refine w_call hc3 rfl (pz_cokI is_154 rfl) ?_
    refine w_ige (fun h4 => ?_) (fun h4 => ?_)
    · refine pz_G_of pz_b283_46 ?_
      refine w_pure rfl ?_
      refine w_nil ?_
      refine pz_G_of pz_b283_47 ?_
      refine w_ret (pz_rok1 (Or.inl rfl)) ?_
      first | exact lf_i (pz_bi_f (by omega)) (by rfl) | (exfalso; omega)
    · refine w_pure rfl ?_
      refine w_goto ?_
      refine pz_G_of pz_b283_47 ?_
      refine w_ret (pz_rok1 (Or.inr rfl)) ?_
      first | exact lf_i (pz_bi_t (by omega)) (by rfl) | (exfalso; omega)

theorem s_X11_useOf {L : Nat} {iv : Nat → Nat → Int} (m : Int) (hk : q_KR (iv 155)) (hd : q_dl (iv 157)) : pz_R (pz_Sh L) 284 [.inr (.inl 154), .inl m] iv (.inl (some (.inl (q_use (iv 155) (iv 157) m)))) iv := by
  intro dv cc ss
  have hk0 := hk.r0
  show pz_G 284 0 [some (.inr (.inl 154)), some (.inl m), none, none] [] (pz_Sh L, iv, dv, cc, ss) (pz_P (pz_Sh L) (.inl (some (.inl (q_use (iv 155) (iv 157) m)))) iv dv cc ss)
  refine pz_G_of pz_b284_0 ?_
  refine w_pure rfl ?_
  refine w_loc (ls' := [some (.inr (.inl 154)), some (.inl m), some (.inl 0), none]) (st' := []) rfl ?_
  refine w_pure rfl ?_
  refine w_loc (ls' := [some (.inr (.inl 154)), some (.inl m), some (.inl 0), some (.inl 0)]) (st' := []) rfl ?_
  refine w_nil ?_
  have lp4 : ∀ (dd : Nat) (n : Int) (a : Int) , ((iv 155) 3 - a).toNat = dd → ∀ (ha : 0 ≤ a ∧ a ≤ (iv 155) 3), ∀ (hn : n = q_sum (fun a => q_if (q_on (iv 155) (iv 157) a m) ((iv 155) (224 + 3 * a + 2).toNat) 0) a),  pz_G 284 4 [some (.inr (.inl 154)), some (.inl m), some (.inl n), some (.inl a)] [] (pz_Sh L, iv, dv, cc, ss) (pz_P (pz_Sh L) (.inl (some (.inl (q_use (iv 155) (iv 157) m)))) iv dv cc ss) := by
    intro dd4
    induction dd4 using Nat.strongRecOn with
    | _ dd4 ih4 =>
    intro n a  hd4 ha hn
    have har := fun h => hk.ac ha.1 h
    have hsr := q_sum_r (lo := 0) (hi := 9) (f := fun a => q_if (q_on (iv 155) (iv 157) a m) ((iv 155) (224 + 3 * a + 2).toNat) 0) ha.1 (fun i g1 g2 => by have h9 := hk.ac g1 (by omega); by_cases hq : q_on (iv 155) (iv 157) i m; (rw [q_if_t hq]; omega); (rw [q_if_f hq]; omega))
    rw [← hn] at hsr
    refine pz_G_of pz_b284_4 ?_
    refine w_loc rfl ?_
    refine w_loc rfl ?_
    refine w_getR (q := 155) is_154 rf_154_1 ?_
    refine w_pure rfl ?_
    refine w_iald (v := (iv 155) 3) is_155 ln_155 ⟨by omega, by omega⟩ rfl ?_
    refine w_ige (fun h1 => ?_) (fun h1 => ?_)
    · refine pz_G_of pz_b284_50 ?_
      refine w_loc rfl ?_
      refine w_ret rfl ?_
      exact lf_i (by rw [hn, show a = (iv 155) 3 by omega]; rfl) rfl
    · refine w_loc rfl ?_
      refine w_loc rfl ?_
      refine w_loc rfl ?_
      refine w_loc rfl ?_
      have hc2 : pz_R (pz_Sh L) 283 [.inr (.inl 154), .inl a, .inl m] (iv) (.inl (some (.inl (pz_bi (q_on (iv 155) (iv 157) a m))))) (iv) := s_X11_isOn a m (by exact hk) (by omega) (by first | exact hd | exact q_dd_l hk (by assumption))
      refine w_call hc2 rfl (pz_cokI is_154 rfl) ?_
      refine w_beq (fun h3 => ?_) (fun h3 => ?_)
      · refine pz_G_of pz_b284_41 ?_
        refine w_pure rfl ?_
        refine w_nil ?_
        refine pz_G_of pz_b284_42 ?_
        refine w_iadd (by omega) ?_
        refine w_loc (ls' := [some (.inr (.inl 154)), some (.inl m), some (.inl (n + 0)), some (.inl a)]) (st' := []) rfl ?_
        refine w_iinc (ls' := [some (.inr (.inl 154)), some (.inl m), some (.inl (n + 0)), some (.inl (a + 1))]) rfl rfl rfl (by omega) ?_
        refine w_goto ?_
        exact ih4 _ (by omega) (n + 0) (a + 1)  rfl (by omega) (by rw [q_sum_s (by omega), ← hn]; (try dsimp only); first | rw [q_if_t (by assumption)] | rw [q_if_f (by assumption)])
      · refine w_loc rfl ?_
        refine w_getR (q := 155) is_154 rf_154_1 ?_
        refine w_pure rfl ?_
        refine w_pure rfl ?_
        refine w_loc rfl ?_
        refine w_imul (by omega) ?_
        refine w_iadd (by omega) ?_
        refine w_pure rfl ?_
        refine w_iadd (by omega) ?_
        refine w_iald (v := (iv 155) ((224 + (3 * a)) + 2).toNat) is_155 ln_155 ⟨by omega, by omega⟩ rfl ?_
        refine w_goto ?_
        refine pz_G_of pz_b284_42 ?_
        refine w_iadd (by omega) ?_
        refine w_loc (ls' := [some (.inr (.inl 154)), some (.inl m), some (.inl (n + ((iv 155) ((224 + (3 * a)) + 2).toNat))), some (.inl a)]) (st' := []) rfl ?_
        refine w_iinc (ls' := [some (.inr (.inl 154)), some (.inl m), some (.inl (n + ((iv 155) ((224 + (3 * a)) + 2).toNat))), some (.inl (a + 1))]) rfl rfl rfl (by omega) ?_
        refine w_goto ?_
        exact ih4 _ (by omega) (n + ((iv 155) ((224 + (3 * a)) + 2).toNat)) (a + 1)  rfl (by omega) (by rw [q_sum_s (by omega), ← hn]; (try dsimp only); first | rw [q_if_t (by assumption)] | rw [q_if_f (by assumption)])
  exact lp4 _ 0 0  rfl (by omega) (by rfl)

theorem s_X11_use_1 {L : Nat} {iv : Nat → Nat → Int} (m : Int) (hk : q_KR (iv 155)) (hcase0 : ¬ (0 ≤ m ∧ m ≤ 999)) : pz_R (pz_Sh L) 285 [.inr (.inl 154), .inl m] iv (.inl (some (.inl 0))) (pz_u1 (pz_u1 iv 154 (pz_up (iv 154) 0 1)) 157 (iv 157)) := by
  intro dv cc ss
  have hk0 := hk.r0
  refine pz_G_mem (iv2 := pz_u1 (pz_u1 iv 154 (iv 154)) 157 (iv 157)) (by exact ((pz_u1_self iv 154).symm).trans (pz_u1_self (pz_u1 iv 154 (iv 154)) 157).symm) ?_
  show pz_G 285 0 [some (.inr (.inl 154)), some (.inl m)] [] (pz_Sh L, pz_u1 (pz_u1 iv 154 (iv 154)) 157 (iv 157), dv, cc, ss) (pz_P (pz_Sh L) (.inl (some (.inl 0))) (pz_u1 (pz_u1 iv 154 (pz_up (iv 154) 0 1)) 157 (iv 157)) dv cc ss)
  refine pz_G_of pz_b285_0 ?_
  refine w_loc rfl ?_
  refine w_pure rfl ?_
  refine w_pure rfl ?_
  have hc1 : pz_R (pz_Sh L) 190 [.inl m, .inl 0, .inl 999] (pz_u1 (pz_u1 iv 154 (iv 154)) 157 (iv 157)) (.inl (some (.inl (pz_bi (0 ≤ m ∧ m ≤ 999))))) (pz_u1 (pz_u1 iv 154 (iv 154)) 157 (iv 157)) := s_X11_in m 0 999
  refine w_call hc1 rfl rfl ?_
  refine w_bne (fun h2 => ?_) (fun h2 => ?_)
  · first
    | (exfalso; first | omega | contradiction)
    | (refine pz_G_of pz_b285_17 ?_
       refine w_loc rfl ?_
       have hc3 : pz_R (pz_Sh L) 227 [.inr (.inl 154)] (pz_u1 (pz_u1 iv 154 (iv 154)) 157 (iv 157)) (.inl (some (.inl (pz_bi (q_con (iv 155) (iv 161)))))) (pz_u1 (pz_u1 iv 154 (iv 154)) 157 (q_dd (iv 155) (iv 161) (iv 157))) := pz_R_mem (s_X11_isConsistentNow (by show q_KR (iv 155); exact hk)) (by rw [pz_u1_top (r := 157)]; rfl)
       refine w_call hc3 rfl (pz_cokI is_154 rfl) ?_
       refine w_beq (fun h4 => ?_) (fun h4 => ?_)
       · first
         | (exfalso; first | omega | contradiction)
         | (refine pz_G_of pz_b285_36 ?_
            refine w_loc rfl ?_
            refine w_pure rfl ?_
            have hc5 : pz_R (pz_Sh L) 191 [.inr (.inl 154), .inl 2] (pz_u1 (pz_u1 iv 154 (iv 154)) 157 (q_dd (iv 155) (iv 161) (iv 157))) (.inl (some (.inl 0))) (pz_u1 (pz_u1 iv 154 (pz_up (iv 154) 0 2)) 157 (q_dd (iv 155) (iv 161) (iv 157))) := pz_R_mem (s_X11_fails 2) (by rw [pz_u1_in (r := 154) (q := 157) (by decide)]; rw [pz_u1_top (r := 154)]; rfl)
            refine w_call hc5 rfl (pz_cokI is_154 rfl) ?_
            refine w_nil ?_
            refine pz_G_of pz_b285_41 ?_
            refine w_ret rfl ?_
            first | exact lf_i (by first | rfl | omega) (by rfl) | (exfalso; omega))
       · first
         | (exfalso; first | omega | contradiction)
         | (refine w_loc rfl ?_
            refine w_loc rfl ?_
            refine w_loc rfl ?_
            have hc6 : pz_R (pz_Sh L) 284 [.inr (.inl 154), .inl m] (pz_u1 (pz_u1 iv 154 (iv 154)) 157 (q_dd (iv 155) (iv 161) (iv 157))) (.inl (some (.inl (q_use (iv 155) (q_dd (iv 155) (iv 161) (iv 157)) m)))) (pz_u1 (pz_u1 iv 154 (iv 154)) 157 (q_dd (iv 155) (iv 161) (iv 157))) := s_X11_useOf m (by show q_KR (iv 155); exact hk) (by show q_dl (q_dd (iv 155) (iv 161) (iv 157)); first | exact hd | exact q_dd_l hk (by assumption))
            refine w_call hc6 rfl (pz_cokI is_154 rfl) ?_
            have hc7 : pz_R (pz_Sh L) 192 [.inr (.inl 154), .inl (q_use (iv 155) (q_dd (iv 155) (iv 161) (iv 157)) m)] (pz_u1 (pz_u1 iv 154 (iv 154)) 157 (q_dd (iv 155) (iv 161) (iv 157))) (.inl (some (.inl (q_use (iv 155) (q_dd (iv 155) (iv 161) (iv 157)) m)))) (pz_u1 (pz_u1 iv 154 (pz_up (iv 154) 0 0)) 157 (q_dd (iv 155) (iv 161) (iv 157))) := pz_R_mem (s_X11_tells (q_use (iv 155) (q_dd (iv 155) (iv 161) (iv 157)) m)) (by rw [pz_u1_in (r := 154) (q := 157) (by decide)]; rw [pz_u1_top (r := 154)]; rfl)
            refine w_call hc7 rfl (pz_cokI is_154 rfl) ?_
            refine w_goto ?_
            refine pz_G_of pz_b285_41 ?_
            refine w_ret rfl ?_
            first | exact lf_i (by first | rfl | omega) (by rfl) | (exfalso; omega)))
  · first
    | (exfalso; first | omega | contradiction)
    | (refine w_loc rfl ?_
       refine w_pure rfl ?_
       have hc8 : pz_R (pz_Sh L) 191 [.inr (.inl 154), .inl 1] (pz_u1 (pz_u1 iv 154 (iv 154)) 157 (iv 157)) (.inl (some (.inl 0))) (pz_u1 (pz_u1 iv 154 (pz_up (iv 154) 0 1)) 157 (iv 157)) := pz_R_mem (s_X11_fails 1) (by rw [pz_u1_in (r := 154) (q := 157) (by decide)]; rw [pz_u1_top (r := 154)]; rfl)
       refine w_call hc8 rfl (pz_cokI is_154 rfl) ?_
       refine w_ret rfl ?_
       first | exact lf_i (by first | rfl | omega) (by rfl) | (exfalso; omega))

theorem s_X11_use_2 {L : Nat} {iv : Nat → Nat → Int} (m : Int) (hk : q_KR (iv 155)) (hcase0 : 0 ≤ m ∧ m ≤ 999) (hcase1 : ¬ q_con (iv 155) (iv 161)) : pz_R (pz_Sh L) 285 [.inr (.inl 154), .inl m] iv (.inl (some (.inl 0))) (pz_u1 (pz_u1 iv 154 (pz_up (iv 154) 0 2)) 157 (q_dd (iv 155) (iv 161) (iv 157))) := by
  intro dv cc ss
  have hk0 := hk.r0
  refine pz_G_mem (iv2 := pz_u1 (pz_u1 iv 154 (iv 154)) 157 (iv 157)) (by exact ((pz_u1_self iv 154).symm).trans (pz_u1_self (pz_u1 iv 154 (iv 154)) 157).symm) ?_
  show pz_G 285 0 [some (.inr (.inl 154)), some (.inl m)] [] (pz_Sh L, pz_u1 (pz_u1 iv 154 (iv 154)) 157 (iv 157), dv, cc, ss) (pz_P (pz_Sh L) (.inl (some (.inl 0))) (pz_u1 (pz_u1 iv 154 (pz_up (iv 154) 0 2)) 157 (q_dd (iv 155) (iv 161) (iv 157))) dv cc ss)
  refine pz_G_of pz_b285_0 ?_
  refine w_loc rfl ?_
  refine w_pure rfl ?_
  refine w_pure rfl ?_
  have hc1 : pz_R (pz_Sh L) 190 [.inl m, .inl 0, .inl 999] (pz_u1 (pz_u1 iv 154 (iv 154)) 157 (iv 157)) (.inl (some (.inl (pz_bi (0 ≤ m ∧ m ≤ 999))))) (pz_u1 (pz_u1 iv 154 (iv 154)) 157 (iv 157)) := s_X11_in m 0 999
  refine w_call hc1 rfl rfl ?_
  refine w_bne (fun h2 => ?_) (fun h2 => ?_)
  · first
    | (exfalso; first | omega | contradiction)
    | (refine pz_G_of pz_b285_17 ?_
       refine w_loc rfl ?_
       have hc3 : pz_R (pz_Sh L) 227 [.inr (.inl 154)] (pz_u1 (pz_u1 iv 154 (iv 154)) 157 (iv 157)) (.inl (some (.inl (pz_bi (q_con (iv 155) (iv 161)))))) (pz_u1 (pz_u1 iv 154 (iv 154)) 157 (q_dd (iv 155) (iv 161) (iv 157))) := pz_R_mem (s_X11_isConsistentNow (by show q_KR (iv 155); exact hk)) (by rw [pz_u1_top (r := 157)]; rfl)
       refine w_call hc3 rfl (pz_cokI is_154 rfl) ?_
       refine w_beq (fun h4 => ?_) (fun h4 => ?_)
       · first
         | (exfalso; first | omega | contradiction)
         | (refine pz_G_of pz_b285_36 ?_
            refine w_loc rfl ?_
            refine w_pure rfl ?_
            have hc5 : pz_R (pz_Sh L) 191 [.inr (.inl 154), .inl 2] (pz_u1 (pz_u1 iv 154 (iv 154)) 157 (q_dd (iv 155) (iv 161) (iv 157))) (.inl (some (.inl 0))) (pz_u1 (pz_u1 iv 154 (pz_up (iv 154) 0 2)) 157 (q_dd (iv 155) (iv 161) (iv 157))) := pz_R_mem (s_X11_fails 2) (by rw [pz_u1_in (r := 154) (q := 157) (by decide)]; rw [pz_u1_top (r := 154)]; rfl)
            refine w_call hc5 rfl (pz_cokI is_154 rfl) ?_
            refine w_nil ?_
            refine pz_G_of pz_b285_41 ?_
            refine w_ret rfl ?_
            first | exact lf_i (by first | rfl | omega) (by rfl) | (exfalso; omega))
       · first
         | (exfalso; first | omega | contradiction)
         | (refine w_loc rfl ?_
            refine w_loc rfl ?_
            refine w_loc rfl ?_
            have hc6 : pz_R (pz_Sh L) 284 [.inr (.inl 154), .inl m] (pz_u1 (pz_u1 iv 154 (iv 154)) 157 (q_dd (iv 155) (iv 161) (iv 157))) (.inl (some (.inl (q_use (iv 155) (q_dd (iv 155) (iv 161) (iv 157)) m)))) (pz_u1 (pz_u1 iv 154 (iv 154)) 157 (q_dd (iv 155) (iv 161) (iv 157))) := s_X11_useOf m (by show q_KR (iv 155); exact hk) (by show q_dl (q_dd (iv 155) (iv 161) (iv 157)); first | exact hd | exact q_dd_l hk (by assumption))
            refine w_call hc6 rfl (pz_cokI is_154 rfl) ?_
            have hc7 : pz_R (pz_Sh L) 192 [.inr (.inl 154), .inl (q_use (iv 155) (q_dd (iv 155) (iv 161) (iv 157)) m)] (pz_u1 (pz_u1 iv 154 (iv 154)) 157 (q_dd (iv 155) (iv 161) (iv 157))) (.inl (some (.inl (q_use (iv 155) (q_dd (iv 155) (iv 161) (iv 157)) m)))) (pz_u1 (pz_u1 iv 154 (pz_up (iv 154) 0 0)) 157 (q_dd (iv 155) (iv 161) (iv 157))) := pz_R_mem (s_X11_tells (q_use (iv 155) (q_dd (iv 155) (iv 161) (iv 157)) m)) (by rw [pz_u1_in (r := 154) (q := 157) (by decide)]; rw [pz_u1_top (r := 154)]; rfl)
            refine w_call hc7 rfl (pz_cokI is_154 rfl) ?_
            refine w_goto ?_
            refine pz_G_of pz_b285_41 ?_
            refine w_ret rfl ?_
            first | exact lf_i (by first | rfl | omega) (by rfl) | (exfalso; omega)))
  · first
    | (exfalso; first | omega | contradiction)
    | (refine w_loc rfl ?_
       refine w_pure rfl ?_
       have hc8 : pz_R (pz_Sh L) 191 [.inr (.inl 154), .inl 1] (pz_u1 (pz_u1 iv 154 (iv 154)) 157 (iv 157)) (.inl (some (.inl 0))) (pz_u1 (pz_u1 iv 154 (pz_up (iv 154) 0 1)) 157 (iv 157)) := pz_R_mem (s_X11_fails 1) (by rw [pz_u1_in (r := 154) (q := 157) (by decide)]; rw [pz_u1_top (r := 154)]; rfl)
       refine w_call hc8 rfl (pz_cokI is_154 rfl) ?_
       refine w_ret rfl ?_
       first | exact lf_i (by first | rfl | omega) (by rfl) | (exfalso; omega))

theorem s_X11_use_0 {L : Nat} {iv : Nat → Nat → Int} (m : Int) (hk : q_KR (iv 155)) (hcase0 : 0 ≤ m ∧ m ≤ 999) (hcase1 : q_con (iv 155) (iv 161)) : pz_R (pz_Sh L) 285 [.inr (.inl 154), .inl m] iv (.inl (some (.inl (q_use (iv 155) (q_dd (iv 155) (iv 161) (iv 157)) m)))) (pz_u1 (pz_u1 iv 154 (pz_up (iv 154) 0 0)) 157 (q_dd (iv 155) (iv 161) (iv 157))) := by
  intro dv cc ss
  have hk0 := hk.r0
  refine pz_G_mem (iv2 := pz_u1 (pz_u1 iv 154 (iv 154)) 157 (iv 157)) (by exact ((pz_u1_self iv 154).symm).trans (pz_u1_self (pz_u1 iv 154 (iv 154)) 157).symm) ?_
  show pz_G 285 0 [some (.inr (.inl 154)), some (.inl m)] [] (pz_Sh L, pz_u1 (pz_u1 iv 154 (iv 154)) 157 (iv 157), dv, cc, ss) (pz_P (pz_Sh L) (.inl (some (.inl (q_use (iv 155) (q_dd (iv 155) (iv 161) (iv 157)) m)))) (pz_u1 (pz_u1 iv 154 (pz_up (iv 154) 0 0)) 157 (q_dd (iv 155) (iv 161) (iv 157))) dv cc ss)
  refine pz_G_of pz_b285_0 ?_
  refine w_loc rfl ?_
  refine w_pure rfl ?_
  refine w_pure rfl ?_
  have hc1 : pz_R (pz_Sh L) 190 [.inl m, .inl 0, .inl 999] (pz_u1 (pz_u1 iv 154 (iv 154)) 157 (iv 157)) (.inl (some (.inl (pz_bi (0 ≤ m ∧ m ≤ 999))))) (pz_u1 (pz_u1 iv 154 (iv 154)) 157 (iv 157)) := s_X11_in m 0 999
  refine w_call hc1 rfl rfl ?_
  refine w_bne (fun h2 => ?_) (fun h2 => ?_)
  · first
    | (exfalso; first | omega | contradiction)
    | (refine pz_G_of pz_b285_17 ?_
       refine w_loc rfl ?_
       have hc3 : pz_R (pz_Sh L) 227 [.inr (.inl 154)] (pz_u1 (pz_u1 iv 154 (iv 154)) 157 (iv 157)) (.inl (some (.inl (pz_bi (q_con (iv 155) (iv 161)))))) (pz_u1 (pz_u1 iv 154 (iv 154)) 157 (q_dd (iv 155) (iv 161) (iv 157))) := pz_R_mem (s_X11_isConsistentNow (by show q_KR (iv 155); exact hk)) (by rw [pz_u1_top (r := 157)]; rfl)
       refine w_call hc3 rfl (pz_cokI is_154 rfl) ?_
       refine w_beq (fun h4 => ?_) (fun h4 => ?_)
       · first
         | (exfalso; first | omega | contradiction)
         | (refine pz_G_of pz_b285_36 ?_
            refine w_loc rfl ?_
            refine w_pure rfl ?_
            have hc5 : pz_R (pz_Sh L) 191 [.inr (.inl 154), .inl 2] (pz_u1 (pz_u1 iv 154 (iv 154)) 157 (q_dd (iv 155) (iv 161) (iv 157))) (.inl (some (.inl 0))) (pz_u1 (pz_u1 iv 154 (pz_up (iv 154) 0 2)) 157 (q_dd (iv 155) (iv 161) (iv 157))) := pz_R_mem (s_X11_fails 2) (by rw [pz_u1_in (r := 154) (q := 157) (by decide)]; rw [pz_u1_top (r := 154)]; rfl)
            refine w_call hc5 rfl (pz_cokI is_154 rfl) ?_
            refine w_nil ?_
            refine pz_G_of pz_b285_41 ?_
            refine w_ret rfl ?_
            first | exact lf_i (by first | rfl | omega) (by rfl) | (exfalso; omega))
       · first
         | (exfalso; first | omega | contradiction)
         | (refine w_loc rfl ?_
            refine w_loc rfl ?_
            refine w_loc rfl ?_
            have hc6 : pz_R (pz_Sh L) 284 [.inr (.inl 154), .inl m] (pz_u1 (pz_u1 iv 154 (iv 154)) 157 (q_dd (iv 155) (iv 161) (iv 157))) (.inl (some (.inl (q_use (iv 155) (q_dd (iv 155) (iv 161) (iv 157)) m)))) (pz_u1 (pz_u1 iv 154 (iv 154)) 157 (q_dd (iv 155) (iv 161) (iv 157))) := s_X11_useOf m (by show q_KR (iv 155); exact hk) (by show q_dl (q_dd (iv 155) (iv 161) (iv 157)); first | exact hd | exact q_dd_l hk (by assumption))
            refine w_call hc6 rfl (pz_cokI is_154 rfl) ?_
            have hc7 : pz_R (pz_Sh L) 192 [.inr (.inl 154), .inl (q_use (iv 155) (q_dd (iv 155) (iv 161) (iv 157)) m)] (pz_u1 (pz_u1 iv 154 (iv 154)) 157 (q_dd (iv 155) (iv 161) (iv 157))) (.inl (some (.inl (q_use (iv 155) (q_dd (iv 155) (iv 161) (iv 157)) m)))) (pz_u1 (pz_u1 iv 154 (pz_up (iv 154) 0 0)) 157 (q_dd (iv 155) (iv 161) (iv 157))) := pz_R_mem (s_X11_tells (q_use (iv 155) (q_dd (iv 155) (iv 161) (iv 157)) m)) (by rw [pz_u1_in (r := 154) (q := 157) (by decide)]; rw [pz_u1_top (r := 154)]; rfl)
            refine w_call hc7 rfl (pz_cokI is_154 rfl) ?_
            refine w_goto ?_
            refine pz_G_of pz_b285_41 ?_
            refine w_ret rfl ?_
            first | exact lf_i (by first | rfl | omega) (by rfl) | (exfalso; omega)))
  · first
    | (exfalso; first | omega | contradiction)
    | (refine w_loc rfl ?_
       refine w_pure rfl ?_
       have hc8 : pz_R (pz_Sh L) 191 [.inr (.inl 154), .inl 1] (pz_u1 (pz_u1 iv 154 (iv 154)) 157 (iv 157)) (.inl (some (.inl 0))) (pz_u1 (pz_u1 iv 154 (pz_up (iv 154) 0 1)) 157 (iv 157)) := pz_R_mem (s_X11_fails 1) (by rw [pz_u1_in (r := 154) (q := 157) (by decide)]; rw [pz_u1_top (r := 154)]; rfl)
       refine w_call hc8 rfl (pz_cokI is_154 rfl) ?_
       refine w_ret rfl ?_
       first | exact lf_i (by first | rfl | omega) (by rfl) | (exfalso; omega))

theorem s_X11_peakOf {L : Nat} {iv : Nat → Nat → Int} (hk : q_KR (iv 155)) (hd : q_dl (iv 157)) : pz_R (pz_Sh L) 286 [.inr (.inl 154)] iv (.inl (some (.inl (q_pk (iv 155) (iv 157))))) iv := by
  intro dv cc ss
  have hk0 := hk.r0
  show pz_G 286 0 [some (.inr (.inl 154)), none, none, none] [] (pz_Sh L, iv, dv, cc, ss) (pz_P (pz_Sh L) (.inl (some (.inl (q_pk (iv 155) (iv 157))))) iv dv cc ss)
  refine pz_G_of pz_b286_0 ?_
  refine w_pure rfl ?_
  refine w_loc (ls' := [some (.inr (.inl 154)), some (.inl (-1)), none, none]) (st' := []) rfl ?_
  refine w_pure rfl ?_
  refine w_loc (ls' := [some (.inr (.inl 154)), some (.inl (-1)), some (.inl 0), none]) (st' := []) rfl ?_
  refine w_nil ?_
  have lp4 : ∀ (dd : Nat) (n : Int) (a : Int) (u4_3 : Option pz_V) (hu4_3 : pz_nc u4_3 = true), ((iv 155) 3 - a).toNat = dd → ∀ (ha : 0 ≤ a ∧ a ≤ (iv 155) 3), ∀ (hn : n = q_fr (q_pkS (iv 155) (iv 157)) 0 a (-1)),  pz_G 286 4 [some (.inr (.inl 154)), some (.inl n), some (.inl a), u4_3] [] (pz_Sh L, iv, dv, cc, ss) (pz_P (pz_Sh L) (.inl (some (.inl (q_pk (iv 155) (iv 157))))) iv dv cc ss) := by
    intro dd4
    induction dd4 using Nat.strongRecOn with
    | _ dd4 ih4 =>
    intro n a u4_3 hu4_3 hd4 ha hn
    have har := fun h => hk.ac ha.1 h
    refine pz_G_of pz_b286_4 ?_
    refine w_loc rfl ?_
    refine w_loc rfl ?_
    refine w_getR (q := 155) is_154 rf_154_1 ?_
    refine w_pure rfl ?_
    refine w_iald (v := (iv 155) 3) is_155 ln_155 ⟨by omega, by omega⟩ rfl ?_
    refine w_ige (fun h1 => ?_) (fun h1 => ?_)
    · refine pz_G_of pz_b286_63 ?_
      refine w_loc rfl ?_
      refine w_ret rfl ?_
      exact lf_i (by rw [hn, show a = (iv 155) 3 by omega]; rfl) rfl
    · refine w_loc rfl ?_
      refine w_loc rfl ?_
      refine w_getR (q := 155) is_154 rf_154_1 ?_
      refine w_pure rfl ?_
      refine w_pure rfl ?_
      refine w_loc rfl ?_
      refine w_imul (by omega) ?_
      refine w_iadd (by omega) ?_
      refine w_iald (v := (iv 155) (224 + (3 * a)).toNat) is_155 ln_155 ⟨by omega, by omega⟩ rfl ?_
      have hc2 : pz_R (pz_Sh L) 281 [.inr (.inl 154), .inl ((iv 155) (224 + (3 * a)).toNat)] (iv) (.inl (some (.inl (q_ft (iv 157) ((iv 155) (224 + (3 * a)).toNat))))) (iv) := s_X11_firstOf ((iv 155) (224 + (3 * a)).toNat) (by omega) (by first | exact hd | exact q_dd_l hk (by assumption))
      refine w_call hc2 rfl (pz_cokI is_154 rfl) ?_
      refine w_loc (ls' := [some (.inr (.inl 154)), some (.inl n), some (.inl a), some (.inl (q_ft (iv 157) ((iv 155) (224 + (3 * a)).toNat)))]) (st' := []) rfl ?_
      refine w_loc rfl ?_
      refine w_loc rfl ?_
      have hc3 : pz_R (pz_Sh L) 284 [.inr (.inl 154), .inl (q_ft (iv 157) ((iv 155) (224 + (3 * a)).toNat))] (iv) (.inl (some (.inl (q_use (iv 155) (iv 157) (q_ft (iv 157) ((iv 155) (224 + (3 * a)).toNat)))))) (iv) := s_X11_useOf (q_ft (iv 157) ((iv 155) (224 + (3 * a)).toNat)) (by exact hk) (by first | exact hd | exact q_dd_l hk (by assumption))
      refine w_call hc3 rfl (pz_cokI is_154 rfl) ?_
      refine w_loc rfl ?_
      refine w_getR (q := 155) is_154 rf_154_1 ?_
      refine w_pure rfl ?_
      refine w_iald (v := (iv 155) 5) is_155 ln_155 ⟨by omega, by omega⟩ rfl ?_
      refine w_ile (fun h4 => ?_) (fun h4 => ?_)
      · refine pz_G_of pz_b286_57 ?_
        refine w_iinc (ls' := [some (.inr (.inl 154)), some (.inl n), some (.inl (a + 1)), some (.inl (q_ft (iv 157) ((iv 155) (224 + (3 * a)).toNat)))]) rfl rfl rfl (by omega) ?_
        refine w_goto ?_
        exact ih4 _ (by omega) n (a + 1) (some (.inl (q_ft (iv 157) ((iv 155) (224 + (3 * a)).toNat)))) rfl rfl (by omega) (by rw [q_fr_s (by omega), ← hn]; unfold q_pkS; first | rw [q_if_t (by omega)] | rw [q_if_f (by omega)])
      · refine w_loc rfl ?_
        refine w_pure rfl ?_
        refine w_ieq (fun h5 => ?_) (fun h5 => ?_)
        · refine pz_G_of pz_b286_55 ?_
          refine w_loc rfl ?_
          refine w_loc (ls' := [some (.inr (.inl 154)), some (.inl (q_ft (iv 157) ((iv 155) (224 + (3 * a)).toNat))), some (.inl a), some (.inl (q_ft (iv 157) ((iv 155) (224 + (3 * a)).toNat)))]) (st' := []) rfl ?_
          refine w_nil ?_
          refine pz_G_of pz_b286_57 ?_
          refine w_iinc (ls' := [some (.inr (.inl 154)), some (.inl (q_ft (iv 157) ((iv 155) (224 + (3 * a)).toNat))), some (.inl (a + 1)), some (.inl (q_ft (iv 157) ((iv 155) (224 + (3 * a)).toNat)))]) rfl rfl rfl (by omega) ?_
          refine w_goto ?_
          exact ih4 _ (by omega) (q_ft (iv 157) ((iv 155) (224 + (3 * a)).toNat)) (a + 1) (some (.inl (q_ft (iv 157) ((iv 155) (224 + (3 * a)).toNat)))) rfl rfl (by omega) (by rw [q_fr_s (by omega), ← hn]; unfold q_pkS; first | rw [q_if_t (by omega)] | rw [q_if_f (by omega)])
        · refine w_loc rfl ?_
          refine w_loc rfl ?_
          refine w_ige (fun h6 => ?_) (fun h6 => ?_)
          · refine pz_G_of pz_b286_57 ?_
            refine w_iinc (ls' := [some (.inr (.inl 154)), some (.inl n), some (.inl (a + 1)), some (.inl (q_ft (iv 157) ((iv 155) (224 + (3 * a)).toNat)))]) rfl rfl rfl (by omega) ?_
            refine w_goto ?_
            exact ih4 _ (by omega) n (a + 1) (some (.inl (q_ft (iv 157) ((iv 155) (224 + (3 * a)).toNat)))) rfl rfl (by omega) (by rw [q_fr_s (by omega), ← hn]; unfold q_pkS; first | rw [q_if_t (by omega)] | rw [q_if_f (by omega)])
          · refine w_nil ?_
            refine pz_G_of pz_b286_55 ?_
            refine w_loc rfl ?_
            refine w_loc (ls' := [some (.inr (.inl 154)), some (.inl (q_ft (iv 157) ((iv 155) (224 + (3 * a)).toNat))), some (.inl a), some (.inl (q_ft (iv 157) ((iv 155) (224 + (3 * a)).toNat)))]) (st' := []) rfl ?_
            refine w_nil ?_
            refine pz_G_of pz_b286_57 ?_
            refine w_iinc (ls' := [some (.inr (.inl 154)), some (.inl (q_ft (iv 157) ((iv 155) (224 + (3 * a)).toNat))), some (.inl (a + 1)), some (.inl (q_ft (iv 157) ((iv 155) (224 + (3 * a)).toNat)))]) rfl rfl rfl (by omega) ?_
            refine w_goto ?_
            exact ih4 _ (by omega) (q_ft (iv 157) ((iv 155) (224 + (3 * a)).toNat)) (a + 1) (some (.inl (q_ft (iv 157) ((iv 155) (224 + (3 * a)).toNat)))) rfl rfl (by omega) (by rw [q_fr_s (by omega), ← hn]; unfold q_pkS; first | rw [q_if_t (by omega)] | rw [q_if_f (by omega)])
  exact lp4 _ (-1) 0 (none) rfl rfl (by omega) (by rw [q_fr_0 (by omega)])

theorem s_X11_peak_1 {L : Nat} {iv : Nat → Nat → Int} (hk : q_KR (iv 155)) (hcase0 : ¬ q_con (iv 155) (iv 161)) : pz_R (pz_Sh L) 288 [.inr (.inl 154)] iv (.inl (some (.inl 0))) (pz_u1 (pz_u1 iv 154 (pz_up (iv 154) 0 1)) 157 (q_dd (iv 155) (iv 161) (iv 157))) := by
  intro dv cc ss
  have hk0 := hk.r0
  refine pz_G_mem (iv2 := pz_u1 (pz_u1 iv 154 (iv 154)) 157 (iv 157)) (by exact ((pz_u1_self iv 154).symm).trans (pz_u1_self (pz_u1 iv 154 (iv 154)) 157).symm) ?_
  show pz_G 288 0 [some (.inr (.inl 154)), none] [] (pz_Sh L, pz_u1 (pz_u1 iv 154 (iv 154)) 157 (iv 157), dv, cc, ss) (pz_P (pz_Sh L) (.inl (some (.inl 0))) (pz_u1 (pz_u1 iv 154 (pz_up (iv 154) 0 1)) 157 (q_dd (iv 155) (iv 161) (iv 157))) dv cc ss)
  refine pz_G_of pz_b288_0 ?_
  refine w_loc rfl ?_
  have hc1 : pz_R (pz_Sh L) 227 [.inr (.inl 154)] (pz_u1 (pz_u1 iv 154 (iv 154)) 157 (iv 157)) (.inl (some (.inl (pz_bi (q_con (iv 155) (iv 161)))))) (pz_u1 (pz_u1 iv 154 (iv 154)) 157 (q_dd (iv 155) (iv 161) (iv 157))) := pz_R_mem (s_X11_isConsistentNow (by show q_KR (iv 155); exact hk)) (by rw [pz_u1_top (r := 157)]; rfl)
  refine w_call hc1 rfl (pz_cokI is_154 rfl) ?_
  refine w_bne (fun h2 => ?_) (fun h2 => ?_)
  · first
    | (exfalso; first | omega | contradiction)
    | (refine pz_G_of pz_b288_13 ?_
       refine w_loc rfl ?_
       have hc3 : pz_R (pz_Sh L) 286 [.inr (.inl 154)] (pz_u1 (pz_u1 iv 154 (iv 154)) 157 (q_dd (iv 155) (iv 161) (iv 157))) (.inl (some (.inl (q_pk (iv 155) (q_dd (iv 155) (iv 161) (iv 157)))))) (pz_u1 (pz_u1 iv 154 (iv 154)) 157 (q_dd (iv 155) (iv 161) (iv 157))) := s_X11_peakOf (by show q_KR (iv 155); exact hk) (by show q_dl (q_dd (iv 155) (iv 161) (iv 157)); first | exact hd | exact q_dd_l hk (by assumption))
       refine w_call hc3 rfl (pz_cokI is_154 rfl) ?_
       refine w_loc (ls' := [some (.inr (.inl 154)), some (.inl (q_pk (iv 155) (q_dd (iv 155) (iv 161) (iv 157))))]) (st' := []) rfl ?_
       refine w_loc rfl ?_
       refine w_pure rfl ?_
       refine w_ine (fun h4 => ?_) (fun h4 => ?_)
       · first
         | (exfalso; first | omega | contradiction)
         | (refine pz_G_of pz_b288_31 ?_
            refine w_loc rfl ?_
            refine w_loc rfl ?_
            have hc5 : pz_R (pz_Sh L) 192 [.inr (.inl 154), .inl (q_pk (iv 155) (q_dd (iv 155) (iv 161) (iv 157)))] (pz_u1 (pz_u1 iv 154 (iv 154)) 157 (q_dd (iv 155) (iv 161) (iv 157))) (.inl (some (.inl (q_pk (iv 155) (q_dd (iv 155) (iv 161) (iv 157)))))) (pz_u1 (pz_u1 iv 154 (pz_up (iv 154) 0 0)) 157 (q_dd (iv 155) (iv 161) (iv 157))) := pz_R_mem (s_X11_tells (q_pk (iv 155) (q_dd (iv 155) (iv 161) (iv 157)))) (by rw [pz_u1_in (r := 154) (q := 157) (by decide)]; rw [pz_u1_top (r := 154)]; rfl)
            refine w_call hc5 rfl (pz_cokI is_154 rfl) ?_
            refine w_nil ?_
            refine pz_G_of pz_b288_36 ?_
            refine w_ret rfl ?_
            first | exact lf_i (by first | rfl | omega) (by rfl) | (exfalso; omega))
       · first
         | (exfalso; first | omega | contradiction)
         | (refine w_loc rfl ?_
            refine w_pure rfl ?_
            have hc6 : pz_R (pz_Sh L) 191 [.inr (.inl 154), .inl 2] (pz_u1 (pz_u1 iv 154 (iv 154)) 157 (q_dd (iv 155) (iv 161) (iv 157))) (.inl (some (.inl 0))) (pz_u1 (pz_u1 iv 154 (pz_up (iv 154) 0 2)) 157 (q_dd (iv 155) (iv 161) (iv 157))) := pz_R_mem (s_X11_fails 2) (by rw [pz_u1_in (r := 154) (q := 157) (by decide)]; rw [pz_u1_top (r := 154)]; rfl)
            refine w_call hc6 rfl (pz_cokI is_154 rfl) ?_
            refine w_goto ?_
            refine pz_G_of pz_b288_36 ?_
            refine w_ret rfl ?_
            first | exact lf_i (by first | rfl | omega) (by rfl) | (exfalso; omega)))
  · first
    | (exfalso; first | omega | contradiction)
    | (refine w_loc rfl ?_
       refine w_pure rfl ?_
       have hc7 : pz_R (pz_Sh L) 191 [.inr (.inl 154), .inl 1] (pz_u1 (pz_u1 iv 154 (iv 154)) 157 (q_dd (iv 155) (iv 161) (iv 157))) (.inl (some (.inl 0))) (pz_u1 (pz_u1 iv 154 (pz_up (iv 154) 0 1)) 157 (q_dd (iv 155) (iv 161) (iv 157))) := pz_R_mem (s_X11_fails 1) (by rw [pz_u1_in (r := 154) (q := 157) (by decide)]; rw [pz_u1_top (r := 154)]; rfl)
       refine w_call hc7 rfl (pz_cokI is_154 rfl) ?_
       refine w_ret rfl ?_
       first | exact lf_i (by first | rfl | omega) (by rfl) | (exfalso; omega))

theorem s_X11_peak_2 {L : Nat} {iv : Nat → Nat → Int} (hk : q_KR (iv 155)) (hcase0 : q_con (iv 155) (iv 161)) (hcase1 : q_pk (iv 155) (q_dd (iv 155) (iv 161) (iv 157)) = -1) : pz_R (pz_Sh L) 288 [.inr (.inl 154)] iv (.inl (some (.inl 0))) (pz_u1 (pz_u1 iv 154 (pz_up (iv 154) 0 2)) 157 (q_dd (iv 155) (iv 161) (iv 157))) := by
  intro dv cc ss
  have hk0 := hk.r0
  refine pz_G_mem (iv2 := pz_u1 (pz_u1 iv 154 (iv 154)) 157 (iv 157)) (by exact ((pz_u1_self iv 154).symm).trans (pz_u1_self (pz_u1 iv 154 (iv 154)) 157).symm) ?_
  show pz_G 288 0 [some (.inr (.inl 154)), none] [] (pz_Sh L, pz_u1 (pz_u1 iv 154 (iv 154)) 157 (iv 157), dv, cc, ss) (pz_P (pz_Sh L) (.inl (some (.inl 0))) (pz_u1 (pz_u1 iv 154 (pz_up (iv 154) 0 2)) 157 (q_dd (iv 155) (iv 161) (iv 157))) dv cc ss)
  refine pz_G_of pz_b288_0 ?_
  refine w_loc rfl ?_
  have hc1 : pz_R (pz_Sh L) 227 [.inr (.inl 154)] (pz_u1 (pz_u1 iv 154 (iv 154)) 157 (iv 157)) (.inl (some (.inl (pz_bi (q_con (iv 155) (iv 161)))))) (pz_u1 (pz_u1 iv 154 (iv 154)) 157 (q_dd (iv 155) (iv 161) (iv 157))) := pz_R_mem (s_X11_isConsistentNow (by show q_KR (iv 155); exact hk)) (by rw [pz_u1_top (r := 157)]; rfl)
  refine w_call hc1 rfl (pz_cokI is_154 rfl) ?_
  refine w_bne (fun h2 => ?_) (fun h2 => ?_)
  · first
    | (exfalso; first | omega | contradiction)
    | (refine pz_G_of pz_b288_13 ?_
       refine w_loc rfl ?_
       have hc3 : pz_R (pz_Sh L) 286 [.inr (.inl 154)] (pz_u1 (pz_u1 iv 154 (iv 154)) 157 (q_dd (iv 155) (iv 161) (iv 157))) (.inl (some (.inl (q_pk (iv 155) (q_dd (iv 155) (iv 161) (iv 157)))))) (pz_u1 (pz_u1 iv 154 (iv 154)) 157 (q_dd (iv 155) (iv 161) (iv 157))) := s_X11_peakOf (by show q_KR (iv 155); exact hk) (by show q_dl (q_dd (iv 155) (iv 161) (iv 157)); first | exact hd | exact q_dd_l hk (by assumption))
       refine w_call hc3 rfl (pz_cokI is_154 rfl) ?_
       refine w_loc (ls' := [some (.inr (.inl 154)), some (.inl (q_pk (iv 155) (q_dd (iv 155) (iv 161) (iv 157))))]) (st' := []) rfl ?_
       refine w_loc rfl ?_
       refine w_pure rfl ?_
       refine w_ine (fun h4 => ?_) (fun h4 => ?_)
       · first
         | (exfalso; first | omega | contradiction)
         | (refine pz_G_of pz_b288_31 ?_
            refine w_loc rfl ?_
            refine w_loc rfl ?_
            have hc5 : pz_R (pz_Sh L) 192 [.inr (.inl 154), .inl (q_pk (iv 155) (q_dd (iv 155) (iv 161) (iv 157)))] (pz_u1 (pz_u1 iv 154 (iv 154)) 157 (q_dd (iv 155) (iv 161) (iv 157))) (.inl (some (.inl (q_pk (iv 155) (q_dd (iv 155) (iv 161) (iv 157)))))) (pz_u1 (pz_u1 iv 154 (pz_up (iv 154) 0 0)) 157 (q_dd (iv 155) (iv 161) (iv 157))) := pz_R_mem (s_X11_tells (q_pk (iv 155) (q_dd (iv 155) (iv 161) (iv 157)))) (by rw [pz_u1_in (r := 154) (q := 157) (by decide)]; rw [pz_u1_top (r := 154)]; rfl)
            refine w_call hc5 rfl (pz_cokI is_154 rfl) ?_
            refine w_nil ?_
            refine pz_G_of pz_b288_36 ?_
            refine w_ret rfl ?_
            first | exact lf_i (by first | rfl | omega) (by rfl) | (exfalso; omega))
       · first
         | (exfalso; first | omega | contradiction)
         | (refine w_loc rfl ?_
            refine w_pure rfl ?_
            have hc6 : pz_R (pz_Sh L) 191 [.inr (.inl 154), .inl 2] (pz_u1 (pz_u1 iv 154 (iv 154)) 157 (q_dd (iv 155) (iv 161) (iv 157))) (.inl (some (.inl 0))) (pz_u1 (pz_u1 iv 154 (pz_up (iv 154) 0 2)) 157 (q_dd (iv 155) (iv 161) (iv 157))) := pz_R_mem (s_X11_fails 2) (by rw [pz_u1_in (r := 154) (q := 157) (by decide)]; rw [pz_u1_top (r := 154)]; rfl)
            refine w_call hc6 rfl (pz_cokI is_154 rfl) ?_
            refine w_goto ?_
            refine pz_G_of pz_b288_36 ?_
            refine w_ret rfl ?_
            first | exact lf_i (by first | rfl | omega) (by rfl) | (exfalso; omega)))
  · first
    | (exfalso; first | omega | contradiction)
    | (refine w_loc rfl ?_
       refine w_pure rfl ?_
       have hc7 : pz_R (pz_Sh L) 191 [.inr (.inl 154), .inl 1] (pz_u1 (pz_u1 iv 154 (iv 154)) 157 (q_dd (iv 155) (iv 161) (iv 157))) (.inl (some (.inl 0))) (pz_u1 (pz_u1 iv 154 (pz_up (iv 154) 0 1)) 157 (q_dd (iv 155) (iv 161) (iv 157))) := pz_R_mem (s_X11_fails 1) (by rw [pz_u1_in (r := 154) (q := 157) (by decide)]; rw [pz_u1_top (r := 154)]; rfl)
       refine w_call hc7 rfl (pz_cokI is_154 rfl) ?_
       refine w_ret rfl ?_
       first | exact lf_i (by first | rfl | omega) (by rfl) | (exfalso; omega))

theorem s_X11_peak_0 {L : Nat} {iv : Nat → Nat → Int} (hk : q_KR (iv 155)) (hcase0 : q_con (iv 155) (iv 161)) (hcase1 : q_pk (iv 155) (q_dd (iv 155) (iv 161) (iv 157)) ≠ -1) : pz_R (pz_Sh L) 288 [.inr (.inl 154)] iv (.inl (some (.inl (q_pk (iv 155) (q_dd (iv 155) (iv 161) (iv 157)))))) (pz_u1 (pz_u1 iv 154 (pz_up (iv 154) 0 0)) 157 (q_dd (iv 155) (iv 161) (iv 157))) := by
  intro dv cc ss
  have hk0 := hk.r0
  refine pz_G_mem (iv2 := pz_u1 (pz_u1 iv 154 (iv 154)) 157 (iv 157)) (by exact ((pz_u1_self iv 154).symm).trans (pz_u1_self (pz_u1 iv 154 (iv 154)) 157).symm) ?_
  show pz_G 288 0 [some (.inr (.inl 154)), none] [] (pz_Sh L, pz_u1 (pz_u1 iv 154 (iv 154)) 157 (iv 157), dv, cc, ss) (pz_P (pz_Sh L) (.inl (some (.inl (q_pk (iv 155) (q_dd (iv 155) (iv 161) (iv 157)))))) (pz_u1 (pz_u1 iv 154 (pz_up (iv 154) 0 0)) 157 (q_dd (iv 155) (iv 161) (iv 157))) dv cc ss)
  refine pz_G_of pz_b288_0 ?_
  refine w_loc rfl ?_
  have hc1 : pz_R (pz_Sh L) 227 [.inr (.inl 154)] (pz_u1 (pz_u1 iv 154 (iv 154)) 157 (iv 157)) (.inl (some (.inl (pz_bi (q_con (iv 155) (iv 161)))))) (pz_u1 (pz_u1 iv 154 (iv 154)) 157 (q_dd (iv 155) (iv 161) (iv 157))) := pz_R_mem (s_X11_isConsistentNow (by show q_KR (iv 155); exact hk)) (by rw [pz_u1_top (r := 157)]; rfl)
  refine w_call hc1 rfl (pz_cokI is_154 rfl) ?_
  refine w_bne (fun h2 => ?_) (fun h2 => ?_)
  · first
    | (exfalso; first | omega | contradiction)
    | (refine pz_G_of pz_b288_13 ?_
       refine w_loc rfl ?_
       have hc3 : pz_R (pz_Sh L) 286 [.inr (.inl 154)] (pz_u1 (pz_u1 iv 154 (iv 154)) 157 (q_dd (iv 155) (iv 161) (iv 157))) (.inl (some (.inl (q_pk (iv 155) (q_dd (iv 155) (iv 161) (iv 157)))))) (pz_u1 (pz_u1 iv 154 (iv 154)) 157 (q_dd (iv 155) (iv 161) (iv 157))) := s_X11_peakOf (by show q_KR (iv 155); exact hk) (by show q_dl (q_dd (iv 155) (iv 161) (iv 157)); first | exact hd | exact q_dd_l hk (by assumption))
       refine w_call hc3 rfl (pz_cokI is_154 rfl) ?_
       refine w_loc (ls' := [some (.inr (.inl 154)), some (.inl (q_pk (iv 155) (q_dd (iv 155) (iv 161) (iv 157))))]) (st' := []) rfl ?_
       refine w_loc rfl ?_
       refine w_pure rfl ?_
       refine w_ine (fun h4 => ?_) (fun h4 => ?_)
       · first
         | (exfalso; first | omega | contradiction)
         | (refine pz_G_of pz_b288_31 ?_
            refine w_loc rfl ?_
            refine w_loc rfl ?_
            have hc5 : pz_R (pz_Sh L) 192 [.inr (.inl 154), .inl (q_pk (iv 155) (q_dd (iv 155) (iv 161) (iv 157)))] (pz_u1 (pz_u1 iv 154 (iv 154)) 157 (q_dd (iv 155) (iv 161) (iv 157))) (.inl (some (.inl (q_pk (iv 155) (q_dd (iv 155) (iv 161) (iv 157)))))) (pz_u1 (pz_u1 iv 154 (pz_up (iv 154) 0 0)) 157 (q_dd (iv 155) (iv 161) (iv 157))) := pz_R_mem (s_X11_tells (q_pk (iv 155) (q_dd (iv 155) (iv 161) (iv 157)))) (by rw [pz_u1_in (r := 154) (q := 157) (by decide)]; rw [pz_u1_top (r := 154)]; rfl)
            refine w_call hc5 rfl (pz_cokI is_154 rfl) ?_
            refine w_nil ?_
            refine pz_G_of pz_b288_36 ?_
            refine w_ret rfl ?_
            first | exact lf_i (by first | rfl | omega) (by rfl) | (exfalso; omega))
       · first
         | (exfalso; first | omega | contradiction)
         | (refine w_loc rfl ?_
            refine w_pure rfl ?_
            have hc6 : pz_R (pz_Sh L) 191 [.inr (.inl 154), .inl 2] (pz_u1 (pz_u1 iv 154 (iv 154)) 157 (q_dd (iv 155) (iv 161) (iv 157))) (.inl (some (.inl 0))) (pz_u1 (pz_u1 iv 154 (pz_up (iv 154) 0 2)) 157 (q_dd (iv 155) (iv 161) (iv 157))) := pz_R_mem (s_X11_fails 2) (by rw [pz_u1_in (r := 154) (q := 157) (by decide)]; rw [pz_u1_top (r := 154)]; rfl)
            refine w_call hc6 rfl (pz_cokI is_154 rfl) ?_
            refine w_goto ?_
            refine pz_G_of pz_b288_36 ?_
            refine w_ret rfl ?_
            first | exact lf_i (by first | rfl | omega) (by rfl) | (exfalso; omega)))
  · first
    | (exfalso; first | omega | contradiction)
    | (refine w_loc rfl ?_
       refine w_pure rfl ?_
       have hc7 : pz_R (pz_Sh L) 191 [.inr (.inl 154), .inl 1] (pz_u1 (pz_u1 iv 154 (iv 154)) 157 (q_dd (iv 155) (iv 161) (iv 157))) (.inl (some (.inl 0))) (pz_u1 (pz_u1 iv 154 (pz_up (iv 154) 0 1)) 157 (q_dd (iv 155) (iv 161) (iv 157))) := pz_R_mem (s_X11_fails 1) (by rw [pz_u1_in (r := 154) (q := 157) (by decide)]; rw [pz_u1_top (r := 154)]; rfl)
       refine w_call hc7 rfl (pz_cokI is_154 rfl) ?_
       refine w_ret rfl ?_
       first | exact lf_i (by first | rfl | omega) (by rfl) | (exfalso; omega))

theorem s_X11_slackOf {L : Nat} {iv : Nat → Nat → Int} (x : Int) (y : Int) (hk : q_KR (iv 155)) (hx : 0 ≤ x ∧ x < (iv 155) 3) (hy : 0 ≤ y ∧ y < (iv 155) 3) : pz_R (pz_Sh L) 290 [.inr (.inl 154), .inl x, .inl y] iv (.inl (some (.inl (q_sl (iv 155) (iv 157) x y)))) iv := by
  intro dv cc ss
  have hk0 := hk.r0
  have hax := hk.ac hx.1 hx.2
  have hay := hk.ac hy.1 hy.2
  show pz_G 290 0 [some (.inr (.inl 154)), some (.inl x), some (.inl y), none] [] (pz_Sh L, iv, dv, cc, ss) (pz_P (pz_Sh L) (.inl (some (.inl (q_sl (iv 155) (iv 157) x y)))) iv dv cc ss)
  refine pz_G_of pz_b290_0 ?_
  refine w_loc rfl ?_
  refine w_getR (q := 157) is_154 rf_154_4 ?_
  refine w_pure rfl ?_
  refine w_loc rfl ?_
  refine w_getR (q := 155) is_154 rf_154_1 ?_
  refine w_pure rfl ?_
  refine w_pure rfl ?_
  refine w_loc rfl ?_
  refine w_imul (by omega) ?_
  refine w_iadd (by omega) ?_
  refine w_pure rfl ?_
  refine w_iadd (by omega) ?_
  refine w_iald (v := (iv 155) ((224 + (3 * x)) + 1).toNat) is_155 ln_155 ⟨by omega, by omega⟩ rfl ?_
  refine w_imul (by omega) ?_
  refine w_loc rfl ?_
  refine w_getR (q := 155) is_154 rf_154_1 ?_
  refine w_pure rfl ?_
  refine w_pure rfl ?_
  refine w_loc rfl ?_
  refine w_imul (by omega) ?_
  refine w_iadd (by omega) ?_
  refine w_iald (v := (iv 155) (224 + (3 * y)).toNat) is_155 ln_155 ⟨by omega, by omega⟩ rfl ?_
  refine w_iadd (by omega) ?_
  refine w_iald (v := (iv 157) ((10 * ((iv 155) ((224 + (3 * x)) + 1).toNat)) + ((iv 155) (224 + (3 * y)).toNat)).toNat) is_157 ln_157 ⟨by omega, by omega⟩ rfl ?_
  refine w_loc (ls' := [some (.inr (.inl 154)), some (.inl x), some (.inl y), some (.inl ((iv 157) ((10 * ((iv 155) ((224 + (3 * x)) + 1).toNat)) + ((iv 155) (224 + (3 * y)).toNat)).toNat))]) (st' := []) rfl ?_
  refine w_loc rfl ?_
  refine w_ldcv (v := 1000000) rfl ?_
  refine w_ine (fun h1 => ?_) (fun h1 => ?_)
  · refine pz_G_of pz_b290_48 ?_
    refine w_loc rfl ?_
    refine w_nil ?_
    refine pz_G_of pz_b290_49 ?_
    refine w_ret rfl ?_
    exact lf_i (by unfold q_sl; split <;> first | rfl | omega) rfl
  · refine w_pure rfl ?_
    refine w_goto ?_
    refine pz_G_of pz_b290_49 ?_
    refine w_ret rfl ?_
    exact lf_i (by unfold q_sl; split <;> first | rfl | omega) rfl

theorem s_X11_slack_1 {L : Nat} {iv : Nat → Nat → Int} (x : Int) (y : Int) (hk : q_KR (iv 155)) (hcase0 : ¬ (0 ≤ x ∧ x ≤ iv 155 3 - 1 ∧ 0 ≤ y ∧ y ≤ iv 155 3 - 1)) : pz_R (pz_Sh L) 291 [.inr (.inl 154), .inl x, .inl y] iv (.inl (some (.inl 0))) (pz_u1 (pz_u1 iv 154 (pz_up (iv 154) 0 1)) 157 (iv 157)) := by
  intro dv cc ss
  have hk0 := hk.r0
  refine pz_G_mem (iv2 := pz_u1 (pz_u1 iv 154 (iv 154)) 157 (iv 157)) (by exact ((pz_u1_self iv 154).symm).trans (pz_u1_self (pz_u1 iv 154 (iv 154)) 157).symm) ?_
  show pz_G 291 0 [some (.inr (.inl 154)), some (.inl x), some (.inl y)] [] (pz_Sh L, pz_u1 (pz_u1 iv 154 (iv 154)) 157 (iv 157), dv, cc, ss) (pz_P (pz_Sh L) (.inl (some (.inl 0))) (pz_u1 (pz_u1 iv 154 (pz_up (iv 154) 0 1)) 157 (iv 157)) dv cc ss)
  refine pz_G_of pz_b291_0 ?_
  refine w_loc rfl ?_
  refine w_loc rfl ?_
  have hc1 : pz_R (pz_Sh L) 278 [.inr (.inl 154), .inl x] (pz_u1 (pz_u1 iv 154 (iv 154)) 157 (iv 157)) (.inl (some (.inl (pz_bi (0 ≤ x ∧ x ≤ (iv 155) 3 - 1))))) (pz_u1 (pz_u1 iv 154 (iv 154)) 157 (iv 157)) := s_X11_isActivity x (by show q_KR (iv 155); exact hk)
  refine w_call hc1 rfl (pz_cokI is_154 rfl) ?_
  refine w_beq (fun h2 => ?_) (fun h2 => ?_)
  · first
    | (exfalso; first | omega | contradiction)
    | (refine pz_G_of pz_b291_16 ?_
       refine w_loc rfl ?_
       refine w_pure rfl ?_
       have hc3 : pz_R (pz_Sh L) 191 [.inr (.inl 154), .inl 1] (pz_u1 (pz_u1 iv 154 (iv 154)) 157 (iv 157)) (.inl (some (.inl 0))) (pz_u1 (pz_u1 iv 154 (pz_up (iv 154) 0 1)) 157 (iv 157)) := pz_R_mem (s_X11_fails 1) (by rw [pz_u1_in (r := 154) (q := 157) (by decide)]; rw [pz_u1_top (r := 154)]; rfl)
       refine w_call hc3 rfl (pz_cokI is_154 rfl) ?_
       refine w_ret rfl ?_
       first | exact lf_i (by first | rfl | omega) (by rfl) | (exfalso; omega))
  · first
    | (exfalso; first | omega | contradiction)
    | (refine w_loc rfl ?_
       refine w_loc rfl ?_
       have hc4 : pz_R (pz_Sh L) 278 [.inr (.inl 154), .inl y] (pz_u1 (pz_u1 iv 154 (iv 154)) 157 (iv 157)) (.inl (some (.inl (pz_bi (0 ≤ y ∧ y ≤ (iv 155) 3 - 1))))) (pz_u1 (pz_u1 iv 154 (iv 154)) 157 (iv 157)) := s_X11_isActivity y (by show q_KR (iv 155); exact hk)
       refine w_call hc4 rfl (pz_cokI is_154 rfl) ?_
       refine w_bne (fun h5 => ?_) (fun h5 => ?_)
       · first
         | (exfalso; first | omega | contradiction)
         | (refine pz_G_of pz_b291_22 ?_
            refine w_loc rfl ?_
            refine w_loc rfl ?_
            refine w_ine (fun h6 => ?_) (fun h6 => ?_)
            · first
              | (exfalso; first | omega | contradiction)
              | (refine pz_G_of pz_b291_33 ?_
                 refine w_loc rfl ?_
                 have hc7 : pz_R (pz_Sh L) 227 [.inr (.inl 154)] (pz_u1 (pz_u1 iv 154 (iv 154)) 157 (iv 157)) (.inl (some (.inl (pz_bi (q_con (iv 155) (iv 161)))))) (pz_u1 (pz_u1 iv 154 (iv 154)) 157 (q_dd (iv 155) (iv 161) (iv 157))) := pz_R_mem (s_X11_isConsistentNow (by show q_KR (iv 155); exact hk)) (by rw [pz_u1_top (r := 157)]; rfl)
                 refine w_call hc7 rfl (pz_cokI is_154 rfl) ?_
                 refine w_beq (fun h8 => ?_) (fun h8 => ?_)
                 · first
                   | (exfalso; first | omega | contradiction)
                   | (refine pz_G_of pz_b291_53 ?_
                      refine w_loc rfl ?_
                      refine w_pure rfl ?_
                      have hc9 : pz_R (pz_Sh L) 191 [.inr (.inl 154), .inl 3] (pz_u1 (pz_u1 iv 154 (iv 154)) 157 (q_dd (iv 155) (iv 161) (iv 157))) (.inl (some (.inl 0))) (pz_u1 (pz_u1 iv 154 (pz_up (iv 154) 0 3)) 157 (q_dd (iv 155) (iv 161) (iv 157))) := pz_R_mem (s_X11_fails 3) (by rw [pz_u1_in (r := 154) (q := 157) (by decide)]; rw [pz_u1_top (r := 154)]; rfl)
                      refine w_call hc9 rfl (pz_cokI is_154 rfl) ?_
                      refine w_nil ?_
                      refine pz_G_of pz_b291_58 ?_
                      refine w_ret rfl ?_
                      first | exact lf_i (by first | rfl | omega) (by rfl) | (exfalso; omega))
                 · first
                   | (exfalso; first | omega | contradiction)
                   | (refine w_loc rfl ?_
                      refine w_loc rfl ?_
                      refine w_loc rfl ?_
                      refine w_loc rfl ?_
                      have hc10 : pz_R (pz_Sh L) 290 [.inr (.inl 154), .inl x, .inl y] (pz_u1 (pz_u1 iv 154 (iv 154)) 157 (q_dd (iv 155) (iv 161) (iv 157))) (.inl (some (.inl (q_sl (iv 155) (q_dd (iv 155) (iv 161) (iv 157)) x y)))) (pz_u1 (pz_u1 iv 154 (iv 154)) 157 (q_dd (iv 155) (iv 161) (iv 157))) := s_X11_slackOf x y (by show q_KR (iv 155); exact hk) (by show 0 ≤ x ∧ x < (iv 155) 3; omega) (by show 0 ≤ y ∧ y < (iv 155) 3; omega)
                      refine w_call hc10 rfl (pz_cokI is_154 rfl) ?_
                      have hc11 : pz_R (pz_Sh L) 192 [.inr (.inl 154), .inl (q_sl (iv 155) (q_dd (iv 155) (iv 161) (iv 157)) x y)] (pz_u1 (pz_u1 iv 154 (iv 154)) 157 (q_dd (iv 155) (iv 161) (iv 157))) (.inl (some (.inl (q_sl (iv 155) (q_dd (iv 155) (iv 161) (iv 157)) x y)))) (pz_u1 (pz_u1 iv 154 (pz_up (iv 154) 0 0)) 157 (q_dd (iv 155) (iv 161) (iv 157))) := pz_R_mem (s_X11_tells (q_sl (iv 155) (q_dd (iv 155) (iv 161) (iv 157)) x y)) (by rw [pz_u1_in (r := 154) (q := 157) (by decide)]; rw [pz_u1_top (r := 154)]; rfl)
                      refine w_call hc11 rfl (pz_cokI is_154 rfl) ?_
                      refine w_goto ?_
                      refine pz_G_of pz_b291_58 ?_
                      refine w_ret rfl ?_
                      first | exact lf_i (by first | rfl | omega) (by rfl) | (exfalso; omega)))
            · first
              | (exfalso; first | omega | contradiction)
              | (refine w_loc rfl ?_
                 refine w_pure rfl ?_
                 have hc12 : pz_R (pz_Sh L) 191 [.inr (.inl 154), .inl 2] (pz_u1 (pz_u1 iv 154 (iv 154)) 157 (iv 157)) (.inl (some (.inl 0))) (pz_u1 (pz_u1 iv 154 (pz_up (iv 154) 0 2)) 157 (iv 157)) := pz_R_mem (s_X11_fails 2) (by rw [pz_u1_in (r := 154) (q := 157) (by decide)]; rw [pz_u1_top (r := 154)]; rfl)
                 refine w_call hc12 rfl (pz_cokI is_154 rfl) ?_
                 refine w_ret rfl ?_
                 first | exact lf_i (by first | rfl | omega) (by rfl) | (exfalso; omega)))
       · first
         | (exfalso; first | omega | contradiction)
         | (refine w_nil ?_
            refine pz_G_of pz_b291_16 ?_
            refine w_loc rfl ?_
            refine w_pure rfl ?_
            have hc13 : pz_R (pz_Sh L) 191 [.inr (.inl 154), .inl 1] (pz_u1 (pz_u1 iv 154 (iv 154)) 157 (iv 157)) (.inl (some (.inl 0))) (pz_u1 (pz_u1 iv 154 (pz_up (iv 154) 0 1)) 157 (iv 157)) := pz_R_mem (s_X11_fails 1) (by rw [pz_u1_in (r := 154) (q := 157) (by decide)]; rw [pz_u1_top (r := 154)]; rfl)
            refine w_call hc13 rfl (pz_cokI is_154 rfl) ?_
            refine w_ret rfl ?_
            first | exact lf_i (by first | rfl | omega) (by rfl) | (exfalso; omega)))

theorem s_X11_slack_2 {L : Nat} {iv : Nat → Nat → Int} (x : Int) (y : Int) (hk : q_KR (iv 155)) (hcase0 : 0 ≤ x ∧ x ≤ iv 155 3 - 1 ∧ 0 ≤ y ∧ y ≤ iv 155 3 - 1) (hcase1 : x = y) : pz_R (pz_Sh L) 291 [.inr (.inl 154), .inl x, .inl y] iv (.inl (some (.inl 0))) (pz_u1 (pz_u1 iv 154 (pz_up (iv 154) 0 2)) 157 (iv 157)) := by
  intro dv cc ss
  have hk0 := hk.r0
  refine pz_G_mem (iv2 := pz_u1 (pz_u1 iv 154 (iv 154)) 157 (iv 157)) (by exact ((pz_u1_self iv 154).symm).trans (pz_u1_self (pz_u1 iv 154 (iv 154)) 157).symm) ?_
  show pz_G 291 0 [some (.inr (.inl 154)), some (.inl x), some (.inl y)] [] (pz_Sh L, pz_u1 (pz_u1 iv 154 (iv 154)) 157 (iv 157), dv, cc, ss) (pz_P (pz_Sh L) (.inl (some (.inl 0))) (pz_u1 (pz_u1 iv 154 (pz_up (iv 154) 0 2)) 157 (iv 157)) dv cc ss)
  refine pz_G_of pz_b291_0 ?_
  refine w_loc rfl ?_
  refine w_loc rfl ?_
  have hc1 : pz_R (pz_Sh L) 278 [.inr (.inl 154), .inl x] (pz_u1 (pz_u1 iv 154 (iv 154)) 157 (iv 157)) (.inl (some (.inl (pz_bi (0 ≤ x ∧ x ≤ (iv 155) 3 - 1))))) (pz_u1 (pz_u1 iv 154 (iv 154)) 157 (iv 157)) := s_X11_isActivity x (by show q_KR (iv 155); exact hk)
  refine w_call hc1 rfl (pz_cokI is_154 rfl) ?_
  refine w_beq (fun h2 => ?_) (fun h2 => ?_)
  · first
    | (exfalso; first | omega | contradiction)
    | (refine pz_G_of pz_b291_16 ?_
       refine w_loc rfl ?_
       refine w_pure rfl ?_
       have hc3 : pz_R (pz_Sh L) 191 [.inr (.inl 154), .inl 1] (pz_u1 (pz_u1 iv 154 (iv 154)) 157 (iv 157)) (.inl (some (.inl 0))) (pz_u1 (pz_u1 iv 154 (pz_up (iv 154) 0 1)) 157 (iv 157)) := pz_R_mem (s_X11_fails 1) (by rw [pz_u1_in (r := 154) (q := 157) (by decide)]; rw [pz_u1_top (r := 154)]; rfl)
       refine w_call hc3 rfl (pz_cokI is_154 rfl) ?_
       refine w_ret rfl ?_
       first | exact lf_i (by first | rfl | omega) (by rfl) | (exfalso; omega))
  · first
    | (exfalso; first | omega | contradiction)
    | (refine w_loc rfl ?_
       refine w_loc rfl ?_
       have hc4 : pz_R (pz_Sh L) 278 [.inr (.inl 154), .inl y] (pz_u1 (pz_u1 iv 154 (iv 154)) 157 (iv 157)) (.inl (some (.inl (pz_bi (0 ≤ y ∧ y ≤ (iv 155) 3 - 1))))) (pz_u1 (pz_u1 iv 154 (iv 154)) 157 (iv 157)) := s_X11_isActivity y (by show q_KR (iv 155); exact hk)
       refine w_call hc4 rfl (pz_cokI is_154 rfl) ?_
       refine w_bne (fun h5 => ?_) (fun h5 => ?_)
       · first
         | (exfalso; first | omega | contradiction)
         | (refine pz_G_of pz_b291_22 ?_
            refine w_loc rfl ?_
            refine w_loc rfl ?_
            refine w_ine (fun h6 => ?_) (fun h6 => ?_)
            · first
              | (exfalso; first | omega | contradiction)
              | (refine pz_G_of pz_b291_33 ?_
                 refine w_loc rfl ?_
                 have hc7 : pz_R (pz_Sh L) 227 [.inr (.inl 154)] (pz_u1 (pz_u1 iv 154 (iv 154)) 157 (iv 157)) (.inl (some (.inl (pz_bi (q_con (iv 155) (iv 161)))))) (pz_u1 (pz_u1 iv 154 (iv 154)) 157 (q_dd (iv 155) (iv 161) (iv 157))) := pz_R_mem (s_X11_isConsistentNow (by show q_KR (iv 155); exact hk)) (by rw [pz_u1_top (r := 157)]; rfl)
                 refine w_call hc7 rfl (pz_cokI is_154 rfl) ?_
                 refine w_beq (fun h8 => ?_) (fun h8 => ?_)
                 · first
                   | (exfalso; first | omega | contradiction)
                   | (refine pz_G_of pz_b291_53 ?_
                      refine w_loc rfl ?_
                      refine w_pure rfl ?_
                      have hc9 : pz_R (pz_Sh L) 191 [.inr (.inl 154), .inl 3] (pz_u1 (pz_u1 iv 154 (iv 154)) 157 (q_dd (iv 155) (iv 161) (iv 157))) (.inl (some (.inl 0))) (pz_u1 (pz_u1 iv 154 (pz_up (iv 154) 0 3)) 157 (q_dd (iv 155) (iv 161) (iv 157))) := pz_R_mem (s_X11_fails 3) (by rw [pz_u1_in (r := 154) (q := 157) (by decide)]; rw [pz_u1_top (r := 154)]; rfl)
                      refine w_call hc9 rfl (pz_cokI is_154 rfl) ?_
                      refine w_nil ?_
                      refine pz_G_of pz_b291_58 ?_
                      refine w_ret rfl ?_
                      first | exact lf_i (by first | rfl | omega) (by rfl) | (exfalso; omega))
                 · first
                   | (exfalso; first | omega | contradiction)
                   | (refine w_loc rfl ?_
                      refine w_loc rfl ?_
                      refine w_loc rfl ?_
                      refine w_loc rfl ?_
                      have hc10 : pz_R (pz_Sh L) 290 [.inr (.inl 154), .inl x, .inl y] (pz_u1 (pz_u1 iv 154 (iv 154)) 157 (q_dd (iv 155) (iv 161) (iv 157))) (.inl (some (.inl (q_sl (iv 155) (q_dd (iv 155) (iv 161) (iv 157)) x y)))) (pz_u1 (pz_u1 iv 154 (iv 154)) 157 (q_dd (iv 155) (iv 161) (iv 157))) := s_X11_slackOf x y (by show q_KR (iv 155); exact hk) (by show 0 ≤ x ∧ x < (iv 155) 3; omega) (by show 0 ≤ y ∧ y < (iv 155) 3; omega)
                      refine w_call hc10 rfl (pz_cokI is_154 rfl) ?_
                      have hc11 : pz_R (pz_Sh L) 192 [.inr (.inl 154), .inl (q_sl (iv 155) (q_dd (iv 155) (iv 161) (iv 157)) x y)] (pz_u1 (pz_u1 iv 154 (iv 154)) 157 (q_dd (iv 155) (iv 161) (iv 157))) (.inl (some (.inl (q_sl (iv 155) (q_dd (iv 155) (iv 161) (iv 157)) x y)))) (pz_u1 (pz_u1 iv 154 (pz_up (iv 154) 0 0)) 157 (q_dd (iv 155) (iv 161) (iv 157))) := pz_R_mem (s_X11_tells (q_sl (iv 155) (q_dd (iv 155) (iv 161) (iv 157)) x y)) (by rw [pz_u1_in (r := 154) (q := 157) (by decide)]; rw [pz_u1_top (r := 154)]; rfl)
                      refine w_call hc11 rfl (pz_cokI is_154 rfl) ?_
                      refine w_goto ?_
                      refine pz_G_of pz_b291_58 ?_
                      refine w_ret rfl ?_
                      first | exact lf_i (by first | rfl | omega) (by rfl) | (exfalso; omega)))
            · first
              | (exfalso; first | omega | contradiction)
              | (refine w_loc rfl ?_
                 refine w_pure rfl ?_
                 have hc12 : pz_R (pz_Sh L) 191 [.inr (.inl 154), .inl 2] (pz_u1 (pz_u1 iv 154 (iv 154)) 157 (iv 157)) (.inl (some (.inl 0))) (pz_u1 (pz_u1 iv 154 (pz_up (iv 154) 0 2)) 157 (iv 157)) := pz_R_mem (s_X11_fails 2) (by rw [pz_u1_in (r := 154) (q := 157) (by decide)]; rw [pz_u1_top (r := 154)]; rfl)
                 refine w_call hc12 rfl (pz_cokI is_154 rfl) ?_
                 refine w_ret rfl ?_
                 first | exact lf_i (by first | rfl | omega) (by rfl) | (exfalso; omega)))
       · first
         | (exfalso; first | omega | contradiction)
         | (refine w_nil ?_
            refine pz_G_of pz_b291_16 ?_
            refine w_loc rfl ?_
            refine w_pure rfl ?_
            have hc13 : pz_R (pz_Sh L) 191 [.inr (.inl 154), .inl 1] (pz_u1 (pz_u1 iv 154 (iv 154)) 157 (iv 157)) (.inl (some (.inl 0))) (pz_u1 (pz_u1 iv 154 (pz_up (iv 154) 0 1)) 157 (iv 157)) := pz_R_mem (s_X11_fails 1) (by rw [pz_u1_in (r := 154) (q := 157) (by decide)]; rw [pz_u1_top (r := 154)]; rfl)
            refine w_call hc13 rfl (pz_cokI is_154 rfl) ?_
            refine w_ret rfl ?_
            first | exact lf_i (by first | rfl | omega) (by rfl) | (exfalso; omega)))

theorem s_X11_slack_3 {L : Nat} {iv : Nat → Nat → Int} (x : Int) (y : Int) (hk : q_KR (iv 155)) (hcase0 : 0 ≤ x ∧ x ≤ iv 155 3 - 1 ∧ 0 ≤ y ∧ y ≤ iv 155 3 - 1) (hcase1 : x ≠ y) (hcase2 : ¬ q_con (iv 155) (iv 161)) : pz_R (pz_Sh L) 291 [.inr (.inl 154), .inl x, .inl y] iv (.inl (some (.inl 0))) (pz_u1 (pz_u1 iv 154 (pz_up (iv 154) 0 3)) 157 (q_dd (iv 155) (iv 161) (iv 157))) := by
  intro dv cc ss
  have hk0 := hk.r0
  refine pz_G_mem (iv2 := pz_u1 (pz_u1 iv 154 (iv 154)) 157 (iv 157)) (by exact ((pz_u1_self iv 154).symm).trans (pz_u1_self (pz_u1 iv 154 (iv 154)) 157).symm) ?_
  show pz_G 291 0 [some (.inr (.inl 154)), some (.inl x), some (.inl y)] [] (pz_Sh L, pz_u1 (pz_u1 iv 154 (iv 154)) 157 (iv 157), dv, cc, ss) (pz_P (pz_Sh L) (.inl (some (.inl 0))) (pz_u1 (pz_u1 iv 154 (pz_up (iv 154) 0 3)) 157 (q_dd (iv 155) (iv 161) (iv 157))) dv cc ss)
  refine pz_G_of pz_b291_0 ?_
  refine w_loc rfl ?_
  refine w_loc rfl ?_
  have hc1 : pz_R (pz_Sh L) 278 [.inr (.inl 154), .inl x] (pz_u1 (pz_u1 iv 154 (iv 154)) 157 (iv 157)) (.inl (some (.inl (pz_bi (0 ≤ x ∧ x ≤ (iv 155) 3 - 1))))) (pz_u1 (pz_u1 iv 154 (iv 154)) 157 (iv 157)) := s_X11_isActivity x (by show q_KR (iv 155); exact hk)
  refine w_call hc1 rfl (pz_cokI is_154 rfl) ?_
  refine w_beq (fun h2 => ?_) (fun h2 => ?_)
  · first
    | (exfalso; first | omega | contradiction)
    | (refine pz_G_of pz_b291_16 ?_
       refine w_loc rfl ?_
       refine w_pure rfl ?_
       have hc3 : pz_R (pz_Sh L) 191 [.inr (.inl 154), .inl 1] (pz_u1 (pz_u1 iv 154 (iv 154)) 157 (iv 157)) (.inl (some (.inl 0))) (pz_u1 (pz_u1 iv 154 (pz_up (iv 154) 0 1)) 157 (iv 157)) := pz_R_mem (s_X11_fails 1) (by rw [pz_u1_in (r := 154) (q := 157) (by decide)]; rw [pz_u1_top (r := 154)]; rfl)
       refine w_call hc3 rfl (pz_cokI is_154 rfl) ?_
       refine w_ret rfl ?_
       first | exact lf_i (by first | rfl | omega) (by rfl) | (exfalso; omega))
  · first
    | (exfalso; first | omega | contradiction)
    | (refine w_loc rfl ?_
       refine w_loc rfl ?_
       have hc4 : pz_R (pz_Sh L) 278 [.inr (.inl 154), .inl y] (pz_u1 (pz_u1 iv 154 (iv 154)) 157 (iv 157)) (.inl (some (.inl (pz_bi (0 ≤ y ∧ y ≤ (iv 155) 3 - 1))))) (pz_u1 (pz_u1 iv 154 (iv 154)) 157 (iv 157)) := s_X11_isActivity y (by show q_KR (iv 155); exact hk)
       refine w_call hc4 rfl (pz_cokI is_154 rfl) ?_
       refine w_bne (fun h5 => ?_) (fun h5 => ?_)
       · first
         | (exfalso; first | omega | contradiction)
         | (refine pz_G_of pz_b291_22 ?_
            refine w_loc rfl ?_
            refine w_loc rfl ?_
            refine w_ine (fun h6 => ?_) (fun h6 => ?_)
            · first
              | (exfalso; first | omega | contradiction)
              | (refine pz_G_of pz_b291_33 ?_
                 refine w_loc rfl ?_
                 have hc7 : pz_R (pz_Sh L) 227 [.inr (.inl 154)] (pz_u1 (pz_u1 iv 154 (iv 154)) 157 (iv 157)) (.inl (some (.inl (pz_bi (q_con (iv 155) (iv 161)))))) (pz_u1 (pz_u1 iv 154 (iv 154)) 157 (q_dd (iv 155) (iv 161) (iv 157))) := pz_R_mem (s_X11_isConsistentNow (by show q_KR (iv 155); exact hk)) (by rw [pz_u1_top (r := 157)]; rfl)
                 refine w_call hc7 rfl (pz_cokI is_154 rfl) ?_
                 refine w_beq (fun h8 => ?_) (fun h8 => ?_)
                 · first
                   | (exfalso; first | omega | contradiction)
                   | (refine pz_G_of pz_b291_53 ?_
                      refine w_loc rfl ?_
                      refine w_pure rfl ?_
                      have hc9 : pz_R (pz_Sh L) 191 [.inr (.inl 154), .inl 3] (pz_u1 (pz_u1 iv 154 (iv 154)) 157 (q_dd (iv 155) (iv 161) (iv 157))) (.inl (some (.inl 0))) (pz_u1 (pz_u1 iv 154 (pz_up (iv 154) 0 3)) 157 (q_dd (iv 155) (iv 161) (iv 157))) := pz_R_mem (s_X11_fails 3) (by rw [pz_u1_in (r := 154) (q := 157) (by decide)]; rw [pz_u1_top (r := 154)]; rfl)
                      refine w_call hc9 rfl (pz_cokI is_154 rfl) ?_
                      refine w_nil ?_
                      refine pz_G_of pz_b291_58 ?_
                      refine w_ret rfl ?_
                      first | exact lf_i (by first | rfl | omega) (by rfl) | (exfalso; omega))
                 · first
                   | (exfalso; first | omega | contradiction)
                   | (refine w_loc rfl ?_
                      refine w_loc rfl ?_
                      refine w_loc rfl ?_
                      refine w_loc rfl ?_
                      have hc10 : pz_R (pz_Sh L) 290 [.inr (.inl 154), .inl x, .inl y] (pz_u1 (pz_u1 iv 154 (iv 154)) 157 (q_dd (iv 155) (iv 161) (iv 157))) (.inl (some (.inl (q_sl (iv 155) (q_dd (iv 155) (iv 161) (iv 157)) x y)))) (pz_u1 (pz_u1 iv 154 (iv 154)) 157 (q_dd (iv 155) (iv 161) (iv 157))) := s_X11_slackOf x y (by show q_KR (iv 155); exact hk) (by show 0 ≤ x ∧ x < (iv 155) 3; omega) (by show 0 ≤ y ∧ y < (iv 155) 3; omega)
                      refine w_call hc10 rfl (pz_cokI is_154 rfl) ?_
                      have hc11 : pz_R (pz_Sh L) 192 [.inr (.inl 154), .inl (q_sl (iv 155) (q_dd (iv 155) (iv 161) (iv 157)) x y)] (pz_u1 (pz_u1 iv 154 (iv 154)) 157 (q_dd (iv 155) (iv 161) (iv 157))) (.inl (some (.inl (q_sl (iv 155) (q_dd (iv 155) (iv 161) (iv 157)) x y)))) (pz_u1 (pz_u1 iv 154 (pz_up (iv 154) 0 0)) 157 (q_dd (iv 155) (iv 161) (iv 157))) := pz_R_mem (s_X11_tells (q_sl (iv 155) (q_dd (iv 155) (iv 161) (iv 157)) x y)) (by rw [pz_u1_in (r := 154) (q := 157) (by decide)]; rw [pz_u1_top (r := 154)]; rfl)
                      refine w_call hc11 rfl (pz_cokI is_154 rfl) ?_
                      refine w_goto ?_
                      refine pz_G_of pz_b291_58 ?_
                      refine w_ret rfl ?_
                      first | exact lf_i (by first | rfl | omega) (by rfl) | (exfalso; omega)))
            · first
              | (exfalso; first | omega | contradiction)
              | (refine w_loc rfl ?_
                 refine w_pure rfl ?_
                 have hc12 : pz_R (pz_Sh L) 191 [.inr (.inl 154), .inl 2] (pz_u1 (pz_u1 iv 154 (iv 154)) 157 (iv 157)) (.inl (some (.inl 0))) (pz_u1 (pz_u1 iv 154 (pz_up (iv 154) 0 2)) 157 (iv 157)) := pz_R_mem (s_X11_fails 2) (by rw [pz_u1_in (r := 154) (q := 157) (by decide)]; rw [pz_u1_top (r := 154)]; rfl)
                 refine w_call hc12 rfl (pz_cokI is_154 rfl) ?_
                 refine w_ret rfl ?_
                 first | exact lf_i (by first | rfl | omega) (by rfl) | (exfalso; omega)))
       · first
         | (exfalso; first | omega | contradiction)
         | (refine w_nil ?_
            refine pz_G_of pz_b291_16 ?_
            refine w_loc rfl ?_
            refine w_pure rfl ?_
            have hc13 : pz_R (pz_Sh L) 191 [.inr (.inl 154), .inl 1] (pz_u1 (pz_u1 iv 154 (iv 154)) 157 (iv 157)) (.inl (some (.inl 0))) (pz_u1 (pz_u1 iv 154 (pz_up (iv 154) 0 1)) 157 (iv 157)) := pz_R_mem (s_X11_fails 1) (by rw [pz_u1_in (r := 154) (q := 157) (by decide)]; rw [pz_u1_top (r := 154)]; rfl)
            refine w_call hc13 rfl (pz_cokI is_154 rfl) ?_
            refine w_ret rfl ?_
            first | exact lf_i (by first | rfl | omega) (by rfl) | (exfalso; omega)))

theorem s_X11_slack_0 {L : Nat} {iv : Nat → Nat → Int} (x : Int) (y : Int) (hk : q_KR (iv 155)) (hcase0 : 0 ≤ x ∧ x ≤ iv 155 3 - 1 ∧ 0 ≤ y ∧ y ≤ iv 155 3 - 1) (hcase1 : x ≠ y) (hcase2 : q_con (iv 155) (iv 161)) : pz_R (pz_Sh L) 291 [.inr (.inl 154), .inl x, .inl y] iv (.inl (some (.inl (q_sl (iv 155) (q_dd (iv 155) (iv 161) (iv 157)) x y)))) (pz_u1 (pz_u1 iv 154 (pz_up (iv 154) 0 0)) 157 (q_dd (iv 155) (iv 161) (iv 157))) := by
  intro dv cc ss
  have hk0 := hk.r0
  refine pz_G_mem (iv2 := pz_u1 (pz_u1 iv 154 (iv 154)) 157 (iv 157)) (by exact ((pz_u1_self iv 154).symm).trans (pz_u1_self (pz_u1 iv 154 (iv 154)) 157).symm) ?_
  show pz_G 291 0 [some (.inr (.inl 154)), some (.inl x), some (.inl y)] [] (pz_Sh L, pz_u1 (pz_u1 iv 154 (iv 154)) 157 (iv 157), dv, cc, ss) (pz_P (pz_Sh L) (.inl (some (.inl (q_sl (iv 155) (q_dd (iv 155) (iv 161) (iv 157)) x y)))) (pz_u1 (pz_u1 iv 154 (pz_up (iv 154) 0 0)) 157 (q_dd (iv 155) (iv 161) (iv 157))) dv cc ss)
  refine pz_G_of pz_b291_0 ?_
  refine w_loc rfl ?_
  refine w_loc rfl ?_
  have hc1 : pz_R (pz_Sh L) 278 [.inr (.inl 154), .inl x] (pz_u1 (pz_u1 iv 154 (iv 154)) 157 (iv 157)) (.inl (some (.inl (pz_bi (0 ≤ x ∧ x ≤ (iv 155) 3 - 1))))) (pz_u1 (pz_u1 iv 154 (iv 154)) 157 (iv 157)) := s_X11_isActivity x (by show q_KR (iv 155); exact hk)
  refine w_call hc1 rfl (pz_cokI is_154 rfl) ?_
  refine w_beq (fun h2 => ?_) (fun h2 => ?_)
  · first
    | (exfalso; first | omega | contradiction)
    | (refine pz_G_of pz_b291_16 ?_
       refine w_loc rfl ?_
       refine w_pure rfl ?_
       have hc3 : pz_R (pz_Sh L) 191 [.inr (.inl 154), .inl 1] (pz_u1 (pz_u1 iv 154 (iv 154)) 157 (iv 157)) (.inl (some (.inl 0))) (pz_u1 (pz_u1 iv 154 (pz_up (iv 154) 0 1)) 157 (iv 157)) := pz_R_mem (s_X11_fails 1) (by rw [pz_u1_in (r := 154) (q := 157) (by decide)]; rw [pz_u1_top (r := 154)]; rfl)
       refine w_call hc3 rfl (pz_cokI is_154 rfl) ?_
       refine w_ret rfl ?_
       first | exact lf_i (by first | rfl | omega) (by rfl) | (exfalso; omega))
  · first
    | (exfalso; first | omega | contradiction)
    | (refine w_loc rfl ?_
       refine w_loc rfl ?_
       have hc4 : pz_R (pz_Sh L) 278 [.inr (.inl 154), .inl y] (pz_u1 (pz_u1 iv 154 (iv 154)) 157 (iv 157)) (.inl (some (.inl (pz_bi (0 ≤ y ∧ y ≤ (iv 155) 3 - 1))))) (pz_u1 (pz_u1 iv 154 (iv 154)) 157 (iv 157)) := s_X11_isActivity y (by show q_KR (iv 155); exact hk)
       refine w_call hc4 rfl (pz_cokI is_154 rfl) ?_
       refine w_bne (fun h5 => ?_) (fun h5 => ?_)
       · first
         | (exfalso; first | omega | contradiction)
         | (refine pz_G_of pz_b291_22 ?_
            refine w_loc rfl ?_
            refine w_loc rfl ?_
            refine w_ine (fun h6 => ?_) (fun h6 => ?_)
            · first
              | (exfalso; first | omega | contradiction)
              | (refine pz_G_of pz_b291_33 ?_
                 refine w_loc rfl ?_
                 have hc7 : pz_R (pz_Sh L) 227 [.inr (.inl 154)] (pz_u1 (pz_u1 iv 154 (iv 154)) 157 (iv 157)) (.inl (some (.inl (pz_bi (q_con (iv 155) (iv 161)))))) (pz_u1 (pz_u1 iv 154 (iv 154)) 157 (q_dd (iv 155) (iv 161) (iv 157))) := pz_R_mem (s_X11_isConsistentNow (by show q_KR (iv 155); exact hk)) (by rw [pz_u1_top (r := 157)]; rfl)
                 refine w_call hc7 rfl (pz_cokI is_154 rfl) ?_
                 refine w_beq (fun h8 => ?_) (fun h8 => ?_)
                 · first
                   | (exfalso; first | omega | contradiction)
                   | (refine pz_G_of pz_b291_53 ?_
                      refine w_loc rfl ?_
                      refine w_pure rfl ?_
                      have hc9 : pz_R (pz_Sh L) 191 [.inr (.inl 154), .inl 3] (pz_u1 (pz_u1 iv 154 (iv 154)) 157 (q_dd (iv 155) (iv 161) (iv 157))) (.inl (some (.inl 0))) (pz_u1 (pz_u1 iv 154 (pz_up (iv 154) 0 3)) 157 (q_dd (iv 155) (iv 161) (iv 157))) := pz_R_mem (s_X11_fails 3) (by rw [pz_u1_in (r := 154) (q := 157) (by decide)]; rw [pz_u1_top (r := 154)]; rfl)
                      refine w_call hc9 rfl (pz_cokI is_154 rfl) ?_
                      refine w_nil ?_
                      refine pz_G_of pz_b291_58 ?_
                      refine w_ret rfl ?_
                      first | exact lf_i (by first | rfl | omega) (by rfl) | (exfalso; omega))
                 · first
                   | (exfalso; first | omega | contradiction)
                   | (refine w_loc rfl ?_
                      refine w_loc rfl ?_
                      refine w_loc rfl ?_
                      refine w_loc rfl ?_
                      have hc10 : pz_R (pz_Sh L) 290 [.inr (.inl 154), .inl x, .inl y] (pz_u1 (pz_u1 iv 154 (iv 154)) 157 (q_dd (iv 155) (iv 161) (iv 157))) (.inl (some (.inl (q_sl (iv 155) (q_dd (iv 155) (iv 161) (iv 157)) x y)))) (pz_u1 (pz_u1 iv 154 (iv 154)) 157 (q_dd (iv 155) (iv 161) (iv 157))) := s_X11_slackOf x y (by show q_KR (iv 155); exact hk) (by show 0 ≤ x ∧ x < (iv 155) 3; omega) (by show 0 ≤ y ∧ y < (iv 155) 3; omega)
                      refine w_call hc10 rfl (pz_cokI is_154 rfl) ?_
                      have hc11 : pz_R (pz_Sh L) 192 [.inr (.inl 154), .inl (q_sl (iv 155) (q_dd (iv 155) (iv 161) (iv 157)) x y)] (pz_u1 (pz_u1 iv 154 (iv 154)) 157 (q_dd (iv 155) (iv 161) (iv 157))) (.inl (some (.inl (q_sl (iv 155) (q_dd (iv 155) (iv 161) (iv 157)) x y)))) (pz_u1 (pz_u1 iv 154 (pz_up (iv 154) 0 0)) 157 (q_dd (iv 155) (iv 161) (iv 157))) := pz_R_mem (s_X11_tells (q_sl (iv 155) (q_dd (iv 155) (iv 161) (iv 157)) x y)) (by rw [pz_u1_in (r := 154) (q := 157) (by decide)]; rw [pz_u1_top (r := 154)]; rfl)
                      refine w_call hc11 rfl (pz_cokI is_154 rfl) ?_
                      refine w_goto ?_
                      refine pz_G_of pz_b291_58 ?_
                      refine w_ret rfl ?_
                      first | exact lf_i (by first | rfl | omega) (by rfl) | (exfalso; omega)))
            · first
              | (exfalso; first | omega | contradiction)
              | (refine w_loc rfl ?_
                 refine w_pure rfl ?_
                 have hc12 : pz_R (pz_Sh L) 191 [.inr (.inl 154), .inl 2] (pz_u1 (pz_u1 iv 154 (iv 154)) 157 (iv 157)) (.inl (some (.inl 0))) (pz_u1 (pz_u1 iv 154 (pz_up (iv 154) 0 2)) 157 (iv 157)) := pz_R_mem (s_X11_fails 2) (by rw [pz_u1_in (r := 154) (q := 157) (by decide)]; rw [pz_u1_top (r := 154)]; rfl)
                 refine w_call hc12 rfl (pz_cokI is_154 rfl) ?_
                 refine w_ret rfl ?_
                 first | exact lf_i (by first | rfl | omega) (by rfl) | (exfalso; omega)))
       · first
         | (exfalso; first | omega | contradiction)
         | (refine w_nil ?_
            refine pz_G_of pz_b291_16 ?_
            refine w_loc rfl ?_
            refine w_pure rfl ?_
            have hc13 : pz_R (pz_Sh L) 191 [.inr (.inl 154), .inl 1] (pz_u1 (pz_u1 iv 154 (iv 154)) 157 (iv 157)) (.inl (some (.inl 0))) (pz_u1 (pz_u1 iv 154 (pz_up (iv 154) 0 1)) 157 (iv 157)) := pz_R_mem (s_X11_fails 1) (by rw [pz_u1_in (r := 154) (q := 157) (by decide)]; rw [pz_u1_top (r := 154)]; rfl)
            refine w_call hc13 rfl (pz_cokI is_154 rfl) ?_
            refine w_ret rfl ?_
            first | exact lf_i (by first | rfl | omega) (by rfl) | (exfalso; omega)))

theorem s_X11_canCome {L : Nat} {iv : Nat → Nat → Int} (x : Int) (y : Int) (hk : q_KR (iv 155)) (hx : 0 ≤ x ∧ x < (iv 155) 3) (hy : 0 ≤ y ∧ y < (iv 155) 3) : pz_R (pz_Sh L) 292 [.inr (.inl 154), .inl x, .inl y] iv (.inl (some (.inl (pz_bi (0 ≤ (iv 157) (10 * (iv 155) (224 + 3 * x + 1).toNat + (iv 155) (224 + 3 * y).toNat).toNat))))) iv := by
  intro dv cc ss
  have hk0 := hk.r0
  have hax := hk.ac hx.1 hx.2
  have hay := hk.ac hy.1 hy.2
  show pz_G 292 0 [some (.inr (.inl 154)), some (.inl x), some (.inl y), none, none] [] (pz_Sh L, iv, dv, cc, ss) (pz_P (pz_Sh L) (.inl (some (.inl (pz_bi (0 ≤ (iv 157) (10 * (iv 155) (224 + 3 * x + 1).toNat + (iv 155) (224 + 3 * y).toNat).toNat))))) iv dv cc ss)
  refine pz_G_of pz_b292_0 ?_
  refine w_loc rfl ?_
  refine w_getR (q := 155) is_154 rf_154_1 ?_
  refine w_pure rfl ?_
  refine w_pure rfl ?_
  refine w_loc rfl ?_
  refine w_imul (by omega) ?_
  refine w_iadd (by omega) ?_
  refine w_iald (v := (iv 155) (224 + (3 * y)).toNat) is_155 ln_155 ⟨by omega, by omega⟩ rfl ?_
  refine w_loc (ls' := [some (.inr (.inl 154)), some (.inl x), some (.inl y), some (.inl ((iv 155) (224 + (3 * y)).toNat)), none]) (st' := []) rfl ?_
  refine w_loc rfl ?_
  refine w_getR (q := 155) is_154 rf_154_1 ?_
  refine w_pure rfl ?_
  refine w_pure rfl ?_
  refine w_loc rfl ?_
  refine w_imul (by omega) ?_
  refine w_iadd (by omega) ?_
  refine w_pure rfl ?_
  refine w_iadd (by omega) ?_
  refine w_iald (v := (iv 155) ((224 + (3 * x)) + 1).toNat) is_155 ln_155 ⟨by omega, by omega⟩ rfl ?_
  refine w_loc (ls' := [some (.inr (.inl 154)), some (.inl x), some (.inl y), some (.inl ((iv 155) (224 + (3 * y)).toNat)), some (.inl ((iv 155) ((224 + (3 * x)) + 1).toNat))]) (st' := []) rfl ?_
  refine w_loc rfl ?_
  refine w_getR (q := 157) is_154 rf_154_4 ?_
  refine w_pure rfl ?_
  refine w_loc rfl ?_
  refine w_imul (by omega) ?_
  refine w_loc rfl ?_
  refine w_iadd (by omega) ?_
  refine w_iald (v := (iv 157) ((10 * ((iv 155) ((224 + (3 * x)) + 1).toNat)) + ((iv 155) (224 + (3 * y)).toNat)).toNat) is_157 ln_157 ⟨by omega, by omega⟩ rfl ?_
  refine w_zlt (fun h1 => ?_) (fun h1 => ?_)
  · refine pz_G_of pz_b292_48 ?_
    refine w_pure rfl ?_
    refine w_nil ?_
    refine pz_G_of pz_b292_49 ?_
    refine w_ret (pz_rok1 (Or.inl rfl)) ?_
    first | exact lf_i (pz_bi_f (by omega)) (by rfl) | (exfalso; omega)
  · refine w_pure rfl ?_
    refine w_goto ?_
    refine pz_G_of pz_b292_49 ?_
    refine w_ret (pz_rok1 (Or.inr rfl)) ?_
    first | exact lf_i (pz_bi_t (by omega)) (by rfl) | (exfalso; omega)
