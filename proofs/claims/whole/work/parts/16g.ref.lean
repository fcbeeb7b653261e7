
theorem s_X11_isDirect_1 {L : Nat} {iv : Nat → Nat → Int} (f : Int) (t : Int) (hk : q_KR (iv 155)) (hcase0 : ¬ (0 ≤ f ∧ f ≤ iv 155 0 - 1 ∧ 0 ≤ t ∧ t ≤ iv 155 0 - 1)) : pz_R (pz_Sh L) 232 [.inr (.inl 154), .inl f, .inl t] iv (.inl (some (.inl 0))) (pz_u1 (pz_u1 iv 154 (pz_up (iv 154) 0 1)) 157 (iv 157)) := by
  intro dv cc ss
  have hk0 := hk.r0
  refine pz_G_mem (iv2 := pz_u1 (pz_u1 iv 154 (iv 154)) 157 (iv 157)) (by exact ((pz_u1_self iv 154).symm).trans (pz_u1_self (pz_u1 iv 154 (iv 154)) 157).symm) ?_
  show pz_G 232 0 [some (.inr (.inl 154)), some (.inl f), some (.inl t), none, none, none, none] [] (pz_Sh L, pz_u1 (pz_u1 iv 154 (iv 154)) 157 (iv 157), dv, cc, ss) (pz_P (pz_Sh L) (.inl (some (.inl 0))) (pz_u1 (pz_u1 iv 154 (pz_up (iv 154) 0 1)) 157 (iv 157)) dv cc ss)
  refine pz_G_of pz_b232_0 ?_
  refine w_loc rfl ?_
  refine w_loc rfl ?_
  have hc1 : pz_R (pz_Sh L) 194 [.inr (.inl 154), .inl f] (pz_u1 (pz_u1 iv 154 (iv 154)) 157 (iv 157)) (.inl (some (.inl (pz_bi (0 ≤ f ∧ f ≤ (iv 155) 0 - 1))))) (pz_u1 (pz_u1 iv 154 (iv 154)) 157 (iv 157)) := s_X11_isEvent f (by show q_KR (iv 155); exact hk)
  refine w_call hc1 rfl (pz_cokI is_154 rfl) ?_
  refine w_beq (fun h2 => ?_) (fun h2 => ?_)
  · first
    | (exfalso; first | omega | contradiction)
    | (refine pz_G_of pz_b232_16 ?_
       refine w_pure rfl ?_
       refine w_goto ?_
       refine pz_G_of pz_b232_41 ?_
       refine w_loc (ls' := [some (.inr (.inl 154)), some (.inl f), some (.inl t), some (.inl 1), none, none, none]) (st' := []) rfl ?_
       refine w_loc rfl ?_
       refine w_zle (fun h => absurd h (by decide)) (fun _ => ?_)
       refine w_loc rfl ?_
       refine w_loc rfl ?_
       refine w_pure rfl ?_
       have hc3 : pz_R (pz_Sh L) 193 [.inr (.inl 154), .inl 1, .inl 0] (pz_u1 (pz_u1 iv 154 (iv 154)) 157 (iv 157)) (.inl (some (.inl (pz_bi ((1 : Int) = 0 ∧ (0 : Int) = 1))))) (pz_u1 (pz_u1 iv 154 (pz_up (iv 154) 0 1)) 157 (iv 157)) := pz_R_mem (s_X11_asks 1 0 (by show 0 = 0 ∨ 0 = 1; omega)) (by rw [pz_u1_in (r := 154) (q := 157) (by decide)]; rw [pz_u1_top (r := 154)]; rfl)
       refine w_call hc3 rfl (pz_cokI is_154 rfl) ?_
       refine w_ret (pz_rok1 (pz_bi01 _)) ?_
       first | exact lf_i (pz_bi_0 (by omega)) (by rfl) | (exfalso; omega))
  · first
    | (exfalso; first | omega | contradiction)
    | (refine w_loc rfl ?_
       refine w_loc rfl ?_
       have hc4 : pz_R (pz_Sh L) 194 [.inr (.inl 154), .inl t] (pz_u1 (pz_u1 iv 154 (iv 154)) 157 (iv 157)) (.inl (some (.inl (pz_bi (0 ≤ t ∧ t ≤ (iv 155) 0 - 1))))) (pz_u1 (pz_u1 iv 154 (iv 154)) 157 (iv 157)) := s_X11_isEvent t (by show q_KR (iv 155); exact hk)
       refine w_call hc4 rfl (pz_cokI is_154 rfl) ?_
       refine w_bne (fun h5 => ?_) (fun h5 => ?_)
       · first
         | (exfalso; first | omega | contradiction)
         | (refine pz_G_of pz_b232_20 ?_
            refine w_loc rfl ?_
            refine w_loc rfl ?_
            refine w_ine (fun h6 => ?_) (fun h6 => ?_)
            · first
              | (exfalso; first | omega | contradiction)
              | (refine pz_G_of pz_b232_29 ?_
                 refine w_loc rfl ?_
                 have hc7 : pz_R (pz_Sh L) 227 [.inr (.inl 154)] (pz_u1 (pz_u1 iv 154 (iv 154)) 157 (iv 157)) (.inl (some (.inl (pz_bi (q_con (iv 155) (iv 161)))))) (pz_u1 (pz_u1 iv 154 (iv 154)) 157 (q_dd (iv 155) (iv 161) (iv 157))) := pz_R_mem (s_X11_isConsistentNow (by show q_KR (iv 155); exact hk)) (by rw [pz_u1_top (r := 157)]; rfl)
                 refine w_call hc7 rfl (pz_cokI is_154 rfl) ?_
                 refine w_beq (fun h8 => ?_) (fun h8 => ?_)
                 · first
                   | (exfalso; first | omega | contradiction)
                   | (refine pz_G_of pz_b232_40 ?_
                      refine w_pure rfl ?_
                      refine w_nil ?_
                      refine pz_G_of pz_b232_41 ?_
                      refine w_loc (ls' := [some (.inr (.inl 154)), some (.inl f), some (.inl t), some (.inl 3), none, none, none]) (st' := []) rfl ?_
                      refine w_loc rfl ?_
                      refine w_zle (fun h => absurd h (by decide)) (fun _ => ?_)
                      refine w_loc rfl ?_
                      refine w_loc rfl ?_
                      refine w_pure rfl ?_
                      have hc9 : pz_R (pz_Sh L) 193 [.inr (.inl 154), .inl 3, .inl 0] (pz_u1 (pz_u1 iv 154 (iv 154)) 157 (q_dd (iv 155) (iv 161) (iv 157))) (.inl (some (.inl (pz_bi ((3 : Int) = 0 ∧ (0 : Int) = 1))))) (pz_u1 (pz_u1 iv 154 (pz_up (iv 154) 0 3)) 157 (q_dd (iv 155) (iv 161) (iv 157))) := pz_R_mem (s_X11_asks 3 0 (by show 0 = 0 ∨ 0 = 1; omega)) (by rw [pz_u1_in (r := 154) (q := 157) (by decide)]; rw [pz_u1_top (r := 154)]; rfl)
                      refine w_call hc9 rfl (pz_cokI is_154 rfl) ?_
                      refine w_ret (pz_rok1 (pz_bi01 _)) ?_
                      first | exact lf_i (pz_bi_0 (by omega)) (by rfl) | (exfalso; omega))
                 · first
                   | (exfalso; first | omega | contradiction)
                   | (refine w_pure rfl ?_
                      refine w_goto ?_
                      refine pz_G_of pz_b232_41 ?_
                      refine w_loc (ls' := [some (.inr (.inl 154)), some (.inl f), some (.inl t), some (.inl 0), none, none, none]) (st' := []) rfl ?_
                      refine w_loc rfl ?_
                      refine w_zle (fun _ => ?_) (fun h => absurd h (by decide))
                      refine pz_G_of pz_b232_53 ?_
                      refine w_loc rfl ?_
                      refine w_getR (q := 157) is_154 rf_154_4 ?_
                      refine w_pure rfl ?_
                      refine w_loc rfl ?_
                      refine w_imul (by omega) ?_
                      refine w_loc rfl ?_
                      refine w_iadd (by omega) ?_
                      refine w_iald (v := (q_dd (iv 155) (iv 161) (iv 157)) ((10 * f) + t).toNat) is_157 ln_157 ⟨by omega, by omega⟩ rfl ?_
                      refine w_loc (ls' := [some (.inr (.inl 154)), some (.inl f), some (.inl t), some (.inl 0), some (.inl ((q_dd (iv 155) (iv 161) (iv 157)) ((10 * f) + t).toNat)), none, none]) (st' := []) rfl ?_
                      refine w_loc rfl ?_
                      refine w_ldcv (v := 1000000) rfl ?_
                      refine w_ige (fun h10 => ?_) (fun h10 => ?_)
                      · first
                        | (exfalso; first | omega | contradiction)
                        | (refine pz_G_of pz_b232_77 ?_
                           refine w_pure rfl ?_
                           refine w_nil ?_
                           refine pz_G_of pz_b232_78 ?_
                           refine w_loc (ls' := [some (.inr (.inl 154)), some (.inl f), some (.inl t), some (.inl 0), some (.inl ((q_dd (iv 155) (iv 161) (iv 157)) ((10 * f) + t).toNat)), some (.inl 0), none]) (st' := []) rfl ?_
                           refine w_pure rfl ?_
                           refine w_loc (ls' := [some (.inr (.inl 154)), some (.inl f), some (.inl t), some (.inl 0), some (.inl ((q_dd (iv 155) (iv 161) (iv 157)) ((10 * f) + t).toNat)), some (.inl 0), some (.inl 0)]) (st' := []) rfl ?_
                           refine w_nil ?_
                           exfalso; first | omega | contradiction)
                      · first
                        | (exfalso; first | omega | contradiction)
                        | (refine w_pure rfl ?_
                           refine w_goto ?_
                           refine pz_G_of pz_b232_78 ?_
                           refine w_loc (ls' := [some (.inr (.inl 154)), some (.inl f), some (.inl t), some (.inl 0), some (.inl ((q_dd (iv 155) (iv 161) (iv 157)) ((10 * f) + t).toNat)), some (.inl 1), none]) (st' := []) rfl ?_
                           refine w_pure rfl ?_
                           refine w_loc (ls' := [some (.inr (.inl 154)), some (.inl f), some (.inl t), some (.inl 0), some (.inl ((q_dd (iv 155) (iv 161) (iv 157)) ((10 * f) + t).toNat)), some (.inl 1), some (.inl 0)]) (st' := []) rfl ?_
                           refine w_nil ?_
                           exfalso; first | omega | contradiction)))
            · first
              | (exfalso; first | omega | contradiction)
              | (refine w_pure rfl ?_
                 refine w_goto ?_
                 refine pz_G_of pz_b232_41 ?_
                 refine w_loc (ls' := [some (.inr (.inl 154)), some (.inl f), some (.inl t), some (.inl 2), none, none, none]) (st' := []) rfl ?_
                 refine w_loc rfl ?_
                 refine w_zle (fun h => absurd h (by decide)) (fun _ => ?_)
                 refine w_loc rfl ?_
                 refine w_loc rfl ?_
                 refine w_pure rfl ?_
                 have hc11 : pz_R (pz_Sh L) 193 [.inr (.inl 154), .inl 2, .inl 0] (pz_u1 (pz_u1 iv 154 (iv 154)) 157 (iv 157)) (.inl (some (.inl (pz_bi ((2 : Int) = 0 ∧ (0 : Int) = 1))))) (pz_u1 (pz_u1 iv 154 (pz_up (iv 154) 0 2)) 157 (iv 157)) := pz_R_mem (s_X11_asks 2 0 (by show 0 = 0 ∨ 0 = 1; omega)) (by rw [pz_u1_in (r := 154) (q := 157) (by decide)]; rw [pz_u1_top (r := 154)]; rfl)
                 refine w_call hc11 rfl (pz_cokI is_154 rfl) ?_
                 refine w_ret (pz_rok1 (pz_bi01 _)) ?_
                 first | exact lf_i (pz_bi_0 (by omega)) (by rfl) | (exfalso; omega)))
       · first
         | (exfalso; first | omega | contradiction)
         | (refine w_nil ?_
            refine pz_G_of pz_b232_16 ?_
            refine w_pure rfl ?_
            refine w_goto ?_
            refine pz_G_of pz_b232_41 ?_
            refine w_loc (ls' := [some (.inr (.inl 154)), some (.inl f), some (.inl t), some (.inl 1), none, none, none]) (st' := []) rfl ?_
            refine w_loc rfl ?_
            refine w_zle (fun h => absurd h (by decide)) (fun _ => ?_)
            refine w_loc rfl ?_
            refine w_loc rfl ?_
            refine w_pure rfl ?_
            have hc12 : pz_R (pz_Sh L) 193 [.inr (.inl 154), .inl 1, .inl 0] (pz_u1 (pz_u1 iv 154 (iv 154)) 157 (iv 157)) (.inl (some (.inl (pz_bi ((1 : Int) = 0 ∧ (0 : Int) = 1))))) (pz_u1 (pz_u1 iv 154 (pz_up (iv 154) 0 1)) 157 (iv 157)) := pz_R_mem (s_X11_asks 1 0 (by show 0 = 0 ∨ 0 = 1; omega)) (by rw [pz_u1_in (r := 154) (q := 157) (by decide)]; rw [pz_u1_top (r := 154)]; rfl)
            refine w_call hc12 rfl (pz_cokI is_154 rfl) ?_
            refine w_ret (pz_rok1 (pz_bi01 _)) ?_
            first | exact lf_i (pz_bi_0 (by omega)) (by rfl) | (exfalso; omega)))

theorem s_X11_isDirect_2 {L : Nat} {iv : Nat → Nat → Int} (f : Int) (t : Int) (hk : q_KR (iv 155)) (hcase0 : 0 ≤ f ∧ f ≤ iv 155 0 - 1 ∧ 0 ≤ t ∧ t ≤ iv 155 0 - 1) (hcase1 : f = t) : pz_R (pz_Sh L) 232 [.inr (.inl 154), .inl f, .inl t] iv (.inl (some (.inl 0))) (pz_u1 (pz_u1 iv 154 (pz_up (iv 154) 0 2)) 157 (iv 157)) := by
  intro dv cc ss
  have hk0 := hk.r0
  refine pz_G_mem (iv2 := pz_u1 (pz_u1 iv 154 (iv 154)) 157 (iv 157)) (by exact ((pz_u1_self iv 154).symm).trans (pz_u1_self (pz_u1 iv 154 (iv 154)) 157).symm) ?_
  show pz_G 232 0 [some (.inr (.inl 154)), some (.inl f), some (.inl t), none, none, none, none] [] (pz_Sh L, pz_u1 (pz_u1 iv 154 (iv 154)) 157 (iv 157), dv, cc, ss) (pz_P (pz_Sh L) (.inl (some (.inl 0))) (pz_u1 (pz_u1 iv 154 (pz_up (iv 154) 0 2)) 157 (iv 157)) dv cc ss)
  refine pz_G_of pz_b232_0 ?_
  refine w_loc rfl ?_
  refine w_loc rfl ?_
  have hc1 : pz_R (pz_Sh L) 194 [.inr (.inl 154), .inl f] (pz_u1 (pz_u1 iv 154 (iv 154)) 157 (iv 157)) (.inl (some (.inl (pz_bi (0 ≤ f ∧ f ≤ (iv 155) 0 - 1))))) (pz_u1 (pz_u1 iv 154 (iv 154)) 157 (iv 157)) := s_X11_isEvent f (by show q_KR (iv 155); exact hk)
  refine w_call hc1 rfl (pz_cokI is_154 rfl) ?_
  refine w_beq (fun h2 => ?_) (fun h2 => ?_)
  · first
    | (exfalso; first | omega | contradiction)
    | (refine pz_G_of pz_b232_16 ?_
       refine w_pure rfl ?_
       refine w_goto ?_
       refine pz_G_of pz_b232_41 ?_
       refine w_loc (ls' := [some (.inr (.inl 154)), some (.inl f), some (.inl t), some (.inl 1), none, none, none]) (st' := []) rfl ?_
       refine w_loc rfl ?_
       refine w_zle (fun h => absurd h (by decide)) (fun _ => ?_)
       refine w_loc rfl ?_
       refine w_loc rfl ?_
       refine w_pure rfl ?_
       have hc3 : pz_R (pz_Sh L) 193 [.inr (.inl 154), .inl 1, .inl 0] (pz_u1 (pz_u1 iv 154 (iv 154)) 157 (iv 157)) (.inl (some (.inl (pz_bi ((1 : Int) = 0 ∧ (0 : Int) = 1))))) (pz_u1 (pz_u1 iv 154 (pz_up (iv 154) 0 1)) 157 (iv 157)) := pz_R_mem (s_X11_asks 1 0 (by show 0 = 0 ∨ 0 = 1; omega)) (by rw [pz_u1_in (r := 154) (q := 157) (by decide)]; rw [pz_u1_top (r := 154)]; rfl)
       refine w_call hc3 rfl (pz_cokI is_154 rfl) ?_
       refine w_ret (pz_rok1 (pz_bi01 _)) ?_
       first | exact lf_i (pz_bi_0 (by omega)) (by rfl) | (exfalso; omega))
  · first
    | (exfalso; first | omega | contradiction)
    | (refine w_loc rfl ?_
       refine w_loc rfl ?_
       have hc4 : pz_R (pz_Sh L) 194 [.inr (.inl 154), .inl t] (pz_u1 (pz_u1 iv 154 (iv 154)) 157 (iv 157)) (.inl (some (.inl (pz_bi (0 ≤ t ∧ t ≤ (iv 155) 0 - 1))))) (pz_u1 (pz_u1 iv 154 (iv 154)) 157 (iv 157)) := s_X11_isEvent t (by show q_KR (iv 155); exact hk)
       refine w_call hc4 rfl (pz_cokI is_154 rfl) ?_
       refine w_bne (fun h5 => ?_) (fun h5 => ?_)
       · first
         | (exfalso; first | omega | contradiction)
         | (refine pz_G_of pz_b232_20 ?_
            refine w_loc rfl ?_
            refine w_loc rfl ?_
            refine w_ine (fun h6 => ?_) (fun h6 => ?_)
            · first
              | (exfalso; first | omega | contradiction)
              | (refine pz_G_of pz_b232_29 ?_
                 refine w_loc rfl ?_
                 have hc7 : pz_R (pz_Sh L) 227 [.inr (.inl 154)] (pz_u1 (pz_u1 iv 154 (iv 154)) 157 (iv 157)) (.inl (some (.inl (pz_bi (q_con (iv 155) (iv 161)))))) (pz_u1 (pz_u1 iv 154 (iv 154)) 157 (q_dd (iv 155) (iv 161) (iv 157))) := pz_R_mem (s_X11_isConsistentNow (by show q_KR (iv 155); exact hk)) (by rw [pz_u1_top (r := 157)]; rfl)
                 refine w_call hc7 rfl (pz_cokI is_154 rfl) ?_
                 refine w_beq (fun h8 => ?_) (fun h8 => ?_)
                 · first
                   | (exfalso; first | omega | contradiction)
                   | (refine pz_G_of pz_b232_40 ?_
                      refine w_pure rfl ?_
                      refine w_nil ?_
                      refine pz_G_of pz_b232_41 ?_
                      refine w_loc (ls' := [some (.inr (.inl 154)), some (.inl f), some (.inl t), some (.inl 3), none, none, none]) (st' := []) rfl ?_
                      refine w_loc rfl ?_
                      refine w_zle (fun h => absurd h (by decide)) (fun _ => ?_)
                      refine w_loc rfl ?_
                      refine w_loc rfl ?_
                      refine w_pure rfl ?_
                      have hc9 : pz_R (pz_Sh L) 193 [.inr (.inl 154), .inl 3, .inl 0] (pz_u1 (pz_u1 iv 154 (iv 154)) 157 (q_dd (iv 155) (iv 161) (iv 157))) (.inl (some (.inl (pz_bi ((3 : Int) = 0 ∧ (0 : Int) = 1))))) (pz_u1 (pz_u1 iv 154 (pz_up (iv 154) 0 3)) 157 (q_dd (iv 155) (iv 161) (iv 157))) := pz_R_mem (s_X11_asks 3 0 (by show 0 = 0 ∨ 0 = 1; omega)) (by rw [pz_u1_in (r := 154) (q := 157) (by decide)]; rw [pz_u1_top (r := 154)]; rfl)
                      refine w_call hc9 rfl (pz_cokI is_154 rfl) ?_
                      refine w_ret (pz_rok1 (pz_bi01 _)) ?_
                      first | exact lf_i (pz_bi_0 (by omega)) (by rfl) | (exfalso; omega))
                 · first
                   | (exfalso; first | omega | contradiction)
                   | (refine w_pure rfl ?_
                      refine w_goto ?_
                      refine pz_G_of pz_b232_41 ?_
                      refine w_loc (ls' := [some (.inr (.inl 154)), some (.inl f), some (.inl t), some (.inl 0), none, none, none]) (st' := []) rfl ?_
                      refine w_loc rfl ?_
                      refine w_zle (fun _ => ?_) (fun h => absurd h (by decide))
                      refine pz_G_of pz_b232_53 ?_
                      refine w_loc rfl ?_
                      refine w_getR (q := 157) is_154 rf_154_4 ?_
                      refine w_pure rfl ?_
                      refine w_loc rfl ?_
                      refine w_imul (by omega) ?_
                      refine w_loc rfl ?_
                      refine w_iadd (by omega) ?_
                      refine w_iald (v := (q_dd (iv 155) (iv 161) (iv 157)) ((10 * f) + t).toNat) is_157 ln_157 ⟨by omega, by omega⟩ rfl ?_
                      refine w_loc (ls' := [some (.inr (.inl 154)), some (.inl f), some (.inl t), some (.inl 0), some (.inl ((q_dd (iv 155) (iv 161) (iv 157)) ((10 * f) + t).toNat)), none, none]) (st' := []) rfl ?_
                      refine w_loc rfl ?_
                      refine w_ldcv (v := 1000000) rfl ?_
                      refine w_ige (fun h10 => ?_) (fun h10 => ?_)
                      · first
                        | (exfalso; first | omega | contradiction)
                        | (refine pz_G_of pz_b232_77 ?_
                           refine w_pure rfl ?_
                           refine w_nil ?_
                           refine pz_G_of pz_b232_78 ?_
                           refine w_loc (ls' := [some (.inr (.inl 154)), some (.inl f), some (.inl t), some (.inl 0), some (.inl ((q_dd (iv 155) (iv 161) (iv 157)) ((10 * f) + t).toNat)), some (.inl 0), none]) (st' := []) rfl ?_
                           refine w_pure rfl ?_
                           refine w_loc (ls' := [some (.inr (.inl 154)), some (.inl f), some (.inl t), some (.inl 0), some (.inl ((q_dd (iv 155) (iv 161) (iv 157)) ((10 * f) + t).toNat)), some (.inl 0), some (.inl 0)]) (st' := []) rfl ?_
                           refine w_nil ?_
                           exfalso; first | omega | contradiction)
                      · first
                        | (exfalso; first | omega | contradiction)
                        | (refine w_pure rfl ?_
                           refine w_goto ?_
                           refine pz_G_of pz_b232_78 ?_
                           refine w_loc (ls' := [some (.inr (.inl 154)), some (.inl f), some (.inl t), some (.inl 0), some (.inl ((q_dd (iv 155) (iv 161) (iv 157)) ((10 * f) + t).toNat)), some (.inl 1), none]) (st' := []) rfl ?_
                           refine w_pure rfl ?_
                           refine w_loc (ls' := [some (.inr (.inl 154)), some (.inl f), some (.inl t), some (.inl 0), some (.inl ((q_dd (iv 155) (iv 161) (iv 157)) ((10 * f) + t).toNat)), some (.inl 1), some (.inl 0)]) (st' := []) rfl ?_
                           refine w_nil ?_
                           exfalso; first | omega | contradiction)))
            · first
              | (exfalso; first | omega | contradiction)
              | (refine w_pure rfl ?_
                 refine w_goto ?_
                 refine pz_G_of pz_b232_41 ?_
                 refine w_loc (ls' := [some (.inr (.inl 154)), some (.inl f), some (.inl t), some (.inl 2), none, none, none]) (st' := []) rfl ?_
                 refine w_loc rfl ?_
                 refine w_zle (fun h => absurd h (by decide)) (fun _ => ?_)
                 refine w_loc rfl ?_
                 refine w_loc rfl ?_
                 refine w_pure rfl ?_
                 have hc11 : pz_R (pz_Sh L) 193 [.inr (.inl 154), .inl 2, .inl 0] (pz_u1 (pz_u1 iv 154 (iv 154)) 157 (iv 157)) (.inl (some (.inl (pz_bi ((2 : Int) = 0 ∧ (0 : Int) = 1))))) (pz_u1 (pz_u1 iv 154 (pz_up (iv 154) 0 2)) 157 (iv 157)) := pz_R_mem (s_X11_asks 2 0 (by show 0 = 0 ∨ 0 = 1; omega)) (by rw [pz_u1_in (r := 154) (q := 157) (by decide)]; rw [pz_u1_top (r := 154)]; rfl)
                 refine w_call hc11 rfl (pz_cokI is_154 rfl) ?_
                 refine w_ret (pz_rok1 (pz_bi01 _)) ?_
                 first | exact lf_i (pz_bi_0 (by omega)) (by rfl) | (exfalso; omega)))
       · first
         | (exfalso; first | omega | contradiction)
         | (refine w_nil ?_
            refine pz_G_of pz_b232_16 ?_
            refine w_pure rfl ?_
            refine w_goto ?_
            refine pz_G_of pz_b232_41 ?_
            refine w_loc (ls' := [some (.inr (.inl 154)), some (.inl f), some (.inl t), some (.inl 1), none, none, none]) (st' := []) rfl ?_
            refine w_loc rfl ?_
            refine w_zle (fun h => absurd h (by decide)) (fun _ => ?_)
            refine w_loc rfl ?_
            refine w_loc rfl ?_
            refine w_pure rfl ?_
            have hc12 : pz_R (pz_Sh L) 193 [.inr (.inl 154), .inl 1, .inl 0] (pz_u1 (pz_u1 iv 154 (iv 154)) 157 (iv 157)) (.inl (some (.inl (pz_bi ((1 : Int) = 0 ∧ (0 : Int) = 1))))) (pz_u1 (pz_u1 iv 154 (pz_up (iv 154) 0 1)) 157 (iv 157)) := pz_R_mem (s_X11_asks 1 0 (by show 0 = 0 ∨ 0 = 1; omega)) (by rw [pz_u1_in (r := 154) (q := 157) (by decide)]; rw [pz_u1_top (r := 154)]; rfl)
            refine w_call hc12 rfl (pz_cokI is_154 rfl) ?_
            refine w_ret (pz_rok1 (pz_bi01 _)) ?_
            first | exact lf_i (pz_bi_0 (by omega)) (by rfl) | (exfalso; omega)))

theorem s_X11_isDirect_3 {L : Nat} {iv : Nat → Nat → Int} (f : Int) (t : Int) (hk : q_KR (iv 155)) (hcase0 : 0 ≤ f ∧ f ≤ iv 155 0 - 1 ∧ 0 ≤ t ∧ t ≤ iv 155 0 - 1) (hcase1 : f ≠ t) (hcase2 : ¬ q_con (iv 155) (iv 161)) : pz_R (pz_Sh L) 232 [.inr (.inl 154), .inl f, .inl t] iv (.inl (some (.inl 0))) (pz_u1 (pz_u1 iv 154 (pz_up (iv 154) 0 3)) 157 (q_dd (iv 155) (iv 161) (iv 157))) := by
  intro dv cc ss
  have hk0 := hk.r0
  refine pz_G_mem (iv2 := pz_u1 (pz_u1 iv 154 (iv 154)) 157 (iv 157)) (by exact ((pz_u1_self iv 154).symm).trans (pz_u1_self (pz_u1 iv 154 (iv 154)) 157).symm) ?_
  show pz_G 232 0 [some (.inr (.inl 154)), some (.inl f), some (.inl t), none, none, none, none] [] (pz_Sh L, pz_u1 (pz_u1 iv 154 (iv 154)) 157 (iv 157), dv, cc, ss) (pz_P (pz_Sh L) (.inl (some (.inl 0))) (pz_u1 (pz_u1 iv 154 (pz_up (iv 154) 0 3)) 157 (q_dd (iv 155) (iv 161) (iv 157))) dv cc ss)
  refine pz_G_of pz_b232_0 ?_
  refine w_loc rfl ?_
  refine w_loc rfl ?_
  have hc1 : pz_R (pz_Sh L) 194 [.inr (.inl 154), .inl f] (pz_u1 (pz_u1 iv 154 (iv 154)) 157 (iv 157)) (.inl (some (.inl (pz_bi (0 ≤ f ∧ f ≤ (iv 155) 0 - 1))))) (pz_u1 (pz_u1 iv 154 (iv 154)) 157 (iv 157)) := s_X11_isEvent f (by show q_KR (iv 155); exact hk)
  refine w_call hc1 rfl (pz_cokI is_154 rfl) ?_
  refine w_beq (fun h2 => ?_) (fun h2 => ?_)
  · first
    | (exfalso; first | omega | contradiction)
    | (refine pz_G_of pz_b232_16 ?_
       refine w_pure rfl ?_
       refine w_goto ?_
       refine pz_G_of pz_b232_41 ?_
       refine w_loc (ls' := [some (.inr (.inl 154)), some (.inl f), some (.inl t), some (.inl 1), none, none, none]) (st' := []) rfl ?_
       refine w_loc rfl ?_
       refine w_zle (fun h => absurd h (by decide)) (fun _ => ?_)
       refine w_loc rfl ?_
       refine w_loc rfl ?_
       refine w_pure rfl ?_
       have hc3 : pz_R (pz_Sh L) 193 [.inr (.inl 154), .inl 1, .inl 0] (pz_u1 (pz_u1 iv 154 (iv 154)) 157 (iv 157)) (.inl (some (.inl (pz_bi ((1 : Int) = 0 ∧ (0 : Int) = 1))))) (pz_u1 (pz_u1 iv 154 (pz_up (iv 154) 0 1)) 157 (iv 157)) := pz_R_mem (s_X11_asks 1 0 (by show 0 = 0 ∨ 0 = 1; omega)) (by rw [pz_u1_in (r := 154) (q := 157) (by decide)]; rw [pz_u1_top (r := 154)]; rfl)
       refine w_call hc3 rfl (pz_cokI is_154 rfl) ?_
       refine w_ret (pz_rok1 (pz_bi01 _)) ?_
       first | exact lf_i (pz_bi_0 (by omega)) (by rfl) | (exfalso; omega))
  · first
    | (exfalso; first | omega | contradiction)
    | (refine w_loc rfl ?_
       refine w_loc rfl ?_
       have hc4 : pz_R (pz_Sh L) 194 [.inr (.inl 154), .inl t] (pz_u1 (pz_u1 iv 154 (iv 154)) 157 (iv 157)) (.inl (some (.inl (pz_bi (0 ≤ t ∧ t ≤ (iv 155) 0 - 1))))) (pz_u1 (pz_u1 iv 154 (iv 154)) 157 (iv 157)) := s_X11_isEvent t (by show q_KR (iv 155); exact hk)
       refine w_call hc4 rfl (pz_cokI is_154 rfl) ?_
       refine w_bne (fun h5 => ?_) (fun h5 => ?_)
       · first
         | (exfalso; first | omega | contradiction)
         | (refine pz_G_of pz_b232_20 ?_
            refine w_loc rfl ?_
            refine w_loc rfl ?_
            refine w_ine (fun h6 => ?_) (fun h6 => ?_)
            · first
              | (exfalso; first | omega | contradiction)
              | (refine pz_G_of pz_b232_29 ?_
                 refine w_loc rfl ?_
                 have hc7 : pz_R (pz_Sh L) 227 [.inr (.inl 154)] (pz_u1 (pz_u1 iv 154 (iv 154)) 157 (iv 157)) (.inl (some (.inl (pz_bi (q_con (iv 155) (iv 161)))))) (pz_u1 (pz_u1 iv 154 (iv 154)) 157 (q_dd (iv 155) (iv 161) (iv 157))) := pz_R_mem (s_X11_isConsistentNow (by show q_KR (iv 155); exact hk)) (by rw [pz_u1_top (r := 157)]; rfl)
                 refine w_call hc7 rfl (pz_cokI is_154 rfl) ?_
                 refine w_beq (fun h8 => ?_) (fun h8 => ?_)
                 · first
                   | (exfalso; first | omega | contradiction)
                   | (refine pz_G_of pz_b232_40 ?_
                      refine w_pure rfl ?_
                      refine w_nil ?_
                      refine pz_G_of pz_b232_41 ?_
                      refine w_loc (ls' := [some (.inr (.inl 154)), some (.inl f), some (.inl t), some (.inl 3), none, none, none]) (st' := []) rfl ?_
                      refine w_loc rfl ?_
                      refine w_zle (fun h => absurd h (by decide)) (fun _ => ?_)
                      refine w_loc rfl ?_
                      refine w_loc rfl ?_
                      refine w_pure rfl ?_
                      have hc9 : pz_R (pz_Sh L) 193 [.inr (.inl 154), .inl 3, .inl 0] (pz_u1 (pz_u1 iv 154 (iv 154)) 157 (q_dd (iv 155) (iv 161) (iv 157))) (.inl (some (.inl (pz_bi ((3 : Int) = 0 ∧ (0 : Int) = 1))))) (pz_u1 (pz_u1 iv 154 (pz_up (iv 154) 0 3)) 157 (q_dd (iv 155) (iv 161) (iv 157))) := pz_R_mem (s_X11_asks 3 0 (by show 0 = 0 ∨ 0 = 1; omega)) (by rw [pz_u1_in (r := 154) (q := 157) (by decide)]; rw [pz_u1_top (r := 154)]; rfl)
                      refine w_call hc9 rfl (pz_cokI is_154 rfl) ?_
                      refine w_ret (pz_rok1 (pz_bi01 _)) ?_
                      first | exact lf_i (pz_bi_0 (by omega)) (by rfl) | (exfalso; omega))
                 · first
                   | (exfalso; first | omega | contradiction)
                   | (refine w_pure rfl ?_
                      refine w_goto ?_
                      refine pz_G_of pz_b232_41 ?_
                      refine w_loc (ls' := [some (.inr (.inl 154)), some (.inl f), some (.inl t), some (.inl 0), none, none, none]) (st' := []) rfl ?_
                      refine w_loc rfl ?_
                      refine w_zle (fun _ => ?_) (fun h => absurd h (by decide))
                      refine pz_G_of pz_b232_53 ?_
                      refine w_loc rfl ?_
                      refine w_getR (q := 157) is_154 rf_154_4 ?_
                      refine w_pure rfl ?_
                      refine w_loc rfl ?_
                      refine w_imul (by omega) ?_
                      refine w_loc rfl ?_
                      refine w_iadd (by omega) ?_
                      refine w_iald (v := (q_dd (iv 155) (iv 161) (iv 157)) ((10 * f) + t).toNat) is_157 ln_157 ⟨by omega, by omega⟩ rfl ?_
                      refine w_loc (ls' := [some (.inr (.inl 154)), some (.inl f), some (.inl t), some (.inl 0), some (.inl ((q_dd (iv 155) (iv 161) (iv 157)) ((10 * f) + t).toNat)), none, none]) (st' := []) rfl ?_
                      refine w_loc rfl ?_
                      refine w_ldcv (v := 1000000) rfl ?_
                      refine w_ige (fun h10 => ?_) (fun h10 => ?_)
                      · first
                        | (exfalso; first | omega | contradiction)
                        | (refine pz_G_of pz_b232_77 ?_
                           refine w_pure rfl ?_
                           refine w_nil ?_
                           refine pz_G_of pz_b232_78 ?_
                           refine w_loc (ls' := [some (.inr (.inl 154)), some (.inl f), some (.inl t), some (.inl 0), some (.inl ((q_dd (iv 155) (iv 161) (iv 157)) ((10 * f) + t).toNat)), some (.inl 0), none]) (st' := []) rfl ?_
                           refine w_pure rfl ?_
                           refine w_loc (ls' := [some (.inr (.inl 154)), some (.inl f), some (.inl t), some (.inl 0), some (.inl ((q_dd (iv 155) (iv 161) (iv 157)) ((10 * f) + t).toNat)), some (.inl 0), some (.inl 0)]) (st' := []) rfl ?_
                           refine w_nil ?_
                           exfalso; first | omega | contradiction)
                      · first
                        | (exfalso; first | omega | contradiction)
                        | (refine w_pure rfl ?_
                           refine w_goto ?_
                           refine pz_G_of pz_b232_78 ?_
                           refine w_loc (ls' := [some (.inr (.inl 154)), some (.inl f), some (.inl t), some (.inl 0), some (.inl ((q_dd (iv 155) (iv 161) (iv 157)) ((10 * f) + t).toNat)), some (.inl 1), none]) (st' := []) rfl ?_
                           refine w_pure rfl ?_
                           refine w_loc (ls' := [some (.inr (.inl 154)), some (.inl f), some (.inl t), some (.inl 0), some (.inl ((q_dd (iv 155) (iv 161) (iv 157)) ((10 * f) + t).toNat)), some (.inl 1), some (.inl 0)]) (st' := []) rfl ?_
                           refine w_nil ?_
                           exfalso; first | omega | contradiction)))
            · first
              | (exfalso; first | omega | contradiction)
              | (refine w_pure rfl ?_
                 refine w_goto ?_
                 refine pz_G_of pz_b232_41 ?_
                 refine w_loc (ls' := [some (.inr (.inl 154)), some (.inl f), some (.inl t), some (.inl 2), none, none, none]) (st' := []) rfl ?_
                 refine w_loc rfl ?_
                 refine w_zle (fun h => absurd h (by decide)) (fun _ => ?_)
                 refine w_loc rfl ?_
                 refine w_loc rfl ?_
                 refine w_pure rfl ?_
                 have hc11 : pz_R (pz_Sh L) 193 [.inr (.inl 154), .inl 2, .inl 0] (pz_u1 (pz_u1 iv 154 (iv 154)) 157 (iv 157)) (.inl (some (.inl (pz_bi ((2 : Int) = 0 ∧ (0 : Int) = 1))))) (pz_u1 (pz_u1 iv 154 (pz_up (iv 154) 0 2)) 157 (iv 157)) := pz_R_mem (s_X11_asks 2 0 (by show 0 = 0 ∨ 0 = 1; omega)) (by rw [pz_u1_in (r := 154) (q := 157) (by decide)]; rw [pz_u1_top (r := 154)]; rfl)
                 refine w_call hc11 rfl (pz_cokI is_154 rfl) ?_
                 refine w_ret (pz_rok1 (pz_bi01 _)) ?_
                 first | exact lf_i (pz_bi_0 (by omega)) (by rfl) | (exfalso; omega)))
       · first
         | (exfalso; first | omega | contradiction)
         | (refine w_nil ?_
            refine pz_G_of pz_b232_16 ?_
            refine w_pure rfl ?_
            refine w_goto ?_
            refine pz_G_of pz_b232_41 ?_
            refine w_loc (ls' := [some (.inr (.inl 154)), some (.inl f), some (.inl t), some (.inl 1), none, none, none]) (st' := []) rfl ?_
            refine w_loc rfl ?_
            refine w_zle (fun h => absurd h (by decide)) (fun _ => ?_)
            refine w_loc rfl ?_
            refine w_loc rfl ?_
            refine w_pure rfl ?_
            have hc12 : pz_R (pz_Sh L) 193 [.inr (.inl 154), .inl 1, .inl 0] (pz_u1 (pz_u1 iv 154 (iv 154)) 157 (iv 157)) (.inl (some (.inl (pz_bi ((1 : Int) = 0 ∧ (0 : Int) = 1))))) (pz_u1 (pz_u1 iv 154 (pz_up (iv 154) 0 1)) 157 (iv 157)) := pz_R_mem (s_X11_asks 1 0 (by show 0 = 0 ∨ 0 = 1; omega)) (by rw [pz_u1_in (r := 154) (q := 157) (by decide)]; rw [pz_u1_top (r := 154)]; rfl)
            refine w_call hc12 rfl (pz_cokI is_154 rfl) ?_
            refine w_ret (pz_rok1 (pz_bi01 _)) ?_
            first | exact lf_i (pz_bi_0 (by omega)) (by rfl) | (exfalso; omega)))

theorem s_X11_isDirect_0 {L : Nat} {iv : Nat → Nat → Int} (f : Int) (t : Int) (hk : q_KR (iv 155)) (hcase0 : 0 ≤ f ∧ f ≤ iv 155 0 - 1 ∧ 0 ≤ t ∧ t ≤ iv 155 0 - 1) (hcase1 : f ≠ t) (hcase2 : q_con (iv 155) (iv 161)) : pz_R (pz_Sh L) 232 [.inr (.inl 154), .inl f, .inl t] iv (.inl (some (.inl (pz_bi (q_dir (q_dd (iv 155) (iv 161) (iv 157)) f t))))) (pz_u1 (pz_u1 iv 154 (pz_up (iv 154) 0 0)) 157 (q_dd (iv 155) (iv 161) (iv 157))) := by
  intro dv cc ss
  have hk0 := hk.r0
  refine pz_G_mem (iv2 := pz_u1 (pz_u1 iv 154 (iv 154)) 157 (iv 157)) (by exact ((pz_u1_self iv 154).symm).trans (pz_u1_self (pz_u1 iv 154 (iv 154)) 157).symm) ?_
  show pz_G 232 0 [some (.inr (.inl 154)), some (.inl f), some (.inl t), none, none, none, none] [] (pz_Sh L, pz_u1 (pz_u1 iv 154 (iv 154)) 157 (iv 157), dv, cc, ss) (pz_P (pz_Sh L) (.inl (some (.inl (pz_bi (q_dir (q_dd (iv 155) (iv 161) (iv 157)) f t))))) (pz_u1 (pz_u1 iv 154 (pz_up (iv 154) 0 0)) 157 (q_dd (iv 155) (iv 161) (iv 157))) dv cc ss)
  refine pz_G_of pz_b232_0 ?_
  refine w_loc rfl ?_
  refine w_loc rfl ?_
  have hc1 : pz_R (pz_Sh L) 194 [.inr (.inl 154), .inl f] (pz_u1 (pz_u1 iv 154 (iv 154)) 157 (iv 157)) (.inl (some (.inl (pz_bi (0 ≤ f ∧ f ≤ (iv 155) 0 - 1))))) (pz_u1 (pz_u1 iv 154 (iv 154)) 157 (iv 157)) := s_X11_isEvent f (by show q_KR (iv 155); exact hk)
  refine w_call hc1 rfl (pz_cokI is_154 rfl) ?_
  refine w_beq (fun h2 => ?_) (fun h2 => ?_)
  · first
    | (exfalso; first | omega | contradiction)
    | (refine pz_G_of pz_b232_16 ?_
       refine w_pure rfl ?_
       refine w_goto ?_
       refine pz_G_of pz_b232_41 ?_
       refine w_loc (ls' := [some (.inr (.inl 154)), some (.inl f), some (.inl t), some (.inl 1), none, none, none]) (st' := []) rfl ?_
       refine w_loc rfl ?_
       refine w_zle (fun h => absurd h (by decide)) (fun _ => ?_)
       refine w_loc rfl ?_
       refine w_loc rfl ?_
       refine w_pure rfl ?_
       have hc3 : pz_R (pz_Sh L) 193 [.inr (.inl 154), .inl 1, .inl 0] (pz_u1 (pz_u1 iv 154 (iv 154)) 157 (iv 157)) (.inl (some (.inl (pz_bi ((1 : Int) = 0 ∧ (0 : Int) = 1))))) (pz_u1 (pz_u1 iv 154 (pz_up (iv 154) 0 1)) 157 (iv 157)) := pz_R_mem (s_X11_asks 1 0 (by show 0 = 0 ∨ 0 = 1; first | omega | (rw [hz]; exact pz_bi01 _))) (by rw [pz_u1_in (r := 154) (q := 157) (by decide)]; rw [pz_u1_top (r := 154)]; rfl)
       refine w_call hc3 rfl (pz_cokI is_154 rfl) ?_
       refine w_ret (pz_rok1 (pz_bi01 _)) ?_
       first | exact lf_i (pz_bi_iff (by rw [show c = 10 by omega] at hz; exact q_fin hz)) rfl | (exfalso; omega))
  · first
    | (exfalso; first | omega | contradiction)
    | (refine w_loc rfl ?_
       refine w_loc rfl ?_
       have hc4 : pz_R (pz_Sh L) 194 [.inr (.inl 154), .inl t] (pz_u1 (pz_u1 iv 154 (iv 154)) 157 (iv 157)) (.inl (some (.inl (pz_bi (0 ≤ t ∧ t ≤ (iv 155) 0 - 1))))) (pz_u1 (pz_u1 iv 154 (iv 154)) 157 (iv 157)) := s_X11_isEvent t (by show q_KR (iv 155); exact hk)
       refine w_call hc4 rfl (pz_cokI is_154 rfl) ?_
       refine w_bne (fun h5 => ?_) (fun h5 => ?_)
       · first
         | (exfalso; first | omega | contradiction)
         | (refine pz_G_of pz_b232_20 ?_
            refine w_loc rfl ?_
            refine w_loc rfl ?_
            refine w_ine (fun h6 => ?_) (fun h6 => ?_)
            · first
              | (exfalso; first | omega | contradiction)
              | (refine pz_G_of pz_b232_29 ?_
                 refine w_loc rfl ?_
                 have hc7 : pz_R (pz_Sh L) 227 [.inr (.inl 154)] (pz_u1 (pz_u1 iv 154 (iv 154)) 157 (iv 157)) (.inl (some (.inl (pz_bi (q_con (iv 155) (iv 161)))))) (pz_u1 (pz_u1 iv 154 (iv 154)) 157 (q_dd (iv 155) (iv 161) (iv 157))) := pz_R_mem (s_X11_isConsistentNow (by show q_KR (iv 155); exact hk)) (by rw [pz_u1_top (r := 157)]; rfl)
                 refine w_call hc7 rfl (pz_cokI is_154 rfl) ?_
                 refine w_beq (fun h8 => ?_) (fun h8 => ?_)
                 · first
                   | (exfalso; first | omega | contradiction)
                   | (refine pz_G_of pz_b232_40 ?_
                      refine w_pure rfl ?_
                      refine w_nil ?_
                      refine pz_G_of pz_b232_41 ?_
                      refine w_loc (ls' := [some (.inr (.inl 154)), some (.inl f), some (.inl t), some (.inl 3), none, none, none]) (st' := []) rfl ?_
                      refine w_loc rfl ?_
                      refine w_zle (fun h => absurd h (by decide)) (fun _ => ?_)
                      refine w_loc rfl ?_
                      refine w_loc rfl ?_
                      refine w_pure rfl ?_
                      have hc9 : pz_R (pz_Sh L) 193 [.inr (.inl 154), .inl 3, .inl 0] (pz_u1 (pz_u1 iv 154 (iv 154)) 157 (q_dd (iv 155) (iv 161) (iv 157))) (.inl (some (.inl (pz_bi ((3 : Int) = 0 ∧ (0 : Int) = 1))))) (pz_u1 (pz_u1 iv 154 (pz_up (iv 154) 0 3)) 157 (q_dd (iv 155) (iv 161) (iv 157))) := pz_R_mem (s_X11_asks 3 0 (by show 0 = 0 ∨ 0 = 1; first | omega | (rw [hz]; exact pz_bi01 _))) (by rw [pz_u1_in (r := 154) (q := 157) (by decide)]; rw [pz_u1_top (r := 154)]; rfl)
                      refine w_call hc9 rfl (pz_cokI is_154 rfl) ?_
                      refine w_ret (pz_rok1 (pz_bi01 _)) ?_
                      first | exact lf_i (pz_bi_iff (by rw [show c = 10 by omega] at hz; exact q_fin hz)) rfl | (exfalso; omega))
                 · first
                   | (exfalso; first | omega | contradiction)
                   | (refine w_pure rfl ?_
                      refine w_goto ?_
                      refine pz_G_of pz_b232_41 ?_
                      refine w_loc (ls' := [some (.inr (.inl 154)), some (.inl f), some (.inl t), some (.inl 0), none, none, none]) (st' := []) rfl ?_
                      refine w_loc rfl ?_
                      refine w_zle (fun _ => ?_) (fun h => absurd h (by decide))
                      refine pz_G_of pz_b232_53 ?_
                      refine w_loc rfl ?_
                      refine w_getR (q := 157) is_154 rf_154_4 ?_
                      refine w_pure rfl ?_
                      refine w_loc rfl ?_
                      refine w_imul (by omega) ?_
                      refine w_loc rfl ?_
                      refine w_iadd (by omega) ?_
                      refine w_iald (v := (q_dd (iv 155) (iv 161) (iv 157)) ((10 * f) + t).toNat) is_157 ln_157 ⟨by omega, by omega⟩ rfl ?_
                      refine w_loc (ls' := [some (.inr (.inl 154)), some (.inl f), some (.inl t), some (.inl 0), some (.inl ((q_dd (iv 155) (iv 161) (iv 157)) ((10 * f) + t).toNat)), none, none]) (st' := []) rfl ?_
                      refine w_loc rfl ?_
                      refine w_ldcv (v := 1000000) rfl ?_
                      refine w_ige (fun h10 => ?_) (fun h10 => ?_)
                      · first
                        | (exfalso; first | omega | contradiction)
                        | (refine pz_G_of pz_b232_77 ?_
                           refine w_pure rfl ?_
                           refine w_nil ?_
                           refine pz_G_of pz_b232_78 ?_
                           refine w_loc (ls' := [some (.inr (.inl 154)), some (.inl f), some (.inl t), some (.inl 0), some (.inl ((q_dd (iv 155) (iv 161) (iv 157)) ((10 * f) + t).toNat)), some (.inl 0), none]) (st' := []) rfl ?_
                           refine w_pure rfl ?_
                           refine w_loc (ls' := [some (.inr (.inl 154)), some (.inl f), some (.inl t), some (.inl 0), some (.inl ((q_dd (iv 155) (iv 161) (iv 157)) ((10 * f) + t).toNat)), some (.inl 0), some (.inl 0)]) (st' := []) rfl ?_
                           refine w_nil ?_
                           have lp83 : ∀ (dd : Nat) (z : Int) (c : Int) (u83_3 : Option pz_V) (hu83_3 : pz_nc u83_3 = true), (10 - c).toNat = dd → ∀ (hc : 0 ≤ c ∧ c ≤ 10), ∀ (hz : z = pz_bi (q_dd (iv 155) (iv 161) (iv 157) (10 * f + t).toNat < 1000000 ∧ q_all (q_dirP (q_dd (iv 155) (iv 161) (iv 157)) f t) c)),  pz_G 232 83 [some (.inr (.inl 154)), some (.inl f), some (.inl t), u83_3, some (.inl ((q_dd (iv 155) (iv 161) (iv 157)) ((10 * f) + t).toNat)), some (.inl z), some (.inl c)] [] (pz_Sh L, pz_u1 (pz_u1 iv 154 (iv 154)) 157 (q_dd (iv 155) (iv 161) (iv 157)), dv, cc, ss) (pz_P (pz_Sh L) (.inl (some (.inl (pz_bi (q_dir (q_dd (iv 155) (iv 161) (iv 157)) f t))))) (pz_u1 (pz_u1 iv 154 (pz_up (iv 154) 0 0)) 157 (q_dd (iv 155) (iv 161) (iv 157))) dv cc ss) := by
                             intro dd83
                             induction dd83 using Nat.strongRecOn with
                             | _ dd83 ih83 =>
                             intro z c u83_3 hu83_3 hd83 hc hz
                             have hr1 := fun h => q_dd_r (g := iv 157) (j := (10 * f + c).toNat) hk hcase2 h
                             have hr2 := fun h => q_dd_r (g := iv 157) (j := (10 * c + t).toNat) hk hcase2 h
                             refine pz_G_of pz_b232_83 ?_
                             refine w_loc rfl ?_
                             refine w_pure rfl ?_
                             refine w_ige (fun h11 => ?_) (fun h11 => ?_)
                             · first
                               | (exfalso; first | omega | contradiction)
                               | (refine pz_G_of pz_b232_184 ?_
                                  refine w_loc rfl ?_
                                  refine w_pure rfl ?_
                                  refine w_loc rfl ?_
                                  have hc12 : pz_R (pz_Sh L) 193 [.inr (.inl 154), .inl 0, .inl z] (pz_u1 (pz_u1 iv 154 (iv 154)) 157 (q_dd (iv 155) (iv 161) (iv 157))) (.inl (some (.inl (pz_bi ((0 : Int) = 0 ∧ (z : Int) = 1))))) (pz_u1 (pz_u1 iv 154 (pz_up (iv 154) 0 0)) 157 (q_dd (iv 155) (iv 161) (iv 157))) := pz_R_mem (s_X11_asks 0 z (by show z = 0 ∨ z = 1; first | omega | (rw [hz]; exact pz_bi01 _))) (by rw [pz_u1_in (r := 154) (q := 157) (by decide)]; rw [pz_u1_top (r := 154)]; rfl)
                                  refine w_call hc12 rfl (pz_cokI is_154 rfl) ?_
                                  refine w_ret (pz_rok1 (pz_bi01 _)) ?_
                                  first | exact lf_i (pz_bi_iff (by rw [show c = 10 by omega] at hz; exact q_fin hz)) rfl | (exfalso; omega))
                             · first
                               | (exfalso; first | omega | contradiction)
                               | (refine w_loc rfl ?_
                                  refine w_zeq (fun h13 => ?_) (fun h13 => ?_)
                                  · first
                                    | (exfalso; first | omega | contradiction)
                                    | (refine pz_G_of pz_b232_175 ?_
                                       refine w_pure rfl ?_
                                       refine w_nil ?_
                                       refine pz_G_of pz_b232_176 ?_
                                       refine w_loc (ls' := [some (.inr (.inl 154)), some (.inl f), some (.inl t), u83_3, some (.inl ((q_dd (iv 155) (iv 161) (iv 157)) ((10 * f) + t).toNat)), some (.inl 0), some (.inl c)]) (st' := []) rfl ?_
                                       refine w_iinc (ls' := [some (.inr (.inl 154)), some (.inl f), some (.inl t), u83_3, some (.inl ((q_dd (iv 155) (iv 161) (iv 157)) ((10 * f) + t).toNat)), some (.inl 0), some (.inl (c + 1))]) rfl rfl rfl (by omega) ?_
                                       refine w_goto ?_
                                       exact ih83 _ (by omega) 0 (c + 1) u83_3 hu83_3 rfl (by omega) (by first | exact q_aal_t hz (by omega) (by omega) (by omega) | exact q_aal_f1 hz (by omega) (by omega) | exact q_aal_f2 (by omega) (by omega)))
                                  · first
                                    | (exfalso; first | omega | contradiction)
                                    | (refine w_loc rfl ?_
                                       refine w_loc rfl ?_
                                       refine w_ieq (fun h14 => ?_) (fun h14 => ?_)
                                       · first
                                         | (exfalso; first | omega | contradiction)
                                         | (refine pz_G_of pz_b232_171 ?_
                                            refine w_pure rfl ?_
                                            refine w_goto ?_
                                            refine pz_G_of pz_b232_176 ?_
                                            refine w_loc (ls' := [some (.inr (.inl 154)), some (.inl f), some (.inl t), u83_3, some (.inl ((q_dd (iv 155) (iv 161) (iv 157)) ((10 * f) + t).toNat)), some (.inl 1), some (.inl c)]) (st' := []) rfl ?_
                                            refine w_iinc (ls' := [some (.inr (.inl 154)), some (.inl f), some (.inl t), u83_3, some (.inl ((q_dd (iv 155) (iv 161) (iv 157)) ((10 * f) + t).toNat)), some (.inl 1), some (.inl (c + 1))]) rfl rfl rfl (by omega) ?_
                                            refine w_goto ?_
                                            exact ih83 _ (by omega) 1 (c + 1) u83_3 hu83_3 rfl (by omega) (by first | exact q_aal_t hz (by omega) (by omega) (by omega) | exact q_aal_f1 hz (by omega) (by omega) | exact q_aal_f2 (by omega) (by omega)))
                                       · first
                                         | (exfalso; first | omega | contradiction)
                                         | (refine w_loc rfl ?_
                                            refine w_loc rfl ?_
                                            refine w_ieq (fun h15 => ?_) (fun h15 => ?_)
                                            · first
                                              | (exfalso; first | omega | contradiction)
                                              | (refine pz_G_of pz_b232_171 ?_
                                                 refine w_pure rfl ?_
                                                 refine w_goto ?_
                                                 refine pz_G_of pz_b232_176 ?_
                                                 refine w_loc (ls' := [some (.inr (.inl 154)), some (.inl f), some (.inl t), u83_3, some (.inl ((q_dd (iv 155) (iv 161) (iv 157)) ((10 * f) + t).toNat)), some (.inl 1), some (.inl c)]) (st' := []) rfl ?_
                                                 refine w_iinc (ls' := [some (.inr (.inl 154)), some (.inl f), some (.inl t), u83_3, some (.inl ((q_dd (iv 155) (iv 161) (iv 157)) ((10 * f) + t).toNat)), some (.inl 1), some (.inl (c + 1))]) rfl rfl rfl (by omega) ?_
                                                 refine w_goto ?_
                                                 exact ih83 _ (by omega) 1 (c + 1) u83_3 hu83_3 rfl (by omega) (by first | exact q_aal_t hz (by omega) (by omega) (by omega) | exact q_aal_f1 hz (by omega) (by omega) | exact q_aal_f2 (by omega) (by omega)))
                                            · first
                                              | (exfalso; first | omega | contradiction)
                                              | (refine w_loc rfl ?_
                                                 refine w_getR (q := 157) is_154 rf_154_4 ?_
                                                 refine w_pure rfl ?_
                                                 refine w_loc rfl ?_
                                                 refine w_imul (by omega) ?_
                                                 refine w_loc rfl ?_
                                                 refine w_iadd (by omega) ?_
                                                 refine w_iald (v := (q_dd (iv 155) (iv 161) (iv 157)) ((10 * f) + c).toNat) is_157 ln_157 ⟨by omega, by omega⟩ rfl ?_
                                                 refine w_ldcv (v := 1000000) rfl ?_
                                                 refine w_ieq (fun h16 => ?_) (fun h16 => ?_)
                                                 · first
                                                   | (exfalso; first | omega | contradiction)
                                                   | (refine pz_G_of pz_b232_171 ?_
                                                      refine w_pure rfl ?_
                                                      refine w_goto ?_
                                                      refine pz_G_of pz_b232_176 ?_
                                                      refine w_loc (ls' := [some (.inr (.inl 154)), some (.inl f), some (.inl t), u83_3, some (.inl ((q_dd (iv 155) (iv 161) (iv 157)) ((10 * f) + t).toNat)), some (.inl 1), some (.inl c)]) (st' := []) rfl ?_
                                                      refine w_iinc (ls' := [some (.inr (.inl 154)), some (.inl f), some (.inl t), u83_3, some (.inl ((q_dd (iv 155) (iv 161) (iv 157)) ((10 * f) + t).toNat)), some (.inl 1), some (.inl (c + 1))]) rfl rfl rfl (by omega) ?_
                                                      refine w_goto ?_
                                                      exact ih83 _ (by omega) 1 (c + 1) u83_3 hu83_3 rfl (by omega) (by first | exact q_aal_t hz (by omega) (by omega) (by omega) | exact q_aal_f1 hz (by omega) (by omega) | exact q_aal_f2 (by omega) (by omega)))
                                                 · first
                                                   | (exfalso; first | omega | contradiction)
                                                   | (refine w_loc rfl ?_
                                                      refine w_getR (q := 157) is_154 rf_154_4 ?_
                                                      refine w_pure rfl ?_
                                                      refine w_loc rfl ?_
                                                      refine w_imul (by omega) ?_
                                                      refine w_loc rfl ?_
                                                      refine w_iadd (by omega) ?_
                                                      refine w_iald (v := (q_dd (iv 155) (iv 161) (iv 157)) ((10 * c) + t).toNat) is_157 ln_157 ⟨by omega, by omega⟩ rfl ?_
                                                      refine w_ldcv (v := 1000000) rfl ?_
                                                      refine w_ieq (fun h17 => ?_) (fun h17 => ?_)
                                                      · first
                                                        | (exfalso; first | omega | contradiction)
                                                        | (refine pz_G_of pz_b232_171 ?_
                                                           refine w_pure rfl ?_
                                                           refine w_goto ?_
                                                           refine pz_G_of pz_b232_176 ?_
                                                           refine w_loc (ls' := [some (.inr (.inl 154)), some (.inl f), some (.inl t), u83_3, some (.inl ((q_dd (iv 155) (iv 161) (iv 157)) ((10 * f) + t).toNat)), some (.inl 1), some (.inl c)]) (st' := []) rfl ?_
                                                           refine w_iinc (ls' := [some (.inr (.inl 154)), some (.inl f), some (.inl t), u83_3, some (.inl ((q_dd (iv 155) (iv 161) (iv 157)) ((10 * f) + t).toNat)), some (.inl 1), some (.inl (c + 1))]) rfl rfl rfl (by omega) ?_
                                                           refine w_goto ?_
                                                           exact ih83 _ (by omega) 1 (c + 1) u83_3 hu83_3 rfl (by omega) (by first | exact q_aal_t hz (by omega) (by omega) (by omega) | exact q_aal_f1 hz (by omega) (by omega) | exact q_aal_f2 (by omega) (by omega)))
                                                      · first
                                                        | (exfalso; first | omega | contradiction)
                                                        | (refine w_loc rfl ?_
                                                           refine w_getR (q := 157) is_154 rf_154_4 ?_
                                                           refine w_pure rfl ?_
                                                           refine w_loc rfl ?_
                                                           refine w_imul (by omega) ?_
                                                           refine w_loc rfl ?_
                                                           refine w_iadd (by omega) ?_
                                                           refine w_iald (v := (q_dd (iv 155) (iv 161) (iv 157)) ((10 * f) + c).toNat) is_157 ln_157 ⟨by omega, by omega⟩ rfl ?_
                                                           refine w_loc rfl ?_
                                                           refine w_getR (q := 157) is_154 rf_154_4 ?_
                                                           refine w_pure rfl ?_
                                                           refine w_loc rfl ?_
                                                           refine w_imul (by omega) ?_
                                                           refine w_loc rfl ?_
                                                           refine w_iadd (by omega) ?_
                                                           refine w_iald (v := (q_dd (iv 155) (iv 161) (iv 157)) ((10 * c) + t).toNat) is_157 ln_157 ⟨by omega, by omega⟩ rfl ?_
                                                           refine w_iadd (by omega) ?_
                                                           refine w_loc rfl ?_
                                                           refine w_ieq (fun h18 => ?_) (fun h18 => ?_)
                                                           · first
                                                             | (exfalso; first | omega | contradiction)
                                                             | (refine pz_G_of pz_b232_175 ?_
                                                                refine w_pure rfl ?_
                                                                refine w_nil ?_
                                                                refine pz_G_of pz_b232_176 ?_
                                                                refine w_loc (ls' := [some (.inr (.inl 154)), some (.inl f), some (.inl t), u83_3, some (.inl ((q_dd (iv 155) (iv 161) (iv 157)) ((10 * f) + t).toNat)), some (.inl 0), some (.inl c)]) (st' := []) rfl ?_
                                                                refine w_iinc (ls' := [some (.inr (.inl 154)), some (.inl f), some (.inl t), u83_3, some (.inl ((q_dd (iv 155) (iv 161) (iv 157)) ((10 * f) + t).toNat)), some (.inl 0), some (.inl (c + 1))]) rfl rfl rfl (by omega) ?_
                                                                refine w_goto ?_
                                                                exact ih83 _ (by omega) 0 (c + 1) u83_3 hu83_3 rfl (by omega) (by first | exact q_aal_t hz (by omega) (by omega) (by omega) | exact q_aal_f1 hz (by omega) (by omega) | exact q_aal_f2 (by omega) (by omega)))
                                                           · first
                                                             | (exfalso; first | omega | contradiction)
                                                             | (refine w_nil ?_
                                                                refine pz_G_of pz_b232_171 ?_
                                                                refine w_pure rfl ?_
                                                                refine w_goto ?_
                                                                refine pz_G_of pz_b232_176 ?_
                                                                refine w_loc (ls' := [some (.inr (.inl 154)), some (.inl f), some (.inl t), u83_3, some (.inl ((q_dd (iv 155) (iv 161) (iv 157)) ((10 * f) + t).toNat)), some (.inl 1), some (.inl c)]) (st' := []) rfl ?_
                                                                refine w_iinc (ls' := [some (.inr (.inl 154)), some (.inl f), some (.inl t), u83_3, some (.inl ((q_dd (iv 155) (iv 161) (iv 157)) ((10 * f) + t).toNat)), some (.inl 1), some (.inl (c + 1))]) rfl rfl rfl (by omega) ?_
                                                                refine w_goto ?_
                                                                exact ih83 _ (by omega) 1 (c + 1) u83_3 hu83_3 rfl (by omega) (by first | exact q_aal_t hz (by omega) (by omega) (by omega) | exact q_aal_f1 hz (by omega) (by omega) | exact q_aal_f2 (by omega) (by omega)))))))))
                           exact lp83 _ 0 0 (some (.inl 0)) rfl rfl (by omega) (by first | exact q_aal_0t (by omega) | exact q_aal_0f (by omega)))
                      · first
                        | (exfalso; first | omega | contradiction)
                        | (refine w_pure rfl ?_
                           refine w_goto ?_
                           refine pz_G_of pz_b232_78 ?_
                           refine w_loc (ls' := [some (.inr (.inl 154)), some (.inl f), some (.inl t), some (.inl 0), some (.inl ((q_dd (iv 155) (iv 161) (iv 157)) ((10 * f) + t).toNat)), some (.inl 1), none]) (st' := []) rfl ?_
                           refine w_pure rfl ?_
                           refine w_loc (ls' := [some (.inr (.inl 154)), some (.inl f), some (.inl t), some (.inl 0), some (.inl ((q_dd (iv 155) (iv 161) (iv 157)) ((10 * f) + t).toNat)), some (.inl 1), some (.inl 0)]) (st' := []) rfl ?_
                           refine w_nil ?_
                           have lp83 : ∀ (dd : Nat) (z : Int) (c : Int) (u83_3 : Option pz_V) (hu83_3 : pz_nc u83_3 = true), (10 - c).toNat = dd → ∀ (hc : 0 ≤ c ∧ c ≤ 10), ∀ (hz : z = pz_bi (q_dd (iv 155) (iv 161) (iv 157) (10 * f + t).toNat < 1000000 ∧ q_all (q_dirP (q_dd (iv 155) (iv 161) (iv 157)) f t) c)),  pz_G 232 83 [some (.inr (.inl 154)), some (.inl f), some (.inl t), u83_3, some (.inl ((q_dd (iv 155) (iv 161) (iv 157)) ((10 * f) + t).toNat)), some (.inl z), some (.inl c)] [] (pz_Sh L, pz_u1 (pz_u1 iv 154 (iv 154)) 157 (q_dd (iv 155) (iv 161) (iv 157)), dv, cc, ss) (pz_P (pz_Sh L) (.inl (some (.inl (pz_bi (q_dir (q_dd (iv 155) (iv 161) (iv 157)) f t))))) (pz_u1 (pz_u1 iv 154 (pz_up (iv 154) 0 0)) 157 (q_dd (iv 155) (iv 161) (iv 157))) dv cc ss) := by
                             intro dd83
                             induction dd83 using Nat.strongRecOn with
                             | _ dd83 ih83 =>
                             intro z c u83_3 hu83_3 hd83 hc hz
                             have hr1 := fun h => q_dd_r (g := iv 157) (j := (10 * f + c).toNat) hk hcase2 h
                             have hr2 := fun h => q_dd_r (g := iv 157) (j := (10 * c + t).toNat) hk hcase2 h
                             refine pz_G_of pz_b232_83 ?_
                             refine w_loc rfl ?_
                             refine w_pure rfl ?_
                             refine w_ige (fun h19 => ?_) (fun h19 => ?_)
                             · first
                               | (exfalso; first | omega | contradiction)
                               | (refine pz_G_of pz_b232_184 ?_
                                  refine w_loc rfl ?_
                                  refine w_pure rfl ?_
                                  refine w_loc rfl ?_
                                  have hc20 : pz_R (pz_Sh L) 193 [.inr (.inl 154), .inl 0, .inl z] (pz_u1 (pz_u1 iv 154 (iv 154)) 157 (q_dd (iv 155) (iv 161) (iv 157))) (.inl (some (.inl (pz_bi ((0 : Int) = 0 ∧ (z : Int) = 1))))) (pz_u1 (pz_u1 iv 154 (pz_up (iv 154) 0 0)) 157 (q_dd (iv 155) (iv 161) (iv 157))) := pz_R_mem (s_X11_asks 0 z (by show z = 0 ∨ z = 1; first | omega | (rw [hz]; exact pz_bi01 _))) (by rw [pz_u1_in (r := 154) (q := 157) (by decide)]; rw [pz_u1_top (r := 154)]; rfl)
                                  refine w_call hc20 rfl (pz_cokI is_154 rfl) ?_
                                  refine w_ret (pz_rok1 (pz_bi01 _)) ?_
                                  first | exact lf_i (pz_bi_iff (by rw [show c = 10 by omega] at hz; exact q_fin hz)) rfl | (exfalso; omega))
                             · first
                               | (exfalso; first | omega | contradiction)
                               | (refine w_loc rfl ?_
                                  refine w_zeq (fun h21 => ?_) (fun h21 => ?_)
                                  · first
                                    | (exfalso; first | omega | contradiction)
                                    | (refine pz_G_of pz_b232_175 ?_
                                       refine w_pure rfl ?_
                                       refine w_nil ?_
                                       refine pz_G_of pz_b232_176 ?_
                                       refine w_loc (ls' := [some (.inr (.inl 154)), some (.inl f), some (.inl t), u83_3, some (.inl ((q_dd (iv 155) (iv 161) (iv 157)) ((10 * f) + t).toNat)), some (.inl 0), some (.inl c)]) (st' := []) rfl ?_
                                       refine w_iinc (ls' := [some (.inr (.inl 154)), some (.inl f), some (.inl t), u83_3, some (.inl ((q_dd (iv 155) (iv 161) (iv 157)) ((10 * f) + t).toNat)), some (.inl 0), some (.inl (c + 1))]) rfl rfl rfl (by omega) ?_
                                       refine w_goto ?_
                                       exact ih83 _ (by omega) 0 (c + 1) u83_3 hu83_3 rfl (by omega) (by first | exact q_aal_t hz (by omega) (by omega) (by omega) | exact q_aal_f1 hz (by omega) (by omega) | exact q_aal_f2 (by omega) (by omega)))
                                  · first
                                    | (exfalso; first | omega | contradiction)
                                    | (refine w_loc rfl ?_
                                       refine w_loc rfl ?_
                                       refine w_ieq (fun h22 => ?_) (fun h22 => ?_)
                                       · first
                                         | (exfalso; first | omega | contradiction)
                                         | (refine pz_G_of pz_b232_171 ?_
                                            refine w_pure rfl ?_
                                            refine w_goto ?_
                                            refine pz_G_of pz_b232_176 ?_
                                            refine w_loc (ls' := [some (.inr (.inl 154)), some (.inl f), some (.inl t), u83_3, some (.inl ((q_dd (iv 155) (iv 161) (iv 157)) ((10 * f) + t).toNat)), some (.inl 1), some (.inl c)]) (st' := []) rfl ?_
                                            refine w_iinc (ls' := [some (.inr (.inl 154)), some (.inl f), some (.inl t), u83_3, some (.inl ((q_dd (iv 155) (iv 161) (iv 157)) ((10 * f) + t).toNat)), some (.inl 1), some (.inl (c + 1))]) rfl rfl rfl (by omega) ?_
                                            refine w_goto ?_
                                            exact ih83 _ (by omega) 1 (c + 1) u83_3 hu83_3 rfl (by omega) (by first | exact q_aal_t hz (by omega) (by omega) (by omega) | exact q_aal_f1 hz (by omega) (by omega) | exact q_aal_f2 (by omega) (by omega)))
                                       · first
                                         | (exfalso; first | omega | contradiction)
                                         | (refine w_loc rfl ?_
                                            refine w_loc rfl ?_
                                            refine w_ieq (fun h23 => ?_) (fun h23 => ?_)
                                            · first
                                              | (exfalso; first | omega | contradiction)
                                              | (refine pz_G_of pz_b232_171 ?_
                                                 refine w_pure rfl ?_
                                                 refine w_goto ?_
                                                 refine pz_G_of pz_b232_176 ?_
                                                 refine w_loc (ls' := [some (.inr (.inl 154)), some (.inl f), some (.inl t), u83_3, some (.inl ((q_dd (iv 155) (iv 161) (iv 157)) ((10 * f) + t).toNat)), some (.inl 1), some (.inl c)]) (st' := []) rfl ?_
                                                 refine w_iinc (ls' := [some (.inr (.inl 154)), some (.inl f), some (.inl t), u83_3, some (.inl ((q_dd (iv 155) (iv 161) (iv 157)) ((10 * f) + t).toNat)), some (.inl 1), some (.inl (c + 1))]) rfl rfl rfl (by omega) ?_
                                                 refine w_goto ?_
                                                 exact ih83 _ (by omega) 1 (c + 1) u83_3 hu83_3 rfl (by omega) (by first | exact q_aal_t hz (by omega) (by omega) (by omega) | exact q_aal_f1 hz (by omega) (by omega) | exact q_aal_f2 (by omega) (by omega)))
                                            · first
                                              | (exfalso; first | omega | contradiction)
                                              | (refine w_loc rfl ?_
                                                 refine w_getR (q := 157) is_154 rf_154_4 ?_
                                                 refine w_pure rfl ?_
                                                 refine w_loc rfl ?_
                                                 refine w_imul (by omega) ?_
                                                 refine w_loc rfl ?_
                                                 refine w_iadd (by omega) ?_
                                                 refine w_iald (v := (q_dd (iv 155) (iv 161) (iv 157)) ((10 * f) + c).toNat) is_157 ln_157 ⟨by omega, by omega⟩ rfl ?_
                                                 refine w_ldcv (v := 1000000) rfl ?_
                                                 refine w_ieq (fun h24 => ?_) (fun h24 => ?_)
                                                 · first
                                                   | (exfalso; first | omega | contradiction)
                                                   | (refine pz_G_of pz_b232_171 ?_
                                                      refine w_pure rfl ?_
                                                      refine w_goto ?_
                                                      refine pz_G_of pz_b232_176 ?_
                                                      refine w_loc (ls' := [some (.inr (.inl 154)), some (.inl f), some (.inl t), u83_3, some (.inl ((q_dd (iv 155) (iv 161) (iv 157)) ((10 * f) + t).toNat)), some (.inl 1), some (.inl c)]) (st' := []) rfl ?_
                                                      refine w_iinc (ls' := [some (.inr (.inl 154)), some (.inl f), some (.inl t), u83_3, some (.inl ((q_dd (iv 155) (iv 161) (iv 157)) ((10 * f) + t).toNat)), some (.inl 1), some (.inl (c + 1))]) rfl rfl rfl (by omega) ?_
                                                      refine w_goto ?_
                                                      exact ih83 _ (by omega) 1 (c + 1) u83_3 hu83_3 rfl (by omega) (by first | exact q_aal_t hz (by omega) (by omega) (by omega) | exact q_aal_f1 hz (by omega) (by omega) | exact q_aal_f2 (by omega) (by omega)))
                                                 · first
                                                   | (exfalso; first | omega | contradiction)
                                                   | (refine w_loc rfl ?_
                                                      refine w_getR (q := 157) is_154 rf_154_4 ?_
                                                      refine w_pure rfl ?_
                                                      refine w_loc rfl ?_
                                                      refine w_imul (by omega) ?_
                                                      refine w_loc rfl ?_
                                                      refine w_iadd (by omega) ?_
                                                      refine w_iald (v := (q_dd (iv 155) (iv 161) (iv 157)) ((10 * c) + t).toNat) is_157 ln_157 ⟨by omega, by omega⟩ rfl ?_
                                                      refine w_ldcv (v := 1000000) rfl ?_
                                                      refine w_ieq (fun h25 => ?_) (fun h25 => ?_)
                                                      · first
                                                        | (exfalso; first | omega | contradiction)
                                                        | (refine pz_G_of pz_b232_171 ?_
                                                           refine w_pure rfl ?_
                                                           refine w_goto ?_
                                                           refine pz_G_of pz_b232_176 ?_
                                                           refine w_loc (ls' := [some (.inr (.inl 154)), some (.inl f), some (.inl t), u83_3, some (.inl ((q_dd (iv 155) (iv 161) (iv 157)) ((10 * f) + t).toNat)), some (.inl 1), some (.inl c)]) (st' := []) rfl ?_
                                                           refine w_iinc (ls' := [some (.inr (.inl 154)), some (.inl f), some (.inl t), u83_3, some (.inl ((q_dd (iv 155) (iv 161) (iv 157)) ((10 * f) + t).toNat)), some (.inl 1), some (.inl (c + 1))]) rfl rfl rfl (by omega) ?_
                                                           refine w_goto ?_
                                                           exact ih83 _ (by omega) 1 (c + 1) u83_3 hu83_3 rfl (by omega) (by first | exact q_aal_t hz (by omega) (by omega) (by omega) | exact q_aal_f1 hz (by omega) (by omega) | exact q_aal_f2 (by omega) (by omega)))
                                                      · first
                                                        | (exfalso; first | omega | contradiction)
                                                        | (refine w_loc rfl ?_
                                                           refine w_getR (q := 157) is_154 rf_154_4 ?_
                                                           refine w_pure rfl ?_
                                                           refine w_loc rfl ?_
                                                           refine w_imul (by omega) ?_
                                                           refine w_loc rfl ?_
                                                           refine w_iadd (by omega) ?_
                                                           refine w_iald (v := (q_dd (iv 155) (iv 161) (iv 157)) ((10 * f) + c).toNat) is_157 ln_157 ⟨by omega, by omega⟩ rfl ?_
                                                           refine w_loc rfl ?_
                                                           refine w_getR (q := 157) is_154 rf_154_4 ?_
                                                           refine w_pure rfl ?_
                                                           refine w_loc rfl ?_
                                                           refine w_imul (by omega) ?_
                                                           refine w_loc rfl ?_
                                                           refine w_iadd (by omega) ?_
                                                           refine w_iald (v := (q_dd (iv 155) (iv 161) (iv 157)) ((10 * c) + t).toNat) is_157 ln_157 ⟨by omega, by omega⟩ rfl ?_
                                                           refine w_iadd (by omega) ?_
                                                           refine w_loc rfl ?_
                                                           refine w_ieq (fun h26 => ?_) (fun h26 => ?_)
                                                           · first
                                                             | (exfalso; first | omega | contradiction)
                                                             | (refine pz_G_of pz_b232_175 ?_
                                                                refine w_pure rfl ?_
                                                                refine w_nil ?_
                                                                refine pz_G_of pz_b232_176 ?_
                                                                refine w_loc (ls' := [some (.inr (.inl 154)), some (.inl f), some (.inl t), u83_3, some (.inl ((q_dd (iv 155) (iv 161) (iv 157)) ((10 * f) + t).toNat)), some (.inl 0), some (.inl c)]) (st' := []) rfl ?_
                                                                refine w_iinc (ls' := [some (.inr (.inl 154)), some (.inl f), some (.inl t), u83_3, some (.inl ((q_dd (iv 155) (iv 161) (iv 157)) ((10 * f) + t).toNat)), some (.inl 0), some (.inl (c + 1))]) rfl rfl rfl (by omega) ?_
                                                                refine w_goto ?_
                                                                exact ih83 _ (by omega) 0 (c + 1) u83_3 hu83_3 rfl (by omega) (by first | exact q_aal_t hz (by omega) (by omega) (by omega) | exact q_aal_f1 hz (by omega) (by omega) | exact q_aal_f2 (by omega) (by omega)))
                                                           · first
                                                             | (exfalso; first | omega | contradiction)
                                                             | (refine w_nil ?_
                                                                refine pz_G_of pz_b232_171 ?_
                                                                refine w_pure rfl ?_
                                                                refine w_goto ?_
                                                                refine pz_G_of pz_b232_176 ?_
                                                                refine w_loc (ls' := [some (.inr (.inl 154)), some (.inl f), some (.inl t), u83_3, some (.inl ((q_dd (iv 155) (iv 161) (iv 157)) ((10 * f) + t).toNat)), some (.inl 1), some (.inl c)]) (st' := []) rfl ?_
                                                                refine w_iinc (ls' := [some (.inr (.inl 154)), some (.inl f), some (.inl t), u83_3, some (.inl ((q_dd (iv 155) (iv 161) (iv 157)) ((10 * f) + t).toNat)), some (.inl 1), some (.inl (c + 1))]) rfl rfl rfl (by omega) ?_
                                                                refine w_goto ?_
                                                                exact ih83 _ (by omega) 1 (c + 1) u83_3 hu83_3 rfl (by omega) (by first | exact q_aal_t hz (by omega) (by omega) (by omega) | exact q_aal_f1 hz (by omega) (by omega) | exact q_aal_f2 (by omega) (by omega)))))))))
                           exact lp83 _ 1 0 (some (.inl 0)) rfl rfl (by omega) (by first | exact q_aal_0t (by omega) | exact q_aal_0f (by omega)))))
            · first
              | (exfalso; first | omega | contradiction)
              | (refine w_pure rfl ?_
                 refine w_goto ?_
                 refine pz_G_of pz_b232_41 ?_
                 refine w_loc (ls' := [some (.inr (.inl 154)), some (.inl f), some (.inl t), some (.inl 2), none, none, none]) (st' := []) rfl ?_
                 refine w_loc rfl ?_
                 refine w_zle (fun h => absurd h (by decide)) (fun _ => ?_)
                 refine w_loc rfl ?_
                 refine w_loc rfl ?_
                 refine w_pure rfl ?_
                 have hc27 : pz_R (pz_Sh L) 193 [.inr (.inl 154), .inl 2, .inl 0] (pz_u1 (pz_u1 iv 154 (iv 154)) 157 (iv 157)) (.inl (some (.inl (pz_bi ((2 : Int) = 0 ∧ (0 : Int) = 1))))) (pz_u1 (pz_u1 iv 154 (pz_up (iv 154) 0 2)) 157 (iv 157)) := pz_R_mem (s_X11_asks 2 0 (by show 0 = 0 ∨ 0 = 1; first | omega | (rw [hz]; exact pz_bi01 _))) (by rw [pz_u1_in (r := 154) (q := 157) (by decide)]; rw [pz_u1_top (r := 154)]; rfl)
                 refine w_call hc27 rfl (pz_cokI is_154 rfl) ?_
                 refine w_ret (pz_rok1 (pz_bi01 _)) ?_
                 first | exact lf_i (pz_bi_iff (by rw [show c = 10 by omega] at hz; exact q_fin hz)) rfl | (exfalso; omega)))
       · first
         | (exfalso; first | omega | contradiction)
         | (refine w_nil ?_
            refine pz_G_of pz_b232_16 ?_
            refine w_pure rfl ?_
            refine w_goto ?_
            refine pz_G_of pz_b232_41 ?_
            refine w_loc (ls' := [some (.inr (.inl 154)), some (.inl f), some (.inl t), some (.inl 1), none, none, none]) (st' := []) rfl ?_
            refine w_loc rfl ?_
            refine w_zle (fun h => absurd h (by decide)) (fun _ => ?_)
            refine w_loc rfl ?_
            refine w_loc rfl ?_
            refine w_pure rfl ?_
            have hc28 : pz_R (pz_Sh L) 193 [.inr (.inl 154), .inl 1, .inl 0] (pz_u1 (pz_u1 iv 154 (iv 154)) 157 (iv 157)) (.inl (some (.inl (pz_bi ((1 : Int) = 0 ∧ (0 : Int) = 1))))) (pz_u1 (pz_u1 iv 154 (pz_up (iv 154) 0 1)) 157 (iv 157)) := pz_R_mem (s_X11_asks 1 0 (by show 0 = 0 ∨ 0 = 1; first | omega | (rw [hz]; exact pz_bi01 _))) (by rw [pz_u1_in (r := 154) (q := 157) (by decide)]; rw [pz_u1_top (r := 154)]; rfl)
            refine w_call hc28 rfl (pz_cokI is_154 rfl) ?_
            refine w_ret (pz_rok1 (pz_bi01 _)) ?_
            first | exact lf_i (pz_bi_iff (by rw [show c = 10 by omega] at hz; exact q_fin hz)) rfl | (exfalso; omega)))

theorem s_X11_takesBackIn {L : Nat} {iv : Nat → Nat → Int} : pz_R (pz_Sh L) 234 [.inr (.inl 154)] iv (.inl none) (pz_u1 iv 161 (q_z40 (iv 161))) := by
  intro dv cc ss
  refine pz_G_mem (iv2 := pz_u1 iv 161 (iv 161)) (by exact (pz_u1_self iv 161).symm) ?_
  show pz_G 234 0 [some (.inr (.inl 154)), none] [] (pz_Sh L, pz_u1 iv 161 (iv 161), dv, cc, ss) (pz_P (pz_Sh L) (.inl none) (pz_u1 iv 161 (q_z40 (iv 161))) dv cc ss)
  refine pz_G_of pz_b234_0 ?_
  refine w_pure rfl ?_
  refine w_loc (ls' := [some (.inr (.inl 154)), some (.inl 0)]) (st' := []) rfl ?_
  refine w_nil ?_
  have lp2 : ∀ (dd : Nat) (i : Int) (f : Nat → Int) , (40 - i).toNat = dd → ∀ (hi : 0 ≤ i ∧ i ≤ 40), ∀ (hf : ∀ j : Nat, f j = if (j : Int) < i then 0 else iv 161 j),  pz_G 234 2 [some (.inr (.inl 154)), some (.inl i)] [] (pz_Sh L, pz_u1 iv 161 f, dv, cc, ss) (pz_P (pz_Sh L) (.inl none) (pz_u1 iv 161 (q_z40 (iv 161))) dv cc ss) := by
    intro dd2
    induction dd2 using Nat.strongRecOn with
    | _ dd2 ih2 =>
    intro i f  hd2 hi hf
    refine pz_G_of pz_b234_2 ?_
    refine w_loc rfl ?_
    refine w_pure rfl ?_
    refine w_ige (fun h1 => ?_) (fun h1 => ?_)
    · refine pz_G_of pz_b234_21 ?_
      refine w_vret ?_
      exact lf_v (by rw [show f = q_z40 (iv 161) from by funext j; rw [hf j]; unfold q_z40; (repeat' split) <;> first | rfl | omega])
    · refine w_loc rfl ?_
      refine w_getR (q := 161) is_154 rf_154_10 ?_
      refine w_loc rfl ?_
      refine w_pure rfl ?_
      refine w_bastm (iv2 := pz_u1 iv 161 (pz_up f i.toNat 0)) is_161 ln_161 ⟨by omega, by omega⟩ (Or.inl rfl) (by exact pz_u2_top _ _ _ _ _) ?_
      refine w_iinc (ls' := [some (.inr (.inl 154)), some (.inl (i + 1))]) rfl rfl rfl (by omega) ?_
      refine w_goto ?_
      exact ih2 _ (by omega) (i + 1) (pz_up f i.toNat 0)  rfl (by omega) (by intro j; rw [pz_up_at, hf j]; (repeat' split) <;> first | rfl | omega)
  exact lp2 _ 0 (iv 161)  rfl (by omega) (by intro j; rw [if_neg (by omega)])

theorem s_X11_conflicts {L : Nat} {iv : Nat → Nat → Int} (hk : q_KR (iv 155)) : pz_R (pz_Sh L) 233 [.inr (.inl 154)] iv (.inl (some (.inl (q_cnt (q_kept (iv 155) (iv 161) (iv 157)) ((iv 155) 1))))) (pz_u1 (pz_u1 iv 157 ((q_cf (iv 155) ((iv 155) 1) (iv 161) (iv 157)).2)) 161 ((q_cf (iv 155) ((iv 155) 1) (iv 161) (iv 157)).1)) := by
  intro dv cc ss
  have hk0 := hk.r0
  refine pz_G_mem (iv2 := pz_u1 (pz_u1 iv 157 (iv 157)) 161 (iv 161)) (by exact ((pz_u1_self iv 157).symm).trans (pz_u1_self (pz_u1 iv 157 (iv 157)) 161).symm) ?_
  show pz_G 233 0 [some (.inr (.inl 154)), none, none] [] (pz_Sh L, pz_u1 (pz_u1 iv 157 (iv 157)) 161 (iv 161), dv, cc, ss) (pz_P (pz_Sh L) (.inl (some (.inl (q_cnt (q_kept (iv 155) (iv 161) (iv 157)) ((iv 155) 1))))) (pz_u1 (pz_u1 iv 157 ((q_cf (iv 155) ((iv 155) 1) (iv 161) (iv 157)).2)) 161 ((q_cf (iv 155) ((iv 155) 1) (iv 161) (iv 157)).1)) dv cc ss)
  refine pz_G_of pz_b233_0 ?_
  refine w_pure rfl ?_
  refine w_loc (ls' := [some (.inr (.inl 154)), some (.inl 0), none]) (st' := []) rfl ?_
  refine w_pure rfl ?_
  refine w_loc (ls' := [some (.inr (.inl 154)), some (.inl 0), some (.inl 0)]) (st' := []) rfl ?_
  refine w_nil ?_
  have lp4 : ∀ (dd : Nat) (n : Int) (b : Int) (g : Nat → Int) (lf : Nat → Int) , ((iv 155) 1 - b).toNat = dd → ∀ (hb : 0 ≤ b ∧ b ≤ (iv 155) 1), ∀ (hs : (lf, g) = q_cf (iv 155) b (iv 161) (iv 157)), ∀ (hn : n = q_cnt (q_kept (iv 155) (iv 161) (iv 157)) b),  pz_G 233 4 [some (.inr (.inl 154)), some (.inl n), some (.inl b)] [] (pz_Sh L, pz_u1 (pz_u1 iv 157 g) 161 lf, dv, cc, ss) (pz_P (pz_Sh L) (.inl (some (.inl (q_cnt (q_kept (iv 155) (iv 161) (iv 157)) ((iv 155) 1))))) (pz_u1 (pz_u1 iv 157 ((q_cf (iv 155) ((iv 155) 1) (iv 161) (iv 157)).2)) 161 ((q_cf (iv 155) ((iv 155) 1) (iv 161) (iv 157)).1)) dv cc ss) := by
    intro dd4
    induction dd4 using Nat.strongRecOn with
    | _ dd4 ih4 =>
    intro n b g lf  hd4 hb hs hn
    have hbr := fun h => hk.bd hb.1 h
    have hcr := q_cnt_r (q_kept (iv 155) (iv 161) (iv 157)) hb.1
    have hs1 : (q_cf (iv 155) b (iv 161) (iv 157)).1 = lf := by rw [← hs]
    refine pz_G_of pz_b233_4 ?_
    refine w_loc rfl ?_
    refine w_loc rfl ?_
    refine w_getR (q := 155) is_154 rf_154_1 ?_
    refine w_pure rfl ?_
    refine w_iald (v := (iv 155) 1) is_155 ln_155 ⟨by omega, by omega⟩ rfl ?_
    refine w_ige (fun h1 => ?_) (fun h1 => ?_)
    · refine pz_G_of pz_b233_58 ?_
      refine w_loc rfl ?_
      refine w_ret rfl ?_
      exact lf_i (by rw [hn, show b = iv 155 1 by omega]) (by rw [← show b = iv 155 1 by omega, ← hs])
    · refine w_loc rfl ?_
      refine w_loc rfl ?_
      have hc2 : pz_R (pz_Sh L) 203 [.inr (.inl 154), .inl b] (pz_u1 (pz_u1 iv 157 g) 161 lf) (.inl (some (.inl (pz_bi (q_hld (iv 155) b))))) (pz_u1 (pz_u1 iv 157 g) 161 lf) := s_X11_holds b (by show 0 ≤ b ∧ b ≤ 39; omega) (by show (-4 ≤ (iv 155) (52 + 4 * b + 3).toNat ∧ (iv 155) (52 + 4 * b + 3).toNat ≤ 4) ∨ (iv 155) (52 + 4 * b + 3).toNat = 99; omega)
      refine w_call hc2 rfl (pz_cokI is_154 rfl) ?_
      refine w_bne (fun h3 => ?_) (fun h3 => ?_)
      · refine pz_G_of pz_b233_25 ?_
        refine w_loc rfl ?_
        refine w_getR (q := 161) is_154 rf_154_10 ?_
        refine w_loc rfl ?_
        refine w_pure rfl ?_
        refine w_bastm (iv2 := pz_u1 (pz_u1 iv 157 g) 161 (pz_up lf b.toNat 1)) is_161 ln_161 ⟨by omega, by omega⟩ (Or.inr rfl) (by exact pz_u2_top _ _ _ _ _) ?_
        refine w_loc rfl ?_
        have hc4 : pz_R (pz_Sh L) 227 [.inr (.inl 154)] (pz_u1 (pz_u1 iv 157 g) 161 (pz_up lf b.toNat 1)) (.inl (some (.inl (pz_bi (q_con (iv 155) (pz_up lf b.toNat 1)))))) (pz_u1 (pz_u1 iv 157 (q_dd (iv 155) (pz_up lf b.toNat 1) g)) 161 (pz_up lf b.toNat 1)) := pz_R_mem (s_X11_isConsistentNow (by show q_KR (iv 155); exact hk)) (by rw [pz_u1_in (r := 157) (q := 161) (by decide)]; rw [pz_u1_top (r := 157)]; rfl)
        refine w_call hc4 rfl (pz_cokI is_154 rfl) ?_
        refine w_bne (fun h5 => ?_) (fun h5 => ?_)
        · refine pz_G_of pz_b233_42 ?_
          refine w_loc rfl ?_
          refine w_getR (q := 161) is_154 rf_154_10 ?_
          refine w_loc rfl ?_
          refine w_pure rfl ?_
          refine w_bastm (iv2 := pz_u1 (pz_u1 iv 157 (q_dd (iv 155) (pz_up lf b.toNat 1) g)) 161 (pz_up (pz_up lf b.toNat 1) b.toNat 0)) is_161 ln_161 ⟨by omega, by omega⟩ (Or.inl rfl) (by exact pz_u2_top _ _ _ _ _) ?_
          refine w_iinc (ls' := [some (.inr (.inl 154)), some (.inl (n + 1)), some (.inl b)]) rfl rfl rfl (by omega) ?_
          refine w_nil ?_
          refine pz_G_of pz_b233_52 ?_
          refine w_iinc (ls' := [some (.inr (.inl 154)), some (.inl (n + 1)), some (.inl (b + 1))]) rfl rfl rfl (by omega) ?_
          refine w_goto ?_
          exact ih4 _ (by omega) (n + 1) (b + 1) (q_dd (iv 155) (pz_up lf b.toNat 1) g) (pz_up (pz_up lf b.toNat 1) b.toNat 0)  rfl (by omega) (by unfold q_cf; rw [q_fr_s (by omega)]; show _ = q_cfP (iv 155) b (q_cf (iv 155) b (iv 161) (iv 157)); rw [← hs]; unfold q_cfP; first | rw [q_if_f (by omega)] | rw [q_if_t (by omega), q_if_t (by assumption)] | rw [q_if_t (by omega), q_if_f (by assumption)]) (by rw [q_cnt_s (by omega), hn]; unfold q_kept; rw [hs1]; first | (rw [pz_bi_0 (fun q => by first | omega | exact absurd q.1 (by assumption) | exact absurd q.2 (by assumption))]; omega) | rw [pz_bi_1 ⟨by assumption, by assumption⟩])
        · refine w_goto ?_
          refine pz_G_of pz_b233_52 ?_
          refine w_iinc (ls' := [some (.inr (.inl 154)), some (.inl n), some (.inl (b + 1))]) rfl rfl rfl (by omega) ?_
          refine w_goto ?_
          exact ih4 _ (by omega) n (b + 1) (q_dd (iv 155) (pz_up lf b.toNat 1) g) (pz_up lf b.toNat 1)  rfl (by omega) (by unfold q_cf; rw [q_fr_s (by omega)]; show _ = q_cfP (iv 155) b (q_cf (iv 155) b (iv 161) (iv 157)); rw [← hs]; unfold q_cfP; first | rw [q_if_f (by omega)] | rw [q_if_t (by omega), q_if_t (by assumption)] | rw [q_if_t (by omega), q_if_f (by assumption)]) (by rw [q_cnt_s (by omega), hn]; unfold q_kept; rw [hs1]; first | (rw [pz_bi_0 (fun q => by first | omega | exact absurd q.1 (by assumption) | exact absurd q.2 (by assumption))]; omega) | rw [pz_bi_1 ⟨by assumption, by assumption⟩])
      · refine w_goto ?_
        refine pz_G_of pz_b233_52 ?_
        refine w_iinc (ls' := [some (.inr (.inl 154)), some (.inl n), some (.inl (b + 1))]) rfl rfl rfl (by omega) ?_
        refine w_goto ?_
        exact ih4 _ (by omega) n (b + 1) g lf  rfl (by omega) (by unfold q_cf; rw [q_fr_s (by omega)]; show _ = q_cfP (iv 155) b (q_cf (iv 155) b (iv 161) (iv 157)); rw [← hs]; unfold q_cfP; first | rw [q_if_f (by omega)] | rw [q_if_t (by omega), q_if_t (by assumption)] | rw [q_if_t (by omega), q_if_f (by assumption)]) (by rw [q_cnt_s (by omega), hn]; unfold q_kept; rw [hs1]; first | (rw [pz_bi_0 (fun q => by first | omega | exact absurd q.1 (by assumption) | exact absurd q.2 (by assumption))]; omega) | rw [pz_bi_1 ⟨by assumption, by assumption⟩])
  exact lp4 _ 0 0 (iv 157) (iv 161)  rfl (by omega) (by exact (q_fr_0 (by omega)).symm) (by rfl)

theorem s_X11_conflictSize_1 {L : Nat} {iv : Nat → Nat → Int} (hk : q_KR (iv 155)) (hcase0 : q_con (iv 155) (iv 161)) : pz_R (pz_Sh L) 235 [.inr (.inl 154)] iv (.inl (some (.inl 0))) (pz_u1 (pz_u1 (pz_u1 iv 154 (pz_up (iv 154) 0 1)) 157 (q_dd (iv 155) (iv 161) (iv 157))) 161 (iv 161)) := by
  intro dv cc ss
  have hk0 := hk.r0
  refine pz_G_mem (iv2 := pz_u1 (pz_u1 (pz_u1 iv 154 (iv 154)) 157 (iv 157)) 161 (iv 161)) (by exact (((pz_u1_self iv 154).symm).trans (pz_u1_self (pz_u1 iv 154 (iv 154)) 157).symm).trans (pz_u1_self (pz_u1 (pz_u1 iv 154 (iv 154)) 157 (iv 157)) 161).symm) ?_
  show pz_G 235 0 [some (.inr (.inl 154)), none] [] (pz_Sh L, pz_u1 (pz_u1 (pz_u1 iv 154 (iv 154)) 157 (iv 157)) 161 (iv 161), dv, cc, ss) (pz_P (pz_Sh L) (.inl (some (.inl 0))) (pz_u1 (pz_u1 (pz_u1 iv 154 (pz_up (iv 154) 0 1)) 157 (q_dd (iv 155) (iv 161) (iv 157))) 161 (iv 161)) dv cc ss)
  refine pz_G_of pz_b235_0 ?_
  refine w_loc rfl ?_
  have hc1 : pz_R (pz_Sh L) 227 [.inr (.inl 154)] (pz_u1 (pz_u1 (pz_u1 iv 154 (iv 154)) 157 (iv 157)) 161 (iv 161)) (.inl (some (.inl (pz_bi (q_con (iv 155) (iv 161)))))) (pz_u1 (pz_u1 (pz_u1 iv 154 (iv 154)) 157 (q_dd (iv 155) (iv 161) (iv 157))) 161 (iv 161)) := pz_R_mem (s_X11_isConsistentNow (by show q_KR (iv 155); exact hk)) (by rw [pz_u1_in (r := 157) (q := 161) (by decide)]; rw [pz_u1_top (r := 157)]; rfl)
  refine w_call hc1 rfl (pz_cokI is_154 rfl) ?_
  refine w_beq (fun h2 => ?_) (fun h2 => ?_)
  · first
    | (exfalso; first | omega | contradiction)
    | (refine pz_G_of pz_b235_13 ?_
       refine w_loc rfl ?_
       have hc3 : pz_R (pz_Sh L) 233 [.inr (.inl 154)] (pz_u1 (pz_u1 (pz_u1 iv 154 (iv 154)) 157 (q_dd (iv 155) (iv 161) (iv 157))) 161 (iv 161)) (.inl (some (.inl (q_cnt (q_kept (iv 155) (iv 161) (q_dd (iv 155) (iv 161) (iv 157))) ((iv 155) 1))))) (pz_u1 (pz_u1 (pz_u1 iv 154 (iv 154)) 157 ((q_cf (iv 155) ((iv 155) 1) (iv 161) (q_dd (iv 155) (iv 161) (iv 157))).2)) 161 ((q_cf (iv 155) ((iv 155) 1) (iv 161) (q_dd (iv 155) (iv 161) (iv 157))).1)) := pz_R_mem (s_X11_conflicts (by show q_KR (iv 155); exact hk)) (by rw [pz_u1_in (r := 157) (q := 161) (by decide)]; rw [pz_u1_top (r := 157)]; rw [pz_u1_top (r := 161)]; rfl)
       refine w_call hc3 rfl (pz_cokI is_154 rfl) ?_
       refine w_loc (ls' := [some (.inr (.inl 154)), some (.inl (q_cnt (q_kept (iv 155) (iv 161) (q_dd (iv 155) (iv 161) (iv 157))) ((iv 155) 1)))]) (st' := []) rfl ?_
       refine w_loc rfl ?_
       have hc4 : pz_R (pz_Sh L) 234 [.inr (.inl 154)] (pz_u1 (pz_u1 (pz_u1 iv 154 (iv 154)) 157 ((q_cf (iv 155) ((iv 155) 1) (iv 161) (q_dd (iv 155) (iv 161) (iv 157))).2)) 161 ((q_cf (iv 155) ((iv 155) 1) (iv 161) (q_dd (iv 155) (iv 161) (iv 157))).1)) (.inl none) (pz_u1 (pz_u1 (pz_u1 iv 154 (iv 154)) 157 ((q_cf (iv 155) ((iv 155) 1) (iv 161) (q_dd (iv 155) (iv 161) (iv 157))).2)) 161 (q_z40 ((q_cf (iv 155) ((iv 155) 1) (iv 161) (q_dd (iv 155) (iv 161) (iv 157))).1))) := pz_R_mem (s_X11_takesBackIn) (by rw [pz_u1_top (r := 161)]; rfl)
       refine w_callv hc4 rfl (pz_cokI is_154 rfl) ?_
       refine w_loc rfl ?_
       refine w_loc rfl ?_
       have hc5 : pz_R (pz_Sh L) 192 [.inr (.inl 154), .inl (q_cnt (q_kept (iv 155) (iv 161) (q_dd (iv 155) (iv 161) (iv 157))) ((iv 155) 1))] (pz_u1 (pz_u1 (pz_u1 iv 154 (iv 154)) 157 ((q_cf (iv 155) ((iv 155) 1) (iv 161) (q_dd (iv 155) (iv 161) (iv 157))).2)) 161 (q_z40 ((q_cf (iv 155) ((iv 155) 1) (iv 161) (q_dd (iv 155) (iv 161) (iv 157))).1))) (.inl (some (.inl (q_cnt (q_kept (iv 155) (iv 161) (q_dd (iv 155) (iv 161) (iv 157))) ((iv 155) 1))))) (pz_u1 (pz_u1 (pz_u1 iv 154 (pz_up (iv 154) 0 0)) 157 ((q_cf (iv 155) ((iv 155) 1) (iv 161) (q_dd (iv 155) (iv 161) (iv 157))).2)) 161 (q_z40 ((q_cf (iv 155) ((iv 155) 1) (iv 161) (q_dd (iv 155) (iv 161) (iv 157))).1))) := pz_R_mem (s_X11_tells (q_cnt (q_kept (iv 155) (iv 161) (q_dd (iv 155) (iv 161) (iv 157))) ((iv 155) 1))) (by rw [pz_u1_in (r := 154) (q := 161) (by decide)]; rw [pz_u1_in (r := 154) (q := 157) (by decide)]; rw [pz_u1_top (r := 154)]; rfl)
       refine w_call hc5 rfl (pz_cokI is_154 rfl) ?_
       refine w_ret rfl ?_
       first | exact lf_i (by first | rfl | omega) (by rfl) | (exfalso; omega))
  · first
    | (exfalso; first | omega | contradiction)
    | (refine w_loc rfl ?_
       refine w_pure rfl ?_
       have hc6 : pz_R (pz_Sh L) 191 [.inr (.inl 154), .inl 1] (pz_u1 (pz_u1 (pz_u1 iv 154 (iv 154)) 157 (q_dd (iv 155) (iv 161) (iv 157))) 161 (iv 161)) (.inl (some (.inl 0))) (pz_u1 (pz_u1 (pz_u1 iv 154 (pz_up (iv 154) 0 1)) 157 (q_dd (iv 155) (iv 161) (iv 157))) 161 (iv 161)) := pz_R_mem (s_X11_fails 1) (by rw [pz_u1_in (r := 154) (q := 161) (by decide)]; rw [pz_u1_in (r := 154) (q := 157) (by decide)]; rw [pz_u1_top (r := 154)]; rfl)
       refine w_call hc6 rfl (pz_cokI is_154 rfl) ?_
       refine w_ret rfl ?_
       first | exact lf_i (by first | rfl | omega) (by rfl) | (exfalso; omega))

theorem s_X11_conflictSize_0 {L : Nat} {iv : Nat → Nat → Int} (hk : q_KR (iv 155)) (hcase0 : ¬ q_con (iv 155) (iv 161)) : pz_R (pz_Sh L) 235 [.inr (.inl 154)] iv (.inl (some (.inl (q_cnt (q_kept (iv 155) (iv 161) (q_dd (iv 155) (iv 161) (iv 157))) ((iv 155) 1))))) (pz_u1 (pz_u1 (pz_u1 iv 154 (pz_up (iv 154) 0 0)) 157 ((q_cf (iv 155) ((iv 155) 1) (iv 161) (q_dd (iv 155) (iv 161) (iv 157))).2)) 161 (q_z40 (q_cf (iv 155) ((iv 155) 1) (iv 161) (q_dd (iv 155) (iv 161) (iv 157))).1)) := by
  intro dv cc ss
  have hk0 := hk.r0
  refine pz_G_mem (iv2 := pz_u1 (pz_u1 (pz_u1 iv 154 (iv 154)) 157 (iv 157)) 161 (iv 161)) (by exact (((pz_u1_self iv 154).symm).trans (pz_u1_self (pz_u1 iv 154 (iv 154)) 157).symm).trans (pz_u1_self (pz_u1 (pz_u1 iv 154 (iv 154)) 157 (iv 157)) 161).symm) ?_
  show pz_G 235 0 [some (.inr (.inl 154)), none] [] (pz_Sh L, pz_u1 (pz_u1 (pz_u1 iv 154 (iv 154)) 157 (iv 157)) 161 (iv 161), dv, cc, ss) (pz_P (pz_Sh L) (.inl (some (.inl (q_cnt (q_kept (iv 155) (iv 161) (q_dd (iv 155) (iv 161) (iv 157))) ((iv 155) 1))))) (pz_u1 (pz_u1 (pz_u1 iv 154 (pz_up (iv 154) 0 0)) 157 ((q_cf (iv 155) ((iv 155) 1) (iv 161) (q_dd (iv 155) (iv 161) (iv 157))).2)) 161 (q_z40 (q_cf (iv 155) ((iv 155) 1) (iv 161) (q_dd (iv 155) (iv 161) (iv 157))).1)) dv cc ss)
  refine pz_G_of pz_b235_0 ?_
  refine w_loc rfl ?_
  have hc1 : pz_R (pz_Sh L) 227 [.inr (.inl 154)] (pz_u1 (pz_u1 (pz_u1 iv 154 (iv 154)) 157 (iv 157)) 161 (iv 161)) (.inl (some (.inl (pz_bi (q_con (iv 155) (iv 161)))))) (pz_u1 (pz_u1 (pz_u1 iv 154 (iv 154)) 157 (q_dd (iv 155) (iv 161) (iv 157))) 161 (iv 161)) := pz_R_mem (s_X11_isConsistentNow (by show q_KR (iv 155); exact hk)) (by rw [pz_u1_in (r := 157) (q := 161) (by decide)]; rw [pz_u1_top (r := 157)]; rfl)
  refine w_call hc1 rfl (pz_cokI is_154 rfl) ?_
  refine w_beq (fun h2 => ?_) (fun h2 => ?_)
  · first
    | (exfalso; first | omega | contradiction)
    | (refine pz_G_of pz_b235_13 ?_
       refine w_loc rfl ?_
       have hc3 : pz_R (pz_Sh L) 233 [.inr (.inl 154)] (pz_u1 (pz_u1 (pz_u1 iv 154 (iv 154)) 157 (q_dd (iv 155) (iv 161) (iv 157))) 161 (iv 161)) (.inl (some (.inl (q_cnt (q_kept (iv 155) (iv 161) (q_dd (iv 155) (iv 161) (iv 157))) ((iv 155) 1))))) (pz_u1 (pz_u1 (pz_u1 iv 154 (iv 154)) 157 ((q_cf (iv 155) ((iv 155) 1) (iv 161) (q_dd (iv 155) (iv 161) (iv 157))).2)) 161 ((q_cf (iv 155) ((iv 155) 1) (iv 161) (q_dd (iv 155) (iv 161) (iv 157))).1)) := pz_R_mem (s_X11_conflicts (by show q_KR (iv 155); exact hk)) (by rw [pz_u1_in (r := 157) (q := 161) (by decide)]; rw [pz_u1_top (r := 157)]; rw [pz_u1_top (r := 161)]; rfl)
       refine w_call hc3 rfl (pz_cokI is_154 rfl) ?_
       refine w_loc (ls' := [some (.inr (.inl 154)), some (.inl (q_cnt (q_kept (iv 155) (iv 161) (q_dd (iv 155) (iv 161) (iv 157))) ((iv 155) 1)))]) (st' := []) rfl ?_
       refine w_loc rfl ?_
       have hc4 : pz_R (pz_Sh L) 234 [.inr (.inl 154)] (pz_u1 (pz_u1 (pz_u1 iv 154 (iv 154)) 157 ((q_cf (iv 155) ((iv 155) 1) (iv 161) (q_dd (iv 155) (iv 161) (iv 157))).2)) 161 ((q_cf (iv 155) ((iv 155) 1) (iv 161) (q_dd (iv 155) (iv 161) (iv 157))).1)) (.inl none) (pz_u1 (pz_u1 (pz_u1 iv 154 (iv 154)) 157 ((q_cf (iv 155) ((iv 155) 1) (iv 161) (q_dd (iv 155) (iv 161) (iv 157))).2)) 161 (q_z40 ((q_cf (iv 155) ((iv 155) 1) (iv 161) (q_dd (iv 155) (iv 161) (iv 157))).1))) := pz_R_mem (s_X11_takesBackIn) (by rw [pz_u1_top (r := 161)]; rfl)
       refine w_callv hc4 rfl (pz_cokI is_154 rfl) ?_
       refine w_loc rfl ?_
       refine w_loc rfl ?_
       have hc5 : pz_R (pz_Sh L) 192 [.inr (.inl 154), .inl (q_cnt (q_kept (iv 155) (iv 161) (q_dd (iv 155) (iv 161) (iv 157))) ((iv 155) 1))] (pz_u1 (pz_u1 (pz_u1 iv 154 (iv 154)) 157 ((q_cf (iv 155) ((iv 155) 1) (iv 161) (q_dd (iv 155) (iv 161) (iv 157))).2)) 161 (q_z40 ((q_cf (iv 155) ((iv 155) 1) (iv 161) (q_dd (iv 155) (iv 161) (iv 157))).1))) (.inl (some (.inl (q_cnt (q_kept (iv 155) (iv 161) (q_dd (iv 155) (iv 161) (iv 157))) ((iv 155) 1))))) (pz_u1 (pz_u1 (pz_u1 iv 154 (pz_up (iv 154) 0 0)) 157 ((q_cf (iv 155) ((iv 155) 1) (iv 161) (q_dd (iv 155) (iv 161) (iv 157))).2)) 161 (q_z40 ((q_cf (iv 155) ((iv 155) 1) (iv 161) (q_dd (iv 155) (iv 161) (iv 157))).1))) := pz_R_mem (s_X11_tells (q_cnt (q_kept (iv 155) (iv 161) (q_dd (iv 155) (iv 161) (iv 157))) ((iv 155) 1))) (by rw [pz_u1_in (r := 154) (q := 161) (by decide)]; rw [pz_u1_in (r := 154) (q := 157) (by decide)]; rw [pz_u1_top (r := 154)]; rfl)
       refine w_call hc5 rfl (pz_cokI is_154 rfl) ?_
       refine w_ret rfl ?_
       first | exact lf_i (by first | rfl | omega) (by rfl) | (exfalso; omega))
  · first
    | (exfalso; first | omega | contradiction)
    | (refine w_loc rfl ?_
       refine w_pure rfl ?_
       have hc6 : pz_R (pz_Sh L) 191 [.inr (.inl 154), .inl 1] (pz_u1 (pz_u1 (pz_u1 iv 154 (iv 154)) 157 (q_dd (iv 155) (iv 161) (iv 157))) 161 (iv 161)) (.inl (some (.inl 0))) (pz_u1 (pz_u1 (pz_u1 iv 154 (pz_up (iv 154) 0 1)) 157 (q_dd (iv 155) (iv 161) (iv 157))) 161 (iv 161)) := pz_R_mem (s_X11_fails 1) (by rw [pz_u1_in (r := 154) (q := 161) (by decide)]; rw [pz_u1_in (r := 154) (q := 157) (by decide)]; rw [pz_u1_top (r := 154)]; rfl)
       refine w_call hc6 rfl (pz_cokI is_154 rfl) ?_
       refine w_ret rfl ?_
       first | exact lf_i (by first | rfl | omega) (by rfl) | (exfalso; omega))

theorem s_X11_corner {L : Nat} {iv : Nat → Nat → Int} (p : Int) (hk : q_KR (iv 155)) : pz_R (pz_Sh L) 237 [.inr (.inl 154), .inl p] iv (.inl none) (pz_u1 iv 157 (q_cor (iv 155) p (iv 157))) := by
  intro dv cc ss
  have hk0 := hk.r0
  refine pz_G_mem (iv2 := pz_u1 iv 157 (iv 157)) (by exact (pz_u1_self iv 157).symm) ?_
  show pz_G 237 0 [some (.inr (.inl 154)), some (.inl p), none, none] [] (pz_Sh L, pz_u1 iv 157 (iv 157), dv, cc, ss) (pz_P (pz_Sh L) (.inl none) (pz_u1 iv 157 (q_cor (iv 155) p (iv 157))) dv cc ss)
  refine pz_G_of pz_b237_0 ?_
  refine w_pure rfl ?_
  refine w_loc (ls' := [some (.inr (.inl 154)), some (.inl p), some (.inl 0), none]) (st' := []) rfl ?_
  refine w_nil ?_
  have lp2 : ∀ (dd : Nat) (s : Int) (f : Nat → Int) (u2_3 : Option pz_V) (hu2_3 : pz_nc u2_3 = true), ((iv 155) 2 - s).toNat = dd → ∀ (hs : 0 ≤ s ∧ s ≤ (iv 155) 2), ∀ (hf : f = q_fr (q_coE (iv 155) p) 0 s (iv 157)),  pz_G 237 2 [some (.inr (.inl 154)), some (.inl p), some (.inl s), u2_3] [] (pz_Sh L, pz_u1 iv 157 f, dv, cc, ss) (pz_P (pz_Sh L) (.inl none) (pz_u1 iv 157 (q_cor (iv 155) p (iv 157))) dv cc ss) := by
    intro dd2
    induction dd2 using Nat.strongRecOn with
    | _ dd2 ih2 =>
    intro s f u2_3 hu2_3 hd2 hs hf
    have hsr := fun h => hk.sp hs.1 h
    refine pz_G_of pz_b237_2 ?_
    refine w_loc rfl ?_
    refine w_loc rfl ?_
    refine w_getR (q := 155) is_154 rf_154_1 ?_
    refine w_pure rfl ?_
    refine w_iald (v := (iv 155) 2) is_155 ln_155 ⟨by omega, by omega⟩ rfl ?_
    refine w_ige (fun h1 => ?_) (fun h1 => ?_)
    · refine pz_G_of pz_b237_113 ?_
      refine w_vret ?_
      exact lf_v (by rw [hf, show s = iv 155 2 by omega]; rfl)
    · refine w_loc rfl ?_
      refine w_loc rfl ?_
      refine w_ishr ?_
      refine w_pure rfl ?_
      refine w_iand ?_
      refine w_pure rfl ?_
      refine w_ine (fun h2 => ?_) (fun h2 => ?_)
      · refine pz_G_of pz_b237_25 ?_
        refine w_pure rfl ?_
        refine w_nil ?_
        refine pz_G_of pz_b237_26 ?_
        refine w_loc (ls' := [some (.inr (.inl 154)), some (.inl p), some (.inl s), some (.inl 0)]) (st' := []) rfl ?_
        refine w_loc rfl ?_
        refine w_loc rfl ?_
        refine w_loc rfl ?_
        have hc3 : pz_R (pz_Sh L) 206 [.inr (.inl 154), .inl s] (pz_u1 iv 157 f) (.inl (some (.inl ((iv 155) (212 + 4 * s).toNat)))) (pz_u1 iv 157 f) := s_X11_first s (by show 0 ≤ s ∧ s ≤ 2; omega)
        refine w_call hc3 rfl (pz_cokI is_154 rfl) ?_
        refine w_loc rfl ?_
        refine w_loc rfl ?_
        have hc4 : pz_R (pz_Sh L) 207 [.inr (.inl 154), .inl s] (pz_u1 iv 157 f) (.inl (some (.inl ((iv 155) (212 + 4 * s + 1).toNat)))) (pz_u1 iv 157 f) := s_X11_endOf s (by show 0 ≤ s ∧ s ≤ 2; omega)
        refine w_call hc4 rfl (pz_cokI is_154 rfl) ?_
        refine w_loc rfl ?_
        refine w_loc rfl ?_
        have hc5 : pz_R (pz_Sh L) 210 [.inr (.inl 154), .inl s] (pz_u1 iv 157 f) (.inl (some (.inl (pz_bi (q_sta (iv 155) ((iv 155) (212 + 4 * s + 1).toNat)))))) (pz_u1 iv 157 f) := s_X11_hasEnded s (by show q_KR (iv 155); exact hk) (by show 0 ≤ s ∧ s < (iv 155) 2; omega)
        refine w_call hc5 rfl (pz_cokI is_154 rfl) ?_
        refine w_bne (fun h6 => ?_) (fun h6 => ?_)
        · refine pz_G_of pz_b237_50 ?_
          refine w_loc rfl ?_
          refine w_loc rfl ?_
          have hc7 : pz_R (pz_Sh L) 209 [.inr (.inl 154), .inl s] (pz_u1 iv 157 f) (.inl (some (.inl ((iv 155) (212 + 4 * s + 3).toNat)))) (pz_u1 iv 157 f) := s_X11_greatest s (by show 0 ≤ s ∧ s ≤ 2; omega)
          refine w_call hc7 rfl (pz_cokI is_154 rfl) ?_
          refine w_goto ?_
          refine pz_G_of pz_b237_63 ?_
          have hc8 : pz_R (pz_Sh L) 224 [.inr (.inl 154), .inl ((iv 155) (212 + 4 * s).toNat), .inl ((iv 155) (212 + 4 * s + 1).toNat), .inl ((iv 155) (212 + 4 * s + 3).toNat)] (pz_u1 iv 157 f) (.inl none) (pz_u1 iv 157 (q_eg f ((iv 155) (212 + 4 * s).toNat) ((iv 155) (212 + 4 * s + 1).toNat) ((iv 155) (212 + 4 * s + 3).toNat))) := pz_R_mem (s_X11_edge ((iv 155) (212 + 4 * s).toNat) ((iv 155) (212 + 4 * s + 1).toNat) ((iv 155) (212 + 4 * s + 3).toNat) (by show 0 ≤ ((iv 155) (212 + 4 * s).toNat) ∧ ((iv 155) (212 + 4 * s).toNat) ≤ 9; omega) (by show 0 ≤ ((iv 155) (212 + 4 * s + 1).toNat) ∧ ((iv 155) (212 + 4 * s + 1).toNat) ≤ 9; omega)) (by rw [pz_u1_top (r := 157)]; rfl)
          refine w_callv hc8 rfl (pz_cokI is_154 rfl) ?_
          refine w_loc rfl ?_
          refine w_loc rfl ?_
          refine w_loc rfl ?_
          have hc9 : pz_R (pz_Sh L) 207 [.inr (.inl 154), .inl s] (pz_u1 iv 157 (q_eg f ((iv 155) (212 + 4 * s).toNat) ((iv 155) (212 + 4 * s + 1).toNat) ((iv 155) (212 + 4 * s + 3).toNat))) (.inl (some (.inl ((iv 155) (212 + 4 * s + 1).toNat)))) (pz_u1 iv 157 (q_eg f ((iv 155) (212 + 4 * s).toNat) ((iv 155) (212 + 4 * s + 1).toNat) ((iv 155) (212 + 4 * s + 3).toNat))) := s_X11_endOf s (by show 0 ≤ s ∧ s ≤ 2; omega)
          refine w_call hc9 rfl (pz_cokI is_154 rfl) ?_
          refine w_loc rfl ?_
          refine w_loc rfl ?_
          have hc10 : pz_R (pz_Sh L) 206 [.inr (.inl 154), .inl s] (pz_u1 iv 157 (q_eg f ((iv 155) (212 + 4 * s).toNat) ((iv 155) (212 + 4 * s + 1).toNat) ((iv 155) (212 + 4 * s + 3).toNat))) (.inl (some (.inl ((iv 155) (212 + 4 * s).toNat)))) (pz_u1 iv 157 (q_eg f ((iv 155) (212 + 4 * s).toNat) ((iv 155) (212 + 4 * s + 1).toNat) ((iv 155) (212 + 4 * s + 3).toNat))) := s_X11_first s (by show 0 ≤ s ∧ s ≤ 2; omega)
          refine w_call hc10 rfl (pz_cokI is_154 rfl) ?_
          refine w_loc rfl ?_
          refine w_loc rfl ?_
          have hc11 : pz_R (pz_Sh L) 210 [.inr (.inl 154), .inl s] (pz_u1 iv 157 (q_eg f ((iv 155) (212 + 4 * s).toNat) ((iv 155) (212 + 4 * s + 1).toNat) ((iv 155) (212 + 4 * s + 3).toNat))) (.inl (some (.inl (pz_bi (q_sta (iv 155) ((iv 155) (212 + 4 * s + 1).toNat)))))) (pz_u1 iv 157 (q_eg f ((iv 155) (212 + 4 * s).toNat) ((iv 155) (212 + 4 * s + 1).toNat) ((iv 155) (212 + 4 * s + 3).toNat))) := s_X11_hasEnded s (by show q_KR (iv 155); exact hk) (by show 0 ≤ s ∧ s < (iv 155) 2; omega)
          refine w_call hc11 rfl (pz_cokI is_154 rfl) ?_
          refine w_bne (fun h12 => ?_) (fun h12 => ?_)
          · refine pz_G_of pz_b237_89 ?_
            refine w_loc rfl ?_
            refine w_loc rfl ?_
            have hc13 : pz_R (pz_Sh L) 208 [.inr (.inl 154), .inl s] (pz_u1 iv 157 (q_eg f ((iv 155) (212 + 4 * s).toNat) ((iv 155) (212 + 4 * s + 1).toNat) ((iv 155) (212 + 4 * s + 3).toNat))) (.inl (some (.inl ((iv 155) (212 + 4 * s + 2).toNat)))) (pz_u1 iv 157 (q_eg f ((iv 155) (212 + 4 * s).toNat) ((iv 155) (212 + 4 * s + 1).toNat) ((iv 155) (212 + 4 * s + 3).toNat))) := s_X11_least s (by show 0 ≤ s ∧ s ≤ 2; omega)
            refine w_call hc13 rfl (pz_cokI is_154 rfl) ?_
            refine w_ineg (by omega) ?_
            refine w_goto ?_
            refine pz_G_of pz_b237_104 ?_
            have hc14 : pz_R (pz_Sh L) 224 [.inr (.inl 154), .inl ((iv 155) (212 + 4 * s + 1).toNat), .inl ((iv 155) (212 + 4 * s).toNat), .inl (-((iv 155) (212 + 4 * s + 2).toNat))] (pz_u1 iv 157 (q_eg f ((iv 155) (212 + 4 * s).toNat) ((iv 155) (212 + 4 * s + 1).toNat) ((iv 155) (212 + 4 * s + 3).toNat))) (.inl none) (pz_u1 iv 157 (q_eg (q_eg f ((iv 155) (212 + 4 * s).toNat) ((iv 155) (212 + 4 * s + 1).toNat) ((iv 155) (212 + 4 * s + 3).toNat)) ((iv 155) (212 + 4 * s + 1).toNat) ((iv 155) (212 + 4 * s).toNat) (-((iv 155) (212 + 4 * s + 2).toNat)))) := pz_R_mem (s_X11_edge ((iv 155) (212 + 4 * s + 1).toNat) ((iv 155) (212 + 4 * s).toNat) (-((iv 155) (212 + 4 * s + 2).toNat)) (by show 0 ≤ ((iv 155) (212 + 4 * s + 1).toNat) ∧ ((iv 155) (212 + 4 * s + 1).toNat) ≤ 9; omega) (by show 0 ≤ ((iv 155) (212 + 4 * s).toNat) ∧ ((iv 155) (212 + 4 * s).toNat) ≤ 9; omega)) (by rw [pz_u1_top (r := 157)]; rfl)
            refine w_callv hc14 rfl (pz_cokI is_154 rfl) ?_
            refine w_iinc (ls' := [some (.inr (.inl 154)), some (.inl p), some (.inl (s + 1)), some (.inl 0)]) rfl rfl rfl (by omega) ?_
            refine w_goto ?_
            exact ih2 _ (by omega) (s + 1) (q_eg (q_eg f ((iv 155) (212 + 4 * s).toNat) ((iv 155) (212 + 4 * s + 1).toNat) ((iv 155) (212 + 4 * s + 3).toNat)) ((iv 155) (212 + 4 * s + 1).toNat) ((iv 155) (212 + 4 * s).toNat) (-((iv 155) (212 + 4 * s + 2).toNat))) (some (.inl 0)) rfl rfl (by omega) (by rw [q_fr_s (by omega), ← hf]; unfold q_coE; first | (exfalso; omega) | rw [q_if_t (by omega), q_if_t (by omega)] | rw [q_if_t (by omega), q_if_f (by omega)] | rw [q_if_f (by omega), q_if_t (by omega)] | rw [q_if_f (by omega), q_if_f (by omega)])
          · refine w_loc rfl ?_
            refine w_zne (fun h => absurd h (by decide)) (fun _ => ?_)
            refine w_nil ?_
            refine pz_G_of pz_b237_89 ?_
            refine w_loc rfl ?_
            refine w_loc rfl ?_
            have hc15 : pz_R (pz_Sh L) 208 [.inr (.inl 154), .inl s] (pz_u1 iv 157 (q_eg f ((iv 155) (212 + 4 * s).toNat) ((iv 155) (212 + 4 * s + 1).toNat) ((iv 155) (212 + 4 * s + 3).toNat))) (.inl (some (.inl ((iv 155) (212 + 4 * s + 2).toNat)))) (pz_u1 iv 157 (q_eg f ((iv 155) (212 + 4 * s).toNat) ((iv 155) (212 + 4 * s + 1).toNat) ((iv 155) (212 + 4 * s + 3).toNat))) := s_X11_least s (by show 0 ≤ s ∧ s ≤ 2; omega)
            refine w_call hc15 rfl (pz_cokI is_154 rfl) ?_
            refine w_ineg (by omega) ?_
            refine w_goto ?_
            refine pz_G_of pz_b237_104 ?_
            have hc16 : pz_R (pz_Sh L) 224 [.inr (.inl 154), .inl ((iv 155) (212 + 4 * s + 1).toNat), .inl ((iv 155) (212 + 4 * s).toNat), .inl (-((iv 155) (212 + 4 * s + 2).toNat))] (pz_u1 iv 157 (q_eg f ((iv 155) (212 + 4 * s).toNat) ((iv 155) (212 + 4 * s + 1).toNat) ((iv 155) (212 + 4 * s + 3).toNat))) (.inl none) (pz_u1 iv 157 (q_eg (q_eg f ((iv 155) (212 + 4 * s).toNat) ((iv 155) (212 + 4 * s + 1).toNat) ((iv 155) (212 + 4 * s + 3).toNat)) ((iv 155) (212 + 4 * s + 1).toNat) ((iv 155) (212 + 4 * s).toNat) (-((iv 155) (212 + 4 * s + 2).toNat)))) := pz_R_mem (s_X11_edge ((iv 155) (212 + 4 * s + 1).toNat) ((iv 155) (212 + 4 * s).toNat) (-((iv 155) (212 + 4 * s + 2).toNat)) (by show 0 ≤ ((iv 155) (212 + 4 * s + 1).toNat) ∧ ((iv 155) (212 + 4 * s + 1).toNat) ≤ 9; omega) (by show 0 ≤ ((iv 155) (212 + 4 * s).toNat) ∧ ((iv 155) (212 + 4 * s).toNat) ≤ 9; omega)) (by rw [pz_u1_top (r := 157)]; rfl)
            refine w_callv hc16 rfl (pz_cokI is_154 rfl) ?_
            refine w_iinc (ls' := [some (.inr (.inl 154)), some (.inl p), some (.inl (s + 1)), some (.inl 0)]) rfl rfl rfl (by omega) ?_
            refine w_goto ?_
            exact ih2 _ (by omega) (s + 1) (q_eg (q_eg f ((iv 155) (212 + 4 * s).toNat) ((iv 155) (212 + 4 * s + 1).toNat) ((iv 155) (212 + 4 * s + 3).toNat)) ((iv 155) (212 + 4 * s + 1).toNat) ((iv 155) (212 + 4 * s).toNat) (-((iv 155) (212 + 4 * s + 2).toNat))) (some (.inl 0)) rfl rfl (by omega) (by rw [q_fr_s (by omega), ← hf]; unfold q_coE; first | (exfalso; omega) | rw [q_if_t (by omega), q_if_t (by omega)] | rw [q_if_t (by omega), q_if_f (by omega)] | rw [q_if_f (by omega), q_if_t (by omega)] | rw [q_if_f (by omega), q_if_f (by omega)])
        · refine w_loc rfl ?_
          refine w_zeq (fun _ => ?_) (fun h => absurd h (by decide))
          refine pz_G_of pz_b237_58 ?_
          refine w_loc rfl ?_
          refine w_loc rfl ?_
          have hc17 : pz_R (pz_Sh L) 208 [.inr (.inl 154), .inl s] (pz_u1 iv 157 f) (.inl (some (.inl ((iv 155) (212 + 4 * s + 2).toNat)))) (pz_u1 iv 157 f) := s_X11_least s (by show 0 ≤ s ∧ s ≤ 2; omega)
          refine w_call hc17 rfl (pz_cokI is_154 rfl) ?_
          refine w_nil ?_
          refine pz_G_of pz_b237_63 ?_
          have hc18 : pz_R (pz_Sh L) 224 [.inr (.inl 154), .inl ((iv 155) (212 + 4 * s).toNat), .inl ((iv 155) (212 + 4 * s + 1).toNat), .inl ((iv 155) (212 + 4 * s + 2).toNat)] (pz_u1 iv 157 f) (.inl none) (pz_u1 iv 157 (q_eg f ((iv 155) (212 + 4 * s).toNat) ((iv 155) (212 + 4 * s + 1).toNat) ((iv 155) (212 + 4 * s + 2).toNat))) := pz_R_mem (s_X11_edge ((iv 155) (212 + 4 * s).toNat) ((iv 155) (212 + 4 * s + 1).toNat) ((iv 155) (212 + 4 * s + 2).toNat) (by show 0 ≤ ((iv 155) (212 + 4 * s).toNat) ∧ ((iv 155) (212 + 4 * s).toNat) ≤ 9; omega) (by show 0 ≤ ((iv 155) (212 + 4 * s + 1).toNat) ∧ ((iv 155) (212 + 4 * s + 1).toNat) ≤ 9; omega)) (by rw [pz_u1_top (r := 157)]; rfl)
          refine w_callv hc18 rfl (pz_cokI is_154 rfl) ?_
          refine w_loc rfl ?_
          refine w_loc rfl ?_
          refine w_loc rfl ?_
          have hc19 : pz_R (pz_Sh L) 207 [.inr (.inl 154), .inl s] (pz_u1 iv 157 (q_eg f ((iv 155) (212 + 4 * s).toNat) ((iv 155) (212 + 4 * s + 1).toNat) ((iv 155) (212 + 4 * s + 2).toNat))) (.inl (some (.inl ((iv 155) (212 + 4 * s + 1).toNat)))) (pz_u1 iv 157 (q_eg f ((iv 155) (212 + 4 * s).toNat) ((iv 155) (212 + 4 * s + 1).toNat) ((iv 155) (212 + 4 * s + 2).toNat))) := s_X11_endOf s (by show 0 ≤ s ∧ s ≤ 2; omega)
          refine w_call hc19 rfl (pz_cokI is_154 rfl) ?_
          refine w_loc rfl ?_
          refine w_loc rfl ?_
          have hc20 : pz_R (pz_Sh L) 206 [.inr (.inl 154), .inl s] (pz_u1 iv 157 (q_eg f ((iv 155) (212 + 4 * s).toNat) ((iv 155) (212 + 4 * s + 1).toNat) ((iv 155) (212 + 4 * s + 2).toNat))) (.inl (some (.inl ((iv 155) (212 + 4 * s).toNat)))) (pz_u1 iv 157 (q_eg f ((iv 155) (212 + 4 * s).toNat) ((iv 155) (212 + 4 * s + 1).toNat) ((iv 155) (212 + 4 * s + 2).toNat))) := s_X11_first s (by show 0 ≤ s ∧ s ≤ 2; omega)
          refine w_call hc20 rfl (pz_cokI is_154 rfl) ?_
          refine w_loc rfl ?_
          refine w_loc rfl ?_
          have hc21 : pz_R (pz_Sh L) 210 [.inr (.inl 154), .inl s] (pz_u1 iv 157 (q_eg f ((iv 155) (212 + 4 * s).toNat) ((iv 155) (212 + 4 * s + 1).toNat) ((iv 155) (212 + 4 * s + 2).toNat))) (.inl (some (.inl (pz_bi (q_sta (iv 155) ((iv 155) (212 + 4 * s + 1).toNat)))))) (pz_u1 iv 157 (q_eg f ((iv 155) (212 + 4 * s).toNat) ((iv 155) (212 + 4 * s + 1).toNat) ((iv 155) (212 + 4 * s + 2).toNat))) := s_X11_hasEnded s (by show q_KR (iv 155); exact hk) (by show 0 ≤ s ∧ s < (iv 155) 2; omega)
          refine w_call hc21 rfl (pz_cokI is_154 rfl) ?_
          refine w_bne (fun h22 => ?_) (fun h22 => ?_)
          · refine pz_G_of pz_b237_89 ?_
            refine w_loc rfl ?_
            refine w_loc rfl ?_
            have hc23 : pz_R (pz_Sh L) 208 [.inr (.inl 154), .inl s] (pz_u1 iv 157 (q_eg f ((iv 155) (212 + 4 * s).toNat) ((iv 155) (212 + 4 * s + 1).toNat) ((iv 155) (212 + 4 * s + 2).toNat))) (.inl (some (.inl ((iv 155) (212 + 4 * s + 2).toNat)))) (pz_u1 iv 157 (q_eg f ((iv 155) (212 + 4 * s).toNat) ((iv 155) (212 + 4 * s + 1).toNat) ((iv 155) (212 + 4 * s + 2).toNat))) := s_X11_least s (by show 0 ≤ s ∧ s ≤ 2; omega)
            refine w_call hc23 rfl (pz_cokI is_154 rfl) ?_
            refine w_ineg (by omega) ?_
            refine w_goto ?_
            refine pz_G_of pz_b237_104 ?_
            have hc24 : pz_R (pz_Sh L) 224 [.inr (.inl 154), .inl ((iv 155) (212 + 4 * s + 1).toNat), .inl ((iv 155) (212 + 4 * s).toNat), .inl (-((iv 155) (212 + 4 * s + 2).toNat))] (pz_u1 iv 157 (q_eg f ((iv 155) (212 + 4 * s).toNat) ((iv 155) (212 + 4 * s + 1).toNat) ((iv 155) (212 + 4 * s + 2).toNat))) (.inl none) (pz_u1 iv 157 (q_eg (q_eg f ((iv 155) (212 + 4 * s).toNat) ((iv 155) (212 + 4 * s + 1).toNat) ((iv 155) (212 + 4 * s + 2).toNat)) ((iv 155) (212 + 4 * s + 1).toNat) ((iv 155) (212 + 4 * s).toNat) (-((iv 155) (212 + 4 * s + 2).toNat)))) := pz_R_mem (s_X11_edge ((iv 155) (212 + 4 * s + 1).toNat) ((iv 155) (212 + 4 * s).toNat) (-((iv 155) (212 + 4 * s + 2).toNat)) (by show 0 ≤ ((iv 155) (212 + 4 * s + 1).toNat) ∧ ((iv 155) (212 + 4 * s + 1).toNat) ≤ 9; omega) (by show 0 ≤ ((iv 155) (212 + 4 * s).toNat) ∧ ((iv 155) (212 + 4 * s).toNat) ≤ 9; omega)) (by rw [pz_u1_top (r := 157)]; rfl)
            refine w_callv hc24 rfl (pz_cokI is_154 rfl) ?_
            refine w_iinc (ls' := [some (.inr (.inl 154)), some (.inl p), some (.inl (s + 1)), some (.inl 0)]) rfl rfl rfl (by omega) ?_
            refine w_goto ?_
            exact ih2 _ (by omega) (s + 1) (q_eg (q_eg f ((iv 155) (212 + 4 * s).toNat) ((iv 155) (212 + 4 * s + 1).toNat) ((iv 155) (212 + 4 * s + 2).toNat)) ((iv 155) (212 + 4 * s + 1).toNat) ((iv 155) (212 + 4 * s).toNat) (-((iv 155) (212 + 4 * s + 2).toNat))) (some (.inl 0)) rfl rfl (by omega) (by rw [q_fr_s (by omega), ← hf]; unfold q_coE; first | (exfalso; omega) | rw [q_if_t (by omega), q_if_t (by omega)] | rw [q_if_t (by omega), q_if_f (by omega)] | rw [q_if_f (by omega), q_if_t (by omega)] | rw [q_if_f (by omega), q_if_f (by omega)])
          · refine w_loc rfl ?_
            refine w_zne (fun h => absurd h (by decide)) (fun _ => ?_)
            refine w_nil ?_
            refine pz_G_of pz_b237_89 ?_
            refine w_loc rfl ?_
            refine w_loc rfl ?_
            have hc25 : pz_R (pz_Sh L) 208 [.inr (.inl 154), .inl s] (pz_u1 iv 157 (q_eg f ((iv 155) (212 + 4 * s).toNat) ((iv 155) (212 + 4 * s + 1).toNat) ((iv 155) (212 + 4 * s + 2).toNat))) (.inl (some (.inl ((iv 155) (212 + 4 * s + 2).toNat)))) (pz_u1 iv 157 (q_eg f ((iv 155) (212 + 4 * s).toNat) ((iv 155) (212 + 4 * s + 1).toNat) ((iv 155) (212 + 4 * s + 2).toNat))) := s_X11_least s (by show 0 ≤ s ∧ s ≤ 2; omega)
            refine w_call hc25 rfl (pz_cokI is_154 rfl) ?_
            refine w_ineg (by omega) ?_
            refine w_goto ?_
            refine pz_G_of pz_b237_104 ?_
            have hc26 : pz_R (pz_Sh L) 224 [.inr (.inl 154), .inl ((iv 155) (212 + 4 * s + 1).toNat), .inl ((iv 155) (212 + 4 * s).toNat), .inl (-((iv 155) (212 + 4 * s + 2).toNat))] (pz_u1 iv 157 (q_eg f ((iv 155) (212 + 4 * s).toNat) ((iv 155) (212 + 4 * s + 1).toNat) ((iv 155) (212 + 4 * s + 2).toNat))) (.inl none) (pz_u1 iv 157 (q_eg (q_eg f ((iv 155) (212 + 4 * s).toNat) ((iv 155) (212 + 4 * s + 1).toNat) ((iv 155) (212 + 4 * s + 2).toNat)) ((iv 155) (212 + 4 * s + 1).toNat) ((iv 155) (212 + 4 * s).toNat) (-((iv 155) (212 + 4 * s + 2).toNat)))) := pz_R_mem (s_X11_edge ((iv 155) (212 + 4 * s + 1).toNat) ((iv 155) (212 + 4 * s).toNat) (-((iv 155) (212 + 4 * s + 2).toNat)) (by show 0 ≤ ((iv 155) (212 + 4 * s + 1).toNat) ∧ ((iv 155) (212 + 4 * s + 1).toNat) ≤ 9; omega) (by show 0 ≤ ((iv 155) (212 + 4 * s).toNat) ∧ ((iv 155) (212 + 4 * s).toNat) ≤ 9; omega)) (by rw [pz_u1_top (r := 157)]; rfl)
            refine w_callv hc26 rfl (pz_cokI is_154 rfl) ?_
            refine w_iinc (ls' := [some (.inr (.inl 154)), some (.inl p), some (.inl (s + 1)), some (.inl 0)]) rfl rfl rfl (by omega) ?_
            refine w_goto ?_
            exact ih2 _ (by omega) (s + 1) (q_eg (q_eg f ((iv 155) (212 + 4 * s).toNat) ((iv 155) (212 + 4 * s + 1).toNat) ((iv 155) (212 + 4 * s + 2).toNat)) ((iv 155) (212 + 4 * s + 1).toNat) ((iv 155) (212 + 4 * s).toNat) (-((iv 155) (212 + 4 * s + 2).toNat))) (some (.inl 0)) rfl rfl (by omega) (by rw [q_fr_s (by omega), ← hf]; unfold q_coE; first | (exfalso; omega) | rw [q_if_t (by omega), q_if_t (by omega)] | rw [q_if_t (by omega), q_if_f (by omega)] | rw [q_if_f (by omega), q_if_t (by omega)] | rw [q_if_f (by omega), q_if_f (by omega)])
      · refine w_pure rfl ?_
        refine w_goto ?_
        refine pz_G_of pz_b237_26 ?_
        refine w_loc (ls' := [some (.inr (.inl 154)), some (.inl p), some (.inl s), some (.inl 1)]) (st' := []) rfl ?_
        refine w_loc rfl ?_
        refine w_loc rfl ?_
        refine w_loc rfl ?_
        have hc27 : pz_R (pz_Sh L) 206 [.inr (.inl 154), .inl s] (pz_u1 iv 157 f) (.inl (some (.inl ((iv 155) (212 + 4 * s).toNat)))) (pz_u1 iv 157 f) := s_X11_first s (by show 0 ≤ s ∧ s ≤ 2; omega)
        refine w_call hc27 rfl (pz_cokI is_154 rfl) ?_
        refine w_loc rfl ?_
        refine w_loc rfl ?_
        have hc28 : pz_R (pz_Sh L) 207 [.inr (.inl 154), .inl s] (pz_u1 iv 157 f) (.inl (some (.inl ((iv 155) (212 + 4 * s + 1).toNat)))) (pz_u1 iv 157 f) := s_X11_endOf s (by show 0 ≤ s ∧ s ≤ 2; omega)
        refine w_call hc28 rfl (pz_cokI is_154 rfl) ?_
        refine w_loc rfl ?_
        refine w_loc rfl ?_
        have hc29 : pz_R (pz_Sh L) 210 [.inr (.inl 154), .inl s] (pz_u1 iv 157 f) (.inl (some (.inl (pz_bi (q_sta (iv 155) ((iv 155) (212 + 4 * s + 1).toNat)))))) (pz_u1 iv 157 f) := s_X11_hasEnded s (by show q_KR (iv 155); exact hk) (by show 0 ≤ s ∧ s < (iv 155) 2; omega)
        refine w_call hc29 rfl (pz_cokI is_154 rfl) ?_
        refine w_bne (fun h30 => ?_) (fun h30 => ?_)
        · refine pz_G_of pz_b237_50 ?_
          refine w_loc rfl ?_
          refine w_loc rfl ?_
          have hc31 : pz_R (pz_Sh L) 209 [.inr (.inl 154), .inl s] (pz_u1 iv 157 f) (.inl (some (.inl ((iv 155) (212 + 4 * s + 3).toNat)))) (pz_u1 iv 157 f) := s_X11_greatest s (by show 0 ≤ s ∧ s ≤ 2; omega)
          refine w_call hc31 rfl (pz_cokI is_154 rfl) ?_
          refine w_goto ?_
          refine pz_G_of pz_b237_63 ?_
          have hc32 : pz_R (pz_Sh L) 224 [.inr (.inl 154), .inl ((iv 155) (212 + 4 * s).toNat), .inl ((iv 155) (212 + 4 * s + 1).toNat), .inl ((iv 155) (212 + 4 * s + 3).toNat)] (pz_u1 iv 157 f) (.inl none) (pz_u1 iv 157 (q_eg f ((iv 155) (212 + 4 * s).toNat) ((iv 155) (212 + 4 * s + 1).toNat) ((iv 155) (212 + 4 * s + 3).toNat))) := pz_R_mem (s_X11_edge ((iv 155) (212 + 4 * s).toNat) ((iv 155) (212 + 4 * s + 1).toNat) ((iv 155) (212 + 4 * s + 3).toNat) (by show 0 ≤ ((iv 155) (212 + 4 * s).toNat) ∧ ((iv 155) (212 + 4 * s).toNat) ≤ 9; omega) (by show 0 ≤ ((iv 155) (212 + 4 * s + 1).toNat) ∧ ((iv 155) (212 + 4 * s + 1).toNat) ≤ 9; omega)) (by rw [pz_u1_top (r := 157)]; rfl)
          refine w_callv hc32 rfl (pz_cokI is_154 rfl) ?_
          refine w_loc rfl ?_
          refine w_loc rfl ?_
          refine w_loc rfl ?_
          have hc33 : pz_R (pz_Sh L) 207 [.inr (.inl 154), .inl s] (pz_u1 iv 157 (q_eg f ((iv 155) (212 + 4 * s).toNat) ((iv 155) (212 + 4 * s + 1).toNat) ((iv 155) (212 + 4 * s + 3).toNat))) (.inl (some (.inl ((iv 155) (212 + 4 * s + 1).toNat)))) (pz_u1 iv 157 (q_eg f ((iv 155) (212 + 4 * s).toNat) ((iv 155) (212 + 4 * s + 1).toNat) ((iv 155) (212 + 4 * s + 3).toNat))) := s_X11_endOf s (by show 0 ≤ s ∧ s ≤ 2; omega)
          refine w_call hc33 rfl (pz_cokI is_154 rfl) ?_
          refine w_loc rfl ?_
          refine w_loc rfl ?_
          have hc34 : pz_R (pz_Sh L) 206 [.inr (.inl 154), .inl s] (pz_u1 iv 157 (q_eg f ((iv 155) (212 + 4 * s).toNat) ((iv 155) (212 + 4 * s + 1).toNat) ((iv 155) (212 + 4 * s + 3).toNat))) (.inl (some (.inl ((iv 155) (212 + 4 * s).toNat)))) (pz_u1 iv 157 (q_eg f ((iv 155) (212 + 4 * s).toNat) ((iv 155) (212 + 4 * s + 1).toNat) ((iv 155) (212 + 4 * s + 3).toNat))) := s_X11_first s (by show 0 ≤ s ∧ s ≤ 2; omega)
          refine w_call hc34 rfl (pz_cokI is_154 rfl) ?_
          refine w_loc rfl ?_
          refine w_loc rfl ?_
          have hc35 : pz_R (pz_Sh L) 210 [.inr (.inl 154), .inl s] (pz_u1 iv 157 (q_eg f ((iv 155) (212 + 4 * s).toNat) ((iv 155) (212 + 4 * s + 1).toNat) ((iv 155) (212 + 4 * s + 3).toNat))) (.inl (some (.inl (pz_bi (q_sta (iv 155) ((iv 155) (212 + 4 * s + 1).toNat)))))) (pz_u1 iv 157 (q_eg f ((iv 155) (212 + 4 * s).toNat) ((iv 155) (212 + 4 * s + 1).toNat) ((iv 155) (212 + 4 * s + 3).toNat))) := s_X11_hasEnded s (by show q_KR (iv 155); exact hk) (by show 0 ≤ s ∧ s < (iv 155) 2; omega)
          refine w_call hc35 rfl (pz_cokI is_154 rfl) ?_
          refine w_bne (fun h36 => ?_) (fun h36 => ?_)
          · refine pz_G_of pz_b237_89 ?_
            refine w_loc rfl ?_
            refine w_loc rfl ?_
            have hc37 : pz_R (pz_Sh L) 208 [.inr (.inl 154), .inl s] (pz_u1 iv 157 (q_eg f ((iv 155) (212 + 4 * s).toNat) ((iv 155) (212 + 4 * s + 1).toNat) ((iv 155) (212 + 4 * s + 3).toNat))) (.inl (some (.inl ((iv 155) (212 + 4 * s + 2).toNat)))) (pz_u1 iv 157 (q_eg f ((iv 155) (212 + 4 * s).toNat) ((iv 155) (212 + 4 * s + 1).toNat) ((iv 155) (212 + 4 * s + 3).toNat))) := s_X11_least s (by show 0 ≤ s ∧ s ≤ 2; omega)
            refine w_call hc37 rfl (pz_cokI is_154 rfl) ?_
            refine w_ineg (by omega) ?_
            refine w_goto ?_
            refine pz_G_of pz_b237_104 ?_
            have hc38 : pz_R (pz_Sh L) 224 [.inr (.inl 154), .inl ((iv 155) (212 + 4 * s + 1).toNat), .inl ((iv 155) (212 + 4 * s).toNat), .inl (-((iv 155) (212 + 4 * s + 2).toNat))] (pz_u1 iv 157 (q_eg f ((iv 155) (212 + 4 * s).toNat) ((iv 155) (212 + 4 * s + 1).toNat) ((iv 155) (212 + 4 * s + 3).toNat))) (.inl none) (pz_u1 iv 157 (q_eg (q_eg f ((iv 155) (212 + 4 * s).toNat) ((iv 155) (212 + 4 * s + 1).toNat) ((iv 155) (212 + 4 * s + 3).toNat)) ((iv 155) (212 + 4 * s + 1).toNat) ((iv 155) (212 + 4 * s).toNat) (-((iv 155) (212 + 4 * s + 2).toNat)))) := pz_R_mem (s_X11_edge ((iv 155) (212 + 4 * s + 1).toNat) ((iv 155) (212 + 4 * s).toNat) (-((iv 155) (212 + 4 * s + 2).toNat)) (by show 0 ≤ ((iv 155) (212 + 4 * s + 1).toNat) ∧ ((iv 155) (212 + 4 * s + 1).toNat) ≤ 9; omega) (by show 0 ≤ ((iv 155) (212 + 4 * s).toNat) ∧ ((iv 155) (212 + 4 * s).toNat) ≤ 9; omega)) (by rw [pz_u1_top (r := 157)]; rfl)
            refine w_callv hc38 rfl (pz_cokI is_154 rfl) ?_
            refine w_iinc (ls' := [some (.inr (.inl 154)), some (.inl p), some (.inl (s + 1)), some (.inl 1)]) rfl rfl rfl (by omega) ?_
            refine w_goto ?_
            exact ih2 _ (by omega) (s + 1) (q_eg (q_eg f ((iv 155) (212 + 4 * s).toNat) ((iv 155) (212 + 4 * s + 1).toNat) ((iv 155) (212 + 4 * s + 3).toNat)) ((iv 155) (212 + 4 * s + 1).toNat) ((iv 155) (212 + 4 * s).toNat) (-((iv 155) (212 + 4 * s + 2).toNat))) (some (.inl 1)) rfl rfl (by omega) (by rw [q_fr_s (by omega), ← hf]; unfold q_coE; first | (exfalso; omega) | rw [q_if_t (by omega), q_if_t (by omega)] | rw [q_if_t (by omega), q_if_f (by omega)] | rw [q_if_f (by omega), q_if_t (by omega)] | rw [q_if_f (by omega), q_if_f (by omega)])
          · refine w_loc rfl ?_
            refine w_zne (fun _ => ?_) (fun h => absurd h (by decide))
            refine pz_G_of pz_b237_98 ?_
            refine w_loc rfl ?_
            refine w_loc rfl ?_
            have hc39 : pz_R (pz_Sh L) 209 [.inr (.inl 154), .inl s] (pz_u1 iv 157 (q_eg f ((iv 155) (212 + 4 * s).toNat) ((iv 155) (212 + 4 * s + 1).toNat) ((iv 155) (212 + 4 * s + 3).toNat))) (.inl (some (.inl ((iv 155) (212 + 4 * s + 3).toNat)))) (pz_u1 iv 157 (q_eg f ((iv 155) (212 + 4 * s).toNat) ((iv 155) (212 + 4 * s + 1).toNat) ((iv 155) (212 + 4 * s + 3).toNat))) := s_X11_greatest s (by show 0 ≤ s ∧ s ≤ 2; omega)
            refine w_call hc39 rfl (pz_cokI is_154 rfl) ?_
            refine w_ineg (by omega) ?_
            refine w_nil ?_
            refine pz_G_of pz_b237_104 ?_
            have hc40 : pz_R (pz_Sh L) 224 [.inr (.inl 154), .inl ((iv 155) (212 + 4 * s + 1).toNat), .inl ((iv 155) (212 + 4 * s).toNat), .inl (-((iv 155) (212 + 4 * s + 3).toNat))] (pz_u1 iv 157 (q_eg f ((iv 155) (212 + 4 * s).toNat) ((iv 155) (212 + 4 * s + 1).toNat) ((iv 155) (212 + 4 * s + 3).toNat))) (.inl none) (pz_u1 iv 157 (q_eg (q_eg f ((iv 155) (212 + 4 * s).toNat) ((iv 155) (212 + 4 * s + 1).toNat) ((iv 155) (212 + 4 * s + 3).toNat)) ((iv 155) (212 + 4 * s + 1).toNat) ((iv 155) (212 + 4 * s).toNat) (-((iv 155) (212 + 4 * s + 3).toNat)))) := pz_R_mem (s_X11_edge ((iv 155) (212 + 4 * s + 1).toNat) ((iv 155) (212 + 4 * s).toNat) (-((iv 155) (212 + 4 * s + 3).toNat)) (by show 0 ≤ ((iv 155) (212 + 4 * s + 1).toNat) ∧ ((iv 155) (212 + 4 * s + 1).toNat) ≤ 9; omega) (by show 0 ≤ ((iv 155) (212 + 4 * s).toNat) ∧ ((iv 155) (212 + 4 * s).toNat) ≤ 9; omega)) (by rw [pz_u1_top (r := 157)]; rfl)
            refine w_callv hc40 rfl (pz_cokI is_154 rfl) ?_
            refine w_iinc (ls' := [some (.inr (.inl 154)), some (.inl p), some (.inl (s + 1)), some (.inl 1)]) rfl rfl rfl (by omega) ?_
            refine w_goto ?_
            exact ih2 _ (by omega) (s + 1) (q_eg (q_eg f ((iv 155) (212 + 4 * s).toNat) ((iv 155) (212 + 4 * s + 1).toNat) ((iv 155) (212 + 4 * s + 3).toNat)) ((iv 155) (212 + 4 * s + 1).toNat) ((iv 155) (212 + 4 * s).toNat) (-((iv 155) (212 + 4 * s + 3).toNat))) (some (.inl 1)) rfl rfl (by omega) (by rw [q_fr_s (by omega), ← hf]; unfold q_coE; first | (exfalso; omega) | rw [q_if_t (by omega), q_if_t (by omega)] | rw [q_if_t (by omega), q_if_f (by omega)] | rw [q_if_f (by omega), q_if_t (by omega)] | rw [q_if_f (by omega), q_if_f (by omega)])
        · refine w_loc rfl ?_
          refine w_zeq (fun h => absurd h (by decide)) (fun _ => ?_)
          refine w_nil ?_
          refine pz_G_of pz_b237_50 ?_
          refine w_loc rfl ?_
          refine w_loc rfl ?_
          have hc41 : pz_R (pz_Sh L) 209 [.inr (.inl 154), .inl s] (pz_u1 iv 157 f) (.inl (some (.inl ((iv 155) (212 + 4 * s + 3).toNat)))) (pz_u1 iv 157 f) := s_X11_greatest s (by show 0 ≤ s ∧ s ≤ 2; omega)
          refine w_call hc41 rfl (pz_cokI is_154 rfl) ?_
          refine w_goto ?_
          refine pz_G_of pz_b237_63 ?_
          have hc42 : pz_R (pz_Sh L) 224 [.inr (.inl 154), .inl ((iv 155) (212 + 4 * s).toNat), .inl ((iv 155) (212 + 4 * s + 1).toNat), .inl ((iv 155) (212 + 4 * s + 3).toNat)] (pz_u1 iv 157 f) (.inl none) (pz_u1 iv 157 (q_eg f ((iv 155) (212 + 4 * s).toNat) ((iv 155) (212 + 4 * s + 1).toNat) ((iv 155) (212 + 4 * s + 3).toNat))) := pz_R_mem (s_X11_edge ((iv 155) (212 + 4 * s).toNat) ((iv 155) (212 + 4 * s + 1).toNat) ((iv 155) (212 + 4 * s + 3).toNat) (by show 0 ≤ ((iv 155) (212 + 4 * s).toNat) ∧ ((iv 155) (212 + 4 * s).toNat) ≤ 9; omega) (by show 0 ≤ ((iv 155) (212 + 4 * s + 1).toNat) ∧ ((iv 155) (212 + 4 * s + 1).toNat) ≤ 9; omega)) (by rw [pz_u1_top (r := 157)]; rfl)
          refine w_callv hc42 rfl (pz_cokI is_154 rfl) ?_
          refine w_loc rfl ?_
          refine w_loc rfl ?_
          refine w_loc rfl ?_
          have hc43 : pz_R (pz_Sh L) 207 [.inr (.inl 154), .inl s] (pz_u1 iv 157 (q_eg f ((iv 155) (212 + 4 * s).toNat) ((iv 155) (212 + 4 * s + 1).toNat) ((iv 155) (212 + 4 * s + 3).toNat))) (.inl (some (.inl ((iv 155) (212 + 4 * s + 1).toNat)))) (pz_u1 iv 157 (q_eg f ((iv 155) (212 + 4 * s).toNat) ((iv 155) (212 + 4 * s + 1).toNat) ((iv 155) (212 + 4 * s + 3).toNat))) := s_X11_endOf s (by show 0 ≤ s ∧ s ≤ 2; omega)
          refine w_call hc43 rfl (pz_cokI is_154 rfl) ?_
          refine w_loc rfl ?_
          refine w_loc rfl ?_
          have hc44 : pz_R (pz_Sh L) 206 [.inr (.inl 154), .inl s] (pz_u1 iv 157 (q_eg f ((iv 155) (212 + 4 * s).toNat) ((iv 155) (212 + 4 * s + 1).toNat) ((iv 155) (212 + 4 * s + 3).toNat))) (.inl (some (.inl ((iv 155) (212 + 4 * s).toNat)))) (pz_u1 iv 157 (q_eg f ((iv 155) (212 + 4 * s).toNat) ((iv 155) (212 + 4 * s + 1).toNat) ((iv 155) (212 + 4 * s + 3).toNat))) := s_X11_first s (by show 0 ≤ s ∧ s ≤ 2; omega)
          refine w_call hc44 rfl (pz_cokI is_154 rfl) ?_
          refine w_loc rfl ?_
          refine w_loc rfl ?_
          have hc45 : pz_R (pz_Sh L) 210 [.inr (.inl 154), .inl s] (pz_u1 iv 157 (q_eg f ((iv 155) (212 + 4 * s).toNat) ((iv 155) (212 + 4 * s + 1).toNat) ((iv 155) (212 + 4 * s + 3).toNat))) (.inl (some (.inl (pz_bi (q_sta (iv 155) ((iv 155) (212 + 4 * s + 1).toNat)))))) (pz_u1 iv 157 (q_eg f ((iv 155) (212 + 4 * s).toNat) ((iv 155) (212 + 4 * s + 1).toNat) ((iv 155) (212 + 4 * s + 3).toNat))) := s_X11_hasEnded s (by show q_KR (iv 155); exact hk) (by show 0 ≤ s ∧ s < (iv 155) 2; omega)
          refine w_call hc45 rfl (pz_cokI is_154 rfl) ?_
          refine w_bne (fun h46 => ?_) (fun h46 => ?_)
          · refine pz_G_of pz_b237_89 ?_
            refine w_loc rfl ?_
            refine w_loc rfl ?_
            have hc47 : pz_R (pz_Sh L) 208 [.inr (.inl 154), .inl s] (pz_u1 iv 157 (q_eg f ((iv 155) (212 + 4 * s).toNat) ((iv 155) (212 + 4 * s + 1).toNat) ((iv 155) (212 + 4 * s + 3).toNat))) (.inl (some (.inl ((iv 155) (212 + 4 * s + 2).toNat)))) (pz_u1 iv 157 (q_eg f ((iv 155) (212 + 4 * s).toNat) ((iv 155) (212 + 4 * s + 1).toNat) ((iv 155) (212 + 4 * s + 3).toNat))) := s_X11_least s (by show 0 ≤ s ∧ s ≤ 2; omega)
            refine w_call hc47 rfl (pz_cokI is_154 rfl) ?_
            refine w_ineg (by omega) ?_
            refine w_goto ?_
            refine pz_G_of pz_b237_104 ?_
            have hc48 : pz_R (pz_Sh L) 224 [.inr (.inl 154), .inl ((iv 155) (212 + 4 * s + 1).toNat), .inl ((iv 155) (212 + 4 * s).toNat), .inl (-((iv 155) (212 + 4 * s + 2).toNat))] (pz_u1 iv 157 (q_eg f ((iv 155) (212 + 4 * s).toNat) ((iv 155) (212 + 4 * s + 1).toNat) ((iv 155) (212 + 4 * s + 3).toNat))) (.inl none) (pz_u1 iv 157 (q_eg (q_eg f ((iv 155) (212 + 4 * s).toNat) ((iv 155) (212 + 4 * s + 1).toNat) ((iv 155) (212 + 4 * s + 3).toNat)) ((iv 155) (212 + 4 * s + 1).toNat) ((iv 155) (212 + 4 * s).toNat) (-((iv 155) (212 + 4 * s + 2).toNat)))) := pz_R_mem (s_X11_edge ((iv 155) (212 + 4 * s + 1).toNat) ((iv 155) (212 + 4 * s).toNat) (-((iv 155) (212 + 4 * s + 2).toNat)) (by show 0 ≤ ((iv 155) (212 + 4 * s + 1).toNat) ∧ ((iv 155) (212 + 4 * s + 1).toNat) ≤ 9; omega) (by show 0 ≤ ((iv 155) (212 + 4 * s).toNat) ∧ ((iv 155) (212 + 4 * s).toNat) ≤ 9; omega)) (by rw [pz_u1_top (r := 157)]; rfl)
            refine w_callv hc48 rfl (pz_cokI is_154 rfl) ?_
            refine w_iinc (ls' := [some (.inr (.inl 154)), some (.inl p), some (.inl (s + 1)), some (.inl 1)]) rfl rfl rfl (by omega) ?_
            refine w_goto ?_
            exact ih2 _ (by omega) (s + 1) (q_eg (q_eg f ((iv 155) (212 + 4 * s).toNat) ((iv 155) (212 + 4 * s + 1).toNat) ((iv 155) (212 + 4 * s + 3).toNat)) ((iv 155) (212 + 4 * s + 1).toNat) ((iv 155) (212 + 4 * s).toNat) (-((iv 155) (212 + 4 * s + 2).toNat))) (some (.inl 1)) rfl rfl (by omega) (by rw [q_fr_s (by omega), ← hf]; unfold q_coE; first | (exfalso; omega) | rw [q_if_t (by omega), q_if_t (by omega)] | rw [q_if_t (by omega), q_if_f (by omega)] | rw [q_if_f (by omega), q_if_t (by omega)] | rw [q_if_f (by omega), q_if_f (by omega)])
          · refine w_loc rfl ?_
            refine w_zne (fun _ => ?_) (fun h => absurd h (by decide))
            refine pz_G_of pz_b237_98 ?_
            refine w_loc rfl ?_
            refine w_loc rfl ?_
            have hc49 : pz_R (pz_Sh L) 209 [.inr (.inl 154), .inl s] (pz_u1 iv 157 (q_eg f ((iv 155) (212 + 4 * s).toNat) ((iv 155) (212 + 4 * s + 1).toNat) ((iv 155) (212 + 4 * s + 3).toNat))) (.inl (some (.inl ((iv 155) (212 + 4 * s + 3).toNat)))) (pz_u1 iv 157 (q_eg f ((iv 155) (212 + 4 * s).toNat) ((iv 155) (212 + 4 * s + 1).toNat) ((iv 155) (212 + 4 * s + 3).toNat))) := s_X11_greatest s (by show 0 ≤ s ∧ s ≤ 2; omega)
            refine w_call hc49 rfl (pz_cokI is_154 rfl) ?_
            refine w_ineg (by omega) ?_
            refine w_nil ?_
            refine pz_G_of pz_b237_104 ?_
            have hc50 : pz_R (pz_Sh L) 224 [.inr (.inl 154), .inl ((iv 155) (212 + 4 * s + 1).toNat), .inl ((iv 155) (212 + 4 * s).toNat), .inl (-((iv 155) (212 + 4 * s + 3).toNat))] (pz_u1 iv 157 (q_eg f ((iv 155) (212 + 4 * s).toNat) ((iv 155) (212 + 4 * s + 1).toNat) ((iv 155) (212 + 4 * s + 3).toNat))) (.inl none) (pz_u1 iv 157 (q_eg (q_eg f ((iv 155) (212 + 4 * s).toNat) ((iv 155) (212 + 4 * s + 1).toNat) ((iv 155) (212 + 4 * s + 3).toNat)) ((iv 155) (212 + 4 * s + 1).toNat) ((iv 155) (212 + 4 * s).toNat) (-((iv 155) (212 + 4 * s + 3).toNat)))) := pz_R_mem (s_X11_edge ((iv 155) (212 + 4 * s + 1).toNat) ((iv 155) (212 + 4 * s).toNat) (-((iv 155) (212 + 4 * s + 3).toNat)) (by show 0 ≤ ((iv 155) (212 + 4 * s + 1).toNat) ∧ ((iv 155) (212 + 4 * s + 1).toNat) ≤ 9; omega) (by show 0 ≤ ((iv 155) (212 + 4 * s).toNat) ∧ ((iv 155) (212 + 4 * s).toNat) ≤ 9; omega)) (by rw [pz_u1_top (r := 157)]; rfl)
            refine w_callv hc50 rfl (pz_cokI is_154 rfl) ?_
            refine w_iinc (ls' := [some (.inr (.inl 154)), some (.inl p), some (.inl (s + 1)), some (.inl 1)]) rfl rfl rfl (by omega) ?_
            refine w_goto ?_
            exact ih2 _ (by omega) (s + 1) (q_eg (q_eg f ((iv 155) (212 + 4 * s).toNat) ((iv 155) (212 + 4 * s + 1).toNat) ((iv 155) (212 + 4 * s + 3).toNat)) ((iv 155) (212 + 4 * s + 1).toNat) ((iv 155) (212 + 4 * s).toNat) (-((iv 155) (212 + 4 * s + 3).toNat))) (some (.inl 1)) rfl rfl (by omega) (by rw [q_fr_s (by omega), ← hf]; unfold q_coE; first | (exfalso; omega) | rw [q_if_t (by omega), q_if_t (by omega)] | rw [q_if_t (by omega), q_if_f (by omega)] | rw [q_if_f (by omega), q_if_t (by omega)] | rw [q_if_f (by omega), q_if_f (by omega)])
  exact lp2 _ 0 (iv 157) (none) rfl rfl (by omega) (by rw [q_fr_0 (by omega)])
