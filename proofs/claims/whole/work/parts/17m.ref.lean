
theorem s_X11_levels_0a {L : Nat} {iv : Nat → Nat → Int} (hk : q_KR (iv 155)) (hcase0 : ¬ q_con (iv 155) (iv 161)) : pz_R (pz_Sh L) 293 [.inr (.inl 154)] iv (.inl (some (.inl 0))) (pz_u1 (pz_u1 iv 155 (iv 155)) 157 (q_dd (iv 155) (iv 161) (iv 157))) := by
  intro dv cc ss
  have hk0 := hk.r0
  refine pz_G_mem (iv2 := pz_u1 (pz_u1 iv 155 (iv 155)) 157 (iv 157)) (by exact ((pz_u1_self iv 155).symm).trans (pz_u1_self (pz_u1 iv 155 (iv 155)) 157).symm) ?_
  show pz_G 293 0 [some (.inr (.inl 154)), none, none, none, none, none, none] [] (pz_Sh L, pz_u1 (pz_u1 iv 155 (iv 155)) 157 (iv 157), dv, cc, ss) (pz_P (pz_Sh L) (.inl (some (.inl 0))) (pz_u1 (pz_u1 iv 155 (iv 155)) 157 (q_dd (iv 155) (iv 161) (iv 157))) dv cc ss)
  refine pz_G_of pz_b293_0 ?_
  refine w_loc rfl ?_
  have hc1 : pz_R (pz_Sh L) 227 [.inr (.inl 154)] (pz_u1 (pz_u1 iv 155 (iv 155)) 157 (iv 157)) (.inl (some (.inl (pz_bi (q_con (iv 155) (iv 161)))))) (pz_u1 (pz_u1 iv 155 (iv 155)) 157 (q_dd (iv 155) (iv 161) (iv 157))) := pz_R_mem (s_X11_isConsistentNow (by show q_KR (iv 155); exact hk)) (by rw [pz_u1_top (r := 157)]; rfl)
  refine w_call hc1 rfl (pz_cokI is_154 rfl) ?_
  refine w_beq (fun h2 => ?_) (fun h2 => ?_)
  · first
    | (exfalso; first | omega | contradiction)
    | (refine pz_G_of pz_b293_18 ?_
       refine w_pure rfl ?_
       refine w_ret (pz_rok1 (Or.inl rfl)) ?_
       first | exact lf_i (by first | rfl | omega) (by rfl) | (exfalso; omega))
  · first
    | (exfalso; first | omega | contradiction)
    | (refine w_loc rfl ?_
       refine w_getR (q := 155) is_154 rf_154_1 ?_
       refine w_pure rfl ?_
       refine w_iald (v := (iv 155) 1) is_155 ln_155 ⟨by omega, by omega⟩ rfl ?_
       refine w_pure rfl ?_
       refine w_ine (fun h3 => ?_) (fun h3 => ?_)
       · first
         | (exfalso; first | omega | contradiction)
         | (exfalso; first | omega | contradiction)
       · first
         | (exfalso; first | omega | contradiction)
         | (refine w_nil ?_
            refine pz_G_of pz_b293_18 ?_
            refine w_pure rfl ?_
            refine w_ret (pz_rok1 (Or.inl rfl)) ?_
            first | exact lf_i (by first | rfl | omega) (by rfl) | (exfalso; omega)))

theorem s_X11_levels_0b {L : Nat} {iv : Nat → Nat → Int} (hk : q_KR (iv 155)) (hcase0 : q_con (iv 155) (iv 161)) (hcase1 : iv 155 1 = 40) : pz_R (pz_Sh L) 293 [.inr (.inl 154)] iv (.inl (some (.inl 0))) (pz_u1 (pz_u1 iv 155 (iv 155)) 157 (q_dd (iv 155) (iv 161) (iv 157))) := by
  intro dv cc ss
  have hk0 := hk.r0
  refine pz_G_mem (iv2 := pz_u1 (pz_u1 iv 155 (iv 155)) 157 (iv 157)) (by exact ((pz_u1_self iv 155).symm).trans (pz_u1_self (pz_u1 iv 155 (iv 155)) 157).symm) ?_
  show pz_G 293 0 [some (.inr (.inl 154)), none, none, none, none, none, none] [] (pz_Sh L, pz_u1 (pz_u1 iv 155 (iv 155)) 157 (iv 157), dv, cc, ss) (pz_P (pz_Sh L) (.inl (some (.inl 0))) (pz_u1 (pz_u1 iv 155 (iv 155)) 157 (q_dd (iv 155) (iv 161) (iv 157))) dv cc ss)
  refine pz_G_of pz_b293_0 ?_
  refine w_loc rfl ?_
  have hc1 : pz_R (pz_Sh L) 227 [.inr (.inl 154)] (pz_u1 (pz_u1 iv 155 (iv 155)) 157 (iv 157)) (.inl (some (.inl (pz_bi (q_con (iv 155) (iv 161)))))) (pz_u1 (pz_u1 iv 155 (iv 155)) 157 (q_dd (iv 155) (iv 161) (iv 157))) := pz_R_mem (s_X11_isConsistentNow (by show q_KR (iv 155); exact hk)) (by rw [pz_u1_top (r := 157)]; rfl)
  refine w_call hc1 rfl (pz_cokI is_154 rfl) ?_
  refine w_beq (fun h2 => ?_) (fun h2 => ?_)
  · first
    | (exfalso; first | omega | contradiction)
    | (refine pz_G_of pz_b293_18 ?_
       refine w_pure rfl ?_
       refine w_ret (pz_rok1 (Or.inl rfl)) ?_
       first | exact lf_i (by first | rfl | omega) (by rfl) | (exfalso; omega))
  · first
    | (exfalso; first | omega | contradiction)
    | (refine w_loc rfl ?_
       refine w_getR (q := 155) is_154 rf_154_1 ?_
       refine w_pure rfl ?_
       refine w_iald (v := (iv 155) 1) is_155 ln_155 ⟨by omega, by omega⟩ rfl ?_
       refine w_pure rfl ?_
       refine w_ine (fun h3 => ?_) (fun h3 => ?_)
       · first
         | (exfalso; first | omega | contradiction)
         | (exfalso; first | omega | contradiction)
       · first
         | (exfalso; first | omega | contradiction)
         | (refine w_nil ?_
            refine pz_G_of pz_b293_18 ?_
            refine w_pure rfl ?_
            refine w_ret (pz_rok1 (Or.inl rfl)) ?_
            first | exact lf_i (by first | rfl | omega) (by rfl) | (exfalso; omega)))

theorem s_X11_levels_0c {L : Nat} {iv : Nat → Nat → Int} (hk : q_KR (iv 155)) (hcase0 : q_con (iv 155) (iv 161)) (hcase1 : ¬ (iv 155 1 = 40)) (hcase2 : q_pk (iv 155) (q_dd (iv 155) (iv 161) (iv 157)) = -1) : pz_R (pz_Sh L) 293 [.inr (.inl 154)] iv (.inl (some (.inl 0))) (pz_u1 (pz_u1 iv 155 (iv 155)) 157 (q_dd (iv 155) (iv 161) (iv 157))) := by
  intro dv cc ss
  have hk0 := hk.r0
  refine pz_G_mem (iv2 := pz_u1 (pz_u1 iv 155 (iv 155)) 157 (iv 157)) (by exact ((pz_u1_self iv 155).symm).trans (pz_u1_self (pz_u1 iv 155 (iv 155)) 157).symm) ?_
  show pz_G 293 0 [some (.inr (.inl 154)), none, none, none, none, none, none] [] (pz_Sh L, pz_u1 (pz_u1 iv 155 (iv 155)) 157 (iv 157), dv, cc, ss) (pz_P (pz_Sh L) (.inl (some (.inl 0))) (pz_u1 (pz_u1 iv 155 (iv 155)) 157 (q_dd (iv 155) (iv 161) (iv 157))) dv cc ss)
  refine pz_G_of pz_b293_0 ?_
  refine w_loc rfl ?_
  have hc1 : pz_R (pz_Sh L) 227 [.inr (.inl 154)] (pz_u1 (pz_u1 iv 155 (iv 155)) 157 (iv 157)) (.inl (some (.inl (pz_bi (q_con (iv 155) (iv 161)))))) (pz_u1 (pz_u1 iv 155 (iv 155)) 157 (q_dd (iv 155) (iv 161) (iv 157))) := pz_R_mem (s_X11_isConsistentNow (by show q_KR (iv 155); exact hk)) (by rw [pz_u1_top (r := 157)]; rfl)
  refine w_call hc1 rfl (pz_cokI is_154 rfl) ?_
  refine w_beq (fun h2 => ?_) (fun h2 => ?_)
  · first
    | (exfalso; first | omega | contradiction)
    | (refine pz_G_of pz_b293_18 ?_
       refine w_pure rfl ?_
       refine w_ret (pz_rok1 (Or.inl rfl)) ?_
       first | exact lf_i (by first | rfl | omega) (by rfl) | (exfalso; omega))
  · first
    | (exfalso; first | omega | contradiction)
    | (refine w_loc rfl ?_
       refine w_getR (q := 155) is_154 rf_154_1 ?_
       refine w_pure rfl ?_
       refine w_iald (v := (iv 155) 1) is_155 ln_155 ⟨by omega, by omega⟩ rfl ?_
       refine w_pure rfl ?_
       refine w_ine (fun h3 => ?_) (fun h3 => ?_)
       · first
         | (exfalso; first | omega | contradiction)
         | (refine pz_G_of pz_b293_20 ?_
            refine w_loc rfl ?_
            have hc4 : pz_R (pz_Sh L) 286 [.inr (.inl 154)] (pz_u1 (pz_u1 iv 155 (iv 155)) 157 (q_dd (iv 155) (iv 161) (iv 157))) (.inl (some (.inl (q_pk (iv 155) (q_dd (iv 155) (iv 161) (iv 157)))))) (pz_u1 (pz_u1 iv 155 (iv 155)) 157 (q_dd (iv 155) (iv 161) (iv 157))) := s_X11_peakOf (by show q_KR (iv 155); exact hk) (by show q_dl (q_dd (iv 155) (iv 161) (iv 157)); first | exact hd | exact q_dd_l hk (by assumption))
            refine w_call hc4 rfl (pz_cokI is_154 rfl) ?_
            refine w_loc (ls' := [some (.inr (.inl 154)), some (.inl (q_pk (iv 155) (q_dd (iv 155) (iv 161) (iv 157)))), none, none, none, none, none]) (st' := []) rfl ?_
            refine w_loc rfl ?_
            refine w_pure rfl ?_
            refine w_ine (fun h5 => ?_) (fun h5 => ?_)
            · first
              | (exfalso; first | omega | contradiction)
              | (exfalso; first | omega | contradiction)
            · first
              | (exfalso; first | omega | contradiction)
              | (refine w_pure rfl ?_
                 refine w_ret (pz_rok1 (Or.inl rfl)) ?_
                 first | exact lf_i (by first | rfl | omega) (by rfl) | (exfalso; omega)))
       · first
         | (exfalso; first | omega | contradiction)
         | (refine w_nil ?_
            refine pz_G_of pz_b293_18 ?_
            refine w_pure rfl ?_
            refine w_ret (pz_rok1 (Or.inl rfl)) ?_
            first | exact lf_i (by first | rfl | omega) (by rfl) | (exfalso; omega)))

theorem s_X11_levels_0d {L : Nat} {iv : Nat → Nat → Int} (hk : q_KR (iv 155)) (hcase0 : q_con (iv 155) (iv 161)) (hcase1 : ¬ (iv 155 1 = 40)) (hcase2 : q_pk (iv 155) (q_dd (iv 155) (iv 161) (iv 157)) ≠ -1) (hcase3 : q_lv (iv 155) (q_dd (iv 155) (iv 161) (iv 157)) = -1) : pz_R (pz_Sh L) 293 [.inr (.inl 154)] iv (.inl (some (.inl 0))) (pz_u1 (pz_u1 iv 155 (iv 155)) 157 (q_dd (iv 155) (iv 161) (iv 157))) := by
  intro dv cc ss
  have hk0 := hk.r0
  refine pz_G_mem (iv2 := pz_u1 (pz_u1 iv 155 (iv 155)) 157 (iv 157)) (by exact ((pz_u1_self iv 155).symm).trans (pz_u1_self (pz_u1 iv 155 (iv 155)) 157).symm) ?_
  show pz_G 293 0 [some (.inr (.inl 154)), none, none, none, none, none, none] [] (pz_Sh L, pz_u1 (pz_u1 iv 155 (iv 155)) 157 (iv 157), dv, cc, ss) (pz_P (pz_Sh L) (.inl (some (.inl 0))) (pz_u1 (pz_u1 iv 155 (iv 155)) 157 (q_dd (iv 155) (iv 161) (iv 157))) dv cc ss)
  refine pz_G_of pz_b293_0 ?_
  refine w_loc rfl ?_
  have hc1 : pz_R (pz_Sh L) 227 [.inr (.inl 154)] (pz_u1 (pz_u1 iv 155 (iv 155)) 157 (iv 157)) (.inl (some (.inl (pz_bi (q_con (iv 155) (iv 161)))))) (pz_u1 (pz_u1 iv 155 (iv 155)) 157 (q_dd (iv 155) (iv 161) (iv 157))) := pz_R_mem (s_X11_isConsistentNow (by show q_KR (iv 155); exact hk)) (by rw [pz_u1_top (r := 157)]; rfl)
  refine w_call hc1 rfl (pz_cokI is_154 rfl) ?_
  refine w_beq (fun h2 => ?_) (fun h2 => ?_)
  · first
    | (exfalso; first | omega | contradiction)
    | (refine pz_G_of pz_b293_18 ?_
       refine w_pure rfl ?_
       refine w_ret (pz_rok1 (Or.inl rfl)) ?_
       first | exact lf_i (by first | rfl | omega) (by rfl) | (exfalso; omega))
  · first
    | (exfalso; first | omega | contradiction)
    | (refine w_loc rfl ?_
       refine w_getR (q := 155) is_154 rf_154_1 ?_
       refine w_pure rfl ?_
       refine w_iald (v := (iv 155) 1) is_155 ln_155 ⟨by omega, by omega⟩ rfl ?_
       refine w_pure rfl ?_
       refine w_ine (fun h3 => ?_) (fun h3 => ?_)
       · first
         | (exfalso; first | omega | contradiction)
         | (refine pz_G_of pz_b293_20 ?_
            refine w_loc rfl ?_
            have hc4 : pz_R (pz_Sh L) 286 [.inr (.inl 154)] (pz_u1 (pz_u1 iv 155 (iv 155)) 157 (q_dd (iv 155) (iv 161) (iv 157))) (.inl (some (.inl (q_pk (iv 155) (q_dd (iv 155) (iv 161) (iv 157)))))) (pz_u1 (pz_u1 iv 155 (iv 155)) 157 (q_dd (iv 155) (iv 161) (iv 157))) := s_X11_peakOf (by show q_KR (iv 155); exact hk) (by show q_dl (q_dd (iv 155) (iv 161) (iv 157)); first | exact hd | exact q_dd_l hk (by assumption))
            refine w_call hc4 rfl (pz_cokI is_154 rfl) ?_
            refine w_loc (ls' := [some (.inr (.inl 154)), some (.inl (q_pk (iv 155) (q_dd (iv 155) (iv 161) (iv 157)))), none, none, none, none, none]) (st' := []) rfl ?_
            refine w_loc rfl ?_
            refine w_pure rfl ?_
            refine w_ine (fun h5 => ?_) (fun h5 => ?_)
            · first
              | (exfalso; first | omega | contradiction)
              | (refine pz_G_of pz_b293_32 ?_
                 refine w_loc rfl ?_
                 refine w_loc rfl ?_
                 have hc6 : pz_R (pz_Sh L) 287 [.inr (.inl 154), .inl (q_pk (iv 155) (q_dd (iv 155) (iv 161) (iv 157)))] (pz_u1 (pz_u1 iv 155 (iv 155)) 157 (q_dd (iv 155) (iv 161) (iv 157))) (.inl (some (.inl (q_st (iv 155) (q_dd (iv 155) (iv 161) (iv 157)) (q_pk (iv 155) (q_dd (iv 155) (iv 161) (iv 157))) ((iv 155) 3))))) (pz_u1 (pz_u1 iv 155 (iv 155)) 157 (q_dd (iv 155) (iv 161) (iv 157))) := s_X11_setAt (q_pk (iv 155) (q_dd (iv 155) (iv 161) (iv 157))) (by show q_KR (iv 155); exact hk) (by show q_dl (q_dd (iv 155) (iv 161) (iv 157)); first | exact hd | exact q_dd_l hk (by assumption))
                 refine w_call hc6 rfl (pz_cokI is_154 rfl) ?_
                 refine w_loc (ls' := [some (.inr (.inl 154)), some (.inl (q_pk (iv 155) (q_dd (iv 155) (iv 161) (iv 157)))), some (.inl (q_st (iv 155) (q_dd (iv 155) (iv 161) (iv 157)) (q_pk (iv 155) (q_dd (iv 155) (iv 161) (iv 157))) ((iv 155) 3))), none, none, none, none]) (st' := []) rfl ?_
                 refine w_pure rfl ?_
                 refine w_loc (ls' := [some (.inr (.inl 154)), some (.inl (q_pk (iv 155) (q_dd (iv 155) (iv 161) (iv 157)))), some (.inl (q_st (iv 155) (q_dd (iv 155) (iv 161) (iv 157)) (q_pk (iv 155) (q_dd (iv 155) (iv 161) (iv 157))) ((iv 155) 3))), some (.inl (-1)), none, none, none]) (st' := []) rfl ?_
                 refine w_pure rfl ?_
                 refine w_loc (ls' := [some (.inr (.inl 154)), some (.inl (q_pk (iv 155) (q_dd (iv 155) (iv 161) (iv 157)))), some (.inl (q_st (iv 155) (q_dd (iv 155) (iv 161) (iv 157)) (q_pk (iv 155) (q_dd (iv 155) (iv 161) (iv 157))) ((iv 155) 3))), some (.inl (-1)), some (.inl (-1)), none, none]) (st' := []) rfl ?_
                 refine w_pure rfl ?_
                 refine w_loc (ls' := [some (.inr (.inl 154)), some (.inl (q_pk (iv 155) (q_dd (iv 155) (iv 161) (iv 157)))), some (.inl (q_st (iv 155) (q_dd (iv 155) (iv 161) (iv 157)) (q_pk (iv 155) (q_dd (iv 155) (iv 161) (iv 157))) ((iv 155) 3))), some (.inl (-1)), some (.inl (-1)), some (.inl 0), none]) (st' := []) rfl ?_
                 refine w_nil ?_
                 have lp46 : ∀ (dd : Nat) (be : Int) (mo : Int) (x : Int) (u46_1 : Option pz_V) (hu46_1 : pz_nc u46_1 = true) (u46_6 : Option pz_V) (hu46_6 : pz_nc u46_6 = true), (iv 155 3 - x).toNat = dd → ∀ (hx : 0 ≤ x ∧ x ≤ iv 155 3), ∀ (hs : (mo, be) = q_lvF (iv 155) (q_dd (iv 155) (iv 161) (iv 157)) (q_st (iv 155) (q_dd (iv 155) (iv 161) (iv 157)) (q_pk (iv 155) (q_dd (iv 155) (iv 161) (iv 157))) (iv 155 3)) x), ∀ (hbe : -1 ≤ be ∧ be ≤ 24), ∀ (hmo : -1 ≤ mo),  pz_G 293 46 [some (.inr (.inl 154)), u46_1, some (.inl (q_st (iv 155) (q_dd (iv 155) (iv 161) (iv 157)) (q_pk (iv 155) (q_dd (iv 155) (iv 161) (iv 157))) ((iv 155) 3))), some (.inl be), some (.inl mo), some (.inl x), u46_6] [] (pz_Sh L, pz_u1 (pz_u1 iv 155 (iv 155)) 157 (q_dd (iv 155) (iv 161) (iv 157)), dv, cc, ss) (pz_P (pz_Sh L) (.inl (some (.inl 0))) (pz_u1 (pz_u1 iv 155 (iv 155)) 157 (q_dd (iv 155) (iv 161) (iv 157))) dv cc ss) := by
                   intro dd46
                   induction dd46 using Nat.strongRecOn with
                   | _ dd46 ih46 =>
                   intro be mo x u46_1 hu46_1 u46_6 hu46_6 hd46 hx hs hbe hmo
                   refine pz_G_of pz_b293_46 ?_
                   refine w_loc rfl ?_
                   refine w_loc rfl ?_
                   refine w_getR (q := 155) is_154 rf_154_1 ?_
                   refine w_pure rfl ?_
                   refine w_iald (v := (iv 155) 3) is_155 ln_155 ⟨by omega, by omega⟩ rfl ?_
                   refine w_ige (fun h7 => ?_) (fun h7 => ?_)
                   · first
                     | (exfalso; first | omega | contradiction)
                     | (have hbe9 : be = q_lv (iv 155) (q_dd (iv 155) (iv 161) (iv 157)) := by
                          have h9 := congrArg Prod.snd hs
                          rw [show x = iv 155 3 by omega] at h9
                          exact h9
                        refine pz_G_of pz_b293_153 ?_
                        refine w_loc rfl ?_
                        refine w_pure rfl ?_
                        refine w_ine (fun h8 => ?_) (fun h8 => ?_)
                        · first
                          | (exfalso; first | omega | contradiction)
                          | (exfalso; first | omega | contradiction)
                        · first
                          | (exfalso; first | omega | contradiction)
                          | (refine w_pure rfl ?_
                             refine w_ret (pz_rok1 (Or.inl rfl)) ?_
                             first | exact lf_i (by first | rfl | omega) (by rfl) | (exfalso; omega)))
                   · first
                     | (exfalso; first | omega | contradiction)
                     | (refine w_pure rfl ?_
                        refine w_loc (ls' := [some (.inr (.inl 154)), u46_1, some (.inl (q_st (iv 155) (q_dd (iv 155) (iv 161) (iv 157)) (q_pk (iv 155) (q_dd (iv 155) (iv 161) (iv 157))) ((iv 155) 3))), some (.inl be), some (.inl mo), some (.inl x), some (.inl 0)]) (st' := []) rfl ?_
                        refine w_nil ?_
                        have lp60 : ∀ (dd : Nat) (be2 : Int) (mo2 : Int) (y : Int) (u60_1 : Option pz_V) (hu60_1 : pz_nc u60_1 = true), (iv 155 3 - y).toNat = dd → ∀ (hy : 0 ≤ y ∧ y ≤ iv 155 3), ∀ (hs2 : (mo2, be2) = q_fr (q_lvS (iv 155) (q_dd (iv 155) (iv 161) (iv 157)) (q_st (iv 155) (q_dd (iv 155) (iv 161) (iv 157)) (q_pk (iv 155) (q_dd (iv 155) (iv 161) (iv 157))) (iv 155 3)) x) 0 y (mo, be)), ∀ (hbe2 : -1 ≤ be2 ∧ be2 ≤ 24), ∀ (hmo2 : -1 ≤ mo2),  pz_G 293 60 [some (.inr (.inl 154)), u60_1, some (.inl (q_st (iv 155) (q_dd (iv 155) (iv 161) (iv 157)) (q_pk (iv 155) (q_dd (iv 155) (iv 161) (iv 157))) ((iv 155) 3))), some (.inl be2), some (.inl mo2), some (.inl x), some (.inl y)] [] (pz_Sh L, pz_u1 (pz_u1 iv 155 (iv 155)) 157 (q_dd (iv 155) (iv 161) (iv 157)), dv, cc, ss) (pz_P (pz_Sh L) (.inl (some (.inl 0))) (pz_u1 (pz_u1 iv 155 (iv 155)) 157 (q_dd (iv 155) (iv 161) (iv 157))) dv cc ss) := by
                          intro dd60
                          induction dd60 using Nat.strongRecOn with
                          | _ dd60 ih60 =>
                          intro be2 mo2 y u60_1 hu60_1 hd60 hy hs2 hbe2 hmo2
                          refine pz_G_of pz_b293_60 ?_
                          refine w_loc rfl ?_
                          refine w_loc rfl ?_
                          refine w_getR (q := 155) is_154 rf_154_1 ?_
                          refine w_pure rfl ?_
                          refine w_iald (v := (iv 155) 3) is_155 ln_155 ⟨by omega, by omega⟩ rfl ?_
                          refine w_ige (fun h9 => ?_) (fun h9 => ?_)
                          · first
                            | (exfalso; first | omega | contradiction)
                            | (refine pz_G_of pz_b293_147 ?_
                               refine w_iinc (ls' := [some (.inr (.inl 154)), u60_1, some (.inl (q_st (iv 155) (q_dd (iv 155) (iv 161) (iv 157)) (q_pk (iv 155) (q_dd (iv 155) (iv 161) (iv 157))) ((iv 155) 3))), some (.inl be2), some (.inl mo2), some (.inl (x + 1)), some (.inl y)]) rfl rfl rfl (by omega) ?_
                               refine w_goto ?_
                               exact ih46 _ (by omega) be2 mo2 (x + 1) u60_1 hu60_1 (some (.inl y)) rfl rfl (by omega) (by unfold q_lvF at hs ⊢; rw [q_fr_s (by omega), ← hs]; unfold q_lvX; rw [hs2, show y = iv 155 3 by omega]) (by omega) (by omega))
                          · first
                            | (exfalso; first | omega | contradiction)
                            | (refine w_loc rfl ?_
                               refine w_loc rfl ?_
                               refine w_ieq (fun h10 => ?_) (fun h10 => ?_)
                               · first
                                 | (exfalso; first | omega | contradiction)
                                 | (refine pz_G_of pz_b293_141 ?_
                                    refine w_iinc (ls' := [some (.inr (.inl 154)), u60_1, some (.inl (q_st (iv 155) (q_dd (iv 155) (iv 161) (iv 157)) (q_pk (iv 155) (q_dd (iv 155) (iv 161) (iv 157))) ((iv 155) 3))), some (.inl be2), some (.inl mo2), some (.inl x), some (.inl (y + 1))]) rfl rfl rfl (by omega) ?_
                                    refine w_goto ?_
                                    exact ih60 _ (by omega) be2 mo2 (y + 1) u60_1 hu60_1 rfl (by omega) (by first | exact q_lvS_t (by omega) hs2 (by refine ⟨?_, ?_, ?_, ?_, ?_⟩ <;> omega) | exact q_lvS_f (by omega) hs2 (fun ⟨g1, g2, g3, g4, g5⟩ => by omega)) (by omega) (by omega))
                               · first
                                 | (exfalso; first | omega | contradiction)
                                 | (refine w_loc rfl ?_
                                    refine w_loc rfl ?_
                                    refine w_ishr ?_
                                    refine w_pure rfl ?_
                                    refine w_iand ?_
                                    refine w_zeq (fun h11 => ?_) (fun h11 => ?_)
                                    · first
                                      | (exfalso; first | omega | contradiction)
                                      | (refine pz_G_of pz_b293_141 ?_
                                         refine w_iinc (ls' := [some (.inr (.inl 154)), u60_1, some (.inl (q_st (iv 155) (q_dd (iv 155) (iv 161) (iv 157)) (q_pk (iv 155) (q_dd (iv 155) (iv 161) (iv 157))) ((iv 155) 3))), some (.inl be2), some (.inl mo2), some (.inl x), some (.inl (y + 1))]) rfl rfl rfl (by omega) ?_
                                         refine w_goto ?_
                                         exact ih60 _ (by omega) be2 mo2 (y + 1) u60_1 hu60_1 rfl (by omega) (by first | exact q_lvS_t (by omega) hs2 (by refine ⟨?_, ?_, ?_, ?_, ?_⟩ <;> omega) | exact q_lvS_f (by omega) hs2 (fun ⟨g1, g2, g3, g4, g5⟩ => by omega)) (by omega) (by omega))
                                    · first
                                      | (exfalso; first | omega | contradiction)
                                      | (refine w_loc rfl ?_
                                         refine w_loc rfl ?_
                                         refine w_ishr ?_
                                         refine w_pure rfl ?_
                                         refine w_iand ?_
                                         refine w_zeq (fun h12 => ?_) (fun h12 => ?_)
                                         · first
                                           | (exfalso; first | omega | contradiction)
                                           | (refine pz_G_of pz_b293_141 ?_
                                              refine w_iinc (ls' := [some (.inr (.inl 154)), u60_1, some (.inl (q_st (iv 155) (q_dd (iv 155) (iv 161) (iv 157)) (q_pk (iv 155) (q_dd (iv 155) (iv 161) (iv 157))) ((iv 155) 3))), some (.inl be2), some (.inl mo2), some (.inl x), some (.inl (y + 1))]) rfl rfl rfl (by omega) ?_
                                              refine w_goto ?_
                                              exact ih60 _ (by omega) be2 mo2 (y + 1) u60_1 hu60_1 rfl (by omega) (by first | exact q_lvS_t (by omega) hs2 (by refine ⟨?_, ?_, ?_, ?_, ?_⟩ <;> omega) | exact q_lvS_f (by omega) hs2 (fun ⟨g1, g2, g3, g4, g5⟩ => by omega)) (by omega) (by omega))
                                         · first
                                           | (exfalso; first | omega | contradiction)
                                           | (refine w_loc rfl ?_
                                              refine w_loc rfl ?_
                                              refine w_loc rfl ?_
                                              have hc13 : pz_R (pz_Sh L) 290 [.inr (.inl 154), .inl x, .inl y] (pz_u1 (pz_u1 iv 155 (iv 155)) 157 (q_dd (iv 155) (iv 161) (iv 157))) (.inl (some (.inl (q_sl (iv 155) (q_dd (iv 155) (iv 161) (iv 157)) x y)))) (pz_u1 (pz_u1 iv 155 (iv 155)) 157 (q_dd (iv 155) (iv 161) (iv 157))) := s_X11_slackOf x y (by show q_KR (iv 155); exact hk) (by show 0 ≤ x ∧ x < (iv 155) 3; omega) (by show 0 ≤ y ∧ y < (iv 155) 3; omega)
                                              refine w_call hc13 rfl (pz_cokI is_154 rfl) ?_
                                              refine w_loc rfl ?_
                                              refine w_ile (fun h14 => ?_) (fun h14 => ?_)
                                              · first
                                                | (exfalso; first | omega | contradiction)
                                                | (refine pz_G_of pz_b293_141 ?_
                                                   refine w_iinc (ls' := [some (.inr (.inl 154)), u60_1, some (.inl (q_st (iv 155) (q_dd (iv 155) (iv 161) (iv 157)) (q_pk (iv 155) (q_dd (iv 155) (iv 161) (iv 157))) ((iv 155) 3))), some (.inl be2), some (.inl mo2), some (.inl x), some (.inl (y + 1))]) rfl rfl rfl (by omega) ?_
                                                   refine w_goto ?_
                                                   exact ih60 _ (by omega) be2 mo2 (y + 1) u60_1 hu60_1 rfl (by omega) (by first | exact q_lvS_t (by omega) hs2 (by refine ⟨?_, ?_, ?_, ?_, ?_⟩ <;> omega) | exact q_lvS_f (by omega) hs2 (fun ⟨g1, g2, g3, g4, g5⟩ => by omega)) (by omega) (by omega))
                                              · first
                                                | (exfalso; first | omega | contradiction)
                                                | (refine w_loc rfl ?_
                                                   refine w_loc rfl ?_
                                                   refine w_loc rfl ?_
                                                   have hc15 : pz_R (pz_Sh L) 292 [.inr (.inl 154), .inl x, .inl y] (pz_u1 (pz_u1 iv 155 (iv 155)) 157 (q_dd (iv 155) (iv 161) (iv 157))) (.inl (some (.inl (pz_bi (0 ≤ (q_dd (iv 155) (iv 161) (iv 157)) (10 * (iv 155) (224 + 3 * x + 1).toNat + (iv 155) (224 + 3 * y).toNat).toNat))))) (pz_u1 (pz_u1 iv 155 (iv 155)) 157 (q_dd (iv 155) (iv 161) (iv 157))) := s_X11_canCome x y (by show q_KR (iv 155); exact hk) (by show 0 ≤ x ∧ x < (iv 155) 3; omega) (by show 0 ≤ y ∧ y < (iv 155) 3; omega)
                                                   refine w_call hc15 rfl (pz_cokI is_154 rfl) ?_
                                                   refine w_bne (fun h16 => ?_) (fun h16 => ?_)
                                                   · first
                                                     | (exfalso; first | omega | contradiction)
                                                     | (refine pz_G_of pz_b293_123 ?_
                                                        refine w_loc rfl ?_
                                                        refine w_loc rfl ?_
                                                        refine w_loc rfl ?_
                                                        have hc17 : pz_R (pz_Sh L) 290 [.inr (.inl 154), .inl x, .inl y] (pz_u1 (pz_u1 iv 155 (iv 155)) 157 (q_dd (iv 155) (iv 161) (iv 157))) (.inl (some (.inl (q_sl (iv 155) (q_dd (iv 155) (iv 161) (iv 157)) x y)))) (pz_u1 (pz_u1 iv 155 (iv 155)) 157 (q_dd (iv 155) (iv 161) (iv 157))) := s_X11_slackOf x y (by show q_KR (iv 155); exact hk) (by show 0 ≤ x ∧ x < (iv 155) 3; omega) (by show 0 ≤ y ∧ y < (iv 155) 3; omega)
                                                        refine w_call hc17 rfl (pz_cokI is_154 rfl) ?_
                                                        refine w_loc (ls' := [some (.inr (.inl 154)), u60_1, some (.inl (q_st (iv 155) (q_dd (iv 155) (iv 161) (iv 157)) (q_pk (iv 155) (q_dd (iv 155) (iv 161) (iv 157))) ((iv 155) 3))), some (.inl be2), some (.inl (q_sl (iv 155) (q_dd (iv 155) (iv 161) (iv 157)) x y)), some (.inl x), some (.inl y)]) (st' := []) rfl ?_
                                                        refine w_pure rfl ?_
                                                        refine w_loc rfl ?_
                                                        refine w_imul (by omega) ?_
                                                        refine w_loc rfl ?_
                                                        refine w_iadd (by omega) ?_
                                                        refine w_loc (ls' := [some (.inr (.inl 154)), u60_1, some (.inl (q_st (iv 155) (q_dd (iv 155) (iv 161) (iv 157)) (q_pk (iv 155) (q_dd (iv 155) (iv 161) (iv 157))) ((iv 155) 3))), some (.inl ((5 * x) + y)), some (.inl (q_sl (iv 155) (q_dd (iv 155) (iv 161) (iv 157)) x y)), some (.inl x), some (.inl y)]) (st' := []) rfl ?_
                                                        refine w_nil ?_
                                                        refine pz_G_of pz_b293_141 ?_
                                                        refine w_iinc (ls' := [some (.inr (.inl 154)), u60_1, some (.inl (q_st (iv 155) (q_dd (iv 155) (iv 161) (iv 157)) (q_pk (iv 155) (q_dd (iv 155) (iv 161) (iv 157))) ((iv 155) 3))), some (.inl ((5 * x) + y)), some (.inl (q_sl (iv 155) (q_dd (iv 155) (iv 161) (iv 157)) x y)), some (.inl x), some (.inl (y + 1))]) rfl rfl rfl (by omega) ?_
                                                        refine w_goto ?_
                                                        exact ih60 _ (by omega) ((5 * x) + y) (q_sl (iv 155) (q_dd (iv 155) (iv 161) (iv 157)) x y) (y + 1) u60_1 hu60_1 rfl (by omega) (by first | exact q_lvS_t (by omega) hs2 (by refine ⟨?_, ?_, ?_, ?_, ?_⟩ <;> omega) | exact q_lvS_f (by omega) hs2 (fun ⟨g1, g2, g3, g4, g5⟩ => by omega)) (by omega) (by omega))
                                                   · first
                                                     | (exfalso; first | omega | contradiction)
                                                     | (refine w_goto ?_
                                                        refine pz_G_of pz_b293_141 ?_
                                                        refine w_iinc (ls' := [some (.inr (.inl 154)), u60_1, some (.inl (q_st (iv 155) (q_dd (iv 155) (iv 161) (iv 157)) (q_pk (iv 155) (q_dd (iv 155) (iv 161) (iv 157))) ((iv 155) 3))), some (.inl be2), some (.inl mo2), some (.inl x), some (.inl (y + 1))]) rfl rfl rfl (by omega) ?_
                                                        refine w_goto ?_
                                                        exact ih60 _ (by omega) be2 mo2 (y + 1) u60_1 hu60_1 rfl (by omega) (by first | exact q_lvS_t (by omega) hs2 (by refine ⟨?_, ?_, ?_, ?_, ?_⟩ <;> omega) | exact q_lvS_f (by omega) hs2 (fun ⟨g1, g2, g3, g4, g5⟩ => by omega)) (by omega) (by omega)))))))
                        exact lp60 _ be mo 0 u46_1 hu46_1 rfl (by omega) (by rw [q_fr_0 (by omega)]) (by omega) (by omega))
                 exact lp46 _ (-1) (-1) 0 (some (.inl (q_pk (iv 155) (q_dd (iv 155) (iv 161) (iv 157))))) rfl (none) rfl rfl (by omega) (by unfold q_lvF; rw [q_fr_0 (by omega)]) (by omega) (by omega))
            · first
              | (exfalso; first | omega | contradiction)
              | (refine w_pure rfl ?_
                 refine w_ret (pz_rok1 (Or.inl rfl)) ?_
                 first | exact lf_i (by first | rfl | omega) (by rfl) | (exfalso; omega)))
       · first
         | (exfalso; first | omega | contradiction)
         | (refine w_nil ?_
            refine pz_G_of pz_b293_18 ?_
            refine w_pure rfl ?_
            refine w_ret (pz_rok1 (Or.inl rfl)) ?_
            first | exact lf_i (by first | rfl | omega) (by rfl) | (exfalso; omega)))

theorem s_X11_levels_1 {L : Nat} {iv : Nat → Nat → Int} (hk : q_KR (iv 155)) (hcase0 : q_con (iv 155) (iv 161)) (hcase1 : ¬ (iv 155 1 = 40)) (hcase2 : q_pk (iv 155) (q_dd (iv 155) (iv 161) (iv 157)) ≠ -1) (hcase3 : q_lv (iv 155) (q_dd (iv 155) (iv 161) (iv 157)) ≠ -1) : pz_R (pz_Sh L) 293 [.inr (.inl 154)] iv (.inl (some (.inl 1))) (pz_u1 (pz_u1 iv 155 (q_lvK (iv 155) (q_dd (iv 155) (iv 161) (iv 157)))) 157 (q_dd (iv 155) (iv 161) (iv 157))) := by
  intro dv cc ss
  have hk0 := hk.r0
  refine pz_G_mem (iv2 := pz_u1 (pz_u1 iv 155 (iv 155)) 157 (iv 157)) (by exact ((pz_u1_self iv 155).symm).trans (pz_u1_self (pz_u1 iv 155 (iv 155)) 157).symm) ?_
  show pz_G 293 0 [some (.inr (.inl 154)), none, none, none, none, none, none] [] (pz_Sh L, pz_u1 (pz_u1 iv 155 (iv 155)) 157 (iv 157), dv, cc, ss) (pz_P (pz_Sh L) (.inl (some (.inl 1))) (pz_u1 (pz_u1 iv 155 (q_lvK (iv 155) (q_dd (iv 155) (iv 161) (iv 157)))) 157 (q_dd (iv 155) (iv 161) (iv 157))) dv cc ss)
  refine pz_G_of pz_b293_0 ?_
  refine w_loc rfl ?_
  have hc1 : pz_R (pz_Sh L) 227 [.inr (.inl 154)] (pz_u1 (pz_u1 iv 155 (iv 155)) 157 (iv 157)) (.inl (some (.inl (pz_bi (q_con (iv 155) (iv 161)))))) (pz_u1 (pz_u1 iv 155 (iv 155)) 157 (q_dd (iv 155) (iv 161) (iv 157))) := pz_R_mem (s_X11_isConsistentNow (by show q_KR (iv 155); exact hk)) (by rw [pz_u1_top (r := 157)]; rfl)
  refine w_call hc1 rfl (pz_cokI is_154 rfl) ?_
  refine w_beq (fun h2 => ?_) (fun h2 => ?_)
  · first
    | (exfalso; first | omega | contradiction)
    | (refine pz_G_of pz_b293_18 ?_
       refine w_pure rfl ?_
       refine w_ret (pz_rok1 (Or.inl rfl)) ?_
       first | exact lf_i rfl (by unfold q_lvK; rw [← hbe9]) | (exfalso; omega))
  · first
    | (exfalso; first | omega | contradiction)
    | (refine w_loc rfl ?_
       refine w_getR (q := 155) is_154 rf_154_1 ?_
       refine w_pure rfl ?_
       refine w_iald (v := (iv 155) 1) is_155 ln_155 ⟨by omega, by omega⟩ rfl ?_
       refine w_pure rfl ?_
       refine w_ine (fun h3 => ?_) (fun h3 => ?_)
       · first
         | (exfalso; first | omega | contradiction)
         | (refine pz_G_of pz_b293_20 ?_
            refine w_loc rfl ?_
            have hc4 : pz_R (pz_Sh L) 286 [.inr (.inl 154)] (pz_u1 (pz_u1 iv 155 (iv 155)) 157 (q_dd (iv 155) (iv 161) (iv 157))) (.inl (some (.inl (q_pk (iv 155) (q_dd (iv 155) (iv 161) (iv 157)))))) (pz_u1 (pz_u1 iv 155 (iv 155)) 157 (q_dd (iv 155) (iv 161) (iv 157))) := s_X11_peakOf (by show q_KR (iv 155); exact hk) (by show q_dl (q_dd (iv 155) (iv 161) (iv 157)); first | exact hd | exact q_dd_l hk (by assumption))
            refine w_call hc4 rfl (pz_cokI is_154 rfl) ?_
            refine w_loc (ls' := [some (.inr (.inl 154)), some (.inl (q_pk (iv 155) (q_dd (iv 155) (iv 161) (iv 157)))), none, none, none, none, none]) (st' := []) rfl ?_
            refine w_loc rfl ?_
            refine w_pure rfl ?_
            refine w_ine (fun h5 => ?_) (fun h5 => ?_)
            · first
              | (exfalso; first | omega | contradiction)
              | (refine pz_G_of pz_b293_32 ?_
                 refine w_loc rfl ?_
                 refine w_loc rfl ?_
                 have hc6 : pz_R (pz_Sh L) 287 [.inr (.inl 154), .inl (q_pk (iv 155) (q_dd (iv 155) (iv 161) (iv 157)))] (pz_u1 (pz_u1 iv 155 (iv 155)) 157 (q_dd (iv 155) (iv 161) (iv 157))) (.inl (some (.inl (q_st (iv 155) (q_dd (iv 155) (iv 161) (iv 157)) (q_pk (iv 155) (q_dd (iv 155) (iv 161) (iv 157))) ((iv 155) 3))))) (pz_u1 (pz_u1 iv 155 (iv 155)) 157 (q_dd (iv 155) (iv 161) (iv 157))) := s_X11_setAt (q_pk (iv 155) (q_dd (iv 155) (iv 161) (iv 157))) (by show q_KR (iv 155); exact hk) (by show q_dl (q_dd (iv 155) (iv 161) (iv 157)); first | exact hd | exact q_dd_l hk (by assumption))
                 refine w_call hc6 rfl (pz_cokI is_154 rfl) ?_
                 refine w_loc (ls' := [some (.inr (.inl 154)), some (.inl (q_pk (iv 155) (q_dd (iv 155) (iv 161) (iv 157)))), some (.inl (q_st (iv 155) (q_dd (iv 155) (iv 161) (iv 157)) (q_pk (iv 155) (q_dd (iv 155) (iv 161) (iv 157))) ((iv 155) 3))), none, none, none, none]) (st' := []) rfl ?_
                 refine w_pure rfl ?_
                 refine w_loc (ls' := [some (.inr (.inl 154)), some (.inl (q_pk (iv 155) (q_dd (iv 155) (iv 161) (iv 157)))), some (.inl (q_st (iv 155) (q_dd (iv 155) (iv 161) (iv 157)) (q_pk (iv 155) (q_dd (iv 155) (iv 161) (iv 157))) ((iv 155) 3))), some (.inl (-1)), none, none, none]) (st' := []) rfl ?_
                 refine w_pure rfl ?_
                 refine w_loc (ls' := [some (.inr (.inl 154)), some (.inl (q_pk (iv 155) (q_dd (iv 155) (iv 161) (iv 157)))), some (.inl (q_st (iv 155) (q_dd (iv 155) (iv 161) (iv 157)) (q_pk (iv 155) (q_dd (iv 155) (iv 161) (iv 157))) ((iv 155) 3))), some (.inl (-1)), some (.inl (-1)), none, none]) (st' := []) rfl ?_
                 refine w_pure rfl ?_
                 refine w_loc (ls' := [some (.inr (.inl 154)), some (.inl (q_pk (iv 155) (q_dd (iv 155) (iv 161) (iv 157)))), some (.inl (q_st (iv 155) (q_dd (iv 155) (iv 161) (iv 157)) (q_pk (iv 155) (q_dd (iv 155) (iv 161) (iv 157))) ((iv 155) 3))), some (.inl (-1)), some (.inl (-1)), some (.inl 0), none]) (st' := []) rfl ?_
                 refine w_nil ?_
                 have lp46 : ∀ (dd : Nat) (be : Int) (mo : Int) (x : Int) (u46_1 : Option pz_V) (hu46_1 : pz_nc u46_1 = true) (u46_6 : Option pz_V) (hu46_6 : pz_nc u46_6 = true), (iv 155 3 - x).toNat = dd → ∀ (hx : 0 ≤ x ∧ x ≤ iv 155 3), ∀ (hs : (mo, be) = q_lvF (iv 155) (q_dd (iv 155) (iv 161) (iv 157)) (q_st (iv 155) (q_dd (iv 155) (iv 161) (iv 157)) (q_pk (iv 155) (q_dd (iv 155) (iv 161) (iv 157))) (iv 155 3)) x), ∀ (hbe : -1 ≤ be ∧ be ≤ 24), ∀ (hmo : -1 ≤ mo),  pz_G 293 46 [some (.inr (.inl 154)), u46_1, some (.inl (q_st (iv 155) (q_dd (iv 155) (iv 161) (iv 157)) (q_pk (iv 155) (q_dd (iv 155) (iv 161) (iv 157))) ((iv 155) 3))), some (.inl be), some (.inl mo), some (.inl x), u46_6] [] (pz_Sh L, pz_u1 (pz_u1 iv 155 (iv 155)) 157 (q_dd (iv 155) (iv 161) (iv 157)), dv, cc, ss) (pz_P (pz_Sh L) (.inl (some (.inl 1))) (pz_u1 (pz_u1 iv 155 (q_lvK (iv 155) (q_dd (iv 155) (iv 161) (iv 157)))) 157 (q_dd (iv 155) (iv 161) (iv 157))) dv cc ss) := by
                   intro dd46
                   induction dd46 using Nat.strongRecOn with
                   | _ dd46 ih46 =>
                   intro be mo x u46_1 hu46_1 u46_6 hu46_6 hd46 hx hs hbe hmo
                   refine pz_G_of pz_b293_46 ?_
                   refine w_loc rfl ?_
                   refine w_loc rfl ?_
                   refine w_getR (q := 155) is_154 rf_154_1 ?_
                   refine w_pure rfl ?_
                   refine w_iald (v := (iv 155) 3) is_155 ln_155 ⟨by omega, by omega⟩ rfl ?_
                   refine w_ige (fun h7 => ?_) (fun h7 => ?_)
                   · first
                     | (exfalso; first | omega | contradiction)
                     | (have hbe9 : be = q_lv (iv 155) (q_dd (iv 155) (iv 161) (iv 157)) := by
                          have h9 := congrArg Prod.snd hs
                          rw [show x = iv 155 3 by omega] at h9
                          exact h9
                        refine pz_G_of pz_b293_153 ?_
                        refine w_loc rfl ?_
                        refine w_pure rfl ?_
                        refine w_ine (fun h8 => ?_) (fun h8 => ?_)
                        · first
                          | (exfalso; first | omega | contradiction)
                          | (refine pz_G_of pz_b293_160 ?_
                             refine w_loc rfl ?_
                             refine w_loc rfl ?_
                             refine w_getR (q := 155) is_154 rf_154_1 ?_
                             refine w_pure rfl ?_
                             refine w_pure rfl ?_
                             refine w_loc rfl ?_
                             refine w_pure rfl ?_
                             refine w_iremp (by omega) ?_
                             refine w_imul (by omega) ?_
                             refine w_iadd (by omega) ?_
                             refine w_iald (v := (iv 155) (224 + (3 * (be % 5))).toNat) is_155 ln_155 ⟨by omega, by omega⟩ rfl ?_
                             refine w_loc rfl ?_
                             refine w_getR (q := 155) is_154 rf_154_1 ?_
                             refine w_pure rfl ?_
                             refine w_pure rfl ?_
                             refine w_loc rfl ?_
                             refine w_pure rfl ?_
                             refine w_idivp (by omega) ?_
                             refine w_imul (by omega) ?_
                             refine w_iadd (by omega) ?_
                             refine w_pure rfl ?_
                             refine w_iadd (by omega) ?_
                             refine w_iald (v := (iv 155) ((224 + (3 * (be / 5))) + 1).toNat) is_155 ln_155 ⟨by omega, by omega⟩ rfl ?_
                             refine w_pure rfl ?_
                             refine w_pure rfl ?_
                             have hc9 : pz_R (pz_Sh L) 198 [.inr (.inl 154), .inl ((iv 155) (224 + (3 * (be % 5))).toNat), .inl ((iv 155) ((224 + (3 * (be / 5))) + 1).toNat), .inl 0, .inl 0] (pz_u1 (pz_u1 iv 155 (iv 155)) 157 (q_dd (iv 155) (iv 161) (iv 157))) (.inl (some (.inl ((iv 155) 1)))) (pz_u1 (pz_u1 iv 155 (q_tell (iv 155) ((iv 155) (224 + (3 * (be % 5))).toNat) ((iv 155) ((224 + (3 * (be / 5))) + 1).toNat) 0 0)) 157 (q_dd (iv 155) (iv 161) (iv 157))) := pz_R_mem (s_X11_tellsBound ((iv 155) (224 + (3 * (be % 5))).toNat) ((iv 155) ((224 + (3 * (be / 5))) + 1).toNat) 0 0 (by show q_KR (iv 155); exact hk) (by show (iv 155) 1 < 40; omega)) (by rw [pz_u1_in (r := 155) (q := 157) (by decide)]; rw [pz_u1_top (r := 155)]; rfl)
                             refine w_call hc9 rfl (pz_cokI is_154 rfl) ?_
                             refine w_pure rfl ?_
                             refine w_pure rfl ?_
                             refine w_ret (pz_rok1 (Or.inr rfl)) ?_
                             first | exact lf_i rfl (by unfold q_lvK; rw [← hbe9]) | (exfalso; omega))
                        · first
                          | (exfalso; first | omega | contradiction)
                          | (refine w_pure rfl ?_
                             refine w_ret (pz_rok1 (Or.inl rfl)) ?_
                             first | exact lf_i rfl (by unfold q_lvK; rw [← hbe9]) | (exfalso; omega)))
                   · first
                     | (exfalso; first | omega | contradiction)
                     | (refine w_pure rfl ?_
                        refine w_loc (ls' := [some (.inr (.inl 154)), u46_1, some (.inl (q_st (iv 155) (q_dd (iv 155) (iv 161) (iv 157)) (q_pk (iv 155) (q_dd (iv 155) (iv 161) (iv 157))) ((iv 155) 3))), some (.inl be), some (.inl mo), some (.inl x), some (.inl 0)]) (st' := []) rfl ?_
                        refine w_nil ?_
                        have lp60 : ∀ (dd : Nat) (be2 : Int) (mo2 : Int) (y : Int) (u60_1 : Option pz_V) (hu60_1 : pz_nc u60_1 = true), (iv 155 3 - y).toNat = dd → ∀ (hy : 0 ≤ y ∧ y ≤ iv 155 3), ∀ (hs2 : (mo2, be2) = q_fr (q_lvS (iv 155) (q_dd (iv 155) (iv 161) (iv 157)) (q_st (iv 155) (q_dd (iv 155) (iv 161) (iv 157)) (q_pk (iv 155) (q_dd (iv 155) (iv 161) (iv 157))) (iv 155 3)) x) 0 y (mo, be)), ∀ (hbe2 : -1 ≤ be2 ∧ be2 ≤ 24), ∀ (hmo2 : -1 ≤ mo2),  pz_G 293 60 [some (.inr (.inl 154)), u60_1, some (.inl (q_st (iv 155) (q_dd (iv 155) (iv 161) (iv 157)) (q_pk (iv 155) (q_dd (iv 155) (iv 161) (iv 157))) ((iv 155) 3))), some (.inl be2), some (.inl mo2), some (.inl x), some (.inl y)] [] (pz_Sh L, pz_u1 (pz_u1 iv 155 (iv 155)) 157 (q_dd (iv 155) (iv 161) (iv 157)), dv, cc, ss) (pz_P (pz_Sh L) (.inl (some (.inl 1))) (pz_u1 (pz_u1 iv 155 (q_lvK (iv 155) (q_dd (iv 155) (iv 161) (iv 157)))) 157 (q_dd (iv 155) (iv 161) (iv 157))) dv cc ss) := by
                          intro dd60
                          induction dd60 using Nat.strongRecOn with
                          | _ dd60 ih60 =>
                          intro be2 mo2 y u60_1 hu60_1 hd60 hy hs2 hbe2 hmo2
                          refine pz_G_of pz_b293_60 ?_
                          refine w_loc rfl ?_
                          refine w_loc rfl ?_
                          refine w_getR (q := 155) is_154 rf_154_1 ?_
                          refine w_pure rfl ?_
                          refine w_iald (v := (iv 155) 3) is_155 ln_155 ⟨by omega, by omega⟩ rfl ?_
                          refine w_ige (fun h10 => ?_) (fun h10 => ?_)
                          · first
                            | (exfalso; first | omega | contradiction)
                            | (refine pz_G_of pz_b293_147 ?_
                               refine w_iinc (ls' := [some (.inr (.inl 154)), u60_1, some (.inl (q_st (iv 155) (q_dd (iv 155) (iv 161) (iv 157)) (q_pk (iv 155) (q_dd (iv 155) (iv 161) (iv 157))) ((iv 155) 3))), some (.inl be2), some (.inl mo2), some (.inl (x + 1)), some (.inl y)]) rfl rfl rfl (by omega) ?_
                               refine w_goto ?_
                               exact ih46 _ (by omega) be2 mo2 (x + 1) u60_1 hu60_1 (some (.inl y)) rfl rfl (by omega) (by unfold q_lvF at hs ⊢; rw [q_fr_s (by omega), ← hs]; unfold q_lvX; rw [hs2, show y = iv 155 3 by omega]) (by omega) (by omega))
                          · first
                            | (exfalso; first | omega | contradiction)
                            | (refine w_loc rfl ?_
                               refine w_loc rfl ?_
                               refine w_ieq (fun h11 => ?_) (fun h11 => ?_)
                               · first
                                 | (exfalso; first | omega | contradiction)
                                 | (refine pz_G_of pz_b293_141 ?_
                                    refine w_iinc (ls' := [some (.inr (.inl 154)), u60_1, some (.inl (q_st (iv 155) (q_dd (iv 155) (iv 161) (iv 157)) (q_pk (iv 155) (q_dd (iv 155) (iv 161) (iv 157))) ((iv 155) 3))), some (.inl be2), some (.inl mo2), some (.inl x), some (.inl (y + 1))]) rfl rfl rfl (by omega) ?_
                                    refine w_goto ?_
                                    exact ih60 _ (by omega) be2 mo2 (y + 1) u60_1 hu60_1 rfl (by omega) (by first | exact q_lvS_t (by omega) hs2 (by refine ⟨?_, ?_, ?_, ?_, ?_⟩ <;> omega) | exact q_lvS_f (by omega) hs2 (fun ⟨g1, g2, g3, g4, g5⟩ => by omega)) (by omega) (by omega))
                               · first
                                 | (exfalso; first | omega | contradiction)
                                 | (refine w_loc rfl ?_
                                    refine w_loc rfl ?_
                                    refine w_ishr ?_
                                    refine w_pure rfl ?_
                                    refine w_iand ?_
                                    refine w_zeq (fun h12 => ?_) (fun h12 => ?_)
                                    · first
                                      | (exfalso; first | omega | contradiction)
                                      | (refine pz_G_of pz_b293_141 ?_
                                         refine w_iinc (ls' := [some (.inr (.inl 154)), u60_1, some (.inl (q_st (iv 155) (q_dd (iv 155) (iv 161) (iv 157)) (q_pk (iv 155) (q_dd (iv 155) (iv 161) (iv 157))) ((iv 155) 3))), some (.inl be2), some (.inl mo2), some (.inl x), some (.inl (y + 1))]) rfl rfl rfl (by omega) ?_
                                         refine w_goto ?_
                                         exact ih60 _ (by omega) be2 mo2 (y + 1) u60_1 hu60_1 rfl (by omega) (by first | exact q_lvS_t (by omega) hs2 (by refine ⟨?_, ?_, ?_, ?_, ?_⟩ <;> omega) | exact q_lvS_f (by omega) hs2 (fun ⟨g1, g2, g3, g4, g5⟩ => by omega)) (by omega) (by omega))
                                    · first
                                      | (exfalso; first | omega | contradiction)
                                      | (refine w_loc rfl ?_
                                         refine w_loc rfl ?_
                                         refine w_ishr ?_
                                         refine w_pure rfl ?_
                                         refine w_iand ?_
                                         refine w_zeq (fun h13 => ?_) (fun h13 => ?_)
                                         · first
                                           | (exfalso; first | omega | contradiction)
                                           | (refine pz_G_of pz_b293_141 ?_
                                              refine w_iinc (ls' := [some (.inr (.inl 154)), u60_1, some (.inl (q_st (iv 155) (q_dd (iv 155) (iv 161) (iv 157)) (q_pk (iv 155) (q_dd (iv 155) (iv 161) (iv 157))) ((iv 155) 3))), some (.inl be2), some (.inl mo2), some (.inl x), some (.inl (y + 1))]) rfl rfl rfl (by omega) ?_
                                              refine w_goto ?_
                                              exact ih60 _ (by omega) be2 mo2 (y + 1) u60_1 hu60_1 rfl (by omega) (by first | exact q_lvS_t (by omega) hs2 (by refine ⟨?_, ?_, ?_, ?_, ?_⟩ <;> omega) | exact q_lvS_f (by omega) hs2 (fun ⟨g1, g2, g3, g4, g5⟩ => by omega)) (by omega) (by omega))
                                         · first
                                           | (exfalso; first | omega | contradiction)
                                           | (refine w_loc rfl ?_
                                              refine w_loc rfl ?_
                                              refine w_loc rfl ?_
                                              have hc14 : pz_R (pz_Sh L) 290 [.inr (.inl 154), .inl x, .inl y] (pz_u1 (pz_u1 iv 155 (iv 155)) 157 (q_dd (iv 155) (iv 161) (iv 157))) (.inl (some (.inl (q_sl (iv 155) (q_dd (iv 155) (iv 161) (iv 157)) x y)))) (pz_u1 (pz_u1 iv 155 (iv 155)) 157 (q_dd (iv 155) (iv 161) (iv 157))) := s_X11_slackOf x y (by show q_KR (iv 155); exact hk) (by show 0 ≤ x ∧ x < (iv 155) 3; omega) (by show 0 ≤ y ∧ y < (iv 155) 3; omega)
                                              refine w_call hc14 rfl (pz_cokI is_154 rfl) ?_
                                              refine w_loc rfl ?_
                                              refine w_ile (fun h15 => ?_) (fun h15 => ?_)
                                              · first
                                                | (exfalso; first | omega | contradiction)
                                                | (refine pz_G_of pz_b293_141 ?_
                                                   refine w_iinc (ls' := [some (.inr (.inl 154)), u60_1, some (.inl (q_st (iv 155) (q_dd (iv 155) (iv 161) (iv 157)) (q_pk (iv 155) (q_dd (iv 155) (iv 161) (iv 157))) ((iv 155) 3))), some (.inl be2), some (.inl mo2), some (.inl x), some (.inl (y + 1))]) rfl rfl rfl (by omega) ?_
                                                   refine w_goto ?_
                                                   exact ih60 _ (by omega) be2 mo2 (y + 1) u60_1 hu60_1 rfl (by omega) (by first | exact q_lvS_t (by omega) hs2 (by refine ⟨?_, ?_, ?_, ?_, ?_⟩ <;> omega) | exact q_lvS_f (by omega) hs2 (fun ⟨g1, g2, g3, g4, g5⟩ => by omega)) (by omega) (by omega))
                                              · first
                                                | (exfalso; first | omega | contradiction)
                                                | (refine w_loc rfl ?_
                                                   refine w_loc rfl ?_
                                                   refine w_loc rfl ?_
                                                   have hc16 : pz_R (pz_Sh L) 292 [.inr (.inl 154), .inl x, .inl y] (pz_u1 (pz_u1 iv 155 (iv 155)) 157 (q_dd (iv 155) (iv 161) (iv 157))) (.inl (some (.inl (pz_bi (0 ≤ (q_dd (iv 155) (iv 161) (iv 157)) (10 * (iv 155) (224 + 3 * x + 1).toNat + (iv 155) (224 + 3 * y).toNat).toNat))))) (pz_u1 (pz_u1 iv 155 (iv 155)) 157 (q_dd (iv 155) (iv 161) (iv 157))) := s_X11_canCome x y (by show q_KR (iv 155); exact hk) (by show 0 ≤ x ∧ x < (iv 155) 3; omega) (by show 0 ≤ y ∧ y < (iv 155) 3; omega)
                                                   refine w_call hc16 rfl (pz_cokI is_154 rfl) ?_
                                                   refine w_bne (fun h17 => ?_) (fun h17 => ?_)
                                                   · first
                                                     | (exfalso; first | omega | contradiction)
                                                     | (refine pz_G_of pz_b293_123 ?_
                                                        refine w_loc rfl ?_
                                                        refine w_loc rfl ?_
                                                        refine w_loc rfl ?_
                                                        have hc18 : pz_R (pz_Sh L) 290 [.inr (.inl 154), .inl x, .inl y] (pz_u1 (pz_u1 iv 155 (iv 155)) 157 (q_dd (iv 155) (iv 161) (iv 157))) (.inl (some (.inl (q_sl (iv 155) (q_dd (iv 155) (iv 161) (iv 157)) x y)))) (pz_u1 (pz_u1 iv 155 (iv 155)) 157 (q_dd (iv 155) (iv 161) (iv 157))) := s_X11_slackOf x y (by show q_KR (iv 155); exact hk) (by show 0 ≤ x ∧ x < (iv 155) 3; omega) (by show 0 ≤ y ∧ y < (iv 155) 3; omega)
                                                        refine w_call hc18 rfl (pz_cokI is_154 rfl) ?_
                                                        refine w_loc (ls' := [some (.inr (.inl 154)), u60_1, some (.inl (q_st (iv 155) (q_dd (iv 155) (iv 161) (iv 157)) (q_pk (iv 155) (q_dd (iv 155) (iv 161) (iv 157))) ((iv 155) 3))), some (.inl be2), some (.inl (q_sl (iv 155) (q_dd (iv 155) (iv 161) (iv 157)) x y)), some (.inl x), some (.inl y)]) (st' := []) rfl ?_
                                                        refine w_pure rfl ?_
                                                        refine w_loc rfl ?_
                                                        refine w_imul (by omega) ?_
                                                        refine w_loc rfl ?_
                                                        refine w_iadd (by omega) ?_
                                                        refine w_loc (ls' := [some (.inr (.inl 154)), u60_1, some (.inl (q_st (iv 155) (q_dd (iv 155) (iv 161) (iv 157)) (q_pk (iv 155) (q_dd (iv 155) (iv 161) (iv 157))) ((iv 155) 3))), some (.inl ((5 * x) + y)), some (.inl (q_sl (iv 155) (q_dd (iv 155) (iv 161) (iv 157)) x y)), some (.inl x), some (.inl y)]) (st' := []) rfl ?_
                                                        refine w_nil ?_
                                                        refine pz_G_of pz_b293_141 ?_
                                                        refine w_iinc (ls' := [some (.inr (.inl 154)), u60_1, some (.inl (q_st (iv 155) (q_dd (iv 155) (iv 161) (iv 157)) (q_pk (iv 155) (q_dd (iv 155) (iv 161) (iv 157))) ((iv 155) 3))), some (.inl ((5 * x) + y)), some (.inl (q_sl (iv 155) (q_dd (iv 155) (iv 161) (iv 157)) x y)), some (.inl x), some (.inl (y + 1))]) rfl rfl rfl (by omega) ?_
                                                        refine w_goto ?_
                                                        exact ih60 _ (by omega) ((5 * x) + y) (q_sl (iv 155) (q_dd (iv 155) (iv 161) (iv 157)) x y) (y + 1) u60_1 hu60_1 rfl (by omega) (by first | exact q_lvS_t (by omega) hs2 (by refine ⟨?_, ?_, ?_, ?_, ?_⟩ <;> omega) | exact q_lvS_f (by omega) hs2 (fun ⟨g1, g2, g3, g4, g5⟩ => by omega)) (by omega) (by omega))
                                                   · first
                                                     | (exfalso; first | omega | contradiction)
                                                     | (refine w_goto ?_
                                                        refine pz_G_of pz_b293_141 ?_
                                                        refine w_iinc (ls' := [some (.inr (.inl 154)), u60_1, some (.inl (q_st (iv 155) (q_dd (iv 155) (iv 161) (iv 157)) (q_pk (iv 155) (q_dd (iv 155) (iv 161) (iv 157))) ((iv 155) 3))), some (.inl be2), some (.inl mo2), some (.inl x), some (.inl (y + 1))]) rfl rfl rfl (by omega) ?_
                                                        refine w_goto ?_
                                                        exact ih60 _ (by omega) be2 mo2 (y + 1) u60_1 hu60_1 rfl (by omega) (by first | exact q_lvS_t (by omega) hs2 (by refine ⟨?_, ?_, ?_, ?_, ?_⟩ <;> omega) | exact q_lvS_f (by omega) hs2 (fun ⟨g1, g2, g3, g4, g5⟩ => by omega)) (by omega) (by omega)))))))
                        exact lp60 _ be mo 0 u46_1 hu46_1 rfl (by omega) (by rw [q_fr_0 (by omega)]) (by omega) (by omega))
                 exact lp46 _ (-1) (-1) 0 (some (.inl (q_pk (iv 155) (q_dd (iv 155) (iv 161) (iv 157))))) rfl (none) rfl rfl (by omega) (by unfold q_lvF; rw [q_fr_0 (by omega)]) (by omega) (by omega))
            · first
              | (exfalso; first | omega | contradiction)
              | (refine w_pure rfl ?_
                 refine w_ret (pz_rok1 (Or.inl rfl)) ?_
                 first | exact lf_i rfl (by unfold q_lvK; rw [← hbe9]) | (exfalso; omega)))
       · first
         | (exfalso; first | omega | contradiction)
         | (refine w_nil ?_
            refine pz_G_of pz_b293_18 ?_
            refine w_pure rfl ?_
            refine w_ret (pz_rok1 (Or.inl rfl)) ?_
            first | exact lf_i rfl (by unfold q_lvK; rw [← hbe9]) | (exfalso; omega)))

theorem s_X11_levels {L : Nat} {iv : Nat → Nat → Int} (hk : q_KR (iv 155)) : pz_R (pz_Sh L) 293 [.inr (.inl 154)] iv (.inl (some (.inl (pz_bi (q_lvT (iv 155) (iv 161) (iv 157)))))) (pz_u1 (pz_u1 iv 155 (q_if (q_lvT (iv 155) (iv 161) (iv 157)) (q_lvK (iv 155) (q_dd (iv 155) (iv 161) (iv 157))) (iv 155))) 157 (q_dd (iv 155) (iv 161) (iv 157))) := by
  by_cases h1 : q_con (iv 155) (iv 161)
  · by_cases h2 : iv 155 1 = 40
    · have h : ¬ q_lvT (iv 155) (iv 161) (iv 157) := fun q => q.2.1 h2
      rw [pz_bi_0 h, q_if_f h]
      exact s_X11_levels_0b hk h1 h2
    · by_cases h3 : q_pk (iv 155) (q_dd (iv 155) (iv 161) (iv 157)) = -1
      · have h : ¬ q_lvT (iv 155) (iv 161) (iv 157) := fun q => q.2.2.1 h3
        rw [pz_bi_0 h, q_if_f h]
        exact s_X11_levels_0c hk h1 h2 h3
      · by_cases h4 : q_lv (iv 155) (q_dd (iv 155) (iv 161) (iv 157)) = -1
        · have h : ¬ q_lvT (iv 155) (iv 161) (iv 157) := fun q => q.2.2.2 h4
          rw [pz_bi_0 h, q_if_f h]
          exact s_X11_levels_0d hk h1 h2 h3 h4
        · have h : q_lvT (iv 155) (iv 161) (iv 157) := ⟨h1, h2, h3, h4⟩
          rw [pz_bi_1 h, q_if_t h]
          exact s_X11_levels_1 hk h1 h2 h3 h4
  · have h : ¬ q_lvT (iv 155) (iv 161) (iv 157) := fun q => h1 q.1
    rw [pz_bi_0 h, q_if_f h]
    exact s_X11_levels_0a hk h1

theorem s_X11_level_1 {L : Nat} {iv : Nat → Nat → Int} (hk : q_KR (iv 155)) (hcase0 : ¬ q_con (iv 155) (iv 161)) : pz_R (pz_Sh L) 294 [.inr (.inl 154)] iv (.inl (some (.inl 0))) (pz_u1 (pz_u1 (pz_u1 iv 154 (pz_up (iv 154) 0 1)) 155 (iv 155)) 157 (q_dd (iv 155) (iv 161) (iv 157))) := by
  intro dv cc ss
  have hk0 := hk.r0
  refine pz_G_mem (iv2 := pz_u1 (pz_u1 (pz_u1 iv 154 (iv 154)) 155 (iv 155)) 157 (iv 157)) (by exact (((pz_u1_self iv 154).symm).trans (pz_u1_self (pz_u1 iv 154 (iv 154)) 155).symm).trans (pz_u1_self (pz_u1 (pz_u1 iv 154 (iv 154)) 155 (iv 155)) 157).symm) ?_
  show pz_G 294 0 [some (.inr (.inl 154)), none] [] (pz_Sh L, pz_u1 (pz_u1 (pz_u1 iv 154 (iv 154)) 155 (iv 155)) 157 (iv 157), dv, cc, ss) (pz_P (pz_Sh L) (.inl (some (.inl 0))) (pz_u1 (pz_u1 (pz_u1 iv 154 (pz_up (iv 154) 0 1)) 155 (iv 155)) 157 (q_dd (iv 155) (iv 161) (iv 157))) dv cc ss)
  refine pz_G_of pz_b294_0 ?_
  refine w_loc rfl ?_
  have hc1 : pz_R (pz_Sh L) 227 [.inr (.inl 154)] (pz_u1 (pz_u1 (pz_u1 iv 154 (iv 154)) 155 (iv 155)) 157 (iv 157)) (.inl (some (.inl (pz_bi (q_con (iv 155) (iv 161)))))) (pz_u1 (pz_u1 (pz_u1 iv 154 (iv 154)) 155 (iv 155)) 157 (q_dd (iv 155) (iv 161) (iv 157))) := pz_R_mem (s_X11_isConsistentNow (by show q_KR (iv 155); exact hk)) (by rw [pz_u1_top (r := 157)]; rfl)
  refine w_call hc1 rfl (pz_cokI is_154 rfl) ?_
  refine w_bne (fun h2 => ?_) (fun h2 => ?_)
  · first
    | (exfalso; first | omega | contradiction)
    | (exfalso; first | omega | contradiction)
  · first
    | (exfalso; first | omega | contradiction)
    | (refine w_loc rfl ?_
       refine w_pure rfl ?_
       have hc3 : pz_R (pz_Sh L) 191 [.inr (.inl 154), .inl 1] (pz_u1 (pz_u1 (pz_u1 iv 154 (iv 154)) 155 (iv 155)) 157 (q_dd (iv 155) (iv 161) (iv 157))) (.inl (some (.inl 0))) (pz_u1 (pz_u1 (pz_u1 iv 154 (pz_up (iv 154) 0 1)) 155 (iv 155)) 157 (q_dd (iv 155) (iv 161) (iv 157))) := pz_R_mem (s_X11_fails 1) (by rw [pz_u1_in (r := 154) (q := 157) (by decide)]; rw [pz_u1_in (r := 154) (q := 155) (by decide)]; rw [pz_u1_top (r := 154)]; rfl)
       refine w_call hc3 rfl (pz_cokI is_154 rfl) ?_
       refine w_ret rfl ?_
       first | exact lf_i (by first | rfl | omega) (by rfl) | (exfalso; omega))

theorem s_X11_level_0 {L : Nat} {iv : Nat → Nat → Int} (hk : q_KR (iv 155)) (hcase0 : q_con (iv 155) (iv 161)) : pz_R (pz_Sh L) 294 [.inr (.inl 154)] iv (.inl (some (.inl ((q_lvs (iv 161) 40 ((iv 155), q_dd (iv 155) (iv 161) (iv 157))).1 1 - (iv 155) 1)))) (pz_u1 (pz_u1 (pz_u1 iv 154 (pz_up (iv 154) 0 0)) 155 ((q_lvs (iv 161) 40 ((iv 155), q_dd (iv 155) (iv 161) (iv 157))).1)) 157 (q_dd (q_lvs (iv 161) 40 ((iv 155), q_dd (iv 155) (iv 161) (iv 157))).1 (iv 161) (q_lvs (iv 161) 40 ((iv 155), q_dd (iv 155) (iv 161) (iv 157))).2)) := by
  intro dv cc ss
  have hk0 := hk.r0
  refine pz_G_mem (iv2 := pz_u1 (pz_u1 (pz_u1 iv 154 (iv 154)) 155 (iv 155)) 157 (iv 157)) (by exact (((pz_u1_self iv 154).symm).trans (pz_u1_self (pz_u1 iv 154 (iv 154)) 155).symm).trans (pz_u1_self (pz_u1 (pz_u1 iv 154 (iv 154)) 155 (iv 155)) 157).symm) ?_
  show pz_G 294 0 [some (.inr (.inl 154)), none] [] (pz_Sh L, pz_u1 (pz_u1 (pz_u1 iv 154 (iv 154)) 155 (iv 155)) 157 (iv 157), dv, cc, ss) (pz_P (pz_Sh L) (.inl (some (.inl ((q_lvs (iv 161) 40 ((iv 155), q_dd (iv 155) (iv 161) (iv 157))).1 1 - (iv 155) 1)))) (pz_u1 (pz_u1 (pz_u1 iv 154 (pz_up (iv 154) 0 0)) 155 ((q_lvs (iv 161) 40 ((iv 155), q_dd (iv 155) (iv 161) (iv 157))).1)) 157 (q_dd (q_lvs (iv 161) 40 ((iv 155), q_dd (iv 155) (iv 161) (iv 157))).1 (iv 161) (q_lvs (iv 161) 40 ((iv 155), q_dd (iv 155) (iv 161) (iv 157))).2)) dv cc ss)
  refine pz_G_of pz_b294_0 ?_
  refine w_loc rfl ?_
  have hc1 : pz_R (pz_Sh L) 227 [.inr (.inl 154)] (pz_u1 (pz_u1 (pz_u1 iv 154 (iv 154)) 155 (iv 155)) 157 (iv 157)) (.inl (some (.inl (pz_bi (q_con (iv 155) (iv 161)))))) (pz_u1 (pz_u1 (pz_u1 iv 154 (iv 154)) 155 (iv 155)) 157 (q_dd (iv 155) (iv 161) (iv 157))) := pz_R_mem (s_X11_isConsistentNow (by show q_KR (iv 155); first | exact hk | exact hkf)) (by rw [pz_u1_top (r := 157)]; rfl)
  refine w_call hc1 rfl (pz_cokI is_154 rfl) ?_
  refine w_bne (fun h2 => ?_) (fun h2 => ?_)
  · first
    | (exfalso; first | omega | contradiction)
    | (refine pz_G_of pz_b294_13 ?_
       refine w_loc rfl ?_
       refine w_getR (q := 155) is_154 rf_154_1 ?_
       refine w_pure rfl ?_
       refine w_iald (v := (iv 155) 1) is_155 ln_155 ⟨by omega, by omega⟩ rfl ?_
       refine w_loc (ls' := [some (.inr (.inl 154)), some (.inl ((iv 155) 1))]) (st' := []) rfl ?_
       refine w_nil ?_
       have lp20 : ∀ (dd : Nat) (n : Int) (w : Nat → Int) (f : Nat → Int) (d : Nat → Int) , (40 - n).toNat = dd → ∀ (hn : 0 ≤ n ∧ f 1 = iv 155 1 + n), ∀ (hkf : q_KR f), ∀ (hs : (f, d) = q_lvs (iv 161) n (iv 155, (q_dd (iv 155) (iv 161) (iv 157)))), ∀ (hw : pz_up w 0 0 = pz_up (iv 154) 0 0),  pz_G 294 20 [some (.inr (.inl 154)), some (.inl ((iv 155) 1))] [] (pz_Sh L, pz_u1 (pz_u1 (pz_u1 iv 154 w) 155 f) 157 d, dv, cc, ss) (pz_P (pz_Sh L) (.inl (some (.inl ((q_lvs (iv 161) 40 ((iv 155), q_dd (iv 155) (iv 161) (iv 157))).1 1 - (iv 155) 1)))) (pz_u1 (pz_u1 (pz_u1 iv 154 (pz_up (iv 154) 0 0)) 155 ((q_lvs (iv 161) 40 ((iv 155), q_dd (iv 155) (iv 161) (iv 157))).1)) 157 (q_dd (q_lvs (iv 161) 40 ((iv 155), q_dd (iv 155) (iv 161) (iv 157))).1 (iv 161) (q_lvs (iv 161) 40 ((iv 155), q_dd (iv 155) (iv 161) (iv 157))).2)) dv cc ss) := by
         intro dd20
         induction dd20 using Nat.strongRecOn with
         | _ dd20 ih20 =>
         intro n w f d  hd20 hn hkf hs hw
         have hf0 := hkf.r0
         refine pz_G_of pz_b294_20 ?_
         refine w_loc rfl ?_
         have hc3 : pz_R (pz_Sh L) 293 [.inr (.inl 154)] (pz_u1 (pz_u1 (pz_u1 iv 154 w) 155 f) 157 d) (.inl (some (.inl (pz_bi (q_lvT f (iv 161) d))))) (pz_u1 (pz_u1 (pz_u1 iv 154 w) 155 (q_if (q_lvT f (iv 161) d) (q_lvK f (q_dd f (iv 161) d)) f)) 157 (q_dd f (iv 161) d)) := pz_R_mem (s_X11_levels (by show q_KR f; first | exact hk | exact hkf)) (by rw [pz_u1_in (r := 155) (q := 157) (by decide)]; rw [pz_u1_top (r := 155)]; rw [pz_u1_top (r := 157)]; rfl)
         refine w_call hc3 rfl (pz_cokI is_154 rfl) ?_
         refine w_beq (fun h4 => ?_) (fun h4 => ?_)
         · first
           | (exfalso; first | omega | contradiction)
           | (refine pz_G_of pz_b294_35 ?_
              refine w_loc rfl ?_
              refine w_loc rfl ?_
              refine w_getR (q := 155) is_154 rf_154_1 ?_
              refine w_pure rfl ?_
              refine w_iald (v := (q_if (q_lvT f (iv 161) d) (q_lvK f (q_dd f (iv 161) d)) f) 1) is_155 ln_155 ⟨by omega, by omega⟩ rfl ?_
              refine w_loc rfl ?_
              refine w_isub (by rw [q_if_f (by assumption)]; omega) ?_
              have hc5 : pz_R (pz_Sh L) 192 [.inr (.inl 154), .inl (((q_if (q_lvT f (iv 161) d) (q_lvK f (q_dd f (iv 161) d)) f) 1) - ((iv 155) 1))] (pz_u1 (pz_u1 (pz_u1 iv 154 w) 155 (q_if (q_lvT f (iv 161) d) (q_lvK f (q_dd f (iv 161) d)) f)) 157 (q_dd f (iv 161) d)) (.inl (some (.inl (((q_if (q_lvT f (iv 161) d) (q_lvK f (q_dd f (iv 161) d)) f) 1) - ((iv 155) 1))))) (pz_u1 (pz_u1 (pz_u1 iv 154 (pz_up w 0 0)) 155 (q_if (q_lvT f (iv 161) d) (q_lvK f (q_dd f (iv 161) d)) f)) 157 (q_dd f (iv 161) d)) := pz_R_mem (s_X11_tells (((q_if (q_lvT f (iv 161) d) (q_lvK f (q_dd f (iv 161) d)) f) 1) - ((iv 155) 1))) (by rw [pz_u1_in (r := 154) (q := 157) (by decide)]; rw [pz_u1_in (r := 154) (q := 155) (by decide)]; rw [pz_u1_top (r := 154)]; rfl)
              refine w_call hc5 rfl (pz_cokI is_154 rfl) ?_
              refine w_ret rfl ?_
              first | exact lf_i (by rw [← q_lvs_e ⟨hn.1, by omega⟩ hs (by assumption)]; rw [q_if_f (by assumption)]) (by rw [← q_lvs_e ⟨hn.1, by omega⟩ hs (by assumption), q_if_f (by assumption), hw]) | (exfalso; omega))
         · first
           | (exfalso; first | omega | contradiction)
           | (have hlt := (by assumption : q_lvT f (iv 161) d).2.1
              refine w_loc rfl ?_
              refine w_pure rfl ?_
              refine w_putIm (iv2 := pz_u1 (pz_u1 (pz_u1 iv 154 (pz_up w 0 0)) 155 (q_if (q_lvT f (iv 161) d) (q_lvK f (q_dd f (iv 161) d)) f)) 157 (q_dd f (iv 161) d)) is_154 pz_fit0 (by rw [pz_u2_in (r := 154) (q := 157) (by decide)]; rw [pz_u2_in (r := 154) (q := 155) (by decide)]; rw [pz_u2_top] <;> rfl) ?_
              refine w_goto ?_
              exact ih20 _ (by omega) (n + 1) (pz_up w 0 0) (q_if (q_lvT f (iv 161) d) (q_lvK f (q_dd f (iv 161) d)) f) (q_dd f (iv 161) d)  rfl (by rw [q_if_t (by assumption)]; refine ⟨by omega, ?_⟩; show f 1 + 1 = _; omega) (by rw [q_if_t (by assumption)]; exact q_KR_lv hkf (by assumption)) (by rw [q_if_t (by assumption)]; exact q_lvs_s hn.1 hs (by assumption)) (by rw [← hw]; funext j; rw [pz_up_at, pz_up_at]; split <;> rfl))
       exact lp20 _ 0 (iv 154) (iv 155) (q_dd (iv 155) (iv 161) (iv 157))  rfl (by omega) (by exact hk) (by unfold q_lvs; rw [q_fr_0 (by omega)]) (by rfl))
  · first
    | (exfalso; first | omega | contradiction)
    | (refine w_loc rfl ?_
       refine w_pure rfl ?_
       have hc6 : pz_R (pz_Sh L) 191 [.inr (.inl 154), .inl 1] (pz_u1 (pz_u1 (pz_u1 iv 154 (iv 154)) 155 (iv 155)) 157 (q_dd (iv 155) (iv 161) (iv 157))) (.inl (some (.inl 0))) (pz_u1 (pz_u1 (pz_u1 iv 154 (pz_up (iv 154) 0 1)) 155 (iv 155)) 157 (q_dd (iv 155) (iv 161) (iv 157))) := pz_R_mem (s_X11_fails 1) (by rw [pz_u1_in (r := 154) (q := 157) (by decide)]; rw [pz_u1_in (r := 154) (q := 155) (by decide)]; rw [pz_u1_top (r := 154)]; rfl)
       refine w_call hc6 rfl (pz_cokI is_154 rfl) ?_
       refine w_ret rfl ?_
       first | exact lf_i (by rw [← q_lvs_e ⟨hn.1, by omega⟩ hs (by assumption)]; rw [q_if_f (by assumption)]) (by rw [← q_lvs_e ⟨hn.1, by omega⟩ hs (by assumption), q_if_f (by assumption), hw]) | (exfalso; omega))
