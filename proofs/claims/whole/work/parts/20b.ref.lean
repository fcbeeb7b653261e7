
theorem s_X11_heldShare_1 {L : Nat} {iv : Nat → Nat → Int} (hk : q_KR (iv 155)) (hcase0 : iv 155 1 = 0) : pz_R (pz_Sh L) 301 [.inr (.inl 154)] iv (.inl (some (.inr (.inr (.inr (.inl FP.fconst0)))))) (pz_u1 iv 154 (pz_up (iv 154) 0 1)) := by
  intro dv cc ss
  have hk0 := hk.r0
  refine pz_G_mem (iv2 := pz_u1 iv 154 (iv 154)) (by exact (pz_u1_self iv 154).symm) ?_
  show pz_G 301 0 [some (.inr (.inl 154))] [] (pz_Sh L, pz_u1 iv 154 (iv 154), dv, cc, ss) (pz_P (pz_Sh L) (.inl (some (.inr (.inr (.inr (.inl FP.fconst0)))))) (pz_u1 iv 154 (pz_up (iv 154) 0 1)) dv cc ss)
  refine pz_G_of pz_b301_0 ?_
  refine w_loc rfl ?_
  refine w_loc rfl ?_
  refine w_getR (q := 155) is_154 rf_154_1 ?_
  refine w_pure rfl ?_
  refine w_iald (v := (iv 155) 1) is_155 ln_155 ⟨by omega, by omega⟩ rfl ?_
  refine w_zne (fun h1 => ?_) (fun h1 => ?_)
  · first
    | (exfalso; first | omega | contradiction)
    | (refine pz_G_of pz_b301_14 ?_
       refine w_pure rfl ?_
       refine w_nil ?_
       refine pz_G_of pz_b301_15 ?_
       refine w_putIm (iv2 := pz_u1 iv 154 (pz_up (iv 154) 0 0)) is_154 pz_fit0 (by exact pz_u2_top _ _ _ _ _) ?_
       refine w_loc rfl ?_
       refine w_getI (v := 0) is_154 (by decide) rfl ?_
       refine w_pure rfl ?_
       refine w_ine (fun _ => ?_) (fun h => absurd h (by decide))
       refine pz_G_of pz_b301_30 ?_
       refine w_loc rfl ?_
       have hc2 : pz_R (pz_Sh L) 204 [.inr (.inl 154)] (pz_u1 iv 154 (pz_up (iv 154) 0 0)) (.inl (some (.inl (q_held (iv 155))))) (pz_u1 iv 154 (pz_up (iv 154) 0 0)) := s_X11_held (by show q_KR (iv 155); exact hk)
       refine w_call hc2 rfl (pz_cokI is_154 rfl) ?_
       refine w_pure rfl ?_
       refine w_loc rfl ?_
       refine w_getR (q := 155) is_154 rf_154_1 ?_
       refine w_pure rfl ?_
       refine w_iald (v := (iv 155) 1) is_155 ln_155 ⟨by omega, by omega⟩ rfl ?_
       refine w_pure rfl ?_
       refine w_fdiv (by omega) ?_
       refine w_nil ?_
       refine pz_G_of pz_b301_43 ?_
       refine w_ret rfl ?_
       first | exact lf_f (by rfl) (by rfl) | (exfalso; omega))
  · first
    | (exfalso; first | omega | contradiction)
    | (refine w_pure rfl ?_
       refine w_goto ?_
       refine pz_G_of pz_b301_15 ?_
       refine w_putIm (iv2 := pz_u1 iv 154 (pz_up (iv 154) 0 1)) is_154 pz_fit0 (by exact pz_u2_top _ _ _ _ _) ?_
       refine w_loc rfl ?_
       refine w_getI (v := 1) is_154 (by decide) rfl ?_
       refine w_pure rfl ?_
       refine w_ine (fun h => absurd h (by decide)) (fun _ => ?_)
       refine w_pure rfl ?_
       refine w_goto ?_
       refine pz_G_of pz_b301_43 ?_
       refine w_ret rfl ?_
       first | exact lf_f (by rfl) (by rfl) | (exfalso; omega))

theorem s_X11_heldShare_0 {L : Nat} {iv : Nat → Nat → Int} (hk : q_KR (iv 155)) (hcase0 : iv 155 1 ≠ 0) : pz_R (pz_Sh L) 301 [.inr (.inl 154)] iv (.inl (some (.inr (.inr (.inr (.inl (t_sh (q_held (iv 155)) ((iv 155) 1)))))))) (pz_u1 iv 154 (pz_up (iv 154) 0 0)) := by
  intro dv cc ss
  have hk0 := hk.r0
  refine pz_G_mem (iv2 := pz_u1 iv 154 (iv 154)) (by exact (pz_u1_self iv 154).symm) ?_
  show pz_G 301 0 [some (.inr (.inl 154))] [] (pz_Sh L, pz_u1 iv 154 (iv 154), dv, cc, ss) (pz_P (pz_Sh L) (.inl (some (.inr (.inr (.inr (.inl (t_sh (q_held (iv 155)) ((iv 155) 1)))))))) (pz_u1 iv 154 (pz_up (iv 154) 0 0)) dv cc ss)
  refine pz_G_of pz_b301_0 ?_
  refine w_loc rfl ?_
  refine w_loc rfl ?_
  refine w_getR (q := 155) is_154 rf_154_1 ?_
  refine w_pure rfl ?_
  refine w_iald (v := (iv 155) 1) is_155 ln_155 ⟨by omega, by omega⟩ rfl ?_
  refine w_zne (fun h1 => ?_) (fun h1 => ?_)
  · first
    | (exfalso; first | omega | contradiction)
    | (refine pz_G_of pz_b301_14 ?_
       refine w_pure rfl ?_
       refine w_nil ?_
       refine pz_G_of pz_b301_15 ?_
       refine w_putIm (iv2 := pz_u1 iv 154 (pz_up (iv 154) 0 0)) is_154 pz_fit0 (by exact pz_u2_top _ _ _ _ _) ?_
       refine w_loc rfl ?_
       refine w_getI (v := 0) is_154 (by decide) rfl ?_
       refine w_pure rfl ?_
       refine w_ine (fun _ => ?_) (fun h => absurd h (by decide))
       refine pz_G_of pz_b301_30 ?_
       refine w_loc rfl ?_
       have hc2 : pz_R (pz_Sh L) 204 [.inr (.inl 154)] (pz_u1 iv 154 (pz_up (iv 154) 0 0)) (.inl (some (.inl (q_held (iv 155))))) (pz_u1 iv 154 (pz_up (iv 154) 0 0)) := s_X11_held (by show q_KR (iv 155); exact hk)
       refine w_call hc2 rfl (pz_cokI is_154 rfl) ?_
       refine w_pure rfl ?_
       refine w_loc rfl ?_
       refine w_getR (q := 155) is_154 rf_154_1 ?_
       refine w_pure rfl ?_
       refine w_iald (v := (iv 155) 1) is_155 ln_155 ⟨by omega, by omega⟩ rfl ?_
       refine w_pure rfl ?_
       refine w_fdiv (by omega) ?_
       refine w_nil ?_
       refine pz_G_of pz_b301_43 ?_
       refine w_ret rfl ?_
       first | exact lf_f (by rfl) (by rfl) | (exfalso; omega))
  · first
    | (exfalso; first | omega | contradiction)
    | (refine w_pure rfl ?_
       refine w_goto ?_
       refine pz_G_of pz_b301_15 ?_
       refine w_putIm (iv2 := pz_u1 iv 154 (pz_up (iv 154) 0 1)) is_154 pz_fit0 (by exact pz_u2_top _ _ _ _ _) ?_
       refine w_loc rfl ?_
       refine w_getI (v := 1) is_154 (by decide) rfl ?_
       refine w_pure rfl ?_
       refine w_ine (fun h => absurd h (by decide)) (fun _ => ?_)
       refine w_pure rfl ?_
       refine w_goto ?_
       refine pz_G_of pz_b301_43 ?_
       refine w_ret rfl ?_
       first | exact lf_f (by rfl) (by rfl) | (exfalso; omega))

theorem s_X11_meanSlack_1 {L : Nat} {iv : Nat → Nat → Int} (hk : q_KR (iv 155)) (hcase0 : ¬ q_con (iv 155) (iv 161)) : pz_R (pz_Sh L) 302 [.inr (.inl 154)] iv (.inl (some (.inr (.inr (.inr (.inr FP.dconst0)))))) (pz_u1 (pz_u1 iv 154 (pz_up (iv 154) 0 1)) 157 (q_dd (iv 155) (iv 161) (iv 157))) := by
  intro dv cc ss
  have hk0 := hk.r0
  refine pz_G_mem (iv2 := pz_u1 (pz_u1 iv 154 (iv 154)) 157 (iv 157)) (by exact ((pz_u1_self iv 154).symm).trans (pz_u1_self (pz_u1 iv 154 (iv 154)) 157).symm) ?_
  show pz_G 302 0 [some (.inr (.inl 154)), none, none, none] [] (pz_Sh L, pz_u1 (pz_u1 iv 154 (iv 154)) 157 (iv 157), dv, cc, ss) (pz_P (pz_Sh L) (.inl (some (.inr (.inr (.inr (.inr FP.dconst0)))))) (pz_u1 (pz_u1 iv 154 (pz_up (iv 154) 0 1)) 157 (q_dd (iv 155) (iv 161) (iv 157))) dv cc ss)
  refine pz_G_of pz_b302_0 ?_
  refine w_loc rfl ?_
  refine w_loc rfl ?_
  have hc1 : pz_R (pz_Sh L) 227 [.inr (.inl 154)] (pz_u1 (pz_u1 iv 154 (iv 154)) 157 (iv 157)) (.inl (some (.inl (pz_bi (q_con (iv 155) (iv 161)))))) (pz_u1 (pz_u1 iv 154 (iv 154)) 157 (q_dd (iv 155) (iv 161) (iv 157))) := pz_R_mem (s_X11_isConsistentNow (by show q_KR (iv 155); exact hk)) (by rw [pz_u1_top (r := 157)]; rfl)
  refine w_call hc1 rfl (pz_cokI is_154 rfl) ?_
  refine w_beq (fun h2 => ?_) (fun h2 => ?_)
  · first
    | (exfalso; first | omega | contradiction)
    | (refine pz_G_of pz_b302_12 ?_
       refine w_pure rfl ?_
       refine w_nil ?_
       refine pz_G_of pz_b302_13 ?_
       refine w_putIm (iv2 := pz_u1 (pz_u1 iv 154 (pz_up (iv 154) 0 1)) 157 (q_dd (iv 155) (iv 161) (iv 157))) is_154 pz_fit0 (by rw [pz_u2_in (r := 154) (q := 157) (by decide)]; rw [pz_u2_top] <;> rfl) ?_
       refine w_pure rfl ?_
       refine w_loc (ls' := [some (.inr (.inl 154)), some (.inl 0), none, none]) (st' := []) rfl ?_
       refine w_pure rfl ?_
       refine w_loc (ls' := [some (.inr (.inl 154)), some (.inl 0), some (.inl 0), none]) (st' := []) rfl ?_
       refine w_pure rfl ?_
       refine w_loc (ls' := [some (.inr (.inl 154)), some (.inl 0), some (.inl 0), some (.inl 1)]) (st' := []) rfl ?_
       refine w_nil ?_
       refine pz_G_of pz_b302_22 ?_
       refine w_loc rfl ?_
       refine w_loc rfl ?_
       refine w_getR (q := 155) is_154 rf_154_1 ?_
       refine w_pure rfl ?_
       refine w_iald (v := (iv 155) 0) is_155 ln_155 ⟨by omega, by omega⟩ rfl ?_
       refine w_ige (fun h3 => ?_) (fun h3 => ?_)
       · first
         | (exfalso; first | omega | contradiction)
         | (refine pz_G_of pz_b302_77 ?_
            refine w_loc rfl ?_
            refine w_getI (v := 1) is_154 (by decide) rfl ?_
            refine w_zne (fun _ => ?_) (fun h => absurd h (by decide))
            refine pz_G_of pz_b302_93 ?_
            refine w_loc rfl ?_
            refine w_getI (v := 1) is_154 (by decide) rfl ?_
            refine w_zle (fun h => absurd h (by decide)) (fun _ => ?_)
            refine w_pure rfl ?_
            refine w_goto ?_
            refine pz_G_of pz_b302_109 ?_
            refine w_ret rfl ?_
            first | exact lf_d (by rfl) (by rfl) | (exfalso; omega))
       · first
         | (exfalso; first | omega | contradiction)
         | (refine w_loc rfl ?_
            refine w_getI (v := 1) is_154 (by decide) rfl ?_
            refine w_zne (fun _ => ?_) (fun h => absurd h (by decide))
            refine pz_G_of pz_b302_77 ?_
            refine w_loc rfl ?_
            refine w_getI (v := 1) is_154 (by decide) rfl ?_
            refine w_zne (fun _ => ?_) (fun h => absurd h (by decide))
            refine pz_G_of pz_b302_93 ?_
            refine w_loc rfl ?_
            refine w_getI (v := 1) is_154 (by decide) rfl ?_
            refine w_zle (fun h => absurd h (by decide)) (fun _ => ?_)
            refine w_pure rfl ?_
            refine w_goto ?_
            refine pz_G_of pz_b302_109 ?_
            refine w_ret rfl ?_
            first | exact lf_d (by rfl) (by rfl) | (exfalso; omega)))
  · exfalso; first | omega | contradiction

theorem s_X11_meanSlack_2 {L : Nat} {iv : Nat → Nat → Int} (hk : q_KR (iv 155)) (hcase0 : q_con (iv 155) (iv 161)) (hcase1 : (t_sm (q_dd (iv 155) (iv 161) (iv 157)) (iv 155 0)).2 = 0) : pz_R (pz_Sh L) 302 [.inr (.inl 154)] iv (.inl (some (.inr (.inr (.inr (.inr FP.dconst0)))))) (pz_u1 (pz_u1 iv 154 (pz_up (pz_up (iv 154) 0 0) 0 2)) 157 (q_dd (iv 155) (iv 161) (iv 157))) := by
  intro dv cc ss
  have hk0 := hk.r0
  refine pz_G_mem (iv2 := pz_u1 (pz_u1 iv 154 (iv 154)) 157 (iv 157)) (by exact ((pz_u1_self iv 154).symm).trans (pz_u1_self (pz_u1 iv 154 (iv 154)) 157).symm) ?_
  show pz_G 302 0 [some (.inr (.inl 154)), none, none, none] [] (pz_Sh L, pz_u1 (pz_u1 iv 154 (iv 154)) 157 (iv 157), dv, cc, ss) (pz_P (pz_Sh L) (.inl (some (.inr (.inr (.inr (.inr FP.dconst0)))))) (pz_u1 (pz_u1 iv 154 (pz_up (pz_up (iv 154) 0 0) 0 2)) 157 (q_dd (iv 155) (iv 161) (iv 157))) dv cc ss)
  refine pz_G_of pz_b302_0 ?_
  refine w_loc rfl ?_
  refine w_loc rfl ?_
  have hc1 : pz_R (pz_Sh L) 227 [.inr (.inl 154)] (pz_u1 (pz_u1 iv 154 (iv 154)) 157 (iv 157)) (.inl (some (.inl (pz_bi (q_con (iv 155) (iv 161)))))) (pz_u1 (pz_u1 iv 154 (iv 154)) 157 (q_dd (iv 155) (iv 161) (iv 157))) := pz_R_mem (s_X11_isConsistentNow (by show q_KR (iv 155); exact hk)) (by rw [pz_u1_top (r := 157)]; rfl)
  refine w_call hc1 rfl (pz_cokI is_154 rfl) ?_
  refine w_beq (fun h2 => ?_) (fun h2 => ?_)
  · exfalso; first | omega | contradiction
  · first
    | (exfalso; first | omega | contradiction)
    | (refine w_pure rfl ?_
       refine w_goto ?_
       refine pz_G_of pz_b302_13 ?_
       refine w_putIm (iv2 := pz_u1 (pz_u1 iv 154 (pz_up (iv 154) 0 0)) 157 (q_dd (iv 155) (iv 161) (iv 157))) is_154 pz_fit0 (by rw [pz_u2_in (r := 154) (q := 157) (by decide)]; rw [pz_u2_top] <;> rfl) ?_
       refine w_pure rfl ?_
       refine w_loc (ls' := [some (.inr (.inl 154)), some (.inl 0), none, none]) (st' := []) rfl ?_
       refine w_pure rfl ?_
       refine w_loc (ls' := [some (.inr (.inl 154)), some (.inl 0), some (.inl 0), none]) (st' := []) rfl ?_
       refine w_pure rfl ?_
       refine w_loc (ls' := [some (.inr (.inl 154)), some (.inl 0), some (.inl 0), some (.inl 1)]) (st' := []) rfl ?_
       refine w_nil ?_
       have lp22 : ∀ (dd : Nat) (sm : Int) (n : Int) (e : Int) , (iv 155 0 - e).toNat = dd → ∀ (he : 1 ≤ e ∧ e ≤ iv 155 0), ∀ (hs : (sm, n) = t_sm (q_dd (iv 155) (iv 161) (iv 157)) e), ∀ (hr : (0 ≤ n ∧ n ≤ e - 1) ∧ -20000 * (e - 1) ≤ sm ∧ sm ≤ 20000 * (e - 1)),  pz_G 302 22 [some (.inr (.inl 154)), some (.inl sm), some (.inl n), some (.inl e)] [] (pz_Sh L, pz_u1 (pz_u1 iv 154 (pz_up (iv 154) 0 0)) 157 (q_dd (iv 155) (iv 161) (iv 157)), dv, cc, ss) (pz_P (pz_Sh L) (.inl (some (.inr (.inr (.inr (.inr FP.dconst0)))))) (pz_u1 (pz_u1 iv 154 (pz_up (pz_up (iv 154) 0 0) 0 2)) 157 (q_dd (iv 155) (iv 161) (iv 157))) dv cc ss) := by
         intro dd22
         induction dd22 using Nat.strongRecOn with
         | _ dd22 ih22 =>
         intro sm n e  hd22 he hs hr
         have hft := fun h => q_ft_dd (g := iv 157) (e := e) hk hcase0 (by omega) h
         have hdr := fun h => q_dd_r (lf := iv 161) (g := iv 157) (j := e.toNat) hk hcase0 h
         have hfr := t_ft_r (d := (q_dd (iv 155) (iv 161) (iv 157))) (e := e)
         have hd9 := fun h => q_dd_r (lf := iv 161) (g := iv 157) (j := (10 * e).toNat) hk hcase0 h
         refine pz_G_of pz_b302_22 ?_
         refine w_loc rfl ?_
         refine w_loc rfl ?_
         refine w_getR (q := 155) is_154 rf_154_1 ?_
         refine w_pure rfl ?_
         refine w_iald (v := (iv 155) 0) is_155 ln_155 ⟨by omega, by omega⟩ rfl ?_
         refine w_ige (fun h3 => ?_) (fun h3 => ?_)
         · first
           | (exfalso; first | omega | contradiction)
           | (have hse : (sm, n) = t_sm (q_dd (iv 155) (iv 161) (iv 157)) (iv 155 0) := by rw [show iv 155 0 = e by omega]; exact hs
              have hs1 := congrArg Prod.fst hse
              have hs2 := congrArg Prod.snd hse
              dsimp only at hs1 hs2
              refine pz_G_of pz_b302_77 ?_
              refine w_loc rfl ?_
              refine w_getI (v := 0) is_154 (by decide) rfl ?_
              refine w_zne (fun h => absurd h (by decide)) (fun _ => ?_)
              refine w_loc rfl ?_
              refine w_zne (fun h4 => ?_) (fun h4 => ?_)
              · first
                | (exfalso; first | omega | contradiction)
                | (refine pz_G_of pz_b302_93 ?_
                   refine w_loc rfl ?_
                   refine w_getI (v := 0) is_154 (by decide) rfl ?_
                   refine w_zle (fun _ => ?_) (fun h => absurd h (by decide))
                   refine pz_G_of pz_b302_104 ?_
                   refine w_loc rfl ?_
                   refine w_pure rfl ?_
                   refine w_loc rfl ?_
                   refine w_pure rfl ?_
                   refine w_ddiv (by omega) ?_
                   refine w_nil ?_
                   refine pz_G_of pz_b302_109 ?_
                   refine w_ret rfl ?_
                   first | exact lf_d (by rfl) (by rfl) | (exfalso; omega))
              · first
                | (exfalso; first | omega | contradiction)
                | (refine w_loc rfl ?_
                   refine w_pure rfl ?_
                   refine w_putIm (iv2 := pz_u1 (pz_u1 iv 154 (pz_up (pz_up (iv 154) 0 0) 0 2)) 157 (q_dd (iv 155) (iv 161) (iv 157))) is_154 pz_fit0 (by rw [pz_u2_in (r := 154) (q := 157) (by decide)]; rw [pz_u2_top] <;> rfl) ?_
                   refine w_nil ?_
                   refine pz_G_of pz_b302_93 ?_
                   refine w_loc rfl ?_
                   refine w_getI (v := 2) is_154 (by decide) rfl ?_
                   refine w_zle (fun h => absurd h (by decide)) (fun _ => ?_)
                   refine w_pure rfl ?_
                   refine w_goto ?_
                   refine pz_G_of pz_b302_109 ?_
                   refine w_ret rfl ?_
                   first | exact lf_d (by rfl) (by rfl) | (exfalso; omega)))
         · first
           | (exfalso; first | omega | contradiction)
           | (refine w_loc rfl ?_
              refine w_getI (v := 0) is_154 (by decide) rfl ?_
              refine w_zne (fun h => absurd h (by decide)) (fun _ => ?_)
              refine w_loc rfl ?_
              refine w_getR (q := 157) is_154 rf_154_4 ?_
              refine w_loc rfl ?_
              refine w_iald (v := (q_dd (iv 155) (iv 161) (iv 157)) e.toNat) is_157 ln_157 ⟨by omega, by omega⟩ rfl ?_
              refine w_ldcv (v := 1000000) rfl ?_
              refine w_ine (fun h5 => ?_) (fun h5 => ?_)
              · first
                | (exfalso; first | omega | contradiction)
                | (refine pz_G_of pz_b302_53 ?_
                   refine w_loc rfl ?_
                   refine w_loc rfl ?_
                   refine w_getR (q := 157) is_154 rf_154_4 ?_
                   refine w_loc rfl ?_
                   refine w_iald (v := (q_dd (iv 155) (iv 161) (iv 157)) e.toNat) is_157 ln_157 ⟨by omega, by omega⟩ rfl ?_
                   refine w_loc rfl ?_
                   refine w_loc rfl ?_
                   have hc6 : pz_R (pz_Sh L) 281 [.inr (.inl 154), .inl e] (pz_u1 (pz_u1 iv 154 (pz_up (iv 154) 0 0)) 157 (q_dd (iv 155) (iv 161) (iv 157))) (.inl (some (.inl (q_ft (q_dd (iv 155) (iv 161) (iv 157)) e)))) (pz_u1 (pz_u1 iv 154 (pz_up (iv 154) 0 0)) 157 (q_dd (iv 155) (iv 161) (iv 157))) := s_X11_firstOf e (by show 0 ≤ e ∧ e ≤ 9; omega) (by show q_dl (q_dd (iv 155) (iv 161) (iv 157)); first | exact hd | exact q_dd_l hk (by assumption))
                   refine w_call hc6 rfl (pz_cokI is_154 rfl) ?_
                   refine w_isub (by omega) ?_
                   refine w_iadd (by omega) ?_
                   refine w_loc (ls' := [some (.inr (.inl 154)), some (.inl (sm + (((q_dd (iv 155) (iv 161) (iv 157)) e.toNat) - (q_ft (q_dd (iv 155) (iv 161) (iv 157)) e)))), some (.inl n), some (.inl e)]) (st' := []) rfl ?_
                   refine w_iinc (ls' := [some (.inr (.inl 154)), some (.inl (sm + (((q_dd (iv 155) (iv 161) (iv 157)) e.toNat) - (q_ft (q_dd (iv 155) (iv 161) (iv 157)) e)))), some (.inl (n + 1)), some (.inl e)]) rfl rfl rfl (by omega) ?_
                   refine w_nil ?_
                   refine pz_G_of pz_b302_71 ?_
                   refine w_iinc (ls' := [some (.inr (.inl 154)), some (.inl (sm + (((q_dd (iv 155) (iv 161) (iv 157)) e.toNat) - (q_ft (q_dd (iv 155) (iv 161) (iv 157)) e)))), some (.inl (n + 1)), some (.inl (e + 1))]) rfl rfl rfl (by omega) ?_
                   refine w_goto ?_
                   exact ih22 _ (by omega) (sm + (((q_dd (iv 155) (iv 161) (iv 157)) e.toNat) - (q_ft (q_dd (iv 155) (iv 161) (iv 157)) e))) (n + 1) (e + 1)  rfl (by omega) (by first | exact t_sm_n he.1 hs (by omega) | exact t_sm_y he.1 hs (by omega)) (by omega))
              · first
                | (exfalso; first | omega | contradiction)
                | (refine w_goto ?_
                   refine pz_G_of pz_b302_71 ?_
                   refine w_iinc (ls' := [some (.inr (.inl 154)), some (.inl sm), some (.inl n), some (.inl (e + 1))]) rfl rfl rfl (by omega) ?_
                   refine w_goto ?_
                   exact ih22 _ (by omega) sm n (e + 1)  rfl (by omega) (by first | exact t_sm_n he.1 hs (by omega) | exact t_sm_y he.1 hs (by omega)) (by omega)))
       exact lp22 _ 0 0 1  rfl (by omega) (by exact t_sm_0) (by omega))

theorem s_X11_meanSlack_0 {L : Nat} {iv : Nat → Nat → Int} (hk : q_KR (iv 155)) (hcase0 : q_con (iv 155) (iv 161)) (hcase1 : (t_sm (q_dd (iv 155) (iv 161) (iv 157)) (iv 155 0)).2 ≠ 0) : pz_R (pz_Sh L) 302 [.inr (.inl 154)] iv (.inl (some (.inr (.inr (.inr (.inr (t_me (t_sm (q_dd (iv 155) (iv 161) (iv 157)) (iv 155 0)).1 (t_sm (q_dd (iv 155) (iv 161) (iv 157)) (iv 155 0)).2))))))) (pz_u1 (pz_u1 iv 154 (pz_up (iv 154) 0 0)) 157 (q_dd (iv 155) (iv 161) (iv 157))) := by
  intro dv cc ss
  have hk0 := hk.r0
  refine pz_G_mem (iv2 := pz_u1 (pz_u1 iv 154 (iv 154)) 157 (iv 157)) (by exact ((pz_u1_self iv 154).symm).trans (pz_u1_self (pz_u1 iv 154 (iv 154)) 157).symm) ?_
  show pz_G 302 0 [some (.inr (.inl 154)), none, none, none] [] (pz_Sh L, pz_u1 (pz_u1 iv 154 (iv 154)) 157 (iv 157), dv, cc, ss) (pz_P (pz_Sh L) (.inl (some (.inr (.inr (.inr (.inr (t_me (t_sm (q_dd (iv 155) (iv 161) (iv 157)) (iv 155 0)).1 (t_sm (q_dd (iv 155) (iv 161) (iv 157)) (iv 155 0)).2))))))) (pz_u1 (pz_u1 iv 154 (pz_up (iv 154) 0 0)) 157 (q_dd (iv 155) (iv 161) (iv 157))) dv cc ss)
  refine pz_G_of pz_b302_0 ?_
  refine w_loc rfl ?_
  refine w_loc rfl ?_
  have hc1 : pz_R (pz_Sh L) 227 [.inr (.inl 154)] (pz_u1 (pz_u1 iv 154 (iv 154)) 157 (iv 157)) (.inl (some (.inl (pz_bi (q_con (iv 155) (iv 161)))))) (pz_u1 (pz_u1 iv 154 (iv 154)) 157 (q_dd (iv 155) (iv 161) (iv 157))) := pz_R_mem (s_X11_isConsistentNow (by show q_KR (iv 155); exact hk)) (by rw [pz_u1_top (r := 157)]; rfl)
  refine w_call hc1 rfl (pz_cokI is_154 rfl) ?_
  refine w_beq (fun h2 => ?_) (fun h2 => ?_)
  · exfalso; first | omega | contradiction
  · first
    | (exfalso; first | omega | contradiction)
    | (refine w_pure rfl ?_
       refine w_goto ?_
       refine pz_G_of pz_b302_13 ?_
       refine w_putIm (iv2 := pz_u1 (pz_u1 iv 154 (pz_up (iv 154) 0 0)) 157 (q_dd (iv 155) (iv 161) (iv 157))) is_154 pz_fit0 (by rw [pz_u2_in (r := 154) (q := 157) (by decide)]; rw [pz_u2_top] <;> rfl) ?_
       refine w_pure rfl ?_
       refine w_loc (ls' := [some (.inr (.inl 154)), some (.inl 0), none, none]) (st' := []) rfl ?_
       refine w_pure rfl ?_
       refine w_loc (ls' := [some (.inr (.inl 154)), some (.inl 0), some (.inl 0), none]) (st' := []) rfl ?_
       refine w_pure rfl ?_
       refine w_loc (ls' := [some (.inr (.inl 154)), some (.inl 0), some (.inl 0), some (.inl 1)]) (st' := []) rfl ?_
       refine w_nil ?_
       have lp22 : ∀ (dd : Nat) (sm : Int) (n : Int) (e : Int) , (iv 155 0 - e).toNat = dd → ∀ (he : 1 ≤ e ∧ e ≤ iv 155 0), ∀ (hs : (sm, n) = t_sm (q_dd (iv 155) (iv 161) (iv 157)) e), ∀ (hr : (0 ≤ n ∧ n ≤ e - 1) ∧ -20000 * (e - 1) ≤ sm ∧ sm ≤ 20000 * (e - 1)),  pz_G 302 22 [some (.inr (.inl 154)), some (.inl sm), some (.inl n), some (.inl e)] [] (pz_Sh L, pz_u1 (pz_u1 iv 154 (pz_up (iv 154) 0 0)) 157 (q_dd (iv 155) (iv 161) (iv 157)), dv, cc, ss) (pz_P (pz_Sh L) (.inl (some (.inr (.inr (.inr (.inr (t_me (t_sm (q_dd (iv 155) (iv 161) (iv 157)) (iv 155 0)).1 (t_sm (q_dd (iv 155) (iv 161) (iv 157)) (iv 155 0)).2))))))) (pz_u1 (pz_u1 iv 154 (pz_up (iv 154) 0 0)) 157 (q_dd (iv 155) (iv 161) (iv 157))) dv cc ss) := by
         intro dd22
         induction dd22 using Nat.strongRecOn with
         | _ dd22 ih22 =>
         intro sm n e  hd22 he hs hr
         have hft := fun h => q_ft_dd (g := iv 157) (e := e) hk hcase0 (by omega) h
         have hdr := fun h => q_dd_r (lf := iv 161) (g := iv 157) (j := e.toNat) hk hcase0 h
         have hfr := t_ft_r (d := (q_dd (iv 155) (iv 161) (iv 157))) (e := e)
         have hd9 := fun h => q_dd_r (lf := iv 161) (g := iv 157) (j := (10 * e).toNat) hk hcase0 h
         refine pz_G_of pz_b302_22 ?_
         refine w_loc rfl ?_
         refine w_loc rfl ?_
         refine w_getR (q := 155) is_154 rf_154_1 ?_
         refine w_pure rfl ?_
         refine w_iald (v := (iv 155) 0) is_155 ln_155 ⟨by omega, by omega⟩ rfl ?_
         refine w_ige (fun h3 => ?_) (fun h3 => ?_)
         · first
           | (exfalso; first | omega | contradiction)
           | (have hse : (sm, n) = t_sm (q_dd (iv 155) (iv 161) (iv 157)) (iv 155 0) := by rw [show iv 155 0 = e by omega]; exact hs
              have hs1 := congrArg Prod.fst hse
              have hs2 := congrArg Prod.snd hse
              dsimp only at hs1 hs2
              refine pz_G_of pz_b302_77 ?_
              refine w_loc rfl ?_
              refine w_getI (v := 0) is_154 (by decide) rfl ?_
              refine w_zne (fun h => absurd h (by decide)) (fun _ => ?_)
              refine w_loc rfl ?_
              refine w_zne (fun h4 => ?_) (fun h4 => ?_)
              · first
                | (exfalso; first | omega | contradiction)
                | (refine pz_G_of pz_b302_93 ?_
                   refine w_loc rfl ?_
                   refine w_getI (v := 0) is_154 (by decide) rfl ?_
                   refine w_zle (fun _ => ?_) (fun h => absurd h (by decide))
                   refine pz_G_of pz_b302_104 ?_
                   refine w_loc rfl ?_
                   refine w_pure rfl ?_
                   refine w_loc rfl ?_
                   refine w_pure rfl ?_
                   refine w_ddiv (by omega) ?_
                   refine w_nil ?_
                   refine pz_G_of pz_b302_109 ?_
                   refine w_ret rfl ?_
                   first | exact lf_d (by rw [hs1, hs2]) (by rfl) | (exfalso; omega))
              · first
                | (exfalso; first | omega | contradiction)
                | (refine w_loc rfl ?_
                   refine w_pure rfl ?_
                   refine w_putIm (iv2 := pz_u1 (pz_u1 iv 154 (pz_up (pz_up (iv 154) 0 0) 0 2)) 157 (q_dd (iv 155) (iv 161) (iv 157))) is_154 pz_fit0 (by rw [pz_u2_in (r := 154) (q := 157) (by decide)]; rw [pz_u2_top] <;> rfl) ?_
                   refine w_nil ?_
                   refine pz_G_of pz_b302_93 ?_
                   refine w_loc rfl ?_
                   refine w_getI (v := 2) is_154 (by decide) rfl ?_
                   refine w_zle (fun h => absurd h (by decide)) (fun _ => ?_)
                   refine w_pure rfl ?_
                   refine w_goto ?_
                   refine pz_G_of pz_b302_109 ?_
                   refine w_ret rfl ?_
                   first | exact lf_d (by rw [hs1, hs2]) (by rfl) | (exfalso; omega)))
         · first
           | (exfalso; first | omega | contradiction)
           | (refine w_loc rfl ?_
              refine w_getI (v := 0) is_154 (by decide) rfl ?_
              refine w_zne (fun h => absurd h (by decide)) (fun _ => ?_)
              refine w_loc rfl ?_
              refine w_getR (q := 157) is_154 rf_154_4 ?_
              refine w_loc rfl ?_
              refine w_iald (v := (q_dd (iv 155) (iv 161) (iv 157)) e.toNat) is_157 ln_157 ⟨by omega, by omega⟩ rfl ?_
              refine w_ldcv (v := 1000000) rfl ?_
              refine w_ine (fun h5 => ?_) (fun h5 => ?_)
              · first
                | (exfalso; first | omega | contradiction)
                | (refine pz_G_of pz_b302_53 ?_
                   refine w_loc rfl ?_
                   refine w_loc rfl ?_
                   refine w_getR (q := 157) is_154 rf_154_4 ?_
                   refine w_loc rfl ?_
                   refine w_iald (v := (q_dd (iv 155) (iv 161) (iv 157)) e.toNat) is_157 ln_157 ⟨by omega, by omega⟩ rfl ?_
                   refine w_loc rfl ?_
                   refine w_loc rfl ?_
                   have hc6 : pz_R (pz_Sh L) 281 [.inr (.inl 154), .inl e] (pz_u1 (pz_u1 iv 154 (pz_up (iv 154) 0 0)) 157 (q_dd (iv 155) (iv 161) (iv 157))) (.inl (some (.inl (q_ft (q_dd (iv 155) (iv 161) (iv 157)) e)))) (pz_u1 (pz_u1 iv 154 (pz_up (iv 154) 0 0)) 157 (q_dd (iv 155) (iv 161) (iv 157))) := s_X11_firstOf e (by show 0 ≤ e ∧ e ≤ 9; omega) (by show q_dl (q_dd (iv 155) (iv 161) (iv 157)); first | exact hd | exact q_dd_l hk (by assumption))
                   refine w_call hc6 rfl (pz_cokI is_154 rfl) ?_
                   refine w_isub (by omega) ?_
                   refine w_iadd (by omega) ?_
                   refine w_loc (ls' := [some (.inr (.inl 154)), some (.inl (sm + (((q_dd (iv 155) (iv 161) (iv 157)) e.toNat) - (q_ft (q_dd (iv 155) (iv 161) (iv 157)) e)))), some (.inl n), some (.inl e)]) (st' := []) rfl ?_
                   refine w_iinc (ls' := [some (.inr (.inl 154)), some (.inl (sm + (((q_dd (iv 155) (iv 161) (iv 157)) e.toNat) - (q_ft (q_dd (iv 155) (iv 161) (iv 157)) e)))), some (.inl (n + 1)), some (.inl e)]) rfl rfl rfl (by omega) ?_
                   refine w_nil ?_
                   refine pz_G_of pz_b302_71 ?_
                   refine w_iinc (ls' := [some (.inr (.inl 154)), some (.inl (sm + (((q_dd (iv 155) (iv 161) (iv 157)) e.toNat) - (q_ft (q_dd (iv 155) (iv 161) (iv 157)) e)))), some (.inl (n + 1)), some (.inl (e + 1))]) rfl rfl rfl (by omega) ?_
                   refine w_goto ?_
                   exact ih22 _ (by omega) (sm + (((q_dd (iv 155) (iv 161) (iv 157)) e.toNat) - (q_ft (q_dd (iv 155) (iv 161) (iv 157)) e))) (n + 1) (e + 1)  rfl (by omega) (by first | exact t_sm_n he.1 hs (by omega) | exact t_sm_y he.1 hs (by omega)) (by omega))
              · first
                | (exfalso; first | omega | contradiction)
                | (refine w_goto ?_
                   refine pz_G_of pz_b302_71 ?_
                   refine w_iinc (ls' := [some (.inr (.inl 154)), some (.inl sm), some (.inl n), some (.inl (e + 1))]) rfl rfl rfl (by omega) ?_
                   refine w_goto ?_
                   exact ih22 _ (by omega) sm n (e + 1)  rfl (by omega) (by first | exact t_sm_n he.1 hs (by omega) | exact t_sm_y he.1 hs (by omega)) (by omega)))
       exact lp22 _ 0 0 1  rfl (by omega) (by exact t_sm_0) (by omega))
