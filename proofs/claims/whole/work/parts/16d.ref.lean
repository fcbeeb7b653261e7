
theorem s_X11_closes {L : Nat} {iv : Nat → Nat → Int} (hcb : q_cb (iv 157)) : pz_R (pz_Sh L) 226 [.inr (.inl 154)] iv (.inl (some (.inl (pz_bi (q_ok (iv 157)))))) (pz_u1 iv 157 (q_cg (iv 157))) := by
  by_cases h : q_ok (iv 157)
  · rw [pz_bi_1 h, q_cg_t h]
    exact s_X11_closes_t hcb h
  · obtain ⟨c, h1, h2, h3, h4, h5⟩ := q_cg_f h
    rw [pz_bi_0 h, h5]
    exact s_X11_closes_f hcb c ⟨h1, h2⟩ h3 h4

theorem s_X11_isConsistentNow {L : Nat} {iv : Nat → Nat → Int} (hk : q_KR (iv 155)) : pz_R (pz_Sh L) 227 [.inr (.inl 154)] iv (.inl (some (.inl (pz_bi (q_con (iv 155) (iv 161)))))) (pz_u1 iv 157 (q_dd (iv 155) (iv 161) (iv 157))) := by
  intro dv cc ss
  have hk0 := hk.r0
  refine pz_G_mem (iv2 := pz_u1 iv 157 (iv 157)) (by exact (pz_u1_self iv 157).symm) ?_
  show pz_G 227 0 [some (.inr (.inl 154)), none] [] (pz_Sh L, pz_u1 iv 157 (iv 157), dv, cc, ss) (pz_P (pz_Sh L) (.inl (some (.inl (pz_bi (q_con (iv 155) (iv 161)))))) (pz_u1 iv 157 (q_dd (iv 155) (iv 161) (iv 157))) dv cc ss)
  refine pz_G_of pz_b227_0 ?_
  refine w_loc rfl ?_
  have hc1 : pz_R (pz_Sh L) 225 [.inr (.inl 154)] (pz_u1 iv 157 (iv 157)) (.inl none) (pz_u1 iv 157 (q_bds (iv 155) (iv 161) (iv 157))) := pz_R_mem (s_X11_bounds (by show q_KR (iv 155); exact hk)) (by rw [pz_u1_top (r := 157)]; rfl)
  refine w_callv hc1 rfl (pz_cokI is_154 rfl) ?_
  refine w_pure rfl ?_
  refine w_loc (ls' := [some (.inr (.inl 154)), some (.inl 0)]) (st' := []) rfl ?_
  refine w_nil ?_
  have lp6 : ∀ (dd : Nat) (s : Int) (f : Nat → Int) , ((iv 155) 2 - s).toNat = dd → ∀ (hs : 0 ≤ s ∧ s ≤ (iv 155) 2), ∀ (hf : f = q_fr (q_spE (iv 155)) 0 s (q_bds (iv 155) (iv 161) (iv 157))),  pz_G 227 6 [some (.inr (.inl 154)), some (.inl s)] [] (pz_Sh L, pz_u1 iv 157 f, dv, cc, ss) (pz_P (pz_Sh L) (.inl (some (.inl (pz_bi (q_con (iv 155) (iv 161)))))) (pz_u1 iv 157 (q_dd (iv 155) (iv 161) (iv 157))) dv cc ss) := by
    intro dd6
    induction dd6 using Nat.strongRecOn with
    | _ dd6 ih6 =>
    intro s f  hd6 hs hf
    have hsr := fun h => hk.sp hs.1 h
    refine pz_G_of pz_b227_6 ?_
    refine w_loc rfl ?_
    refine w_loc rfl ?_
    refine w_getR (q := 155) is_154 rf_154_1 ?_
    refine w_pure rfl ?_
    refine w_iald (v := (iv 155) 2) is_155 ln_155 ⟨by omega, by omega⟩ rfl ?_
    refine w_ige (fun h2 => ?_) (fun h2 => ?_)
    · refine pz_G_of pz_b227_61 ?_
      refine w_loc rfl ?_
      have hc3 : pz_R (pz_Sh L) 226 [.inr (.inl 154)] (pz_u1 iv 157 f) (.inl (some (.inl (pz_bi (q_ok f))))) (pz_u1 iv 157 (q_cg f)) := pz_R_mem (s_X11_closes (by show q_cb f; rw [hf, show s = (iv 155) 2 by omega]; exact q_cb_net hk)) (by rw [pz_u1_top (r := 157)]; rfl)
      refine w_call hc3 rfl (pz_cokI is_154 rfl) ?_
      refine w_ret (pz_rok1 (pz_bi01 _)) ?_
      exact lf_i (pz_bi_iff (by rw [hf, show s = (iv 155) 2 by omega]; exact q_con_eq)) (by rw [hf, show s = (iv 155) 2 by omega]; rfl)
    · refine w_loc rfl ?_
      refine w_loc rfl ?_
      refine w_loc rfl ?_
      have hc4 : pz_R (pz_Sh L) 206 [.inr (.inl 154), .inl s] (pz_u1 iv 157 f) (.inl (some (.inl ((iv 155) (212 + 4 * s).toNat)))) (pz_u1 iv 157 f) := s_X11_first s (by show 0 ≤ s ∧ s ≤ 2; omega)
      refine w_call hc4 rfl (pz_cokI is_154 rfl) ?_
      refine w_loc rfl ?_
      refine w_loc rfl ?_
      have hc5 : pz_R (pz_Sh L) 207 [.inr (.inl 154), .inl s] (pz_u1 iv 157 f) (.inl (some (.inl ((iv 155) (212 + 4 * s + 1).toNat)))) (pz_u1 iv 157 f) := s_X11_endOf s (by show 0 ≤ s ∧ s ≤ 2; omega)
      refine w_call hc5 rfl (pz_cokI is_154 rfl) ?_
      refine w_loc rfl ?_
      refine w_loc rfl ?_
      have hc6 : pz_R (pz_Sh L) 209 [.inr (.inl 154), .inl s] (pz_u1 iv 157 f) (.inl (some (.inl ((iv 155) (212 + 4 * s + 3).toNat)))) (pz_u1 iv 157 f) := s_X11_greatest s (by show 0 ≤ s ∧ s ≤ 2; omega)
      refine w_call hc6 rfl (pz_cokI is_154 rfl) ?_
      have hc7 : pz_R (pz_Sh L) 224 [.inr (.inl 154), .inl ((iv 155) (212 + 4 * s).toNat), .inl ((iv 155) (212 + 4 * s + 1).toNat), .inl ((iv 155) (212 + 4 * s + 3).toNat)] (pz_u1 iv 157 f) (.inl none) (pz_u1 iv 157 (q_eg f ((iv 155) (212 + 4 * s).toNat) ((iv 155) (212 + 4 * s + 1).toNat) ((iv 155) (212 + 4 * s + 3).toNat))) := pz_R_mem (s_X11_edge ((iv 155) (212 + 4 * s).toNat) ((iv 155) (212 + 4 * s + 1).toNat) ((iv 155) (212 + 4 * s + 3).toNat) (by show 0 ≤ ((iv 155) (212 + 4 * s).toNat) ∧ ((iv 155) (212 + 4 * s).toNat) ≤ 9; omega) (by show 0 ≤ ((iv 155) (212 + 4 * s + 1).toNat) ∧ ((iv 155) (212 + 4 * s + 1).toNat) ≤ 9; omega)) (by rw [pz_u1_top (r := 157)]; rfl)
      refine w_callv hc7 rfl (pz_cokI is_154 rfl) ?_
      refine w_loc rfl ?_
      refine w_loc rfl ?_
      refine w_loc rfl ?_
      have hc8 : pz_R (pz_Sh L) 207 [.inr (.inl 154), .inl s] (pz_u1 iv 157 (q_eg f ((iv 155) (212 + 4 * s).toNat) ((iv 155) (212 + 4 * s + 1).toNat) ((iv 155) (212 + 4 * s + 3).toNat))) (.inl (some (.inl ((iv 155) (212 + 4 * s + 1).toNat)))) (pz_u1 iv 157 (q_eg f ((iv 155) (212 + 4 * s).toNat) ((iv 155) (212 + 4 * s + 1).toNat) ((iv 155) (212 + 4 * s + 3).toNat))) := s_X11_endOf s (by show 0 ≤ s ∧ s ≤ 2; omega)
      refine w_call hc8 rfl (pz_cokI is_154 rfl) ?_
      refine w_loc rfl ?_
      refine w_loc rfl ?_
      have hc9 : pz_R (pz_Sh L) 206 [.inr (.inl 154), .inl s] (pz_u1 iv 157 (q_eg f ((iv 155) (212 + 4 * s).toNat) ((iv 155) (212 + 4 * s + 1).toNat) ((iv 155) (212 + 4 * s + 3).toNat))) (.inl (some (.inl ((iv 155) (212 + 4 * s).toNat)))) (pz_u1 iv 157 (q_eg f ((iv 155) (212 + 4 * s).toNat) ((iv 155) (212 + 4 * s + 1).toNat) ((iv 155) (212 + 4 * s + 3).toNat))) := s_X11_first s (by show 0 ≤ s ∧ s ≤ 2; omega)
      refine w_call hc9 rfl (pz_cokI is_154 rfl) ?_
      refine w_loc rfl ?_
      refine w_loc rfl ?_
      have hc10 : pz_R (pz_Sh L) 208 [.inr (.inl 154), .inl s] (pz_u1 iv 157 (q_eg f ((iv 155) (212 + 4 * s).toNat) ((iv 155) (212 + 4 * s + 1).toNat) ((iv 155) (212 + 4 * s + 3).toNat))) (.inl (some (.inl ((iv 155) (212 + 4 * s + 2).toNat)))) (pz_u1 iv 157 (q_eg f ((iv 155) (212 + 4 * s).toNat) ((iv 155) (212 + 4 * s + 1).toNat) ((iv 155) (212 + 4 * s + 3).toNat))) := s_X11_least s (by show 0 ≤ s ∧ s ≤ 2; omega)
      refine w_call hc10 rfl (pz_cokI is_154 rfl) ?_
      refine w_ineg (by omega) ?_
      have hc11 : pz_R (pz_Sh L) 224 [.inr (.inl 154), .inl ((iv 155) (212 + 4 * s + 1).toNat), .inl ((iv 155) (212 + 4 * s).toNat), .inl (-((iv 155) (212 + 4 * s + 2).toNat))] (pz_u1 iv 157 (q_eg f ((iv 155) (212 + 4 * s).toNat) ((iv 155) (212 + 4 * s + 1).toNat) ((iv 155) (212 + 4 * s + 3).toNat))) (.inl none) (pz_u1 iv 157 (q_eg (q_eg f ((iv 155) (212 + 4 * s).toNat) ((iv 155) (212 + 4 * s + 1).toNat) ((iv 155) (212 + 4 * s + 3).toNat)) ((iv 155) (212 + 4 * s + 1).toNat) ((iv 155) (212 + 4 * s).toNat) (-((iv 155) (212 + 4 * s + 2).toNat)))) := pz_R_mem (s_X11_edge ((iv 155) (212 + 4 * s + 1).toNat) ((iv 155) (212 + 4 * s).toNat) (-((iv 155) (212 + 4 * s + 2).toNat)) (by show 0 ≤ ((iv 155) (212 + 4 * s + 1).toNat) ∧ ((iv 155) (212 + 4 * s + 1).toNat) ≤ 9; omega) (by show 0 ≤ ((iv 155) (212 + 4 * s).toNat) ∧ ((iv 155) (212 + 4 * s).toNat) ≤ 9; omega)) (by rw [pz_u1_top (r := 157)]; rfl)
      refine w_callv hc11 rfl (pz_cokI is_154 rfl) ?_
      refine w_iinc (ls' := [some (.inr (.inl 154)), some (.inl (s + 1))]) rfl rfl rfl (by omega) ?_
      refine w_goto ?_
      exact ih6 _ (by omega) (s + 1) (q_eg (q_eg f ((iv 155) (212 + 4 * s).toNat) ((iv 155) (212 + 4 * s + 1).toNat) ((iv 155) (212 + 4 * s + 3).toNat)) ((iv 155) (212 + 4 * s + 1).toNat) ((iv 155) (212 + 4 * s).toNat) (-((iv 155) (212 + 4 * s + 2).toNat)))  rfl (by omega) (by rw [q_fr_s (by omega), ← hf]; rfl)
  exact lp6 _ 0 (q_bds (iv 155) (iv 161) (iv 157))  rfl (by omega) (by rw [q_fr_0 (by omega)])

theorem s_X11_isConsistent {L : Nat} {iv : Nat → Nat → Int} (hk : q_KR (iv 155)) : pz_R (pz_Sh L) 228 [.inr (.inl 154)] iv (.inl (some (.inl (pz_bi (q_con (iv 155) (iv 161)))))) (pz_u1 (pz_u1 iv 154 (pz_up (iv 154) 0 0)) 157 (q_dd (iv 155) (iv 161) (iv 157))) := by
  intro dv cc ss
  have hk0 := hk.r0
  refine pz_G_mem (iv2 := pz_u1 (pz_u1 iv 154 (iv 154)) 157 (iv 157)) (by exact ((pz_u1_self iv 154).symm).trans (pz_u1_self (pz_u1 iv 154 (iv 154)) 157).symm) ?_
  show pz_G 228 0 [some (.inr (.inl 154))] [] (pz_Sh L, pz_u1 (pz_u1 iv 154 (iv 154)) 157 (iv 157), dv, cc, ss) (pz_P (pz_Sh L) (.inl (some (.inl (pz_bi (q_con (iv 155) (iv 161)))))) (pz_u1 (pz_u1 iv 154 (pz_up (iv 154) 0 0)) 157 (q_dd (iv 155) (iv 161) (iv 157))) dv cc ss)
  refine pz_G_of pz_b228_0 ?_
  refine w_loc rfl ?_
  refine w_pure rfl ?_
  refine w_loc rfl ?_
  have hc1 : pz_R (pz_Sh L) 227 [.inr (.inl 154)] (pz_u1 (pz_u1 iv 154 (iv 154)) 157 (iv 157)) (.inl (some (.inl (pz_bi (q_con (iv 155) (iv 161)))))) (pz_u1 (pz_u1 iv 154 (iv 154)) 157 (q_dd (iv 155) (iv 161) (iv 157))) := pz_R_mem (s_X11_isConsistentNow (by show q_KR (iv 155); exact hk)) (by rw [pz_u1_top (r := 157)]; rfl)
  refine w_call hc1 rfl (pz_cokI is_154 rfl) ?_
  have hc2 : pz_R (pz_Sh L) 193 [.inr (.inl 154), .inl 0, .inl (pz_bi (q_con (iv 155) (iv 161)))] (pz_u1 (pz_u1 iv 154 (iv 154)) 157 (q_dd (iv 155) (iv 161) (iv 157))) (.inl (some (.inl (pz_bi ((0 : Int) = 0 ∧ ((pz_bi (q_con (iv 155) (iv 161))) : Int) = 1))))) (pz_u1 (pz_u1 iv 154 (pz_up (iv 154) 0 0)) 157 (q_dd (iv 155) (iv 161) (iv 157))) := pz_R_mem (s_X11_asks 0 (pz_bi (q_con (iv 155) (iv 161))) (by show (pz_bi (q_con (iv 155) (iv 161))) = 0 ∨ (pz_bi (q_con (iv 155) (iv 161))) = 1; exact pz_bi01 _)) (by rw [pz_u1_in (r := 154) (q := 157) (by decide)]; rw [pz_u1_top (r := 154)]; rfl)
  refine w_call hc2 rfl (pz_cokI is_154 rfl) ?_
  refine w_ret (pz_rok1 (pz_bi01 _)) ?_
  exact lf_i (pz_bi_iff ⟨fun h => pz_bi_ne (by omega), fun h => ⟨rfl, pz_bi_1 h⟩⟩) rfl

theorem s_X11_distances_1 {L : Nat} {iv : Nat → Nat → Int} (f : Int) (t : Int) (hk : q_KR (iv 155)) (hcase0 : ¬ (0 ≤ f ∧ f ≤ iv 155 0 - 1 ∧ 0 ≤ t ∧ t ≤ iv 155 0 - 1)) : pz_R (pz_Sh L) 229 [.inr (.inl 154), .inl f, .inl t] iv (.inl (some (.inl 0))) (pz_u1 (pz_u1 iv 154 (pz_up (iv 154) 0 1)) 157 (iv 157)) := by
  intro dv cc ss
  have hk0 := hk.r0
  refine pz_G_mem (iv2 := pz_u1 (pz_u1 iv 154 (iv 154)) 157 (iv 157)) (by exact ((pz_u1_self iv 154).symm).trans (pz_u1_self (pz_u1 iv 154 (iv 154)) 157).symm) ?_
  show pz_G 229 0 [some (.inr (.inl 154)), some (.inl f), some (.inl t)] [] (pz_Sh L, pz_u1 (pz_u1 iv 154 (iv 154)) 157 (iv 157), dv, cc, ss) (pz_P (pz_Sh L) (.inl (some (.inl 0))) (pz_u1 (pz_u1 iv 154 (pz_up (iv 154) 0 1)) 157 (iv 157)) dv cc ss)
  refine pz_G_of pz_b229_0 ?_
  refine w_loc rfl ?_
  refine w_loc rfl ?_
  have hc1 : pz_R (pz_Sh L) 194 [.inr (.inl 154), .inl f] (pz_u1 (pz_u1 iv 154 (iv 154)) 157 (iv 157)) (.inl (some (.inl (pz_bi (0 ≤ f ∧ f ≤ (iv 155) 0 - 1))))) (pz_u1 (pz_u1 iv 154 (iv 154)) 157 (iv 157)) := s_X11_isEvent f (by show q_KR (iv 155); exact hk)
  refine w_call hc1 rfl (pz_cokI is_154 rfl) ?_
  refine w_beq (fun h2 => ?_) (fun h2 => ?_)
  · first
    | (exfalso; first | omega | contradiction)
    | (refine pz_G_of pz_b229_16 ?_
       refine w_loc rfl ?_
       refine w_pure rfl ?_
       have hc3 : pz_R (pz_Sh L) 191 [.inr (.inl 154), .inl 1] (pz_u1 (pz_u1 iv 154 (iv 154)) 157 (iv 157)) (.inl (some (.inl 0))) (pz_u1 (pz_u1 iv 154 (pz_up (iv 154) 0 1)) 157 (iv 157)) := pz_R_mem (s_X11_fails 1) (by rw [pz_u1_in (r := 154) (q := 157) (by decide)]; rw [pz_u1_top (r := 154)]; rfl)
       refine w_call hc3 rfl (pz_cokI is_154 rfl) ?_
       refine w_ret rfl ?_
       first | exact lf_i (by first | rfl | omega) (by rfl) | (exfalso; omega))
  · first
    | (exfalso; first | omega | contradiction)
    | (refine w_loc rfl ?_
       refine w_loc rfl ?_
       have hc4 : pz_R (pz_Sh L) 194 [.inr (.inl 154), .inl t] (pz_u1 (pz_u1 iv 154 (iv 154)) 157 (iv 157)) (.inl (some (.inl (pz_bi (0 ≤ t ∧ t ≤ (iv 155) 0 - 1))))) (pz_u1 (pz_u1 iv 154 (iv 154)) 157 (iv 157)) := s_X11_isEvent t (by show q_KR (iv 155); exact hk)
       refine w_call hc4 rfl (pz_cokI is_154 rfl) ?_
       refine w_bne (fun h5 => ?_) (fun h5 => ?_)
       · first
         | (exfalso; first | omega | contradiction)
         | (refine pz_G_of pz_b229_22 ?_
            refine w_loc rfl ?_
            have hc6 : pz_R (pz_Sh L) 227 [.inr (.inl 154)] (pz_u1 (pz_u1 iv 154 (iv 154)) 157 (iv 157)) (.inl (some (.inl (pz_bi (q_con (iv 155) (iv 161)))))) (pz_u1 (pz_u1 iv 154 (iv 154)) 157 (q_dd (iv 155) (iv 161) (iv 157))) := pz_R_mem (s_X11_isConsistentNow (by show q_KR (iv 155); exact hk)) (by rw [pz_u1_top (r := 157)]; rfl)
            refine w_call hc6 rfl (pz_cokI is_154 rfl) ?_
            refine w_bne (fun h7 => ?_) (fun h7 => ?_)
            · first
              | (exfalso; first | omega | contradiction)
              | (refine pz_G_of pz_b229_35 ?_
                 refine w_loc rfl ?_
                 refine w_getR (q := 157) is_154 rf_154_4 ?_
                 refine w_pure rfl ?_
                 refine w_loc rfl ?_
                 refine w_imul (by omega) ?_
                 refine w_loc rfl ?_
                 refine w_iadd (by omega) ?_
                 refine w_iald (v := (q_dd (iv 155) (iv 161) (iv 157)) ((10 * f) + t).toNat) is_157 ln_157 ⟨by omega, by omega⟩ rfl ?_
                 refine w_ldcv (v := 1000000) rfl ?_
                 refine w_ine (fun h8 => ?_) (fun h8 => ?_)
                 · first
                   | (exfalso; first | omega | contradiction)
                   | (refine pz_G_of pz_b229_59 ?_
                      refine w_loc rfl ?_
                      refine w_loc rfl ?_
                      refine w_getR (q := 157) is_154 rf_154_4 ?_
                      refine w_pure rfl ?_
                      refine w_loc rfl ?_
                      refine w_imul (by omega) ?_
                      refine w_loc rfl ?_
                      refine w_iadd (by omega) ?_
                      refine w_iald (v := (q_dd (iv 155) (iv 161) (iv 157)) ((10 * f) + t).toNat) is_157 ln_157 ⟨by omega, by omega⟩ rfl ?_
                      have hc9 : pz_R (pz_Sh L) 192 [.inr (.inl 154), .inl ((q_dd (iv 155) (iv 161) (iv 157)) ((10 * f) + t).toNat)] (pz_u1 (pz_u1 iv 154 (iv 154)) 157 (q_dd (iv 155) (iv 161) (iv 157))) (.inl (some (.inl ((q_dd (iv 155) (iv 161) (iv 157)) ((10 * f) + t).toNat)))) (pz_u1 (pz_u1 iv 154 (pz_up (iv 154) 0 0)) 157 (q_dd (iv 155) (iv 161) (iv 157))) := pz_R_mem (s_X11_tells ((q_dd (iv 155) (iv 161) (iv 157)) ((10 * f) + t).toNat)) (by rw [pz_u1_in (r := 154) (q := 157) (by decide)]; rw [pz_u1_top (r := 154)]; rfl)
                      refine w_call hc9 rfl (pz_cokI is_154 rfl) ?_
                      refine w_nil ?_
                      refine pz_G_of pz_b229_74 ?_
                      refine w_ret rfl ?_
                      first | exact lf_i (by first | rfl | omega) (by rfl) | (exfalso; omega))
                 · first
                   | (exfalso; first | omega | contradiction)
                   | (refine w_loc rfl ?_
                      refine w_pure rfl ?_
                      have hc10 : pz_R (pz_Sh L) 191 [.inr (.inl 154), .inl 3] (pz_u1 (pz_u1 iv 154 (iv 154)) 157 (q_dd (iv 155) (iv 161) (iv 157))) (.inl (some (.inl 0))) (pz_u1 (pz_u1 iv 154 (pz_up (iv 154) 0 3)) 157 (q_dd (iv 155) (iv 161) (iv 157))) := pz_R_mem (s_X11_fails 3) (by rw [pz_u1_in (r := 154) (q := 157) (by decide)]; rw [pz_u1_top (r := 154)]; rfl)
                      refine w_call hc10 rfl (pz_cokI is_154 rfl) ?_
                      refine w_goto ?_
                      refine pz_G_of pz_b229_74 ?_
                      refine w_ret rfl ?_
                      first | exact lf_i (by first | rfl | omega) (by rfl) | (exfalso; omega)))
            · first
              | (exfalso; first | omega | contradiction)
              | (refine w_loc rfl ?_
                 refine w_pure rfl ?_
                 have hc11 : pz_R (pz_Sh L) 191 [.inr (.inl 154), .inl 2] (pz_u1 (pz_u1 iv 154 (iv 154)) 157 (q_dd (iv 155) (iv 161) (iv 157))) (.inl (some (.inl 0))) (pz_u1 (pz_u1 iv 154 (pz_up (iv 154) 0 2)) 157 (q_dd (iv 155) (iv 161) (iv 157))) := pz_R_mem (s_X11_fails 2) (by rw [pz_u1_in (r := 154) (q := 157) (by decide)]; rw [pz_u1_top (r := 154)]; rfl)
                 refine w_call hc11 rfl (pz_cokI is_154 rfl) ?_
                 refine w_ret rfl ?_
                 first | exact lf_i (by first | rfl | omega) (by rfl) | (exfalso; omega)))
       · first
         | (exfalso; first | omega | contradiction)
         | (refine w_nil ?_
            refine pz_G_of pz_b229_16 ?_
            refine w_loc rfl ?_
            refine w_pure rfl ?_
            have hc12 : pz_R (pz_Sh L) 191 [.inr (.inl 154), .inl 1] (pz_u1 (pz_u1 iv 154 (iv 154)) 157 (iv 157)) (.inl (some (.inl 0))) (pz_u1 (pz_u1 iv 154 (pz_up (iv 154) 0 1)) 157 (iv 157)) := pz_R_mem (s_X11_fails 1) (by rw [pz_u1_in (r := 154) (q := 157) (by decide)]; rw [pz_u1_top (r := 154)]; rfl)
            refine w_call hc12 rfl (pz_cokI is_154 rfl) ?_
            refine w_ret rfl ?_
            first | exact lf_i (by first | rfl | omega) (by rfl) | (exfalso; omega)))

theorem s_X11_distances_2 {L : Nat} {iv : Nat → Nat → Int} (f : Int) (t : Int) (hk : q_KR (iv 155)) (hcase0 : 0 ≤ f ∧ f ≤ iv 155 0 - 1 ∧ 0 ≤ t ∧ t ≤ iv 155 0 - 1) (hcase1 : ¬ q_con (iv 155) (iv 161)) : pz_R (pz_Sh L) 229 [.inr (.inl 154), .inl f, .inl t] iv (.inl (some (.inl 0))) (pz_u1 (pz_u1 iv 154 (pz_up (iv 154) 0 2)) 157 (q_dd (iv 155) (iv 161) (iv 157))) := by
  intro dv cc ss
  have hk0 := hk.r0
  refine pz_G_mem (iv2 := pz_u1 (pz_u1 iv 154 (iv 154)) 157 (iv 157)) (by exact ((pz_u1_self iv 154).symm).trans (pz_u1_self (pz_u1 iv 154 (iv 154)) 157).symm) ?_
  show pz_G 229 0 [some (.inr (.inl 154)), some (.inl f), some (.inl t)] [] (pz_Sh L, pz_u1 (pz_u1 iv 154 (iv 154)) 157 (iv 157), dv, cc, ss) (pz_P (pz_Sh L) (.inl (some (.inl 0))) (pz_u1 (pz_u1 iv 154 (pz_up (iv 154) 0 2)) 157 (q_dd (iv 155) (iv 161) (iv 157))) dv cc ss)
  refine pz_G_of pz_b229_0 ?_
  refine w_loc rfl ?_
  refine w_loc rfl ?_
  have hc1 : pz_R (pz_Sh L) 194 [.inr (.inl 154), .inl f] (pz_u1 (pz_u1 iv 154 (iv 154)) 157 (iv 157)) (.inl (some (.inl (pz_bi (0 ≤ f ∧ f ≤ (iv 155) 0 - 1))))) (pz_u1 (pz_u1 iv 154 (iv 154)) 157 (iv 157)) := s_X11_isEvent f (by show q_KR (iv 155); exact hk)
  refine w_call hc1 rfl (pz_cokI is_154 rfl) ?_
  refine w_beq (fun h2 => ?_) (fun h2 => ?_)
  · first
    | (exfalso; first | omega | contradiction)
    | (refine pz_G_of pz_b229_16 ?_
       refine w_loc rfl ?_
       refine w_pure rfl ?_
       have hc3 : pz_R (pz_Sh L) 191 [.inr (.inl 154), .inl 1] (pz_u1 (pz_u1 iv 154 (iv 154)) 157 (iv 157)) (.inl (some (.inl 0))) (pz_u1 (pz_u1 iv 154 (pz_up (iv 154) 0 1)) 157 (iv 157)) := pz_R_mem (s_X11_fails 1) (by rw [pz_u1_in (r := 154) (q := 157) (by decide)]; rw [pz_u1_top (r := 154)]; rfl)
       refine w_call hc3 rfl (pz_cokI is_154 rfl) ?_
       refine w_ret rfl ?_
       first | exact lf_i (by first | rfl | omega) (by rfl) | (exfalso; omega))
  · first
    | (exfalso; first | omega | contradiction)
    | (refine w_loc rfl ?_
       refine w_loc rfl ?_
       have hc4 : pz_R (pz_Sh L) 194 [.inr (.inl 154), .inl t] (pz_u1 (pz_u1 iv 154 (iv 154)) 157 (iv 157)) (.inl (some (.inl (pz_bi (0 ≤ t ∧ t ≤ (iv 155) 0 - 1))))) (pz_u1 (pz_u1 iv 154 (iv 154)) 157 (iv 157)) := s_X11_isEvent t (by show q_KR (iv 155); exact hk)
       refine w_call hc4 rfl (pz_cokI is_154 rfl) ?_
       refine w_bne (fun h5 => ?_) (fun h5 => ?_)
       · first
         | (exfalso; first | omega | contradiction)
         | (refine pz_G_of pz_b229_22 ?_
            refine w_loc rfl ?_
            have hc6 : pz_R (pz_Sh L) 227 [.inr (.inl 154)] (pz_u1 (pz_u1 iv 154 (iv 154)) 157 (iv 157)) (.inl (some (.inl (pz_bi (q_con (iv 155) (iv 161)))))) (pz_u1 (pz_u1 iv 154 (iv 154)) 157 (q_dd (iv 155) (iv 161) (iv 157))) := pz_R_mem (s_X11_isConsistentNow (by show q_KR (iv 155); exact hk)) (by rw [pz_u1_top (r := 157)]; rfl)
            refine w_call hc6 rfl (pz_cokI is_154 rfl) ?_
            refine w_bne (fun h7 => ?_) (fun h7 => ?_)
            · first
              | (exfalso; first | omega | contradiction)
              | (refine pz_G_of pz_b229_35 ?_
                 refine w_loc rfl ?_
                 refine w_getR (q := 157) is_154 rf_154_4 ?_
                 refine w_pure rfl ?_
                 refine w_loc rfl ?_
                 refine w_imul (by omega) ?_
                 refine w_loc rfl ?_
                 refine w_iadd (by omega) ?_
                 refine w_iald (v := (q_dd (iv 155) (iv 161) (iv 157)) ((10 * f) + t).toNat) is_157 ln_157 ⟨by omega, by omega⟩ rfl ?_
                 refine w_ldcv (v := 1000000) rfl ?_
                 refine w_ine (fun h8 => ?_) (fun h8 => ?_)
                 · first
                   | (exfalso; first | omega | contradiction)
                   | (refine pz_G_of pz_b229_59 ?_
                      refine w_loc rfl ?_
                      refine w_loc rfl ?_
                      refine w_getR (q := 157) is_154 rf_154_4 ?_
                      refine w_pure rfl ?_
                      refine w_loc rfl ?_
                      refine w_imul (by omega) ?_
                      refine w_loc rfl ?_
                      refine w_iadd (by omega) ?_
                      refine w_iald (v := (q_dd (iv 155) (iv 161) (iv 157)) ((10 * f) + t).toNat) is_157 ln_157 ⟨by omega, by omega⟩ rfl ?_
                      have hc9 : pz_R (pz_Sh L) 192 [.inr (.inl 154), .inl ((q_dd (iv 155) (iv 161) (iv 157)) ((10 * f) + t).toNat)] (pz_u1 (pz_u1 iv 154 (iv 154)) 157 (q_dd (iv 155) (iv 161) (iv 157))) (.inl (some (.inl ((q_dd (iv 155) (iv 161) (iv 157)) ((10 * f) + t).toNat)))) (pz_u1 (pz_u1 iv 154 (pz_up (iv 154) 0 0)) 157 (q_dd (iv 155) (iv 161) (iv 157))) := pz_R_mem (s_X11_tells ((q_dd (iv 155) (iv 161) (iv 157)) ((10 * f) + t).toNat)) (by rw [pz_u1_in (r := 154) (q := 157) (by decide)]; rw [pz_u1_top (r := 154)]; rfl)
                      refine w_call hc9 rfl (pz_cokI is_154 rfl) ?_
                      refine w_nil ?_
                      refine pz_G_of pz_b229_74 ?_
                      refine w_ret rfl ?_
                      first | exact lf_i (by first | rfl | omega) (by rfl) | (exfalso; omega))
                 · first
                   | (exfalso; first | omega | contradiction)
                   | (refine w_loc rfl ?_
                      refine w_pure rfl ?_
                      have hc10 : pz_R (pz_Sh L) 191 [.inr (.inl 154), .inl 3] (pz_u1 (pz_u1 iv 154 (iv 154)) 157 (q_dd (iv 155) (iv 161) (iv 157))) (.inl (some (.inl 0))) (pz_u1 (pz_u1 iv 154 (pz_up (iv 154) 0 3)) 157 (q_dd (iv 155) (iv 161) (iv 157))) := pz_R_mem (s_X11_fails 3) (by rw [pz_u1_in (r := 154) (q := 157) (by decide)]; rw [pz_u1_top (r := 154)]; rfl)
                      refine w_call hc10 rfl (pz_cokI is_154 rfl) ?_
                      refine w_goto ?_
                      refine pz_G_of pz_b229_74 ?_
                      refine w_ret rfl ?_
                      first | exact lf_i (by first | rfl | omega) (by rfl) | (exfalso; omega)))
            · first
              | (exfalso; first | omega | contradiction)
              | (refine w_loc rfl ?_
                 refine w_pure rfl ?_
                 have hc11 : pz_R (pz_Sh L) 191 [.inr (.inl 154), .inl 2] (pz_u1 (pz_u1 iv 154 (iv 154)) 157 (q_dd (iv 155) (iv 161) (iv 157))) (.inl (some (.inl 0))) (pz_u1 (pz_u1 iv 154 (pz_up (iv 154) 0 2)) 157 (q_dd (iv 155) (iv 161) (iv 157))) := pz_R_mem (s_X11_fails 2) (by rw [pz_u1_in (r := 154) (q := 157) (by decide)]; rw [pz_u1_top (r := 154)]; rfl)
                 refine w_call hc11 rfl (pz_cokI is_154 rfl) ?_
                 refine w_ret rfl ?_
                 first | exact lf_i (by first | rfl | omega) (by rfl) | (exfalso; omega)))
       · first
         | (exfalso; first | omega | contradiction)
         | (refine w_nil ?_
            refine pz_G_of pz_b229_16 ?_
            refine w_loc rfl ?_
            refine w_pure rfl ?_
            have hc12 : pz_R (pz_Sh L) 191 [.inr (.inl 154), .inl 1] (pz_u1 (pz_u1 iv 154 (iv 154)) 157 (iv 157)) (.inl (some (.inl 0))) (pz_u1 (pz_u1 iv 154 (pz_up (iv 154) 0 1)) 157 (iv 157)) := pz_R_mem (s_X11_fails 1) (by rw [pz_u1_in (r := 154) (q := 157) (by decide)]; rw [pz_u1_top (r := 154)]; rfl)
            refine w_call hc12 rfl (pz_cokI is_154 rfl) ?_
            refine w_ret rfl ?_
            first | exact lf_i (by first | rfl | omega) (by rfl) | (exfalso; omega)))

theorem s_X11_distances_3 {L : Nat} {iv : Nat → Nat → Int} (f : Int) (t : Int) (hk : q_KR (iv 155)) (hcase0 : 0 ≤ f ∧ f ≤ iv 155 0 - 1 ∧ 0 ≤ t ∧ t ≤ iv 155 0 - 1) (hcase1 : q_con (iv 155) (iv 161)) (hcase2 : q_dd (iv 155) (iv 161) (iv 157) (10 * f + t).toNat = 1000000) : pz_R (pz_Sh L) 229 [.inr (.inl 154), .inl f, .inl t] iv (.inl (some (.inl 0))) (pz_u1 (pz_u1 iv 154 (pz_up (iv 154) 0 3)) 157 (q_dd (iv 155) (iv 161) (iv 157))) := by
  intro dv cc ss
  have hk0 := hk.r0
  refine pz_G_mem (iv2 := pz_u1 (pz_u1 iv 154 (iv 154)) 157 (iv 157)) (by exact ((pz_u1_self iv 154).symm).trans (pz_u1_self (pz_u1 iv 154 (iv 154)) 157).symm) ?_
  show pz_G 229 0 [some (.inr (.inl 154)), some (.inl f), some (.inl t)] [] (pz_Sh L, pz_u1 (pz_u1 iv 154 (iv 154)) 157 (iv 157), dv, cc, ss) (pz_P (pz_Sh L) (.inl (some (.inl 0))) (pz_u1 (pz_u1 iv 154 (pz_up (iv 154) 0 3)) 157 (q_dd (iv 155) (iv 161) (iv 157))) dv cc ss)
  refine pz_G_of pz_b229_0 ?_
  refine w_loc rfl ?_
  refine w_loc rfl ?_
  have hc1 : pz_R (pz_Sh L) 194 [.inr (.inl 154), .inl f] (pz_u1 (pz_u1 iv 154 (iv 154)) 157 (iv 157)) (.inl (some (.inl (pz_bi (0 ≤ f ∧ f ≤ (iv 155) 0 - 1))))) (pz_u1 (pz_u1 iv 154 (iv 154)) 157 (iv 157)) := s_X11_isEvent f (by show q_KR (iv 155); exact hk)
  refine w_call hc1 rfl (pz_cokI is_154 rfl) ?_
  refine w_beq (fun h2 => ?_) (fun h2 => ?_)
  · first
    | (exfalso; first | omega | contradiction)
    | (refine pz_G_of pz_b229_16 ?_
       refine w_loc rfl ?_
       refine w_pure rfl ?_
       have hc3 : pz_R (pz_Sh L) 191 [.inr (.inl 154), .inl 1] (pz_u1 (pz_u1 iv 154 (iv 154)) 157 (iv 157)) (.inl (some (.inl 0))) (pz_u1 (pz_u1 iv 154 (pz_up (iv 154) 0 1)) 157 (iv 157)) := pz_R_mem (s_X11_fails 1) (by rw [pz_u1_in (r := 154) (q := 157) (by decide)]; rw [pz_u1_top (r := 154)]; rfl)
       refine w_call hc3 rfl (pz_cokI is_154 rfl) ?_
       refine w_ret rfl ?_
       first | exact lf_i (by first | rfl | omega) (by rfl) | (exfalso; omega))
  · first
    | (exfalso; first | omega | contradiction)
    | (refine w_loc rfl ?_
       refine w_loc rfl ?_
       have hc4 : pz_R (pz_Sh L) 194 [.inr (.inl 154), .inl t] (pz_u1 (pz_u1 iv 154 (iv 154)) 157 (iv 157)) (.inl (some (.inl (pz_bi (0 ≤ t ∧ t ≤ (iv 155) 0 - 1))))) (pz_u1 (pz_u1 iv 154 (iv 154)) 157 (iv 157)) := s_X11_isEvent t (by show q_KR (iv 155); exact hk)
       refine w_call hc4 rfl (pz_cokI is_154 rfl) ?_
       refine w_bne (fun h5 => ?_) (fun h5 => ?_)
       · first
         | (exfalso; first | omega | contradiction)
         | (refine pz_G_of pz_b229_22 ?_
            refine w_loc rfl ?_
            have hc6 : pz_R (pz_Sh L) 227 [.inr (.inl 154)] (pz_u1 (pz_u1 iv 154 (iv 154)) 157 (iv 157)) (.inl (some (.inl (pz_bi (q_con (iv 155) (iv 161)))))) (pz_u1 (pz_u1 iv 154 (iv 154)) 157 (q_dd (iv 155) (iv 161) (iv 157))) := pz_R_mem (s_X11_isConsistentNow (by show q_KR (iv 155); exact hk)) (by rw [pz_u1_top (r := 157)]; rfl)
            refine w_call hc6 rfl (pz_cokI is_154 rfl) ?_
            refine w_bne (fun h7 => ?_) (fun h7 => ?_)
            · first
              | (exfalso; first | omega | contradiction)
              | (refine pz_G_of pz_b229_35 ?_
                 refine w_loc rfl ?_
                 refine w_getR (q := 157) is_154 rf_154_4 ?_
                 refine w_pure rfl ?_
                 refine w_loc rfl ?_
                 refine w_imul (by omega) ?_
                 refine w_loc rfl ?_
                 refine w_iadd (by omega) ?_
                 refine w_iald (v := (q_dd (iv 155) (iv 161) (iv 157)) ((10 * f) + t).toNat) is_157 ln_157 ⟨by omega, by omega⟩ rfl ?_
                 refine w_ldcv (v := 1000000) rfl ?_
                 refine w_ine (fun h8 => ?_) (fun h8 => ?_)
                 · first
                   | (exfalso; first | omega | contradiction)
                   | (refine pz_G_of pz_b229_59 ?_
                      refine w_loc rfl ?_
                      refine w_loc rfl ?_
                      refine w_getR (q := 157) is_154 rf_154_4 ?_
                      refine w_pure rfl ?_
                      refine w_loc rfl ?_
                      refine w_imul (by omega) ?_
                      refine w_loc rfl ?_
                      refine w_iadd (by omega) ?_
                      refine w_iald (v := (q_dd (iv 155) (iv 161) (iv 157)) ((10 * f) + t).toNat) is_157 ln_157 ⟨by omega, by omega⟩ rfl ?_
                      have hc9 : pz_R (pz_Sh L) 192 [.inr (.inl 154), .inl ((q_dd (iv 155) (iv 161) (iv 157)) ((10 * f) + t).toNat)] (pz_u1 (pz_u1 iv 154 (iv 154)) 157 (q_dd (iv 155) (iv 161) (iv 157))) (.inl (some (.inl ((q_dd (iv 155) (iv 161) (iv 157)) ((10 * f) + t).toNat)))) (pz_u1 (pz_u1 iv 154 (pz_up (iv 154) 0 0)) 157 (q_dd (iv 155) (iv 161) (iv 157))) := pz_R_mem (s_X11_tells ((q_dd (iv 155) (iv 161) (iv 157)) ((10 * f) + t).toNat)) (by rw [pz_u1_in (r := 154) (q := 157) (by decide)]; rw [pz_u1_top (r := 154)]; rfl)
                      refine w_call hc9 rfl (pz_cokI is_154 rfl) ?_
                      refine w_nil ?_
                      refine pz_G_of pz_b229_74 ?_
                      refine w_ret rfl ?_
                      first | exact lf_i (by first | rfl | omega) (by rfl) | (exfalso; omega))
                 · first
                   | (exfalso; first | omega | contradiction)
                   | (refine w_loc rfl ?_
                      refine w_pure rfl ?_
                      have hc10 : pz_R (pz_Sh L) 191 [.inr (.inl 154), .inl 3] (pz_u1 (pz_u1 iv 154 (iv 154)) 157 (q_dd (iv 155) (iv 161) (iv 157))) (.inl (some (.inl 0))) (pz_u1 (pz_u1 iv 154 (pz_up (iv 154) 0 3)) 157 (q_dd (iv 155) (iv 161) (iv 157))) := pz_R_mem (s_X11_fails 3) (by rw [pz_u1_in (r := 154) (q := 157) (by decide)]; rw [pz_u1_top (r := 154)]; rfl)
                      refine w_call hc10 rfl (pz_cokI is_154 rfl) ?_
                      refine w_goto ?_
                      refine pz_G_of pz_b229_74 ?_
                      refine w_ret rfl ?_
                      first | exact lf_i (by first | rfl | omega) (by rfl) | (exfalso; omega)))
            · first
              | (exfalso; first | omega | contradiction)
              | (refine w_loc rfl ?_
                 refine w_pure rfl ?_
                 have hc11 : pz_R (pz_Sh L) 191 [.inr (.inl 154), .inl 2] (pz_u1 (pz_u1 iv 154 (iv 154)) 157 (q_dd (iv 155) (iv 161) (iv 157))) (.inl (some (.inl 0))) (pz_u1 (pz_u1 iv 154 (pz_up (iv 154) 0 2)) 157 (q_dd (iv 155) (iv 161) (iv 157))) := pz_R_mem (s_X11_fails 2) (by rw [pz_u1_in (r := 154) (q := 157) (by decide)]; rw [pz_u1_top (r := 154)]; rfl)
                 refine w_call hc11 rfl (pz_cokI is_154 rfl) ?_
                 refine w_ret rfl ?_
                 first | exact lf_i (by first | rfl | omega) (by rfl) | (exfalso; omega)))
       · first
         | (exfalso; first | omega | contradiction)
         | (refine w_nil ?_
            refine pz_G_of pz_b229_16 ?_
            refine w_loc rfl ?_
            refine w_pure rfl ?_
            have hc12 : pz_R (pz_Sh L) 191 [.inr (.inl 154), .inl 1] (pz_u1 (pz_u1 iv 154 (iv 154)) 157 (iv 157)) (.inl (some (.inl 0))) (pz_u1 (pz_u1 iv 154 (pz_up (iv 154) 0 1)) 157 (iv 157)) := pz_R_mem (s_X11_fails 1) (by rw [pz_u1_in (r := 154) (q := 157) (by decide)]; rw [pz_u1_top (r := 154)]; rfl)
            refine w_call hc12 rfl (pz_cokI is_154 rfl) ?_
            refine w_ret rfl ?_
            first | exact lf_i (by first | rfl | omega) (by rfl) | (exfalso; omega)))

theorem s_X11_distances_0 {L : Nat} {iv : Nat → Nat → Int} (f : Int) (t : Int) (hk : q_KR (iv 155)) (hcase0 : 0 ≤ f ∧ f ≤ iv 155 0 - 1 ∧ 0 ≤ t ∧ t ≤ iv 155 0 - 1) (hcase1 : q_con (iv 155) (iv 161)) (hcase2 : q_dd (iv 155) (iv 161) (iv 157) (10 * f + t).toNat ≠ 1000000) : pz_R (pz_Sh L) 229 [.inr (.inl 154), .inl f, .inl t] iv (.inl (some (.inl (q_dd (iv 155) (iv 161) (iv 157) (10 * f + t).toNat)))) (pz_u1 (pz_u1 iv 154 (pz_up (iv 154) 0 0)) 157 (q_dd (iv 155) (iv 161) (iv 157))) := by
  intro dv cc ss
  have hk0 := hk.r0
  refine pz_G_mem (iv2 := pz_u1 (pz_u1 iv 154 (iv 154)) 157 (iv 157)) (by exact ((pz_u1_self iv 154).symm).trans (pz_u1_self (pz_u1 iv 154 (iv 154)) 157).symm) ?_
  show pz_G 229 0 [some (.inr (.inl 154)), some (.inl f), some (.inl t)] [] (pz_Sh L, pz_u1 (pz_u1 iv 154 (iv 154)) 157 (iv 157), dv, cc, ss) (pz_P (pz_Sh L) (.inl (some (.inl (q_dd (iv 155) (iv 161) (iv 157) (10 * f + t).toNat)))) (pz_u1 (pz_u1 iv 154 (pz_up (iv 154) 0 0)) 157 (q_dd (iv 155) (iv 161) (iv 157))) dv cc ss)
  refine pz_G_of pz_b229_0 ?_
  refine w_loc rfl ?_
  refine w_loc rfl ?_
  have hc1 : pz_R (pz_Sh L) 194 [.inr (.inl 154), .inl f] (pz_u1 (pz_u1 iv 154 (iv 154)) 157 (iv 157)) (.inl (some (.inl (pz_bi (0 ≤ f ∧ f ≤ (iv 155) 0 - 1))))) (pz_u1 (pz_u1 iv 154 (iv 154)) 157 (iv 157)) := s_X11_isEvent f (by show q_KR (iv 155); exact hk)
  refine w_call hc1 rfl (pz_cokI is_154 rfl) ?_
  refine w_beq (fun h2 => ?_) (fun h2 => ?_)
  · first
    | (exfalso; first | omega | contradiction)
    | (refine pz_G_of pz_b229_16 ?_
       refine w_loc rfl ?_
       refine w_pure rfl ?_
       have hc3 : pz_R (pz_Sh L) 191 [.inr (.inl 154), .inl 1] (pz_u1 (pz_u1 iv 154 (iv 154)) 157 (iv 157)) (.inl (some (.inl 0))) (pz_u1 (pz_u1 iv 154 (pz_up (iv 154) 0 1)) 157 (iv 157)) := pz_R_mem (s_X11_fails 1) (by rw [pz_u1_in (r := 154) (q := 157) (by decide)]; rw [pz_u1_top (r := 154)]; rfl)
       refine w_call hc3 rfl (pz_cokI is_154 rfl) ?_
       refine w_ret rfl ?_
       first | exact lf_i (by first | rfl | omega) (by rfl) | (exfalso; omega))
  · first
    | (exfalso; first | omega | contradiction)
    | (refine w_loc rfl ?_
       refine w_loc rfl ?_
       have hc4 : pz_R (pz_Sh L) 194 [.inr (.inl 154), .inl t] (pz_u1 (pz_u1 iv 154 (iv 154)) 157 (iv 157)) (.inl (some (.inl (pz_bi (0 ≤ t ∧ t ≤ (iv 155) 0 - 1))))) (pz_u1 (pz_u1 iv 154 (iv 154)) 157 (iv 157)) := s_X11_isEvent t (by show q_KR (iv 155); exact hk)
       refine w_call hc4 rfl (pz_cokI is_154 rfl) ?_
       refine w_bne (fun h5 => ?_) (fun h5 => ?_)
       · first
         | (exfalso; first | omega | contradiction)
         | (refine pz_G_of pz_b229_22 ?_
            refine w_loc rfl ?_
            have hc6 : pz_R (pz_Sh L) 227 [.inr (.inl 154)] (pz_u1 (pz_u1 iv 154 (iv 154)) 157 (iv 157)) (.inl (some (.inl (pz_bi (q_con (iv 155) (iv 161)))))) (pz_u1 (pz_u1 iv 154 (iv 154)) 157 (q_dd (iv 155) (iv 161) (iv 157))) := pz_R_mem (s_X11_isConsistentNow (by show q_KR (iv 155); exact hk)) (by rw [pz_u1_top (r := 157)]; rfl)
            refine w_call hc6 rfl (pz_cokI is_154 rfl) ?_
            refine w_bne (fun h7 => ?_) (fun h7 => ?_)
            · first
              | (exfalso; first | omega | contradiction)
              | (refine pz_G_of pz_b229_35 ?_
                 refine w_loc rfl ?_
                 refine w_getR (q := 157) is_154 rf_154_4 ?_
                 refine w_pure rfl ?_
                 refine w_loc rfl ?_
                 refine w_imul (by omega) ?_
                 refine w_loc rfl ?_
                 refine w_iadd (by omega) ?_
                 refine w_iald (v := (q_dd (iv 155) (iv 161) (iv 157)) ((10 * f) + t).toNat) is_157 ln_157 ⟨by omega, by omega⟩ rfl ?_
                 refine w_ldcv (v := 1000000) rfl ?_
                 refine w_ine (fun h8 => ?_) (fun h8 => ?_)
                 · first
                   | (exfalso; first | omega | contradiction)
                   | (refine pz_G_of pz_b229_59 ?_
                      refine w_loc rfl ?_
                      refine w_loc rfl ?_
                      refine w_getR (q := 157) is_154 rf_154_4 ?_
                      refine w_pure rfl ?_
                      refine w_loc rfl ?_
                      refine w_imul (by omega) ?_
                      refine w_loc rfl ?_
                      refine w_iadd (by omega) ?_
                      refine w_iald (v := (q_dd (iv 155) (iv 161) (iv 157)) ((10 * f) + t).toNat) is_157 ln_157 ⟨by omega, by omega⟩ rfl ?_
                      have hc9 : pz_R (pz_Sh L) 192 [.inr (.inl 154), .inl ((q_dd (iv 155) (iv 161) (iv 157)) ((10 * f) + t).toNat)] (pz_u1 (pz_u1 iv 154 (iv 154)) 157 (q_dd (iv 155) (iv 161) (iv 157))) (.inl (some (.inl ((q_dd (iv 155) (iv 161) (iv 157)) ((10 * f) + t).toNat)))) (pz_u1 (pz_u1 iv 154 (pz_up (iv 154) 0 0)) 157 (q_dd (iv 155) (iv 161) (iv 157))) := pz_R_mem (s_X11_tells ((q_dd (iv 155) (iv 161) (iv 157)) ((10 * f) + t).toNat)) (by rw [pz_u1_in (r := 154) (q := 157) (by decide)]; rw [pz_u1_top (r := 154)]; rfl)
                      refine w_call hc9 rfl (pz_cokI is_154 rfl) ?_
                      refine w_nil ?_
                      refine pz_G_of pz_b229_74 ?_
                      refine w_ret rfl ?_
                      first | exact lf_i (by first | rfl | omega) (by rfl) | (exfalso; omega))
                 · first
                   | (exfalso; first | omega | contradiction)
                   | (refine w_loc rfl ?_
                      refine w_pure rfl ?_
                      have hc10 : pz_R (pz_Sh L) 191 [.inr (.inl 154), .inl 3] (pz_u1 (pz_u1 iv 154 (iv 154)) 157 (q_dd (iv 155) (iv 161) (iv 157))) (.inl (some (.inl 0))) (pz_u1 (pz_u1 iv 154 (pz_up (iv 154) 0 3)) 157 (q_dd (iv 155) (iv 161) (iv 157))) := pz_R_mem (s_X11_fails 3) (by rw [pz_u1_in (r := 154) (q := 157) (by decide)]; rw [pz_u1_top (r := 154)]; rfl)
                      refine w_call hc10 rfl (pz_cokI is_154 rfl) ?_
                      refine w_goto ?_
                      refine pz_G_of pz_b229_74 ?_
                      refine w_ret rfl ?_
                      first | exact lf_i (by first | rfl | omega) (by rfl) | (exfalso; omega)))
            · first
              | (exfalso; first | omega | contradiction)
              | (refine w_loc rfl ?_
                 refine w_pure rfl ?_
                 have hc11 : pz_R (pz_Sh L) 191 [.inr (.inl 154), .inl 2] (pz_u1 (pz_u1 iv 154 (iv 154)) 157 (q_dd (iv 155) (iv 161) (iv 157))) (.inl (some (.inl 0))) (pz_u1 (pz_u1 iv 154 (pz_up (iv 154) 0 2)) 157 (q_dd (iv 155) (iv 161) (iv 157))) := pz_R_mem (s_X11_fails 2) (by rw [pz_u1_in (r := 154) (q := 157) (by decide)]; rw [pz_u1_top (r := 154)]; rfl)
                 refine w_call hc11 rfl (pz_cokI is_154 rfl) ?_
                 refine w_ret rfl ?_
                 first | exact lf_i (by first | rfl | omega) (by rfl) | (exfalso; omega)))
       · first
         | (exfalso; first | omega | contradiction)
         | (refine w_nil ?_
            refine pz_G_of pz_b229_16 ?_
            refine w_loc rfl ?_
            refine w_pure rfl ?_
            have hc12 : pz_R (pz_Sh L) 191 [.inr (.inl 154), .inl 1] (pz_u1 (pz_u1 iv 154 (iv 154)) 157 (iv 157)) (.inl (some (.inl 0))) (pz_u1 (pz_u1 iv 154 (pz_up (iv 154) 0 1)) 157 (iv 157)) := pz_R_mem (s_X11_fails 1) (by rw [pz_u1_in (r := 154) (q := 157) (by decide)]; rw [pz_u1_top (r := 154)]; rfl)
            refine w_call hc12 rfl (pz_cokI is_154 rfl) ?_
            refine w_ret rfl ?_
            first | exact lf_i (by first | rfl | omega) (by rfl) | (exfalso; omega)))

theorem s_X11_distance_1 {L : Nat} {iv : Nat → Nat → Int} (f : Int) (t : Int) (hk : q_KR (iv 155)) (hcase0 : ¬ (0 ≤ f ∧ f ≤ iv 155 0 - 1 ∧ 0 ≤ t ∧ t ≤ iv 155 0 - 1)) : pz_R (pz_Sh L) 230 [.inr (.inl 154), .inl f, .inl t] iv (.inl (some (.inl 0))) (pz_u1 (pz_u1 iv 154 (pz_up (iv 154) 0 1)) 157 (iv 157)) := by
  intro dv cc ss
  have hk0 := hk.r0
  refine pz_G_mem (iv2 := pz_u1 (pz_u1 iv 154 (iv 154)) 157 (iv 157)) (by exact ((pz_u1_self iv 154).symm).trans (pz_u1_self (pz_u1 iv 154 (iv 154)) 157).symm) ?_
  show pz_G 230 0 [some (.inr (.inl 154)), some (.inl f), some (.inl t)] [] (pz_Sh L, pz_u1 (pz_u1 iv 154 (iv 154)) 157 (iv 157), dv, cc, ss) (pz_P (pz_Sh L) (.inl (some (.inl 0))) (pz_u1 (pz_u1 iv 154 (pz_up (iv 154) 0 1)) 157 (iv 157)) dv cc ss)
  refine pz_G_of pz_b230_0 ?_
  refine w_loc rfl ?_
  refine w_loc rfl ?_
  refine w_loc rfl ?_
  have hc1 : pz_R (pz_Sh L) 229 [.inr (.inl 154), .inl f, .inl t] (pz_u1 (pz_u1 iv 154 (iv 154)) 157 (iv 157)) (.inl (some (.inl 0))) (pz_u1 (pz_u1 iv 154 (pz_up (iv 154) 0 1)) 157 (iv 157)) := pz_R_mem (s_X11_distances_1 f t (by show q_KR (iv 155); exact hk) (by show ¬ (0 ≤ f ∧ f ≤ iv 155 0 - 1 ∧ 0 ≤ t ∧ t ≤ iv 155 0 - 1); first | assumption | omega)) (by rw [pz_u1_in (r := 154) (q := 157) (by decide)]; rw [pz_u1_top (r := 154)]; rw [pz_u1_top (r := 157)]; rfl)
  refine w_call hc1 rfl (pz_cokI is_154 rfl) ?_
  refine w_ret rfl ?_
  first | exact lf_i (by first | rfl | omega) (by rfl) | (exfalso; omega)

theorem s_X11_distance_2 {L : Nat} {iv : Nat → Nat → Int} (f : Int) (t : Int) (hk : q_KR (iv 155)) (hcase0 : 0 ≤ f ∧ f ≤ iv 155 0 - 1 ∧ 0 ≤ t ∧ t ≤ iv 155 0 - 1) (hcase1 : ¬ q_con (iv 155) (iv 161)) : pz_R (pz_Sh L) 230 [.inr (.inl 154), .inl f, .inl t] iv (.inl (some (.inl 0))) (pz_u1 (pz_u1 iv 154 (pz_up (iv 154) 0 2)) 157 (q_dd (iv 155) (iv 161) (iv 157))) := by
  intro dv cc ss
  have hk0 := hk.r0
  refine pz_G_mem (iv2 := pz_u1 (pz_u1 iv 154 (iv 154)) 157 (iv 157)) (by exact ((pz_u1_self iv 154).symm).trans (pz_u1_self (pz_u1 iv 154 (iv 154)) 157).symm) ?_
  show pz_G 230 0 [some (.inr (.inl 154)), some (.inl f), some (.inl t)] [] (pz_Sh L, pz_u1 (pz_u1 iv 154 (iv 154)) 157 (iv 157), dv, cc, ss) (pz_P (pz_Sh L) (.inl (some (.inl 0))) (pz_u1 (pz_u1 iv 154 (pz_up (iv 154) 0 2)) 157 (q_dd (iv 155) (iv 161) (iv 157))) dv cc ss)
  refine pz_G_of pz_b230_0 ?_
  refine w_loc rfl ?_
  refine w_loc rfl ?_
  refine w_loc rfl ?_
  have hc1 : pz_R (pz_Sh L) 229 [.inr (.inl 154), .inl f, .inl t] (pz_u1 (pz_u1 iv 154 (iv 154)) 157 (iv 157)) (.inl (some (.inl 0))) (pz_u1 (pz_u1 iv 154 (pz_up (iv 154) 0 2)) 157 (q_dd (iv 155) (iv 161) (iv 157))) := pz_R_mem (s_X11_distances_2 f t (by show q_KR (iv 155); exact hk) (by show 0 ≤ f ∧ f ≤ iv 155 0 - 1 ∧ 0 ≤ t ∧ t ≤ iv 155 0 - 1; first | assumption | omega) (by show ¬ q_con (iv 155) (iv 161); first | assumption | omega)) (by rw [pz_u1_in (r := 154) (q := 157) (by decide)]; rw [pz_u1_top (r := 154)]; rw [pz_u1_top (r := 157)]; rfl)
  refine w_call hc1 rfl (pz_cokI is_154 rfl) ?_
  refine w_ret rfl ?_
  first | exact lf_i (by first | rfl | omega) (by rfl) | (exfalso; omega)

theorem s_X11_distance_3 {L : Nat} {iv : Nat → Nat → Int} (f : Int) (t : Int) (hk : q_KR (iv 155)) (hcase0 : 0 ≤ f ∧ f ≤ iv 155 0 - 1 ∧ 0 ≤ t ∧ t ≤ iv 155 0 - 1) (hcase1 : q_con (iv 155) (iv 161)) (hcase2 : q_dd (iv 155) (iv 161) (iv 157) (10 * f + t).toNat = 1000000) : pz_R (pz_Sh L) 230 [.inr (.inl 154), .inl f, .inl t] iv (.inl (some (.inl 0))) (pz_u1 (pz_u1 iv 154 (pz_up (iv 154) 0 3)) 157 (q_dd (iv 155) (iv 161) (iv 157))) := by
  intro dv cc ss
  have hk0 := hk.r0
  refine pz_G_mem (iv2 := pz_u1 (pz_u1 iv 154 (iv 154)) 157 (iv 157)) (by exact ((pz_u1_self iv 154).symm).trans (pz_u1_self (pz_u1 iv 154 (iv 154)) 157).symm) ?_
  show pz_G 230 0 [some (.inr (.inl 154)), some (.inl f), some (.inl t)] [] (pz_Sh L, pz_u1 (pz_u1 iv 154 (iv 154)) 157 (iv 157), dv, cc, ss) (pz_P (pz_Sh L) (.inl (some (.inl 0))) (pz_u1 (pz_u1 iv 154 (pz_up (iv 154) 0 3)) 157 (q_dd (iv 155) (iv 161) (iv 157))) dv cc ss)
  refine pz_G_of pz_b230_0 ?_
  refine w_loc rfl ?_
  refine w_loc rfl ?_
  refine w_loc rfl ?_
  have hc1 : pz_R (pz_Sh L) 229 [.inr (.inl 154), .inl f, .inl t] (pz_u1 (pz_u1 iv 154 (iv 154)) 157 (iv 157)) (.inl (some (.inl 0))) (pz_u1 (pz_u1 iv 154 (pz_up (iv 154) 0 3)) 157 (q_dd (iv 155) (iv 161) (iv 157))) := pz_R_mem (s_X11_distances_3 f t (by show q_KR (iv 155); exact hk) (by show 0 ≤ f ∧ f ≤ iv 155 0 - 1 ∧ 0 ≤ t ∧ t ≤ iv 155 0 - 1; first | assumption | omega) (by show q_con (iv 155) (iv 161); first | assumption | omega) (by show q_dd (iv 155) (iv 161) (iv 157) (10 * f + t).toNat = 1000000; first | assumption | omega)) (by rw [pz_u1_in (r := 154) (q := 157) (by decide)]; rw [pz_u1_top (r := 154)]; rw [pz_u1_top (r := 157)]; rfl)
  refine w_call hc1 rfl (pz_cokI is_154 rfl) ?_
  refine w_ret rfl ?_
  first | exact lf_i (by first | rfl | omega) (by rfl) | (exfalso; omega)

theorem s_X11_distance_0 {L : Nat} {iv : Nat → Nat → Int} (f : Int) (t : Int) (hk : q_KR (iv 155)) (hcase0 : 0 ≤ f ∧ f ≤ iv 155 0 - 1 ∧ 0 ≤ t ∧ t ≤ iv 155 0 - 1) (hcase1 : q_con (iv 155) (iv 161)) (hcase2 : q_dd (iv 155) (iv 161) (iv 157) (10 * f + t).toNat ≠ 1000000) : pz_R (pz_Sh L) 230 [.inr (.inl 154), .inl f, .inl t] iv (.inl (some (.inl (q_dd (iv 155) (iv 161) (iv 157) (10 * f + t).toNat)))) (pz_u1 (pz_u1 iv 154 (pz_up (iv 154) 0 0)) 157 (q_dd (iv 155) (iv 161) (iv 157))) := by
  intro dv cc ss
  have hk0 := hk.r0
  refine pz_G_mem (iv2 := pz_u1 (pz_u1 iv 154 (iv 154)) 157 (iv 157)) (by exact ((pz_u1_self iv 154).symm).trans (pz_u1_self (pz_u1 iv 154 (iv 154)) 157).symm) ?_
  show pz_G 230 0 [some (.inr (.inl 154)), some (.inl f), some (.inl t)] [] (pz_Sh L, pz_u1 (pz_u1 iv 154 (iv 154)) 157 (iv 157), dv, cc, ss) (pz_P (pz_Sh L) (.inl (some (.inl (q_dd (iv 155) (iv 161) (iv 157) (10 * f + t).toNat)))) (pz_u1 (pz_u1 iv 154 (pz_up (iv 154) 0 0)) 157 (q_dd (iv 155) (iv 161) (iv 157))) dv cc ss)
  refine pz_G_of pz_b230_0 ?_
  refine w_loc rfl ?_
  refine w_loc rfl ?_
  refine w_loc rfl ?_
  have hc1 : pz_R (pz_Sh L) 229 [.inr (.inl 154), .inl f, .inl t] (pz_u1 (pz_u1 iv 154 (iv 154)) 157 (iv 157)) (.inl (some (.inl (q_dd (iv 155) (iv 161) (iv 157) (10 * f + t).toNat)))) (pz_u1 (pz_u1 iv 154 (pz_up (iv 154) 0 0)) 157 (q_dd (iv 155) (iv 161) (iv 157))) := pz_R_mem (s_X11_distances_0 f t (by show q_KR (iv 155); exact hk) (by show 0 ≤ f ∧ f ≤ iv 155 0 - 1 ∧ 0 ≤ t ∧ t ≤ iv 155 0 - 1; first | assumption | omega) (by show q_con (iv 155) (iv 161); first | assumption | omega) (by show q_dd (iv 155) (iv 161) (iv 157) (10 * f + t).toNat ≠ 1000000; first | assumption | omega)) (by rw [pz_u1_in (r := 154) (q := 157) (by decide)]; rw [pz_u1_top (r := 154)]; rw [pz_u1_top (r := 157)]; rfl)
  refine w_call hc1 rfl (pz_cokI is_154 rfl) ?_
  refine w_ret rfl ?_
  first | exact lf_i (by first | rfl | omega) (by rfl) | (exfalso; omega)

theorem s_X11_distanceByRounds_1 {L : Nat} {iv : Nat → Nat → Int} (f : Int) (t : Int) (hk : q_KR (iv 155)) (hcase0 : ¬ (0 ≤ f ∧ f ≤ iv 155 0 - 1 ∧ 0 ≤ t ∧ t ≤ iv 155 0 - 1)) : pz_R (pz_Sh L) 231 [.inr (.inl 154), .inl f, .inl t] iv (.inl (some (.inl 0))) (pz_u1 (pz_u1 iv 154 (pz_up (iv 154) 0 1)) 157 (iv 157)) := by
  intro dv cc ss
  have hk0 := hk.r0
  refine pz_G_mem (iv2 := pz_u1 (pz_u1 iv 154 (iv 154)) 157 (iv 157)) (by exact ((pz_u1_self iv 154).symm).trans (pz_u1_self (pz_u1 iv 154 (iv 154)) 157).symm) ?_
  show pz_G 231 0 [some (.inr (.inl 154)), some (.inl f), some (.inl t)] [] (pz_Sh L, pz_u1 (pz_u1 iv 154 (iv 154)) 157 (iv 157), dv, cc, ss) (pz_P (pz_Sh L) (.inl (some (.inl 0))) (pz_u1 (pz_u1 iv 154 (pz_up (iv 154) 0 1)) 157 (iv 157)) dv cc ss)
  refine pz_G_of pz_b231_0 ?_
  refine w_loc rfl ?_
  refine w_loc rfl ?_
  refine w_loc rfl ?_
  have hc1 : pz_R (pz_Sh L) 229 [.inr (.inl 154), .inl f, .inl t] (pz_u1 (pz_u1 iv 154 (iv 154)) 157 (iv 157)) (.inl (some (.inl 0))) (pz_u1 (pz_u1 iv 154 (pz_up (iv 154) 0 1)) 157 (iv 157)) := pz_R_mem (s_X11_distances_1 f t (by show q_KR (iv 155); exact hk) (by show ¬ (0 ≤ f ∧ f ≤ iv 155 0 - 1 ∧ 0 ≤ t ∧ t ≤ iv 155 0 - 1); first | assumption | omega)) (by rw [pz_u1_in (r := 154) (q := 157) (by decide)]; rw [pz_u1_top (r := 154)]; rw [pz_u1_top (r := 157)]; rfl)
  refine w_call hc1 rfl (pz_cokI is_154 rfl) ?_
  refine w_ret rfl ?_
  first | exact lf_i (by first | rfl | omega) (by rfl) | (exfalso; omega)

theorem s_X11_distanceByRounds_2 {L : Nat} {iv : Nat → Nat → Int} (f : Int) (t : Int) (hk : q_KR (iv 155)) (hcase0 : 0 ≤ f ∧ f ≤ iv 155 0 - 1 ∧ 0 ≤ t ∧ t ≤ iv 155 0 - 1) (hcase1 : ¬ q_con (iv 155) (iv 161)) : pz_R (pz_Sh L) 231 [.inr (.inl 154), .inl f, .inl t] iv (.inl (some (.inl 0))) (pz_u1 (pz_u1 iv 154 (pz_up (iv 154) 0 2)) 157 (q_dd (iv 155) (iv 161) (iv 157))) := by
  intro dv cc ss
  have hk0 := hk.r0
  refine pz_G_mem (iv2 := pz_u1 (pz_u1 iv 154 (iv 154)) 157 (iv 157)) (by exact ((pz_u1_self iv 154).symm).trans (pz_u1_self (pz_u1 iv 154 (iv 154)) 157).symm) ?_
  show pz_G 231 0 [some (.inr (.inl 154)), some (.inl f), some (.inl t)] [] (pz_Sh L, pz_u1 (pz_u1 iv 154 (iv 154)) 157 (iv 157), dv, cc, ss) (pz_P (pz_Sh L) (.inl (some (.inl 0))) (pz_u1 (pz_u1 iv 154 (pz_up (iv 154) 0 2)) 157 (q_dd (iv 155) (iv 161) (iv 157))) dv cc ss)
  refine pz_G_of pz_b231_0 ?_
  refine w_loc rfl ?_
  refine w_loc rfl ?_
  refine w_loc rfl ?_
  have hc1 : pz_R (pz_Sh L) 229 [.inr (.inl 154), .inl f, .inl t] (pz_u1 (pz_u1 iv 154 (iv 154)) 157 (iv 157)) (.inl (some (.inl 0))) (pz_u1 (pz_u1 iv 154 (pz_up (iv 154) 0 2)) 157 (q_dd (iv 155) (iv 161) (iv 157))) := pz_R_mem (s_X11_distances_2 f t (by show q_KR (iv 155); exact hk) (by show 0 ≤ f ∧ f ≤ iv 155 0 - 1 ∧ 0 ≤ t ∧ t ≤ iv 155 0 - 1; first | assumption | omega) (by show ¬ q_con (iv 155) (iv 161); first | assumption | omega)) (by rw [pz_u1_in (r := 154) (q := 157) (by decide)]; rw [pz_u1_top (r := 154)]; rw [pz_u1_top (r := 157)]; rfl)
  refine w_call hc1 rfl (pz_cokI is_154 rfl) ?_
  refine w_ret rfl ?_
  first | exact lf_i (by first | rfl | omega) (by rfl) | (exfalso; omega)

theorem s_X11_distanceByRounds_3 {L : Nat} {iv : Nat → Nat → Int} (f : Int) (t : Int) (hk : q_KR (iv 155)) (hcase0 : 0 ≤ f ∧ f ≤ iv 155 0 - 1 ∧ 0 ≤ t ∧ t ≤ iv 155 0 - 1) (hcase1 : q_con (iv 155) (iv 161)) (hcase2 : q_dd (iv 155) (iv 161) (iv 157) (10 * f + t).toNat = 1000000) : pz_R (pz_Sh L) 231 [.inr (.inl 154), .inl f, .inl t] iv (.inl (some (.inl 0))) (pz_u1 (pz_u1 iv 154 (pz_up (iv 154) 0 3)) 157 (q_dd (iv 155) (iv 161) (iv 157))) := by
  intro dv cc ss
  have hk0 := hk.r0
  refine pz_G_mem (iv2 := pz_u1 (pz_u1 iv 154 (iv 154)) 157 (iv 157)) (by exact ((pz_u1_self iv 154).symm).trans (pz_u1_self (pz_u1 iv 154 (iv 154)) 157).symm) ?_
  show pz_G 231 0 [some (.inr (.inl 154)), some (.inl f), some (.inl t)] [] (pz_Sh L, pz_u1 (pz_u1 iv 154 (iv 154)) 157 (iv 157), dv, cc, ss) (pz_P (pz_Sh L) (.inl (some (.inl 0))) (pz_u1 (pz_u1 iv 154 (pz_up (iv 154) 0 3)) 157 (q_dd (iv 155) (iv 161) (iv 157))) dv cc ss)
  refine pz_G_of pz_b231_0 ?_
  refine w_loc rfl ?_
  refine w_loc rfl ?_
  refine w_loc rfl ?_
  have hc1 : pz_R (pz_Sh L) 229 [.inr (.inl 154), .inl f, .inl t] (pz_u1 (pz_u1 iv 154 (iv 154)) 157 (iv 157)) (.inl (some (.inl 0))) (pz_u1 (pz_u1 iv 154 (pz_up (iv 154) 0 3)) 157 (q_dd (iv 155) (iv 161) (iv 157))) := pz_R_mem (s_X11_distances_3 f t (by show q_KR (iv 155); exact hk) (by show 0 ≤ f ∧ f ≤ iv 155 0 - 1 ∧ 0 ≤ t ∧ t ≤ iv 155 0 - 1; first | assumption | omega) (by show q_con (iv 155) (iv 161); first | assumption | omega) (by show q_dd (iv 155) (iv 161) (iv 157) (10 * f + t).toNat = 1000000; first | assumption | omega)) (by rw [pz_u1_in (r := 154) (q := 157) (by decide)]; rw [pz_u1_top (r := 154)]; rw [pz_u1_top (r := 157)]; rfl)
  refine w_call hc1 rfl (pz_cokI is_154 rfl) ?_
  refine w_ret rfl ?_
  first | exact lf_i (by first | rfl | omega) (by rfl) | (exfalso; omega)

theorem s_X11_distanceByRounds_0 {L : Nat} {iv : Nat → Nat → Int} (f : Int) (t : Int) (hk : q_KR (iv 155)) (hcase0 : 0 ≤ f ∧ f ≤ iv 155 0 - 1 ∧ 0 ≤ t ∧ t ≤ iv 155 0 - 1) (hcase1 : q_con (iv 155) (iv 161)) (hcase2 : q_dd (iv 155) (iv 161) (iv 157) (10 * f + t).toNat ≠ 1000000) : pz_R (pz_Sh L) 231 [.inr (.inl 154), .inl f, .inl t] iv (.inl (some (.inl (q_dd (iv 155) (iv 161) (iv 157) (10 * f + t).toNat)))) (pz_u1 (pz_u1 iv 154 (pz_up (iv 154) 0 0)) 157 (q_dd (iv 155) (iv 161) (iv 157))) := by
  intro dv cc ss
  have hk0 := hk.r0
  refine pz_G_mem (iv2 := pz_u1 (pz_u1 iv 154 (iv 154)) 157 (iv 157)) (by exact ((pz_u1_self iv 154).symm).trans (pz_u1_self (pz_u1 iv 154 (iv 154)) 157).symm) ?_
  show pz_G 231 0 [some (.inr (.inl 154)), some (.inl f), some (.inl t)] [] (pz_Sh L, pz_u1 (pz_u1 iv 154 (iv 154)) 157 (iv 157), dv, cc, ss) (pz_P (pz_Sh L) (.inl (some (.inl (q_dd (iv 155) (iv 161) (iv 157) (10 * f + t).toNat)))) (pz_u1 (pz_u1 iv 154 (pz_up (iv 154) 0 0)) 157 (q_dd (iv 155) (iv 161) (iv 157))) dv cc ss)
  refine pz_G_of pz_b231_0 ?_
  refine w_loc rfl ?_
  refine w_loc rfl ?_
  refine w_loc rfl ?_
  have hc1 : pz_R (pz_Sh L) 229 [.inr (.inl 154), .inl f, .inl t] (pz_u1 (pz_u1 iv 154 (iv 154)) 157 (iv 157)) (.inl (some (.inl (q_dd (iv 155) (iv 161) (iv 157) (10 * f + t).toNat)))) (pz_u1 (pz_u1 iv 154 (pz_up (iv 154) 0 0)) 157 (q_dd (iv 155) (iv 161) (iv 157))) := pz_R_mem (s_X11_distances_0 f t (by show q_KR (iv 155); exact hk) (by show 0 ≤ f ∧ f ≤ iv 155 0 - 1 ∧ 0 ≤ t ∧ t ≤ iv 155 0 - 1; first | assumption | omega) (by show q_con (iv 155) (iv 161); first | assumption | omega) (by show q_dd (iv 155) (iv 161) (iv 157) (10 * f + t).toNat ≠ 1000000; first | assumption | omega)) (by rw [pz_u1_in (r := 154) (q := 157) (by decide)]; rw [pz_u1_top (r := 154)]; rw [pz_u1_top (r := 157)]; rfl)
  refine w_call hc1 rfl (pz_cokI is_154 rfl) ?_
  refine w_ret rfl ?_
  first | exact lf_i (by first | rfl | omega) (by rfl) | (exfalso; omega)

theorem s_X11_bound_1 {L : Nat} {iv : Nat → Nat → Int} (f : Int) (t : Int) (w : Int) (l : Int) (hk : q_KR (iv 155)) (hcase0 : ¬ (0 ≤ f ∧ f ≤ iv 155 0 - 1 ∧ 0 ≤ t ∧ t ≤ iv 155 0 - 1)) : pz_R (pz_Sh L) 199 [.inr (.inl 154), .inl f, .inl t, .inl w, .inl l] iv (.inl (some (.inl 0))) (pz_u1 (pz_u1 iv 154 (pz_up (iv 154) 0 1)) 155 (iv 155)) := by
  intro dv cc ss
  have hk0 := hk.r0
  refine pz_G_mem (iv2 := pz_u1 (pz_u1 iv 154 (iv 154)) 155 (iv 155)) (by exact ((pz_u1_self iv 154).symm).trans (pz_u1_self (pz_u1 iv 154 (iv 154)) 155).symm) ?_
  show pz_G 199 0 [some (.inr (.inl 154)), some (.inl f), some (.inl t), some (.inl w), some (.inl l)] [] (pz_Sh L, pz_u1 (pz_u1 iv 154 (iv 154)) 155 (iv 155), dv, cc, ss) (pz_P (pz_Sh L) (.inl (some (.inl 0))) (pz_u1 (pz_u1 iv 154 (pz_up (iv 154) 0 1)) 155 (iv 155)) dv cc ss)
  refine pz_G_of pz_b199_0 ?_
  refine w_loc rfl ?_
  refine w_loc rfl ?_
  have hc1 : pz_R (pz_Sh L) 194 [.inr (.inl 154), .inl f] (pz_u1 (pz_u1 iv 154 (iv 154)) 155 (iv 155)) (.inl (some (.inl (pz_bi (0 ≤ f ∧ f ≤ (iv 155) 0 - 1))))) (pz_u1 (pz_u1 iv 154 (iv 154)) 155 (iv 155)) := s_X11_isEvent f (by show q_KR (iv 155); exact hk)
  refine w_call hc1 rfl (pz_cokI is_154 rfl) ?_
  refine w_beq (fun h2 => ?_) (fun h2 => ?_)
  · first
    | (exfalso; first | omega | contradiction)
    | (refine pz_G_of pz_b199_16 ?_
       refine w_loc rfl ?_
       refine w_pure rfl ?_
       have hc3 : pz_R (pz_Sh L) 191 [.inr (.inl 154), .inl 1] (pz_u1 (pz_u1 iv 154 (iv 154)) 155 (iv 155)) (.inl (some (.inl 0))) (pz_u1 (pz_u1 iv 154 (pz_up (iv 154) 0 1)) 155 (iv 155)) := pz_R_mem (s_X11_fails 1) (by rw [pz_u1_in (r := 154) (q := 155) (by decide)]; rw [pz_u1_top (r := 154)]; rfl)
       refine w_call hc3 rfl (pz_cokI is_154 rfl) ?_
       refine w_ret rfl ?_
       first | exact lf_i (by first | rfl | omega) (by rfl) | (exfalso; omega))
  · first
    | (exfalso; first | omega | contradiction)
    | (refine w_loc rfl ?_
       refine w_loc rfl ?_
       have hc4 : pz_R (pz_Sh L) 194 [.inr (.inl 154), .inl t] (pz_u1 (pz_u1 iv 154 (iv 154)) 155 (iv 155)) (.inl (some (.inl (pz_bi (0 ≤ t ∧ t ≤ (iv 155) 0 - 1))))) (pz_u1 (pz_u1 iv 154 (iv 154)) 155 (iv 155)) := s_X11_isEvent t (by show q_KR (iv 155); exact hk)
       refine w_call hc4 rfl (pz_cokI is_154 rfl) ?_
       refine w_bne (fun h5 => ?_) (fun h5 => ?_)
       · first
         | (exfalso; first | omega | contradiction)
         | (refine pz_G_of pz_b199_22 ?_
            refine w_loc rfl ?_
            refine w_loc rfl ?_
            refine w_ieq (fun h6 => ?_) (fun h6 => ?_)
            · first
              | (exfalso; first | omega | contradiction)
              | (refine pz_G_of pz_b199_51 ?_
                 refine w_loc rfl ?_
                 refine w_pure rfl ?_
                 have hc7 : pz_R (pz_Sh L) 191 [.inr (.inl 154), .inl 2] (pz_u1 (pz_u1 iv 154 (iv 154)) 155 (iv 155)) (.inl (some (.inl 0))) (pz_u1 (pz_u1 iv 154 (pz_up (iv 154) 0 2)) 155 (iv 155)) := pz_R_mem (s_X11_fails 2) (by rw [pz_u1_in (r := 154) (q := 155) (by decide)]; rw [pz_u1_top (r := 154)]; rfl)
                 refine w_call hc7 rfl (pz_cokI is_154 rfl) ?_
                 refine w_ret rfl ?_
                 first | exact lf_i (by first | rfl | omega) (by rfl) | (exfalso; omega))
            · first
              | (exfalso; first | omega | contradiction)
              | (refine w_loc rfl ?_
                 refine w_pure rfl ?_
                 refine w_pure rfl ?_
                 have hc8 : pz_R (pz_Sh L) 190 [.inl w, .inl (-500), .inl 500] (pz_u1 (pz_u1 iv 154 (iv 154)) 155 (iv 155)) (.inl (some (.inl (pz_bi ((-500) ≤ w ∧ w ≤ 500))))) (pz_u1 (pz_u1 iv 154 (iv 154)) 155 (iv 155)) := s_X11_in w (-500) 500
                 refine w_call hc8 rfl rfl ?_
                 refine w_beq (fun h9 => ?_) (fun h9 => ?_)
                 · first
                   | (exfalso; first | omega | contradiction)
                   | (refine pz_G_of pz_b199_51 ?_
                      refine w_loc rfl ?_
                      refine w_pure rfl ?_
                      have hc10 : pz_R (pz_Sh L) 191 [.inr (.inl 154), .inl 2] (pz_u1 (pz_u1 iv 154 (iv 154)) 155 (iv 155)) (.inl (some (.inl 0))) (pz_u1 (pz_u1 iv 154 (pz_up (iv 154) 0 2)) 155 (iv 155)) := pz_R_mem (s_X11_fails 2) (by rw [pz_u1_in (r := 154) (q := 155) (by decide)]; rw [pz_u1_top (r := 154)]; rfl)
                      refine w_call hc10 rfl (pz_cokI is_154 rfl) ?_
                      refine w_ret rfl ?_
                      first | exact lf_i (by first | rfl | omega) (by rfl) | (exfalso; omega))
                 · first
                   | (exfalso; first | omega | contradiction)
                   | (refine w_loc rfl ?_
                      refine w_pure rfl ?_
                      refine w_pure rfl ?_
                      have hc11 : pz_R (pz_Sh L) 190 [.inl l, .inl (-4), .inl 4] (pz_u1 (pz_u1 iv 154 (iv 154)) 155 (iv 155)) (.inl (some (.inl (pz_bi ((-4) ≤ l ∧ l ≤ 4))))) (pz_u1 (pz_u1 iv 154 (iv 154)) 155 (iv 155)) := s_X11_in l (-4) 4
                      refine w_call hc11 rfl rfl ?_
                      refine w_bne (fun h12 => ?_) (fun h12 => ?_)
                      · first
                        | (exfalso; first | omega | contradiction)
                        | (refine pz_G_of pz_b199_57 ?_
                           refine w_loc rfl ?_
                           refine w_getR (q := 155) is_154 rf_154_1 ?_
                           refine w_pure rfl ?_
                           refine w_iald (v := (iv 155) 1) is_155 ln_155 ⟨by omega, by omega⟩ rfl ?_
                           refine w_pure rfl ?_
                           refine w_ine (fun h13 => ?_) (fun h13 => ?_)
                           · first
                             | (exfalso; first | omega | contradiction)
                             | (refine pz_G_of pz_b199_76 ?_
                                refine w_loc rfl ?_
                                refine w_loc rfl ?_
                                refine w_loc rfl ?_
                                refine w_loc rfl ?_
                                refine w_loc rfl ?_
                                refine w_loc rfl ?_
                                have hc14 : pz_R (pz_Sh L) 198 [.inr (.inl 154), .inl f, .inl t, .inl w, .inl l] (pz_u1 (pz_u1 iv 154 (iv 154)) 155 (iv 155)) (.inl (some (.inl ((iv 155) 1)))) (pz_u1 (pz_u1 iv 154 (iv 154)) 155 (q_tell (iv 155) f t w l)) := pz_R_mem (s_X11_tellsBound f t w l (by show q_KR (iv 155); exact hk) (by show (iv 155) 1 < 40; omega)) (by rw [pz_u1_top (r := 155)]; rfl)
                                refine w_call hc14 rfl (pz_cokI is_154 rfl) ?_
                                have hc15 : pz_R (pz_Sh L) 192 [.inr (.inl 154), .inl ((iv 155) 1)] (pz_u1 (pz_u1 iv 154 (iv 154)) 155 (q_tell (iv 155) f t w l)) (.inl (some (.inl ((iv 155) 1)))) (pz_u1 (pz_u1 iv 154 (pz_up (iv 154) 0 0)) 155 (q_tell (iv 155) f t w l)) := pz_R_mem (s_X11_tells ((iv 155) 1)) (by rw [pz_u1_in (r := 154) (q := 155) (by decide)]; rw [pz_u1_top (r := 154)]; rfl)
                                refine w_call hc15 rfl (pz_cokI is_154 rfl) ?_
                                refine w_nil ?_
                                refine pz_G_of pz_b199_89 ?_
                                refine w_ret rfl ?_
                                first | exact lf_i (by first | rfl | omega) (by rfl) | (exfalso; omega))
                           · first
                             | (exfalso; first | omega | contradiction)
                             | (refine w_loc rfl ?_
                                refine w_pure rfl ?_
                                have hc16 : pz_R (pz_Sh L) 191 [.inr (.inl 154), .inl 3] (pz_u1 (pz_u1 iv 154 (iv 154)) 155 (iv 155)) (.inl (some (.inl 0))) (pz_u1 (pz_u1 iv 154 (pz_up (iv 154) 0 3)) 155 (iv 155)) := pz_R_mem (s_X11_fails 3) (by rw [pz_u1_in (r := 154) (q := 155) (by decide)]; rw [pz_u1_top (r := 154)]; rfl)
                                refine w_call hc16 rfl (pz_cokI is_154 rfl) ?_
                                refine w_goto ?_
                                refine pz_G_of pz_b199_89 ?_
                                refine w_ret rfl ?_
                                first | exact lf_i (by first | rfl | omega) (by rfl) | (exfalso; omega)))
                      · first
                        | (exfalso; first | omega | contradiction)
                        | (refine w_nil ?_
                           refine pz_G_of pz_b199_51 ?_
                           refine w_loc rfl ?_
                           refine w_pure rfl ?_
                           have hc17 : pz_R (pz_Sh L) 191 [.inr (.inl 154), .inl 2] (pz_u1 (pz_u1 iv 154 (iv 154)) 155 (iv 155)) (.inl (some (.inl 0))) (pz_u1 (pz_u1 iv 154 (pz_up (iv 154) 0 2)) 155 (iv 155)) := pz_R_mem (s_X11_fails 2) (by rw [pz_u1_in (r := 154) (q := 155) (by decide)]; rw [pz_u1_top (r := 154)]; rfl)
                           refine w_call hc17 rfl (pz_cokI is_154 rfl) ?_
                           refine w_ret rfl ?_
                           first | exact lf_i (by first | rfl | omega) (by rfl) | (exfalso; omega)))))
       · first
         | (exfalso; first | omega | contradiction)
         | (refine w_nil ?_
            refine pz_G_of pz_b199_16 ?_
            refine w_loc rfl ?_
            refine w_pure rfl ?_
            have hc18 : pz_R (pz_Sh L) 191 [.inr (.inl 154), .inl 1] (pz_u1 (pz_u1 iv 154 (iv 154)) 155 (iv 155)) (.inl (some (.inl 0))) (pz_u1 (pz_u1 iv 154 (pz_up (iv 154) 0 1)) 155 (iv 155)) := pz_R_mem (s_X11_fails 1) (by rw [pz_u1_in (r := 154) (q := 155) (by decide)]; rw [pz_u1_top (r := 154)]; rfl)
            refine w_call hc18 rfl (pz_cokI is_154 rfl) ?_
            refine w_ret rfl ?_
            first | exact lf_i (by first | rfl | omega) (by rfl) | (exfalso; omega)))

theorem s_X11_bound_2 {L : Nat} {iv : Nat → Nat → Int} (f : Int) (t : Int) (w : Int) (l : Int) (hk : q_KR (iv 155)) (hcase0 : 0 ≤ f ∧ f ≤ iv 155 0 - 1 ∧ 0 ≤ t ∧ t ≤ iv 155 0 - 1) (hcase1 : ¬ (f ≠ t ∧ -500 ≤ w ∧ w ≤ 500 ∧ -4 ≤ l ∧ l ≤ 4)) : pz_R (pz_Sh L) 199 [.inr (.inl 154), .inl f, .inl t, .inl w, .inl l] iv (.inl (some (.inl 0))) (pz_u1 (pz_u1 iv 154 (pz_up (iv 154) 0 2)) 155 (iv 155)) := by
  intro dv cc ss
  have hk0 := hk.r0
  refine pz_G_mem (iv2 := pz_u1 (pz_u1 iv 154 (iv 154)) 155 (iv 155)) (by exact ((pz_u1_self iv 154).symm).trans (pz_u1_self (pz_u1 iv 154 (iv 154)) 155).symm) ?_
  show pz_G 199 0 [some (.inr (.inl 154)), some (.inl f), some (.inl t), some (.inl w), some (.inl l)] [] (pz_Sh L, pz_u1 (pz_u1 iv 154 (iv 154)) 155 (iv 155), dv, cc, ss) (pz_P (pz_Sh L) (.inl (some (.inl 0))) (pz_u1 (pz_u1 iv 154 (pz_up (iv 154) 0 2)) 155 (iv 155)) dv cc ss)
  refine pz_G_of pz_b199_0 ?_
  refine w_loc rfl ?_
  refine w_loc rfl ?_
  have hc1 : pz_R (pz_Sh L) 194 [.inr (.inl 154), .inl f] (pz_u1 (pz_u1 iv 154 (iv 154)) 155 (iv 155)) (.inl (some (.inl (pz_bi (0 ≤ f ∧ f ≤ (iv 155) 0 - 1))))) (pz_u1 (pz_u1 iv 154 (iv 154)) 155 (iv 155)) := s_X11_isEvent f (by show q_KR (iv 155); exact hk)
  refine w_call hc1 rfl (pz_cokI is_154 rfl) ?_
  refine w_beq (fun h2 => ?_) (fun h2 => ?_)
  · first
    | (exfalso; first | omega | contradiction)
    | (refine pz_G_of pz_b199_16 ?_
       refine w_loc rfl ?_
       refine w_pure rfl ?_
       have hc3 : pz_R (pz_Sh L) 191 [.inr (.inl 154), .inl 1] (pz_u1 (pz_u1 iv 154 (iv 154)) 155 (iv 155)) (.inl (some (.inl 0))) (pz_u1 (pz_u1 iv 154 (pz_up (iv 154) 0 1)) 155 (iv 155)) := pz_R_mem (s_X11_fails 1) (by rw [pz_u1_in (r := 154) (q := 155) (by decide)]; rw [pz_u1_top (r := 154)]; rfl)
       refine w_call hc3 rfl (pz_cokI is_154 rfl) ?_
       refine w_ret rfl ?_
       first | exact lf_i (by first | rfl | omega) (by rfl) | (exfalso; omega))
  · first
    | (exfalso; first | omega | contradiction)
    | (refine w_loc rfl ?_
       refine w_loc rfl ?_
       have hc4 : pz_R (pz_Sh L) 194 [.inr (.inl 154), .inl t] (pz_u1 (pz_u1 iv 154 (iv 154)) 155 (iv 155)) (.inl (some (.inl (pz_bi (0 ≤ t ∧ t ≤ (iv 155) 0 - 1))))) (pz_u1 (pz_u1 iv 154 (iv 154)) 155 (iv 155)) := s_X11_isEvent t (by show q_KR (iv 155); exact hk)
       refine w_call hc4 rfl (pz_cokI is_154 rfl) ?_
       refine w_bne (fun h5 => ?_) (fun h5 => ?_)
       · first
         | (exfalso; first | omega | contradiction)
         | (refine pz_G_of pz_b199_22 ?_
            refine w_loc rfl ?_
            refine w_loc rfl ?_
            refine w_ieq (fun h6 => ?_) (fun h6 => ?_)
            · first
              | (exfalso; first | omega | contradiction)
              | (refine pz_G_of pz_b199_51 ?_
                 refine w_loc rfl ?_
                 refine w_pure rfl ?_
                 have hc7 : pz_R (pz_Sh L) 191 [.inr (.inl 154), .inl 2] (pz_u1 (pz_u1 iv 154 (iv 154)) 155 (iv 155)) (.inl (some (.inl 0))) (pz_u1 (pz_u1 iv 154 (pz_up (iv 154) 0 2)) 155 (iv 155)) := pz_R_mem (s_X11_fails 2) (by rw [pz_u1_in (r := 154) (q := 155) (by decide)]; rw [pz_u1_top (r := 154)]; rfl)
                 refine w_call hc7 rfl (pz_cokI is_154 rfl) ?_
                 refine w_ret rfl ?_
                 first | exact lf_i (by first | rfl | omega) (by rfl) | (exfalso; omega))
            · first
              | (exfalso; first | omega | contradiction)
              | (refine w_loc rfl ?_
                 refine w_pure rfl ?_
                 refine w_pure rfl ?_
                 have hc8 : pz_R (pz_Sh L) 190 [.inl w, .inl (-500), .inl 500] (pz_u1 (pz_u1 iv 154 (iv 154)) 155 (iv 155)) (.inl (some (.inl (pz_bi ((-500) ≤ w ∧ w ≤ 500))))) (pz_u1 (pz_u1 iv 154 (iv 154)) 155 (iv 155)) := s_X11_in w (-500) 500
                 refine w_call hc8 rfl rfl ?_
                 refine w_beq (fun h9 => ?_) (fun h9 => ?_)
                 · first
                   | (exfalso; first | omega | contradiction)
                   | (refine pz_G_of pz_b199_51 ?_
                      refine w_loc rfl ?_
                      refine w_pure rfl ?_
                      have hc10 : pz_R (pz_Sh L) 191 [.inr (.inl 154), .inl 2] (pz_u1 (pz_u1 iv 154 (iv 154)) 155 (iv 155)) (.inl (some (.inl 0))) (pz_u1 (pz_u1 iv 154 (pz_up (iv 154) 0 2)) 155 (iv 155)) := pz_R_mem (s_X11_fails 2) (by rw [pz_u1_in (r := 154) (q := 155) (by decide)]; rw [pz_u1_top (r := 154)]; rfl)
                      refine w_call hc10 rfl (pz_cokI is_154 rfl) ?_
                      refine w_ret rfl ?_
                      first | exact lf_i (by first | rfl | omega) (by rfl) | (exfalso; omega))
                 · first
                   | (exfalso; first | omega | contradiction)
                   | (refine w_loc rfl ?_
                      refine w_pure rfl ?_
                      refine w_pure rfl ?_
                      have hc11 : pz_R (pz_Sh L) 190 [.inl l, .inl (-4), .inl 4] (pz_u1 (pz_u1 iv 154 (iv 154)) 155 (iv 155)) (.inl (some (.inl (pz_bi ((-4) ≤ l ∧ l ≤ 4))))) (pz_u1 (pz_u1 iv 154 (iv 154)) 155 (iv 155)) := s_X11_in l (-4) 4
                      refine w_call hc11 rfl rfl ?_
                      refine w_bne (fun h12 => ?_) (fun h12 => ?_)
                      · first
                        | (exfalso; first | omega | contradiction)
                        | (refine pz_G_of pz_b199_57 ?_
                           refine w_loc rfl ?_
                           refine w_getR (q := 155) is_154 rf_154_1 ?_
                           refine w_pure rfl ?_
                           refine w_iald (v := (iv 155) 1) is_155 ln_155 ⟨by omega, by omega⟩ rfl ?_
                           refine w_pure rfl ?_
                           refine w_ine (fun h13 => ?_) (fun h13 => ?_)
                           · first
                             | (exfalso; first | omega | contradiction)
                             | (refine pz_G_of pz_b199_76 ?_
                                refine w_loc rfl ?_
                                refine w_loc rfl ?_
                                refine w_loc rfl ?_
                                refine w_loc rfl ?_
                                refine w_loc rfl ?_
                                refine w_loc rfl ?_
                                have hc14 : pz_R (pz_Sh L) 198 [.inr (.inl 154), .inl f, .inl t, .inl w, .inl l] (pz_u1 (pz_u1 iv 154 (iv 154)) 155 (iv 155)) (.inl (some (.inl ((iv 155) 1)))) (pz_u1 (pz_u1 iv 154 (iv 154)) 155 (q_tell (iv 155) f t w l)) := pz_R_mem (s_X11_tellsBound f t w l (by show q_KR (iv 155); exact hk) (by show (iv 155) 1 < 40; omega)) (by rw [pz_u1_top (r := 155)]; rfl)
                                refine w_call hc14 rfl (pz_cokI is_154 rfl) ?_
                                have hc15 : pz_R (pz_Sh L) 192 [.inr (.inl 154), .inl ((iv 155) 1)] (pz_u1 (pz_u1 iv 154 (iv 154)) 155 (q_tell (iv 155) f t w l)) (.inl (some (.inl ((iv 155) 1)))) (pz_u1 (pz_u1 iv 154 (pz_up (iv 154) 0 0)) 155 (q_tell (iv 155) f t w l)) := pz_R_mem (s_X11_tells ((iv 155) 1)) (by rw [pz_u1_in (r := 154) (q := 155) (by decide)]; rw [pz_u1_top (r := 154)]; rfl)
                                refine w_call hc15 rfl (pz_cokI is_154 rfl) ?_
                                refine w_nil ?_
                                refine pz_G_of pz_b199_89 ?_
                                refine w_ret rfl ?_
                                first | exact lf_i (by first | rfl | omega) (by rfl) | (exfalso; omega))
                           · first
                             | (exfalso; first | omega | contradiction)
                             | (refine w_loc rfl ?_
                                refine w_pure rfl ?_
                                have hc16 : pz_R (pz_Sh L) 191 [.inr (.inl 154), .inl 3] (pz_u1 (pz_u1 iv 154 (iv 154)) 155 (iv 155)) (.inl (some (.inl 0))) (pz_u1 (pz_u1 iv 154 (pz_up (iv 154) 0 3)) 155 (iv 155)) := pz_R_mem (s_X11_fails 3) (by rw [pz_u1_in (r := 154) (q := 155) (by decide)]; rw [pz_u1_top (r := 154)]; rfl)
                                refine w_call hc16 rfl (pz_cokI is_154 rfl) ?_
                                refine w_goto ?_
                                refine pz_G_of pz_b199_89 ?_
                                refine w_ret rfl ?_
                                first | exact lf_i (by first | rfl | omega) (by rfl) | (exfalso; omega)))
                      · first
                        | (exfalso; first | omega | contradiction)
                        | (refine w_nil ?_
                           refine pz_G_of pz_b199_51 ?_
                           refine w_loc rfl ?_
                           refine w_pure rfl ?_
                           have hc17 : pz_R (pz_Sh L) 191 [.inr (.inl 154), .inl 2] (pz_u1 (pz_u1 iv 154 (iv 154)) 155 (iv 155)) (.inl (some (.inl 0))) (pz_u1 (pz_u1 iv 154 (pz_up (iv 154) 0 2)) 155 (iv 155)) := pz_R_mem (s_X11_fails 2) (by rw [pz_u1_in (r := 154) (q := 155) (by decide)]; rw [pz_u1_top (r := 154)]; rfl)
                           refine w_call hc17 rfl (pz_cokI is_154 rfl) ?_
                           refine w_ret rfl ?_
                           first | exact lf_i (by first | rfl | omega) (by rfl) | (exfalso; omega)))))
       · first
         | (exfalso; first | omega | contradiction)
         | (refine w_nil ?_
            refine pz_G_of pz_b199_16 ?_
            refine w_loc rfl ?_
            refine w_pure rfl ?_
            have hc18 : pz_R (pz_Sh L) 191 [.inr (.inl 154), .inl 1] (pz_u1 (pz_u1 iv 154 (iv 154)) 155 (iv 155)) (.inl (some (.inl 0))) (pz_u1 (pz_u1 iv 154 (pz_up (iv 154) 0 1)) 155 (iv 155)) := pz_R_mem (s_X11_fails 1) (by rw [pz_u1_in (r := 154) (q := 155) (by decide)]; rw [pz_u1_top (r := 154)]; rfl)
            refine w_call hc18 rfl (pz_cokI is_154 rfl) ?_
            refine w_ret rfl ?_
            first | exact lf_i (by first | rfl | omega) (by rfl) | (exfalso; omega)))

theorem s_X11_bound_3 {L : Nat} {iv : Nat → Nat → Int} (f : Int) (t : Int) (w : Int) (l : Int) (hk : q_KR (iv 155)) (hcase0 : 0 ≤ f ∧ f ≤ iv 155 0 - 1 ∧ 0 ≤ t ∧ t ≤ iv 155 0 - 1) (hcase1 : f ≠ t ∧ -500 ≤ w ∧ w ≤ 500 ∧ -4 ≤ l ∧ l ≤ 4) (hcase2 : iv 155 1 = 40) : pz_R (pz_Sh L) 199 [.inr (.inl 154), .inl f, .inl t, .inl w, .inl l] iv (.inl (some (.inl 0))) (pz_u1 (pz_u1 iv 154 (pz_up (iv 154) 0 3)) 155 (iv 155)) := by
  intro dv cc ss
  have hk0 := hk.r0
  refine pz_G_mem (iv2 := pz_u1 (pz_u1 iv 154 (iv 154)) 155 (iv 155)) (by exact ((pz_u1_self iv 154).symm).trans (pz_u1_self (pz_u1 iv 154 (iv 154)) 155).symm) ?_
  show pz_G 199 0 [some (.inr (.inl 154)), some (.inl f), some (.inl t), some (.inl w), some (.inl l)] [] (pz_Sh L, pz_u1 (pz_u1 iv 154 (iv 154)) 155 (iv 155), dv, cc, ss) (pz_P (pz_Sh L) (.inl (some (.inl 0))) (pz_u1 (pz_u1 iv 154 (pz_up (iv 154) 0 3)) 155 (iv 155)) dv cc ss)
  refine pz_G_of pz_b199_0 ?_
  refine w_loc rfl ?_
  refine w_loc rfl ?_
  have hc1 : pz_R (pz_Sh L) 194 [.inr (.inl 154), .inl f] (pz_u1 (pz_u1 iv 154 (iv 154)) 155 (iv 155)) (.inl (some (.inl (pz_bi (0 ≤ f ∧ f ≤ (iv 155) 0 - 1))))) (pz_u1 (pz_u1 iv 154 (iv 154)) 155 (iv 155)) := s_X11_isEvent f (by show q_KR (iv 155); exact hk)
  refine w_call hc1 rfl (pz_cokI is_154 rfl) ?_
  refine w_beq (fun h2 => ?_) (fun h2 => ?_)
  · first
    | (exfalso; first | omega | contradiction)
    | (refine pz_G_of pz_b199_16 ?_
       refine w_loc rfl ?_
       refine w_pure rfl ?_
       have hc3 : pz_R (pz_Sh L) 191 [.inr (.inl 154), .inl 1] (pz_u1 (pz_u1 iv 154 (iv 154)) 155 (iv 155)) (.inl (some (.inl 0))) (pz_u1 (pz_u1 iv 154 (pz_up (iv 154) 0 1)) 155 (iv 155)) := pz_R_mem (s_X11_fails 1) (by rw [pz_u1_in (r := 154) (q := 155) (by decide)]; rw [pz_u1_top (r := 154)]; rfl)
       refine w_call hc3 rfl (pz_cokI is_154 rfl) ?_
       refine w_ret rfl ?_
       first | exact lf_i (by first | rfl | omega) (by rfl) | (exfalso; omega))
  · first
    | (exfalso; first | omega | contradiction)
    | (refine w_loc rfl ?_
       refine w_loc rfl ?_
       have hc4 : pz_R (pz_Sh L) 194 [.inr (.inl 154), .inl t] (pz_u1 (pz_u1 iv 154 (iv 154)) 155 (iv 155)) (.inl (some (.inl (pz_bi (0 ≤ t ∧ t ≤ (iv 155) 0 - 1))))) (pz_u1 (pz_u1 iv 154 (iv 154)) 155 (iv 155)) := s_X11_isEvent t (by show q_KR (iv 155); exact hk)
       refine w_call hc4 rfl (pz_cokI is_154 rfl) ?_
       refine w_bne (fun h5 => ?_) (fun h5 => ?_)
       · first
         | (exfalso; first | omega | contradiction)
         | (refine pz_G_of pz_b199_22 ?_
            refine w_loc rfl ?_
            refine w_loc rfl ?_
            refine w_ieq (fun h6 => ?_) (fun h6 => ?_)
            · first
              | (exfalso; first | omega | contradiction)
              | (refine pz_G_of pz_b199_51 ?_
                 refine w_loc rfl ?_
                 refine w_pure rfl ?_
                 have hc7 : pz_R (pz_Sh L) 191 [.inr (.inl 154), .inl 2] (pz_u1 (pz_u1 iv 154 (iv 154)) 155 (iv 155)) (.inl (some (.inl 0))) (pz_u1 (pz_u1 iv 154 (pz_up (iv 154) 0 2)) 155 (iv 155)) := pz_R_mem (s_X11_fails 2) (by rw [pz_u1_in (r := 154) (q := 155) (by decide)]; rw [pz_u1_top (r := 154)]; rfl)
                 refine w_call hc7 rfl (pz_cokI is_154 rfl) ?_
                 refine w_ret rfl ?_
                 first | exact lf_i (by first | rfl | omega) (by rfl) | (exfalso; omega))
            · first
              | (exfalso; first | omega | contradiction)
              | (refine w_loc rfl ?_
                 refine w_pure rfl ?_
                 refine w_pure rfl ?_
                 have hc8 : pz_R (pz_Sh L) 190 [.inl w, .inl (-500), .inl 500] (pz_u1 (pz_u1 iv 154 (iv 154)) 155 (iv 155)) (.inl (some (.inl (pz_bi ((-500) ≤ w ∧ w ≤ 500))))) (pz_u1 (pz_u1 iv 154 (iv 154)) 155 (iv 155)) := s_X11_in w (-500) 500
                 refine w_call hc8 rfl rfl ?_
                 refine w_beq (fun h9 => ?_) (fun h9 => ?_)
                 · first
                   | (exfalso; first | omega | contradiction)
                   | (refine pz_G_of pz_b199_51 ?_
                      refine w_loc rfl ?_
                      refine w_pure rfl ?_
                      have hc10 : pz_R (pz_Sh L) 191 [.inr (.inl 154), .inl 2] (pz_u1 (pz_u1 iv 154 (iv 154)) 155 (iv 155)) (.inl (some (.inl 0))) (pz_u1 (pz_u1 iv 154 (pz_up (iv 154) 0 2)) 155 (iv 155)) := pz_R_mem (s_X11_fails 2) (by rw [pz_u1_in (r := 154) (q := 155) (by decide)]; rw [pz_u1_top (r := 154)]; rfl)
                      refine w_call hc10 rfl (pz_cokI is_154 rfl) ?_
                      refine w_ret rfl ?_
                      first | exact lf_i (by first | rfl | omega) (by rfl) | (exfalso; omega))
                 · first
                   | (exfalso; first | omega | contradiction)
                   | (refine w_loc rfl ?_
                      refine w_pure rfl ?_
                      refine w_pure rfl ?_
                      have hc11 : pz_R (pz_Sh L) 190 [.inl l, .inl (-4), .inl 4] (pz_u1 (pz_u1 iv 154 (iv 154)) 155 (iv 155)) (.inl (some (.inl (pz_bi ((-4) ≤ l ∧ l ≤ 4))))) (pz_u1 (pz_u1 iv 154 (iv 154)) 155 (iv 155)) := s_X11_in l (-4) 4
                      refine w_call hc11 rfl rfl ?_
                      refine w_bne (fun h12 => ?_) (fun h12 => ?_)
                      · first
                        | (exfalso; first | omega | contradiction)
                        | (refine pz_G_of pz_b199_57 ?_
                           refine w_loc rfl ?_
                           refine w_getR (q := 155) is_154 rf_154_1 ?_
                           refine w_pure rfl ?_
                           refine w_iald (v := (iv 155) 1) is_155 ln_155 ⟨by omega, by omega⟩ rfl ?_
                           refine w_pure rfl ?_
                           refine w_ine (fun h13 => ?_) (fun h13 => ?_)
                           · first
                             | (exfalso; first | omega | contradiction)
                             | (refine pz_G_of pz_b199_76 ?_
                                refine w_loc rfl ?_
                                refine w_loc rfl ?_
                                refine w_loc rfl ?_
                                refine w_loc rfl ?_
                                refine w_loc rfl ?_
                                refine w_loc rfl ?_
                                have hc14 : pz_R (pz_Sh L) 198 [.inr (.inl 154), .inl f, .inl t, .inl w, .inl l] (pz_u1 (pz_u1 iv 154 (iv 154)) 155 (iv 155)) (.inl (some (.inl ((iv 155) 1)))) (pz_u1 (pz_u1 iv 154 (iv 154)) 155 (q_tell (iv 155) f t w l)) := pz_R_mem (s_X11_tellsBound f t w l (by show q_KR (iv 155); exact hk) (by show (iv 155) 1 < 40; omega)) (by rw [pz_u1_top (r := 155)]; rfl)
                                refine w_call hc14 rfl (pz_cokI is_154 rfl) ?_
                                have hc15 : pz_R (pz_Sh L) 192 [.inr (.inl 154), .inl ((iv 155) 1)] (pz_u1 (pz_u1 iv 154 (iv 154)) 155 (q_tell (iv 155) f t w l)) (.inl (some (.inl ((iv 155) 1)))) (pz_u1 (pz_u1 iv 154 (pz_up (iv 154) 0 0)) 155 (q_tell (iv 155) f t w l)) := pz_R_mem (s_X11_tells ((iv 155) 1)) (by rw [pz_u1_in (r := 154) (q := 155) (by decide)]; rw [pz_u1_top (r := 154)]; rfl)
                                refine w_call hc15 rfl (pz_cokI is_154 rfl) ?_
                                refine w_nil ?_
                                refine pz_G_of pz_b199_89 ?_
                                refine w_ret rfl ?_
                                first | exact lf_i (by first | rfl | omega) (by rfl) | (exfalso; omega))
                           · first
                             | (exfalso; first | omega | contradiction)
                             | (refine w_loc rfl ?_
                                refine w_pure rfl ?_
                                have hc16 : pz_R (pz_Sh L) 191 [.inr (.inl 154), .inl 3] (pz_u1 (pz_u1 iv 154 (iv 154)) 155 (iv 155)) (.inl (some (.inl 0))) (pz_u1 (pz_u1 iv 154 (pz_up (iv 154) 0 3)) 155 (iv 155)) := pz_R_mem (s_X11_fails 3) (by rw [pz_u1_in (r := 154) (q := 155) (by decide)]; rw [pz_u1_top (r := 154)]; rfl)
                                refine w_call hc16 rfl (pz_cokI is_154 rfl) ?_
                                refine w_goto ?_
                                refine pz_G_of pz_b199_89 ?_
                                refine w_ret rfl ?_
                                first | exact lf_i (by first | rfl | omega) (by rfl) | (exfalso; omega)))
                      · first
                        | (exfalso; first | omega | contradiction)
                        | (refine w_nil ?_
                           refine pz_G_of pz_b199_51 ?_
                           refine w_loc rfl ?_
                           refine w_pure rfl ?_
                           have hc17 : pz_R (pz_Sh L) 191 [.inr (.inl 154), .inl 2] (pz_u1 (pz_u1 iv 154 (iv 154)) 155 (iv 155)) (.inl (some (.inl 0))) (pz_u1 (pz_u1 iv 154 (pz_up (iv 154) 0 2)) 155 (iv 155)) := pz_R_mem (s_X11_fails 2) (by rw [pz_u1_in (r := 154) (q := 155) (by decide)]; rw [pz_u1_top (r := 154)]; rfl)
                           refine w_call hc17 rfl (pz_cokI is_154 rfl) ?_
                           refine w_ret rfl ?_
                           first | exact lf_i (by first | rfl | omega) (by rfl) | (exfalso; omega)))))
       · first
         | (exfalso; first | omega | contradiction)
         | (refine w_nil ?_
            refine pz_G_of pz_b199_16 ?_
            refine w_loc rfl ?_
            refine w_pure rfl ?_
            have hc18 : pz_R (pz_Sh L) 191 [.inr (.inl 154), .inl 1] (pz_u1 (pz_u1 iv 154 (iv 154)) 155 (iv 155)) (.inl (some (.inl 0))) (pz_u1 (pz_u1 iv 154 (pz_up (iv 154) 0 1)) 155 (iv 155)) := pz_R_mem (s_X11_fails 1) (by rw [pz_u1_in (r := 154) (q := 155) (by decide)]; rw [pz_u1_top (r := 154)]; rfl)
            refine w_call hc18 rfl (pz_cokI is_154 rfl) ?_
            refine w_ret rfl ?_
            first | exact lf_i (by first | rfl | omega) (by rfl) | (exfalso; omega)))

theorem s_X11_bound_0 {L : Nat} {iv : Nat → Nat → Int} (f : Int) (t : Int) (w : Int) (l : Int) (hk : q_KR (iv 155)) (hcase0 : 0 ≤ f ∧ f ≤ iv 155 0 - 1 ∧ 0 ≤ t ∧ t ≤ iv 155 0 - 1) (hcase1 : f ≠ t ∧ -500 ≤ w ∧ w ≤ 500 ∧ -4 ≤ l ∧ l ≤ 4) (hcase2 : iv 155 1 ≠ 40) : pz_R (pz_Sh L) 199 [.inr (.inl 154), .inl f, .inl t, .inl w, .inl l] iv (.inl (some (.inl ((iv 155) 1)))) (pz_u1 (pz_u1 iv 154 (pz_up (iv 154) 0 0)) 155 (q_tell (iv 155) f t w l)) := by
  intro dv cc ss
  have hk0 := hk.r0
  refine pz_G_mem (iv2 := pz_u1 (pz_u1 iv 154 (iv 154)) 155 (iv 155)) (by exact ((pz_u1_self iv 154).symm).trans (pz_u1_self (pz_u1 iv 154 (iv 154)) 155).symm) ?_
  show pz_G 199 0 [some (.inr (.inl 154)), some (.inl f), some (.inl t), some (.inl w), some (.inl l)] [] (pz_Sh L, pz_u1 (pz_u1 iv 154 (iv 154)) 155 (iv 155), dv, cc, ss) (pz_P (pz_Sh L) (.inl (some (.inl ((iv 155) 1)))) (pz_u1 (pz_u1 iv 154 (pz_up (iv 154) 0 0)) 155 (q_tell (iv 155) f t w l)) dv cc ss)
  refine pz_G_of pz_b199_0 ?_
  refine w_loc rfl ?_
  refine w_loc rfl ?_
  have hc1 : pz_R (pz_Sh L) 194 [.inr (.inl 154), .inl f] (pz_u1 (pz_u1 iv 154 (iv 154)) 155 (iv 155)) (.inl (some (.inl (pz_bi (0 ≤ f ∧ f ≤ (iv 155) 0 - 1))))) (pz_u1 (pz_u1 iv 154 (iv 154)) 155 (iv 155)) := s_X11_isEvent f (by show q_KR (iv 155); exact hk)
  refine w_call hc1 rfl (pz_cokI is_154 rfl) ?_
  refine w_beq (fun h2 => ?_) (fun h2 => ?_)
  · first
    | (exfalso; first | omega | contradiction)
    | (refine pz_G_of pz_b199_16 ?_
       refine w_loc rfl ?_
       refine w_pure rfl ?_
       have hc3 : pz_R (pz_Sh L) 191 [.inr (.inl 154), .inl 1] (pz_u1 (pz_u1 iv 154 (iv 154)) 155 (iv 155)) (.inl (some (.inl 0))) (pz_u1 (pz_u1 iv 154 (pz_up (iv 154) 0 1)) 155 (iv 155)) := pz_R_mem (s_X11_fails 1) (by rw [pz_u1_in (r := 154) (q := 155) (by decide)]; rw [pz_u1_top (r := 154)]; rfl)
       refine w_call hc3 rfl (pz_cokI is_154 rfl) ?_
       refine w_ret rfl ?_
       first | exact lf_i (by first | rfl | omega) (by rfl) | (exfalso; omega))
  · first
    | (exfalso; first | omega | contradiction)
    | (refine w_loc rfl ?_
       refine w_loc rfl ?_
       have hc4 : pz_R (pz_Sh L) 194 [.inr (.inl 154), .inl t] (pz_u1 (pz_u1 iv 154 (iv 154)) 155 (iv 155)) (.inl (some (.inl (pz_bi (0 ≤ t ∧ t ≤ (iv 155) 0 - 1))))) (pz_u1 (pz_u1 iv 154 (iv 154)) 155 (iv 155)) := s_X11_isEvent t (by show q_KR (iv 155); exact hk)
       refine w_call hc4 rfl (pz_cokI is_154 rfl) ?_
       refine w_bne (fun h5 => ?_) (fun h5 => ?_)
       · first
         | (exfalso; first | omega | contradiction)
         | (refine pz_G_of pz_b199_22 ?_
            refine w_loc rfl ?_
            refine w_loc rfl ?_
            refine w_ieq (fun h6 => ?_) (fun h6 => ?_)
            · first
              | (exfalso; first | omega | contradiction)
              | (refine pz_G_of pz_b199_51 ?_
                 refine w_loc rfl ?_
                 refine w_pure rfl ?_
                 have hc7 : pz_R (pz_Sh L) 191 [.inr (.inl 154), .inl 2] (pz_u1 (pz_u1 iv 154 (iv 154)) 155 (iv 155)) (.inl (some (.inl 0))) (pz_u1 (pz_u1 iv 154 (pz_up (iv 154) 0 2)) 155 (iv 155)) := pz_R_mem (s_X11_fails 2) (by rw [pz_u1_in (r := 154) (q := 155) (by decide)]; rw [pz_u1_top (r := 154)]; rfl)
                 refine w_call hc7 rfl (pz_cokI is_154 rfl) ?_
                 refine w_ret rfl ?_
                 first | exact lf_i (by first | rfl | omega) (by rfl) | (exfalso; omega))
            · first
              | (exfalso; first | omega | contradiction)
              | (refine w_loc rfl ?_
                 refine w_pure rfl ?_
                 refine w_pure rfl ?_
                 have hc8 : pz_R (pz_Sh L) 190 [.inl w, .inl (-500), .inl 500] (pz_u1 (pz_u1 iv 154 (iv 154)) 155 (iv 155)) (.inl (some (.inl (pz_bi ((-500) ≤ w ∧ w ≤ 500))))) (pz_u1 (pz_u1 iv 154 (iv 154)) 155 (iv 155)) := s_X11_in w (-500) 500
                 refine w_call hc8 rfl rfl ?_
                 refine w_beq (fun h9 => ?_) (fun h9 => ?_)
                 · first
                   | (exfalso; first | omega | contradiction)
                   | (refine pz_G_of pz_b199_51 ?_
                      refine w_loc rfl ?_
                      refine w_pure rfl ?_
                      have hc10 : pz_R (pz_Sh L) 191 [.inr (.inl 154), .inl 2] (pz_u1 (pz_u1 iv 154 (iv 154)) 155 (iv 155)) (.inl (some (.inl 0))) (pz_u1 (pz_u1 iv 154 (pz_up (iv 154) 0 2)) 155 (iv 155)) := pz_R_mem (s_X11_fails 2) (by rw [pz_u1_in (r := 154) (q := 155) (by decide)]; rw [pz_u1_top (r := 154)]; rfl)
                      refine w_call hc10 rfl (pz_cokI is_154 rfl) ?_
                      refine w_ret rfl ?_
                      first | exact lf_i (by first | rfl | omega) (by rfl) | (exfalso; omega))
                 · first
                   | (exfalso; first | omega | contradiction)
                   | (refine w_loc rfl ?_
                      refine w_pure rfl ?_
                      refine w_pure rfl ?_
                      have hc11 : pz_R (pz_Sh L) 190 [.inl l, .inl (-4), .inl 4] (pz_u1 (pz_u1 iv 154 (iv 154)) 155 (iv 155)) (.inl (some (.inl (pz_bi ((-4) ≤ l ∧ l ≤ 4))))) (pz_u1 (pz_u1 iv 154 (iv 154)) 155 (iv 155)) := s_X11_in l (-4) 4
                      refine w_call hc11 rfl rfl ?_
                      refine w_bne (fun h12 => ?_) (fun h12 => ?_)
                      · first
                        | (exfalso; first | omega | contradiction)
                        | (refine pz_G_of pz_b199_57 ?_
                           refine w_loc rfl ?_
                           refine w_getR (q := 155) is_154 rf_154_1 ?_
                           refine w_pure rfl ?_
                           refine w_iald (v := (iv 155) 1) is_155 ln_155 ⟨by omega, by omega⟩ rfl ?_
                           refine w_pure rfl ?_
                           refine w_ine (fun h13 => ?_) (fun h13 => ?_)
                           · first
                             | (exfalso; first | omega | contradiction)
                             | (refine pz_G_of pz_b199_76 ?_
                                refine w_loc rfl ?_
                                refine w_loc rfl ?_
                                refine w_loc rfl ?_
                                refine w_loc rfl ?_
                                refine w_loc rfl ?_
                                refine w_loc rfl ?_
                                have hc14 : pz_R (pz_Sh L) 198 [.inr (.inl 154), .inl f, .inl t, .inl w, .inl l] (pz_u1 (pz_u1 iv 154 (iv 154)) 155 (iv 155)) (.inl (some (.inl ((iv 155) 1)))) (pz_u1 (pz_u1 iv 154 (iv 154)) 155 (q_tell (iv 155) f t w l)) := pz_R_mem (s_X11_tellsBound f t w l (by show q_KR (iv 155); exact hk) (by show (iv 155) 1 < 40; omega)) (by rw [pz_u1_top (r := 155)]; rfl)
                                refine w_call hc14 rfl (pz_cokI is_154 rfl) ?_
                                have hc15 : pz_R (pz_Sh L) 192 [.inr (.inl 154), .inl ((iv 155) 1)] (pz_u1 (pz_u1 iv 154 (iv 154)) 155 (q_tell (iv 155) f t w l)) (.inl (some (.inl ((iv 155) 1)))) (pz_u1 (pz_u1 iv 154 (pz_up (iv 154) 0 0)) 155 (q_tell (iv 155) f t w l)) := pz_R_mem (s_X11_tells ((iv 155) 1)) (by rw [pz_u1_in (r := 154) (q := 155) (by decide)]; rw [pz_u1_top (r := 154)]; rfl)
                                refine w_call hc15 rfl (pz_cokI is_154 rfl) ?_
                                refine w_nil ?_
                                refine pz_G_of pz_b199_89 ?_
                                refine w_ret rfl ?_
                                first | exact lf_i (by first | rfl | omega) (by rfl) | (exfalso; omega))
                           · first
                             | (exfalso; first | omega | contradiction)
                             | (refine w_loc rfl ?_
                                refine w_pure rfl ?_
                                have hc16 : pz_R (pz_Sh L) 191 [.inr (.inl 154), .inl 3] (pz_u1 (pz_u1 iv 154 (iv 154)) 155 (iv 155)) (.inl (some (.inl 0))) (pz_u1 (pz_u1 iv 154 (pz_up (iv 154) 0 3)) 155 (iv 155)) := pz_R_mem (s_X11_fails 3) (by rw [pz_u1_in (r := 154) (q := 155) (by decide)]; rw [pz_u1_top (r := 154)]; rfl)
                                refine w_call hc16 rfl (pz_cokI is_154 rfl) ?_
                                refine w_goto ?_
                                refine pz_G_of pz_b199_89 ?_
                                refine w_ret rfl ?_
                                first | exact lf_i (by first | rfl | omega) (by rfl) | (exfalso; omega)))
                      · first
                        | (exfalso; first | omega | contradiction)
                        | (refine w_nil ?_
                           refine pz_G_of pz_b199_51 ?_
                           refine w_loc rfl ?_
                           refine w_pure rfl ?_
                           have hc17 : pz_R (pz_Sh L) 191 [.inr (.inl 154), .inl 2] (pz_u1 (pz_u1 iv 154 (iv 154)) 155 (iv 155)) (.inl (some (.inl 0))) (pz_u1 (pz_u1 iv 154 (pz_up (iv 154) 0 2)) 155 (iv 155)) := pz_R_mem (s_X11_fails 2) (by rw [pz_u1_in (r := 154) (q := 155) (by decide)]; rw [pz_u1_top (r := 154)]; rfl)
                           refine w_call hc17 rfl (pz_cokI is_154 rfl) ?_
                           refine w_ret rfl ?_
                           first | exact lf_i (by first | rfl | omega) (by rfl) | (exfalso; omega)))))
       · first
         | (exfalso; first | omega | contradiction)
         | (refine w_nil ?_
            refine pz_G_of pz_b199_16 ?_
            refine w_loc rfl ?_
            refine w_pure rfl ?_
            have hc18 : pz_R (pz_Sh L) 191 [.inr (.inl 154), .inl 1] (pz_u1 (pz_u1 iv 154 (iv 154)) 155 (iv 155)) (.inl (some (.inl 0))) (pz_u1 (pz_u1 iv 154 (pz_up (iv 154) 0 1)) 155 (iv 155)) := pz_R_mem (s_X11_fails 1) (by rw [pz_u1_in (r := 154) (q := 155) (by decide)]; rw [pz_u1_top (r := 154)]; rfl)
            refine w_call hc18 rfl (pz_cokI is_154 rfl) ?_
            refine w_ret rfl ?_
            first | exact lf_i (by first | rfl | omega) (by rfl) | (exfalso; omega)))

theorem s_X11_dropBound_1 {L : Nat} {iv : Nat → Nat → Int} (b : Int) (hk : q_KR (iv 155)) (hcase0 : ¬ (0 ≤ b ∧ b ≤ iv 155 1 - 1)) : pz_R (pz_Sh L) 205 [.inr (.inl 154), .inl b] iv (.inl (some (.inl 0))) (pz_u1 (pz_u1 iv 154 (pz_up (iv 154) 0 1)) 155 (iv 155)) := by
  intro dv cc ss
  have hk0 := hk.r0
  refine pz_G_mem (iv2 := pz_u1 (pz_u1 iv 154 (iv 154)) 155 (iv 155)) (by exact ((pz_u1_self iv 154).symm).trans (pz_u1_self (pz_u1 iv 154 (iv 154)) 155).symm) ?_
  show pz_G 205 0 [some (.inr (.inl 154)), some (.inl b)] [] (pz_Sh L, pz_u1 (pz_u1 iv 154 (iv 154)) 155 (iv 155), dv, cc, ss) (pz_P (pz_Sh L) (.inl (some (.inl 0))) (pz_u1 (pz_u1 iv 154 (pz_up (iv 154) 0 1)) 155 (iv 155)) dv cc ss)
  refine pz_G_of pz_b205_0 ?_
  refine w_loc rfl ?_
  refine w_pure rfl ?_
  refine w_loc rfl ?_
  refine w_getR (q := 155) is_154 rf_154_1 ?_
  refine w_pure rfl ?_
  refine w_iald (v := (iv 155) 1) is_155 ln_155 ⟨by omega, by omega⟩ rfl ?_
  refine w_pure rfl ?_
  refine w_isub (by omega) ?_
  have hc1 : pz_R (pz_Sh L) 190 [.inl b, .inl 0, .inl (((iv 155) 1) - 1)] (pz_u1 (pz_u1 iv 154 (iv 154)) 155 (iv 155)) (.inl (some (.inl (pz_bi (0 ≤ b ∧ b ≤ (((iv 155) 1) - 1)))))) (pz_u1 (pz_u1 iv 154 (iv 154)) 155 (iv 155)) := s_X11_in b 0 (((iv 155) 1) - 1)
  refine w_call hc1 rfl rfl ?_
  refine w_bne (fun h2 => ?_) (fun h2 => ?_)
  · first
    | (exfalso; first | omega | contradiction)
    | (refine pz_G_of pz_b205_22 ?_
       refine w_loc rfl ?_
       refine w_loc rfl ?_
       have hc3 : pz_R (pz_Sh L) 202 [.inr (.inl 154), .inl b] (pz_u1 (pz_u1 iv 154 (iv 154)) 155 (iv 155)) (.inl (some (.inl (pz_bi ((iv 155) (52 + 4 * b + 3).toNat = 99))))) (pz_u1 (pz_u1 iv 154 (iv 154)) 155 (iv 155)) := s_X11_isDropped b (by show 0 ≤ b ∧ b ≤ 39; omega)
       refine w_call hc3 rfl (pz_cokI is_154 rfl) ?_
       refine w_beq (fun h4 => ?_) (fun h4 => ?_)
       · first
         | (exfalso; first | omega | contradiction)
         | (refine pz_G_of pz_b205_36 ?_
            refine w_loc rfl ?_
            refine w_getR (q := 155) is_154 rf_154_1 ?_
            refine w_pure rfl ?_
            refine w_pure rfl ?_
            refine w_loc rfl ?_
            refine w_imul (by omega) ?_
            refine w_iadd (by omega) ?_
            refine w_pure rfl ?_
            refine w_iadd (by omega) ?_
            refine w_pure rfl ?_
            refine w_iastm (iv2 := pz_u1 (pz_u1 iv 154 (iv 154)) 155 (pz_up (iv 155) ((52 + (4 * b)) + 3).toNat 99)) is_155 ln_155 ⟨by omega, by omega⟩ (by exact pz_u2_top _ _ _ _ _) ?_
            refine w_loc rfl ?_
            refine w_loc rfl ?_
            have hc5 : pz_R (pz_Sh L) 204 [.inr (.inl 154)] (pz_u1 (pz_u1 iv 154 (iv 154)) 155 (pz_up (iv 155) ((52 + (4 * b)) + 3).toNat 99)) (.inl (some (.inl (q_held (pz_up (iv 155) ((52 + (4 * b)) + 3).toNat 99))))) (pz_u1 (pz_u1 iv 154 (iv 154)) 155 (pz_up (iv 155) ((52 + (4 * b)) + 3).toNat 99)) := s_X11_held (by show q_KR (pz_up (iv 155) ((52 + (4 * b)) + 3).toNat 99); first | exact hk | exact q_KR_drop hk (by omega) (by omega))
            refine w_call hc5 rfl (pz_cokI is_154 rfl) ?_
            have hc6 : pz_R (pz_Sh L) 192 [.inr (.inl 154), .inl (q_held (pz_up (iv 155) ((52 + (4 * b)) + 3).toNat 99))] (pz_u1 (pz_u1 iv 154 (iv 154)) 155 (pz_up (iv 155) ((52 + (4 * b)) + 3).toNat 99)) (.inl (some (.inl (q_held (pz_up (iv 155) ((52 + (4 * b)) + 3).toNat 99))))) (pz_u1 (pz_u1 iv 154 (pz_up (iv 154) 0 0)) 155 (pz_up (iv 155) ((52 + (4 * b)) + 3).toNat 99)) := pz_R_mem (s_X11_tells (q_held (pz_up (iv 155) ((52 + (4 * b)) + 3).toNat 99))) (by rw [pz_u1_in (r := 154) (q := 155) (by decide)]; rw [pz_u1_top (r := 154)]; rfl)
            refine w_call hc6 rfl (pz_cokI is_154 rfl) ?_
            refine w_ret rfl ?_
            first | exact lf_i (by first | rfl | omega) (by rfl) | (exfalso; omega))
       · first
         | (exfalso; first | omega | contradiction)
         | (refine w_loc rfl ?_
            refine w_pure rfl ?_
            have hc7 : pz_R (pz_Sh L) 191 [.inr (.inl 154), .inl 2] (pz_u1 (pz_u1 iv 154 (iv 154)) 155 (iv 155)) (.inl (some (.inl 0))) (pz_u1 (pz_u1 iv 154 (pz_up (iv 154) 0 2)) 155 (iv 155)) := pz_R_mem (s_X11_fails 2) (by rw [pz_u1_in (r := 154) (q := 155) (by decide)]; rw [pz_u1_top (r := 154)]; rfl)
            refine w_call hc7 rfl (pz_cokI is_154 rfl) ?_
            refine w_ret rfl ?_
            first | exact lf_i (by first | rfl | omega) (by rfl) | (exfalso; omega)))
  · first
    | (exfalso; first | omega | contradiction)
    | (refine w_loc rfl ?_
       refine w_pure rfl ?_
       have hc8 : pz_R (pz_Sh L) 191 [.inr (.inl 154), .inl 1] (pz_u1 (pz_u1 iv 154 (iv 154)) 155 (iv 155)) (.inl (some (.inl 0))) (pz_u1 (pz_u1 iv 154 (pz_up (iv 154) 0 1)) 155 (iv 155)) := pz_R_mem (s_X11_fails 1) (by rw [pz_u1_in (r := 154) (q := 155) (by decide)]; rw [pz_u1_top (r := 154)]; rfl)
       refine w_call hc8 rfl (pz_cokI is_154 rfl) ?_
       refine w_ret rfl ?_
       first | exact lf_i (by first | rfl | omega) (by rfl) | (exfalso; omega))

theorem s_X11_dropBound_2 {L : Nat} {iv : Nat → Nat → Int} (b : Int) (hk : q_KR (iv 155)) (hcase0 : 0 ≤ b ∧ b ≤ iv 155 1 - 1) (hcase1 : iv 155 (52 + 4 * b + 3).toNat = 99) : pz_R (pz_Sh L) 205 [.inr (.inl 154), .inl b] iv (.inl (some (.inl 0))) (pz_u1 (pz_u1 iv 154 (pz_up (iv 154) 0 2)) 155 (iv 155)) := by
  intro dv cc ss
  have hk0 := hk.r0
  refine pz_G_mem (iv2 := pz_u1 (pz_u1 iv 154 (iv 154)) 155 (iv 155)) (by exact ((pz_u1_self iv 154).symm).trans (pz_u1_self (pz_u1 iv 154 (iv 154)) 155).symm) ?_
  show pz_G 205 0 [some (.inr (.inl 154)), some (.inl b)] [] (pz_Sh L, pz_u1 (pz_u1 iv 154 (iv 154)) 155 (iv 155), dv, cc, ss) (pz_P (pz_Sh L) (.inl (some (.inl 0))) (pz_u1 (pz_u1 iv 154 (pz_up (iv 154) 0 2)) 155 (iv 155)) dv cc ss)
  refine pz_G_of pz_b205_0 ?_
  refine w_loc rfl ?_
  refine w_pure rfl ?_
  refine w_loc rfl ?_
  refine w_getR (q := 155) is_154 rf_154_1 ?_
  refine w_pure rfl ?_
  refine w_iald (v := (iv 155) 1) is_155 ln_155 ⟨by omega, by omega⟩ rfl ?_
  refine w_pure rfl ?_
  refine w_isub (by omega) ?_
  have hc1 : pz_R (pz_Sh L) 190 [.inl b, .inl 0, .inl (((iv 155) 1) - 1)] (pz_u1 (pz_u1 iv 154 (iv 154)) 155 (iv 155)) (.inl (some (.inl (pz_bi (0 ≤ b ∧ b ≤ (((iv 155) 1) - 1)))))) (pz_u1 (pz_u1 iv 154 (iv 154)) 155 (iv 155)) := s_X11_in b 0 (((iv 155) 1) - 1)
  refine w_call hc1 rfl rfl ?_
  refine w_bne (fun h2 => ?_) (fun h2 => ?_)
  · first
    | (exfalso; first | omega | contradiction)
    | (refine pz_G_of pz_b205_22 ?_
       refine w_loc rfl ?_
       refine w_loc rfl ?_
       have hc3 : pz_R (pz_Sh L) 202 [.inr (.inl 154), .inl b] (pz_u1 (pz_u1 iv 154 (iv 154)) 155 (iv 155)) (.inl (some (.inl (pz_bi ((iv 155) (52 + 4 * b + 3).toNat = 99))))) (pz_u1 (pz_u1 iv 154 (iv 154)) 155 (iv 155)) := s_X11_isDropped b (by show 0 ≤ b ∧ b ≤ 39; omega)
       refine w_call hc3 rfl (pz_cokI is_154 rfl) ?_
       refine w_beq (fun h4 => ?_) (fun h4 => ?_)
       · first
         | (exfalso; first | omega | contradiction)
         | (refine pz_G_of pz_b205_36 ?_
            refine w_loc rfl ?_
            refine w_getR (q := 155) is_154 rf_154_1 ?_
            refine w_pure rfl ?_
            refine w_pure rfl ?_
            refine w_loc rfl ?_
            refine w_imul (by omega) ?_
            refine w_iadd (by omega) ?_
            refine w_pure rfl ?_
            refine w_iadd (by omega) ?_
            refine w_pure rfl ?_
            refine w_iastm (iv2 := pz_u1 (pz_u1 iv 154 (iv 154)) 155 (pz_up (iv 155) ((52 + (4 * b)) + 3).toNat 99)) is_155 ln_155 ⟨by omega, by omega⟩ (by exact pz_u2_top _ _ _ _ _) ?_
            refine w_loc rfl ?_
            refine w_loc rfl ?_
            have hc5 : pz_R (pz_Sh L) 204 [.inr (.inl 154)] (pz_u1 (pz_u1 iv 154 (iv 154)) 155 (pz_up (iv 155) ((52 + (4 * b)) + 3).toNat 99)) (.inl (some (.inl (q_held (pz_up (iv 155) ((52 + (4 * b)) + 3).toNat 99))))) (pz_u1 (pz_u1 iv 154 (iv 154)) 155 (pz_up (iv 155) ((52 + (4 * b)) + 3).toNat 99)) := s_X11_held (by show q_KR (pz_up (iv 155) ((52 + (4 * b)) + 3).toNat 99); first | exact hk | exact q_KR_drop hk (by omega) (by omega))
            refine w_call hc5 rfl (pz_cokI is_154 rfl) ?_
            have hc6 : pz_R (pz_Sh L) 192 [.inr (.inl 154), .inl (q_held (pz_up (iv 155) ((52 + (4 * b)) + 3).toNat 99))] (pz_u1 (pz_u1 iv 154 (iv 154)) 155 (pz_up (iv 155) ((52 + (4 * b)) + 3).toNat 99)) (.inl (some (.inl (q_held (pz_up (iv 155) ((52 + (4 * b)) + 3).toNat 99))))) (pz_u1 (pz_u1 iv 154 (pz_up (iv 154) 0 0)) 155 (pz_up (iv 155) ((52 + (4 * b)) + 3).toNat 99)) := pz_R_mem (s_X11_tells (q_held (pz_up (iv 155) ((52 + (4 * b)) + 3).toNat 99))) (by rw [pz_u1_in (r := 154) (q := 155) (by decide)]; rw [pz_u1_top (r := 154)]; rfl)
            refine w_call hc6 rfl (pz_cokI is_154 rfl) ?_
            refine w_ret rfl ?_
            first | exact lf_i (by first | rfl | omega) (by rfl) | (exfalso; omega))
       · first
         | (exfalso; first | omega | contradiction)
         | (refine w_loc rfl ?_
            refine w_pure rfl ?_
            have hc7 : pz_R (pz_Sh L) 191 [.inr (.inl 154), .inl 2] (pz_u1 (pz_u1 iv 154 (iv 154)) 155 (iv 155)) (.inl (some (.inl 0))) (pz_u1 (pz_u1 iv 154 (pz_up (iv 154) 0 2)) 155 (iv 155)) := pz_R_mem (s_X11_fails 2) (by rw [pz_u1_in (r := 154) (q := 155) (by decide)]; rw [pz_u1_top (r := 154)]; rfl)
            refine w_call hc7 rfl (pz_cokI is_154 rfl) ?_
            refine w_ret rfl ?_
            first | exact lf_i (by first | rfl | omega) (by rfl) | (exfalso; omega)))
  · first
    | (exfalso; first | omega | contradiction)
    | (refine w_loc rfl ?_
       refine w_pure rfl ?_
       have hc8 : pz_R (pz_Sh L) 191 [.inr (.inl 154), .inl 1] (pz_u1 (pz_u1 iv 154 (iv 154)) 155 (iv 155)) (.inl (some (.inl 0))) (pz_u1 (pz_u1 iv 154 (pz_up (iv 154) 0 1)) 155 (iv 155)) := pz_R_mem (s_X11_fails 1) (by rw [pz_u1_in (r := 154) (q := 155) (by decide)]; rw [pz_u1_top (r := 154)]; rfl)
       refine w_call hc8 rfl (pz_cokI is_154 rfl) ?_
       refine w_ret rfl ?_
       first | exact lf_i (by first | rfl | omega) (by rfl) | (exfalso; omega))

theorem s_X11_dropBound_0 {L : Nat} {iv : Nat → Nat → Int} (b : Int) (hk : q_KR (iv 155)) (hcase0 : 0 ≤ b ∧ b ≤ iv 155 1 - 1) (hcase1 : iv 155 (52 + 4 * b + 3).toNat ≠ 99) : pz_R (pz_Sh L) 205 [.inr (.inl 154), .inl b] iv (.inl (some (.inl (q_held (pz_up (iv 155) (52 + 4 * b + 3).toNat 99))))) (pz_u1 (pz_u1 iv 154 (pz_up (iv 154) 0 0)) 155 (pz_up (iv 155) (52 + 4 * b + 3).toNat 99)) := by
  intro dv cc ss
  have hk0 := hk.r0
  refine pz_G_mem (iv2 := pz_u1 (pz_u1 iv 154 (iv 154)) 155 (iv 155)) (by exact ((pz_u1_self iv 154).symm).trans (pz_u1_self (pz_u1 iv 154 (iv 154)) 155).symm) ?_
  show pz_G 205 0 [some (.inr (.inl 154)), some (.inl b)] [] (pz_Sh L, pz_u1 (pz_u1 iv 154 (iv 154)) 155 (iv 155), dv, cc, ss) (pz_P (pz_Sh L) (.inl (some (.inl (q_held (pz_up (iv 155) (52 + 4 * b + 3).toNat 99))))) (pz_u1 (pz_u1 iv 154 (pz_up (iv 154) 0 0)) 155 (pz_up (iv 155) (52 + 4 * b + 3).toNat 99)) dv cc ss)
  refine pz_G_of pz_b205_0 ?_
  refine w_loc rfl ?_
  refine w_pure rfl ?_
  refine w_loc rfl ?_
  refine w_getR (q := 155) is_154 rf_154_1 ?_
  refine w_pure rfl ?_
  refine w_iald (v := (iv 155) 1) is_155 ln_155 ⟨by omega, by omega⟩ rfl ?_
  refine w_pure rfl ?_
  refine w_isub (by omega) ?_
  have hc1 : pz_R (pz_Sh L) 190 [.inl b, .inl 0, .inl (((iv 155) 1) - 1)] (pz_u1 (pz_u1 iv 154 (iv 154)) 155 (iv 155)) (.inl (some (.inl (pz_bi (0 ≤ b ∧ b ≤ (((iv 155) 1) - 1)))))) (pz_u1 (pz_u1 iv 154 (iv 154)) 155 (iv 155)) := s_X11_in b 0 (((iv 155) 1) - 1)
  refine w_call hc1 rfl rfl ?_
  refine w_bne (fun h2 => ?_) (fun h2 => ?_)
  · first
    | (exfalso; first | omega | contradiction)
    | (refine pz_G_of pz_b205_22 ?_
       refine w_loc rfl ?_
       refine w_loc rfl ?_
       have hc3 : pz_R (pz_Sh L) 202 [.inr (.inl 154), .inl b] (pz_u1 (pz_u1 iv 154 (iv 154)) 155 (iv 155)) (.inl (some (.inl (pz_bi ((iv 155) (52 + 4 * b + 3).toNat = 99))))) (pz_u1 (pz_u1 iv 154 (iv 154)) 155 (iv 155)) := s_X11_isDropped b (by show 0 ≤ b ∧ b ≤ 39; omega)
       refine w_call hc3 rfl (pz_cokI is_154 rfl) ?_
       refine w_beq (fun h4 => ?_) (fun h4 => ?_)
       · first
         | (exfalso; first | omega | contradiction)
         | (refine pz_G_of pz_b205_36 ?_
            refine w_loc rfl ?_
            refine w_getR (q := 155) is_154 rf_154_1 ?_
            refine w_pure rfl ?_
            refine w_pure rfl ?_
            refine w_loc rfl ?_
            refine w_imul (by omega) ?_
            refine w_iadd (by omega) ?_
            refine w_pure rfl ?_
            refine w_iadd (by omega) ?_
            refine w_pure rfl ?_
            refine w_iastm (iv2 := pz_u1 (pz_u1 iv 154 (iv 154)) 155 (pz_up (iv 155) ((52 + (4 * b)) + 3).toNat 99)) is_155 ln_155 ⟨by omega, by omega⟩ (by exact pz_u2_top _ _ _ _ _) ?_
            refine w_loc rfl ?_
            refine w_loc rfl ?_
            have hc5 : pz_R (pz_Sh L) 204 [.inr (.inl 154)] (pz_u1 (pz_u1 iv 154 (iv 154)) 155 (pz_up (iv 155) ((52 + (4 * b)) + 3).toNat 99)) (.inl (some (.inl (q_held (pz_up (iv 155) ((52 + (4 * b)) + 3).toNat 99))))) (pz_u1 (pz_u1 iv 154 (iv 154)) 155 (pz_up (iv 155) ((52 + (4 * b)) + 3).toNat 99)) := s_X11_held (by show q_KR (pz_up (iv 155) ((52 + (4 * b)) + 3).toNat 99); first | exact hk | exact q_KR_drop hk (by omega) (by omega))
            refine w_call hc5 rfl (pz_cokI is_154 rfl) ?_
            have hc6 : pz_R (pz_Sh L) 192 [.inr (.inl 154), .inl (q_held (pz_up (iv 155) ((52 + (4 * b)) + 3).toNat 99))] (pz_u1 (pz_u1 iv 154 (iv 154)) 155 (pz_up (iv 155) ((52 + (4 * b)) + 3).toNat 99)) (.inl (some (.inl (q_held (pz_up (iv 155) ((52 + (4 * b)) + 3).toNat 99))))) (pz_u1 (pz_u1 iv 154 (pz_up (iv 154) 0 0)) 155 (pz_up (iv 155) ((52 + (4 * b)) + 3).toNat 99)) := pz_R_mem (s_X11_tells (q_held (pz_up (iv 155) ((52 + (4 * b)) + 3).toNat 99))) (by rw [pz_u1_in (r := 154) (q := 155) (by decide)]; rw [pz_u1_top (r := 154)]; rfl)
            refine w_call hc6 rfl (pz_cokI is_154 rfl) ?_
            refine w_ret rfl ?_
            first | exact lf_i (by first | rfl | omega) (by rfl) | (exfalso; omega))
       · first
         | (exfalso; first | omega | contradiction)
         | (refine w_loc rfl ?_
            refine w_pure rfl ?_
            have hc7 : pz_R (pz_Sh L) 191 [.inr (.inl 154), .inl 2] (pz_u1 (pz_u1 iv 154 (iv 154)) 155 (iv 155)) (.inl (some (.inl 0))) (pz_u1 (pz_u1 iv 154 (pz_up (iv 154) 0 2)) 155 (iv 155)) := pz_R_mem (s_X11_fails 2) (by rw [pz_u1_in (r := 154) (q := 155) (by decide)]; rw [pz_u1_top (r := 154)]; rfl)
            refine w_call hc7 rfl (pz_cokI is_154 rfl) ?_
            refine w_ret rfl ?_
            first | exact lf_i (by first | rfl | omega) (by rfl) | (exfalso; omega)))
  · first
    | (exfalso; first | omega | contradiction)
    | (refine w_loc rfl ?_
       refine w_pure rfl ?_
       have hc8 : pz_R (pz_Sh L) 191 [.inr (.inl 154), .inl 1] (pz_u1 (pz_u1 iv 154 (iv 154)) 155 (iv 155)) (.inl (some (.inl 0))) (pz_u1 (pz_u1 iv 154 (pz_up (iv 154) 0 1)) 155 (iv 155)) := pz_R_mem (s_X11_fails 1) (by rw [pz_u1_in (r := 154) (q := 155) (by decide)]; rw [pz_u1_top (r := 154)]; rfl)
       refine w_call hc8 rfl (pz_cokI is_154 rfl) ?_
       refine w_ret rfl ?_
       first | exact lf_i (by first | rfl | omega) (by rfl) | (exfalso; omega))

theorem s_X11_observe_1 {L : Nat} {iv : Nat → Nat → Int} (l : Int) (z : Int) (hk : q_KR (iv 155)) (hcase0 : z = 0 ∨ z = 1) (hcase1 : ¬ (1 ≤ l ∧ l ≤ 4)) : pz_R (pz_Sh L) 215 [.inr (.inl 154), .inl l, .inl z] iv (.inl (some (.inl 0))) (pz_u1 (pz_u1 iv 154 (pz_up (iv 154) 0 1)) 155 (iv 155)) := by
  intro dv cc ss
  have hk0 := hk.r0
  refine pz_G_mem (iv2 := pz_u1 (pz_u1 iv 154 (iv 154)) 155 (iv 155)) (by exact ((pz_u1_self iv 154).symm).trans (pz_u1_self (pz_u1 iv 154 (iv 154)) 155).symm) ?_
  show pz_G 215 0 [some (.inr (.inl 154)), some (.inl l), some (.inl z)] [] (pz_Sh L, pz_u1 (pz_u1 iv 154 (iv 154)) 155 (iv 155), dv, cc, ss) (pz_P (pz_Sh L) (.inl (some (.inl 0))) (pz_u1 (pz_u1 iv 154 (pz_up (iv 154) 0 1)) 155 (iv 155)) dv cc ss)
  refine pz_G_of pz_b215_0 ?_
  refine w_loc rfl ?_
  have hc1 : pz_R (pz_Sh L) 213 [.inl l] (pz_u1 (pz_u1 iv 154 (iv 154)) 155 (iv 155)) (.inl (some (.inl (pz_bi (1 ≤ l ∧ l ≤ 4))))) (pz_u1 (pz_u1 iv 154 (iv 154)) 155 (iv 155)) := s_X11_isLabel l
  refine w_call hc1 rfl rfl ?_
  refine w_bne (fun h2 => ?_) (fun h2 => ?_)
  · first
    | (exfalso; first | omega | contradiction)
    | (refine pz_G_of pz_b215_13 ?_
       refine w_loc rfl ?_
       refine w_loc rfl ?_
       have hc3 : pz_R (pz_Sh L) 214 [.inr (.inl 154), .inl l] (pz_u1 (pz_u1 iv 154 (iv 154)) 155 (iv 155)) (.inl (some (.inl (pz_bi (q_obs (iv 155) l))))) (pz_u1 (pz_u1 iv 154 (iv 154)) 155 (iv 155)) := s_X11_isObserved l (by show 0 ≤ l ∧ l ≤ 4; omega)
       refine w_call hc3 rfl (pz_cokI is_154 rfl) ?_
       refine w_beq (fun h4 => ?_) (fun h4 => ?_)
       · first
         | (exfalso; first | omega | contradiction)
         | (refine pz_G_of pz_b215_27 ?_
            refine w_loc rfl ?_
            refine w_getR (q := 155) is_154 rf_154_1 ?_
            refine w_pure rfl ?_
            refine w_loc rfl ?_
            refine w_iadd (by omega) ?_
            refine w_loc rfl ?_
            refine w_zeq (fun h5 => ?_) (fun h5 => ?_)
            · first
              | (exfalso; first | omega | contradiction)
              | (refine pz_G_of pz_b215_44 ?_
                 refine w_pure rfl ?_
                 refine w_nil ?_
                 refine pz_G_of pz_b215_46 ?_
                 refine w_iastm (iv2 := pz_u1 (pz_u1 iv 154 (iv 154)) 155 (pz_up (iv 155) (46 + l).toNat 102)) is_155 ln_155 ⟨by omega, by omega⟩ (by exact pz_u2_top _ _ _ _ _) ?_
                 refine w_loc rfl ?_
                 refine w_loc rfl ?_
                 have hc6 : pz_R (pz_Sh L) 204 [.inr (.inl 154)] (pz_u1 (pz_u1 iv 154 (iv 154)) 155 (pz_up (iv 155) (46 + l).toNat 102)) (.inl (some (.inl (q_held (pz_up (iv 155) (46 + l).toNat 102))))) (pz_u1 (pz_u1 iv 154 (iv 154)) 155 (pz_up (iv 155) (46 + l).toNat 102)) := s_X11_held (by show q_KR (pz_up (iv 155) (46 + l).toNat 102); first | exact hk | exact q_KR_obs hk (by omega) (by omega) (by omega))
                 refine w_call hc6 rfl (pz_cokI is_154 rfl) ?_
                 have hc7 : pz_R (pz_Sh L) 192 [.inr (.inl 154), .inl (q_held (pz_up (iv 155) (46 + l).toNat 102))] (pz_u1 (pz_u1 iv 154 (iv 154)) 155 (pz_up (iv 155) (46 + l).toNat 102)) (.inl (some (.inl (q_held (pz_up (iv 155) (46 + l).toNat 102))))) (pz_u1 (pz_u1 iv 154 (pz_up (iv 154) 0 0)) 155 (pz_up (iv 155) (46 + l).toNat 102)) := pz_R_mem (s_X11_tells (q_held (pz_up (iv 155) (46 + l).toNat 102))) (by rw [pz_u1_in (r := 154) (q := 155) (by decide)]; rw [pz_u1_top (r := 154)]; rfl)
                 refine w_call hc7 rfl (pz_cokI is_154 rfl) ?_
                 refine w_ret rfl ?_
                 first | exact lf_i (by first | rfl | omega) (by rfl) | (exfalso; omega))
            · first
              | (exfalso; first | omega | contradiction)
              | (refine w_pure rfl ?_
                 refine w_goto ?_
                 refine pz_G_of pz_b215_46 ?_
                 refine w_iastm (iv2 := pz_u1 (pz_u1 iv 154 (iv 154)) 155 (pz_up (iv 155) (46 + l).toNat 116)) is_155 ln_155 ⟨by omega, by omega⟩ (by exact pz_u2_top _ _ _ _ _) ?_
                 refine w_loc rfl ?_
                 refine w_loc rfl ?_
                 have hc8 : pz_R (pz_Sh L) 204 [.inr (.inl 154)] (pz_u1 (pz_u1 iv 154 (iv 154)) 155 (pz_up (iv 155) (46 + l).toNat 116)) (.inl (some (.inl (q_held (pz_up (iv 155) (46 + l).toNat 116))))) (pz_u1 (pz_u1 iv 154 (iv 154)) 155 (pz_up (iv 155) (46 + l).toNat 116)) := s_X11_held (by show q_KR (pz_up (iv 155) (46 + l).toNat 116); first | exact hk | exact q_KR_obs hk (by omega) (by omega) (by omega))
                 refine w_call hc8 rfl (pz_cokI is_154 rfl) ?_
                 have hc9 : pz_R (pz_Sh L) 192 [.inr (.inl 154), .inl (q_held (pz_up (iv 155) (46 + l).toNat 116))] (pz_u1 (pz_u1 iv 154 (iv 154)) 155 (pz_up (iv 155) (46 + l).toNat 116)) (.inl (some (.inl (q_held (pz_up (iv 155) (46 + l).toNat 116))))) (pz_u1 (pz_u1 iv 154 (pz_up (iv 154) 0 0)) 155 (pz_up (iv 155) (46 + l).toNat 116)) := pz_R_mem (s_X11_tells (q_held (pz_up (iv 155) (46 + l).toNat 116))) (by rw [pz_u1_in (r := 154) (q := 155) (by decide)]; rw [pz_u1_top (r := 154)]; rfl)
                 refine w_call hc9 rfl (pz_cokI is_154 rfl) ?_
                 refine w_ret rfl ?_
                 first | exact lf_i (by first | rfl | omega) (by rfl) | (exfalso; omega)))
       · first
         | (exfalso; first | omega | contradiction)
         | (refine w_loc rfl ?_
            refine w_pure rfl ?_
            have hc10 : pz_R (pz_Sh L) 191 [.inr (.inl 154), .inl 2] (pz_u1 (pz_u1 iv 154 (iv 154)) 155 (iv 155)) (.inl (some (.inl 0))) (pz_u1 (pz_u1 iv 154 (pz_up (iv 154) 0 2)) 155 (iv 155)) := pz_R_mem (s_X11_fails 2) (by rw [pz_u1_in (r := 154) (q := 155) (by decide)]; rw [pz_u1_top (r := 154)]; rfl)
            refine w_call hc10 rfl (pz_cokI is_154 rfl) ?_
            refine w_ret rfl ?_
            first | exact lf_i (by first | rfl | omega) (by rfl) | (exfalso; omega)))
  · first
    | (exfalso; first | omega | contradiction)
    | (refine w_loc rfl ?_
       refine w_pure rfl ?_
       have hc11 : pz_R (pz_Sh L) 191 [.inr (.inl 154), .inl 1] (pz_u1 (pz_u1 iv 154 (iv 154)) 155 (iv 155)) (.inl (some (.inl 0))) (pz_u1 (pz_u1 iv 154 (pz_up (iv 154) 0 1)) 155 (iv 155)) := pz_R_mem (s_X11_fails 1) (by rw [pz_u1_in (r := 154) (q := 155) (by decide)]; rw [pz_u1_top (r := 154)]; rfl)
       refine w_call hc11 rfl (pz_cokI is_154 rfl) ?_
       refine w_ret rfl ?_
       first | exact lf_i (by first | rfl | omega) (by rfl) | (exfalso; omega))

theorem s_X11_observe_2 {L : Nat} {iv : Nat → Nat → Int} (l : Int) (z : Int) (hk : q_KR (iv 155)) (hcase0 : z = 0 ∨ z = 1) (hcase1 : 1 ≤ l ∧ l ≤ 4) (hcase2 : q_obs (iv 155) l) : pz_R (pz_Sh L) 215 [.inr (.inl 154), .inl l, .inl z] iv (.inl (some (.inl 0))) (pz_u1 (pz_u1 iv 154 (pz_up (iv 154) 0 2)) 155 (iv 155)) := by
  intro dv cc ss
  have hk0 := hk.r0
  refine pz_G_mem (iv2 := pz_u1 (pz_u1 iv 154 (iv 154)) 155 (iv 155)) (by exact ((pz_u1_self iv 154).symm).trans (pz_u1_self (pz_u1 iv 154 (iv 154)) 155).symm) ?_
  show pz_G 215 0 [some (.inr (.inl 154)), some (.inl l), some (.inl z)] [] (pz_Sh L, pz_u1 (pz_u1 iv 154 (iv 154)) 155 (iv 155), dv, cc, ss) (pz_P (pz_Sh L) (.inl (some (.inl 0))) (pz_u1 (pz_u1 iv 154 (pz_up (iv 154) 0 2)) 155 (iv 155)) dv cc ss)
  refine pz_G_of pz_b215_0 ?_
  refine w_loc rfl ?_
  have hc1 : pz_R (pz_Sh L) 213 [.inl l] (pz_u1 (pz_u1 iv 154 (iv 154)) 155 (iv 155)) (.inl (some (.inl (pz_bi (1 ≤ l ∧ l ≤ 4))))) (pz_u1 (pz_u1 iv 154 (iv 154)) 155 (iv 155)) := s_X11_isLabel l
  refine w_call hc1 rfl rfl ?_
  refine w_bne (fun h2 => ?_) (fun h2 => ?_)
  · first
    | (exfalso; first | omega | contradiction)
    | (refine pz_G_of pz_b215_13 ?_
       refine w_loc rfl ?_
       refine w_loc rfl ?_
       have hc3 : pz_R (pz_Sh L) 214 [.inr (.inl 154), .inl l] (pz_u1 (pz_u1 iv 154 (iv 154)) 155 (iv 155)) (.inl (some (.inl (pz_bi (q_obs (iv 155) l))))) (pz_u1 (pz_u1 iv 154 (iv 154)) 155 (iv 155)) := s_X11_isObserved l (by show 0 ≤ l ∧ l ≤ 4; omega)
       refine w_call hc3 rfl (pz_cokI is_154 rfl) ?_
       refine w_beq (fun h4 => ?_) (fun h4 => ?_)
       · first
         | (exfalso; first | omega | contradiction)
         | (refine pz_G_of pz_b215_27 ?_
            refine w_loc rfl ?_
            refine w_getR (q := 155) is_154 rf_154_1 ?_
            refine w_pure rfl ?_
            refine w_loc rfl ?_
            refine w_iadd (by omega) ?_
            refine w_loc rfl ?_
            refine w_zeq (fun h5 => ?_) (fun h5 => ?_)
            · first
              | (exfalso; first | omega | contradiction)
              | (refine pz_G_of pz_b215_44 ?_
                 refine w_pure rfl ?_
                 refine w_nil ?_
                 refine pz_G_of pz_b215_46 ?_
                 refine w_iastm (iv2 := pz_u1 (pz_u1 iv 154 (iv 154)) 155 (pz_up (iv 155) (46 + l).toNat 102)) is_155 ln_155 ⟨by omega, by omega⟩ (by exact pz_u2_top _ _ _ _ _) ?_
                 refine w_loc rfl ?_
                 refine w_loc rfl ?_
                 have hc6 : pz_R (pz_Sh L) 204 [.inr (.inl 154)] (pz_u1 (pz_u1 iv 154 (iv 154)) 155 (pz_up (iv 155) (46 + l).toNat 102)) (.inl (some (.inl (q_held (pz_up (iv 155) (46 + l).toNat 102))))) (pz_u1 (pz_u1 iv 154 (iv 154)) 155 (pz_up (iv 155) (46 + l).toNat 102)) := s_X11_held (by show q_KR (pz_up (iv 155) (46 + l).toNat 102); first | exact hk | exact q_KR_obs hk (by omega) (by omega) (by omega))
                 refine w_call hc6 rfl (pz_cokI is_154 rfl) ?_
                 have hc7 : pz_R (pz_Sh L) 192 [.inr (.inl 154), .inl (q_held (pz_up (iv 155) (46 + l).toNat 102))] (pz_u1 (pz_u1 iv 154 (iv 154)) 155 (pz_up (iv 155) (46 + l).toNat 102)) (.inl (some (.inl (q_held (pz_up (iv 155) (46 + l).toNat 102))))) (pz_u1 (pz_u1 iv 154 (pz_up (iv 154) 0 0)) 155 (pz_up (iv 155) (46 + l).toNat 102)) := pz_R_mem (s_X11_tells (q_held (pz_up (iv 155) (46 + l).toNat 102))) (by rw [pz_u1_in (r := 154) (q := 155) (by decide)]; rw [pz_u1_top (r := 154)]; rfl)
                 refine w_call hc7 rfl (pz_cokI is_154 rfl) ?_
                 refine w_ret rfl ?_
                 first | exact lf_i (by first | rfl | omega) (by rfl) | (exfalso; omega))
            · first
              | (exfalso; first | omega | contradiction)
              | (refine w_pure rfl ?_
                 refine w_goto ?_
                 refine pz_G_of pz_b215_46 ?_
                 refine w_iastm (iv2 := pz_u1 (pz_u1 iv 154 (iv 154)) 155 (pz_up (iv 155) (46 + l).toNat 116)) is_155 ln_155 ⟨by omega, by omega⟩ (by exact pz_u2_top _ _ _ _ _) ?_
                 refine w_loc rfl ?_
                 refine w_loc rfl ?_
                 have hc8 : pz_R (pz_Sh L) 204 [.inr (.inl 154)] (pz_u1 (pz_u1 iv 154 (iv 154)) 155 (pz_up (iv 155) (46 + l).toNat 116)) (.inl (some (.inl (q_held (pz_up (iv 155) (46 + l).toNat 116))))) (pz_u1 (pz_u1 iv 154 (iv 154)) 155 (pz_up (iv 155) (46 + l).toNat 116)) := s_X11_held (by show q_KR (pz_up (iv 155) (46 + l).toNat 116); first | exact hk | exact q_KR_obs hk (by omega) (by omega) (by omega))
                 refine w_call hc8 rfl (pz_cokI is_154 rfl) ?_
                 have hc9 : pz_R (pz_Sh L) 192 [.inr (.inl 154), .inl (q_held (pz_up (iv 155) (46 + l).toNat 116))] (pz_u1 (pz_u1 iv 154 (iv 154)) 155 (pz_up (iv 155) (46 + l).toNat 116)) (.inl (some (.inl (q_held (pz_up (iv 155) (46 + l).toNat 116))))) (pz_u1 (pz_u1 iv 154 (pz_up (iv 154) 0 0)) 155 (pz_up (iv 155) (46 + l).toNat 116)) := pz_R_mem (s_X11_tells (q_held (pz_up (iv 155) (46 + l).toNat 116))) (by rw [pz_u1_in (r := 154) (q := 155) (by decide)]; rw [pz_u1_top (r := 154)]; rfl)
                 refine w_call hc9 rfl (pz_cokI is_154 rfl) ?_
                 refine w_ret rfl ?_
                 first | exact lf_i (by first | rfl | omega) (by rfl) | (exfalso; omega)))
       · first
         | (exfalso; first | omega | contradiction)
         | (refine w_loc rfl ?_
            refine w_pure rfl ?_
            have hc10 : pz_R (pz_Sh L) 191 [.inr (.inl 154), .inl 2] (pz_u1 (pz_u1 iv 154 (iv 154)) 155 (iv 155)) (.inl (some (.inl 0))) (pz_u1 (pz_u1 iv 154 (pz_up (iv 154) 0 2)) 155 (iv 155)) := pz_R_mem (s_X11_fails 2) (by rw [pz_u1_in (r := 154) (q := 155) (by decide)]; rw [pz_u1_top (r := 154)]; rfl)
            refine w_call hc10 rfl (pz_cokI is_154 rfl) ?_
            refine w_ret rfl ?_
            first | exact lf_i (by first | rfl | omega) (by rfl) | (exfalso; omega)))
  · first
    | (exfalso; first | omega | contradiction)
    | (refine w_loc rfl ?_
       refine w_pure rfl ?_
       have hc11 : pz_R (pz_Sh L) 191 [.inr (.inl 154), .inl 1] (pz_u1 (pz_u1 iv 154 (iv 154)) 155 (iv 155)) (.inl (some (.inl 0))) (pz_u1 (pz_u1 iv 154 (pz_up (iv 154) 0 1)) 155 (iv 155)) := pz_R_mem (s_X11_fails 1) (by rw [pz_u1_in (r := 154) (q := 155) (by decide)]; rw [pz_u1_top (r := 154)]; rfl)
       refine w_call hc11 rfl (pz_cokI is_154 rfl) ?_
       refine w_ret rfl ?_
       first | exact lf_i (by first | rfl | omega) (by rfl) | (exfalso; omega))

theorem s_X11_observe_0t {L : Nat} {iv : Nat → Nat → Int} (l : Int) (z : Int) (hk : q_KR (iv 155)) (hcase0 : z = 1) (hcase1 : 1 ≤ l ∧ l ≤ 4) (hcase2 : ¬ q_obs (iv 155) l) : pz_R (pz_Sh L) 215 [.inr (.inl 154), .inl l, .inl z] iv (.inl (some (.inl (q_held (pz_up (iv 155) (46 + l).toNat 116))))) (pz_u1 (pz_u1 iv 154 (pz_up (iv 154) 0 0)) 155 (pz_up (iv 155) (46 + l).toNat 116)) := by
  intro dv cc ss
  have hk0 := hk.r0
  refine pz_G_mem (iv2 := pz_u1 (pz_u1 iv 154 (iv 154)) 155 (iv 155)) (by exact ((pz_u1_self iv 154).symm).trans (pz_u1_self (pz_u1 iv 154 (iv 154)) 155).symm) ?_
  show pz_G 215 0 [some (.inr (.inl 154)), some (.inl l), some (.inl z)] [] (pz_Sh L, pz_u1 (pz_u1 iv 154 (iv 154)) 155 (iv 155), dv, cc, ss) (pz_P (pz_Sh L) (.inl (some (.inl (q_held (pz_up (iv 155) (46 + l).toNat 116))))) (pz_u1 (pz_u1 iv 154 (pz_up (iv 154) 0 0)) 155 (pz_up (iv 155) (46 + l).toNat 116)) dv cc ss)
  refine pz_G_of pz_b215_0 ?_
  refine w_loc rfl ?_
  have hc1 : pz_R (pz_Sh L) 213 [.inl l] (pz_u1 (pz_u1 iv 154 (iv 154)) 155 (iv 155)) (.inl (some (.inl (pz_bi (1 ≤ l ∧ l ≤ 4))))) (pz_u1 (pz_u1 iv 154 (iv 154)) 155 (iv 155)) := s_X11_isLabel l
  refine w_call hc1 rfl rfl ?_
  refine w_bne (fun h2 => ?_) (fun h2 => ?_)
  · first
    | (exfalso; first | omega | contradiction)
    | (refine pz_G_of pz_b215_13 ?_
       refine w_loc rfl ?_
       refine w_loc rfl ?_
       have hc3 : pz_R (pz_Sh L) 214 [.inr (.inl 154), .inl l] (pz_u1 (pz_u1 iv 154 (iv 154)) 155 (iv 155)) (.inl (some (.inl (pz_bi (q_obs (iv 155) l))))) (pz_u1 (pz_u1 iv 154 (iv 154)) 155 (iv 155)) := s_X11_isObserved l (by show 0 ≤ l ∧ l ≤ 4; omega)
       refine w_call hc3 rfl (pz_cokI is_154 rfl) ?_
       refine w_beq (fun h4 => ?_) (fun h4 => ?_)
       · first
         | (exfalso; first | omega | contradiction)
         | (refine pz_G_of pz_b215_27 ?_
            refine w_loc rfl ?_
            refine w_getR (q := 155) is_154 rf_154_1 ?_
            refine w_pure rfl ?_
            refine w_loc rfl ?_
            refine w_iadd (by omega) ?_
            refine w_loc rfl ?_
            refine w_zeq (fun h5 => ?_) (fun h5 => ?_)
            · first
              | (exfalso; first | omega | contradiction)
              | (refine pz_G_of pz_b215_44 ?_
                 refine w_pure rfl ?_
                 refine w_nil ?_
                 refine pz_G_of pz_b215_46 ?_
                 refine w_iastm (iv2 := pz_u1 (pz_u1 iv 154 (iv 154)) 155 (pz_up (iv 155) (46 + l).toNat 102)) is_155 ln_155 ⟨by omega, by omega⟩ (by exact pz_u2_top _ _ _ _ _) ?_
                 refine w_loc rfl ?_
                 refine w_loc rfl ?_
                 have hc6 : pz_R (pz_Sh L) 204 [.inr (.inl 154)] (pz_u1 (pz_u1 iv 154 (iv 154)) 155 (pz_up (iv 155) (46 + l).toNat 102)) (.inl (some (.inl (q_held (pz_up (iv 155) (46 + l).toNat 102))))) (pz_u1 (pz_u1 iv 154 (iv 154)) 155 (pz_up (iv 155) (46 + l).toNat 102)) := s_X11_held (by show q_KR (pz_up (iv 155) (46 + l).toNat 102); first | exact hk | exact q_KR_obs hk (by omega) (by omega) (by omega))
                 refine w_call hc6 rfl (pz_cokI is_154 rfl) ?_
                 have hc7 : pz_R (pz_Sh L) 192 [.inr (.inl 154), .inl (q_held (pz_up (iv 155) (46 + l).toNat 102))] (pz_u1 (pz_u1 iv 154 (iv 154)) 155 (pz_up (iv 155) (46 + l).toNat 102)) (.inl (some (.inl (q_held (pz_up (iv 155) (46 + l).toNat 102))))) (pz_u1 (pz_u1 iv 154 (pz_up (iv 154) 0 0)) 155 (pz_up (iv 155) (46 + l).toNat 102)) := pz_R_mem (s_X11_tells (q_held (pz_up (iv 155) (46 + l).toNat 102))) (by rw [pz_u1_in (r := 154) (q := 155) (by decide)]; rw [pz_u1_top (r := 154)]; rfl)
                 refine w_call hc7 rfl (pz_cokI is_154 rfl) ?_
                 refine w_ret rfl ?_
                 first | exact lf_i (by first | rfl | omega) (by rfl) | (exfalso; omega))
            · first
              | (exfalso; first | omega | contradiction)
              | (refine w_pure rfl ?_
                 refine w_goto ?_
                 refine pz_G_of pz_b215_46 ?_
                 refine w_iastm (iv2 := pz_u1 (pz_u1 iv 154 (iv 154)) 155 (pz_up (iv 155) (46 + l).toNat 116)) is_155 ln_155 ⟨by omega, by omega⟩ (by exact pz_u2_top _ _ _ _ _) ?_
                 refine w_loc rfl ?_
                 refine w_loc rfl ?_
                 have hc8 : pz_R (pz_Sh L) 204 [.inr (.inl 154)] (pz_u1 (pz_u1 iv 154 (iv 154)) 155 (pz_up (iv 155) (46 + l).toNat 116)) (.inl (some (.inl (q_held (pz_up (iv 155) (46 + l).toNat 116))))) (pz_u1 (pz_u1 iv 154 (iv 154)) 155 (pz_up (iv 155) (46 + l).toNat 116)) := s_X11_held (by show q_KR (pz_up (iv 155) (46 + l).toNat 116); first | exact hk | exact q_KR_obs hk (by omega) (by omega) (by omega))
                 refine w_call hc8 rfl (pz_cokI is_154 rfl) ?_
                 have hc9 : pz_R (pz_Sh L) 192 [.inr (.inl 154), .inl (q_held (pz_up (iv 155) (46 + l).toNat 116))] (pz_u1 (pz_u1 iv 154 (iv 154)) 155 (pz_up (iv 155) (46 + l).toNat 116)) (.inl (some (.inl (q_held (pz_up (iv 155) (46 + l).toNat 116))))) (pz_u1 (pz_u1 iv 154 (pz_up (iv 154) 0 0)) 155 (pz_up (iv 155) (46 + l).toNat 116)) := pz_R_mem (s_X11_tells (q_held (pz_up (iv 155) (46 + l).toNat 116))) (by rw [pz_u1_in (r := 154) (q := 155) (by decide)]; rw [pz_u1_top (r := 154)]; rfl)
                 refine w_call hc9 rfl (pz_cokI is_154 rfl) ?_
                 refine w_ret rfl ?_
                 first | exact lf_i (by first | rfl | omega) (by rfl) | (exfalso; omega)))
       · first
         | (exfalso; first | omega | contradiction)
         | (refine w_loc rfl ?_
            refine w_pure rfl ?_
            have hc10 : pz_R (pz_Sh L) 191 [.inr (.inl 154), .inl 2] (pz_u1 (pz_u1 iv 154 (iv 154)) 155 (iv 155)) (.inl (some (.inl 0))) (pz_u1 (pz_u1 iv 154 (pz_up (iv 154) 0 2)) 155 (iv 155)) := pz_R_mem (s_X11_fails 2) (by rw [pz_u1_in (r := 154) (q := 155) (by decide)]; rw [pz_u1_top (r := 154)]; rfl)
            refine w_call hc10 rfl (pz_cokI is_154 rfl) ?_
            refine w_ret rfl ?_
            first | exact lf_i (by first | rfl | omega) (by rfl) | (exfalso; omega)))
  · first
    | (exfalso; first | omega | contradiction)
    | (refine w_loc rfl ?_
       refine w_pure rfl ?_
       have hc11 : pz_R (pz_Sh L) 191 [.inr (.inl 154), .inl 1] (pz_u1 (pz_u1 iv 154 (iv 154)) 155 (iv 155)) (.inl (some (.inl 0))) (pz_u1 (pz_u1 iv 154 (pz_up (iv 154) 0 1)) 155 (iv 155)) := pz_R_mem (s_X11_fails 1) (by rw [pz_u1_in (r := 154) (q := 155) (by decide)]; rw [pz_u1_top (r := 154)]; rfl)
       refine w_call hc11 rfl (pz_cokI is_154 rfl) ?_
       refine w_ret rfl ?_
       first | exact lf_i (by first | rfl | omega) (by rfl) | (exfalso; omega))

theorem s_X11_observe_0f {L : Nat} {iv : Nat → Nat → Int} (l : Int) (z : Int) (hk : q_KR (iv 155)) (hcase0 : z = 0) (hcase1 : 1 ≤ l ∧ l ≤ 4) (hcase2 : ¬ q_obs (iv 155) l) : pz_R (pz_Sh L) 215 [.inr (.inl 154), .inl l, .inl z] iv (.inl (some (.inl (q_held (pz_up (iv 155) (46 + l).toNat 102))))) (pz_u1 (pz_u1 iv 154 (pz_up (iv 154) 0 0)) 155 (pz_up (iv 155) (46 + l).toNat 102)) := by
  intro dv cc ss
  have hk0 := hk.r0
  refine pz_G_mem (iv2 := pz_u1 (pz_u1 iv 154 (iv 154)) 155 (iv 155)) (by exact ((pz_u1_self iv 154).symm).trans (pz_u1_self (pz_u1 iv 154 (iv 154)) 155).symm) ?_
  show pz_G 215 0 [some (.inr (.inl 154)), some (.inl l), some (.inl z)] [] (pz_Sh L, pz_u1 (pz_u1 iv 154 (iv 154)) 155 (iv 155), dv, cc, ss) (pz_P (pz_Sh L) (.inl (some (.inl (q_held (pz_up (iv 155) (46 + l).toNat 102))))) (pz_u1 (pz_u1 iv 154 (pz_up (iv 154) 0 0)) 155 (pz_up (iv 155) (46 + l).toNat 102)) dv cc ss)
  refine pz_G_of pz_b215_0 ?_
  refine w_loc rfl ?_
  have hc1 : pz_R (pz_Sh L) 213 [.inl l] (pz_u1 (pz_u1 iv 154 (iv 154)) 155 (iv 155)) (.inl (some (.inl (pz_bi (1 ≤ l ∧ l ≤ 4))))) (pz_u1 (pz_u1 iv 154 (iv 154)) 155 (iv 155)) := s_X11_isLabel l
  refine w_call hc1 rfl rfl ?_
  refine w_bne (fun h2 => ?_) (fun h2 => ?_)
  · first
    | (exfalso; first | omega | contradiction)
    | (refine pz_G_of pz_b215_13 ?_
       refine w_loc rfl ?_
       refine w_loc rfl ?_
       have hc3 : pz_R (pz_Sh L) 214 [.inr (.inl 154), .inl l] (pz_u1 (pz_u1 iv 154 (iv 154)) 155 (iv 155)) (.inl (some (.inl (pz_bi (q_obs (iv 155) l))))) (pz_u1 (pz_u1 iv 154 (iv 154)) 155 (iv 155)) := s_X11_isObserved l (by show 0 ≤ l ∧ l ≤ 4; omega)
       refine w_call hc3 rfl (pz_cokI is_154 rfl) ?_
       refine w_beq (fun h4 => ?_) (fun h4 => ?_)
       · first
         | (exfalso; first | omega | contradiction)
         | (refine pz_G_of pz_b215_27 ?_
            refine w_loc rfl ?_
            refine w_getR (q := 155) is_154 rf_154_1 ?_
            refine w_pure rfl ?_
            refine w_loc rfl ?_
            refine w_iadd (by omega) ?_
            refine w_loc rfl ?_
            refine w_zeq (fun h5 => ?_) (fun h5 => ?_)
            · first
              | (exfalso; first | omega | contradiction)
              | (refine pz_G_of pz_b215_44 ?_
                 refine w_pure rfl ?_
                 refine w_nil ?_
                 refine pz_G_of pz_b215_46 ?_
                 refine w_iastm (iv2 := pz_u1 (pz_u1 iv 154 (iv 154)) 155 (pz_up (iv 155) (46 + l).toNat 102)) is_155 ln_155 ⟨by omega, by omega⟩ (by exact pz_u2_top _ _ _ _ _) ?_
                 refine w_loc rfl ?_
                 refine w_loc rfl ?_
                 have hc6 : pz_R (pz_Sh L) 204 [.inr (.inl 154)] (pz_u1 (pz_u1 iv 154 (iv 154)) 155 (pz_up (iv 155) (46 + l).toNat 102)) (.inl (some (.inl (q_held (pz_up (iv 155) (46 + l).toNat 102))))) (pz_u1 (pz_u1 iv 154 (iv 154)) 155 (pz_up (iv 155) (46 + l).toNat 102)) := s_X11_held (by show q_KR (pz_up (iv 155) (46 + l).toNat 102); first | exact hk | exact q_KR_obs hk (by omega) (by omega) (by omega))
                 refine w_call hc6 rfl (pz_cokI is_154 rfl) ?_
                 have hc7 : pz_R (pz_Sh L) 192 [.inr (.inl 154), .inl (q_held (pz_up (iv 155) (46 + l).toNat 102))] (pz_u1 (pz_u1 iv 154 (iv 154)) 155 (pz_up (iv 155) (46 + l).toNat 102)) (.inl (some (.inl (q_held (pz_up (iv 155) (46 + l).toNat 102))))) (pz_u1 (pz_u1 iv 154 (pz_up (iv 154) 0 0)) 155 (pz_up (iv 155) (46 + l).toNat 102)) := pz_R_mem (s_X11_tells (q_held (pz_up (iv 155) (46 + l).toNat 102))) (by rw [pz_u1_in (r := 154) (q := 155) (by decide)]; rw [pz_u1_top (r := 154)]; rfl)
                 refine w_call hc7 rfl (pz_cokI is_154 rfl) ?_
                 refine w_ret rfl ?_
                 first | exact lf_i (by first | rfl | omega) (by rfl) | (exfalso; omega))
            · first
              | (exfalso; first | omega | contradiction)
              | (refine w_pure rfl ?_
                 refine w_goto ?_
                 refine pz_G_of pz_b215_46 ?_
                 refine w_iastm (iv2 := pz_u1 (pz_u1 iv 154 (iv 154)) 155 (pz_up (iv 155) (46 + l).toNat 116)) is_155 ln_155 ⟨by omega, by omega⟩ (by exact pz_u2_top _ _ _ _ _) ?_
                 refine w_loc rfl ?_
                 refine w_loc rfl ?_
                 have hc8 : pz_R (pz_Sh L) 204 [.inr (.inl 154)] (pz_u1 (pz_u1 iv 154 (iv 154)) 155 (pz_up (iv 155) (46 + l).toNat 116)) (.inl (some (.inl (q_held (pz_up (iv 155) (46 + l).toNat 116))))) (pz_u1 (pz_u1 iv 154 (iv 154)) 155 (pz_up (iv 155) (46 + l).toNat 116)) := s_X11_held (by show q_KR (pz_up (iv 155) (46 + l).toNat 116); first | exact hk | exact q_KR_obs hk (by omega) (by omega) (by omega))
                 refine w_call hc8 rfl (pz_cokI is_154 rfl) ?_
                 have hc9 : pz_R (pz_Sh L) 192 [.inr (.inl 154), .inl (q_held (pz_up (iv 155) (46 + l).toNat 116))] (pz_u1 (pz_u1 iv 154 (iv 154)) 155 (pz_up (iv 155) (46 + l).toNat 116)) (.inl (some (.inl (q_held (pz_up (iv 155) (46 + l).toNat 116))))) (pz_u1 (pz_u1 iv 154 (pz_up (iv 154) 0 0)) 155 (pz_up (iv 155) (46 + l).toNat 116)) := pz_R_mem (s_X11_tells (q_held (pz_up (iv 155) (46 + l).toNat 116))) (by rw [pz_u1_in (r := 154) (q := 155) (by decide)]; rw [pz_u1_top (r := 154)]; rfl)
                 refine w_call hc9 rfl (pz_cokI is_154 rfl) ?_
                 refine w_ret rfl ?_
                 first | exact lf_i (by first | rfl | omega) (by rfl) | (exfalso; omega)))
       · first
         | (exfalso; first | omega | contradiction)
         | (refine w_loc rfl ?_
            refine w_pure rfl ?_
            have hc10 : pz_R (pz_Sh L) 191 [.inr (.inl 154), .inl 2] (pz_u1 (pz_u1 iv 154 (iv 154)) 155 (iv 155)) (.inl (some (.inl 0))) (pz_u1 (pz_u1 iv 154 (pz_up (iv 154) 0 2)) 155 (iv 155)) := pz_R_mem (s_X11_fails 2) (by rw [pz_u1_in (r := 154) (q := 155) (by decide)]; rw [pz_u1_top (r := 154)]; rfl)
            refine w_call hc10 rfl (pz_cokI is_154 rfl) ?_
            refine w_ret rfl ?_
            first | exact lf_i (by first | rfl | omega) (by rfl) | (exfalso; omega)))
  · first
    | (exfalso; first | omega | contradiction)
    | (refine w_loc rfl ?_
       refine w_pure rfl ?_
       have hc11 : pz_R (pz_Sh L) 191 [.inr (.inl 154), .inl 1] (pz_u1 (pz_u1 iv 154 (iv 154)) 155 (iv 155)) (.inl (some (.inl 0))) (pz_u1 (pz_u1 iv 154 (pz_up (iv 154) 0 1)) 155 (iv 155)) := pz_R_mem (s_X11_fails 1) (by rw [pz_u1_in (r := 154) (q := 155) (by decide)]; rw [pz_u1_top (r := 154)]; rfl)
       refine w_call hc11 rfl (pz_cokI is_154 rfl) ?_
       refine w_ret rfl ?_
       first | exact lf_i (by first | rfl | omega) (by rfl) | (exfalso; omega))

theorem s_X11_labelOf_1 {L : Nat} {iv : Nat → Nat → Int} (l : Int) (hk : q_KR (iv 155)) (hcase0 : ¬ (1 ≤ l ∧ l ≤ 4)) : pz_R (pz_Sh L) 221 [.inr (.inl 154), .inl l] iv (.inl (some (.inl 32))) (pz_u1 iv 154 (pz_up (iv 154) 0 1)) := by
  intro dv cc ss
  have hk0 := hk.r0
  have hlb := fun h1 h2 => hk.lb (l := l) h1 h2
  refine pz_G_mem (iv2 := pz_u1 iv 154 (iv 154)) (by exact (pz_u1_self iv 154).symm) ?_
  show pz_G 221 0 [some (.inr (.inl 154)), some (.inl l)] [] (pz_Sh L, pz_u1 iv 154 (iv 154), dv, cc, ss) (pz_P (pz_Sh L) (.inl (some (.inl 32))) (pz_u1 iv 154 (pz_up (iv 154) 0 1)) dv cc ss)
  refine pz_G_of pz_b221_0 ?_
  refine w_loc rfl ?_
  refine w_loc rfl ?_
  have hc1 : pz_R (pz_Sh L) 213 [.inl l] (pz_u1 iv 154 (iv 154)) (.inl (some (.inl (pz_bi (1 ≤ l ∧ l ≤ 4))))) (pz_u1 iv 154 (iv 154)) := s_X11_isLabel l
  refine w_call hc1 rfl rfl ?_
  refine w_beq (fun h2 => ?_) (fun h2 => ?_)
  · first
    | (exfalso; first | omega | contradiction)
    | (refine pz_G_of pz_b221_12 ?_
       refine w_pure rfl ?_
       refine w_nil ?_
       refine pz_G_of pz_b221_13 ?_
       refine w_putIm (iv2 := pz_u1 iv 154 (pz_up (iv 154) 0 1)) is_154 pz_fit0 (by exact pz_u2_top _ _ _ _ _) ?_
       refine w_loc rfl ?_
       refine w_getI (v := 1) is_154 (by decide) rfl ?_
       refine w_zne (fun h3 => ?_) (fun h3 => ?_)
       · first
         | (exfalso; first | omega | contradiction)
         | (refine pz_G_of pz_b221_36 ?_
            refine w_pure rfl ?_
            refine w_nil ?_
            refine pz_G_of pz_b221_38 ?_
            refine w_ret (pz_rok2 (by omega)) ?_
            first | exact lf_i (by first | rfl | omega) (by rfl) | (exfalso; omega))
       · first
         | (exfalso; first | omega | contradiction)
         | (refine w_loc rfl ?_
            refine w_getR (q := 155) is_154 rf_154_1 ?_
            refine w_pure rfl ?_
            refine w_loc rfl ?_
            refine w_iadd (by omega) ?_
            refine w_iald (v := (iv 155) (46 + l).toNat) is_155 ln_155 ⟨by omega, by omega⟩ rfl ?_
            refine w_i2c (by omega) ?_
            refine w_goto ?_
            refine pz_G_of pz_b221_38 ?_
            refine w_ret (pz_rok2 (by omega)) ?_
            first | exact lf_i (by first | rfl | omega) (by rfl) | (exfalso; omega)))
  · first
    | (exfalso; first | omega | contradiction)
    | (refine w_pure rfl ?_
       refine w_goto ?_
       refine pz_G_of pz_b221_13 ?_
       refine w_putIm (iv2 := pz_u1 iv 154 (pz_up (iv 154) 0 0)) is_154 pz_fit0 (by exact pz_u2_top _ _ _ _ _) ?_
       refine w_loc rfl ?_
       refine w_getI (v := 0) is_154 (by decide) rfl ?_
       refine w_zne (fun h4 => ?_) (fun h4 => ?_)
       · first
         | (exfalso; first | omega | contradiction)
         | (refine pz_G_of pz_b221_36 ?_
            refine w_pure rfl ?_
            refine w_nil ?_
            refine pz_G_of pz_b221_38 ?_
            refine w_ret (pz_rok2 (by omega)) ?_
            first | exact lf_i (by first | rfl | omega) (by rfl) | (exfalso; omega))
       · first
         | (exfalso; first | omega | contradiction)
         | (refine w_loc rfl ?_
            refine w_getR (q := 155) is_154 rf_154_1 ?_
            refine w_pure rfl ?_
            refine w_loc rfl ?_
            refine w_iadd (by omega) ?_
            refine w_iald (v := (iv 155) (46 + l).toNat) is_155 ln_155 ⟨by omega, by omega⟩ rfl ?_
            refine w_i2c (by omega) ?_
            refine w_goto ?_
            refine pz_G_of pz_b221_38 ?_
            refine w_ret (pz_rok2 (by omega)) ?_
            first | exact lf_i (by first | rfl | omega) (by rfl) | (exfalso; omega)))

theorem s_X11_labelOf_0 {L : Nat} {iv : Nat → Nat → Int} (l : Int) (hk : q_KR (iv 155)) (hcase0 : 1 ≤ l ∧ l ≤ 4) : pz_R (pz_Sh L) 221 [.inr (.inl 154), .inl l] iv (.inl (some (.inl ((iv 155) (46 + l).toNat)))) (pz_u1 iv 154 (pz_up (iv 154) 0 0)) := by
  intro dv cc ss
  have hk0 := hk.r0
  have hlb := fun h1 h2 => hk.lb (l := l) h1 h2
  refine pz_G_mem (iv2 := pz_u1 iv 154 (iv 154)) (by exact (pz_u1_self iv 154).symm) ?_
  show pz_G 221 0 [some (.inr (.inl 154)), some (.inl l)] [] (pz_Sh L, pz_u1 iv 154 (iv 154), dv, cc, ss) (pz_P (pz_Sh L) (.inl (some (.inl ((iv 155) (46 + l).toNat)))) (pz_u1 iv 154 (pz_up (iv 154) 0 0)) dv cc ss)
  refine pz_G_of pz_b221_0 ?_
  refine w_loc rfl ?_
  refine w_loc rfl ?_
  have hc1 : pz_R (pz_Sh L) 213 [.inl l] (pz_u1 iv 154 (iv 154)) (.inl (some (.inl (pz_bi (1 ≤ l ∧ l ≤ 4))))) (pz_u1 iv 154 (iv 154)) := s_X11_isLabel l
  refine w_call hc1 rfl rfl ?_
  refine w_beq (fun h2 => ?_) (fun h2 => ?_)
  · first
    | (exfalso; first | omega | contradiction)
    | (refine pz_G_of pz_b221_12 ?_
       refine w_pure rfl ?_
       refine w_nil ?_
       refine pz_G_of pz_b221_13 ?_
       refine w_putIm (iv2 := pz_u1 iv 154 (pz_up (iv 154) 0 1)) is_154 pz_fit0 (by exact pz_u2_top _ _ _ _ _) ?_
       refine w_loc rfl ?_
       refine w_getI (v := 1) is_154 (by decide) rfl ?_
       refine w_zne (fun h3 => ?_) (fun h3 => ?_)
       · first
         | (exfalso; first | omega | contradiction)
         | (refine pz_G_of pz_b221_36 ?_
            refine w_pure rfl ?_
            refine w_nil ?_
            refine pz_G_of pz_b221_38 ?_
            refine w_ret (pz_rok2 (by omega)) ?_
            first | exact lf_i (by first | rfl | omega) (by rfl) | (exfalso; omega))
       · first
         | (exfalso; first | omega | contradiction)
         | (refine w_loc rfl ?_
            refine w_getR (q := 155) is_154 rf_154_1 ?_
            refine w_pure rfl ?_
            refine w_loc rfl ?_
            refine w_iadd (by omega) ?_
            refine w_iald (v := (iv 155) (46 + l).toNat) is_155 ln_155 ⟨by omega, by omega⟩ rfl ?_
            refine w_i2c (by omega) ?_
            refine w_goto ?_
            refine pz_G_of pz_b221_38 ?_
            refine w_ret (pz_rok2 (by omega)) ?_
            first | exact lf_i (by first | rfl | omega) (by rfl) | (exfalso; omega)))
  · first
    | (exfalso; first | omega | contradiction)
    | (refine w_pure rfl ?_
       refine w_goto ?_
       refine pz_G_of pz_b221_13 ?_
       refine w_putIm (iv2 := pz_u1 iv 154 (pz_up (iv 154) 0 0)) is_154 pz_fit0 (by exact pz_u2_top _ _ _ _ _) ?_
       refine w_loc rfl ?_
       refine w_getI (v := 0) is_154 (by decide) rfl ?_
       refine w_zne (fun h4 => ?_) (fun h4 => ?_)
       · first
         | (exfalso; first | omega | contradiction)
         | (refine pz_G_of pz_b221_36 ?_
            refine w_pure rfl ?_
            refine w_nil ?_
            refine pz_G_of pz_b221_38 ?_
            refine w_ret (pz_rok2 (by omega)) ?_
            first | exact lf_i (by first | rfl | omega) (by rfl) | (exfalso; omega))
       · first
         | (exfalso; first | omega | contradiction)
         | (refine w_loc rfl ?_
            refine w_getR (q := 155) is_154 rf_154_1 ?_
            refine w_pure rfl ?_
            refine w_loc rfl ?_
            refine w_iadd (by omega) ?_
            refine w_iald (v := (iv 155) (46 + l).toNat) is_155 ln_155 ⟨by omega, by omega⟩ rfl ?_
            refine w_i2c (by omega) ?_
            refine w_goto ?_
            refine pz_G_of pz_b221_38 ?_
            refine w_ret (pz_rok2 (by omega)) ?_
            first | exact lf_i (by first | rfl | omega) (by rfl) | (exfalso; omega)))

theorem s_X11_now {L : Nat} {iv : Nat → Nat → Int} (hk : q_KR (iv 155)) : pz_R (pz_Sh L) 276 [.inr (.inl 154)] iv (.inl (some (.inl ((iv 155) 4)))) (pz_u1 iv 154 (pz_up (iv 154) 0 0)) := by
  intro dv cc ss
  have hk0 := hk.r0
  refine pz_G_mem (iv2 := pz_u1 iv 154 (iv 154)) (by exact (pz_u1_self iv 154).symm) ?_
  show pz_G 276 0 [some (.inr (.inl 154))] [] (pz_Sh L, pz_u1 iv 154 (iv 154), dv, cc, ss) (pz_P (pz_Sh L) (.inl (some (.inl ((iv 155) 4)))) (pz_u1 iv 154 (pz_up (iv 154) 0 0)) dv cc ss)
  refine pz_G_of pz_b276_0 ?_
  refine w_loc rfl ?_
  refine w_loc rfl ?_
  refine w_getR (q := 155) is_154 rf_154_1 ?_
  refine w_pure rfl ?_
  refine w_iald (v := (iv 155) 4) is_155 ln_155 ⟨by omega, by omega⟩ rfl ?_
  have hc1 : pz_R (pz_Sh L) 192 [.inr (.inl 154), .inl ((iv 155) 4)] (pz_u1 iv 154 (iv 154)) (.inl (some (.inl ((iv 155) 4)))) (pz_u1 iv 154 (pz_up (iv 154) 0 0)) := pz_R_mem (s_X11_tells ((iv 155) 4)) (by rw [pz_u1_top (r := 154)]; rfl)
  refine w_call hc1 rfl (pz_cokI is_154 rfl) ?_
  refine w_ret rfl ?_
  first | exact lf_i (by first | rfl | omega) (by rfl) | (exfalso; omega)

theorem s_X11_thrown {L : Nat} {iv : Nat → Nat → Int} : pz_R (pz_Sh L) 189 [.inr (.inl 154)] iv (.inl (some (.inl ((iv 154) 0)))) iv := by
  intro dv cc ss
  show pz_G 189 0 [some (.inr (.inl 154))] [] (pz_Sh L, iv, dv, cc, ss) (pz_P (pz_Sh L) (.inl (some (.inl ((iv 154) 0)))) iv dv cc ss)
  refine pz_G_of pz_b189_0 ?_
  refine w_loc rfl ?_
  refine w_getI (v := (iv 154) 0) is_154 (by decide) rfl ?_
  refine w_ret rfl ?_
  first | exact lf_i (by first | rfl | omega) (by rfl) | (exfalso; omega)

theorem s_X11_startedAt_1 {L : Nat} {iv : Nat → Nat → Int} (e : Int) (hk : q_KR (iv 155)) (hcase0 : ¬ (0 ≤ e ∧ e ≤ iv 155 0 - 1)) : pz_R (pz_Sh L) 277 [.inr (.inl 154), .inl e] iv (.inl (some (.inl 0))) (pz_u1 iv 154 (pz_up (iv 154) 0 1)) := by
  intro dv cc ss
  have hk0 := hk.r0
  refine pz_G_mem (iv2 := pz_u1 iv 154 (iv 154)) (by exact (pz_u1_self iv 154).symm) ?_
  show pz_G 277 0 [some (.inr (.inl 154)), some (.inl e)] [] (pz_Sh L, pz_u1 iv 154 (iv 154), dv, cc, ss) (pz_P (pz_Sh L) (.inl (some (.inl 0))) (pz_u1 iv 154 (pz_up (iv 154) 0 1)) dv cc ss)
  refine pz_G_of pz_b277_0 ?_
  refine w_loc rfl ?_
  refine w_loc rfl ?_
  have hc1 : pz_R (pz_Sh L) 194 [.inr (.inl 154), .inl e] (pz_u1 iv 154 (iv 154)) (.inl (some (.inl (pz_bi (0 ≤ e ∧ e ≤ (iv 155) 0 - 1))))) (pz_u1 iv 154 (iv 154)) := s_X11_isEvent e (by show q_KR (iv 155); exact hk)
  refine w_call hc1 rfl (pz_cokI is_154 rfl) ?_
  refine w_bne (fun h2 => ?_) (fun h2 => ?_)
  · first
    | (exfalso; first | omega | contradiction)
    | (refine pz_G_of pz_b277_14 ?_
       refine w_loc rfl ?_
       refine w_loc rfl ?_
       have hc3 : pz_R (pz_Sh L) 196 [.inr (.inl 154), .inl e] (pz_u1 iv 154 (iv 154)) (.inl (some (.inl (pz_bi (q_sta (iv 155) e))))) (pz_u1 iv 154 (iv 154)) := s_X11_hasStarted e (by show 0 ≤ e ∧ e ≤ 9; omega)
       refine w_call hc3 rfl (pz_cokI is_154 rfl) ?_
       refine w_beq (fun h4 => ?_) (fun h4 => ?_)
       · first
         | (exfalso; first | omega | contradiction)
         | (refine pz_G_of pz_b277_38 ?_
            refine w_loc rfl ?_
            refine w_pure rfl ?_
            have hc5 : pz_R (pz_Sh L) 191 [.inr (.inl 154), .inl 2] (pz_u1 iv 154 (iv 154)) (.inl (some (.inl 0))) (pz_u1 iv 154 (pz_up (iv 154) 0 2)) := pz_R_mem (s_X11_fails 2) (by rw [pz_u1_top (r := 154)]; rfl)
            refine w_call hc5 rfl (pz_cokI is_154 rfl) ?_
            refine w_nil ?_
            refine pz_G_of pz_b277_43 ?_
            refine w_ret rfl ?_
            first | exact lf_i (by first | rfl | omega) (by rfl) | (exfalso; omega))
       · first
         | (exfalso; first | omega | contradiction)
         | (refine w_loc rfl ?_
            refine w_loc rfl ?_
            refine w_getR (q := 155) is_154 rf_154_1 ?_
            refine w_pure rfl ?_
            refine w_loc rfl ?_
            refine w_iadd (by omega) ?_
            refine w_iald (v := (iv 155) (6 + e).toNat) is_155 ln_155 ⟨by omega, by omega⟩ rfl ?_
            have hc6 : pz_R (pz_Sh L) 192 [.inr (.inl 154), .inl ((iv 155) (6 + e).toNat)] (pz_u1 iv 154 (iv 154)) (.inl (some (.inl ((iv 155) (6 + e).toNat)))) (pz_u1 iv 154 (pz_up (iv 154) 0 0)) := pz_R_mem (s_X11_tells ((iv 155) (6 + e).toNat)) (by rw [pz_u1_top (r := 154)]; rfl)
            refine w_call hc6 rfl (pz_cokI is_154 rfl) ?_
            refine w_goto ?_
            refine pz_G_of pz_b277_43 ?_
            refine w_ret rfl ?_
            first | exact lf_i (by first | rfl | omega) (by rfl) | (exfalso; omega)))
  · first
    | (exfalso; first | omega | contradiction)
    | (refine w_loc rfl ?_
       refine w_pure rfl ?_
       have hc7 : pz_R (pz_Sh L) 191 [.inr (.inl 154), .inl 1] (pz_u1 iv 154 (iv 154)) (.inl (some (.inl 0))) (pz_u1 iv 154 (pz_up (iv 154) 0 1)) := pz_R_mem (s_X11_fails 1) (by rw [pz_u1_top (r := 154)]; rfl)
       refine w_call hc7 rfl (pz_cokI is_154 rfl) ?_
       refine w_ret rfl ?_
       first | exact lf_i (by first | rfl | omega) (by rfl) | (exfalso; omega))

theorem s_X11_startedAt_2 {L : Nat} {iv : Nat → Nat → Int} (e : Int) (hk : q_KR (iv 155)) (hcase0 : 0 ≤ e ∧ e ≤ iv 155 0 - 1) (hcase1 : ¬ q_sta (iv 155) e) : pz_R (pz_Sh L) 277 [.inr (.inl 154), .inl e] iv (.inl (some (.inl 0))) (pz_u1 iv 154 (pz_up (iv 154) 0 2)) := by
  intro dv cc ss
  have hk0 := hk.r0
  refine pz_G_mem (iv2 := pz_u1 iv 154 (iv 154)) (by exact (pz_u1_self iv 154).symm) ?_
  show pz_G 277 0 [some (.inr (.inl 154)), some (.inl e)] [] (pz_Sh L, pz_u1 iv 154 (iv 154), dv, cc, ss) (pz_P (pz_Sh L) (.inl (some (.inl 0))) (pz_u1 iv 154 (pz_up (iv 154) 0 2)) dv cc ss)
  refine pz_G_of pz_b277_0 ?_
  refine w_loc rfl ?_
  refine w_loc rfl ?_
  have hc1 : pz_R (pz_Sh L) 194 [.inr (.inl 154), .inl e] (pz_u1 iv 154 (iv 154)) (.inl (some (.inl (pz_bi (0 ≤ e ∧ e ≤ (iv 155) 0 - 1))))) (pz_u1 iv 154 (iv 154)) := s_X11_isEvent e (by show q_KR (iv 155); exact hk)
  refine w_call hc1 rfl (pz_cokI is_154 rfl) ?_
  refine w_bne (fun h2 => ?_) (fun h2 => ?_)
  · first
    | (exfalso; first | omega | contradiction)
    | (refine pz_G_of pz_b277_14 ?_
       refine w_loc rfl ?_
       refine w_loc rfl ?_
       have hc3 : pz_R (pz_Sh L) 196 [.inr (.inl 154), .inl e] (pz_u1 iv 154 (iv 154)) (.inl (some (.inl (pz_bi (q_sta (iv 155) e))))) (pz_u1 iv 154 (iv 154)) := s_X11_hasStarted e (by show 0 ≤ e ∧ e ≤ 9; omega)
       refine w_call hc3 rfl (pz_cokI is_154 rfl) ?_
       refine w_beq (fun h4 => ?_) (fun h4 => ?_)
       · first
         | (exfalso; first | omega | contradiction)
         | (refine pz_G_of pz_b277_38 ?_
            refine w_loc rfl ?_
            refine w_pure rfl ?_
            have hc5 : pz_R (pz_Sh L) 191 [.inr (.inl 154), .inl 2] (pz_u1 iv 154 (iv 154)) (.inl (some (.inl 0))) (pz_u1 iv 154 (pz_up (iv 154) 0 2)) := pz_R_mem (s_X11_fails 2) (by rw [pz_u1_top (r := 154)]; rfl)
            refine w_call hc5 rfl (pz_cokI is_154 rfl) ?_
            refine w_nil ?_
            refine pz_G_of pz_b277_43 ?_
            refine w_ret rfl ?_
            first | exact lf_i (by first | rfl | omega) (by rfl) | (exfalso; omega))
       · first
         | (exfalso; first | omega | contradiction)
         | (refine w_loc rfl ?_
            refine w_loc rfl ?_
            refine w_getR (q := 155) is_154 rf_154_1 ?_
            refine w_pure rfl ?_
            refine w_loc rfl ?_
            refine w_iadd (by omega) ?_
            refine w_iald (v := (iv 155) (6 + e).toNat) is_155 ln_155 ⟨by omega, by omega⟩ rfl ?_
            have hc6 : pz_R (pz_Sh L) 192 [.inr (.inl 154), .inl ((iv 155) (6 + e).toNat)] (pz_u1 iv 154 (iv 154)) (.inl (some (.inl ((iv 155) (6 + e).toNat)))) (pz_u1 iv 154 (pz_up (iv 154) 0 0)) := pz_R_mem (s_X11_tells ((iv 155) (6 + e).toNat)) (by rw [pz_u1_top (r := 154)]; rfl)
            refine w_call hc6 rfl (pz_cokI is_154 rfl) ?_
            refine w_goto ?_
            refine pz_G_of pz_b277_43 ?_
            refine w_ret rfl ?_
            first | exact lf_i (by first | rfl | omega) (by rfl) | (exfalso; omega)))
  · first
    | (exfalso; first | omega | contradiction)
    | (refine w_loc rfl ?_
       refine w_pure rfl ?_
       have hc7 : pz_R (pz_Sh L) 191 [.inr (.inl 154), .inl 1] (pz_u1 iv 154 (iv 154)) (.inl (some (.inl 0))) (pz_u1 iv 154 (pz_up (iv 154) 0 1)) := pz_R_mem (s_X11_fails 1) (by rw [pz_u1_top (r := 154)]; rfl)
       refine w_call hc7 rfl (pz_cokI is_154 rfl) ?_
       refine w_ret rfl ?_
       first | exact lf_i (by first | rfl | omega) (by rfl) | (exfalso; omega))

theorem s_X11_startedAt_0 {L : Nat} {iv : Nat → Nat → Int} (e : Int) (hk : q_KR (iv 155)) (hcase0 : 0 ≤ e ∧ e ≤ iv 155 0 - 1) (hcase1 : q_sta (iv 155) e) : pz_R (pz_Sh L) 277 [.inr (.inl 154), .inl e] iv (.inl (some (.inl ((iv 155) (6 + e).toNat)))) (pz_u1 iv 154 (pz_up (iv 154) 0 0)) := by
  intro dv cc ss
  have hk0 := hk.r0
  refine pz_G_mem (iv2 := pz_u1 iv 154 (iv 154)) (by exact (pz_u1_self iv 154).symm) ?_
  show pz_G 277 0 [some (.inr (.inl 154)), some (.inl e)] [] (pz_Sh L, pz_u1 iv 154 (iv 154), dv, cc, ss) (pz_P (pz_Sh L) (.inl (some (.inl ((iv 155) (6 + e).toNat)))) (pz_u1 iv 154 (pz_up (iv 154) 0 0)) dv cc ss)
  refine pz_G_of pz_b277_0 ?_
  refine w_loc rfl ?_
  refine w_loc rfl ?_
  have hc1 : pz_R (pz_Sh L) 194 [.inr (.inl 154), .inl e] (pz_u1 iv 154 (iv 154)) (.inl (some (.inl (pz_bi (0 ≤ e ∧ e ≤ (iv 155) 0 - 1))))) (pz_u1 iv 154 (iv 154)) := s_X11_isEvent e (by show q_KR (iv 155); exact hk)
  refine w_call hc1 rfl (pz_cokI is_154 rfl) ?_
  refine w_bne (fun h2 => ?_) (fun h2 => ?_)
  · first
    | (exfalso; first | omega | contradiction)
    | (refine pz_G_of pz_b277_14 ?_
       refine w_loc rfl ?_
       refine w_loc rfl ?_
       have hc3 : pz_R (pz_Sh L) 196 [.inr (.inl 154), .inl e] (pz_u1 iv 154 (iv 154)) (.inl (some (.inl (pz_bi (q_sta (iv 155) e))))) (pz_u1 iv 154 (iv 154)) := s_X11_hasStarted e (by show 0 ≤ e ∧ e ≤ 9; omega)
       refine w_call hc3 rfl (pz_cokI is_154 rfl) ?_
       refine w_beq (fun h4 => ?_) (fun h4 => ?_)
       · first
         | (exfalso; first | omega | contradiction)
         | (refine pz_G_of pz_b277_38 ?_
            refine w_loc rfl ?_
            refine w_pure rfl ?_
            have hc5 : pz_R (pz_Sh L) 191 [.inr (.inl 154), .inl 2] (pz_u1 iv 154 (iv 154)) (.inl (some (.inl 0))) (pz_u1 iv 154 (pz_up (iv 154) 0 2)) := pz_R_mem (s_X11_fails 2) (by rw [pz_u1_top (r := 154)]; rfl)
            refine w_call hc5 rfl (pz_cokI is_154 rfl) ?_
            refine w_nil ?_
            refine pz_G_of pz_b277_43 ?_
            refine w_ret rfl ?_
            first | exact lf_i (by first | rfl | omega) (by rfl) | (exfalso; omega))
       · first
         | (exfalso; first | omega | contradiction)
         | (refine w_loc rfl ?_
            refine w_loc rfl ?_
            refine w_getR (q := 155) is_154 rf_154_1 ?_
            refine w_pure rfl ?_
            refine w_loc rfl ?_
            refine w_iadd (by omega) ?_
            refine w_iald (v := (iv 155) (6 + e).toNat) is_155 ln_155 ⟨by omega, by omega⟩ rfl ?_
            have hc6 : pz_R (pz_Sh L) 192 [.inr (.inl 154), .inl ((iv 155) (6 + e).toNat)] (pz_u1 iv 154 (iv 154)) (.inl (some (.inl ((iv 155) (6 + e).toNat)))) (pz_u1 iv 154 (pz_up (iv 154) 0 0)) := pz_R_mem (s_X11_tells ((iv 155) (6 + e).toNat)) (by rw [pz_u1_top (r := 154)]; rfl)
            refine w_call hc6 rfl (pz_cokI is_154 rfl) ?_
            refine w_goto ?_
            refine pz_G_of pz_b277_43 ?_
            refine w_ret rfl ?_
            first | exact lf_i (by first | rfl | omega) (by rfl) | (exfalso; omega)))
  · first
    | (exfalso; first | omega | contradiction)
    | (refine w_loc rfl ?_
       refine w_pure rfl ?_
       have hc7 : pz_R (pz_Sh L) 191 [.inr (.inl 154), .inl 1] (pz_u1 iv 154 (iv 154)) (.inl (some (.inl 0))) (pz_u1 iv 154 (pz_up (iv 154) 0 1)) := pz_R_mem (s_X11_fails 1) (by rw [pz_u1_top (r := 154)]; rfl)
       refine w_call hc7 rfl (pz_cokI is_154 rfl) ?_
       refine w_ret rfl ?_
       first | exact lf_i (by first | rfl | omega) (by rfl) | (exfalso; omega))

theorem s_X11_setCapacity_1 {L : Nat} {iv : Nat → Nat → Int} (c : Int) (hk : q_KR (iv 155)) (hcase0 : ¬ (0 ≤ c ∧ c ≤ 40)) : pz_R (pz_Sh L) 280 [.inr (.inl 154), .inl c] iv (.inl (some (.inl 0))) (pz_u1 (pz_u1 iv 154 (pz_up (iv 154) 0 1)) 155 (iv 155)) := by
  intro dv cc ss
  have hk0 := hk.r0
  refine pz_G_mem (iv2 := pz_u1 (pz_u1 iv 154 (iv 154)) 155 (iv 155)) (by exact ((pz_u1_self iv 154).symm).trans (pz_u1_self (pz_u1 iv 154 (iv 154)) 155).symm) ?_
  show pz_G 280 0 [some (.inr (.inl 154)), some (.inl c), none] [] (pz_Sh L, pz_u1 (pz_u1 iv 154 (iv 154)) 155 (iv 155), dv, cc, ss) (pz_P (pz_Sh L) (.inl (some (.inl 0))) (pz_u1 (pz_u1 iv 154 (pz_up (iv 154) 0 1)) 155 (iv 155)) dv cc ss)
  refine pz_G_of pz_b280_0 ?_
  refine w_loc rfl ?_
  refine w_pure rfl ?_
  refine w_pure rfl ?_
  have hc1 : pz_R (pz_Sh L) 190 [.inl c, .inl 0, .inl 40] (pz_u1 (pz_u1 iv 154 (iv 154)) 155 (iv 155)) (.inl (some (.inl (pz_bi (0 ≤ c ∧ c ≤ 40))))) (pz_u1 (pz_u1 iv 154 (iv 154)) 155 (iv 155)) := s_X11_in c 0 40
  refine w_call hc1 rfl rfl ?_
  refine w_bne (fun h2 => ?_) (fun h2 => ?_)
  · first
    | (exfalso; first | omega | contradiction)
    | (refine pz_G_of pz_b280_16 ?_
       refine w_loc rfl ?_
       refine w_getR (q := 155) is_154 rf_154_1 ?_
       refine w_pure rfl ?_
       refine w_iald (v := (iv 155) 5) is_155 ln_155 ⟨by omega, by omega⟩ rfl ?_
       refine w_loc (ls' := [some (.inr (.inl 154)), some (.inl c), some (.inl ((iv 155) 5))]) (st' := []) rfl ?_
       refine w_loc rfl ?_
       refine w_getR (q := 155) is_154 rf_154_1 ?_
       refine w_pure rfl ?_
       refine w_loc rfl ?_
       refine w_iastm (iv2 := pz_u1 (pz_u1 iv 154 (iv 154)) 155 (pz_up (iv 155) 5 c)) is_155 ln_155 ⟨by omega, by omega⟩ (by exact pz_u2_top _ _ _ _ _) ?_
       refine w_loc rfl ?_
       refine w_loc rfl ?_
       have hc3 : pz_R (pz_Sh L) 192 [.inr (.inl 154), .inl ((iv 155) 5)] (pz_u1 (pz_u1 iv 154 (iv 154)) 155 (pz_up (iv 155) 5 c)) (.inl (some (.inl ((iv 155) 5)))) (pz_u1 (pz_u1 iv 154 (pz_up (iv 154) 0 0)) 155 (pz_up (iv 155) 5 c)) := pz_R_mem (s_X11_tells ((iv 155) 5)) (by rw [pz_u1_in (r := 154) (q := 155) (by decide)]; rw [pz_u1_top (r := 154)]; rfl)
       refine w_call hc3 rfl (pz_cokI is_154 rfl) ?_
       refine w_ret rfl ?_
       first | exact lf_i (by first | rfl | omega) (by rfl) | (exfalso; omega))
  · first
    | (exfalso; first | omega | contradiction)
    | (refine w_loc rfl ?_
       refine w_pure rfl ?_
       have hc4 : pz_R (pz_Sh L) 191 [.inr (.inl 154), .inl 1] (pz_u1 (pz_u1 iv 154 (iv 154)) 155 (iv 155)) (.inl (some (.inl 0))) (pz_u1 (pz_u1 iv 154 (pz_up (iv 154) 0 1)) 155 (iv 155)) := pz_R_mem (s_X11_fails 1) (by rw [pz_u1_in (r := 154) (q := 155) (by decide)]; rw [pz_u1_top (r := 154)]; rfl)
       refine w_call hc4 rfl (pz_cokI is_154 rfl) ?_
       refine w_ret rfl ?_
       first | exact lf_i (by first | rfl | omega) (by rfl) | (exfalso; omega))

theorem s_X11_setCapacity_0 {L : Nat} {iv : Nat → Nat → Int} (c : Int) (hk : q_KR (iv 155)) (hcase0 : 0 ≤ c ∧ c ≤ 40) : pz_R (pz_Sh L) 280 [.inr (.inl 154), .inl c] iv (.inl (some (.inl ((iv 155) 5)))) (pz_u1 (pz_u1 iv 154 (pz_up (iv 154) 0 0)) 155 (pz_up (iv 155) 5 c)) := by
  intro dv cc ss
  have hk0 := hk.r0
  refine pz_G_mem (iv2 := pz_u1 (pz_u1 iv 154 (iv 154)) 155 (iv 155)) (by exact ((pz_u1_self iv 154).symm).trans (pz_u1_self (pz_u1 iv 154 (iv 154)) 155).symm) ?_
  show pz_G 280 0 [some (.inr (.inl 154)), some (.inl c), none] [] (pz_Sh L, pz_u1 (pz_u1 iv 154 (iv 154)) 155 (iv 155), dv, cc, ss) (pz_P (pz_Sh L) (.inl (some (.inl ((iv 155) 5)))) (pz_u1 (pz_u1 iv 154 (pz_up (iv 154) 0 0)) 155 (pz_up (iv 155) 5 c)) dv cc ss)
  refine pz_G_of pz_b280_0 ?_
  refine w_loc rfl ?_
  refine w_pure rfl ?_
  refine w_pure rfl ?_
  have hc1 : pz_R (pz_Sh L) 190 [.inl c, .inl 0, .inl 40] (pz_u1 (pz_u1 iv 154 (iv 154)) 155 (iv 155)) (.inl (some (.inl (pz_bi (0 ≤ c ∧ c ≤ 40))))) (pz_u1 (pz_u1 iv 154 (iv 154)) 155 (iv 155)) := s_X11_in c 0 40
  refine w_call hc1 rfl rfl ?_
  refine w_bne (fun h2 => ?_) (fun h2 => ?_)
  · first
    | (exfalso; first | omega | contradiction)
    | (refine pz_G_of pz_b280_16 ?_
       refine w_loc rfl ?_
       refine w_getR (q := 155) is_154 rf_154_1 ?_
       refine w_pure rfl ?_
       refine w_iald (v := (iv 155) 5) is_155 ln_155 ⟨by omega, by omega⟩ rfl ?_
       refine w_loc (ls' := [some (.inr (.inl 154)), some (.inl c), some (.inl ((iv 155) 5))]) (st' := []) rfl ?_
       refine w_loc rfl ?_
       refine w_getR (q := 155) is_154 rf_154_1 ?_
       refine w_pure rfl ?_
       refine w_loc rfl ?_
       refine w_iastm (iv2 := pz_u1 (pz_u1 iv 154 (iv 154)) 155 (pz_up (iv 155) 5 c)) is_155 ln_155 ⟨by omega, by omega⟩ (by exact pz_u2_top _ _ _ _ _) ?_
       refine w_loc rfl ?_
       refine w_loc rfl ?_
       have hc3 : pz_R (pz_Sh L) 192 [.inr (.inl 154), .inl ((iv 155) 5)] (pz_u1 (pz_u1 iv 154 (iv 154)) 155 (pz_up (iv 155) 5 c)) (.inl (some (.inl ((iv 155) 5)))) (pz_u1 (pz_u1 iv 154 (pz_up (iv 154) 0 0)) 155 (pz_up (iv 155) 5 c)) := pz_R_mem (s_X11_tells ((iv 155) 5)) (by rw [pz_u1_in (r := 154) (q := 155) (by decide)]; rw [pz_u1_top (r := 154)]; rfl)
       refine w_call hc3 rfl (pz_cokI is_154 rfl) ?_
       refine w_ret rfl ?_
       first | exact lf_i (by first | rfl | omega) (by rfl) | (exfalso; omega))
  · first
    | (exfalso; first | omega | contradiction)
    | (refine w_loc rfl ?_
       refine w_pure rfl ?_
       have hc4 : pz_R (pz_Sh L) 191 [.inr (.inl 154), .inl 1] (pz_u1 (pz_u1 iv 154 (iv 154)) 155 (iv 155)) (.inl (some (.inl 0))) (pz_u1 (pz_u1 iv 154 (pz_up (iv 154) 0 1)) 155 (iv 155)) := pz_R_mem (s_X11_fails 1) (by rw [pz_u1_in (r := 154) (q := 155) (by decide)]; rw [pz_u1_top (r := 154)]; rfl)
       refine w_call hc4 rfl (pz_cokI is_154 rfl) ?_
       refine w_ret rfl ?_
       first | exact lf_i (by first | rfl | omega) (by rfl) | (exfalso; omega))

theorem s_X11_setCost_1 {L : Nat} {iv : Nat → Nat → Int} (e : Int) (d : Int) (y : Int) (z : Int) (hk : q_KR (iv 155)) (hcase0 : ¬ (0 ≤ e ∧ e ≤ iv 155 0 - 1)) : pz_R (pz_Sh L) 295 [.inr (.inl 154), .inl e, .inl d, .inl y, .inl z] iv (.inl (some (.inl 0))) (pz_u1 (pz_u1 iv 154 (pz_up (iv 154) 0 1)) 155 (iv 155)) := by
  intro dv cc ss
  have hk0 := hk.r0
  refine pz_G_mem (iv2 := pz_u1 (pz_u1 iv 154 (iv 154)) 155 (iv 155)) (by exact ((pz_u1_self iv 154).symm).trans (pz_u1_self (pz_u1 iv 154 (iv 154)) 155).symm) ?_
  show pz_G 295 0 [some (.inr (.inl 154)), some (.inl e), some (.inl d), some (.inl y), some (.inl z), none] [] (pz_Sh L, pz_u1 (pz_u1 iv 154 (iv 154)) 155 (iv 155), dv, cc, ss) (pz_P (pz_Sh L) (.inl (some (.inl 0))) (pz_u1 (pz_u1 iv 154 (pz_up (iv 154) 0 1)) 155 (iv 155)) dv cc ss)
  refine pz_G_of pz_b295_0 ?_
  refine w_loc rfl ?_
  refine w_loc rfl ?_
  have hc1 : pz_R (pz_Sh L) 194 [.inr (.inl 154), .inl e] (pz_u1 (pz_u1 iv 154 (iv 154)) 155 (iv 155)) (.inl (some (.inl (pz_bi (0 ≤ e ∧ e ≤ (iv 155) 0 - 1))))) (pz_u1 (pz_u1 iv 154 (iv 154)) 155 (iv 155)) := s_X11_isEvent e (by show q_KR (iv 155); exact hk)
  refine w_call hc1 rfl (pz_cokI is_154 rfl) ?_
  refine w_bne (fun h2 => ?_) (fun h2 => ?_)
  · first
    | (exfalso; first | omega | contradiction)
    | (refine pz_G_of pz_b295_14 ?_
       refine w_loc rfl ?_
       refine w_pure rfl ?_
       refine w_pure rfl ?_
       have hc3 : pz_R (pz_Sh L) 190 [.inl d, .inl 0, .inl 999] (pz_u1 (pz_u1 iv 154 (iv 154)) 155 (iv 155)) (.inl (some (.inl (pz_bi (0 ≤ d ∧ d ≤ 999))))) (pz_u1 (pz_u1 iv 154 (iv 154)) 155 (iv 155)) := s_X11_in d 0 999
       refine w_call hc3 rfl rfl ?_
       refine w_beq (fun h4 => ?_) (fun h4 => ?_)
       · first
         | (exfalso; first | omega | contradiction)
         | (refine pz_G_of pz_b295_46 ?_
            refine w_loc rfl ?_
            refine w_pure rfl ?_
            have hc5 : pz_R (pz_Sh L) 191 [.inr (.inl 154), .inl 2] (pz_u1 (pz_u1 iv 154 (iv 154)) 155 (iv 155)) (.inl (some (.inl 0))) (pz_u1 (pz_u1 iv 154 (pz_up (iv 154) 0 2)) 155 (iv 155)) := pz_R_mem (s_X11_fails 2) (by rw [pz_u1_in (r := 154) (q := 155) (by decide)]; rw [pz_u1_top (r := 154)]; rfl)
            refine w_call hc5 rfl (pz_cokI is_154 rfl) ?_
            refine w_ret rfl ?_
            first | exact lf_i (by first | rfl | omega) (by rfl) | (exfalso; omega))
       · first
         | (exfalso; first | omega | contradiction)
         | (refine w_loc rfl ?_
            refine w_pure rfl ?_
            refine w_pure rfl ?_
            have hc6 : pz_R (pz_Sh L) 190 [.inl y, .inl 0, .inl 99] (pz_u1 (pz_u1 iv 154 (iv 154)) 155 (iv 155)) (.inl (some (.inl (pz_bi (0 ≤ y ∧ y ≤ 99))))) (pz_u1 (pz_u1 iv 154 (iv 154)) 155 (iv 155)) := s_X11_in y 0 99
            refine w_call hc6 rfl rfl ?_
            refine w_beq (fun h7 => ?_) (fun h7 => ?_)
            · first
              | (exfalso; first | omega | contradiction)
              | (refine pz_G_of pz_b295_46 ?_
                 refine w_loc rfl ?_
                 refine w_pure rfl ?_
                 have hc8 : pz_R (pz_Sh L) 191 [.inr (.inl 154), .inl 2] (pz_u1 (pz_u1 iv 154 (iv 154)) 155 (iv 155)) (.inl (some (.inl 0))) (pz_u1 (pz_u1 iv 154 (pz_up (iv 154) 0 2)) 155 (iv 155)) := pz_R_mem (s_X11_fails 2) (by rw [pz_u1_in (r := 154) (q := 155) (by decide)]; rw [pz_u1_top (r := 154)]; rfl)
                 refine w_call hc8 rfl (pz_cokI is_154 rfl) ?_
                 refine w_ret rfl ?_
                 first | exact lf_i (by first | rfl | omega) (by rfl) | (exfalso; omega))
            · first
              | (exfalso; first | omega | contradiction)
              | (refine w_loc rfl ?_
                 refine w_pure rfl ?_
                 refine w_pure rfl ?_
                 have hc9 : pz_R (pz_Sh L) 190 [.inl z, .inl 0, .inl 99] (pz_u1 (pz_u1 iv 154 (iv 154)) 155 (iv 155)) (.inl (some (.inl (pz_bi (0 ≤ z ∧ z ≤ 99))))) (pz_u1 (pz_u1 iv 154 (iv 154)) 155 (iv 155)) := s_X11_in z 0 99
                 refine w_call hc9 rfl rfl ?_
                 refine w_bne (fun h10 => ?_) (fun h10 => ?_)
                 · first
                   | (exfalso; first | omega | contradiction)
                   | (refine pz_G_of pz_b295_52 ?_
                      refine w_loc rfl ?_
                      refine w_getR (q := 155) is_154 rf_154_1 ?_
                      refine w_pure rfl ?_
                      refine w_loc rfl ?_
                      refine w_iadd (by omega) ?_
                      refine w_iald (v := (iv 155) (16 + e).toNat) is_155 ln_155 ⟨by omega, by omega⟩ rfl ?_
                      refine w_loc (ls' := [some (.inr (.inl 154)), some (.inl e), some (.inl d), some (.inl y), some (.inl z), some (.inl ((iv 155) (16 + e).toNat))]) (st' := []) rfl ?_
                      refine w_loc rfl ?_
                      refine w_getR (q := 155) is_154 rf_154_1 ?_
                      refine w_pure rfl ?_
                      refine w_loc rfl ?_
                      refine w_iadd (by omega) ?_
                      refine w_loc rfl ?_
                      refine w_iastm (iv2 := pz_u1 (pz_u1 iv 154 (iv 154)) 155 (pz_up (iv 155) (16 + e).toNat d)) is_155 ln_155 ⟨by omega, by omega⟩ (by exact pz_u2_top _ _ _ _ _) ?_
                      refine w_loc rfl ?_
                      refine w_getR (q := 155) is_154 rf_154_1 ?_
                      refine w_pure rfl ?_
                      refine w_loc rfl ?_
                      refine w_iadd (by omega) ?_
                      refine w_loc rfl ?_
                      refine w_iastm (iv2 := pz_u1 (pz_u1 iv 154 (iv 154)) 155 (pz_up (pz_up (iv 155) (16 + e).toNat d) (26 + e).toNat y)) is_155 ln_155 ⟨by omega, by omega⟩ (by exact pz_u2_top _ _ _ _ _) ?_
                      refine w_loc rfl ?_
                      refine w_getR (q := 155) is_154 rf_154_1 ?_
                      refine w_pure rfl ?_
                      refine w_loc rfl ?_
                      refine w_iadd (by omega) ?_
                      refine w_loc rfl ?_
                      refine w_iastm (iv2 := pz_u1 (pz_u1 iv 154 (iv 154)) 155 (pz_up (pz_up (pz_up (iv 155) (16 + e).toNat d) (26 + e).toNat y) (36 + e).toNat z)) is_155 ln_155 ⟨by omega, by omega⟩ (by exact pz_u2_top _ _ _ _ _) ?_
                      refine w_loc rfl ?_
                      refine w_loc rfl ?_
                      have hc11 : pz_R (pz_Sh L) 192 [.inr (.inl 154), .inl ((iv 155) (16 + e).toNat)] (pz_u1 (pz_u1 iv 154 (iv 154)) 155 (pz_up (pz_up (pz_up (iv 155) (16 + e).toNat d) (26 + e).toNat y) (36 + e).toNat z)) (.inl (some (.inl ((iv 155) (16 + e).toNat)))) (pz_u1 (pz_u1 iv 154 (pz_up (iv 154) 0 0)) 155 (pz_up (pz_up (pz_up (iv 155) (16 + e).toNat d) (26 + e).toNat y) (36 + e).toNat z)) := pz_R_mem (s_X11_tells ((iv 155) (16 + e).toNat)) (by rw [pz_u1_in (r := 154) (q := 155) (by decide)]; rw [pz_u1_top (r := 154)]; rfl)
                      refine w_call hc11 rfl (pz_cokI is_154 rfl) ?_
                      refine w_ret rfl ?_
                      first | exact lf_i (by first | rfl | omega) (by rfl) | (exfalso; omega))
                 · first
                   | (exfalso; first | omega | contradiction)
                   | (refine w_nil ?_
                      refine pz_G_of pz_b295_46 ?_
                      refine w_loc rfl ?_
                      refine w_pure rfl ?_
                      have hc12 : pz_R (pz_Sh L) 191 [.inr (.inl 154), .inl 2] (pz_u1 (pz_u1 iv 154 (iv 154)) 155 (iv 155)) (.inl (some (.inl 0))) (pz_u1 (pz_u1 iv 154 (pz_up (iv 154) 0 2)) 155 (iv 155)) := pz_R_mem (s_X11_fails 2) (by rw [pz_u1_in (r := 154) (q := 155) (by decide)]; rw [pz_u1_top (r := 154)]; rfl)
                      refine w_call hc12 rfl (pz_cokI is_154 rfl) ?_
                      refine w_ret rfl ?_
                      first | exact lf_i (by first | rfl | omega) (by rfl) | (exfalso; omega)))))
  · first
    | (exfalso; first | omega | contradiction)
    | (refine w_loc rfl ?_
       refine w_pure rfl ?_
       have hc13 : pz_R (pz_Sh L) 191 [.inr (.inl 154), .inl 1] (pz_u1 (pz_u1 iv 154 (iv 154)) 155 (iv 155)) (.inl (some (.inl 0))) (pz_u1 (pz_u1 iv 154 (pz_up (iv 154) 0 1)) 155 (iv 155)) := pz_R_mem (s_X11_fails 1) (by rw [pz_u1_in (r := 154) (q := 155) (by decide)]; rw [pz_u1_top (r := 154)]; rfl)
       refine w_call hc13 rfl (pz_cokI is_154 rfl) ?_
       refine w_ret rfl ?_
       first | exact lf_i (by first | rfl | omega) (by rfl) | (exfalso; omega))

theorem s_X11_setCost_2 {L : Nat} {iv : Nat → Nat → Int} (e : Int) (d : Int) (y : Int) (z : Int) (hk : q_KR (iv 155)) (hcase0 : 0 ≤ e ∧ e ≤ iv 155 0 - 1) (hcase1 : ¬ (0 ≤ d ∧ d ≤ 999 ∧ 0 ≤ y ∧ y ≤ 99 ∧ 0 ≤ z ∧ z ≤ 99)) : pz_R (pz_Sh L) 295 [.inr (.inl 154), .inl e, .inl d, .inl y, .inl z] iv (.inl (some (.inl 0))) (pz_u1 (pz_u1 iv 154 (pz_up (iv 154) 0 2)) 155 (iv 155)) := by
  intro dv cc ss
  have hk0 := hk.r0
  refine pz_G_mem (iv2 := pz_u1 (pz_u1 iv 154 (iv 154)) 155 (iv 155)) (by exact ((pz_u1_self iv 154).symm).trans (pz_u1_self (pz_u1 iv 154 (iv 154)) 155).symm) ?_
  show pz_G 295 0 [some (.inr (.inl 154)), some (.inl e), some (.inl d), some (.inl y), some (.inl z), none] [] (pz_Sh L, pz_u1 (pz_u1 iv 154 (iv 154)) 155 (iv 155), dv, cc, ss) (pz_P (pz_Sh L) (.inl (some (.inl 0))) (pz_u1 (pz_u1 iv 154 (pz_up (iv 154) 0 2)) 155 (iv 155)) dv cc ss)
  refine pz_G_of pz_b295_0 ?_
  refine w_loc rfl ?_
  refine w_loc rfl ?_
  have hc1 : pz_R (pz_Sh L) 194 [.inr (.inl 154), .inl e] (pz_u1 (pz_u1 iv 154 (iv 154)) 155 (iv 155)) (.inl (some (.inl (pz_bi (0 ≤ e ∧ e ≤ (iv 155) 0 - 1))))) (pz_u1 (pz_u1 iv 154 (iv 154)) 155 (iv 155)) := s_X11_isEvent e (by show q_KR (iv 155); exact hk)
  refine w_call hc1 rfl (pz_cokI is_154 rfl) ?_
  refine w_bne (fun h2 => ?_) (fun h2 => ?_)
  · first
    | (exfalso; first | omega | contradiction)
    | (refine pz_G_of pz_b295_14 ?_
       refine w_loc rfl ?_
       refine w_pure rfl ?_
       refine w_pure rfl ?_
       have hc3 : pz_R (pz_Sh L) 190 [.inl d, .inl 0, .inl 999] (pz_u1 (pz_u1 iv 154 (iv 154)) 155 (iv 155)) (.inl (some (.inl (pz_bi (0 ≤ d ∧ d ≤ 999))))) (pz_u1 (pz_u1 iv 154 (iv 154)) 155 (iv 155)) := s_X11_in d 0 999
       refine w_call hc3 rfl rfl ?_
       refine w_beq (fun h4 => ?_) (fun h4 => ?_)
       · first
         | (exfalso; first | omega | contradiction)
         | (refine pz_G_of pz_b295_46 ?_
            refine w_loc rfl ?_
            refine w_pure rfl ?_
            have hc5 : pz_R (pz_Sh L) 191 [.inr (.inl 154), .inl 2] (pz_u1 (pz_u1 iv 154 (iv 154)) 155 (iv 155)) (.inl (some (.inl 0))) (pz_u1 (pz_u1 iv 154 (pz_up (iv 154) 0 2)) 155 (iv 155)) := pz_R_mem (s_X11_fails 2) (by rw [pz_u1_in (r := 154) (q := 155) (by decide)]; rw [pz_u1_top (r := 154)]; rfl)
            refine w_call hc5 rfl (pz_cokI is_154 rfl) ?_
            refine w_ret rfl ?_
            first | exact lf_i (by first | rfl | omega) (by rfl) | (exfalso; omega))
       · first
         | (exfalso; first | omega | contradiction)
         | (refine w_loc rfl ?_
            refine w_pure rfl ?_
            refine w_pure rfl ?_
            have hc6 : pz_R (pz_Sh L) 190 [.inl y, .inl 0, .inl 99] (pz_u1 (pz_u1 iv 154 (iv 154)) 155 (iv 155)) (.inl (some (.inl (pz_bi (0 ≤ y ∧ y ≤ 99))))) (pz_u1 (pz_u1 iv 154 (iv 154)) 155 (iv 155)) := s_X11_in y 0 99
            refine w_call hc6 rfl rfl ?_
            refine w_beq (fun h7 => ?_) (fun h7 => ?_)
            · first
              | (exfalso; first | omega | contradiction)
              | (refine pz_G_of pz_b295_46 ?_
                 refine w_loc rfl ?_
                 refine w_pure rfl ?_
                 have hc8 : pz_R (pz_Sh L) 191 [.inr (.inl 154), .inl 2] (pz_u1 (pz_u1 iv 154 (iv 154)) 155 (iv 155)) (.inl (some (.inl 0))) (pz_u1 (pz_u1 iv 154 (pz_up (iv 154) 0 2)) 155 (iv 155)) := pz_R_mem (s_X11_fails 2) (by rw [pz_u1_in (r := 154) (q := 155) (by decide)]; rw [pz_u1_top (r := 154)]; rfl)
                 refine w_call hc8 rfl (pz_cokI is_154 rfl) ?_
                 refine w_ret rfl ?_
                 first | exact lf_i (by first | rfl | omega) (by rfl) | (exfalso; omega))
            · first
              | (exfalso; first | omega | contradiction)
              | (refine w_loc rfl ?_
                 refine w_pure rfl ?_
                 refine w_pure rfl ?_
                 have hc9 : pz_R (pz_Sh L) 190 [.inl z, .inl 0, .inl 99] (pz_u1 (pz_u1 iv 154 (iv 154)) 155 (iv 155)) (.inl (some (.inl (pz_bi (0 ≤ z ∧ z ≤ 99))))) (pz_u1 (pz_u1 iv 154 (iv 154)) 155 (iv 155)) := s_X11_in z 0 99
                 refine w_call hc9 rfl rfl ?_
                 refine w_bne (fun h10 => ?_) (fun h10 => ?_)
                 · first
                   | (exfalso; first | omega | contradiction)
                   | (refine pz_G_of pz_b295_52 ?_
                      refine w_loc rfl ?_
                      refine w_getR (q := 155) is_154 rf_154_1 ?_
                      refine w_pure rfl ?_
                      refine w_loc rfl ?_
                      refine w_iadd (by omega) ?_
                      refine w_iald (v := (iv 155) (16 + e).toNat) is_155 ln_155 ⟨by omega, by omega⟩ rfl ?_
                      refine w_loc (ls' := [some (.inr (.inl 154)), some (.inl e), some (.inl d), some (.inl y), some (.inl z), some (.inl ((iv 155) (16 + e).toNat))]) (st' := []) rfl ?_
                      refine w_loc rfl ?_
                      refine w_getR (q := 155) is_154 rf_154_1 ?_
                      refine w_pure rfl ?_
                      refine w_loc rfl ?_
                      refine w_iadd (by omega) ?_
                      refine w_loc rfl ?_
                      refine w_iastm (iv2 := pz_u1 (pz_u1 iv 154 (iv 154)) 155 (pz_up (iv 155) (16 + e).toNat d)) is_155 ln_155 ⟨by omega, by omega⟩ (by exact pz_u2_top _ _ _ _ _) ?_
                      refine w_loc rfl ?_
                      refine w_getR (q := 155) is_154 rf_154_1 ?_
                      refine w_pure rfl ?_
                      refine w_loc rfl ?_
                      refine w_iadd (by omega) ?_
                      refine w_loc rfl ?_
                      refine w_iastm (iv2 := pz_u1 (pz_u1 iv 154 (iv 154)) 155 (pz_up (pz_up (iv 155) (16 + e).toNat d) (26 + e).toNat y)) is_155 ln_155 ⟨by omega, by omega⟩ (by exact pz_u2_top _ _ _ _ _) ?_
                      refine w_loc rfl ?_
                      refine w_getR (q := 155) is_154 rf_154_1 ?_
                      refine w_pure rfl ?_
                      refine w_loc rfl ?_
                      refine w_iadd (by omega) ?_
                      refine w_loc rfl ?_
                      refine w_iastm (iv2 := pz_u1 (pz_u1 iv 154 (iv 154)) 155 (pz_up (pz_up (pz_up (iv 155) (16 + e).toNat d) (26 + e).toNat y) (36 + e).toNat z)) is_155 ln_155 ⟨by omega, by omega⟩ (by exact pz_u2_top _ _ _ _ _) ?_
                      refine w_loc rfl ?_
                      refine w_loc rfl ?_
                      have hc11 : pz_R (pz_Sh L) 192 [.inr (.inl 154), .inl ((iv 155) (16 + e).toNat)] (pz_u1 (pz_u1 iv 154 (iv 154)) 155 (pz_up (pz_up (pz_up (iv 155) (16 + e).toNat d) (26 + e).toNat y) (36 + e).toNat z)) (.inl (some (.inl ((iv 155) (16 + e).toNat)))) (pz_u1 (pz_u1 iv 154 (pz_up (iv 154) 0 0)) 155 (pz_up (pz_up (pz_up (iv 155) (16 + e).toNat d) (26 + e).toNat y) (36 + e).toNat z)) := pz_R_mem (s_X11_tells ((iv 155) (16 + e).toNat)) (by rw [pz_u1_in (r := 154) (q := 155) (by decide)]; rw [pz_u1_top (r := 154)]; rfl)
                      refine w_call hc11 rfl (pz_cokI is_154 rfl) ?_
                      refine w_ret rfl ?_
                      first | exact lf_i (by first | rfl | omega) (by rfl) | (exfalso; omega))
                 · first
                   | (exfalso; first | omega | contradiction)
                   | (refine w_nil ?_
                      refine pz_G_of pz_b295_46 ?_
                      refine w_loc rfl ?_
                      refine w_pure rfl ?_
                      have hc12 : pz_R (pz_Sh L) 191 [.inr (.inl 154), .inl 2] (pz_u1 (pz_u1 iv 154 (iv 154)) 155 (iv 155)) (.inl (some (.inl 0))) (pz_u1 (pz_u1 iv 154 (pz_up (iv 154) 0 2)) 155 (iv 155)) := pz_R_mem (s_X11_fails 2) (by rw [pz_u1_in (r := 154) (q := 155) (by decide)]; rw [pz_u1_top (r := 154)]; rfl)
                      refine w_call hc12 rfl (pz_cokI is_154 rfl) ?_
                      refine w_ret rfl ?_
                      first | exact lf_i (by first | rfl | omega) (by rfl) | (exfalso; omega)))))
  · first
    | (exfalso; first | omega | contradiction)
    | (refine w_loc rfl ?_
       refine w_pure rfl ?_
       have hc13 : pz_R (pz_Sh L) 191 [.inr (.inl 154), .inl 1] (pz_u1 (pz_u1 iv 154 (iv 154)) 155 (iv 155)) (.inl (some (.inl 0))) (pz_u1 (pz_u1 iv 154 (pz_up (iv 154) 0 1)) 155 (iv 155)) := pz_R_mem (s_X11_fails 1) (by rw [pz_u1_in (r := 154) (q := 155) (by decide)]; rw [pz_u1_top (r := 154)]; rfl)
       refine w_call hc13 rfl (pz_cokI is_154 rfl) ?_
       refine w_ret rfl ?_
       first | exact lf_i (by first | rfl | omega) (by rfl) | (exfalso; omega))

theorem s_X11_setCost_0 {L : Nat} {iv : Nat → Nat → Int} (e : Int) (d : Int) (y : Int) (z : Int) (hk : q_KR (iv 155)) (hcase0 : 0 ≤ e ∧ e ≤ iv 155 0 - 1) (hcase1 : 0 ≤ d ∧ d ≤ 999 ∧ 0 ≤ y ∧ y ≤ 99 ∧ 0 ≤ z ∧ z ≤ 99) : pz_R (pz_Sh L) 295 [.inr (.inl 154), .inl e, .inl d, .inl y, .inl z] iv (.inl (some (.inl ((iv 155) (16 + e).toNat)))) (pz_u1 (pz_u1 iv 154 (pz_up (iv 154) 0 0)) 155 (pz_up (pz_up (pz_up (iv 155) (16 + e).toNat d) (26 + e).toNat y) (36 + e).toNat z)) := by
  intro dv cc ss
  have hk0 := hk.r0
  refine pz_G_mem (iv2 := pz_u1 (pz_u1 iv 154 (iv 154)) 155 (iv 155)) (by exact ((pz_u1_self iv 154).symm).trans (pz_u1_self (pz_u1 iv 154 (iv 154)) 155).symm) ?_
  show pz_G 295 0 [some (.inr (.inl 154)), some (.inl e), some (.inl d), some (.inl y), some (.inl z), none] [] (pz_Sh L, pz_u1 (pz_u1 iv 154 (iv 154)) 155 (iv 155), dv, cc, ss) (pz_P (pz_Sh L) (.inl (some (.inl ((iv 155) (16 + e).toNat)))) (pz_u1 (pz_u1 iv 154 (pz_up (iv 154) 0 0)) 155 (pz_up (pz_up (pz_up (iv 155) (16 + e).toNat d) (26 + e).toNat y) (36 + e).toNat z)) dv cc ss)
  refine pz_G_of pz_b295_0 ?_
  refine w_loc rfl ?_
  refine w_loc rfl ?_
  have hc1 : pz_R (pz_Sh L) 194 [.inr (.inl 154), .inl e] (pz_u1 (pz_u1 iv 154 (iv 154)) 155 (iv 155)) (.inl (some (.inl (pz_bi (0 ≤ e ∧ e ≤ (iv 155) 0 - 1))))) (pz_u1 (pz_u1 iv 154 (iv 154)) 155 (iv 155)) := s_X11_isEvent e (by show q_KR (iv 155); exact hk)
  refine w_call hc1 rfl (pz_cokI is_154 rfl) ?_
  refine w_bne (fun h2 => ?_) (fun h2 => ?_)
  · first
    | (exfalso; first | omega | contradiction)
    | (refine pz_G_of pz_b295_14 ?_
       refine w_loc rfl ?_
       refine w_pure rfl ?_
       refine w_pure rfl ?_
       have hc3 : pz_R (pz_Sh L) 190 [.inl d, .inl 0, .inl 999] (pz_u1 (pz_u1 iv 154 (iv 154)) 155 (iv 155)) (.inl (some (.inl (pz_bi (0 ≤ d ∧ d ≤ 999))))) (pz_u1 (pz_u1 iv 154 (iv 154)) 155 (iv 155)) := s_X11_in d 0 999
       refine w_call hc3 rfl rfl ?_
       refine w_beq (fun h4 => ?_) (fun h4 => ?_)
       · first
         | (exfalso; first | omega | contradiction)
         | (refine pz_G_of pz_b295_46 ?_
            refine w_loc rfl ?_
            refine w_pure rfl ?_
            have hc5 : pz_R (pz_Sh L) 191 [.inr (.inl 154), .inl 2] (pz_u1 (pz_u1 iv 154 (iv 154)) 155 (iv 155)) (.inl (some (.inl 0))) (pz_u1 (pz_u1 iv 154 (pz_up (iv 154) 0 2)) 155 (iv 155)) := pz_R_mem (s_X11_fails 2) (by rw [pz_u1_in (r := 154) (q := 155) (by decide)]; rw [pz_u1_top (r := 154)]; rfl)
            refine w_call hc5 rfl (pz_cokI is_154 rfl) ?_
            refine w_ret rfl ?_
            first | exact lf_i (by first | rfl | omega) (by rfl) | (exfalso; omega))
       · first
         | (exfalso; first | omega | contradiction)
         | (refine w_loc rfl ?_
            refine w_pure rfl ?_
            refine w_pure rfl ?_
            have hc6 : pz_R (pz_Sh L) 190 [.inl y, .inl 0, .inl 99] (pz_u1 (pz_u1 iv 154 (iv 154)) 155 (iv 155)) (.inl (some (.inl (pz_bi (0 ≤ y ∧ y ≤ 99))))) (pz_u1 (pz_u1 iv 154 (iv 154)) 155 (iv 155)) := s_X11_in y 0 99
            refine w_call hc6 rfl rfl ?_
            refine w_beq (fun h7 => ?_) (fun h7 => ?_)
            · first
              | (exfalso; first | omega | contradiction)
              | (refine pz_G_of pz_b295_46 ?_
                 refine w_loc rfl ?_
                 refine w_pure rfl ?_
                 have hc8 : pz_R (pz_Sh L) 191 [.inr (.inl 154), .inl 2] (pz_u1 (pz_u1 iv 154 (iv 154)) 155 (iv 155)) (.inl (some (.inl 0))) (pz_u1 (pz_u1 iv 154 (pz_up (iv 154) 0 2)) 155 (iv 155)) := pz_R_mem (s_X11_fails 2) (by rw [pz_u1_in (r := 154) (q := 155) (by decide)]; rw [pz_u1_top (r := 154)]; rfl)
                 refine w_call hc8 rfl (pz_cokI is_154 rfl) ?_
                 refine w_ret rfl ?_
                 first | exact lf_i (by first | rfl | omega) (by rfl) | (exfalso; omega))
            · first
              | (exfalso; first | omega | contradiction)
              | (refine w_loc rfl ?_
                 refine w_pure rfl ?_
                 refine w_pure rfl ?_
                 have hc9 : pz_R (pz_Sh L) 190 [.inl z, .inl 0, .inl 99] (pz_u1 (pz_u1 iv 154 (iv 154)) 155 (iv 155)) (.inl (some (.inl (pz_bi (0 ≤ z ∧ z ≤ 99))))) (pz_u1 (pz_u1 iv 154 (iv 154)) 155 (iv 155)) := s_X11_in z 0 99
                 refine w_call hc9 rfl rfl ?_
                 refine w_bne (fun h10 => ?_) (fun h10 => ?_)
                 · first
                   | (exfalso; first | omega | contradiction)
                   | (refine pz_G_of pz_b295_52 ?_
                      refine w_loc rfl ?_
                      refine w_getR (q := 155) is_154 rf_154_1 ?_
                      refine w_pure rfl ?_
                      refine w_loc rfl ?_
                      refine w_iadd (by omega) ?_
                      refine w_iald (v := (iv 155) (16 + e).toNat) is_155 ln_155 ⟨by omega, by omega⟩ rfl ?_
                      refine w_loc (ls' := [some (.inr (.inl 154)), some (.inl e), some (.inl d), some (.inl y), some (.inl z), some (.inl ((iv 155) (16 + e).toNat))]) (st' := []) rfl ?_
                      refine w_loc rfl ?_
                      refine w_getR (q := 155) is_154 rf_154_1 ?_
                      refine w_pure rfl ?_
                      refine w_loc rfl ?_
                      refine w_iadd (by omega) ?_
                      refine w_loc rfl ?_
                      refine w_iastm (iv2 := pz_u1 (pz_u1 iv 154 (iv 154)) 155 (pz_up (iv 155) (16 + e).toNat d)) is_155 ln_155 ⟨by omega, by omega⟩ (by exact pz_u2_top _ _ _ _ _) ?_
                      refine w_loc rfl ?_
                      refine w_getR (q := 155) is_154 rf_154_1 ?_
                      refine w_pure rfl ?_
                      refine w_loc rfl ?_
                      refine w_iadd (by omega) ?_
                      refine w_loc rfl ?_
                      refine w_iastm (iv2 := pz_u1 (pz_u1 iv 154 (iv 154)) 155 (pz_up (pz_up (iv 155) (16 + e).toNat d) (26 + e).toNat y)) is_155 ln_155 ⟨by omega, by omega⟩ (by exact pz_u2_top _ _ _ _ _) ?_
                      refine w_loc rfl ?_
                      refine w_getR (q := 155) is_154 rf_154_1 ?_
                      refine w_pure rfl ?_
                      refine w_loc rfl ?_
                      refine w_iadd (by omega) ?_
                      refine w_loc rfl ?_
                      refine w_iastm (iv2 := pz_u1 (pz_u1 iv 154 (iv 154)) 155 (pz_up (pz_up (pz_up (iv 155) (16 + e).toNat d) (26 + e).toNat y) (36 + e).toNat z)) is_155 ln_155 ⟨by omega, by omega⟩ (by exact pz_u2_top _ _ _ _ _) ?_
                      refine w_loc rfl ?_
                      refine w_loc rfl ?_
                      have hc11 : pz_R (pz_Sh L) 192 [.inr (.inl 154), .inl ((iv 155) (16 + e).toNat)] (pz_u1 (pz_u1 iv 154 (iv 154)) 155 (pz_up (pz_up (pz_up (iv 155) (16 + e).toNat d) (26 + e).toNat y) (36 + e).toNat z)) (.inl (some (.inl ((iv 155) (16 + e).toNat)))) (pz_u1 (pz_u1 iv 154 (pz_up (iv 154) 0 0)) 155 (pz_up (pz_up (pz_up (iv 155) (16 + e).toNat d) (26 + e).toNat y) (36 + e).toNat z)) := pz_R_mem (s_X11_tells ((iv 155) (16 + e).toNat)) (by rw [pz_u1_in (r := 154) (q := 155) (by decide)]; rw [pz_u1_top (r := 154)]; rfl)
                      refine w_call hc11 rfl (pz_cokI is_154 rfl) ?_
                      refine w_ret rfl ?_
                      first | exact lf_i (by first | rfl | omega) (by rfl) | (exfalso; omega))
                 · first
                   | (exfalso; first | omega | contradiction)
                   | (refine w_nil ?_
                      refine pz_G_of pz_b295_46 ?_
                      refine w_loc rfl ?_
                      refine w_pure rfl ?_
                      have hc12 : pz_R (pz_Sh L) 191 [.inr (.inl 154), .inl 2] (pz_u1 (pz_u1 iv 154 (iv 154)) 155 (iv 155)) (.inl (some (.inl 0))) (pz_u1 (pz_u1 iv 154 (pz_up (iv 154) 0 2)) 155 (iv 155)) := pz_R_mem (s_X11_fails 2) (by rw [pz_u1_in (r := 154) (q := 155) (by decide)]; rw [pz_u1_top (r := 154)]; rfl)
                      refine w_call hc12 rfl (pz_cokI is_154 rfl) ?_
                      refine w_ret rfl ?_
                      first | exact lf_i (by first | rfl | omega) (by rfl) | (exfalso; omega)))))
  · first
    | (exfalso; first | omega | contradiction)
    | (refine w_loc rfl ?_
       refine w_pure rfl ?_
       have hc13 : pz_R (pz_Sh L) 191 [.inr (.inl 154), .inl 1] (pz_u1 (pz_u1 iv 154 (iv 154)) 155 (iv 155)) (.inl (some (.inl 0))) (pz_u1 (pz_u1 iv 154 (pz_up (iv 154) 0 1)) 155 (iv 155)) := pz_R_mem (s_X11_fails 1) (by rw [pz_u1_in (r := 154) (q := 155) (by decide)]; rw [pz_u1_top (r := 154)]; rfl)
       refine w_call hc13 rfl (pz_cokI is_154 rfl) ?_
       refine w_ret rfl ?_
       first | exact lf_i (by first | rfl | omega) (by rfl) | (exfalso; omega))

theorem s_X11_playedAt_1 {L : Nat} {iv : Nat → Nat → Int} (e : Int) (hk : q_KR (iv 155)) (hcase0 : ¬ (0 ≤ e ∧ e ≤ iv 155 0 - 1)) : pz_R (pz_Sh L) 265 [.inr (.inl 154), .inl e] iv (.inl (some (.inl 0))) (pz_u1 iv 154 (pz_up (iv 154) 0 1)) := by
  intro dv cc ss
  have hk0 := hk.r0
  refine pz_G_mem (iv2 := pz_u1 iv 154 (iv 154)) (by exact (pz_u1_self iv 154).symm) ?_
  show pz_G 265 0 [some (.inr (.inl 154)), some (.inl e)] [] (pz_Sh L, pz_u1 iv 154 (iv 154), dv, cc, ss) (pz_P (pz_Sh L) (.inl (some (.inl 0))) (pz_u1 iv 154 (pz_up (iv 154) 0 1)) dv cc ss)
  refine pz_G_of pz_b265_0 ?_
  refine w_loc rfl ?_
  refine w_loc rfl ?_
  have hc1 : pz_R (pz_Sh L) 194 [.inr (.inl 154), .inl e] (pz_u1 iv 154 (iv 154)) (.inl (some (.inl (pz_bi (0 ≤ e ∧ e ≤ (iv 155) 0 - 1))))) (pz_u1 iv 154 (iv 154)) := s_X11_isEvent e (by show q_KR (iv 155); exact hk)
  refine w_call hc1 rfl (pz_cokI is_154 rfl) ?_
  refine w_bne (fun h2 => ?_) (fun h2 => ?_)
  · first
    | (exfalso; first | omega | contradiction)
    | (refine pz_G_of pz_b265_14 ?_
       refine w_loc rfl ?_
       refine w_loc rfl ?_
       refine w_getR (q := 155) is_154 rf_154_1 ?_
       refine w_pure rfl ?_
       refine w_iald (v := (iv 155) 240) is_155 ln_155 ⟨by omega, by omega⟩ rfl ?_
       refine w_ige (fun h3 => ?_) (fun h3 => ?_)
       · first
         | (exfalso; first | omega | contradiction)
         | (refine pz_G_of pz_b265_43 ?_
            refine w_loc rfl ?_
            refine w_pure rfl ?_
            have hc4 : pz_R (pz_Sh L) 191 [.inr (.inl 154), .inl 2] (pz_u1 iv 154 (iv 154)) (.inl (some (.inl 0))) (pz_u1 iv 154 (pz_up (iv 154) 0 2)) := pz_R_mem (s_X11_fails 2) (by rw [pz_u1_top (r := 154)]; rfl)
            refine w_call hc4 rfl (pz_cokI is_154 rfl) ?_
            refine w_nil ?_
            refine pz_G_of pz_b265_48 ?_
            refine w_ret rfl ?_
            first | exact lf_i (by first | rfl | omega) (by rfl) | (exfalso; omega))
       · first
         | (exfalso; first | omega | contradiction)
         | (refine w_loc rfl ?_
            refine w_loc rfl ?_
            refine w_getR (q := 155) is_154 rf_154_1 ?_
            refine w_pure rfl ?_
            refine w_loc rfl ?_
            refine w_iadd (by omega) ?_
            refine w_iald (v := (iv 155) (241 + e).toNat) is_155 ln_155 ⟨by omega, by omega⟩ rfl ?_
            have hc5 : pz_R (pz_Sh L) 192 [.inr (.inl 154), .inl ((iv 155) (241 + e).toNat)] (pz_u1 iv 154 (iv 154)) (.inl (some (.inl ((iv 155) (241 + e).toNat)))) (pz_u1 iv 154 (pz_up (iv 154) 0 0)) := pz_R_mem (s_X11_tells ((iv 155) (241 + e).toNat)) (by rw [pz_u1_top (r := 154)]; rfl)
            refine w_call hc5 rfl (pz_cokI is_154 rfl) ?_
            refine w_goto ?_
            refine pz_G_of pz_b265_48 ?_
            refine w_ret rfl ?_
            first | exact lf_i (by first | rfl | omega) (by rfl) | (exfalso; omega)))
  · first
    | (exfalso; first | omega | contradiction)
    | (refine w_loc rfl ?_
       refine w_pure rfl ?_
       have hc6 : pz_R (pz_Sh L) 191 [.inr (.inl 154), .inl 1] (pz_u1 iv 154 (iv 154)) (.inl (some (.inl 0))) (pz_u1 iv 154 (pz_up (iv 154) 0 1)) := pz_R_mem (s_X11_fails 1) (by rw [pz_u1_top (r := 154)]; rfl)
       refine w_call hc6 rfl (pz_cokI is_154 rfl) ?_
       refine w_ret rfl ?_
       first | exact lf_i (by first | rfl | omega) (by rfl) | (exfalso; omega))

theorem s_X11_playedAt_2 {L : Nat} {iv : Nat → Nat → Int} (e : Int) (hk : q_KR (iv 155)) (hcase0 : 0 ≤ e ∧ e ≤ iv 155 0 - 1) (hcase1 : iv 155 240 ≤ e) : pz_R (pz_Sh L) 265 [.inr (.inl 154), .inl e] iv (.inl (some (.inl 0))) (pz_u1 iv 154 (pz_up (iv 154) 0 2)) := by
  intro dv cc ss
  have hk0 := hk.r0
  refine pz_G_mem (iv2 := pz_u1 iv 154 (iv 154)) (by exact (pz_u1_self iv 154).symm) ?_
  show pz_G 265 0 [some (.inr (.inl 154)), some (.inl e)] [] (pz_Sh L, pz_u1 iv 154 (iv 154), dv, cc, ss) (pz_P (pz_Sh L) (.inl (some (.inl 0))) (pz_u1 iv 154 (pz_up (iv 154) 0 2)) dv cc ss)
  refine pz_G_of pz_b265_0 ?_
  refine w_loc rfl ?_
  refine w_loc rfl ?_
  have hc1 : pz_R (pz_Sh L) 194 [.inr (.inl 154), .inl e] (pz_u1 iv 154 (iv 154)) (.inl (some (.inl (pz_bi (0 ≤ e ∧ e ≤ (iv 155) 0 - 1))))) (pz_u1 iv 154 (iv 154)) := s_X11_isEvent e (by show q_KR (iv 155); exact hk)
  refine w_call hc1 rfl (pz_cokI is_154 rfl) ?_
  refine w_bne (fun h2 => ?_) (fun h2 => ?_)
  · first
    | (exfalso; first | omega | contradiction)
    | (refine pz_G_of pz_b265_14 ?_
       refine w_loc rfl ?_
       refine w_loc rfl ?_
       refine w_getR (q := 155) is_154 rf_154_1 ?_
       refine w_pure rfl ?_
       refine w_iald (v := (iv 155) 240) is_155 ln_155 ⟨by omega, by omega⟩ rfl ?_
       refine w_ige (fun h3 => ?_) (fun h3 => ?_)
       · first
         | (exfalso; first | omega | contradiction)
         | (refine pz_G_of pz_b265_43 ?_
            refine w_loc rfl ?_
            refine w_pure rfl ?_
            have hc4 : pz_R (pz_Sh L) 191 [.inr (.inl 154), .inl 2] (pz_u1 iv 154 (iv 154)) (.inl (some (.inl 0))) (pz_u1 iv 154 (pz_up (iv 154) 0 2)) := pz_R_mem (s_X11_fails 2) (by rw [pz_u1_top (r := 154)]; rfl)
            refine w_call hc4 rfl (pz_cokI is_154 rfl) ?_
            refine w_nil ?_
            refine pz_G_of pz_b265_48 ?_
            refine w_ret rfl ?_
            first | exact lf_i (by first | rfl | omega) (by rfl) | (exfalso; omega))
       · first
         | (exfalso; first | omega | contradiction)
         | (refine w_loc rfl ?_
            refine w_loc rfl ?_
            refine w_getR (q := 155) is_154 rf_154_1 ?_
            refine w_pure rfl ?_
            refine w_loc rfl ?_
            refine w_iadd (by omega) ?_
            refine w_iald (v := (iv 155) (241 + e).toNat) is_155 ln_155 ⟨by omega, by omega⟩ rfl ?_
            have hc5 : pz_R (pz_Sh L) 192 [.inr (.inl 154), .inl ((iv 155) (241 + e).toNat)] (pz_u1 iv 154 (iv 154)) (.inl (some (.inl ((iv 155) (241 + e).toNat)))) (pz_u1 iv 154 (pz_up (iv 154) 0 0)) := pz_R_mem (s_X11_tells ((iv 155) (241 + e).toNat)) (by rw [pz_u1_top (r := 154)]; rfl)
            refine w_call hc5 rfl (pz_cokI is_154 rfl) ?_
            refine w_goto ?_
            refine pz_G_of pz_b265_48 ?_
            refine w_ret rfl ?_
            first | exact lf_i (by first | rfl | omega) (by rfl) | (exfalso; omega)))
  · first
    | (exfalso; first | omega | contradiction)
    | (refine w_loc rfl ?_
       refine w_pure rfl ?_
       have hc6 : pz_R (pz_Sh L) 191 [.inr (.inl 154), .inl 1] (pz_u1 iv 154 (iv 154)) (.inl (some (.inl 0))) (pz_u1 iv 154 (pz_up (iv 154) 0 1)) := pz_R_mem (s_X11_fails 1) (by rw [pz_u1_top (r := 154)]; rfl)
       refine w_call hc6 rfl (pz_cokI is_154 rfl) ?_
       refine w_ret rfl ?_
       first | exact lf_i (by first | rfl | omega) (by rfl) | (exfalso; omega))

theorem s_X11_playedAt_0 {L : Nat} {iv : Nat → Nat → Int} (e : Int) (hk : q_KR (iv 155)) (hcase0 : 0 ≤ e ∧ e ≤ iv 155 0 - 1) (hcase1 : e < iv 155 240) : pz_R (pz_Sh L) 265 [.inr (.inl 154), .inl e] iv (.inl (some (.inl ((iv 155) (241 + e).toNat)))) (pz_u1 iv 154 (pz_up (iv 154) 0 0)) := by
  intro dv cc ss
  have hk0 := hk.r0
  refine pz_G_mem (iv2 := pz_u1 iv 154 (iv 154)) (by exact (pz_u1_self iv 154).symm) ?_
  show pz_G 265 0 [some (.inr (.inl 154)), some (.inl e)] [] (pz_Sh L, pz_u1 iv 154 (iv 154), dv, cc, ss) (pz_P (pz_Sh L) (.inl (some (.inl ((iv 155) (241 + e).toNat)))) (pz_u1 iv 154 (pz_up (iv 154) 0 0)) dv cc ss)
  refine pz_G_of pz_b265_0 ?_
  refine w_loc rfl ?_
  refine w_loc rfl ?_
  have hc1 : pz_R (pz_Sh L) 194 [.inr (.inl 154), .inl e] (pz_u1 iv 154 (iv 154)) (.inl (some (.inl (pz_bi (0 ≤ e ∧ e ≤ (iv 155) 0 - 1))))) (pz_u1 iv 154 (iv 154)) := s_X11_isEvent e (by show q_KR (iv 155); exact hk)
  refine w_call hc1 rfl (pz_cokI is_154 rfl) ?_
  refine w_bne (fun h2 => ?_) (fun h2 => ?_)
  · first
    | (exfalso; first | omega | contradiction)
    | (refine pz_G_of pz_b265_14 ?_
       refine w_loc rfl ?_
       refine w_loc rfl ?_
       refine w_getR (q := 155) is_154 rf_154_1 ?_
       refine w_pure rfl ?_
       refine w_iald (v := (iv 155) 240) is_155 ln_155 ⟨by omega, by omega⟩ rfl ?_
       refine w_ige (fun h3 => ?_) (fun h3 => ?_)
       · first
         | (exfalso; first | omega | contradiction)
         | (refine pz_G_of pz_b265_43 ?_
            refine w_loc rfl ?_
            refine w_pure rfl ?_
            have hc4 : pz_R (pz_Sh L) 191 [.inr (.inl 154), .inl 2] (pz_u1 iv 154 (iv 154)) (.inl (some (.inl 0))) (pz_u1 iv 154 (pz_up (iv 154) 0 2)) := pz_R_mem (s_X11_fails 2) (by rw [pz_u1_top (r := 154)]; rfl)
            refine w_call hc4 rfl (pz_cokI is_154 rfl) ?_
            refine w_nil ?_
            refine pz_G_of pz_b265_48 ?_
            refine w_ret rfl ?_
            first | exact lf_i (by first | rfl | omega) (by rfl) | (exfalso; omega))
       · first
         | (exfalso; first | omega | contradiction)
         | (refine w_loc rfl ?_
            refine w_loc rfl ?_
            refine w_getR (q := 155) is_154 rf_154_1 ?_
            refine w_pure rfl ?_
            refine w_loc rfl ?_
            refine w_iadd (by omega) ?_
            refine w_iald (v := (iv 155) (241 + e).toNat) is_155 ln_155 ⟨by omega, by omega⟩ rfl ?_
            have hc5 : pz_R (pz_Sh L) 192 [.inr (.inl 154), .inl ((iv 155) (241 + e).toNat)] (pz_u1 iv 154 (iv 154)) (.inl (some (.inl ((iv 155) (241 + e).toNat)))) (pz_u1 iv 154 (pz_up (iv 154) 0 0)) := pz_R_mem (s_X11_tells ((iv 155) (241 + e).toNat)) (by rw [pz_u1_top (r := 154)]; rfl)
            refine w_call hc5 rfl (pz_cokI is_154 rfl) ?_
            refine w_goto ?_
            refine pz_G_of pz_b265_48 ?_
            refine w_ret rfl ?_
            first | exact lf_i (by first | rfl | omega) (by rfl) | (exfalso; omega)))
  · first
    | (exfalso; first | omega | contradiction)
    | (refine w_loc rfl ?_
       refine w_pure rfl ?_
       have hc6 : pz_R (pz_Sh L) 191 [.inr (.inl 154), .inl 1] (pz_u1 iv 154 (iv 154)) (.inl (some (.inl 0))) (pz_u1 iv 154 (pz_up (iv 154) 0 1)) := pz_R_mem (s_X11_fails 1) (by rw [pz_u1_top (r := 154)]; rfl)
       refine w_call hc6 rfl (pz_cokI is_154 rfl) ?_
       refine w_ret rfl ?_
       first | exact lf_i (by first | rfl | omega) (by rfl) | (exfalso; omega))

theorem s_X11_addActivity_1 {L : Nat} {iv : Nat → Nat → Int} (f : Int) (t : Int) (d : Int) (hk : q_KR (iv 155)) (hcase0 : ¬ (0 ≤ f ∧ f ≤ iv 155 0 - 1 ∧ 0 ≤ t ∧ t ≤ iv 155 0 - 1)) : pz_R (pz_Sh L) 279 [.inr (.inl 154), .inl f, .inl t, .inl d] iv (.inl (some (.inl 0))) (pz_u1 (pz_u1 iv 154 (pz_up (iv 154) 0 1)) 155 (iv 155)) := by
  intro dv cc ss
  have hk0 := hk.r0
  refine pz_G_mem (iv2 := pz_u1 (pz_u1 iv 154 (iv 154)) 155 (iv 155)) (by exact ((pz_u1_self iv 154).symm).trans (pz_u1_self (pz_u1 iv 154 (iv 154)) 155).symm) ?_
  show pz_G 279 0 [some (.inr (.inl 154)), some (.inl f), some (.inl t), some (.inl d), none] [] (pz_Sh L, pz_u1 (pz_u1 iv 154 (iv 154)) 155 (iv 155), dv, cc, ss) (pz_P (pz_Sh L) (.inl (some (.inl 0))) (pz_u1 (pz_u1 iv 154 (pz_up (iv 154) 0 1)) 155 (iv 155)) dv cc ss)
  refine pz_G_of pz_b279_0 ?_
  refine w_loc rfl ?_
  refine w_loc rfl ?_
  have hc1 : pz_R (pz_Sh L) 194 [.inr (.inl 154), .inl f] (pz_u1 (pz_u1 iv 154 (iv 154)) 155 (iv 155)) (.inl (some (.inl (pz_bi (0 ≤ f ∧ f ≤ (iv 155) 0 - 1))))) (pz_u1 (pz_u1 iv 154 (iv 154)) 155 (iv 155)) := s_X11_isEvent f (by show q_KR (iv 155); exact hk)
  refine w_call hc1 rfl (pz_cokI is_154 rfl) ?_
  refine w_beq (fun h2 => ?_) (fun h2 => ?_)
  · first
    | (exfalso; first | omega | contradiction)
    | (refine pz_G_of pz_b279_16 ?_
       refine w_loc rfl ?_
       refine w_pure rfl ?_
       have hc3 : pz_R (pz_Sh L) 191 [.inr (.inl 154), .inl 1] (pz_u1 (pz_u1 iv 154 (iv 154)) 155 (iv 155)) (.inl (some (.inl 0))) (pz_u1 (pz_u1 iv 154 (pz_up (iv 154) 0 1)) 155 (iv 155)) := pz_R_mem (s_X11_fails 1) (by rw [pz_u1_in (r := 154) (q := 155) (by decide)]; rw [pz_u1_top (r := 154)]; rfl)
       refine w_call hc3 rfl (pz_cokI is_154 rfl) ?_
       refine w_ret rfl ?_
       first | exact lf_i (by first | rfl | omega) rfl | (exfalso; omega))
  · first
    | (exfalso; first | omega | contradiction)
    | (refine w_loc rfl ?_
       refine w_loc rfl ?_
       have hc4 : pz_R (pz_Sh L) 194 [.inr (.inl 154), .inl t] (pz_u1 (pz_u1 iv 154 (iv 154)) 155 (iv 155)) (.inl (some (.inl (pz_bi (0 ≤ t ∧ t ≤ (iv 155) 0 - 1))))) (pz_u1 (pz_u1 iv 154 (iv 154)) 155 (iv 155)) := s_X11_isEvent t (by show q_KR (iv 155); exact hk)
       refine w_call hc4 rfl (pz_cokI is_154 rfl) ?_
       refine w_bne (fun h5 => ?_) (fun h5 => ?_)
       · first
         | (exfalso; first | omega | contradiction)
         | (refine pz_G_of pz_b279_22 ?_
            refine w_loc rfl ?_
            refine w_loc rfl ?_
            refine w_ieq (fun h6 => ?_) (fun h6 => ?_)
            · first
              | (exfalso; first | omega | contradiction)
              | (refine pz_G_of pz_b279_37 ?_
                 refine w_loc rfl ?_
                 refine w_pure rfl ?_
                 have hc7 : pz_R (pz_Sh L) 191 [.inr (.inl 154), .inl 2] (pz_u1 (pz_u1 iv 154 (iv 154)) 155 (iv 155)) (.inl (some (.inl 0))) (pz_u1 (pz_u1 iv 154 (pz_up (iv 154) 0 2)) 155 (iv 155)) := pz_R_mem (s_X11_fails 2) (by rw [pz_u1_in (r := 154) (q := 155) (by decide)]; rw [pz_u1_top (r := 154)]; rfl)
                 refine w_call hc7 rfl (pz_cokI is_154 rfl) ?_
                 refine w_ret rfl ?_
                 first | exact lf_i (by first | rfl | omega) rfl | (exfalso; omega))
            · first
              | (exfalso; first | omega | contradiction)
              | (refine w_loc rfl ?_
                 refine w_pure rfl ?_
                 refine w_pure rfl ?_
                 have hc8 : pz_R (pz_Sh L) 190 [.inl d, .inl 1, .inl 9] (pz_u1 (pz_u1 iv 154 (iv 154)) 155 (iv 155)) (.inl (some (.inl (pz_bi (1 ≤ d ∧ d ≤ 9))))) (pz_u1 (pz_u1 iv 154 (iv 154)) 155 (iv 155)) := s_X11_in d 1 9
                 refine w_call hc8 rfl rfl ?_
                 refine w_bne (fun h9 => ?_) (fun h9 => ?_)
                 · first
                   | (exfalso; first | omega | contradiction)
                   | (refine pz_G_of pz_b279_43 ?_
                      refine w_loc rfl ?_
                      refine w_getR (q := 155) is_154 rf_154_1 ?_
                      refine w_pure rfl ?_
                      refine w_iald (v := (iv 155) 3) is_155 ln_155 ⟨by omega, by omega⟩ rfl ?_
                      refine w_pure rfl ?_
                      refine w_ine (fun h10 => ?_) (fun h10 => ?_)
                      · first
                        | (exfalso; first | omega | contradiction)
                        | (refine pz_G_of pz_b279_59 ?_
                           refine w_pure rfl ?_
                           refine w_pure rfl ?_
                           refine w_loc rfl ?_
                           refine w_getR (q := 155) is_154 rf_154_1 ?_
                           refine w_pure rfl ?_
                           refine w_iald (v := (iv 155) 3) is_155 ln_155 ⟨by omega, by omega⟩ rfl ?_
                           refine w_imul (by omega) ?_
                           refine w_iadd (by omega) ?_
                           refine w_loc (ls' := [some (.inr (.inl 154)), some (.inl f), some (.inl t), some (.inl d), some (.inl (224 + (3 * ((iv 155) 3))))]) (st' := []) rfl ?_
                           refine w_loc rfl ?_
                           refine w_getR (q := 155) is_154 rf_154_1 ?_
                           refine w_loc rfl ?_
                           refine w_loc rfl ?_
                           refine w_iastm (iv2 := pz_u1 (pz_u1 iv 154 (iv 154)) 155 (pz_up (iv 155) (224 + (3 * ((iv 155) 3))).toNat f)) is_155 ln_155 ⟨by omega, by omega⟩ (by exact pz_u2_top _ _ _ _ _) ?_
                           refine w_loc rfl ?_
                           refine w_getR (q := 155) is_154 rf_154_1 ?_
                           refine w_loc rfl ?_
                           refine w_pure rfl ?_
                           refine w_iadd (by omega) ?_
                           refine w_loc rfl ?_
                           refine w_iastm (iv2 := pz_u1 (pz_u1 iv 154 (iv 154)) 155 (pz_up (pz_up (iv 155) (224 + (3 * ((iv 155) 3))).toNat f) ((224 + (3 * ((iv 155) 3))) + 1).toNat t)) is_155 ln_155 ⟨by omega, by omega⟩ (by exact pz_u2_top _ _ _ _ _) ?_
                           refine w_loc rfl ?_
                           refine w_getR (q := 155) is_154 rf_154_1 ?_
                           refine w_loc rfl ?_
                           refine w_pure rfl ?_
                           refine w_iadd (by omega) ?_
                           refine w_loc rfl ?_
                           refine w_iastm (iv2 := pz_u1 (pz_u1 iv 154 (iv 154)) 155 (pz_up (pz_up (pz_up (iv 155) (224 + (3 * ((iv 155) 3))).toNat f) ((224 + (3 * ((iv 155) 3))) + 1).toNat t) ((224 + (3 * ((iv 155) 3))) + 2).toNat d)) is_155 ln_155 ⟨by omega, by omega⟩ (by exact pz_u2_top _ _ _ _ _) ?_
                           refine w_loc rfl ?_
                           refine w_getR (q := 155) is_154 rf_154_1 ?_
                           refine w_pure rfl ?_
                           refine w_pure rfl ?_
                           refine w_iald (v := (iv 155) 3) is_155 ln_155 ⟨by omega, by omega⟩ (by show (pz_up (pz_up (pz_up (iv 155) (224 + (3 * ((iv 155) 3))).toNat f) ((224 + (3 * ((iv 155) 3))) + 1).toNat t) ((224 + (3 * ((iv 155) 3))) + 2).toNat d) 3 = _; rw [pz_up_ne (by omega), pz_up_ne (by omega), pz_up_ne (by omega)]) ?_
                           refine w_pure rfl ?_
                           refine w_iadd (by omega) ?_
                           refine w_iastm (iv2 := pz_u1 (pz_u1 iv 154 (iv 154)) 155 (pz_up (pz_up (pz_up (pz_up (iv 155) (224 + (3 * ((iv 155) 3))).toNat f) ((224 + (3 * ((iv 155) 3))) + 1).toNat t) ((224 + (3 * ((iv 155) 3))) + 2).toNat d) 3 (((iv 155) 3) + 1))) is_155 ln_155 ⟨by omega, by omega⟩ (by exact pz_u2_top _ _ _ _ _) ?_
                           refine w_loc rfl ?_
                           refine w_loc rfl ?_
                           refine w_getR (q := 155) is_154 rf_154_1 ?_
                           refine w_pure rfl ?_
                           refine w_iald (v := ((iv 155) 3) + 1) is_155 ln_155 ⟨by omega, by omega⟩ rfl ?_
                           refine w_pure rfl ?_
                           refine w_isub (by omega) ?_
                           have hc11 : pz_R (pz_Sh L) 192 [.inr (.inl 154), .inl ((((iv 155) 3) + 1) - 1)] (pz_u1 (pz_u1 iv 154 (iv 154)) 155 (pz_up (pz_up (pz_up (pz_up (iv 155) (224 + (3 * ((iv 155) 3))).toNat f) ((224 + (3 * ((iv 155) 3))) + 1).toNat t) ((224 + (3 * ((iv 155) 3))) + 2).toNat d) 3 (((iv 155) 3) + 1))) (.inl (some (.inl ((((iv 155) 3) + 1) - 1)))) (pz_u1 (pz_u1 iv 154 (pz_up (iv 154) 0 0)) 155 (pz_up (pz_up (pz_up (pz_up (iv 155) (224 + (3 * ((iv 155) 3))).toNat f) ((224 + (3 * ((iv 155) 3))) + 1).toNat t) ((224 + (3 * ((iv 155) 3))) + 2).toNat d) 3 (((iv 155) 3) + 1))) := pz_R_mem (s_X11_tells ((((iv 155) 3) + 1) - 1)) (by rw [pz_u1_in (r := 154) (q := 155) (by decide)]; rw [pz_u1_top (r := 154)]; rfl)
                           refine w_call hc11 rfl (pz_cokI is_154 rfl) ?_
                           refine w_ret rfl ?_
                           first | exact lf_i (by first | rfl | omega) rfl | (exfalso; omega))
                      · first
                        | (exfalso; first | omega | contradiction)
                        | (refine w_loc rfl ?_
                           refine w_pure rfl ?_
                           have hc12 : pz_R (pz_Sh L) 191 [.inr (.inl 154), .inl 3] (pz_u1 (pz_u1 iv 154 (iv 154)) 155 (iv 155)) (.inl (some (.inl 0))) (pz_u1 (pz_u1 iv 154 (pz_up (iv 154) 0 3)) 155 (iv 155)) := pz_R_mem (s_X11_fails 3) (by rw [pz_u1_in (r := 154) (q := 155) (by decide)]; rw [pz_u1_top (r := 154)]; rfl)
                           refine w_call hc12 rfl (pz_cokI is_154 rfl) ?_
                           refine w_ret rfl ?_
                           first | exact lf_i (by first | rfl | omega) rfl | (exfalso; omega)))
                 · first
                   | (exfalso; first | omega | contradiction)
                   | (refine w_nil ?_
                      refine pz_G_of pz_b279_37 ?_
                      refine w_loc rfl ?_
                      refine w_pure rfl ?_
                      have hc13 : pz_R (pz_Sh L) 191 [.inr (.inl 154), .inl 2] (pz_u1 (pz_u1 iv 154 (iv 154)) 155 (iv 155)) (.inl (some (.inl 0))) (pz_u1 (pz_u1 iv 154 (pz_up (iv 154) 0 2)) 155 (iv 155)) := pz_R_mem (s_X11_fails 2) (by rw [pz_u1_in (r := 154) (q := 155) (by decide)]; rw [pz_u1_top (r := 154)]; rfl)
                      refine w_call hc13 rfl (pz_cokI is_154 rfl) ?_
                      refine w_ret rfl ?_
                      first | exact lf_i (by first | rfl | omega) rfl | (exfalso; omega))))
       · first
         | (exfalso; first | omega | contradiction)
         | (refine w_nil ?_
            refine pz_G_of pz_b279_16 ?_
            refine w_loc rfl ?_
            refine w_pure rfl ?_
            have hc14 : pz_R (pz_Sh L) 191 [.inr (.inl 154), .inl 1] (pz_u1 (pz_u1 iv 154 (iv 154)) 155 (iv 155)) (.inl (some (.inl 0))) (pz_u1 (pz_u1 iv 154 (pz_up (iv 154) 0 1)) 155 (iv 155)) := pz_R_mem (s_X11_fails 1) (by rw [pz_u1_in (r := 154) (q := 155) (by decide)]; rw [pz_u1_top (r := 154)]; rfl)
            refine w_call hc14 rfl (pz_cokI is_154 rfl) ?_
            refine w_ret rfl ?_
            first | exact lf_i (by first | rfl | omega) rfl | (exfalso; omega)))

theorem s_X11_addActivity_2 {L : Nat} {iv : Nat → Nat → Int} (f : Int) (t : Int) (d : Int) (hk : q_KR (iv 155)) (hcase0 : 0 ≤ f ∧ f ≤ iv 155 0 - 1 ∧ 0 ≤ t ∧ t ≤ iv 155 0 - 1) (hcase1 : ¬ (f ≠ t ∧ 1 ≤ d ∧ d ≤ 9)) : pz_R (pz_Sh L) 279 [.inr (.inl 154), .inl f, .inl t, .inl d] iv (.inl (some (.inl 0))) (pz_u1 (pz_u1 iv 154 (pz_up (iv 154) 0 2)) 155 (iv 155)) := by
  intro dv cc ss
  have hk0 := hk.r0
  refine pz_G_mem (iv2 := pz_u1 (pz_u1 iv 154 (iv 154)) 155 (iv 155)) (by exact ((pz_u1_self iv 154).symm).trans (pz_u1_self (pz_u1 iv 154 (iv 154)) 155).symm) ?_
  show pz_G 279 0 [some (.inr (.inl 154)), some (.inl f), some (.inl t), some (.inl d), none] [] (pz_Sh L, pz_u1 (pz_u1 iv 154 (iv 154)) 155 (iv 155), dv, cc, ss) (pz_P (pz_Sh L) (.inl (some (.inl 0))) (pz_u1 (pz_u1 iv 154 (pz_up (iv 154) 0 2)) 155 (iv 155)) dv cc ss)
  refine pz_G_of pz_b279_0 ?_
  refine w_loc rfl ?_
  refine w_loc rfl ?_
  have hc1 : pz_R (pz_Sh L) 194 [.inr (.inl 154), .inl f] (pz_u1 (pz_u1 iv 154 (iv 154)) 155 (iv 155)) (.inl (some (.inl (pz_bi (0 ≤ f ∧ f ≤ (iv 155) 0 - 1))))) (pz_u1 (pz_u1 iv 154 (iv 154)) 155 (iv 155)) := s_X11_isEvent f (by show q_KR (iv 155); exact hk)
  refine w_call hc1 rfl (pz_cokI is_154 rfl) ?_
  refine w_beq (fun h2 => ?_) (fun h2 => ?_)
  · first
    | (exfalso; first | omega | contradiction)
    | (refine pz_G_of pz_b279_16 ?_
       refine w_loc rfl ?_
       refine w_pure rfl ?_
       have hc3 : pz_R (pz_Sh L) 191 [.inr (.inl 154), .inl 1] (pz_u1 (pz_u1 iv 154 (iv 154)) 155 (iv 155)) (.inl (some (.inl 0))) (pz_u1 (pz_u1 iv 154 (pz_up (iv 154) 0 1)) 155 (iv 155)) := pz_R_mem (s_X11_fails 1) (by rw [pz_u1_in (r := 154) (q := 155) (by decide)]; rw [pz_u1_top (r := 154)]; rfl)
       refine w_call hc3 rfl (pz_cokI is_154 rfl) ?_
       refine w_ret rfl ?_
       first | exact lf_i (by first | rfl | omega) rfl | (exfalso; omega))
  · first
    | (exfalso; first | omega | contradiction)
    | (refine w_loc rfl ?_
       refine w_loc rfl ?_
       have hc4 : pz_R (pz_Sh L) 194 [.inr (.inl 154), .inl t] (pz_u1 (pz_u1 iv 154 (iv 154)) 155 (iv 155)) (.inl (some (.inl (pz_bi (0 ≤ t ∧ t ≤ (iv 155) 0 - 1))))) (pz_u1 (pz_u1 iv 154 (iv 154)) 155 (iv 155)) := s_X11_isEvent t (by show q_KR (iv 155); exact hk)
       refine w_call hc4 rfl (pz_cokI is_154 rfl) ?_
       refine w_bne (fun h5 => ?_) (fun h5 => ?_)
       · first
         | (exfalso; first | omega | contradiction)
         | (refine pz_G_of pz_b279_22 ?_
            refine w_loc rfl ?_
            refine w_loc rfl ?_
            refine w_ieq (fun h6 => ?_) (fun h6 => ?_)
            · first
              | (exfalso; first | omega | contradiction)
              | (refine pz_G_of pz_b279_37 ?_
                 refine w_loc rfl ?_
                 refine w_pure rfl ?_
                 have hc7 : pz_R (pz_Sh L) 191 [.inr (.inl 154), .inl 2] (pz_u1 (pz_u1 iv 154 (iv 154)) 155 (iv 155)) (.inl (some (.inl 0))) (pz_u1 (pz_u1 iv 154 (pz_up (iv 154) 0 2)) 155 (iv 155)) := pz_R_mem (s_X11_fails 2) (by rw [pz_u1_in (r := 154) (q := 155) (by decide)]; rw [pz_u1_top (r := 154)]; rfl)
                 refine w_call hc7 rfl (pz_cokI is_154 rfl) ?_
                 refine w_ret rfl ?_
                 first | exact lf_i (by first | rfl | omega) rfl | (exfalso; omega))
            · first
              | (exfalso; first | omega | contradiction)
              | (refine w_loc rfl ?_
                 refine w_pure rfl ?_
                 refine w_pure rfl ?_
                 have hc8 : pz_R (pz_Sh L) 190 [.inl d, .inl 1, .inl 9] (pz_u1 (pz_u1 iv 154 (iv 154)) 155 (iv 155)) (.inl (some (.inl (pz_bi (1 ≤ d ∧ d ≤ 9))))) (pz_u1 (pz_u1 iv 154 (iv 154)) 155 (iv 155)) := s_X11_in d 1 9
                 refine w_call hc8 rfl rfl ?_
                 refine w_bne (fun h9 => ?_) (fun h9 => ?_)
                 · first
                   | (exfalso; first | omega | contradiction)
                   | (refine pz_G_of pz_b279_43 ?_
                      refine w_loc rfl ?_
                      refine w_getR (q := 155) is_154 rf_154_1 ?_
                      refine w_pure rfl ?_
                      refine w_iald (v := (iv 155) 3) is_155 ln_155 ⟨by omega, by omega⟩ rfl ?_
                      refine w_pure rfl ?_
                      refine w_ine (fun h10 => ?_) (fun h10 => ?_)
                      · first
                        | (exfalso; first | omega | contradiction)
                        | (refine pz_G_of pz_b279_59 ?_
                           refine w_pure rfl ?_
                           refine w_pure rfl ?_
                           refine w_loc rfl ?_
                           refine w_getR (q := 155) is_154 rf_154_1 ?_
                           refine w_pure rfl ?_
                           refine w_iald (v := (iv 155) 3) is_155 ln_155 ⟨by omega, by omega⟩ rfl ?_
                           refine w_imul (by omega) ?_
                           refine w_iadd (by omega) ?_
                           refine w_loc (ls' := [some (.inr (.inl 154)), some (.inl f), some (.inl t), some (.inl d), some (.inl (224 + (3 * ((iv 155) 3))))]) (st' := []) rfl ?_
                           refine w_loc rfl ?_
                           refine w_getR (q := 155) is_154 rf_154_1 ?_
                           refine w_loc rfl ?_
                           refine w_loc rfl ?_
                           refine w_iastm (iv2 := pz_u1 (pz_u1 iv 154 (iv 154)) 155 (pz_up (iv 155) (224 + (3 * ((iv 155) 3))).toNat f)) is_155 ln_155 ⟨by omega, by omega⟩ (by exact pz_u2_top _ _ _ _ _) ?_
                           refine w_loc rfl ?_
                           refine w_getR (q := 155) is_154 rf_154_1 ?_
                           refine w_loc rfl ?_
                           refine w_pure rfl ?_
                           refine w_iadd (by omega) ?_
                           refine w_loc rfl ?_
                           refine w_iastm (iv2 := pz_u1 (pz_u1 iv 154 (iv 154)) 155 (pz_up (pz_up (iv 155) (224 + (3 * ((iv 155) 3))).toNat f) ((224 + (3 * ((iv 155) 3))) + 1).toNat t)) is_155 ln_155 ⟨by omega, by omega⟩ (by exact pz_u2_top _ _ _ _ _) ?_
                           refine w_loc rfl ?_
                           refine w_getR (q := 155) is_154 rf_154_1 ?_
                           refine w_loc rfl ?_
                           refine w_pure rfl ?_
                           refine w_iadd (by omega) ?_
                           refine w_loc rfl ?_
                           refine w_iastm (iv2 := pz_u1 (pz_u1 iv 154 (iv 154)) 155 (pz_up (pz_up (pz_up (iv 155) (224 + (3 * ((iv 155) 3))).toNat f) ((224 + (3 * ((iv 155) 3))) + 1).toNat t) ((224 + (3 * ((iv 155) 3))) + 2).toNat d)) is_155 ln_155 ⟨by omega, by omega⟩ (by exact pz_u2_top _ _ _ _ _) ?_
                           refine w_loc rfl ?_
                           refine w_getR (q := 155) is_154 rf_154_1 ?_
                           refine w_pure rfl ?_
                           refine w_pure rfl ?_
                           refine w_iald (v := (iv 155) 3) is_155 ln_155 ⟨by omega, by omega⟩ (by show (pz_up (pz_up (pz_up (iv 155) (224 + (3 * ((iv 155) 3))).toNat f) ((224 + (3 * ((iv 155) 3))) + 1).toNat t) ((224 + (3 * ((iv 155) 3))) + 2).toNat d) 3 = _; rw [pz_up_ne (by omega), pz_up_ne (by omega), pz_up_ne (by omega)]) ?_
                           refine w_pure rfl ?_
                           refine w_iadd (by omega) ?_
                           refine w_iastm (iv2 := pz_u1 (pz_u1 iv 154 (iv 154)) 155 (pz_up (pz_up (pz_up (pz_up (iv 155) (224 + (3 * ((iv 155) 3))).toNat f) ((224 + (3 * ((iv 155) 3))) + 1).toNat t) ((224 + (3 * ((iv 155) 3))) + 2).toNat d) 3 (((iv 155) 3) + 1))) is_155 ln_155 ⟨by omega, by omega⟩ (by exact pz_u2_top _ _ _ _ _) ?_
                           refine w_loc rfl ?_
                           refine w_loc rfl ?_
                           refine w_getR (q := 155) is_154 rf_154_1 ?_
                           refine w_pure rfl ?_
                           refine w_iald (v := ((iv 155) 3) + 1) is_155 ln_155 ⟨by omega, by omega⟩ rfl ?_
                           refine w_pure rfl ?_
                           refine w_isub (by omega) ?_
                           have hc11 : pz_R (pz_Sh L) 192 [.inr (.inl 154), .inl ((((iv 155) 3) + 1) - 1)] (pz_u1 (pz_u1 iv 154 (iv 154)) 155 (pz_up (pz_up (pz_up (pz_up (iv 155) (224 + (3 * ((iv 155) 3))).toNat f) ((224 + (3 * ((iv 155) 3))) + 1).toNat t) ((224 + (3 * ((iv 155) 3))) + 2).toNat d) 3 (((iv 155) 3) + 1))) (.inl (some (.inl ((((iv 155) 3) + 1) - 1)))) (pz_u1 (pz_u1 iv 154 (pz_up (iv 154) 0 0)) 155 (pz_up (pz_up (pz_up (pz_up (iv 155) (224 + (3 * ((iv 155) 3))).toNat f) ((224 + (3 * ((iv 155) 3))) + 1).toNat t) ((224 + (3 * ((iv 155) 3))) + 2).toNat d) 3 (((iv 155) 3) + 1))) := pz_R_mem (s_X11_tells ((((iv 155) 3) + 1) - 1)) (by rw [pz_u1_in (r := 154) (q := 155) (by decide)]; rw [pz_u1_top (r := 154)]; rfl)
                           refine w_call hc11 rfl (pz_cokI is_154 rfl) ?_
                           refine w_ret rfl ?_
                           first | exact lf_i (by first | rfl | omega) rfl | (exfalso; omega))
                      · first
                        | (exfalso; first | omega | contradiction)
                        | (refine w_loc rfl ?_
                           refine w_pure rfl ?_
                           have hc12 : pz_R (pz_Sh L) 191 [.inr (.inl 154), .inl 3] (pz_u1 (pz_u1 iv 154 (iv 154)) 155 (iv 155)) (.inl (some (.inl 0))) (pz_u1 (pz_u1 iv 154 (pz_up (iv 154) 0 3)) 155 (iv 155)) := pz_R_mem (s_X11_fails 3) (by rw [pz_u1_in (r := 154) (q := 155) (by decide)]; rw [pz_u1_top (r := 154)]; rfl)
                           refine w_call hc12 rfl (pz_cokI is_154 rfl) ?_
                           refine w_ret rfl ?_
                           first | exact lf_i (by first | rfl | omega) rfl | (exfalso; omega)))
                 · first
                   | (exfalso; first | omega | contradiction)
                   | (refine w_nil ?_
                      refine pz_G_of pz_b279_37 ?_
                      refine w_loc rfl ?_
                      refine w_pure rfl ?_
                      have hc13 : pz_R (pz_Sh L) 191 [.inr (.inl 154), .inl 2] (pz_u1 (pz_u1 iv 154 (iv 154)) 155 (iv 155)) (.inl (some (.inl 0))) (pz_u1 (pz_u1 iv 154 (pz_up (iv 154) 0 2)) 155 (iv 155)) := pz_R_mem (s_X11_fails 2) (by rw [pz_u1_in (r := 154) (q := 155) (by decide)]; rw [pz_u1_top (r := 154)]; rfl)
                      refine w_call hc13 rfl (pz_cokI is_154 rfl) ?_
                      refine w_ret rfl ?_
                      first | exact lf_i (by first | rfl | omega) rfl | (exfalso; omega))))
       · first
         | (exfalso; first | omega | contradiction)
         | (refine w_nil ?_
            refine pz_G_of pz_b279_16 ?_
            refine w_loc rfl ?_
            refine w_pure rfl ?_
            have hc14 : pz_R (pz_Sh L) 191 [.inr (.inl 154), .inl 1] (pz_u1 (pz_u1 iv 154 (iv 154)) 155 (iv 155)) (.inl (some (.inl 0))) (pz_u1 (pz_u1 iv 154 (pz_up (iv 154) 0 1)) 155 (iv 155)) := pz_R_mem (s_X11_fails 1) (by rw [pz_u1_in (r := 154) (q := 155) (by decide)]; rw [pz_u1_top (r := 154)]; rfl)
            refine w_call hc14 rfl (pz_cokI is_154 rfl) ?_
            refine w_ret rfl ?_
            first | exact lf_i (by first | rfl | omega) rfl | (exfalso; omega)))

theorem s_X11_addActivity_3 {L : Nat} {iv : Nat → Nat → Int} (f : Int) (t : Int) (d : Int) (hk : q_KR (iv 155)) (hcase0 : 0 ≤ f ∧ f ≤ iv 155 0 - 1 ∧ 0 ≤ t ∧ t ≤ iv 155 0 - 1) (hcase1 : f ≠ t ∧ 1 ≤ d ∧ d ≤ 9) (hcase2 : iv 155 3 = 5) : pz_R (pz_Sh L) 279 [.inr (.inl 154), .inl f, .inl t, .inl d] iv (.inl (some (.inl 0))) (pz_u1 (pz_u1 iv 154 (pz_up (iv 154) 0 3)) 155 (iv 155)) := by
  intro dv cc ss
  have hk0 := hk.r0
  refine pz_G_mem (iv2 := pz_u1 (pz_u1 iv 154 (iv 154)) 155 (iv 155)) (by exact ((pz_u1_self iv 154).symm).trans (pz_u1_self (pz_u1 iv 154 (iv 154)) 155).symm) ?_
  show pz_G 279 0 [some (.inr (.inl 154)), some (.inl f), some (.inl t), some (.inl d), none] [] (pz_Sh L, pz_u1 (pz_u1 iv 154 (iv 154)) 155 (iv 155), dv, cc, ss) (pz_P (pz_Sh L) (.inl (some (.inl 0))) (pz_u1 (pz_u1 iv 154 (pz_up (iv 154) 0 3)) 155 (iv 155)) dv cc ss)
  refine pz_G_of pz_b279_0 ?_
  refine w_loc rfl ?_
  refine w_loc rfl ?_
  have hc1 : pz_R (pz_Sh L) 194 [.inr (.inl 154), .inl f] (pz_u1 (pz_u1 iv 154 (iv 154)) 155 (iv 155)) (.inl (some (.inl (pz_bi (0 ≤ f ∧ f ≤ (iv 155) 0 - 1))))) (pz_u1 (pz_u1 iv 154 (iv 154)) 155 (iv 155)) := s_X11_isEvent f (by show q_KR (iv 155); exact hk)
  refine w_call hc1 rfl (pz_cokI is_154 rfl) ?_
  refine w_beq (fun h2 => ?_) (fun h2 => ?_)
  · first
    | (exfalso; first | omega | contradiction)
    | (refine pz_G_of pz_b279_16 ?_
       refine w_loc rfl ?_
       refine w_pure rfl ?_
       have hc3 : pz_R (pz_Sh L) 191 [.inr (.inl 154), .inl 1] (pz_u1 (pz_u1 iv 154 (iv 154)) 155 (iv 155)) (.inl (some (.inl 0))) (pz_u1 (pz_u1 iv 154 (pz_up (iv 154) 0 1)) 155 (iv 155)) := pz_R_mem (s_X11_fails 1) (by rw [pz_u1_in (r := 154) (q := 155) (by decide)]; rw [pz_u1_top (r := 154)]; rfl)
       refine w_call hc3 rfl (pz_cokI is_154 rfl) ?_
       refine w_ret rfl ?_
       first | exact lf_i (by first | rfl | omega) rfl | (exfalso; omega))
  · first
    | (exfalso; first | omega | contradiction)
    | (refine w_loc rfl ?_
       refine w_loc rfl ?_
       have hc4 : pz_R (pz_Sh L) 194 [.inr (.inl 154), .inl t] (pz_u1 (pz_u1 iv 154 (iv 154)) 155 (iv 155)) (.inl (some (.inl (pz_bi (0 ≤ t ∧ t ≤ (iv 155) 0 - 1))))) (pz_u1 (pz_u1 iv 154 (iv 154)) 155 (iv 155)) := s_X11_isEvent t (by show q_KR (iv 155); exact hk)
       refine w_call hc4 rfl (pz_cokI is_154 rfl) ?_
       refine w_bne (fun h5 => ?_) (fun h5 => ?_)
       · first
         | (exfalso; first | omega | contradiction)
         | (refine pz_G_of pz_b279_22 ?_
            refine w_loc rfl ?_
            refine w_loc rfl ?_
            refine w_ieq (fun h6 => ?_) (fun h6 => ?_)
            · first
              | (exfalso; first | omega | contradiction)
              | (refine pz_G_of pz_b279_37 ?_
                 refine w_loc rfl ?_
                 refine w_pure rfl ?_
                 have hc7 : pz_R (pz_Sh L) 191 [.inr (.inl 154), .inl 2] (pz_u1 (pz_u1 iv 154 (iv 154)) 155 (iv 155)) (.inl (some (.inl 0))) (pz_u1 (pz_u1 iv 154 (pz_up (iv 154) 0 2)) 155 (iv 155)) := pz_R_mem (s_X11_fails 2) (by rw [pz_u1_in (r := 154) (q := 155) (by decide)]; rw [pz_u1_top (r := 154)]; rfl)
                 refine w_call hc7 rfl (pz_cokI is_154 rfl) ?_
                 refine w_ret rfl ?_
                 first | exact lf_i (by first | rfl | omega) rfl | (exfalso; omega))
            · first
              | (exfalso; first | omega | contradiction)
              | (refine w_loc rfl ?_
                 refine w_pure rfl ?_
                 refine w_pure rfl ?_
                 have hc8 : pz_R (pz_Sh L) 190 [.inl d, .inl 1, .inl 9] (pz_u1 (pz_u1 iv 154 (iv 154)) 155 (iv 155)) (.inl (some (.inl (pz_bi (1 ≤ d ∧ d ≤ 9))))) (pz_u1 (pz_u1 iv 154 (iv 154)) 155 (iv 155)) := s_X11_in d 1 9
                 refine w_call hc8 rfl rfl ?_
                 refine w_bne (fun h9 => ?_) (fun h9 => ?_)
                 · first
                   | (exfalso; first | omega | contradiction)
                   | (refine pz_G_of pz_b279_43 ?_
                      refine w_loc rfl ?_
                      refine w_getR (q := 155) is_154 rf_154_1 ?_
                      refine w_pure rfl ?_
                      refine w_iald (v := (iv 155) 3) is_155 ln_155 ⟨by omega, by omega⟩ rfl ?_
                      refine w_pure rfl ?_
                      refine w_ine (fun h10 => ?_) (fun h10 => ?_)
                      · first
                        | (exfalso; first | omega | contradiction)
                        | (refine pz_G_of pz_b279_59 ?_
                           refine w_pure rfl ?_
                           refine w_pure rfl ?_
                           refine w_loc rfl ?_
                           refine w_getR (q := 155) is_154 rf_154_1 ?_
                           refine w_pure rfl ?_
                           refine w_iald (v := (iv 155) 3) is_155 ln_155 ⟨by omega, by omega⟩ rfl ?_
                           refine w_imul (by omega) ?_
                           refine w_iadd (by omega) ?_
                           refine w_loc (ls' := [some (.inr (.inl 154)), some (.inl f), some (.inl t), some (.inl d), some (.inl (224 + (3 * ((iv 155) 3))))]) (st' := []) rfl ?_
                           refine w_loc rfl ?_
                           refine w_getR (q := 155) is_154 rf_154_1 ?_
                           refine w_loc rfl ?_
                           refine w_loc rfl ?_
                           refine w_iastm (iv2 := pz_u1 (pz_u1 iv 154 (iv 154)) 155 (pz_up (iv 155) (224 + (3 * ((iv 155) 3))).toNat f)) is_155 ln_155 ⟨by omega, by omega⟩ (by exact pz_u2_top _ _ _ _ _) ?_
                           refine w_loc rfl ?_
                           refine w_getR (q := 155) is_154 rf_154_1 ?_
                           refine w_loc rfl ?_
                           refine w_pure rfl ?_
                           refine w_iadd (by omega) ?_
                           refine w_loc rfl ?_
                           refine w_iastm (iv2 := pz_u1 (pz_u1 iv 154 (iv 154)) 155 (pz_up (pz_up (iv 155) (224 + (3 * ((iv 155) 3))).toNat f) ((224 + (3 * ((iv 155) 3))) + 1).toNat t)) is_155 ln_155 ⟨by omega, by omega⟩ (by exact pz_u2_top _ _ _ _ _) ?_
                           refine w_loc rfl ?_
                           refine w_getR (q := 155) is_154 rf_154_1 ?_
                           refine w_loc rfl ?_
                           refine w_pure rfl ?_
                           refine w_iadd (by omega) ?_
                           refine w_loc rfl ?_
                           refine w_iastm (iv2 := pz_u1 (pz_u1 iv 154 (iv 154)) 155 (pz_up (pz_up (pz_up (iv 155) (224 + (3 * ((iv 155) 3))).toNat f) ((224 + (3 * ((iv 155) 3))) + 1).toNat t) ((224 + (3 * ((iv 155) 3))) + 2).toNat d)) is_155 ln_155 ⟨by omega, by omega⟩ (by exact pz_u2_top _ _ _ _ _) ?_
                           refine w_loc rfl ?_
                           refine w_getR (q := 155) is_154 rf_154_1 ?_
                           refine w_pure rfl ?_
                           refine w_pure rfl ?_
                           refine w_iald (v := (iv 155) 3) is_155 ln_155 ⟨by omega, by omega⟩ (by show (pz_up (pz_up (pz_up (iv 155) (224 + (3 * ((iv 155) 3))).toNat f) ((224 + (3 * ((iv 155) 3))) + 1).toNat t) ((224 + (3 * ((iv 155) 3))) + 2).toNat d) 3 = _; rw [pz_up_ne (by omega), pz_up_ne (by omega), pz_up_ne (by omega)]) ?_
                           refine w_pure rfl ?_
                           refine w_iadd (by omega) ?_
                           refine w_iastm (iv2 := pz_u1 (pz_u1 iv 154 (iv 154)) 155 (pz_up (pz_up (pz_up (pz_up (iv 155) (224 + (3 * ((iv 155) 3))).toNat f) ((224 + (3 * ((iv 155) 3))) + 1).toNat t) ((224 + (3 * ((iv 155) 3))) + 2).toNat d) 3 (((iv 155) 3) + 1))) is_155 ln_155 ⟨by omega, by omega⟩ (by exact pz_u2_top _ _ _ _ _) ?_
                           refine w_loc rfl ?_
                           refine w_loc rfl ?_
                           refine w_getR (q := 155) is_154 rf_154_1 ?_
                           refine w_pure rfl ?_
                           refine w_iald (v := ((iv 155) 3) + 1) is_155 ln_155 ⟨by omega, by omega⟩ rfl ?_
                           refine w_pure rfl ?_
                           refine w_isub (by omega) ?_
                           have hc11 : pz_R (pz_Sh L) 192 [.inr (.inl 154), .inl ((((iv 155) 3) + 1) - 1)] (pz_u1 (pz_u1 iv 154 (iv 154)) 155 (pz_up (pz_up (pz_up (pz_up (iv 155) (224 + (3 * ((iv 155) 3))).toNat f) ((224 + (3 * ((iv 155) 3))) + 1).toNat t) ((224 + (3 * ((iv 155) 3))) + 2).toNat d) 3 (((iv 155) 3) + 1))) (.inl (some (.inl ((((iv 155) 3) + 1) - 1)))) (pz_u1 (pz_u1 iv 154 (pz_up (iv 154) 0 0)) 155 (pz_up (pz_up (pz_up (pz_up (iv 155) (224 + (3 * ((iv 155) 3))).toNat f) ((224 + (3 * ((iv 155) 3))) + 1).toNat t) ((224 + (3 * ((iv 155) 3))) + 2).toNat d) 3 (((iv 155) 3) + 1))) := pz_R_mem (s_X11_tells ((((iv 155) 3) + 1) - 1)) (by rw [pz_u1_in (r := 154) (q := 155) (by decide)]; rw [pz_u1_top (r := 154)]; rfl)
                           refine w_call hc11 rfl (pz_cokI is_154 rfl) ?_
                           refine w_ret rfl ?_
                           first | exact lf_i (by first | rfl | omega) rfl | (exfalso; omega))
                      · first
                        | (exfalso; first | omega | contradiction)
                        | (refine w_loc rfl ?_
                           refine w_pure rfl ?_
                           have hc12 : pz_R (pz_Sh L) 191 [.inr (.inl 154), .inl 3] (pz_u1 (pz_u1 iv 154 (iv 154)) 155 (iv 155)) (.inl (some (.inl 0))) (pz_u1 (pz_u1 iv 154 (pz_up (iv 154) 0 3)) 155 (iv 155)) := pz_R_mem (s_X11_fails 3) (by rw [pz_u1_in (r := 154) (q := 155) (by decide)]; rw [pz_u1_top (r := 154)]; rfl)
                           refine w_call hc12 rfl (pz_cokI is_154 rfl) ?_
                           refine w_ret rfl ?_
                           first | exact lf_i (by first | rfl | omega) rfl | (exfalso; omega)))
                 · first
                   | (exfalso; first | omega | contradiction)
                   | (refine w_nil ?_
                      refine pz_G_of pz_b279_37 ?_
                      refine w_loc rfl ?_
                      refine w_pure rfl ?_
                      have hc13 : pz_R (pz_Sh L) 191 [.inr (.inl 154), .inl 2] (pz_u1 (pz_u1 iv 154 (iv 154)) 155 (iv 155)) (.inl (some (.inl 0))) (pz_u1 (pz_u1 iv 154 (pz_up (iv 154) 0 2)) 155 (iv 155)) := pz_R_mem (s_X11_fails 2) (by rw [pz_u1_in (r := 154) (q := 155) (by decide)]; rw [pz_u1_top (r := 154)]; rfl)
                      refine w_call hc13 rfl (pz_cokI is_154 rfl) ?_
                      refine w_ret rfl ?_
                      first | exact lf_i (by first | rfl | omega) rfl | (exfalso; omega))))
       · first
         | (exfalso; first | omega | contradiction)
         | (refine w_nil ?_
            refine pz_G_of pz_b279_16 ?_
            refine w_loc rfl ?_
            refine w_pure rfl ?_
            have hc14 : pz_R (pz_Sh L) 191 [.inr (.inl 154), .inl 1] (pz_u1 (pz_u1 iv 154 (iv 154)) 155 (iv 155)) (.inl (some (.inl 0))) (pz_u1 (pz_u1 iv 154 (pz_up (iv 154) 0 1)) 155 (iv 155)) := pz_R_mem (s_X11_fails 1) (by rw [pz_u1_in (r := 154) (q := 155) (by decide)]; rw [pz_u1_top (r := 154)]; rfl)
            refine w_call hc14 rfl (pz_cokI is_154 rfl) ?_
            refine w_ret rfl ?_
            first | exact lf_i (by first | rfl | omega) rfl | (exfalso; omega)))

theorem s_X11_addActivity_0 {L : Nat} {iv : Nat → Nat → Int} (f : Int) (t : Int) (d : Int) (hk : q_KR (iv 155)) (hcase0 : 0 ≤ f ∧ f ≤ iv 155 0 - 1 ∧ 0 ≤ t ∧ t ≤ iv 155 0 - 1) (hcase1 : f ≠ t ∧ 1 ≤ d ∧ d ≤ 9) (hcase2 : iv 155 3 ≠ 5) : pz_R (pz_Sh L) 279 [.inr (.inl 154), .inl f, .inl t, .inl d] iv (.inl (some (.inl ((iv 155) 3)))) (pz_u1 (pz_u1 iv 154 (pz_up (iv 154) 0 0)) 155 (q_addac (iv 155) f t d)) := by
  intro dv cc ss
  have hk0 := hk.r0
  refine pz_G_mem (iv2 := pz_u1 (pz_u1 iv 154 (iv 154)) 155 (iv 155)) (by exact ((pz_u1_self iv 154).symm).trans (pz_u1_self (pz_u1 iv 154 (iv 154)) 155).symm) ?_
  show pz_G 279 0 [some (.inr (.inl 154)), some (.inl f), some (.inl t), some (.inl d), none] [] (pz_Sh L, pz_u1 (pz_u1 iv 154 (iv 154)) 155 (iv 155), dv, cc, ss) (pz_P (pz_Sh L) (.inl (some (.inl ((iv 155) 3)))) (pz_u1 (pz_u1 iv 154 (pz_up (iv 154) 0 0)) 155 (q_addac (iv 155) f t d)) dv cc ss)
  refine pz_G_of pz_b279_0 ?_
  refine w_loc rfl ?_
  refine w_loc rfl ?_
  have hc1 : pz_R (pz_Sh L) 194 [.inr (.inl 154), .inl f] (pz_u1 (pz_u1 iv 154 (iv 154)) 155 (iv 155)) (.inl (some (.inl (pz_bi (0 ≤ f ∧ f ≤ (iv 155) 0 - 1))))) (pz_u1 (pz_u1 iv 154 (iv 154)) 155 (iv 155)) := s_X11_isEvent f (by show q_KR (iv 155); exact hk)
  refine w_call hc1 rfl (pz_cokI is_154 rfl) ?_
  refine w_beq (fun h2 => ?_) (fun h2 => ?_)
  · first
    | (exfalso; first | omega | contradiction)
    | (refine pz_G_of pz_b279_16 ?_
       refine w_loc rfl ?_
       refine w_pure rfl ?_
       have hc3 : pz_R (pz_Sh L) 191 [.inr (.inl 154), .inl 1] (pz_u1 (pz_u1 iv 154 (iv 154)) 155 (iv 155)) (.inl (some (.inl 0))) (pz_u1 (pz_u1 iv 154 (pz_up (iv 154) 0 1)) 155 (iv 155)) := pz_R_mem (s_X11_fails 1) (by rw [pz_u1_in (r := 154) (q := 155) (by decide)]; rw [pz_u1_top (r := 154)]; rfl)
       refine w_call hc3 rfl (pz_cokI is_154 rfl) ?_
       refine w_ret rfl ?_
       first | exact lf_i (by first | rfl | omega) rfl | (exfalso; omega))
  · first
    | (exfalso; first | omega | contradiction)
    | (refine w_loc rfl ?_
       refine w_loc rfl ?_
       have hc4 : pz_R (pz_Sh L) 194 [.inr (.inl 154), .inl t] (pz_u1 (pz_u1 iv 154 (iv 154)) 155 (iv 155)) (.inl (some (.inl (pz_bi (0 ≤ t ∧ t ≤ (iv 155) 0 - 1))))) (pz_u1 (pz_u1 iv 154 (iv 154)) 155 (iv 155)) := s_X11_isEvent t (by show q_KR (iv 155); exact hk)
       refine w_call hc4 rfl (pz_cokI is_154 rfl) ?_
       refine w_bne (fun h5 => ?_) (fun h5 => ?_)
       · first
         | (exfalso; first | omega | contradiction)
         | (refine pz_G_of pz_b279_22 ?_
            refine w_loc rfl ?_
            refine w_loc rfl ?_
            refine w_ieq (fun h6 => ?_) (fun h6 => ?_)
            · first
              | (exfalso; first | omega | contradiction)
              | (refine pz_G_of pz_b279_37 ?_
                 refine w_loc rfl ?_
                 refine w_pure rfl ?_
                 have hc7 : pz_R (pz_Sh L) 191 [.inr (.inl 154), .inl 2] (pz_u1 (pz_u1 iv 154 (iv 154)) 155 (iv 155)) (.inl (some (.inl 0))) (pz_u1 (pz_u1 iv 154 (pz_up (iv 154) 0 2)) 155 (iv 155)) := pz_R_mem (s_X11_fails 2) (by rw [pz_u1_in (r := 154) (q := 155) (by decide)]; rw [pz_u1_top (r := 154)]; rfl)
                 refine w_call hc7 rfl (pz_cokI is_154 rfl) ?_
                 refine w_ret rfl ?_
                 first | exact lf_i (by first | rfl | omega) rfl | (exfalso; omega))
            · first
              | (exfalso; first | omega | contradiction)
              | (refine w_loc rfl ?_
                 refine w_pure rfl ?_
                 refine w_pure rfl ?_
                 have hc8 : pz_R (pz_Sh L) 190 [.inl d, .inl 1, .inl 9] (pz_u1 (pz_u1 iv 154 (iv 154)) 155 (iv 155)) (.inl (some (.inl (pz_bi (1 ≤ d ∧ d ≤ 9))))) (pz_u1 (pz_u1 iv 154 (iv 154)) 155 (iv 155)) := s_X11_in d 1 9
                 refine w_call hc8 rfl rfl ?_
                 refine w_bne (fun h9 => ?_) (fun h9 => ?_)
                 · first
                   | (exfalso; first | omega | contradiction)
                   | (refine pz_G_of pz_b279_43 ?_
                      refine w_loc rfl ?_
                      refine w_getR (q := 155) is_154 rf_154_1 ?_
                      refine w_pure rfl ?_
                      refine w_iald (v := (iv 155) 3) is_155 ln_155 ⟨by omega, by omega⟩ rfl ?_
                      refine w_pure rfl ?_
                      refine w_ine (fun h10 => ?_) (fun h10 => ?_)
                      · first
                        | (exfalso; first | omega | contradiction)
                        | (refine pz_G_of pz_b279_59 ?_
                           refine w_pure rfl ?_
                           refine w_pure rfl ?_
                           refine w_loc rfl ?_
                           refine w_getR (q := 155) is_154 rf_154_1 ?_
                           refine w_pure rfl ?_
                           refine w_iald (v := (iv 155) 3) is_155 ln_155 ⟨by omega, by omega⟩ rfl ?_
                           refine w_imul (by omega) ?_
                           refine w_iadd (by omega) ?_
                           refine w_loc (ls' := [some (.inr (.inl 154)), some (.inl f), some (.inl t), some (.inl d), some (.inl (224 + (3 * ((iv 155) 3))))]) (st' := []) rfl ?_
                           refine w_loc rfl ?_
                           refine w_getR (q := 155) is_154 rf_154_1 ?_
                           refine w_loc rfl ?_
                           refine w_loc rfl ?_
                           refine w_iastm (iv2 := pz_u1 (pz_u1 iv 154 (iv 154)) 155 (pz_up (iv 155) (224 + (3 * ((iv 155) 3))).toNat f)) is_155 ln_155 ⟨by omega, by omega⟩ (by exact pz_u2_top _ _ _ _ _) ?_
                           refine w_loc rfl ?_
                           refine w_getR (q := 155) is_154 rf_154_1 ?_
                           refine w_loc rfl ?_
                           refine w_pure rfl ?_
                           refine w_iadd (by omega) ?_
                           refine w_loc rfl ?_
                           refine w_iastm (iv2 := pz_u1 (pz_u1 iv 154 (iv 154)) 155 (pz_up (pz_up (iv 155) (224 + (3 * ((iv 155) 3))).toNat f) ((224 + (3 * ((iv 155) 3))) + 1).toNat t)) is_155 ln_155 ⟨by omega, by omega⟩ (by exact pz_u2_top _ _ _ _ _) ?_
                           refine w_loc rfl ?_
                           refine w_getR (q := 155) is_154 rf_154_1 ?_
                           refine w_loc rfl ?_
                           refine w_pure rfl ?_
                           refine w_iadd (by omega) ?_
                           refine w_loc rfl ?_
                           refine w_iastm (iv2 := pz_u1 (pz_u1 iv 154 (iv 154)) 155 (pz_up (pz_up (pz_up (iv 155) (224 + (3 * ((iv 155) 3))).toNat f) ((224 + (3 * ((iv 155) 3))) + 1).toNat t) ((224 + (3 * ((iv 155) 3))) + 2).toNat d)) is_155 ln_155 ⟨by omega, by omega⟩ (by exact pz_u2_top _ _ _ _ _) ?_
                           refine w_loc rfl ?_
                           refine w_getR (q := 155) is_154 rf_154_1 ?_
                           refine w_pure rfl ?_
                           refine w_pure rfl ?_
                           refine w_iald (v := (iv 155) 3) is_155 ln_155 ⟨by omega, by omega⟩ (by show (pz_up (pz_up (pz_up (iv 155) (224 + (3 * ((iv 155) 3))).toNat f) ((224 + (3 * ((iv 155) 3))) + 1).toNat t) ((224 + (3 * ((iv 155) 3))) + 2).toNat d) 3 = _; rw [pz_up_ne (by omega), pz_up_ne (by omega), pz_up_ne (by omega)]) ?_
                           refine w_pure rfl ?_
                           refine w_iadd (by omega) ?_
                           refine w_iastm (iv2 := pz_u1 (pz_u1 iv 154 (iv 154)) 155 (pz_up (pz_up (pz_up (pz_up (iv 155) (224 + (3 * ((iv 155) 3))).toNat f) ((224 + (3 * ((iv 155) 3))) + 1).toNat t) ((224 + (3 * ((iv 155) 3))) + 2).toNat d) 3 (((iv 155) 3) + 1))) is_155 ln_155 ⟨by omega, by omega⟩ (by exact pz_u2_top _ _ _ _ _) ?_
                           refine w_loc rfl ?_
                           refine w_loc rfl ?_
                           refine w_getR (q := 155) is_154 rf_154_1 ?_
                           refine w_pure rfl ?_
                           refine w_iald (v := ((iv 155) 3) + 1) is_155 ln_155 ⟨by omega, by omega⟩ rfl ?_
                           refine w_pure rfl ?_
                           refine w_isub (by omega) ?_
                           have hc11 : pz_R (pz_Sh L) 192 [.inr (.inl 154), .inl ((((iv 155) 3) + 1) - 1)] (pz_u1 (pz_u1 iv 154 (iv 154)) 155 (pz_up (pz_up (pz_up (pz_up (iv 155) (224 + (3 * ((iv 155) 3))).toNat f) ((224 + (3 * ((iv 155) 3))) + 1).toNat t) ((224 + (3 * ((iv 155) 3))) + 2).toNat d) 3 (((iv 155) 3) + 1))) (.inl (some (.inl ((((iv 155) 3) + 1) - 1)))) (pz_u1 (pz_u1 iv 154 (pz_up (iv 154) 0 0)) 155 (pz_up (pz_up (pz_up (pz_up (iv 155) (224 + (3 * ((iv 155) 3))).toNat f) ((224 + (3 * ((iv 155) 3))) + 1).toNat t) ((224 + (3 * ((iv 155) 3))) + 2).toNat d) 3 (((iv 155) 3) + 1))) := pz_R_mem (s_X11_tells ((((iv 155) 3) + 1) - 1)) (by rw [pz_u1_in (r := 154) (q := 155) (by decide)]; rw [pz_u1_top (r := 154)]; rfl)
                           refine w_call hc11 rfl (pz_cokI is_154 rfl) ?_
                           refine w_ret rfl ?_
                           first | exact lf_i (by first | rfl | omega) rfl | (exfalso; omega))
                      · first
                        | (exfalso; first | omega | contradiction)
                        | (refine w_loc rfl ?_
                           refine w_pure rfl ?_
                           have hc12 : pz_R (pz_Sh L) 191 [.inr (.inl 154), .inl 3] (pz_u1 (pz_u1 iv 154 (iv 154)) 155 (iv 155)) (.inl (some (.inl 0))) (pz_u1 (pz_u1 iv 154 (pz_up (iv 154) 0 3)) 155 (iv 155)) := pz_R_mem (s_X11_fails 3) (by rw [pz_u1_in (r := 154) (q := 155) (by decide)]; rw [pz_u1_top (r := 154)]; rfl)
                           refine w_call hc12 rfl (pz_cokI is_154 rfl) ?_
                           refine w_ret rfl ?_
                           first | exact lf_i (by first | rfl | omega) rfl | (exfalso; omega)))
                 · first
                   | (exfalso; first | omega | contradiction)
                   | (refine w_nil ?_
                      refine pz_G_of pz_b279_37 ?_
                      refine w_loc rfl ?_
                      refine w_pure rfl ?_
                      have hc13 : pz_R (pz_Sh L) 191 [.inr (.inl 154), .inl 2] (pz_u1 (pz_u1 iv 154 (iv 154)) 155 (iv 155)) (.inl (some (.inl 0))) (pz_u1 (pz_u1 iv 154 (pz_up (iv 154) 0 2)) 155 (iv 155)) := pz_R_mem (s_X11_fails 2) (by rw [pz_u1_in (r := 154) (q := 155) (by decide)]; rw [pz_u1_top (r := 154)]; rfl)
                      refine w_call hc13 rfl (pz_cokI is_154 rfl) ?_
                      refine w_ret rfl ?_
                      first | exact lf_i (by first | rfl | omega) rfl | (exfalso; omega))))
       · first
         | (exfalso; first | omega | contradiction)
         | (refine w_nil ?_
            refine pz_G_of pz_b279_16 ?_
            refine w_loc rfl ?_
            refine w_pure rfl ?_
            have hc14 : pz_R (pz_Sh L) 191 [.inr (.inl 154), .inl 1] (pz_u1 (pz_u1 iv 154 (iv 154)) 155 (iv 155)) (.inl (some (.inl 0))) (pz_u1 (pz_u1 iv 154 (pz_up (iv 154) 0 1)) 155 (iv 155)) := pz_R_mem (s_X11_fails 1) (by rw [pz_u1_in (r := 154) (q := 155) (by decide)]; rw [pz_u1_top (r := 154)]; rfl)
            refine w_call hc14 rfl (pz_cokI is_154 rfl) ?_
            refine w_ret rfl ?_
            first | exact lf_i (by first | rfl | omega) rfl | (exfalso; omega)))
