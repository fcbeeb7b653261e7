
theorem s_X11_isPossible_0 {L : Nat} {iv : Nat → Nat → Int} (tr : Int) (fa : Int) (hk : q_KR (iv 155)) (hcase0 : 0 ≤ tr ∧ tr ≤ 15 ∧ 0 ≤ fa ∧ fa ≤ 15 ∧ pz_and tr fa = 0) : pz_R (pz_Sh L) 222 [.inr (.inl 154), .inl tr, .inl fa] iv (.inl (some (.inl (pz_bi (q_con (q_sets tr fa (q_lop (iv 155))) (iv 161)))))) (pz_u1 (pz_u1 (pz_u1 iv 154 (pz_up (iv 154) 0 0)) 155 (q_un (q_pkd (iv 155)) (q_sets tr fa (q_lop (iv 155))))) 157 (q_dd (q_sets tr fa (q_lop (iv 155))) (iv 161) (iv 157))) := by
  intro dv cc ss
  have hk0 := hk.r0
  refine pz_G_mem (iv2 := pz_u1 (pz_u1 (pz_u1 iv 154 (iv 154)) 155 (iv 155)) 157 (iv 157)) (by exact (((pz_u1_self iv 154).symm).trans (pz_u1_self (pz_u1 iv 154 (iv 154)) 155).symm).trans (pz_u1_self (pz_u1 (pz_u1 iv 154 (iv 154)) 155 (iv 155)) 157).symm) ?_
  show pz_G 222 0 [some (.inr (.inl 154)), some (.inl tr), some (.inl fa), none, none] [] (pz_Sh L, pz_u1 (pz_u1 (pz_u1 iv 154 (iv 154)) 155 (iv 155)) 157 (iv 157), dv, cc, ss) (pz_P (pz_Sh L) (.inl (some (.inl (pz_bi (q_con (q_sets tr fa (q_lop (iv 155))) (iv 161)))))) (pz_u1 (pz_u1 (pz_u1 iv 154 (pz_up (iv 154) 0 0)) 155 (q_un (q_pkd (iv 155)) (q_sets tr fa (q_lop (iv 155))))) 157 (q_dd (q_sets tr fa (q_lop (iv 155))) (iv 161) (iv 157))) dv cc ss)
  refine pz_G_of pz_b222_0 ?_
  refine w_loc rfl ?_
  refine w_pure rfl ?_
  refine w_pure rfl ?_
  have hc1 : pz_R (pz_Sh L) 190 [.inl tr, .inl 0, .inl 15] (pz_u1 (pz_u1 (pz_u1 iv 154 (iv 154)) 155 (iv 155)) 157 (iv 157)) (.inl (some (.inl (pz_bi (0 ≤ tr ∧ tr ≤ 15))))) (pz_u1 (pz_u1 (pz_u1 iv 154 (iv 154)) 155 (iv 155)) 157 (iv 157)) := s_X11_in tr 0 15
  refine w_call hc1 rfl rfl ?_
  refine w_beq (fun h2 => ?_) (fun h2 => ?_)
  · first
    | (exfalso; first | omega | contradiction)
    | (refine pz_G_of pz_b222_26 ?_
       refine w_loc rfl ?_
       refine w_pure rfl ?_
       refine w_pure rfl ?_
       have hc3 : pz_R (pz_Sh L) 193 [.inr (.inl 154), .inl 1, .inl 0] (pz_u1 (pz_u1 (pz_u1 iv 154 (iv 154)) 155 (iv 155)) 157 (iv 157)) (.inl (some (.inl (pz_bi ((1 : Int) = 0 ∧ (0 : Int) = 1))))) (pz_u1 (pz_u1 (pz_u1 iv 154 (pz_up (iv 154) 0 1)) 155 (iv 155)) 157 (iv 157)) := pz_R_mem (s_X11_asks 1 0 (by show 0 = 0 ∨ 0 = 1; first | omega | exact pz_bi01 _)) (by rw [pz_u1_in (r := 154) (q := 157) (by decide)]; rw [pz_u1_in (r := 154) (q := 155) (by decide)]; rw [pz_u1_top (r := 154)]; rfl)
       refine w_call hc3 rfl (pz_cokI is_154 rfl) ?_
       refine w_ret (pz_rok1 (pz_bi01 _)) ?_
       first | exact lf_i (pz_bi_iff (by rw [← hfl]; exact q_fin rfl)) (by rw [← hfl]) | (exfalso; omega))
  · first
    | (exfalso; first | omega | contradiction)
    | (refine w_loc rfl ?_
       refine w_pure rfl ?_
       refine w_pure rfl ?_
       have hc4 : pz_R (pz_Sh L) 190 [.inl fa, .inl 0, .inl 15] (pz_u1 (pz_u1 (pz_u1 iv 154 (iv 154)) 155 (iv 155)) 157 (iv 157)) (.inl (some (.inl (pz_bi (0 ≤ fa ∧ fa ≤ 15))))) (pz_u1 (pz_u1 (pz_u1 iv 154 (iv 154)) 155 (iv 155)) 157 (iv 157)) := s_X11_in fa 0 15
       refine w_call hc4 rfl rfl ?_
       refine w_beq (fun h5 => ?_) (fun h5 => ?_)
       · first
         | (exfalso; first | omega | contradiction)
         | (refine pz_G_of pz_b222_26 ?_
            refine w_loc rfl ?_
            refine w_pure rfl ?_
            refine w_pure rfl ?_
            have hc6 : pz_R (pz_Sh L) 193 [.inr (.inl 154), .inl 1, .inl 0] (pz_u1 (pz_u1 (pz_u1 iv 154 (iv 154)) 155 (iv 155)) 157 (iv 157)) (.inl (some (.inl (pz_bi ((1 : Int) = 0 ∧ (0 : Int) = 1))))) (pz_u1 (pz_u1 (pz_u1 iv 154 (pz_up (iv 154) 0 1)) 155 (iv 155)) 157 (iv 157)) := pz_R_mem (s_X11_asks 1 0 (by show 0 = 0 ∨ 0 = 1; first | omega | exact pz_bi01 _)) (by rw [pz_u1_in (r := 154) (q := 157) (by decide)]; rw [pz_u1_in (r := 154) (q := 155) (by decide)]; rw [pz_u1_top (r := 154)]; rfl)
            refine w_call hc6 rfl (pz_cokI is_154 rfl) ?_
            refine w_ret (pz_rok1 (pz_bi01 _)) ?_
            first | exact lf_i (pz_bi_iff (by rw [← hfl]; exact q_fin rfl)) (by rw [← hfl]) | (exfalso; omega))
       · first
         | (exfalso; first | omega | contradiction)
         | (refine w_loc rfl ?_
            refine w_loc rfl ?_
            refine w_iand ?_
            refine w_zeq (fun h7 => ?_) (fun h7 => ?_)
            · first
              | (exfalso; first | omega | contradiction)
              | (refine pz_G_of pz_b222_33 ?_
                 refine w_loc rfl ?_
                 have hc8 : pz_R (pz_Sh L) 219 [.inr (.inl 154)] (pz_u1 (pz_u1 (pz_u1 iv 154 (iv 154)) 155 (iv 155)) 157 (iv 157)) (.inl (some (.inl (q_pkd (iv 155))))) (pz_u1 (pz_u1 (pz_u1 iv 154 (iv 154)) 155 (iv 155)) 157 (iv 157)) := s_X11_packed
                 refine w_call hc8 rfl (pz_cokI is_154 rfl) ?_
                 refine w_loc (ls' := [some (.inr (.inl 154)), some (.inl tr), some (.inl fa), some (.inl (q_pkd (iv 155))), none]) (st' := []) rfl ?_
                 refine w_pure rfl ?_
                 refine w_loc (ls' := [some (.inr (.inl 154)), some (.inl tr), some (.inl fa), some (.inl (q_pkd (iv 155))), some (.inl 1)]) (st' := []) rfl ?_
                 refine w_nil ?_
                 have lp41 : ∀ (dd : Nat) (l : Int) (f : Nat → Int) , (5 - l).toNat = dd → ∀ (hl : 1 ≤ l ∧ l ≤ 5), ∀ (hf : ∀ j : Nat, f j = if 47 ≤ (j : Int) ∧ (j : Int) < 46 + l then 111 else iv 155 j),  pz_G 222 41 [some (.inr (.inl 154)), some (.inl tr), some (.inl fa), some (.inl (q_pkd (iv 155))), some (.inl l)] [] (pz_Sh L, pz_u1 (pz_u1 (pz_u1 iv 154 (iv 154)) 155 f) 157 (iv 157), dv, cc, ss) (pz_P (pz_Sh L) (.inl (some (.inl (pz_bi (q_con (q_sets tr fa (q_lop (iv 155))) (iv 161)))))) (pz_u1 (pz_u1 (pz_u1 iv 154 (pz_up (iv 154) 0 0)) 155 (q_un (q_pkd (iv 155)) (q_sets tr fa (q_lop (iv 155))))) 157 (q_dd (q_sets tr fa (q_lop (iv 155))) (iv 161) (iv 157))) dv cc ss) := by
                   intro dd41
                   induction dd41 using Nat.strongRecOn with
                   | _ dd41 ih41 =>
                   intro l f  hd41 hl hf
                   refine pz_G_of pz_b222_41 ?_
                   refine w_loc rfl ?_
                   refine w_pure rfl ?_
                   refine w_igt (fun h9 => ?_) (fun h9 => ?_)
                   · first
                     | (exfalso; first | omega | contradiction)
                     | (have hfl : f = q_lop (iv 155) := by funext j; rw [hf j]; unfold q_lop; (repeat' split) <;> first | rfl | omega
                        refine pz_G_of pz_b222_65 ?_
                        refine w_loc rfl ?_
                        refine w_loc rfl ?_
                        refine w_loc rfl ?_
                        have hc10 : pz_R (pz_Sh L) 216 [.inr (.inl 154), .inl tr, .inl fa] (pz_u1 (pz_u1 (pz_u1 iv 154 (iv 154)) 155 f) 157 (iv 157)) (.inl none) (pz_u1 (pz_u1 (pz_u1 iv 154 (iv 154)) 155 (q_sets tr fa f)) 157 (iv 157)) := pz_R_mem (s_X11_sets tr fa) (by rw [pz_u1_in (r := 155) (q := 157) (by decide)]; rw [pz_u1_top (r := 155)]; rfl)
                        refine w_callv hc10 rfl (pz_cokI is_154 rfl) ?_
                        refine w_loc rfl ?_
                        have hc11 : pz_R (pz_Sh L) 227 [.inr (.inl 154)] (pz_u1 (pz_u1 (pz_u1 iv 154 (iv 154)) 155 (q_sets tr fa f)) 157 (iv 157)) (.inl (some (.inl (pz_bi (q_con (q_sets tr fa f) (iv 161)))))) (pz_u1 (pz_u1 (pz_u1 iv 154 (iv 154)) 155 (q_sets tr fa f)) 157 (q_dd (q_sets tr fa f) (iv 161) (iv 157))) := pz_R_mem (s_X11_isConsistentNow (by show q_KR (q_sets tr fa f); first | exact hk | (rw [hfl]; exact q_KR_sets (q_KR_lop hk)))) (by rw [pz_u1_top (r := 157)]; rfl)
                        refine w_call hc11 rfl (pz_cokI is_154 rfl) ?_
                        refine w_loc (ls' := [some (.inr (.inl 154)), some (.inl tr), some (.inl fa), some (.inl (q_pkd (iv 155))), some (.inl (pz_bi (q_con (q_sets tr fa f) (iv 161))))]) (st' := []) rfl ?_
                        refine w_loc rfl ?_
                        refine w_loc rfl ?_
                        have hc12 : pz_R (pz_Sh L) 220 [.inr (.inl 154), .inl (q_pkd (iv 155))] (pz_u1 (pz_u1 (pz_u1 iv 154 (iv 154)) 155 (q_sets tr fa f)) 157 (q_dd (q_sets tr fa f) (iv 161) (iv 157))) (.inl none) (pz_u1 (pz_u1 (pz_u1 iv 154 (iv 154)) 155 (q_un (q_pkd (iv 155)) (q_sets tr fa f))) 157 (q_dd (q_sets tr fa f) (iv 161) (iv 157))) := pz_R_mem (s_X11_unpacks (q_pkd (iv 155)) (by show 0 ≤ (q_pkd (iv 155)) ∧ (q_pkd (iv 155)) ≤ 624; exact q_pkd_r)) (by rw [pz_u1_in (r := 155) (q := 157) (by decide)]; rw [pz_u1_top (r := 155)]; rfl)
                        refine w_callv hc12 rfl (pz_cokI is_154 rfl) ?_
                        refine w_loc rfl ?_
                        refine w_pure rfl ?_
                        refine w_loc rfl ?_
                        have hc13 : pz_R (pz_Sh L) 193 [.inr (.inl 154), .inl 0, .inl (pz_bi (q_con (q_sets tr fa f) (iv 161)))] (pz_u1 (pz_u1 (pz_u1 iv 154 (iv 154)) 155 (q_un (q_pkd (iv 155)) (q_sets tr fa f))) 157 (q_dd (q_sets tr fa f) (iv 161) (iv 157))) (.inl (some (.inl (pz_bi ((0 : Int) = 0 ∧ ((pz_bi (q_con (q_sets tr fa f) (iv 161))) : Int) = 1))))) (pz_u1 (pz_u1 (pz_u1 iv 154 (pz_up (iv 154) 0 0)) 155 (q_un (q_pkd (iv 155)) (q_sets tr fa f))) 157 (q_dd (q_sets tr fa f) (iv 161) (iv 157))) := pz_R_mem (s_X11_asks 0 (pz_bi (q_con (q_sets tr fa f) (iv 161))) (by show (pz_bi (q_con (q_sets tr fa f) (iv 161))) = 0 ∨ (pz_bi (q_con (q_sets tr fa f) (iv 161))) = 1; first | omega | exact pz_bi01 _)) (by rw [pz_u1_in (r := 154) (q := 157) (by decide)]; rw [pz_u1_in (r := 154) (q := 155) (by decide)]; rw [pz_u1_top (r := 154)]; rfl)
                        refine w_call hc13 rfl (pz_cokI is_154 rfl) ?_
                        refine w_ret (pz_rok1 (pz_bi01 _)) ?_
                        first | exact lf_i (pz_bi_iff (by rw [← hfl]; exact q_fin rfl)) (by rw [← hfl]) | (exfalso; omega))
                   · first
                     | (exfalso; first | omega | contradiction)
                     | (refine w_loc rfl ?_
                        refine w_getR (q := 155) is_154 rf_154_1 ?_
                        refine w_pure rfl ?_
                        refine w_loc rfl ?_
                        refine w_iadd (by omega) ?_
                        refine w_pure rfl ?_
                        refine w_iastm (iv2 := pz_u1 (pz_u1 (pz_u1 iv 154 (iv 154)) 155 (pz_up f (46 + l).toNat 111)) 157 (iv 157)) is_155 ln_155 ⟨by omega, by omega⟩ (by rw [pz_u2_in (r := 155) (q := 157) (by decide)]; rw [pz_u2_top]) ?_
                        refine w_iinc (ls' := [some (.inr (.inl 154)), some (.inl tr), some (.inl fa), some (.inl (q_pkd (iv 155))), some (.inl (l + 1))]) rfl rfl rfl (by omega) ?_
                        refine w_goto ?_
                        exact ih41 _ (by omega) (l + 1) (pz_up f (46 + l).toNat 111)  rfl (by omega) (by intro j; rw [pz_up_at, hf j]; (repeat' split) <;> first | rfl | omega))
                 exact lp41 _ 1 (iv 155)  rfl (by omega) (by intro j; rw [if_neg (by omega)]))
            · first
              | (exfalso; first | omega | contradiction)
              | (refine w_nil ?_
                 refine pz_G_of pz_b222_26 ?_
                 refine w_loc rfl ?_
                 refine w_pure rfl ?_
                 refine w_pure rfl ?_
                 have hc14 : pz_R (pz_Sh L) 193 [.inr (.inl 154), .inl 1, .inl 0] (pz_u1 (pz_u1 (pz_u1 iv 154 (iv 154)) 155 (iv 155)) 157 (iv 157)) (.inl (some (.inl (pz_bi ((1 : Int) = 0 ∧ (0 : Int) = 1))))) (pz_u1 (pz_u1 (pz_u1 iv 154 (pz_up (iv 154) 0 1)) 155 (iv 155)) 157 (iv 157)) := pz_R_mem (s_X11_asks 1 0 (by show 0 = 0 ∨ 0 = 1; first | omega | exact pz_bi01 _)) (by rw [pz_u1_in (r := 154) (q := 157) (by decide)]; rw [pz_u1_in (r := 154) (q := 155) (by decide)]; rw [pz_u1_top (r := 154)]; rfl)
                 refine w_call hc14 rfl (pz_cokI is_154 rfl) ?_
                 refine w_ret (pz_rok1 (pz_bi01 _)) ?_
                 first | exact lf_i (pz_bi_iff (by rw [← hfl]; exact q_fin rfl)) (by rw [← hfl]) | (exfalso; omega))))

theorem s_X11_isWeak {L : Nat} {iv : Nat → Nat → Int} (hk : q_KR (iv 155)) : pz_R (pz_Sh L) 238 [.inr (.inl 154)] iv (.inl (some (.inl (pz_bi (q_all (q_wkP (iv 155) (iv 161)) (q_p2 ((iv 155) 2))))))) (pz_u1 (pz_u1 iv 154 (pz_up (iv 154) 0 0)) 157 (q_fr (q_wkG (iv 155) (iv 161)) 0 (q_p2 ((iv 155) 2)) (iv 157))) := by
  intro dv cc ss
  have hk0 := hk.r0
  have hsh := q_shl_p2 (a := iv 155 2) (by omega) (by omega)
  have hp2 := q_p2_r (a := iv 155 2) (by omega) (by omega)
  refine pz_G_mem (iv2 := pz_u1 (pz_u1 iv 154 (iv 154)) 157 (iv 157)) (by exact ((pz_u1_self iv 154).symm).trans (pz_u1_self (pz_u1 iv 154 (iv 154)) 157).symm) ?_
  show pz_G 238 0 [some (.inr (.inl 154)), none, none] [] (pz_Sh L, pz_u1 (pz_u1 iv 154 (iv 154)) 157 (iv 157), dv, cc, ss) (pz_P (pz_Sh L) (.inl (some (.inl (pz_bi (q_all (q_wkP (iv 155) (iv 161)) (q_p2 ((iv 155) 2))))))) (pz_u1 (pz_u1 iv 154 (pz_up (iv 154) 0 0)) 157 (q_fr (q_wkG (iv 155) (iv 161)) 0 (q_p2 ((iv 155) 2)) (iv 157))) dv cc ss)
  refine pz_G_of pz_b238_0 ?_
  refine w_pure rfl ?_
  refine w_loc (ls' := [some (.inr (.inl 154)), some (.inl 1), none]) (st' := []) rfl ?_
  refine w_pure rfl ?_
  refine w_loc (ls' := [some (.inr (.inl 154)), some (.inl 1), some (.inl 0)]) (st' := []) rfl ?_
  refine w_nil ?_
  have lp4 : ∀ (dd : Nat) (z : Int) (p : Int) (g : Nat → Int) , (q_p2 (iv 155 2) - p).toNat = dd → ∀ (hp : 0 ≤ p ∧ p ≤ q_p2 (iv 155 2)), ∀ (hz : z = pz_bi (q_all (q_wkP (iv 155) (iv 161)) p)), ∀ (hg : g = q_fr (q_wkG (iv 155) (iv 161)) 0 p (iv 157)),  pz_G 238 4 [some (.inr (.inl 154)), some (.inl z), some (.inl p)] [] (pz_Sh L, pz_u1 (pz_u1 iv 154 (iv 154)) 157 g, dv, cc, ss) (pz_P (pz_Sh L) (.inl (some (.inl (pz_bi (q_all (q_wkP (iv 155) (iv 161)) (q_p2 ((iv 155) 2))))))) (pz_u1 (pz_u1 iv 154 (pz_up (iv 154) 0 0)) 157 (q_fr (q_wkG (iv 155) (iv 161)) 0 (q_p2 ((iv 155) 2)) (iv 157))) dv cc ss) := by
    intro dd4
    induction dd4 using Nat.strongRecOn with
    | _ dd4 ih4 =>
    intro z p g  hd4 hp hz hg
    have hwk := q_wk_eq (k := iv 155) (lf := iv 161) (g := g) (p := p)
    refine pz_G_of pz_b238_4 ?_
    refine w_loc rfl ?_
    refine w_pure rfl ?_
    refine w_loc rfl ?_
    refine w_getR (q := 155) is_154 rf_154_1 ?_
    refine w_pure rfl ?_
    refine w_iald (v := (iv 155) 2) is_155 ln_155 ⟨by omega, by omega⟩ rfl ?_
    refine w_ishl ?_
    refine w_ige (fun h1 => ?_) (fun h1 => ?_)
    · refine pz_G_of pz_b238_48 ?_
      refine w_loc rfl ?_
      refine w_pure rfl ?_
      refine w_loc rfl ?_
      have hc2 : pz_R (pz_Sh L) 193 [.inr (.inl 154), .inl 0, .inl z] (pz_u1 (pz_u1 iv 154 (iv 154)) 157 g) (.inl (some (.inl (pz_bi ((0 : Int) = 0 ∧ (z : Int) = 1))))) (pz_u1 (pz_u1 iv 154 (pz_up (iv 154) 0 0)) 157 g) := pz_R_mem (s_X11_asks 0 z (by show z = 0 ∨ z = 1; rw [hz]; exact pz_bi01 _)) (by rw [pz_u1_in (r := 154) (q := 157) (by decide)]; rw [pz_u1_top (r := 154)]; rfl)
      refine w_call hc2 rfl (pz_cokI is_154 rfl) ?_
      refine w_ret (pz_rok1 (pz_bi01 _)) ?_
      exact lf_i (pz_bi_iff (by rw [show p = q_p2 (iv 155 2) by omega] at hz; exact q_fin hz)) (by rw [hg, show p = q_p2 (iv 155 2) by omega])
    · refine w_loc rfl ?_
      have hc3 : pz_R (pz_Sh L) 225 [.inr (.inl 154)] (pz_u1 (pz_u1 iv 154 (iv 154)) 157 g) (.inl none) (pz_u1 (pz_u1 iv 154 (iv 154)) 157 (q_bds (iv 155) (iv 161) g)) := pz_R_mem (s_X11_bounds (by show q_KR (iv 155); exact hk)) (by rw [pz_u1_top (r := 157)]; rfl)
      refine w_callv hc3 rfl (pz_cokI is_154 rfl) ?_
      refine w_loc rfl ?_
      refine w_loc rfl ?_
      have hc4 : pz_R (pz_Sh L) 237 [.inr (.inl 154), .inl p] (pz_u1 (pz_u1 iv 154 (iv 154)) 157 (q_bds (iv 155) (iv 161) g)) (.inl none) (pz_u1 (pz_u1 iv 154 (iv 154)) 157 (q_cor (iv 155) p (q_bds (iv 155) (iv 161) g))) := pz_R_mem (s_X11_corner p (by show q_KR (iv 155); exact hk)) (by rw [pz_u1_top (r := 157)]; rfl)
      refine w_callv hc4 rfl (pz_cokI is_154 rfl) ?_
      refine w_loc rfl ?_
      have hc5 : pz_R (pz_Sh L) 226 [.inr (.inl 154)] (pz_u1 (pz_u1 iv 154 (iv 154)) 157 (q_cor (iv 155) p (q_bds (iv 155) (iv 161) g))) (.inl (some (.inl (pz_bi (q_ok (q_cor (iv 155) p (q_bds (iv 155) (iv 161) g))))))) (pz_u1 (pz_u1 iv 154 (iv 154)) 157 (q_cg (q_cor (iv 155) p (q_bds (iv 155) (iv 161) g)))) := pz_R_mem (s_X11_closes (by show q_cb (q_cor (iv 155) p (q_bds (iv 155) (iv 161) g)); exact q_cb_weak hk)) (by rw [pz_u1_top (r := 157)]; rfl)
      refine w_call hc5 rfl (pz_cokI is_154 rfl) ?_
      refine w_beq (fun h6 => ?_) (fun h6 => ?_)
      · refine pz_G_of pz_b238_40 ?_
        refine w_pure rfl ?_
        refine w_nil ?_
        refine pz_G_of pz_b238_41 ?_
        refine w_loc (ls' := [some (.inr (.inl 154)), some (.inl 0), some (.inl p)]) (st' := []) rfl ?_
        refine w_iinc (ls' := [some (.inr (.inl 154)), some (.inl 0), some (.inl (p + 1))]) rfl rfl rfl (by omega) ?_
        refine w_goto ?_
        exact ih4 _ (by omega) 0 (p + 1) (q_cg (q_cor (iv 155) p (q_bds (iv 155) (iv 161) g)))  rfl (by omega) (by first | exact q_all_f1 hz (by omega) (by omega) | exact q_all_t hz (by omega) (by omega) (hwk.mp (by assumption)) | exact q_all_f2 (by omega) (fun q => absurd (hwk.mpr q) (by assumption))) (by rw [q_fr_s (by omega), ← hg]; rfl)
      · refine w_loc rfl ?_
        refine w_zeq (fun h7 => ?_) (fun h7 => ?_)
        · refine pz_G_of pz_b238_40 ?_
          refine w_pure rfl ?_
          refine w_nil ?_
          refine pz_G_of pz_b238_41 ?_
          refine w_loc (ls' := [some (.inr (.inl 154)), some (.inl 0), some (.inl p)]) (st' := []) rfl ?_
          refine w_iinc (ls' := [some (.inr (.inl 154)), some (.inl 0), some (.inl (p + 1))]) rfl rfl rfl (by omega) ?_
          refine w_goto ?_
          exact ih4 _ (by omega) 0 (p + 1) (q_cg (q_cor (iv 155) p (q_bds (iv 155) (iv 161) g)))  rfl (by omega) (by first | exact q_all_f1 hz (by omega) (by omega) | exact q_all_t hz (by omega) (by omega) (hwk.mp (by assumption)) | exact q_all_f2 (by omega) (fun q => absurd (hwk.mpr q) (by assumption))) (by rw [q_fr_s (by omega), ← hg]; rfl)
        · refine w_pure rfl ?_
          refine w_goto ?_
          refine pz_G_of pz_b238_41 ?_
          refine w_loc (ls' := [some (.inr (.inl 154)), some (.inl 1), some (.inl p)]) (st' := []) rfl ?_
          refine w_iinc (ls' := [some (.inr (.inl 154)), some (.inl 1), some (.inl (p + 1))]) rfl rfl rfl (by omega) ?_
          refine w_goto ?_
          exact ih4 _ (by omega) 1 (p + 1) (q_cg (q_cor (iv 155) p (q_bds (iv 155) (iv 161) g)))  rfl (by omega) (by first | exact q_all_f1 hz (by omega) (by omega) | exact q_all_t hz (by omega) (by omega) (hwk.mp (by assumption)) | exact q_all_f2 (by omega) (fun q => absurd (hwk.mpr q) (by assumption))) (by rw [q_fr_s (by omega), ← hg]; rfl)
  exact lp4 _ 1 0 (iv 157)  rfl (by omega) (by exact q_all_0 (by omega)) (by rw [q_fr_0 (by omega)])

theorem s_X11_cost_1 {L : Nat} {iv : Nat → Nat → Int} (hk : q_KR (iv 155)) (hcase0 : ¬ q_con (iv 155) (iv 161)) : pz_R (pz_Sh L) 298 [.inr (.inl 154)] iv (.inl (some (.inr (.inr (.inl 0))))) (pz_u1 (pz_u1 iv 154 (pz_up (iv 154) 0 1)) 157 (q_dd (iv 155) (iv 161) (iv 157))) := by
  intro dv cc ss
  have hk0 := hk.r0
  refine pz_G_mem (iv2 := pz_u1 (pz_u1 iv 154 (iv 154)) 157 (iv 157)) (by exact ((pz_u1_self iv 154).symm).trans (pz_u1_self (pz_u1 iv 154 (iv 154)) 157).symm) ?_
  show pz_G 298 0 [some (.inr (.inl 154)), none, none, none] [] (pz_Sh L, pz_u1 (pz_u1 iv 154 (iv 154)) 157 (iv 157), dv, cc, ss) (pz_P (pz_Sh L) (.inl (some (.inr (.inr (.inl 0))))) (pz_u1 (pz_u1 iv 154 (pz_up (iv 154) 0 1)) 157 (q_dd (iv 155) (iv 161) (iv 157))) dv cc ss)
  refine pz_G_of pz_b298_0 ?_
  refine w_loc rfl ?_
  refine w_loc rfl ?_
  have hc1 : pz_R (pz_Sh L) 227 [.inr (.inl 154)] (pz_u1 (pz_u1 iv 154 (iv 154)) 157 (iv 157)) (.inl (some (.inl (pz_bi (q_con (iv 155) (iv 161)))))) (pz_u1 (pz_u1 iv 154 (iv 154)) 157 (q_dd (iv 155) (iv 161) (iv 157))) := pz_R_mem (s_X11_isConsistentNow (by show q_KR (iv 155); exact hk)) (by rw [pz_u1_top (r := 157)]; rfl)
  refine w_call hc1 rfl (pz_cokI is_154 rfl) ?_
  refine w_beq (fun h2 => ?_) (fun h2 => ?_)
  · first
    | (exfalso; first | omega | contradiction)
    | (refine pz_G_of pz_b298_12 ?_
       refine w_pure rfl ?_
       refine w_nil ?_
       refine pz_G_of pz_b298_13 ?_
       refine w_putIm (iv2 := pz_u1 (pz_u1 iv 154 (pz_up (iv 154) 0 1)) 157 (q_dd (iv 155) (iv 161) (iv 157))) is_154 pz_fit0 (by rw [pz_u2_in (r := 154) (q := 157) (by decide)]; rw [pz_u2_top]) ?_
       refine w_pure rfl ?_
       refine w_loc (ls' := [some (.inr (.inl 154)), some (.inr (.inr (.inl 0))), none, none]) (st' := []) rfl ?_
       refine w_pure rfl ?_
       refine w_loc (ls' := [some (.inr (.inl 154)), some (.inr (.inr (.inl 0))), none, some (.inl 0)]) (st' := []) rfl ?_
       refine w_nil ?_
       refine pz_G_of pz_b298_20 ?_
       refine w_loc rfl ?_
       refine w_loc rfl ?_
       refine w_getR (q := 155) is_154 rf_154_1 ?_
       refine w_pure rfl ?_
       refine w_iald (v := (iv 155) 0) is_155 ln_155 ⟨by omega, by omega⟩ rfl ?_
       refine w_ige (fun h3 => ?_) (fun h3 => ?_)
       · first
         | (exfalso; first | omega | contradiction)
         | (refine pz_G_of pz_b298_57 ?_
            refine w_loc rfl ?_
            refine w_ret rfl ?_
            first | exact lf_j (by rfl) (by rfl) | (exfalso; omega))
       · first
         | (exfalso; first | omega | contradiction)
         | (refine w_loc rfl ?_
            refine w_getI (v := 1) is_154 (by decide) rfl ?_
            refine w_zne (fun _ => ?_) (fun h => absurd h (by decide))
            refine pz_G_of pz_b298_57 ?_
            refine w_loc rfl ?_
            refine w_ret rfl ?_
            first | exact lf_j (by rfl) (by rfl) | (exfalso; omega)))
  · exfalso; first | omega | contradiction

theorem s_X11_cost_0 {L : Nat} {iv : Nat → Nat → Int} (hk : q_KR (iv 155)) (hcase0 : q_con (iv 155) (iv 161)) : pz_R (pz_Sh L) 298 [.inr (.inl 154)] iv (.inl (some (.inr (.inr (.inl (q_cost (iv 155) (q_dd (iv 155) (iv 161) (iv 157)) ((iv 155) 0))))))) (pz_u1 (pz_u1 iv 154 (pz_up (iv 154) 0 0)) 157 (q_dd (iv 155) (iv 161) (iv 157))) := by
  intro dv cc ss
  have hk0 := hk.r0
  refine pz_G_mem (iv2 := pz_u1 (pz_u1 iv 154 (iv 154)) 157 (iv 157)) (by exact ((pz_u1_self iv 154).symm).trans (pz_u1_self (pz_u1 iv 154 (iv 154)) 157).symm) ?_
  show pz_G 298 0 [some (.inr (.inl 154)), none, none, none] [] (pz_Sh L, pz_u1 (pz_u1 iv 154 (iv 154)) 157 (iv 157), dv, cc, ss) (pz_P (pz_Sh L) (.inl (some (.inr (.inr (.inl (q_cost (iv 155) (q_dd (iv 155) (iv 161) (iv 157)) ((iv 155) 0))))))) (pz_u1 (pz_u1 iv 154 (pz_up (iv 154) 0 0)) 157 (q_dd (iv 155) (iv 161) (iv 157))) dv cc ss)
  refine pz_G_of pz_b298_0 ?_
  refine w_loc rfl ?_
  refine w_loc rfl ?_
  have hc1 : pz_R (pz_Sh L) 227 [.inr (.inl 154)] (pz_u1 (pz_u1 iv 154 (iv 154)) 157 (iv 157)) (.inl (some (.inl (pz_bi (q_con (iv 155) (iv 161)))))) (pz_u1 (pz_u1 iv 154 (iv 154)) 157 (q_dd (iv 155) (iv 161) (iv 157))) := pz_R_mem (s_X11_isConsistentNow (by show q_KR (iv 155); exact hk)) (by rw [pz_u1_top (r := 157)]; rfl)
  refine w_call hc1 rfl (pz_cokI is_154 rfl) ?_
  refine w_beq (fun h2 => ?_) (fun h2 => ?_)
  · exfalso; first | omega | contradiction
  · first
    | (exfalso; first | omega | contradiction)
    | (refine w_pure rfl ?_
       refine w_goto ?_
       refine pz_G_of pz_b298_13 ?_
       refine w_putIm (iv2 := pz_u1 (pz_u1 iv 154 (pz_up (iv 154) 0 0)) 157 (q_dd (iv 155) (iv 161) (iv 157))) is_154 pz_fit0 (by rw [pz_u2_in (r := 154) (q := 157) (by decide)]; rw [pz_u2_top]) ?_
       refine w_pure rfl ?_
       refine w_loc (ls' := [some (.inr (.inl 154)), some (.inr (.inr (.inl 0))), none, none]) (st' := []) rfl ?_
       refine w_pure rfl ?_
       refine w_loc (ls' := [some (.inr (.inl 154)), some (.inr (.inr (.inl 0))), none, some (.inl 0)]) (st' := []) rfl ?_
       refine w_nil ?_
       have lp20 : ∀ (dd : Nat) (n : Int) (e : Int) (u20_2 : Option pz_V) (hu20_2 : pz_nc u20_2 = true), (iv 155 0 - e).toNat = dd → ∀ (he : 0 ≤ e ∧ e ≤ iv 155 0), ∀ (hn : n = q_cost (iv 155) (q_dd (iv 155) (iv 161) (iv 157)) e), ∀ (hnr : 0 ≤ n ∧ n ≤ 99000000 * e),  pz_G 298 20 [some (.inr (.inl 154)), some (.inr (.inr (.inl n))), u20_2, some (.inl e)] [] (pz_Sh L, pz_u1 (pz_u1 iv 154 (pz_up (iv 154) 0 0)) 157 (q_dd (iv 155) (iv 161) (iv 157)), dv, cc, ss) (pz_P (pz_Sh L) (.inl (some (.inr (.inr (.inl (q_cost (iv 155) (q_dd (iv 155) (iv 161) (iv 157)) ((iv 155) 0))))))) (pz_u1 (pz_u1 iv 154 (pz_up (iv 154) 0 0)) 157 (q_dd (iv 155) (iv 161) (iv 157))) dv cc ss) := by
         intro dd20
         induction dd20 using Nat.strongRecOn with
         | _ dd20 ih20 =>
         intro n e u20_2 hu20_2 hd20 he hn hnr
         have hft := fun h => q_ft_dd (g := iv 157) (e := e) hk hcase0 he.1 h
         have hcr := fun h1 h2 => q_cst_r (e := e) (m := q_ft (q_dd (iv 155) (iv 161) (iv 157)) e) hk he.1 h1 h2
         refine pz_G_of pz_b298_20 ?_
         refine w_loc rfl ?_
         refine w_loc rfl ?_
         refine w_getR (q := 155) is_154 rf_154_1 ?_
         refine w_pure rfl ?_
         refine w_iald (v := (iv 155) 0) is_155 ln_155 ⟨by omega, by omega⟩ rfl ?_
         refine w_ige (fun h3 => ?_) (fun h3 => ?_)
         · first
           | (exfalso; first | omega | contradiction)
           | (refine pz_G_of pz_b298_57 ?_
              refine w_loc rfl ?_
              refine w_ret rfl ?_
              first | exact lf_j (by rw [hn, show e = iv 155 0 by omega]) rfl | (exfalso; omega))
         · first
           | (exfalso; first | omega | contradiction)
           | (refine w_loc rfl ?_
              refine w_getI (v := 0) is_154 (by decide) rfl ?_
              refine w_zne (fun h => absurd h (by decide)) (fun _ => ?_)
              refine w_loc rfl ?_
              refine w_loc rfl ?_
              refine w_loc rfl ?_
              refine w_loc rfl ?_
              refine w_loc rfl ?_
              have hc4 : pz_R (pz_Sh L) 281 [.inr (.inl 154), .inl e] (pz_u1 (pz_u1 iv 154 (pz_up (iv 154) 0 0)) 157 (q_dd (iv 155) (iv 161) (iv 157))) (.inl (some (.inl (q_ft (q_dd (iv 155) (iv 161) (iv 157)) e)))) (pz_u1 (pz_u1 iv 154 (pz_up (iv 154) 0 0)) 157 (q_dd (iv 155) (iv 161) (iv 157))) := s_X11_firstOf e (by show 0 ≤ e ∧ e ≤ 9; omega) (by show q_dl (q_dd (iv 155) (iv 161) (iv 157)); first | exact hd | exact q_dd_l hk (by assumption))
              refine w_call hc4 rfl (pz_cokI is_154 rfl) ?_
              have hc5 : pz_R (pz_Sh L) 296 [.inr (.inl 154), .inl e, .inl (q_ft (q_dd (iv 155) (iv 161) (iv 157)) e)] (pz_u1 (pz_u1 iv 154 (pz_up (iv 154) 0 0)) 157 (q_dd (iv 155) (iv 161) (iv 157))) (.inl (some (.inl (q_cst (iv 155) e (q_ft (q_dd (iv 155) (iv 161) (iv 157)) e))))) (pz_u1 (pz_u1 iv 154 (pz_up (iv 154) 0 0)) 157 (q_dd (iv 155) (iv 161) (iv 157))) := s_X11_costAt e (q_ft (q_dd (iv 155) (iv 161) (iv 157)) e) (by show q_KR (iv 155); exact hk) (by show 0 ≤ e ∧ e ≤ 9; omega) (by show 0 ≤ (q_ft (q_dd (iv 155) (iv 161) (iv 157)) e) ∧ (q_ft (q_dd (iv 155) (iv 161) (iv 157)) e) ≤ 1000000; first | omega | exact ⟨by omega, by omega⟩)
              refine w_call hc5 rfl (pz_cokI is_154 rfl) ?_
              refine w_pure rfl ?_
              refine w_ladd (by omega) ?_
              refine w_loc (ls' := [some (.inr (.inl 154)), some (.inr (.inr (.inl (n + (q_cst (iv 155) e (q_ft (q_dd (iv 155) (iv 161) (iv 157)) e)))))), none, some (.inl e)]) (st' := []) rfl ?_
              refine w_iinc (ls' := [some (.inr (.inl 154)), some (.inr (.inr (.inl (n + (q_cst (iv 155) e (q_ft (q_dd (iv 155) (iv 161) (iv 157)) e)))))), none, some (.inl (e + 1))]) rfl rfl rfl (by omega) ?_
              refine w_goto ?_
              exact ih20 _ (by omega) (n + (q_cst (iv 155) e (q_ft (q_dd (iv 155) (iv 161) (iv 157)) e))) (e + 1) (none) rfl rfl (by omega) (by unfold q_cost; rw [q_sum_s (by omega), hn]; rfl) (by omega))
       exact lp20 _ 0 0 (none) rfl rfl (by omega) (by rfl) (by omega))
