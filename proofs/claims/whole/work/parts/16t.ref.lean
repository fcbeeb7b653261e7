
theorem s_X11_spanRound {L : Nat} {iv : Nat → Nat → Int} (s : Int) (hk : q_KR (iv 155)) (hs : 0 ≤ s ∧ s < (iv 155) 2) (hvb : q_vb (iv 159)) : pz_R (pz_Sh L) 244 [.inr (.inl 154), .inl s] iv (.inl none) (pz_u1 iv 158 (q_spn (iv 155) (iv 159) s (iv 158))) := by
  intro dv cc ss
  have hk0 := hk.r0
  have hsp := hk.sp hs.1 hs.2
  refine pz_G_mem (iv2 := pz_u1 iv 158 (iv 158)) (by exact (pz_u1_self iv 158).symm) ?_
  show pz_G 244 0 [some (.inr (.inl 154)), some (.inl s), none, none, none, none, none, none] [] (pz_Sh L, pz_u1 iv 158 (iv 158), dv, cc, ss) (pz_P (pz_Sh L) (.inl none) (pz_u1 iv 158 (q_spn (iv 155) (iv 159) s (iv 158))) dv cc ss)
  refine pz_G_of pz_b244_0 ?_
  refine w_loc rfl ?_
  refine w_loc rfl ?_
  have hc1 : pz_R (pz_Sh L) 206 [.inr (.inl 154), .inl s] (pz_u1 iv 158 (iv 158)) (.inl (some (.inl ((iv 155) (212 + 4 * s).toNat)))) (pz_u1 iv 158 (iv 158)) := s_X11_first s (by show 0 ≤ s ∧ s ≤ 2; omega)
  refine w_call hc1 rfl (pz_cokI is_154 rfl) ?_
  refine w_loc (ls' := [some (.inr (.inl 154)), some (.inl s), some (.inl ((iv 155) (212 + 4 * s).toNat)), none, none, none, none, none]) (st' := []) rfl ?_
  refine w_loc rfl ?_
  refine w_loc rfl ?_
  have hc2 : pz_R (pz_Sh L) 207 [.inr (.inl 154), .inl s] (pz_u1 iv 158 (iv 158)) (.inl (some (.inl ((iv 155) (212 + 4 * s + 1).toNat)))) (pz_u1 iv 158 (iv 158)) := s_X11_endOf s (by show 0 ≤ s ∧ s ≤ 2; omega)
  refine w_call hc2 rfl (pz_cokI is_154 rfl) ?_
  refine w_loc (ls' := [some (.inr (.inl 154)), some (.inl s), some (.inl ((iv 155) (212 + 4 * s).toNat)), some (.inl ((iv 155) (212 + 4 * s + 1).toNat)), none, none, none, none]) (st' := []) rfl ?_
  refine w_pure rfl ?_
  refine w_loc (ls' := [some (.inr (.inl 154)), some (.inl s), some (.inl ((iv 155) (212 + 4 * s).toNat)), some (.inl ((iv 155) (212 + 4 * s + 1).toNat)), some (.inl 0), none, none, none]) (st' := []) rfl ?_
  refine w_nil ?_
  have lp15 : ∀ (dd : Nat) (e : Int) (v : Nat → Int) (u15_5 : Option pz_V) (hu15_5 : pz_nc u15_5 = true) (u15_6 : Option pz_V) (hu15_6 : pz_nc u15_6 = true) (u15_7 : Option pz_V) (hu15_7 : pz_nc u15_7 = true), (10 - e).toNat = dd → ∀ (he : 0 ≤ e ∧ e ≤ 10), ∀ (hv : v = q_fr (q_spR (iv 155) (iv 159) s) 0 e (iv 158)),  pz_G 244 15 [some (.inr (.inl 154)), some (.inl s), some (.inl ((iv 155) (212 + 4 * s).toNat)), some (.inl ((iv 155) (212 + 4 * s + 1).toNat)), some (.inl e), u15_5, u15_6, u15_7] [] (pz_Sh L, pz_u1 iv 158 v, dv, cc, ss) (pz_P (pz_Sh L) (.inl none) (pz_u1 iv 158 (q_spn (iv 155) (iv 159) s (iv 158))) dv cc ss) := by
    intro dd15
    induction dd15 using Nat.strongRecOn with
    | _ dd15 ih15 =>
    intro e v u15_5 hu15_5 u15_6 hu15_6 u15_7 hu15_7 hd15 he hv
    have hb1 := fun h => hvb (100 * 0 + 10 * iv 155 (212 + 4 * s + 1).toNat + e).toNat h
    have hb3 := fun h => hvb (100 * (s + 1) + 10 * e + iv 155 (212 + 4 * s).toNat).toNat h
    refine pz_G_of pz_b244_15 ?_
    refine w_loc rfl ?_
    refine w_pure rfl ?_
    refine w_ige (fun h3 => ?_) (fun h3 => ?_)
    · refine pz_G_of pz_b244_189 ?_
      refine w_vret ?_
      exact lf_v (by rw [hv, show e = 10 by omega]; rfl)
    · refine w_loc rfl ?_
      refine w_getR (q := 159) is_154 rf_154_6 ?_
      refine w_pure rfl ?_
      refine w_loc rfl ?_
      refine w_loc rfl ?_
      have hc4 : pz_R (pz_Sh L) 241 [.inl 0, .inl ((iv 155) (212 + 4 * s + 1).toNat), .inl e] (pz_u1 iv 158 v) (.inl (some (.inl (100 * 0 + 10 * ((iv 155) (212 + 4 * s + 1).toNat) + e)))) (pz_u1 iv 158 v) := s_X11_cell 0 ((iv 155) (212 + 4 * s + 1).toNat) e (by show 0 ≤ 0 ∧ 0 ≤ 3; omega) (by show 0 ≤ ((iv 155) (212 + 4 * s + 1).toNat) ∧ ((iv 155) (212 + 4 * s + 1).toNat) ≤ 9; omega) (by show 0 ≤ e ∧ e ≤ 9; omega)
      refine w_call hc4 rfl rfl ?_
      refine w_iald (v := (iv 159) (100 * 0 + 10 * ((iv 155) (212 + 4 * s + 1).toNat) + e).toNat) is_159 ln_159 ⟨by omega, by omega⟩ rfl ?_
      refine w_loc (ls' := [some (.inr (.inl 154)), some (.inl s), some (.inl ((iv 155) (212 + 4 * s).toNat)), some (.inl ((iv 155) (212 + 4 * s + 1).toNat)), some (.inl e), some (.inl ((iv 159) (100 * 0 + 10 * ((iv 155) (212 + 4 * s + 1).toNat) + e).toNat)), u15_6, u15_7]) (st' := []) rfl ?_
      refine w_loc rfl ?_
      refine w_loc rfl ?_
      refine w_ieq (fun h5 => ?_) (fun h5 => ?_)
      · refine pz_G_of pz_b244_66 ?_
        refine w_pure rfl ?_
        refine w_loc (ls' := [some (.inr (.inl 154)), some (.inl s), some (.inl ((iv 155) (212 + 4 * s).toNat)), some (.inl ((iv 155) (212 + 4 * s + 1).toNat)), some (.inl e), some (.inl ((iv 159) (100 * 0 + 10 * ((iv 155) (212 + 4 * s + 1).toNat) + e).toNat)), some (.inl 0), u15_7]) (st' := []) rfl ?_
        refine w_nil ?_
        have lp69 : ∀ (dd : Nat) (o : Int) (v2 : Nat → Int) (u69_5 : Option pz_V) (hu69_5 : pz_nc u69_5 = true) (u69_7 : Option pz_V) (hu69_7 : pz_nc u69_7 = true), (iv 155 2 - o).toNat = dd → ∀ (ho : 0 ≤ o ∧ o ≤ iv 155 2), ∀ (hv2 : v2 = q_fr (q_spB (iv 155) (iv 159) s e) 0 o (q_spA (iv 155) (iv 159) s e v)),  pz_G 244 69 [some (.inr (.inl 154)), some (.inl s), some (.inl ((iv 155) (212 + 4 * s).toNat)), some (.inl ((iv 155) (212 + 4 * s + 1).toNat)), some (.inl e), u69_5, some (.inl o), u69_7] [] (pz_Sh L, pz_u1 iv 158 v2, dv, cc, ss) (pz_P (pz_Sh L) (.inl none) (pz_u1 iv 158 (q_spn (iv 155) (iv 159) s (iv 158))) dv cc ss) := by
          intro dd69
          induction dd69 using Nat.strongRecOn with
          | _ dd69 ih69 =>
          intro o v2 u69_5 hu69_5 u69_7 hu69_7 hd69 ho hv2
          have hb2 := fun h => hvb (100 * (o + 1) + 10 * iv 155 (212 + 4 * s + 1).toNat + e).toNat h
          refine pz_G_of pz_b244_69 ?_
          refine w_loc rfl ?_
          refine w_loc rfl ?_
          refine w_getR (q := 155) is_154 rf_154_1 ?_
          refine w_pure rfl ?_
          refine w_iald (v := (iv 155) 2) is_155 ln_155 ⟨by omega, by omega⟩ rfl ?_
          refine w_ige (fun h6 => ?_) (fun h6 => ?_)
          · refine pz_G_of pz_b244_136 ?_
            refine w_loc rfl ?_
            refine w_getR (q := 159) is_154 rf_154_6 ?_
            refine w_loc rfl ?_
            refine w_pure rfl ?_
            refine w_iadd (by omega) ?_
            refine w_loc rfl ?_
            refine w_loc rfl ?_
            have hc7 : pz_R (pz_Sh L) 241 [.inl (s + 1), .inl e, .inl ((iv 155) (212 + 4 * s).toNat)] (pz_u1 iv 158 v2) (.inl (some (.inl (100 * (s + 1) + 10 * e + ((iv 155) (212 + 4 * s).toNat))))) (pz_u1 iv 158 v2) := s_X11_cell (s + 1) e ((iv 155) (212 + 4 * s).toNat) (by show 0 ≤ (s + 1) ∧ (s + 1) ≤ 3; omega) (by show 0 ≤ e ∧ e ≤ 9; omega) (by show 0 ≤ ((iv 155) (212 + 4 * s).toNat) ∧ ((iv 155) (212 + 4 * s).toNat) ≤ 9; omega)
            refine w_call hc7 rfl rfl ?_
            refine w_iald (v := (iv 159) (100 * (s + 1) + 10 * e + ((iv 155) (212 + 4 * s).toNat)).toNat) is_159 ln_159 ⟨by omega, by omega⟩ rfl ?_
            refine w_st (lc' := [some (.inr (.inl 154)), some (.inl s), some (.inl ((iv 155) (212 + 4 * s).toNat)), some (.inl ((iv 155) (212 + 4 * s + 1).toNat)), some (.inl e), u69_5, some (.inl ((iv 159) (100 * (s + 1) + 10 * e + ((iv 155) (212 + 4 * s).toNat)).toNat)), u69_7]) rfl rfl rfl (Nat.le_of_ble_eq_true rfl) (pz_np_u rfl hu69_5) rfl ?_
            refine w_loc rfl ?_
            refine w_ldcv (v := 1000000) rfl ?_
            refine w_ige (fun h8 => ?_) (fun h8 => ?_)
            · refine pz_G_of pz_b244_183 ?_
              refine w_iinc (ls' := [some (.inr (.inl 154)), some (.inl s), some (.inl ((iv 155) (212 + 4 * s).toNat)), some (.inl ((iv 155) (212 + 4 * s + 1).toNat)), some (.inl (e + 1)), u69_5, some (.inl ((iv 159) (100 * (s + 1) + 10 * e + ((iv 155) (212 + 4 * s).toNat)).toNat)), u69_7]) rfl rfl rfl (by omega) ?_
              refine w_goto ?_
              exact ih15 _ (by omega) (e + 1) v2 u69_5 hu69_5 (some (.inl ((iv 159) (100 * (s + 1) + 10 * e + ((iv 155) (212 + 4 * s).toNat)).toNat))) rfl u69_7 hu69_7 rfl (by omega) (by rw [q_fr_s (by omega), ← hv]; unfold q_spR; rw [← show o = iv 155 2 by omega, ← hv2]; unfold q_spC; first | rw [q_if_t (by omega)] | rw [q_if_f (by omega)])
            · refine w_loc rfl ?_
              refine w_loc rfl ?_
              refine w_loc rfl ?_
              have hc9 : pz_R (pz_Sh L) 208 [.inr (.inl 154), .inl s] (pz_u1 iv 158 v2) (.inl (some (.inl ((iv 155) (212 + 4 * s + 2).toNat)))) (pz_u1 iv 158 v2) := s_X11_least s (by show 0 ≤ s ∧ s ≤ 2; omega)
              refine w_call hc9 rfl (pz_cokI is_154 rfl) ?_
              refine w_ineg (by omega) ?_
              refine w_ilt (fun h10 => ?_) (fun h10 => ?_)
              · refine pz_G_of pz_b244_183 ?_
                refine w_iinc (ls' := [some (.inr (.inl 154)), some (.inl s), some (.inl ((iv 155) (212 + 4 * s).toNat)), some (.inl ((iv 155) (212 + 4 * s + 1).toNat)), some (.inl (e + 1)), u69_5, some (.inl ((iv 159) (100 * (s + 1) + 10 * e + ((iv 155) (212 + 4 * s).toNat)).toNat)), u69_7]) rfl rfl rfl (by omega) ?_
                refine w_goto ?_
                exact ih15 _ (by omega) (e + 1) v2 u69_5 hu69_5 (some (.inl ((iv 159) (100 * (s + 1) + 10 * e + ((iv 155) (212 + 4 * s).toNat)).toNat))) rfl u69_7 hu69_7 rfl (by omega) (by rw [q_fr_s (by omega), ← hv]; unfold q_spR; rw [← show o = iv 155 2 by omega, ← hv2]; unfold q_spC; first | rw [q_if_t (by omega)] | rw [q_if_f (by omega)])
              · refine w_loc rfl ?_
                refine w_pure rfl ?_
                refine w_loc rfl ?_
                refine w_loc rfl ?_
                have hc11 : pz_R (pz_Sh L) 241 [.inl 0, .inl e, .inl ((iv 155) (212 + 4 * s).toNat)] (pz_u1 iv 158 v2) (.inl (some (.inl (100 * 0 + 10 * e + ((iv 155) (212 + 4 * s).toNat))))) (pz_u1 iv 158 v2) := s_X11_cell 0 e ((iv 155) (212 + 4 * s).toNat) (by show 0 ≤ 0 ∧ 0 ≤ 3; omega) (by show 0 ≤ e ∧ e ≤ 9; omega) (by show 0 ≤ ((iv 155) (212 + 4 * s).toNat) ∧ ((iv 155) (212 + 4 * s).toNat) ≤ 9; omega)
                refine w_call hc11 rfl rfl ?_
                refine w_loc rfl ?_
                have hc12 : pz_R (pz_Sh L) 242 [.inr (.inl 154), .inl (100 * 0 + 10 * e + ((iv 155) (212 + 4 * s).toNat)), .inl ((iv 159) (100 * (s + 1) + 10 * e + ((iv 155) (212 + 4 * s).toNat)).toNat)] (pz_u1 iv 158 v2) (.inl none) (pz_u1 iv 158 (q_lw v2 (100 * 0 + 10 * e + ((iv 155) (212 + 4 * s).toNat)) ((iv 159) (100 * (s + 1) + 10 * e + ((iv 155) (212 + 4 * s).toNat)).toNat))) := pz_R_mem (s_X11_lowers (100 * 0 + 10 * e + ((iv 155) (212 + 4 * s).toNat)) ((iv 159) (100 * (s + 1) + 10 * e + ((iv 155) (212 + 4 * s).toNat)).toNat) (by show 0 ≤ (100 * 0 + 10 * e + ((iv 155) (212 + 4 * s).toNat)) ∧ (100 * 0 + 10 * e + ((iv 155) (212 + 4 * s).toNat)) ≤ 399; omega)) (by rw [pz_u1_top (r := 158)]; rfl)
                refine w_callv hc12 rfl (pz_cokI is_154 rfl) ?_
                refine w_nil ?_
                refine pz_G_of pz_b244_183 ?_
                refine w_iinc (ls' := [some (.inr (.inl 154)), some (.inl s), some (.inl ((iv 155) (212 + 4 * s).toNat)), some (.inl ((iv 155) (212 + 4 * s + 1).toNat)), some (.inl (e + 1)), u69_5, some (.inl ((iv 159) (100 * (s + 1) + 10 * e + ((iv 155) (212 + 4 * s).toNat)).toNat)), u69_7]) rfl rfl rfl (by omega) ?_
                refine w_goto ?_
                exact ih15 _ (by omega) (e + 1) (q_lw v2 (100 * 0 + 10 * e + ((iv 155) (212 + 4 * s).toNat)) ((iv 159) (100 * (s + 1) + 10 * e + ((iv 155) (212 + 4 * s).toNat)).toNat)) u69_5 hu69_5 (some (.inl ((iv 159) (100 * (s + 1) + 10 * e + ((iv 155) (212 + 4 * s).toNat)).toNat))) rfl u69_7 hu69_7 rfl (by omega) (by rw [q_fr_s (by omega), ← hv]; unfold q_spR; rw [← show o = iv 155 2 by omega, ← hv2]; unfold q_spC; first | rw [q_if_t (by omega)] | rw [q_if_f (by omega)])
          · refine w_loc rfl ?_
            refine w_getR (q := 159) is_154 rf_154_6 ?_
            refine w_loc rfl ?_
            refine w_pure rfl ?_
            refine w_iadd (by omega) ?_
            refine w_loc rfl ?_
            refine w_loc rfl ?_
            have hc13 : pz_R (pz_Sh L) 241 [.inl (o + 1), .inl ((iv 155) (212 + 4 * s + 1).toNat), .inl e] (pz_u1 iv 158 v2) (.inl (some (.inl (100 * (o + 1) + 10 * ((iv 155) (212 + 4 * s + 1).toNat) + e)))) (pz_u1 iv 158 v2) := s_X11_cell (o + 1) ((iv 155) (212 + 4 * s + 1).toNat) e (by show 0 ≤ (o + 1) ∧ (o + 1) ≤ 3; omega) (by show 0 ≤ ((iv 155) (212 + 4 * s + 1).toNat) ∧ ((iv 155) (212 + 4 * s + 1).toNat) ≤ 9; omega) (by show 0 ≤ e ∧ e ≤ 9; omega)
            refine w_call hc13 rfl rfl ?_
            refine w_iald (v := (iv 159) (100 * (o + 1) + 10 * ((iv 155) (212 + 4 * s + 1).toNat) + e).toNat) is_159 ln_159 ⟨by omega, by omega⟩ rfl ?_
            refine w_loc (ls' := [some (.inr (.inl 154)), some (.inl s), some (.inl ((iv 155) (212 + 4 * s).toNat)), some (.inl ((iv 155) (212 + 4 * s + 1).toNat)), some (.inl e), u69_5, some (.inl o), some (.inl ((iv 159) (100 * (o + 1) + 10 * ((iv 155) (212 + 4 * s + 1).toNat) + e).toNat))]) (st' := []) rfl ?_
            refine w_loc rfl ?_
            refine w_loc rfl ?_
            refine w_ieq (fun h14 => ?_) (fun h14 => ?_)
            · refine pz_G_of pz_b244_130 ?_
              refine w_iinc (ls' := [some (.inr (.inl 154)), some (.inl s), some (.inl ((iv 155) (212 + 4 * s).toNat)), some (.inl ((iv 155) (212 + 4 * s + 1).toNat)), some (.inl e), u69_5, some (.inl (o + 1)), some (.inl ((iv 159) (100 * (o + 1) + 10 * ((iv 155) (212 + 4 * s + 1).toNat) + e).toNat))]) rfl (pz_np_u rfl hu69_5) rfl (by omega) ?_
              refine w_goto ?_
              exact ih69 _ (by omega) (o + 1) v2 u69_5 hu69_5 (some (.inl ((iv 159) (100 * (o + 1) + 10 * ((iv 155) (212 + 4 * s + 1).toNat) + e).toNat))) rfl rfl (by omega) (by rw [q_fr_s (by omega), ← hv2]; unfold q_spB; first | rw [q_if_t (by omega)] | rw [q_if_f (by omega)])
            · refine w_loc rfl ?_
              refine w_zgt (fun h15 => ?_) (fun h15 => ?_)
              · refine pz_G_of pz_b244_130 ?_
                refine w_iinc (ls' := [some (.inr (.inl 154)), some (.inl s), some (.inl ((iv 155) (212 + 4 * s).toNat)), some (.inl ((iv 155) (212 + 4 * s + 1).toNat)), some (.inl e), u69_5, some (.inl (o + 1)), some (.inl ((iv 159) (100 * (o + 1) + 10 * ((iv 155) (212 + 4 * s + 1).toNat) + e).toNat))]) rfl (pz_np_u rfl hu69_5) rfl (by omega) ?_
                refine w_goto ?_
                exact ih69 _ (by omega) (o + 1) v2 u69_5 hu69_5 (some (.inl ((iv 159) (100 * (o + 1) + 10 * ((iv 155) (212 + 4 * s + 1).toNat) + e).toNat))) rfl rfl (by omega) (by rw [q_fr_s (by omega), ← hv2]; unfold q_spB; first | rw [q_if_t (by omega)] | rw [q_if_f (by omega)])
              · refine w_loc rfl ?_
                refine w_loc rfl ?_
                refine w_pure rfl ?_
                refine w_iadd (by omega) ?_
                refine w_loc rfl ?_
                refine w_loc rfl ?_
                have hc16 : pz_R (pz_Sh L) 241 [.inl (o + 1), .inl ((iv 155) (212 + 4 * s).toNat), .inl e] (pz_u1 iv 158 v2) (.inl (some (.inl (100 * (o + 1) + 10 * ((iv 155) (212 + 4 * s).toNat) + e)))) (pz_u1 iv 158 v2) := s_X11_cell (o + 1) ((iv 155) (212 + 4 * s).toNat) e (by show 0 ≤ (o + 1) ∧ (o + 1) ≤ 3; omega) (by show 0 ≤ ((iv 155) (212 + 4 * s).toNat) ∧ ((iv 155) (212 + 4 * s).toNat) ≤ 9; omega) (by show 0 ≤ e ∧ e ≤ 9; omega)
                refine w_call hc16 rfl rfl ?_
                refine w_loc rfl ?_
                refine w_loc rfl ?_
                have hc17 : pz_R (pz_Sh L) 208 [.inr (.inl 154), .inl s] (pz_u1 iv 158 v2) (.inl (some (.inl ((iv 155) (212 + 4 * s + 2).toNat)))) (pz_u1 iv 158 v2) := s_X11_least s (by show 0 ≤ s ∧ s ≤ 2; omega)
                refine w_call hc17 rfl (pz_cokI is_154 rfl) ?_
                refine w_loc rfl ?_
                refine w_iadd (by omega) ?_
                have hc18 : pz_R (pz_Sh L) 242 [.inr (.inl 154), .inl (100 * (o + 1) + 10 * ((iv 155) (212 + 4 * s).toNat) + e), .inl (((iv 155) (212 + 4 * s + 2).toNat) + ((iv 159) (100 * (o + 1) + 10 * ((iv 155) (212 + 4 * s + 1).toNat) + e).toNat))] (pz_u1 iv 158 v2) (.inl none) (pz_u1 iv 158 (q_lw v2 (100 * (o + 1) + 10 * ((iv 155) (212 + 4 * s).toNat) + e) (((iv 155) (212 + 4 * s + 2).toNat) + ((iv 159) (100 * (o + 1) + 10 * ((iv 155) (212 + 4 * s + 1).toNat) + e).toNat)))) := pz_R_mem (s_X11_lowers (100 * (o + 1) + 10 * ((iv 155) (212 + 4 * s).toNat) + e) (((iv 155) (212 + 4 * s + 2).toNat) + ((iv 159) (100 * (o + 1) + 10 * ((iv 155) (212 + 4 * s + 1).toNat) + e).toNat)) (by show 0 ≤ (100 * (o + 1) + 10 * ((iv 155) (212 + 4 * s).toNat) + e) ∧ (100 * (o + 1) + 10 * ((iv 155) (212 + 4 * s).toNat) + e) ≤ 399; omega)) (by rw [pz_u1_top (r := 158)]; rfl)
                refine w_callv hc18 rfl (pz_cokI is_154 rfl) ?_
                refine w_nil ?_
                refine pz_G_of pz_b244_130 ?_
                refine w_iinc (ls' := [some (.inr (.inl 154)), some (.inl s), some (.inl ((iv 155) (212 + 4 * s).toNat)), some (.inl ((iv 155) (212 + 4 * s + 1).toNat)), some (.inl e), u69_5, some (.inl (o + 1)), some (.inl ((iv 159) (100 * (o + 1) + 10 * ((iv 155) (212 + 4 * s + 1).toNat) + e).toNat))]) rfl (pz_np_u rfl hu69_5) rfl (by omega) ?_
                refine w_goto ?_
                exact ih69 _ (by omega) (o + 1) (q_lw v2 (100 * (o + 1) + 10 * ((iv 155) (212 + 4 * s).toNat) + e) (((iv 155) (212 + 4 * s + 2).toNat) + ((iv 159) (100 * (o + 1) + 10 * ((iv 155) (212 + 4 * s + 1).toNat) + e).toNat))) u69_5 hu69_5 (some (.inl ((iv 159) (100 * (o + 1) + 10 * ((iv 155) (212 + 4 * s + 1).toNat) + e).toNat))) rfl rfl (by omega) (by rw [q_fr_s (by omega), ← hv2]; unfold q_spB; first | rw [q_if_t (by omega)] | rw [q_if_f (by omega)])
        exact lp69 _ 0 v (some (.inl ((iv 159) (100 * 0 + 10 * ((iv 155) (212 + 4 * s + 1).toNat) + e).toNat))) rfl u15_7 hu15_7 rfl (by omega) (by rw [q_fr_0 (by omega)]; unfold q_spA; first | rw [q_if_t (by omega)] | rw [q_if_f (by omega)])
      · refine w_loc rfl ?_
        refine w_zgt (fun h19 => ?_) (fun h19 => ?_)
        · refine pz_G_of pz_b244_66 ?_
          refine w_pure rfl ?_
          refine w_loc (ls' := [some (.inr (.inl 154)), some (.inl s), some (.inl ((iv 155) (212 + 4 * s).toNat)), some (.inl ((iv 155) (212 + 4 * s + 1).toNat)), some (.inl e), some (.inl ((iv 159) (100 * 0 + 10 * ((iv 155) (212 + 4 * s + 1).toNat) + e).toNat)), some (.inl 0), u15_7]) (st' := []) rfl ?_
          refine w_nil ?_
          have lp69 : ∀ (dd : Nat) (o : Int) (v2 : Nat → Int) (u69_5 : Option pz_V) (hu69_5 : pz_nc u69_5 = true) (u69_7 : Option pz_V) (hu69_7 : pz_nc u69_7 = true), (iv 155 2 - o).toNat = dd → ∀ (ho : 0 ≤ o ∧ o ≤ iv 155 2), ∀ (hv2 : v2 = q_fr (q_spB (iv 155) (iv 159) s e) 0 o (q_spA (iv 155) (iv 159) s e v)),  pz_G 244 69 [some (.inr (.inl 154)), some (.inl s), some (.inl ((iv 155) (212 + 4 * s).toNat)), some (.inl ((iv 155) (212 + 4 * s + 1).toNat)), some (.inl e), u69_5, some (.inl o), u69_7] [] (pz_Sh L, pz_u1 iv 158 v2, dv, cc, ss) (pz_P (pz_Sh L) (.inl none) (pz_u1 iv 158 (q_spn (iv 155) (iv 159) s (iv 158))) dv cc ss) := by
            intro dd69
            induction dd69 using Nat.strongRecOn with
            | _ dd69 ih69 =>
            intro o v2 u69_5 hu69_5 u69_7 hu69_7 hd69 ho hv2
            have hb2 := fun h => hvb (100 * (o + 1) + 10 * iv 155 (212 + 4 * s + 1).toNat + e).toNat h
            refine pz_G_of pz_b244_69 ?_
            refine w_loc rfl ?_
            refine w_loc rfl ?_
            refine w_getR (q := 155) is_154 rf_154_1 ?_
            refine w_pure rfl ?_
            refine w_iald (v := (iv 155) 2) is_155 ln_155 ⟨by omega, by omega⟩ rfl ?_
            refine w_ige (fun h20 => ?_) (fun h20 => ?_)
            · refine pz_G_of pz_b244_136 ?_
              refine w_loc rfl ?_
              refine w_getR (q := 159) is_154 rf_154_6 ?_
              refine w_loc rfl ?_
              refine w_pure rfl ?_
              refine w_iadd (by omega) ?_
              refine w_loc rfl ?_
              refine w_loc rfl ?_
              have hc21 : pz_R (pz_Sh L) 241 [.inl (s + 1), .inl e, .inl ((iv 155) (212 + 4 * s).toNat)] (pz_u1 iv 158 v2) (.inl (some (.inl (100 * (s + 1) + 10 * e + ((iv 155) (212 + 4 * s).toNat))))) (pz_u1 iv 158 v2) := s_X11_cell (s + 1) e ((iv 155) (212 + 4 * s).toNat) (by show 0 ≤ (s + 1) ∧ (s + 1) ≤ 3; omega) (by show 0 ≤ e ∧ e ≤ 9; omega) (by show 0 ≤ ((iv 155) (212 + 4 * s).toNat) ∧ ((iv 155) (212 + 4 * s).toNat) ≤ 9; omega)
              refine w_call hc21 rfl rfl ?_
              refine w_iald (v := (iv 159) (100 * (s + 1) + 10 * e + ((iv 155) (212 + 4 * s).toNat)).toNat) is_159 ln_159 ⟨by omega, by omega⟩ rfl ?_
              refine w_st (lc' := [some (.inr (.inl 154)), some (.inl s), some (.inl ((iv 155) (212 + 4 * s).toNat)), some (.inl ((iv 155) (212 + 4 * s + 1).toNat)), some (.inl e), u69_5, some (.inl ((iv 159) (100 * (s + 1) + 10 * e + ((iv 155) (212 + 4 * s).toNat)).toNat)), u69_7]) rfl rfl rfl (Nat.le_of_ble_eq_true rfl) (pz_np_u rfl hu69_5) rfl ?_
              refine w_loc rfl ?_
              refine w_ldcv (v := 1000000) rfl ?_
              refine w_ige (fun h22 => ?_) (fun h22 => ?_)
              · refine pz_G_of pz_b244_183 ?_
                refine w_iinc (ls' := [some (.inr (.inl 154)), some (.inl s), some (.inl ((iv 155) (212 + 4 * s).toNat)), some (.inl ((iv 155) (212 + 4 * s + 1).toNat)), some (.inl (e + 1)), u69_5, some (.inl ((iv 159) (100 * (s + 1) + 10 * e + ((iv 155) (212 + 4 * s).toNat)).toNat)), u69_7]) rfl rfl rfl (by omega) ?_
                refine w_goto ?_
                exact ih15 _ (by omega) (e + 1) v2 u69_5 hu69_5 (some (.inl ((iv 159) (100 * (s + 1) + 10 * e + ((iv 155) (212 + 4 * s).toNat)).toNat))) rfl u69_7 hu69_7 rfl (by omega) (by rw [q_fr_s (by omega), ← hv]; unfold q_spR; rw [← show o = iv 155 2 by omega, ← hv2]; unfold q_spC; first | rw [q_if_t (by omega)] | rw [q_if_f (by omega)])
              · refine w_loc rfl ?_
                refine w_loc rfl ?_
                refine w_loc rfl ?_
                have hc23 : pz_R (pz_Sh L) 208 [.inr (.inl 154), .inl s] (pz_u1 iv 158 v2) (.inl (some (.inl ((iv 155) (212 + 4 * s + 2).toNat)))) (pz_u1 iv 158 v2) := s_X11_least s (by show 0 ≤ s ∧ s ≤ 2; omega)
                refine w_call hc23 rfl (pz_cokI is_154 rfl) ?_
                refine w_ineg (by omega) ?_
                refine w_ilt (fun h24 => ?_) (fun h24 => ?_)
                · refine pz_G_of pz_b244_183 ?_
                  refine w_iinc (ls' := [some (.inr (.inl 154)), some (.inl s), some (.inl ((iv 155) (212 + 4 * s).toNat)), some (.inl ((iv 155) (212 + 4 * s + 1).toNat)), some (.inl (e + 1)), u69_5, some (.inl ((iv 159) (100 * (s + 1) + 10 * e + ((iv 155) (212 + 4 * s).toNat)).toNat)), u69_7]) rfl rfl rfl (by omega) ?_
                  refine w_goto ?_
                  exact ih15 _ (by omega) (e + 1) v2 u69_5 hu69_5 (some (.inl ((iv 159) (100 * (s + 1) + 10 * e + ((iv 155) (212 + 4 * s).toNat)).toNat))) rfl u69_7 hu69_7 rfl (by omega) (by rw [q_fr_s (by omega), ← hv]; unfold q_spR; rw [← show o = iv 155 2 by omega, ← hv2]; unfold q_spC; first | rw [q_if_t (by omega)] | rw [q_if_f (by omega)])
                · refine w_loc rfl ?_
                  refine w_pure rfl ?_
                  refine w_loc rfl ?_
                  refine w_loc rfl ?_
                  have hc25 : pz_R (pz_Sh L) 241 [.inl 0, .inl e, .inl ((iv 155) (212 + 4 * s).toNat)] (pz_u1 iv 158 v2) (.inl (some (.inl (100 * 0 + 10 * e + ((iv 155) (212 + 4 * s).toNat))))) (pz_u1 iv 158 v2) := s_X11_cell 0 e ((iv 155) (212 + 4 * s).toNat) (by show 0 ≤ 0 ∧ 0 ≤ 3; omega) (by show 0 ≤ e ∧ e ≤ 9; omega) (by show 0 ≤ ((iv 155) (212 + 4 * s).toNat) ∧ ((iv 155) (212 + 4 * s).toNat) ≤ 9; omega)
                  refine w_call hc25 rfl rfl ?_
                  refine w_loc rfl ?_
                  have hc26 : pz_R (pz_Sh L) 242 [.inr (.inl 154), .inl (100 * 0 + 10 * e + ((iv 155) (212 + 4 * s).toNat)), .inl ((iv 159) (100 * (s + 1) + 10 * e + ((iv 155) (212 + 4 * s).toNat)).toNat)] (pz_u1 iv 158 v2) (.inl none) (pz_u1 iv 158 (q_lw v2 (100 * 0 + 10 * e + ((iv 155) (212 + 4 * s).toNat)) ((iv 159) (100 * (s + 1) + 10 * e + ((iv 155) (212 + 4 * s).toNat)).toNat))) := pz_R_mem (s_X11_lowers (100 * 0 + 10 * e + ((iv 155) (212 + 4 * s).toNat)) ((iv 159) (100 * (s + 1) + 10 * e + ((iv 155) (212 + 4 * s).toNat)).toNat) (by show 0 ≤ (100 * 0 + 10 * e + ((iv 155) (212 + 4 * s).toNat)) ∧ (100 * 0 + 10 * e + ((iv 155) (212 + 4 * s).toNat)) ≤ 399; omega)) (by rw [pz_u1_top (r := 158)]; rfl)
                  refine w_callv hc26 rfl (pz_cokI is_154 rfl) ?_
                  refine w_nil ?_
                  refine pz_G_of pz_b244_183 ?_
                  refine w_iinc (ls' := [some (.inr (.inl 154)), some (.inl s), some (.inl ((iv 155) (212 + 4 * s).toNat)), some (.inl ((iv 155) (212 + 4 * s + 1).toNat)), some (.inl (e + 1)), u69_5, some (.inl ((iv 159) (100 * (s + 1) + 10 * e + ((iv 155) (212 + 4 * s).toNat)).toNat)), u69_7]) rfl rfl rfl (by omega) ?_
                  refine w_goto ?_
                  exact ih15 _ (by omega) (e + 1) (q_lw v2 (100 * 0 + 10 * e + ((iv 155) (212 + 4 * s).toNat)) ((iv 159) (100 * (s + 1) + 10 * e + ((iv 155) (212 + 4 * s).toNat)).toNat)) u69_5 hu69_5 (some (.inl ((iv 159) (100 * (s + 1) + 10 * e + ((iv 155) (212 + 4 * s).toNat)).toNat))) rfl u69_7 hu69_7 rfl (by omega) (by rw [q_fr_s (by omega), ← hv]; unfold q_spR; rw [← show o = iv 155 2 by omega, ← hv2]; unfold q_spC; first | rw [q_if_t (by omega)] | rw [q_if_f (by omega)])
            · refine w_loc rfl ?_
              refine w_getR (q := 159) is_154 rf_154_6 ?_
              refine w_loc rfl ?_
              refine w_pure rfl ?_
              refine w_iadd (by omega) ?_
              refine w_loc rfl ?_
              refine w_loc rfl ?_
              have hc27 : pz_R (pz_Sh L) 241 [.inl (o + 1), .inl ((iv 155) (212 + 4 * s + 1).toNat), .inl e] (pz_u1 iv 158 v2) (.inl (some (.inl (100 * (o + 1) + 10 * ((iv 155) (212 + 4 * s + 1).toNat) + e)))) (pz_u1 iv 158 v2) := s_X11_cell (o + 1) ((iv 155) (212 + 4 * s + 1).toNat) e (by show 0 ≤ (o + 1) ∧ (o + 1) ≤ 3; omega) (by show 0 ≤ ((iv 155) (212 + 4 * s + 1).toNat) ∧ ((iv 155) (212 + 4 * s + 1).toNat) ≤ 9; omega) (by show 0 ≤ e ∧ e ≤ 9; omega)
              refine w_call hc27 rfl rfl ?_
              refine w_iald (v := (iv 159) (100 * (o + 1) + 10 * ((iv 155) (212 + 4 * s + 1).toNat) + e).toNat) is_159 ln_159 ⟨by omega, by omega⟩ rfl ?_
              refine w_loc (ls' := [some (.inr (.inl 154)), some (.inl s), some (.inl ((iv 155) (212 + 4 * s).toNat)), some (.inl ((iv 155) (212 + 4 * s + 1).toNat)), some (.inl e), u69_5, some (.inl o), some (.inl ((iv 159) (100 * (o + 1) + 10 * ((iv 155) (212 + 4 * s + 1).toNat) + e).toNat))]) (st' := []) rfl ?_
              refine w_loc rfl ?_
              refine w_loc rfl ?_
              refine w_ieq (fun h28 => ?_) (fun h28 => ?_)
              · refine pz_G_of pz_b244_130 ?_
                refine w_iinc (ls' := [some (.inr (.inl 154)), some (.inl s), some (.inl ((iv 155) (212 + 4 * s).toNat)), some (.inl ((iv 155) (212 + 4 * s + 1).toNat)), some (.inl e), u69_5, some (.inl (o + 1)), some (.inl ((iv 159) (100 * (o + 1) + 10 * ((iv 155) (212 + 4 * s + 1).toNat) + e).toNat))]) rfl (pz_np_u rfl hu69_5) rfl (by omega) ?_
                refine w_goto ?_
                exact ih69 _ (by omega) (o + 1) v2 u69_5 hu69_5 (some (.inl ((iv 159) (100 * (o + 1) + 10 * ((iv 155) (212 + 4 * s + 1).toNat) + e).toNat))) rfl rfl (by omega) (by rw [q_fr_s (by omega), ← hv2]; unfold q_spB; first | rw [q_if_t (by omega)] | rw [q_if_f (by omega)])
              · refine w_loc rfl ?_
                refine w_zgt (fun h29 => ?_) (fun h29 => ?_)
                · refine pz_G_of pz_b244_130 ?_
                  refine w_iinc (ls' := [some (.inr (.inl 154)), some (.inl s), some (.inl ((iv 155) (212 + 4 * s).toNat)), some (.inl ((iv 155) (212 + 4 * s + 1).toNat)), some (.inl e), u69_5, some (.inl (o + 1)), some (.inl ((iv 159) (100 * (o + 1) + 10 * ((iv 155) (212 + 4 * s + 1).toNat) + e).toNat))]) rfl (pz_np_u rfl hu69_5) rfl (by omega) ?_
                  refine w_goto ?_
                  exact ih69 _ (by omega) (o + 1) v2 u69_5 hu69_5 (some (.inl ((iv 159) (100 * (o + 1) + 10 * ((iv 155) (212 + 4 * s + 1).toNat) + e).toNat))) rfl rfl (by omega) (by rw [q_fr_s (by omega), ← hv2]; unfold q_spB; first | rw [q_if_t (by omega)] | rw [q_if_f (by omega)])
                · refine w_loc rfl ?_
                  refine w_loc rfl ?_
                  refine w_pure rfl ?_
                  refine w_iadd (by omega) ?_
                  refine w_loc rfl ?_
                  refine w_loc rfl ?_
                  have hc30 : pz_R (pz_Sh L) 241 [.inl (o + 1), .inl ((iv 155) (212 + 4 * s).toNat), .inl e] (pz_u1 iv 158 v2) (.inl (some (.inl (100 * (o + 1) + 10 * ((iv 155) (212 + 4 * s).toNat) + e)))) (pz_u1 iv 158 v2) := s_X11_cell (o + 1) ((iv 155) (212 + 4 * s).toNat) e (by show 0 ≤ (o + 1) ∧ (o + 1) ≤ 3; omega) (by show 0 ≤ ((iv 155) (212 + 4 * s).toNat) ∧ ((iv 155) (212 + 4 * s).toNat) ≤ 9; omega) (by show 0 ≤ e ∧ e ≤ 9; omega)
                  refine w_call hc30 rfl rfl ?_
                  refine w_loc rfl ?_
                  refine w_loc rfl ?_
                  have hc31 : pz_R (pz_Sh L) 208 [.inr (.inl 154), .inl s] (pz_u1 iv 158 v2) (.inl (some (.inl ((iv 155) (212 + 4 * s + 2).toNat)))) (pz_u1 iv 158 v2) := s_X11_least s (by show 0 ≤ s ∧ s ≤ 2; omega)
                  refine w_call hc31 rfl (pz_cokI is_154 rfl) ?_
                  refine w_loc rfl ?_
                  refine w_iadd (by omega) ?_
                  have hc32 : pz_R (pz_Sh L) 242 [.inr (.inl 154), .inl (100 * (o + 1) + 10 * ((iv 155) (212 + 4 * s).toNat) + e), .inl (((iv 155) (212 + 4 * s + 2).toNat) + ((iv 159) (100 * (o + 1) + 10 * ((iv 155) (212 + 4 * s + 1).toNat) + e).toNat))] (pz_u1 iv 158 v2) (.inl none) (pz_u1 iv 158 (q_lw v2 (100 * (o + 1) + 10 * ((iv 155) (212 + 4 * s).toNat) + e) (((iv 155) (212 + 4 * s + 2).toNat) + ((iv 159) (100 * (o + 1) + 10 * ((iv 155) (212 + 4 * s + 1).toNat) + e).toNat)))) := pz_R_mem (s_X11_lowers (100 * (o + 1) + 10 * ((iv 155) (212 + 4 * s).toNat) + e) (((iv 155) (212 + 4 * s + 2).toNat) + ((iv 159) (100 * (o + 1) + 10 * ((iv 155) (212 + 4 * s + 1).toNat) + e).toNat)) (by show 0 ≤ (100 * (o + 1) + 10 * ((iv 155) (212 + 4 * s).toNat) + e) ∧ (100 * (o + 1) + 10 * ((iv 155) (212 + 4 * s).toNat) + e) ≤ 399; omega)) (by rw [pz_u1_top (r := 158)]; rfl)
                  refine w_callv hc32 rfl (pz_cokI is_154 rfl) ?_
                  refine w_nil ?_
                  refine pz_G_of pz_b244_130 ?_
                  refine w_iinc (ls' := [some (.inr (.inl 154)), some (.inl s), some (.inl ((iv 155) (212 + 4 * s).toNat)), some (.inl ((iv 155) (212 + 4 * s + 1).toNat)), some (.inl e), u69_5, some (.inl (o + 1)), some (.inl ((iv 159) (100 * (o + 1) + 10 * ((iv 155) (212 + 4 * s + 1).toNat) + e).toNat))]) rfl (pz_np_u rfl hu69_5) rfl (by omega) ?_
                  refine w_goto ?_
                  exact ih69 _ (by omega) (o + 1) (q_lw v2 (100 * (o + 1) + 10 * ((iv 155) (212 + 4 * s).toNat) + e) (((iv 155) (212 + 4 * s + 2).toNat) + ((iv 159) (100 * (o + 1) + 10 * ((iv 155) (212 + 4 * s + 1).toNat) + e).toNat))) u69_5 hu69_5 (some (.inl ((iv 159) (100 * (o + 1) + 10 * ((iv 155) (212 + 4 * s + 1).toNat) + e).toNat))) rfl rfl (by omega) (by rw [q_fr_s (by omega), ← hv2]; unfold q_spB; first | rw [q_if_t (by omega)] | rw [q_if_f (by omega)])
          exact lp69 _ 0 v (some (.inl ((iv 159) (100 * 0 + 10 * ((iv 155) (212 + 4 * s + 1).toNat) + e).toNat))) rfl u15_7 hu15_7 rfl (by omega) (by rw [q_fr_0 (by omega)]; unfold q_spA; first | rw [q_if_t (by omega)] | rw [q_if_f (by omega)])
        · refine w_loc rfl ?_
          refine w_pure rfl ?_
          refine w_loc rfl ?_
          refine w_loc rfl ?_
          have hc33 : pz_R (pz_Sh L) 241 [.inl 0, .inl ((iv 155) (212 + 4 * s).toNat), .inl e] (pz_u1 iv 158 v) (.inl (some (.inl (100 * 0 + 10 * ((iv 155) (212 + 4 * s).toNat) + e)))) (pz_u1 iv 158 v) := s_X11_cell 0 ((iv 155) (212 + 4 * s).toNat) e (by show 0 ≤ 0 ∧ 0 ≤ 3; omega) (by show 0 ≤ ((iv 155) (212 + 4 * s).toNat) ∧ ((iv 155) (212 + 4 * s).toNat) ≤ 9; omega) (by show 0 ≤ e ∧ e ≤ 9; omega)
          refine w_call hc33 rfl rfl ?_
          refine w_loc rfl ?_
          refine w_loc rfl ?_
          have hc34 : pz_R (pz_Sh L) 208 [.inr (.inl 154), .inl s] (pz_u1 iv 158 v) (.inl (some (.inl ((iv 155) (212 + 4 * s + 2).toNat)))) (pz_u1 iv 158 v) := s_X11_least s (by show 0 ≤ s ∧ s ≤ 2; omega)
          refine w_call hc34 rfl (pz_cokI is_154 rfl) ?_
          refine w_loc rfl ?_
          refine w_iadd (by omega) ?_
          have hc35 : pz_R (pz_Sh L) 242 [.inr (.inl 154), .inl (100 * 0 + 10 * ((iv 155) (212 + 4 * s).toNat) + e), .inl (((iv 155) (212 + 4 * s + 2).toNat) + ((iv 159) (100 * 0 + 10 * ((iv 155) (212 + 4 * s + 1).toNat) + e).toNat))] (pz_u1 iv 158 v) (.inl none) (pz_u1 iv 158 (q_lw v (100 * 0 + 10 * ((iv 155) (212 + 4 * s).toNat) + e) (((iv 155) (212 + 4 * s + 2).toNat) + ((iv 159) (100 * 0 + 10 * ((iv 155) (212 + 4 * s + 1).toNat) + e).toNat)))) := pz_R_mem (s_X11_lowers (100 * 0 + 10 * ((iv 155) (212 + 4 * s).toNat) + e) (((iv 155) (212 + 4 * s + 2).toNat) + ((iv 159) (100 * 0 + 10 * ((iv 155) (212 + 4 * s + 1).toNat) + e).toNat)) (by show 0 ≤ (100 * 0 + 10 * ((iv 155) (212 + 4 * s).toNat) + e) ∧ (100 * 0 + 10 * ((iv 155) (212 + 4 * s).toNat) + e) ≤ 399; omega)) (by rw [pz_u1_top (r := 158)]; rfl)
          refine w_callv hc35 rfl (pz_cokI is_154 rfl) ?_
          refine w_nil ?_
          refine pz_G_of pz_b244_66 ?_
          refine w_pure rfl ?_
          refine w_loc (ls' := [some (.inr (.inl 154)), some (.inl s), some (.inl ((iv 155) (212 + 4 * s).toNat)), some (.inl ((iv 155) (212 + 4 * s + 1).toNat)), some (.inl e), some (.inl ((iv 159) (100 * 0 + 10 * ((iv 155) (212 + 4 * s + 1).toNat) + e).toNat)), some (.inl 0), u15_7]) (st' := []) rfl ?_
          refine w_nil ?_
          have lp69 : ∀ (dd : Nat) (o : Int) (v2 : Nat → Int) (u69_5 : Option pz_V) (hu69_5 : pz_nc u69_5 = true) (u69_7 : Option pz_V) (hu69_7 : pz_nc u69_7 = true), (iv 155 2 - o).toNat = dd → ∀ (ho : 0 ≤ o ∧ o ≤ iv 155 2), ∀ (hv2 : v2 = q_fr (q_spB (iv 155) (iv 159) s e) 0 o (q_spA (iv 155) (iv 159) s e v)),  pz_G 244 69 [some (.inr (.inl 154)), some (.inl s), some (.inl ((iv 155) (212 + 4 * s).toNat)), some (.inl ((iv 155) (212 + 4 * s + 1).toNat)), some (.inl e), u69_5, some (.inl o), u69_7] [] (pz_Sh L, pz_u1 iv 158 v2, dv, cc, ss) (pz_P (pz_Sh L) (.inl none) (pz_u1 iv 158 (q_spn (iv 155) (iv 159) s (iv 158))) dv cc ss) := by
            intro dd69
            induction dd69 using Nat.strongRecOn with
            | _ dd69 ih69 =>
            intro o v2 u69_5 hu69_5 u69_7 hu69_7 hd69 ho hv2
            have hb2 := fun h => hvb (100 * (o + 1) + 10 * iv 155 (212 + 4 * s + 1).toNat + e).toNat h
            refine pz_G_of pz_b244_69 ?_
            refine w_loc rfl ?_
            refine w_loc rfl ?_
            refine w_getR (q := 155) is_154 rf_154_1 ?_
            refine w_pure rfl ?_
            refine w_iald (v := (iv 155) 2) is_155 ln_155 ⟨by omega, by omega⟩ rfl ?_
            refine w_ige (fun h36 => ?_) (fun h36 => ?_)
            · refine pz_G_of pz_b244_136 ?_
              refine w_loc rfl ?_
              refine w_getR (q := 159) is_154 rf_154_6 ?_
              refine w_loc rfl ?_
              refine w_pure rfl ?_
              refine w_iadd (by omega) ?_
              refine w_loc rfl ?_
              refine w_loc rfl ?_
              have hc37 : pz_R (pz_Sh L) 241 [.inl (s + 1), .inl e, .inl ((iv 155) (212 + 4 * s).toNat)] (pz_u1 iv 158 v2) (.inl (some (.inl (100 * (s + 1) + 10 * e + ((iv 155) (212 + 4 * s).toNat))))) (pz_u1 iv 158 v2) := s_X11_cell (s + 1) e ((iv 155) (212 + 4 * s).toNat) (by show 0 ≤ (s + 1) ∧ (s + 1) ≤ 3; omega) (by show 0 ≤ e ∧ e ≤ 9; omega) (by show 0 ≤ ((iv 155) (212 + 4 * s).toNat) ∧ ((iv 155) (212 + 4 * s).toNat) ≤ 9; omega)
              refine w_call hc37 rfl rfl ?_
              refine w_iald (v := (iv 159) (100 * (s + 1) + 10 * e + ((iv 155) (212 + 4 * s).toNat)).toNat) is_159 ln_159 ⟨by omega, by omega⟩ rfl ?_
              refine w_st (lc' := [some (.inr (.inl 154)), some (.inl s), some (.inl ((iv 155) (212 + 4 * s).toNat)), some (.inl ((iv 155) (212 + 4 * s + 1).toNat)), some (.inl e), u69_5, some (.inl ((iv 159) (100 * (s + 1) + 10 * e + ((iv 155) (212 + 4 * s).toNat)).toNat)), u69_7]) rfl rfl rfl (Nat.le_of_ble_eq_true rfl) (pz_np_u rfl hu69_5) rfl ?_
              refine w_loc rfl ?_
              refine w_ldcv (v := 1000000) rfl ?_
              refine w_ige (fun h38 => ?_) (fun h38 => ?_)
              · refine pz_G_of pz_b244_183 ?_
                refine w_iinc (ls' := [some (.inr (.inl 154)), some (.inl s), some (.inl ((iv 155) (212 + 4 * s).toNat)), some (.inl ((iv 155) (212 + 4 * s + 1).toNat)), some (.inl (e + 1)), u69_5, some (.inl ((iv 159) (100 * (s + 1) + 10 * e + ((iv 155) (212 + 4 * s).toNat)).toNat)), u69_7]) rfl rfl rfl (by omega) ?_
                refine w_goto ?_
                exact ih15 _ (by omega) (e + 1) v2 u69_5 hu69_5 (some (.inl ((iv 159) (100 * (s + 1) + 10 * e + ((iv 155) (212 + 4 * s).toNat)).toNat))) rfl u69_7 hu69_7 rfl (by omega) (by rw [q_fr_s (by omega), ← hv]; unfold q_spR; rw [← show o = iv 155 2 by omega, ← hv2]; unfold q_spC; first | rw [q_if_t (by omega)] | rw [q_if_f (by omega)])
              · refine w_loc rfl ?_
                refine w_loc rfl ?_
                refine w_loc rfl ?_
                have hc39 : pz_R (pz_Sh L) 208 [.inr (.inl 154), .inl s] (pz_u1 iv 158 v2) (.inl (some (.inl ((iv 155) (212 + 4 * s + 2).toNat)))) (pz_u1 iv 158 v2) := s_X11_least s (by show 0 ≤ s ∧ s ≤ 2; omega)
                refine w_call hc39 rfl (pz_cokI is_154 rfl) ?_
                refine w_ineg (by omega) ?_
                refine w_ilt (fun h40 => ?_) (fun h40 => ?_)
                · refine pz_G_of pz_b244_183 ?_
                  refine w_iinc (ls' := [some (.inr (.inl 154)), some (.inl s), some (.inl ((iv 155) (212 + 4 * s).toNat)), some (.inl ((iv 155) (212 + 4 * s + 1).toNat)), some (.inl (e + 1)), u69_5, some (.inl ((iv 159) (100 * (s + 1) + 10 * e + ((iv 155) (212 + 4 * s).toNat)).toNat)), u69_7]) rfl rfl rfl (by omega) ?_
                  refine w_goto ?_
                  exact ih15 _ (by omega) (e + 1) v2 u69_5 hu69_5 (some (.inl ((iv 159) (100 * (s + 1) + 10 * e + ((iv 155) (212 + 4 * s).toNat)).toNat))) rfl u69_7 hu69_7 rfl (by omega) (by rw [q_fr_s (by omega), ← hv]; unfold q_spR; rw [← show o = iv 155 2 by omega, ← hv2]; unfold q_spC; first | rw [q_if_t (by omega)] | rw [q_if_f (by omega)])
                · refine w_loc rfl ?_
                  refine w_pure rfl ?_
                  refine w_loc rfl ?_
                  refine w_loc rfl ?_
                  have hc41 : pz_R (pz_Sh L) 241 [.inl 0, .inl e, .inl ((iv 155) (212 + 4 * s).toNat)] (pz_u1 iv 158 v2) (.inl (some (.inl (100 * 0 + 10 * e + ((iv 155) (212 + 4 * s).toNat))))) (pz_u1 iv 158 v2) := s_X11_cell 0 e ((iv 155) (212 + 4 * s).toNat) (by show 0 ≤ 0 ∧ 0 ≤ 3; omega) (by show 0 ≤ e ∧ e ≤ 9; omega) (by show 0 ≤ ((iv 155) (212 + 4 * s).toNat) ∧ ((iv 155) (212 + 4 * s).toNat) ≤ 9; omega)
                  refine w_call hc41 rfl rfl ?_
                  refine w_loc rfl ?_
                  have hc42 : pz_R (pz_Sh L) 242 [.inr (.inl 154), .inl (100 * 0 + 10 * e + ((iv 155) (212 + 4 * s).toNat)), .inl ((iv 159) (100 * (s + 1) + 10 * e + ((iv 155) (212 + 4 * s).toNat)).toNat)] (pz_u1 iv 158 v2) (.inl none) (pz_u1 iv 158 (q_lw v2 (100 * 0 + 10 * e + ((iv 155) (212 + 4 * s).toNat)) ((iv 159) (100 * (s + 1) + 10 * e + ((iv 155) (212 + 4 * s).toNat)).toNat))) := pz_R_mem (s_X11_lowers (100 * 0 + 10 * e + ((iv 155) (212 + 4 * s).toNat)) ((iv 159) (100 * (s + 1) + 10 * e + ((iv 155) (212 + 4 * s).toNat)).toNat) (by show 0 ≤ (100 * 0 + 10 * e + ((iv 155) (212 + 4 * s).toNat)) ∧ (100 * 0 + 10 * e + ((iv 155) (212 + 4 * s).toNat)) ≤ 399; omega)) (by rw [pz_u1_top (r := 158)]; rfl)
                  refine w_callv hc42 rfl (pz_cokI is_154 rfl) ?_
                  refine w_nil ?_
                  refine pz_G_of pz_b244_183 ?_
                  refine w_iinc (ls' := [some (.inr (.inl 154)), some (.inl s), some (.inl ((iv 155) (212 + 4 * s).toNat)), some (.inl ((iv 155) (212 + 4 * s + 1).toNat)), some (.inl (e + 1)), u69_5, some (.inl ((iv 159) (100 * (s + 1) + 10 * e + ((iv 155) (212 + 4 * s).toNat)).toNat)), u69_7]) rfl rfl rfl (by omega) ?_
                  refine w_goto ?_
                  exact ih15 _ (by omega) (e + 1) (q_lw v2 (100 * 0 + 10 * e + ((iv 155) (212 + 4 * s).toNat)) ((iv 159) (100 * (s + 1) + 10 * e + ((iv 155) (212 + 4 * s).toNat)).toNat)) u69_5 hu69_5 (some (.inl ((iv 159) (100 * (s + 1) + 10 * e + ((iv 155) (212 + 4 * s).toNat)).toNat))) rfl u69_7 hu69_7 rfl (by omega) (by rw [q_fr_s (by omega), ← hv]; unfold q_spR; rw [← show o = iv 155 2 by omega, ← hv2]; unfold q_spC; first | rw [q_if_t (by omega)] | rw [q_if_f (by omega)])
            · refine w_loc rfl ?_
              refine w_getR (q := 159) is_154 rf_154_6 ?_
              refine w_loc rfl ?_
              refine w_pure rfl ?_
              refine w_iadd (by omega) ?_
              refine w_loc rfl ?_
              refine w_loc rfl ?_
              have hc43 : pz_R (pz_Sh L) 241 [.inl (o + 1), .inl ((iv 155) (212 + 4 * s + 1).toNat), .inl e] (pz_u1 iv 158 v2) (.inl (some (.inl (100 * (o + 1) + 10 * ((iv 155) (212 + 4 * s + 1).toNat) + e)))) (pz_u1 iv 158 v2) := s_X11_cell (o + 1) ((iv 155) (212 + 4 * s + 1).toNat) e (by show 0 ≤ (o + 1) ∧ (o + 1) ≤ 3; omega) (by show 0 ≤ ((iv 155) (212 + 4 * s + 1).toNat) ∧ ((iv 155) (212 + 4 * s + 1).toNat) ≤ 9; omega) (by show 0 ≤ e ∧ e ≤ 9; omega)
              refine w_call hc43 rfl rfl ?_
              refine w_iald (v := (iv 159) (100 * (o + 1) + 10 * ((iv 155) (212 + 4 * s + 1).toNat) + e).toNat) is_159 ln_159 ⟨by omega, by omega⟩ rfl ?_
              refine w_loc (ls' := [some (.inr (.inl 154)), some (.inl s), some (.inl ((iv 155) (212 + 4 * s).toNat)), some (.inl ((iv 155) (212 + 4 * s + 1).toNat)), some (.inl e), u69_5, some (.inl o), some (.inl ((iv 159) (100 * (o + 1) + 10 * ((iv 155) (212 + 4 * s + 1).toNat) + e).toNat))]) (st' := []) rfl ?_
              refine w_loc rfl ?_
              refine w_loc rfl ?_
              refine w_ieq (fun h44 => ?_) (fun h44 => ?_)
              · refine pz_G_of pz_b244_130 ?_
                refine w_iinc (ls' := [some (.inr (.inl 154)), some (.inl s), some (.inl ((iv 155) (212 + 4 * s).toNat)), some (.inl ((iv 155) (212 + 4 * s + 1).toNat)), some (.inl e), u69_5, some (.inl (o + 1)), some (.inl ((iv 159) (100 * (o + 1) + 10 * ((iv 155) (212 + 4 * s + 1).toNat) + e).toNat))]) rfl (pz_np_u rfl hu69_5) rfl (by omega) ?_
                refine w_goto ?_
                exact ih69 _ (by omega) (o + 1) v2 u69_5 hu69_5 (some (.inl ((iv 159) (100 * (o + 1) + 10 * ((iv 155) (212 + 4 * s + 1).toNat) + e).toNat))) rfl rfl (by omega) (by rw [q_fr_s (by omega), ← hv2]; unfold q_spB; first | rw [q_if_t (by omega)] | rw [q_if_f (by omega)])
              · refine w_loc rfl ?_
                refine w_zgt (fun h45 => ?_) (fun h45 => ?_)
                · refine pz_G_of pz_b244_130 ?_
                  refine w_iinc (ls' := [some (.inr (.inl 154)), some (.inl s), some (.inl ((iv 155) (212 + 4 * s).toNat)), some (.inl ((iv 155) (212 + 4 * s + 1).toNat)), some (.inl e), u69_5, some (.inl (o + 1)), some (.inl ((iv 159) (100 * (o + 1) + 10 * ((iv 155) (212 + 4 * s + 1).toNat) + e).toNat))]) rfl (pz_np_u rfl hu69_5) rfl (by omega) ?_
                  refine w_goto ?_
                  exact ih69 _ (by omega) (o + 1) v2 u69_5 hu69_5 (some (.inl ((iv 159) (100 * (o + 1) + 10 * ((iv 155) (212 + 4 * s + 1).toNat) + e).toNat))) rfl rfl (by omega) (by rw [q_fr_s (by omega), ← hv2]; unfold q_spB; first | rw [q_if_t (by omega)] | rw [q_if_f (by omega)])
                · refine w_loc rfl ?_
                  refine w_loc rfl ?_
                  refine w_pure rfl ?_
                  refine w_iadd (by omega) ?_
                  refine w_loc rfl ?_
                  refine w_loc rfl ?_
                  have hc46 : pz_R (pz_Sh L) 241 [.inl (o + 1), .inl ((iv 155) (212 + 4 * s).toNat), .inl e] (pz_u1 iv 158 v2) (.inl (some (.inl (100 * (o + 1) + 10 * ((iv 155) (212 + 4 * s).toNat) + e)))) (pz_u1 iv 158 v2) := s_X11_cell (o + 1) ((iv 155) (212 + 4 * s).toNat) e (by show 0 ≤ (o + 1) ∧ (o + 1) ≤ 3; omega) (by show 0 ≤ ((iv 155) (212 + 4 * s).toNat) ∧ ((iv 155) (212 + 4 * s).toNat) ≤ 9; omega) (by show 0 ≤ e ∧ e ≤ 9; omega)
                  refine w_call hc46 rfl rfl ?_
                  refine w_loc rfl ?_
                  refine w_loc rfl ?_
                  have hc47 : pz_R (pz_Sh L) 208 [.inr (.inl 154), .inl s] (pz_u1 iv 158 v2) (.inl (some (.inl ((iv 155) (212 + 4 * s + 2).toNat)))) (pz_u1 iv 158 v2) := s_X11_least s (by show 0 ≤ s ∧ s ≤ 2; omega)
                  refine w_call hc47 rfl (pz_cokI is_154 rfl) ?_
                  refine w_loc rfl ?_
                  refine w_iadd (by omega) ?_
                  have hc48 : pz_R (pz_Sh L) 242 [.inr (.inl 154), .inl (100 * (o + 1) + 10 * ((iv 155) (212 + 4 * s).toNat) + e), .inl (((iv 155) (212 + 4 * s + 2).toNat) + ((iv 159) (100 * (o + 1) + 10 * ((iv 155) (212 + 4 * s + 1).toNat) + e).toNat))] (pz_u1 iv 158 v2) (.inl none) (pz_u1 iv 158 (q_lw v2 (100 * (o + 1) + 10 * ((iv 155) (212 + 4 * s).toNat) + e) (((iv 155) (212 + 4 * s + 2).toNat) + ((iv 159) (100 * (o + 1) + 10 * ((iv 155) (212 + 4 * s + 1).toNat) + e).toNat)))) := pz_R_mem (s_X11_lowers (100 * (o + 1) + 10 * ((iv 155) (212 + 4 * s).toNat) + e) (((iv 155) (212 + 4 * s + 2).toNat) + ((iv 159) (100 * (o + 1) + 10 * ((iv 155) (212 + 4 * s + 1).toNat) + e).toNat)) (by show 0 ≤ (100 * (o + 1) + 10 * ((iv 155) (212 + 4 * s).toNat) + e) ∧ (100 * (o + 1) + 10 * ((iv 155) (212 + 4 * s).toNat) + e) ≤ 399; omega)) (by rw [pz_u1_top (r := 158)]; rfl)
                  refine w_callv hc48 rfl (pz_cokI is_154 rfl) ?_
                  refine w_nil ?_
                  refine pz_G_of pz_b244_130 ?_
                  refine w_iinc (ls' := [some (.inr (.inl 154)), some (.inl s), some (.inl ((iv 155) (212 + 4 * s).toNat)), some (.inl ((iv 155) (212 + 4 * s + 1).toNat)), some (.inl e), u69_5, some (.inl (o + 1)), some (.inl ((iv 159) (100 * (o + 1) + 10 * ((iv 155) (212 + 4 * s + 1).toNat) + e).toNat))]) rfl (pz_np_u rfl hu69_5) rfl (by omega) ?_
                  refine w_goto ?_
                  exact ih69 _ (by omega) (o + 1) (q_lw v2 (100 * (o + 1) + 10 * ((iv 155) (212 + 4 * s).toNat) + e) (((iv 155) (212 + 4 * s + 2).toNat) + ((iv 159) (100 * (o + 1) + 10 * ((iv 155) (212 + 4 * s + 1).toNat) + e).toNat))) u69_5 hu69_5 (some (.inl ((iv 159) (100 * (o + 1) + 10 * ((iv 155) (212 + 4 * s + 1).toNat) + e).toNat))) rfl rfl (by omega) (by rw [q_fr_s (by omega), ← hv2]; unfold q_spB; first | rw [q_if_t (by omega)] | rw [q_if_f (by omega)])
          exact lp69 _ 0 (q_lw v (100 * 0 + 10 * ((iv 155) (212 + 4 * s).toNat) + e) (((iv 155) (212 + 4 * s + 2).toNat) + ((iv 159) (100 * 0 + 10 * ((iv 155) (212 + 4 * s + 1).toNat) + e).toNat))) (some (.inl ((iv 159) (100 * 0 + 10 * ((iv 155) (212 + 4 * s + 1).toNat) + e).toNat))) rfl u15_7 hu15_7 rfl (by omega) (by rw [q_fr_0 (by omega)]; unfold q_spA; first | rw [q_if_t (by omega)] | rw [q_if_f (by omega)])
  exact lp15 _ 0 (iv 158) (none) rfl (none) rfl (none) rfl rfl (by omega) (by rw [q_fr_0 (by omega)])

theorem s_X11_hasChanged {L : Nat} {iv : Nat → Nat → Int} : pz_R (pz_Sh L) 245 [.inr (.inl 154)] iv (.inl (some (.inl (pz_bi (q_hc (iv 158) (iv 159)))))) iv := by
  intro dv cc ss
  show pz_G 245 0 [some (.inr (.inl 154)), none, none] [] (pz_Sh L, iv, dv, cc, ss) (pz_P (pz_Sh L) (.inl (some (.inl (pz_bi (q_hc (iv 158) (iv 159)))))) iv dv cc ss)
  refine pz_G_of pz_b245_0 ?_
  refine w_pure rfl ?_
  refine w_loc (ls' := [some (.inr (.inl 154)), some (.inl 0), none]) (st' := []) rfl ?_
  refine w_pure rfl ?_
  refine w_loc (ls' := [some (.inr (.inl 154)), some (.inl 0), some (.inl 0)]) (st' := []) rfl ?_
  refine w_nil ?_
  have lp4 : ∀ (dd : Nat) (z : Int) (i : Int) , (400 - i).toNat = dd → ∀ (hii : 0 ≤ i ∧ i ≤ 400), ∀ (hz : z = pz_bi (q_exi (q_hcP (iv 158) (iv 159)) i)),  pz_G 245 4 [some (.inr (.inl 154)), some (.inl z), some (.inl i)] [] (pz_Sh L, iv, dv, cc, ss) (pz_P (pz_Sh L) (.inl (some (.inl (pz_bi (q_hc (iv 158) (iv 159)))))) iv dv cc ss) := by
    intro dd4
    induction dd4 using Nat.strongRecOn with
    | _ dd4 ih4 =>
    intro z i  hd4 hii hz
    refine pz_G_of pz_b245_4 ?_
    refine w_loc rfl ?_
    refine w_pure rfl ?_
    refine w_ige (fun h1 => ?_) (fun h1 => ?_)
    · refine pz_G_of pz_b245_42 ?_
      refine w_loc rfl ?_
      refine w_ret (pz_rok1 (by first | omega | (rw [hz]; exact pz_bi01 _))) ?_
      exact lf_i (by rw [hz, show i = 400 by omega]; rfl) rfl
    · refine w_loc rfl ?_
      refine w_zne (fun h2 => ?_) (fun h2 => ?_)
      · refine pz_G_of pz_b245_30 ?_
        refine w_pure rfl ?_
        refine w_goto ?_
        refine pz_G_of pz_b245_35 ?_
        refine w_loc (ls' := [some (.inr (.inl 154)), some (.inl 1), some (.inl i)]) (st' := []) rfl ?_
        refine w_iinc (ls' := [some (.inr (.inl 154)), some (.inl 1), some (.inl (i + 1))]) rfl rfl rfl (by omega) ?_
        refine w_goto ?_
        exact ih4 _ (by omega) 1 (i + 1)  rfl (by omega) (by first | exact q_exi_t1 hz (by omega) (by omega) | exact q_exi_t2 (by omega) (by omega) | exact q_exi_f hz (by omega) (by omega) (by omega))
      · refine w_loc rfl ?_
        refine w_getR (q := 158) is_154 rf_154_5 ?_
        refine w_loc rfl ?_
        refine w_iald (v := (iv 158) i.toNat) is_158 ln_158 ⟨by omega, by omega⟩ rfl ?_
        refine w_loc rfl ?_
        refine w_getR (q := 159) is_154 rf_154_6 ?_
        refine w_loc rfl ?_
        refine w_iald (v := (iv 159) i.toNat) is_159 ln_159 ⟨by omega, by omega⟩ rfl ?_
        refine w_ieq (fun h3 => ?_) (fun h3 => ?_)
        · refine pz_G_of pz_b245_34 ?_
          refine w_pure rfl ?_
          refine w_nil ?_
          refine pz_G_of pz_b245_35 ?_
          refine w_loc (ls' := [some (.inr (.inl 154)), some (.inl 0), some (.inl i)]) (st' := []) rfl ?_
          refine w_iinc (ls' := [some (.inr (.inl 154)), some (.inl 0), some (.inl (i + 1))]) rfl rfl rfl (by omega) ?_
          refine w_goto ?_
          exact ih4 _ (by omega) 0 (i + 1)  rfl (by omega) (by first | exact q_exi_t1 hz (by omega) (by omega) | exact q_exi_t2 (by omega) (by omega) | exact q_exi_f hz (by omega) (by omega) (by omega))
        · refine w_nil ?_
          refine pz_G_of pz_b245_30 ?_
          refine w_pure rfl ?_
          refine w_goto ?_
          refine pz_G_of pz_b245_35 ?_
          refine w_loc (ls' := [some (.inr (.inl 154)), some (.inl 1), some (.inl i)]) (st' := []) rfl ?_
          refine w_iinc (ls' := [some (.inr (.inl 154)), some (.inl 1), some (.inl (i + 1))]) rfl rfl rfl (by omega) ?_
          refine w_goto ?_
          exact ih4 _ (by omega) 1 (i + 1)  rfl (by omega) (by first | exact q_exi_t1 hz (by omega) (by omega) | exact q_exi_t2 (by omega) (by omega) | exact q_exi_f hz (by omega) (by omega) (by omega))
  exact lp4 _ 0 0  rfl (by omega) (by exact q_exi_0 (by omega))

theorem s_X11_isRound {L : Nat} {iv : Nat → Nat → Int} (hk : q_KR (iv 155)) (hcb : q_cb (q_ir (iv 155) (iv 158) (iv 157))) : pz_R (pz_Sh L) 246 [.inr (.inl 154)] iv (.inl (some (.inl (pz_bi (q_ok (q_ir (iv 155) (iv 158) (iv 157))))))) (pz_u1 iv 157 (q_cg (q_ir (iv 155) (iv 158) (iv 157)))) := by
  intro dv cc ss
  have hk0 := hk.r0
  refine pz_G_mem (iv2 := pz_u1 iv 157 (iv 157)) (by exact (pz_u1_self iv 157).symm) ?_
  show pz_G 246 0 [some (.inr (.inl 154)), none, none] [] (pz_Sh L, pz_u1 iv 157 (iv 157), dv, cc, ss) (pz_P (pz_Sh L) (.inl (some (.inl (pz_bi (q_ok (q_ir (iv 155) (iv 158) (iv 157))))))) (pz_u1 iv 157 (q_cg (q_ir (iv 155) (iv 158) (iv 157)))) dv cc ss)
  refine pz_G_of pz_b246_0 ?_
  refine w_pure rfl ?_
  refine w_loc (ls' := [some (.inr (.inl 154)), some (.inl 0), none]) (st' := []) rfl ?_
  refine w_nil ?_
  have lp2 : ∀ (dd : Nat) (i : Int) (f : Nat → Int) (u2_2 : Option pz_V) (hu2_2 : pz_nc u2_2 = true), (100 - i).toNat = dd → ∀ (hi : 0 ≤ i ∧ i ≤ 100), ∀ (hf : f = q_fr (q_irI (iv 155) (iv 158)) 0 i (iv 157)),  pz_G 246 2 [some (.inr (.inl 154)), some (.inl i), u2_2] [] (pz_Sh L, pz_u1 iv 157 f, dv, cc, ss) (pz_P (pz_Sh L) (.inl (some (.inl (pz_bi (q_ok (q_ir (iv 155) (iv 158) (iv 157))))))) (pz_u1 iv 157 (q_cg (q_ir (iv 155) (iv 158) (iv 157)))) dv cc ss) := by
    intro dd2
    induction dd2 using Nat.strongRecOn with
    | _ dd2 ih2 =>
    intro i f u2_2 hu2_2 hd2 hi hf
    refine pz_G_of pz_b246_2 ?_
    refine w_loc rfl ?_
    refine w_pure rfl ?_
    refine w_ige (fun h1 => ?_) (fun h1 => ?_)
    · refine pz_G_of pz_b246_77 ?_
      refine w_loc rfl ?_
      have hc2 : pz_R (pz_Sh L) 226 [.inr (.inl 154)] (pz_u1 iv 157 f) (.inl (some (.inl (pz_bi (q_ok f))))) (pz_u1 iv 157 (q_cg f)) := pz_R_mem (s_X11_closes (by show q_cb f; rw [hf, show i = 100 by omega]; exact hcb)) (by rw [pz_u1_top (r := 157)]; rfl)
      refine w_call hc2 rfl (pz_cokI is_154 rfl) ?_
      refine w_ret (pz_rok1 (pz_bi01 _)) ?_
      exact lf_i (pz_bi_iff (by rw [hf, show i = 100 by omega]; exact Iff.rfl)) (by rw [hf, show i = 100 by omega]; rfl)
    · refine w_loc rfl ?_
      refine w_getR (q := 157) is_154 rf_154_4 ?_
      refine w_loc rfl ?_
      refine w_ldcv (v := 1000000) rfl ?_
      refine w_iastm (iv2 := pz_u1 iv 157 (pz_up f i.toNat 1000000)) is_157 ln_157 ⟨by omega, by omega⟩ (by exact pz_u2_top _ _ _ _ _) ?_
      refine w_pure rfl ?_
      refine w_loc (ls' := [some (.inr (.inl 154)), some (.inl i), some (.inl 0)]) (st' := []) rfl ?_
      refine w_nil ?_
      have lp18 : ∀ (dd : Nat) (q : Int) (f2 : Nat → Int) , (iv 155 2 + 1 - q).toNat = dd → ∀ (hq : 0 ≤ q ∧ q ≤ iv 155 2 + 1), ∀ (hf2 : f2 = q_fr (q_irS (iv 158) i) 0 q (pz_up f i.toNat 1000000)),  pz_G 246 18 [some (.inr (.inl 154)), some (.inl i), some (.inl q)] [] (pz_Sh L, pz_u1 iv 157 f2, dv, cc, ss) (pz_P (pz_Sh L) (.inl (some (.inl (pz_bi (q_ok (q_ir (iv 155) (iv 158) (iv 157))))))) (pz_u1 iv 157 (q_cg (q_ir (iv 155) (iv 158) (iv 157)))) dv cc ss) := by
        intro dd18
        induction dd18 using Nat.strongRecOn with
        | _ dd18 ih18 =>
        intro q f2  hd18 hq hf2
        refine pz_G_of pz_b246_18 ?_
        refine w_loc rfl ?_
        refine w_loc rfl ?_
        refine w_getR (q := 155) is_154 rf_154_1 ?_
        refine w_pure rfl ?_
        refine w_iald (v := (iv 155) 2) is_155 ln_155 ⟨by omega, by omega⟩ rfl ?_
        refine w_igt (fun h3 => ?_) (fun h3 => ?_)
        · refine pz_G_of pz_b246_71 ?_
          refine w_iinc (ls' := [some (.inr (.inl 154)), some (.inl (i + 1)), some (.inl q)]) rfl rfl rfl (by omega) ?_
          refine w_goto ?_
          exact ih2 _ (by omega) (i + 1) f2 (some (.inl q)) rfl rfl (by omega) (by rw [q_fr_s (by omega), ← hf]; unfold q_irI; rw [← show q = iv 155 2 + 1 by omega]; exact hf2)
        · refine w_loc rfl ?_
          refine w_getR (q := 158) is_154 rf_154_5 ?_
          refine w_pure rfl ?_
          refine w_loc rfl ?_
          refine w_imul (by omega) ?_
          refine w_loc rfl ?_
          refine w_iadd (by omega) ?_
          refine w_iald (v := (iv 158) ((100 * q) + i).toNat) is_158 ln_158 ⟨by omega, by omega⟩ rfl ?_
          refine w_loc rfl ?_
          refine w_getR (q := 157) is_154 rf_154_4 ?_
          refine w_loc rfl ?_
          refine w_iald (v := f2 i.toNat) is_157 ln_157 ⟨by omega, by omega⟩ rfl ?_
          refine w_ige (fun h4 => ?_) (fun h4 => ?_)
          · refine pz_G_of pz_b246_65 ?_
            refine w_iinc (ls' := [some (.inr (.inl 154)), some (.inl i), some (.inl (q + 1))]) rfl rfl rfl (by omega) ?_
            refine w_goto ?_
            exact ih18 _ (by omega) (q + 1) f2  rfl (by omega) (by rw [q_fr_s (by omega), ← hf2]; unfold q_irS; first | rw [q_if_t (by omega)] | rw [q_if_f (by omega)])
          · refine w_loc rfl ?_
            refine w_getR (q := 157) is_154 rf_154_4 ?_
            refine w_loc rfl ?_
            refine w_loc rfl ?_
            refine w_getR (q := 158) is_154 rf_154_5 ?_
            refine w_pure rfl ?_
            refine w_loc rfl ?_
            refine w_imul (by omega) ?_
            refine w_loc rfl ?_
            refine w_iadd (by omega) ?_
            refine w_iald (v := (iv 158) ((100 * q) + i).toNat) is_158 ln_158 ⟨by omega, by omega⟩ rfl ?_
            refine w_iastm (iv2 := pz_u1 iv 157 (pz_up f2 i.toNat ((iv 158) ((100 * q) + i).toNat))) is_157 ln_157 ⟨by omega, by omega⟩ (by exact pz_u2_top _ _ _ _ _) ?_
            refine w_nil ?_
            refine pz_G_of pz_b246_65 ?_
            refine w_iinc (ls' := [some (.inr (.inl 154)), some (.inl i), some (.inl (q + 1))]) rfl rfl rfl (by omega) ?_
            refine w_goto ?_
            exact ih18 _ (by omega) (q + 1) (pz_up f2 i.toNat ((iv 158) ((100 * q) + i).toNat))  rfl (by omega) (by rw [q_fr_s (by omega), ← hf2]; unfold q_irS; first | rw [q_if_t (by omega)] | rw [q_if_f (by omega)])
      exact lp18 _ 0 (pz_up f i.toNat 1000000)  rfl (by omega) (by rw [q_fr_0 (by omega)])
  exact lp2 _ 0 (iv 157) (none) rfl rfl (by omega) (by rw [q_fr_0 (by omega)])
