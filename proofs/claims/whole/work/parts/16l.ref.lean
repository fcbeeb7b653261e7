
theorem s_X11_choose_1 {L : Nat} {iv : Nat → Nat → Int} (hno : ∀ w : Int, 0 ≤ w → w < 16 → ¬ q_chok (iv 161) (iv 155) (iv 157) w) (hk : q_KR (iv 155)) : pz_R (pz_Sh L) 217 [.inr (.inl 154)] iv (.inl (some (.inl 0))) (pz_u1 (pz_u1 (pz_u1 iv 154 (pz_up (iv 154) 0 1)) 155 (q_un (q_pkd (iv 155)) (q_ch (iv 161) 16 (iv 155) (iv 157)).1)) 157 ((q_ch (iv 161) 16 (iv 155) (iv 157)).2)) := by
  intro dv cc ss
  have hk0 := hk.r0
  refine pz_G_mem (iv2 := pz_u1 (pz_u1 (pz_u1 iv 154 (iv 154)) 155 (iv 155)) 157 (iv 157)) (by exact (((pz_u1_self iv 154).symm).trans (pz_u1_self (pz_u1 iv 154 (iv 154)) 155).symm).trans (pz_u1_self (pz_u1 (pz_u1 iv 154 (iv 154)) 155 (iv 155)) 157).symm) ?_
  show pz_G 217 0 [some (.inr (.inl 154)), none, none, none, none, none] [] (pz_Sh L, pz_u1 (pz_u1 (pz_u1 iv 154 (iv 154)) 155 (iv 155)) 157 (iv 157), dv, cc, ss) (pz_P (pz_Sh L) (.inl (some (.inl 0))) (pz_u1 (pz_u1 (pz_u1 iv 154 (pz_up (iv 154) 0 1)) 155 (q_un (q_pkd (iv 155)) (q_ch (iv 161) 16 (iv 155) (iv 157)).1)) 157 ((q_ch (iv 161) 16 (iv 155) (iv 157)).2)) dv cc ss)
  refine pz_G_of pz_b217_0 ?_
  refine w_loc rfl ?_
  have hc1 : pz_R (pz_Sh L) 219 [.inr (.inl 154)] (pz_u1 (pz_u1 (pz_u1 iv 154 (iv 154)) 155 (iv 155)) 157 (iv 157)) (.inl (some (.inl (q_pkd (iv 155))))) (pz_u1 (pz_u1 (pz_u1 iv 154 (iv 154)) 155 (iv 155)) 157 (iv 157)) := s_X11_packed
  refine w_call hc1 rfl (pz_cokI is_154 rfl) ?_
  refine w_loc (ls' := [some (.inr (.inl 154)), some (.inl (q_pkd (iv 155))), none, none, none, none]) (st' := []) rfl ?_
  refine w_pure rfl ?_
  refine w_loc (ls' := [some (.inr (.inl 154)), some (.inl (q_pkd (iv 155))), some (.inl 0), none, none, none]) (st' := []) rfl ?_
  refine w_nil ?_
  have lp7 : ∀ (dd : Nat) (w : Int) (f : Nat → Int) (d : Nat → Int) (u7_3 : Option pz_V) (hu7_3 : pz_nc u7_3 = true) (u7_4 : Option pz_V) (hu7_4 : pz_nc u7_4 = true) (u7_5 : Option pz_V) (hu7_5 : pz_nc u7_5 = true), (16 - w).toNat = dd → ∀ (hw : 0 ≤ w ∧ w ≤ 16), ∀ (hs : (f, d) = q_ch (iv 161) w (iv 155) (iv 157)), ∀ (hkf : q_KR f),  pz_G 217 7 [some (.inr (.inl 154)), some (.inl (q_pkd (iv 155))), some (.inl w), u7_3, u7_4, u7_5] [] (pz_Sh L, pz_u1 (pz_u1 (pz_u1 iv 154 (iv 154)) 155 f) 157 d, dv, cc, ss) (pz_P (pz_Sh L) (.inl (some (.inl 0))) (pz_u1 (pz_u1 (pz_u1 iv 154 (pz_up (iv 154) 0 1)) 155 (q_un (q_pkd (iv 155)) (q_ch (iv 161) 16 (iv 155) (iv 157)).1)) 157 ((q_ch (iv 161) 16 (iv 155) (iv 157)).2)) dv cc ss) := by
    intro dd7
    induction dd7 using Nat.strongRecOn with
    | _ dd7 ih7 =>
    intro w f d u7_3 hu7_3 u7_4 hu7_4 u7_5 hu7_5 hd7 hw hs hkf
    refine pz_G_of pz_b217_7 ?_
    refine w_loc rfl ?_
    refine w_pure rfl ?_
    refine w_ige (fun h2 => ?_) (fun h2 => ?_)
    · refine pz_G_of pz_b217_131 ?_
      refine w_loc rfl ?_
      refine w_loc rfl ?_
      have hc3 : pz_R (pz_Sh L) 220 [.inr (.inl 154), .inl (q_pkd (iv 155))] (pz_u1 (pz_u1 (pz_u1 iv 154 (iv 154)) 155 f) 157 d) (.inl none) (pz_u1 (pz_u1 (pz_u1 iv 154 (iv 154)) 155 (q_un (q_pkd (iv 155)) f)) 157 d) := pz_R_mem (s_X11_unpacks (q_pkd (iv 155)) (by show 0 ≤ (q_pkd (iv 155)) ∧ (q_pkd (iv 155)) ≤ 624; exact q_pkd_r)) (by rw [pz_u1_in (r := 155) (q := 157) (by decide)]; rw [pz_u1_top (r := 155)]; rfl)
      refine w_callv hc3 rfl (pz_cokI is_154 rfl) ?_
      refine w_loc rfl ?_
      refine w_pure rfl ?_
      have hc4 : pz_R (pz_Sh L) 191 [.inr (.inl 154), .inl 1] (pz_u1 (pz_u1 (pz_u1 iv 154 (iv 154)) 155 (q_un (q_pkd (iv 155)) f)) 157 d) (.inl (some (.inl 0))) (pz_u1 (pz_u1 (pz_u1 iv 154 (pz_up (iv 154) 0 1)) 155 (q_un (q_pkd (iv 155)) f)) 157 d) := pz_R_mem (s_X11_fails 1) (by rw [pz_u1_in (r := 154) (q := 157) (by decide)]; rw [pz_u1_in (r := 154) (q := 155) (by decide)]; rw [pz_u1_top (r := 154)]; rfl)
      refine w_call hc4 rfl (pz_cokI is_154 rfl) ?_
      refine w_ret rfl ?_
      exact lf_i rfl (by rw [← show w = 16 by omega, ← hs])
    · refine w_pure rfl ?_
      refine w_loc (ls' := [some (.inr (.inl 154)), some (.inl (q_pkd (iv 155))), some (.inl w), some (.inl 0), u7_4, u7_5]) (st' := []) rfl ?_
      refine w_pure rfl ?_
      refine w_loc (ls' := [some (.inr (.inl 154)), some (.inl (q_pkd (iv 155))), some (.inl w), some (.inl 0), some (.inl 1), u7_5]) (st' := []) rfl ?_
      refine w_nil ?_
      have lp18 : ∀ (dd : Nat) (t : Int) (l : Int) (u18_5 : Option pz_V) (hu18_5 : pz_nc u18_5 = true), (5 - l).toNat = dd → ∀ (hl : 1 ≤ l ∧ l ≤ 5), ∀ (ht : t = q_fr (q_wayS w) 1 l 0), ∀ (hr : 0 ≤ t ∧ t < q_p2 (l - 1)),  pz_G 217 18 [some (.inr (.inl 154)), some (.inl (q_pkd (iv 155))), some (.inl w), some (.inl t), some (.inl l), u18_5] [] (pz_Sh L, pz_u1 (pz_u1 (pz_u1 iv 154 (iv 154)) 155 f) 157 d, dv, cc, ss) (pz_P (pz_Sh L) (.inl (some (.inl 0))) (pz_u1 (pz_u1 (pz_u1 iv 154 (pz_up (iv 154) 0 1)) 155 (q_un (q_pkd (iv 155)) (q_ch (iv 161) 16 (iv 155) (iv 157)).1)) 157 ((q_ch (iv 161) 16 (iv 155) (iv 157)).2)) dv cc ss) := by
        intro dd18
        induction dd18 using Nat.strongRecOn with
        | _ dd18 ih18 =>
        intro t l u18_5 hu18_5 hd18 hl ht hr
        have hsl := fun h => q_shl_p2 (a := l - 1) (by omega) h
        have hpr := fun h => q_p2_r (a := l - 1) (by omega) h
        have hps : q_p2 (l + 1 - 1) = 2 * q_p2 (l - 1) := by
          rw [show l + 1 - 1 = (l - 1) + 1 by omega]
          exact q_p2_s (by omega)
        refine pz_G_of pz_b217_18 ?_
        refine w_loc rfl ?_
        refine w_pure rfl ?_
        refine w_igt (fun h5 => ?_) (fun h5 => ?_)
        · have htw : t = q_wayT w := by
            rw [ht, show l = 5 by omega]
            rfl
          have hp4 : q_p2 (l - 1) = 16 := by
            rw [show l = 5 by omega]
            decide
          refine pz_G_of pz_b217_54 ?_
          refine w_loc rfl ?_
          refine w_loc rfl ?_
          have hc6 : pz_R (pz_Sh L) 218 [.inr (.inl 154), .inl t] (pz_u1 (pz_u1 (pz_u1 iv 154 (iv 154)) 155 f) 157 d) (.inl (some (.inl (pz_bi (q_fit f t))))) (pz_u1 (pz_u1 (pz_u1 iv 154 (iv 154)) 155 f) 157 d) := s_X11_fitsObserved t
          refine w_call hc6 rfl (pz_cokI is_154 rfl) ?_
          refine w_bne (fun h7 => ?_) (fun h7 => ?_)
          · refine pz_G_of pz_b217_65 ?_
            refine w_loc rfl ?_
            refine w_loc rfl ?_
            refine w_pure rfl ?_
            refine w_loc rfl ?_
            refine w_isub (by omega) ?_
            have hc8 : pz_R (pz_Sh L) 216 [.inr (.inl 154), .inl t, .inl (15 - t)] (pz_u1 (pz_u1 (pz_u1 iv 154 (iv 154)) 155 f) 157 d) (.inl none) (pz_u1 (pz_u1 (pz_u1 iv 154 (iv 154)) 155 (q_sets t (15 - t) f)) 157 d) := pz_R_mem (s_X11_sets t (15 - t)) (by rw [pz_u1_in (r := 155) (q := 157) (by decide)]; rw [pz_u1_top (r := 155)]; rfl)
            refine w_callv hc8 rfl (pz_cokI is_154 rfl) ?_
            refine w_loc rfl ?_
            have hc9 : pz_R (pz_Sh L) 227 [.inr (.inl 154)] (pz_u1 (pz_u1 (pz_u1 iv 154 (iv 154)) 155 (q_sets t (15 - t) f)) 157 d) (.inl (some (.inl (pz_bi (q_con (q_sets t (15 - t) f) (iv 161)))))) (pz_u1 (pz_u1 (pz_u1 iv 154 (iv 154)) 155 (q_sets t (15 - t) f)) 157 (q_dd (q_sets t (15 - t) f) (iv 161) d)) := pz_R_mem (s_X11_isConsistentNow (by show q_KR (q_sets t (15 - t) f); first | exact hk | exact q_KR_sets hkf)) (by rw [pz_u1_top (r := 157)]; rfl)
            refine w_call hc9 rfl (pz_cokI is_154 rfl) ?_
            refine w_beq (fun h10 => ?_) (fun h10 => ?_)
            · refine pz_G_of pz_b217_125 ?_
              refine w_iinc (ls' := [some (.inr (.inl 154)), some (.inl (q_pkd (iv 155))), some (.inl (w + 1)), some (.inl t), some (.inl l), u18_5]) rfl rfl rfl (by omega) ?_
              refine w_goto ?_
              exact ih7 _ (by omega) (w + 1) (q_sets t (15 - t) f) (q_dd (q_sets t (15 - t) f) (iv 161) d) (some (.inl t)) rfl (some (.inl l)) rfl u18_5 hu18_5 rfl (by omega) (by first | exact q_ch_n hw.1 hs htw (by assumption) | exact q_ch_s hw.1 hs htw (by assumption)) (by first | exact hkf | exact q_KR_sets hkf)
            · refine w_pure rfl ?_
              refine w_loc (ls' := [some (.inr (.inl 154)), some (.inl (q_pkd (iv 155))), some (.inl w), some (.inl t), some (.inl 0), u18_5]) (st' := []) rfl ?_
              refine w_pure rfl ?_
              refine w_loc (ls' := [some (.inr (.inl 154)), some (.inl (q_pkd (iv 155))), some (.inl w), some (.inl t), some (.inl 0), some (.inl 1)]) (st' := []) rfl ?_
              refine w_nil ?_
              have lp87 : ∀ (dd : Nat) (n : Int) (y : Int) (u87_1 : Option pz_V) (hu87_1 : pz_nc u87_1 = true) (u87_2 : Option pz_V) (hu87_2 : pz_nc u87_2 = true) (u87_3 : Option pz_V) (hu87_3 : pz_nc u87_3 = true), (5 - y).toNat = dd → ∀ (hy : 1 ≤ y ∧ y ≤ 5), ∀ (hn : n = q_nt (q_sets t (15 - t) f) y), ∀ (hnr : 0 ≤ n ∧ n ≤ y),  pz_G 217 87 [some (.inr (.inl 154)), u87_1, u87_2, u87_3, some (.inl n), some (.inl y)] [] (pz_Sh L, pz_u1 (pz_u1 (pz_u1 iv 154 (iv 154)) 155 (q_sets t (15 - t) f)) 157 (q_dd (q_sets t (15 - t) f) (iv 161) d), dv, cc, ss) (pz_P (pz_Sh L) (.inl (some (.inl 0))) (pz_u1 (pz_u1 (pz_u1 iv 154 (pz_up (iv 154) 0 1)) 155 (q_un (q_pkd (iv 155)) (q_ch (iv 161) 16 (iv 155) (iv 157)).1)) 157 ((q_ch (iv 161) 16 (iv 155) (iv 157)).2)) dv cc ss) := by
                intro dd87
                induction dd87 using Nat.strongRecOn with
                | _ dd87 ih87 =>
                intro n y u87_1 hu87_1 u87_2 hu87_2 u87_3 hu87_3 hd87 hy hn hnr
                refine pz_G_of pz_b217_87 ?_
                refine w_loc rfl ?_
                refine w_pure rfl ?_
                refine w_igt (fun h11 => ?_) (fun h11 => ?_)
                · refine pz_G_of pz_b217_118 ?_
                  refine w_loc rfl ?_
                  refine w_loc rfl ?_
                  have hc12 : pz_R (pz_Sh L) 192 [.inr (.inl 154), .inl n] (pz_u1 (pz_u1 (pz_u1 iv 154 (iv 154)) 155 (q_sets t (15 - t) f)) 157 (q_dd (q_sets t (15 - t) f) (iv 161) d)) (.inl (some (.inl n))) (pz_u1 (pz_u1 (pz_u1 iv 154 (pz_up (iv 154) 0 0)) 155 (q_sets t (15 - t) f)) 157 (q_dd (q_sets t (15 - t) f) (iv 161) d)) := pz_R_mem (s_X11_tells n) (by rw [pz_u1_in (r := 154) (q := 157) (by decide)]; rw [pz_u1_in (r := 154) (q := 155) (by decide)]; rw [pz_u1_top (r := 154)]; rfl)
                  refine w_call hc12 rfl (pz_cokI is_154 rfl) ?_
                  refine w_ret rfl ?_
                  exact absurd (q_chok_t hs htw (by assumption) (by assumption)) (hno w hw.1 (by omega))
                · refine w_loc rfl ?_
                  refine w_loc rfl ?_
                  refine w_loc rfl ?_
                  have hc13 : pz_R (pz_Sh L) 200 [.inr (.inl 154), .inl y] (pz_u1 (pz_u1 (pz_u1 iv 154 (iv 154)) 155 (q_sets t (15 - t) f)) 157 (q_dd (q_sets t (15 - t) f) (iv 161) d)) (.inl (some (.inl (pz_bi (q_tru (q_sets t (15 - t) f) y))))) (pz_u1 (pz_u1 (pz_u1 iv 154 (iv 154)) 155 (q_sets t (15 - t) f)) 157 (q_dd (q_sets t (15 - t) f) (iv 161) d)) := s_X11_isTrue y (by show 0 ≤ y ∧ y ≤ 4; omega)
                  refine w_call hc13 rfl (pz_cokI is_154 rfl) ?_
                  refine w_beq (fun h14 => ?_) (fun h14 => ?_)
                  · refine pz_G_of pz_b217_108 ?_
                    refine w_pure rfl ?_
                    refine w_nil ?_
                    refine pz_G_of pz_b217_109 ?_
                    refine w_iadd (by omega) ?_
                    refine w_st (lc' := [some (.inr (.inl 154)), u87_1, u87_2, u87_3, some (.inl (n + 0)), some (.inl y)]) rfl rfl rfl (Nat.le_of_ble_eq_true rfl) (pz_np_u rfl hu87_3) rfl ?_
                    refine w_iinc (ls' := [some (.inr (.inl 154)), u87_1, u87_2, u87_3, some (.inl (n + 0)), some (.inl (y + 1))]) rfl rfl rfl (by omega) ?_
                    refine w_goto ?_
                    exact ih87 _ (by omega) (n + 0) (y + 1) u87_1 hu87_1 u87_2 hu87_2 u87_3 hu87_3 rfl (by omega) (by rw [q_nt_s (by omega), ← hn]; first | rw [q_if_t (by assumption)] | rw [q_if_f (by assumption)]) (by omega)
                  · refine w_pure rfl ?_
                    refine w_goto ?_
                    refine pz_G_of pz_b217_109 ?_
                    refine w_iadd (by omega) ?_
                    refine w_st (lc' := [some (.inr (.inl 154)), u87_1, u87_2, u87_3, some (.inl (n + 1)), some (.inl y)]) rfl rfl rfl (Nat.le_of_ble_eq_true rfl) (pz_np_u rfl hu87_3) rfl ?_
                    refine w_iinc (ls' := [some (.inr (.inl 154)), u87_1, u87_2, u87_3, some (.inl (n + 1)), some (.inl (y + 1))]) rfl rfl rfl (by omega) ?_
                    refine w_goto ?_
                    exact ih87 _ (by omega) (n + 1) (y + 1) u87_1 hu87_1 u87_2 hu87_2 u87_3 hu87_3 rfl (by omega) (by rw [q_nt_s (by omega), ← hn]; first | rw [q_if_t (by assumption)] | rw [q_if_f (by assumption)]) (by omega)
              exact lp87 _ 0 1 (some (.inl (q_pkd (iv 155)))) rfl (some (.inl w)) rfl (some (.inl t)) rfl rfl (by omega) (by exact q_nt_1) (by omega)
          · refine w_goto ?_
            refine pz_G_of pz_b217_125 ?_
            refine w_iinc (ls' := [some (.inr (.inl 154)), some (.inl (q_pkd (iv 155))), some (.inl (w + 1)), some (.inl t), some (.inl l), u18_5]) rfl rfl rfl (by omega) ?_
            refine w_goto ?_
            exact ih7 _ (by omega) (w + 1) f d (some (.inl t)) rfl (some (.inl l)) rfl u18_5 hu18_5 rfl (by omega) (by first | exact q_ch_n hw.1 hs htw (by assumption) | exact q_ch_s hw.1 hs htw (by assumption)) (by first | exact hkf | exact q_KR_sets hkf)
        · refine w_loc rfl ?_
          refine w_loc rfl ?_
          refine w_pure rfl ?_
          refine w_loc rfl ?_
          refine w_isub (by omega) ?_
          refine w_ishr ?_
          refine w_pure rfl ?_
          refine w_iand ?_
          refine w_zne (fun h15 => ?_) (fun h15 => ?_)
          · refine pz_G_of pz_b217_45 ?_
            refine w_pure rfl ?_
            refine w_nil ?_
            refine pz_G_of pz_b217_46 ?_
            refine w_iadd (by omega) ?_
            refine w_loc (ls' := [some (.inr (.inl 154)), some (.inl (q_pkd (iv 155))), some (.inl w), some (.inl (t + 0)), some (.inl l), u18_5]) (st' := []) rfl ?_
            refine w_iinc (ls' := [some (.inr (.inl 154)), some (.inl (q_pkd (iv 155))), some (.inl w), some (.inl (t + 0)), some (.inl (l + 1)), u18_5]) rfl rfl rfl (by omega) ?_
            refine w_goto ?_
            exact ih18 _ (by omega) (t + 0) (l + 1) u18_5 hu18_5 rfl (by omega) (by rw [q_fr_s (by omega), ← ht]; unfold q_wayS; first | rw [q_if_t (by omega)] | rw [q_if_f (by omega)]) (by omega)
          · refine w_pure rfl ?_
            refine w_loc rfl ?_
            refine w_pure rfl ?_
            refine w_isub (by omega) ?_
            refine w_ishl ?_
            refine w_goto ?_
            refine pz_G_of pz_b217_46 ?_
            refine w_iadd (by omega) ?_
            refine w_loc (ls' := [some (.inr (.inl 154)), some (.inl (q_pkd (iv 155))), some (.inl w), some (.inl (t + (pz_shl 1 (l - 1)))), some (.inl l), u18_5]) (st' := []) rfl ?_
            refine w_iinc (ls' := [some (.inr (.inl 154)), some (.inl (q_pkd (iv 155))), some (.inl w), some (.inl (t + (pz_shl 1 (l - 1)))), some (.inl (l + 1)), u18_5]) rfl rfl rfl (by omega) ?_
            refine w_goto ?_
            exact ih18 _ (by omega) (t + (pz_shl 1 (l - 1))) (l + 1) u18_5 hu18_5 rfl (by omega) (by rw [q_fr_s (by omega), ← ht]; unfold q_wayS; first | rw [q_if_t (by omega)] | rw [q_if_f (by omega)]) (by omega)
      exact lp18 _ 0 1 u7_5 hu7_5 rfl (by omega) (by rw [q_fr_0 (by omega)]) (by exact ⟨by omega, by decide⟩)
  exact lp7 _ 0 (iv 155) (iv 157) (none) rfl (none) rfl (none) rfl rfl (by omega) (by exact (q_fr_0 (by omega)).symm) (by exact hk)

theorem s_X11_choose_0 {L : Nat} {iv : Nat → Nat → Int} (w0 : Int) (h0 : 0 ≤ w0 ∧ w0 < 16) (hno : ∀ w : Int, 0 ≤ w → w < w0 → ¬ q_chok (iv 161) (iv 155) (iv 157) w) (hok : q_chok (iv 161) (iv 155) (iv 157) w0) (hk : q_KR (iv 155)) : pz_R (pz_Sh L) 217 [.inr (.inl 154)] iv (.inl (some (.inl (q_nt (q_ch (iv 161) (w0 + 1) (iv 155) (iv 157)).1 5)))) (pz_u1 (pz_u1 (pz_u1 iv 154 (pz_up (iv 154) 0 0)) 155 ((q_ch (iv 161) (w0 + 1) (iv 155) (iv 157)).1)) 157 ((q_ch (iv 161) (w0 + 1) (iv 155) (iv 157)).2)) := by
  intro dv cc ss
  have hk0 := hk.r0
  refine pz_G_mem (iv2 := pz_u1 (pz_u1 (pz_u1 iv 154 (iv 154)) 155 (iv 155)) 157 (iv 157)) (by exact (((pz_u1_self iv 154).symm).trans (pz_u1_self (pz_u1 iv 154 (iv 154)) 155).symm).trans (pz_u1_self (pz_u1 (pz_u1 iv 154 (iv 154)) 155 (iv 155)) 157).symm) ?_
  show pz_G 217 0 [some (.inr (.inl 154)), none, none, none, none, none] [] (pz_Sh L, pz_u1 (pz_u1 (pz_u1 iv 154 (iv 154)) 155 (iv 155)) 157 (iv 157), dv, cc, ss) (pz_P (pz_Sh L) (.inl (some (.inl (q_nt (q_ch (iv 161) (w0 + 1) (iv 155) (iv 157)).1 5)))) (pz_u1 (pz_u1 (pz_u1 iv 154 (pz_up (iv 154) 0 0)) 155 ((q_ch (iv 161) (w0 + 1) (iv 155) (iv 157)).1)) 157 ((q_ch (iv 161) (w0 + 1) (iv 155) (iv 157)).2)) dv cc ss)
  refine pz_G_of pz_b217_0 ?_
  refine w_loc rfl ?_
  have hc1 : pz_R (pz_Sh L) 219 [.inr (.inl 154)] (pz_u1 (pz_u1 (pz_u1 iv 154 (iv 154)) 155 (iv 155)) 157 (iv 157)) (.inl (some (.inl (q_pkd (iv 155))))) (pz_u1 (pz_u1 (pz_u1 iv 154 (iv 154)) 155 (iv 155)) 157 (iv 157)) := s_X11_packed
  refine w_call hc1 rfl (pz_cokI is_154 rfl) ?_
  refine w_loc (ls' := [some (.inr (.inl 154)), some (.inl (q_pkd (iv 155))), none, none, none, none]) (st' := []) rfl ?_
  refine w_pure rfl ?_
  refine w_loc (ls' := [some (.inr (.inl 154)), some (.inl (q_pkd (iv 155))), some (.inl 0), none, none, none]) (st' := []) rfl ?_
  refine w_nil ?_
  have lp7 : ∀ (dd : Nat) (w : Int) (f : Nat → Int) (d : Nat → Int) (u7_3 : Option pz_V) (hu7_3 : pz_nc u7_3 = true) (u7_4 : Option pz_V) (hu7_4 : pz_nc u7_4 = true) (u7_5 : Option pz_V) (hu7_5 : pz_nc u7_5 = true), (16 - w).toNat = dd → ∀ (hw : 0 ≤ w ∧ w ≤ w0), ∀ (hs : (f, d) = q_ch (iv 161) w (iv 155) (iv 157)), ∀ (hkf : q_KR f),  pz_G 217 7 [some (.inr (.inl 154)), some (.inl (q_pkd (iv 155))), some (.inl w), u7_3, u7_4, u7_5] [] (pz_Sh L, pz_u1 (pz_u1 (pz_u1 iv 154 (iv 154)) 155 f) 157 d, dv, cc, ss) (pz_P (pz_Sh L) (.inl (some (.inl (q_nt (q_ch (iv 161) (w0 + 1) (iv 155) (iv 157)).1 5)))) (pz_u1 (pz_u1 (pz_u1 iv 154 (pz_up (iv 154) 0 0)) 155 ((q_ch (iv 161) (w0 + 1) (iv 155) (iv 157)).1)) 157 ((q_ch (iv 161) (w0 + 1) (iv 155) (iv 157)).2)) dv cc ss) := by
    intro dd7
    induction dd7 using Nat.strongRecOn with
    | _ dd7 ih7 =>
    intro w f d u7_3 hu7_3 u7_4 hu7_4 u7_5 hu7_5 hd7 hw hs hkf
    refine pz_G_of pz_b217_7 ?_
    refine w_loc rfl ?_
    refine w_pure rfl ?_
    refine w_ige (fun h2 => ?_) (fun h2 => ?_)
    · refine pz_G_of pz_b217_131 ?_
      refine w_loc rfl ?_
      refine w_loc rfl ?_
      have hc3 : pz_R (pz_Sh L) 220 [.inr (.inl 154), .inl (q_pkd (iv 155))] (pz_u1 (pz_u1 (pz_u1 iv 154 (iv 154)) 155 f) 157 d) (.inl none) (pz_u1 (pz_u1 (pz_u1 iv 154 (iv 154)) 155 (q_un (q_pkd (iv 155)) f)) 157 d) := pz_R_mem (s_X11_unpacks (q_pkd (iv 155)) (by show 0 ≤ (q_pkd (iv 155)) ∧ (q_pkd (iv 155)) ≤ 624; exact q_pkd_r)) (by rw [pz_u1_in (r := 155) (q := 157) (by decide)]; rw [pz_u1_top (r := 155)]; rfl)
      refine w_callv hc3 rfl (pz_cokI is_154 rfl) ?_
      refine w_loc rfl ?_
      refine w_pure rfl ?_
      have hc4 : pz_R (pz_Sh L) 191 [.inr (.inl 154), .inl 1] (pz_u1 (pz_u1 (pz_u1 iv 154 (iv 154)) 155 (q_un (q_pkd (iv 155)) f)) 157 d) (.inl (some (.inl 0))) (pz_u1 (pz_u1 (pz_u1 iv 154 (pz_up (iv 154) 0 1)) 155 (q_un (q_pkd (iv 155)) f)) 157 d) := pz_R_mem (s_X11_fails 1) (by rw [pz_u1_in (r := 154) (q := 157) (by decide)]; rw [pz_u1_in (r := 154) (q := 155) (by decide)]; rw [pz_u1_top (r := 154)]; rfl)
      refine w_call hc4 rfl (pz_cokI is_154 rfl) ?_
      refine w_ret rfl ?_
      exfalso
      omega
    · refine w_pure rfl ?_
      refine w_loc (ls' := [some (.inr (.inl 154)), some (.inl (q_pkd (iv 155))), some (.inl w), some (.inl 0), u7_4, u7_5]) (st' := []) rfl ?_
      refine w_pure rfl ?_
      refine w_loc (ls' := [some (.inr (.inl 154)), some (.inl (q_pkd (iv 155))), some (.inl w), some (.inl 0), some (.inl 1), u7_5]) (st' := []) rfl ?_
      refine w_nil ?_
      have lp18 : ∀ (dd : Nat) (t : Int) (l : Int) (u18_5 : Option pz_V) (hu18_5 : pz_nc u18_5 = true), (5 - l).toNat = dd → ∀ (hl : 1 ≤ l ∧ l ≤ 5), ∀ (ht : t = q_fr (q_wayS w) 1 l 0), ∀ (hr : 0 ≤ t ∧ t < q_p2 (l - 1)),  pz_G 217 18 [some (.inr (.inl 154)), some (.inl (q_pkd (iv 155))), some (.inl w), some (.inl t), some (.inl l), u18_5] [] (pz_Sh L, pz_u1 (pz_u1 (pz_u1 iv 154 (iv 154)) 155 f) 157 d, dv, cc, ss) (pz_P (pz_Sh L) (.inl (some (.inl (q_nt (q_ch (iv 161) (w0 + 1) (iv 155) (iv 157)).1 5)))) (pz_u1 (pz_u1 (pz_u1 iv 154 (pz_up (iv 154) 0 0)) 155 ((q_ch (iv 161) (w0 + 1) (iv 155) (iv 157)).1)) 157 ((q_ch (iv 161) (w0 + 1) (iv 155) (iv 157)).2)) dv cc ss) := by
        intro dd18
        induction dd18 using Nat.strongRecOn with
        | _ dd18 ih18 =>
        intro t l u18_5 hu18_5 hd18 hl ht hr
        have hsl := fun h => q_shl_p2 (a := l - 1) (by omega) h
        have hpr := fun h => q_p2_r (a := l - 1) (by omega) h
        have hps : q_p2 (l + 1 - 1) = 2 * q_p2 (l - 1) := by
          rw [show l + 1 - 1 = (l - 1) + 1 by omega]
          exact q_p2_s (by omega)
        refine pz_G_of pz_b217_18 ?_
        refine w_loc rfl ?_
        refine w_pure rfl ?_
        refine w_igt (fun h5 => ?_) (fun h5 => ?_)
        · have htw : t = q_wayT w := by
            rw [ht, show l = 5 by omega]
            rfl
          have hp4 : q_p2 (l - 1) = 16 := by
            rw [show l = 5 by omega]
            decide
          refine pz_G_of pz_b217_54 ?_
          refine w_loc rfl ?_
          refine w_loc rfl ?_
          have hc6 : pz_R (pz_Sh L) 218 [.inr (.inl 154), .inl t] (pz_u1 (pz_u1 (pz_u1 iv 154 (iv 154)) 155 f) 157 d) (.inl (some (.inl (pz_bi (q_fit f t))))) (pz_u1 (pz_u1 (pz_u1 iv 154 (iv 154)) 155 f) 157 d) := s_X11_fitsObserved t
          refine w_call hc6 rfl (pz_cokI is_154 rfl) ?_
          refine w_bne (fun h7 => ?_) (fun h7 => ?_)
          · refine pz_G_of pz_b217_65 ?_
            refine w_loc rfl ?_
            refine w_loc rfl ?_
            refine w_pure rfl ?_
            refine w_loc rfl ?_
            refine w_isub (by omega) ?_
            have hc8 : pz_R (pz_Sh L) 216 [.inr (.inl 154), .inl t, .inl (15 - t)] (pz_u1 (pz_u1 (pz_u1 iv 154 (iv 154)) 155 f) 157 d) (.inl none) (pz_u1 (pz_u1 (pz_u1 iv 154 (iv 154)) 155 (q_sets t (15 - t) f)) 157 d) := pz_R_mem (s_X11_sets t (15 - t)) (by rw [pz_u1_in (r := 155) (q := 157) (by decide)]; rw [pz_u1_top (r := 155)]; rfl)
            refine w_callv hc8 rfl (pz_cokI is_154 rfl) ?_
            refine w_loc rfl ?_
            have hc9 : pz_R (pz_Sh L) 227 [.inr (.inl 154)] (pz_u1 (pz_u1 (pz_u1 iv 154 (iv 154)) 155 (q_sets t (15 - t) f)) 157 d) (.inl (some (.inl (pz_bi (q_con (q_sets t (15 - t) f) (iv 161)))))) (pz_u1 (pz_u1 (pz_u1 iv 154 (iv 154)) 155 (q_sets t (15 - t) f)) 157 (q_dd (q_sets t (15 - t) f) (iv 161) d)) := pz_R_mem (s_X11_isConsistentNow (by show q_KR (q_sets t (15 - t) f); first | exact hk | exact q_KR_sets hkf)) (by rw [pz_u1_top (r := 157)]; rfl)
            refine w_call hc9 rfl (pz_cokI is_154 rfl) ?_
            refine w_beq (fun h10 => ?_) (fun h10 => ?_)
            · refine pz_G_of pz_b217_125 ?_
              refine w_iinc (ls' := [some (.inr (.inl 154)), some (.inl (q_pkd (iv 155))), some (.inl (w + 1)), some (.inl t), some (.inl l), u18_5]) rfl rfl rfl (by omega) ?_
              refine w_goto ?_
              exact ih7 _ (by omega) (w + 1) (q_sets t (15 - t) f) (q_dd (q_sets t (15 - t) f) (iv 161) d) (some (.inl t)) rfl (some (.inl l)) rfl u18_5 hu18_5 rfl (by (have hq : w ≠ w0 := by intro hq; subst hq; first | exact absurd (q_chok_t hs htw (by assumption) (by assumption)) (by assumption) | (obtain ⟨hq1, hq2⟩ := hok; rw [← hs] at hq1 hq2; rw [← htw] at hq1 hq2; first | exact absurd hq1 (by assumption) | exact absurd hq2 (by assumption))); omega) (by first | exact q_ch_n hw.1 hs htw (by assumption) | exact q_ch_s hw.1 hs htw (by assumption)) (by first | exact hkf | exact q_KR_sets hkf)
            · refine w_pure rfl ?_
              refine w_loc (ls' := [some (.inr (.inl 154)), some (.inl (q_pkd (iv 155))), some (.inl w), some (.inl t), some (.inl 0), u18_5]) (st' := []) rfl ?_
              refine w_pure rfl ?_
              refine w_loc (ls' := [some (.inr (.inl 154)), some (.inl (q_pkd (iv 155))), some (.inl w), some (.inl t), some (.inl 0), some (.inl 1)]) (st' := []) rfl ?_
              refine w_nil ?_
              have lp87 : ∀ (dd : Nat) (n : Int) (y : Int) (u87_1 : Option pz_V) (hu87_1 : pz_nc u87_1 = true) (u87_2 : Option pz_V) (hu87_2 : pz_nc u87_2 = true) (u87_3 : Option pz_V) (hu87_3 : pz_nc u87_3 = true), (5 - y).toNat = dd → ∀ (hy : 1 ≤ y ∧ y ≤ 5), ∀ (hn : n = q_nt (q_sets t (15 - t) f) y), ∀ (hnr : 0 ≤ n ∧ n ≤ y),  pz_G 217 87 [some (.inr (.inl 154)), u87_1, u87_2, u87_3, some (.inl n), some (.inl y)] [] (pz_Sh L, pz_u1 (pz_u1 (pz_u1 iv 154 (iv 154)) 155 (q_sets t (15 - t) f)) 157 (q_dd (q_sets t (15 - t) f) (iv 161) d), dv, cc, ss) (pz_P (pz_Sh L) (.inl (some (.inl (q_nt (q_ch (iv 161) (w0 + 1) (iv 155) (iv 157)).1 5)))) (pz_u1 (pz_u1 (pz_u1 iv 154 (pz_up (iv 154) 0 0)) 155 ((q_ch (iv 161) (w0 + 1) (iv 155) (iv 157)).1)) 157 ((q_ch (iv 161) (w0 + 1) (iv 155) (iv 157)).2)) dv cc ss) := by
                intro dd87
                induction dd87 using Nat.strongRecOn with
                | _ dd87 ih87 =>
                intro n y u87_1 hu87_1 u87_2 hu87_2 u87_3 hu87_3 hd87 hy hn hnr
                refine pz_G_of pz_b217_87 ?_
                refine w_loc rfl ?_
                refine w_pure rfl ?_
                refine w_igt (fun h11 => ?_) (fun h11 => ?_)
                · refine pz_G_of pz_b217_118 ?_
                  refine w_loc rfl ?_
                  refine w_loc rfl ?_
                  have hc12 : pz_R (pz_Sh L) 192 [.inr (.inl 154), .inl n] (pz_u1 (pz_u1 (pz_u1 iv 154 (iv 154)) 155 (q_sets t (15 - t) f)) 157 (q_dd (q_sets t (15 - t) f) (iv 161) d)) (.inl (some (.inl n))) (pz_u1 (pz_u1 (pz_u1 iv 154 (pz_up (iv 154) 0 0)) 155 (q_sets t (15 - t) f)) 157 (q_dd (q_sets t (15 - t) f) (iv 161) d)) := pz_R_mem (s_X11_tells n) (by rw [pz_u1_in (r := 154) (q := 157) (by decide)]; rw [pz_u1_in (r := 154) (q := 155) (by decide)]; rw [pz_u1_top (r := 154)]; rfl)
                  refine w_call hc12 rfl (pz_cokI is_154 rfl) ?_
                  refine w_ret rfl ?_
                  have hq : w = w0 := by
                    rcases Int.lt_or_le w w0 with hq | hq
                    · exact absurd (q_chok_t hs htw (by assumption) (by assumption)) (hno w hw.1 hq)
                    · omega
                  have hst := q_ch_s hw.1 hs htw (by assumption)
                  subst hq
                  exact lf_i (by rw [← hst, hn, show y = 5 by omega]) (by rw [← hst])
                · refine w_loc rfl ?_
                  refine w_loc rfl ?_
                  refine w_loc rfl ?_
                  have hc13 : pz_R (pz_Sh L) 200 [.inr (.inl 154), .inl y] (pz_u1 (pz_u1 (pz_u1 iv 154 (iv 154)) 155 (q_sets t (15 - t) f)) 157 (q_dd (q_sets t (15 - t) f) (iv 161) d)) (.inl (some (.inl (pz_bi (q_tru (q_sets t (15 - t) f) y))))) (pz_u1 (pz_u1 (pz_u1 iv 154 (iv 154)) 155 (q_sets t (15 - t) f)) 157 (q_dd (q_sets t (15 - t) f) (iv 161) d)) := s_X11_isTrue y (by show 0 ≤ y ∧ y ≤ 4; omega)
                  refine w_call hc13 rfl (pz_cokI is_154 rfl) ?_
                  refine w_beq (fun h14 => ?_) (fun h14 => ?_)
                  · refine pz_G_of pz_b217_108 ?_
                    refine w_pure rfl ?_
                    refine w_nil ?_
                    refine pz_G_of pz_b217_109 ?_
                    refine w_iadd (by omega) ?_
                    refine w_st (lc' := [some (.inr (.inl 154)), u87_1, u87_2, u87_3, some (.inl (n + 0)), some (.inl y)]) rfl rfl rfl (Nat.le_of_ble_eq_true rfl) (pz_np_u rfl hu87_3) rfl ?_
                    refine w_iinc (ls' := [some (.inr (.inl 154)), u87_1, u87_2, u87_3, some (.inl (n + 0)), some (.inl (y + 1))]) rfl rfl rfl (by omega) ?_
                    refine w_goto ?_
                    exact ih87 _ (by omega) (n + 0) (y + 1) u87_1 hu87_1 u87_2 hu87_2 u87_3 hu87_3 rfl (by omega) (by rw [q_nt_s (by omega), ← hn]; first | rw [q_if_t (by assumption)] | rw [q_if_f (by assumption)]) (by omega)
                  · refine w_pure rfl ?_
                    refine w_goto ?_
                    refine pz_G_of pz_b217_109 ?_
                    refine w_iadd (by omega) ?_
                    refine w_st (lc' := [some (.inr (.inl 154)), u87_1, u87_2, u87_3, some (.inl (n + 1)), some (.inl y)]) rfl rfl rfl (Nat.le_of_ble_eq_true rfl) (pz_np_u rfl hu87_3) rfl ?_
                    refine w_iinc (ls' := [some (.inr (.inl 154)), u87_1, u87_2, u87_3, some (.inl (n + 1)), some (.inl (y + 1))]) rfl rfl rfl (by omega) ?_
                    refine w_goto ?_
                    exact ih87 _ (by omega) (n + 1) (y + 1) u87_1 hu87_1 u87_2 hu87_2 u87_3 hu87_3 rfl (by omega) (by rw [q_nt_s (by omega), ← hn]; first | rw [q_if_t (by assumption)] | rw [q_if_f (by assumption)]) (by omega)
              exact lp87 _ 0 1 (some (.inl (q_pkd (iv 155)))) rfl (some (.inl w)) rfl (some (.inl t)) rfl rfl (by omega) (by exact q_nt_1) (by omega)
          · refine w_goto ?_
            refine pz_G_of pz_b217_125 ?_
            refine w_iinc (ls' := [some (.inr (.inl 154)), some (.inl (q_pkd (iv 155))), some (.inl (w + 1)), some (.inl t), some (.inl l), u18_5]) rfl rfl rfl (by omega) ?_
            refine w_goto ?_
            exact ih7 _ (by omega) (w + 1) f d (some (.inl t)) rfl (some (.inl l)) rfl u18_5 hu18_5 rfl (by (have hq : w ≠ w0 := by intro hq; subst hq; first | exact absurd (q_chok_t hs htw (by assumption) (by assumption)) (by assumption) | (obtain ⟨hq1, hq2⟩ := hok; rw [← hs] at hq1 hq2; rw [← htw] at hq1 hq2; first | exact absurd hq1 (by assumption) | exact absurd hq2 (by assumption))); omega) (by first | exact q_ch_n hw.1 hs htw (by assumption) | exact q_ch_s hw.1 hs htw (by assumption)) (by first | exact hkf | exact q_KR_sets hkf)
        · refine w_loc rfl ?_
          refine w_loc rfl ?_
          refine w_pure rfl ?_
          refine w_loc rfl ?_
          refine w_isub (by omega) ?_
          refine w_ishr ?_
          refine w_pure rfl ?_
          refine w_iand ?_
          refine w_zne (fun h15 => ?_) (fun h15 => ?_)
          · refine pz_G_of pz_b217_45 ?_
            refine w_pure rfl ?_
            refine w_nil ?_
            refine pz_G_of pz_b217_46 ?_
            refine w_iadd (by omega) ?_
            refine w_loc (ls' := [some (.inr (.inl 154)), some (.inl (q_pkd (iv 155))), some (.inl w), some (.inl (t + 0)), some (.inl l), u18_5]) (st' := []) rfl ?_
            refine w_iinc (ls' := [some (.inr (.inl 154)), some (.inl (q_pkd (iv 155))), some (.inl w), some (.inl (t + 0)), some (.inl (l + 1)), u18_5]) rfl rfl rfl (by omega) ?_
            refine w_goto ?_
            exact ih18 _ (by omega) (t + 0) (l + 1) u18_5 hu18_5 rfl (by omega) (by rw [q_fr_s (by omega), ← ht]; unfold q_wayS; first | rw [q_if_t (by omega)] | rw [q_if_f (by omega)]) (by omega)
          · refine w_pure rfl ?_
            refine w_loc rfl ?_
            refine w_pure rfl ?_
            refine w_isub (by omega) ?_
            refine w_ishl ?_
            refine w_goto ?_
            refine pz_G_of pz_b217_46 ?_
            refine w_iadd (by omega) ?_
            refine w_loc (ls' := [some (.inr (.inl 154)), some (.inl (q_pkd (iv 155))), some (.inl w), some (.inl (t + (pz_shl 1 (l - 1)))), some (.inl l), u18_5]) (st' := []) rfl ?_
            refine w_iinc (ls' := [some (.inr (.inl 154)), some (.inl (q_pkd (iv 155))), some (.inl w), some (.inl (t + (pz_shl 1 (l - 1)))), some (.inl (l + 1)), u18_5]) rfl rfl rfl (by omega) ?_
            refine w_goto ?_
            exact ih18 _ (by omega) (t + (pz_shl 1 (l - 1))) (l + 1) u18_5 hu18_5 rfl (by omega) (by rw [q_fr_s (by omega), ← ht]; unfold q_wayS; first | rw [q_if_t (by omega)] | rw [q_if_f (by omega)]) (by omega)
      exact lp18 _ 0 1 u7_5 hu7_5 rfl (by omega) (by rw [q_fr_0 (by omega)]) (by exact ⟨by omega, by decide⟩)
  exact lp7 _ 0 (iv 155) (iv 157) (none) rfl (none) rfl (none) rfl rfl (by omega) (by exact (q_fr_0 (by omega)).symm) (by exact hk)
