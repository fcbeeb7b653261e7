
theorem s_X11_closes_t {L : Nat} {iv : Nat → Nat → Int} (hcb : q_cb (iv 157)) (hok : q_ok (iv 157)) : pz_R (pz_Sh L) 226 [.inr (.inl 154)] iv (.inl (some (.inl 1))) (pz_u1 iv 157 (q_ps 10 (iv 157))) := by
  intro dv cc ss
  refine pz_G_mem (iv2 := pz_u1 iv 157 (iv 157)) (by exact (pz_u1_self iv 157).symm) ?_
  show pz_G 226 0 [some (.inr (.inl 154)), none, none, none] [] (pz_Sh L, pz_u1 iv 157 (iv 157), dv, cc, ss) (pz_P (pz_Sh L) (.inl (some (.inl 1))) (pz_u1 iv 157 (q_ps 10 (iv 157))) dv cc ss)
  refine pz_G_of pz_b226_0 ?_
  refine w_pure rfl ?_
  refine w_loc (ls' := [some (.inr (.inl 154)), some (.inl 0), none, none]) (st' := []) rfl ?_
  refine w_nil ?_
  have lp2 : ∀ (dd : Nat) (c : Int) (f1 : Nat → Int) (u2_2 : Option pz_V) (hu2_2 : pz_nc u2_2 = true) (u2_3 : Option pz_V) (hu2_3 : pz_nc u2_3 = true), (10 - c).toNat = dd → ∀ (hc : 0 ≤ c ∧ c ≤ 10), ∀ (hf1 : f1 = q_ps c (iv 157)),  pz_G 226 2 [some (.inr (.inl 154)), some (.inl c), u2_2, u2_3] [] (pz_Sh L, pz_u1 iv 157 f1, dv, cc, ss) (pz_P (pz_Sh L) (.inl (some (.inl 1))) (pz_u1 iv 157 (q_ps 10 (iv 157))) dv cc ss) := by
    intro dd2
    induction dd2 using Nat.strongRecOn with
    | _ dd2 ih2 =>
    intro c f1 u2_2 hu2_2 u2_3 hu2_3 hd2 hc hf1
    refine pz_G_of pz_b226_2 ?_
    refine w_loc rfl ?_
    refine w_pure rfl ?_
    refine w_ige (fun h1 => ?_) (fun h1 => ?_)
    · refine pz_G_of pz_b226_131 ?_
      refine w_pure rfl ?_
      refine w_ret (pz_rok1 (Or.inr rfl)) ?_
      exact lf_i rfl (by rw [hf1, show c = 10 by omega])
    · refine w_pure rfl ?_
      refine w_loc (ls' := [some (.inr (.inl 154)), some (.inl c), some (.inl 0), u2_3]) (st' := []) rfl ?_
      refine w_nil ?_
      have lp10 : ∀ (dd : Nat) (i : Int) (f2 : Nat → Int) (u10_3 : Option pz_V) (hu10_3 : pz_nc u10_3 = true), (10 - i).toNat = dd → ∀ (hi : 0 ≤ i ∧ i ≤ 10), ∀ (hf2 : f2 = q_fr (q_i c) 0 i (q_ps c (iv 157))),  pz_G 226 10 [some (.inr (.inl 154)), some (.inl c), some (.inl i), u10_3] [] (pz_Sh L, pz_u1 iv 157 f2, dv, cc, ss) (pz_P (pz_Sh L) (.inl (some (.inl 1))) (pz_u1 iv 157 (q_ps 10 (iv 157))) dv cc ss) := by
        intro dd10
        induction dd10 using Nat.strongRecOn with
        | _ dd10 ih10 =>
        intro i f2 u10_3 hu10_3 hd10 hi hf2
        refine pz_G_of pz_b226_10 ?_
        refine w_loc rfl ?_
        refine w_pure rfl ?_
        refine w_ige (fun h2 => ?_) (fun h2 => ?_)
        · refine pz_G_of pz_b226_97 ?_
          refine w_pure rfl ?_
          refine w_loc (ls' := [some (.inr (.inl 154)), some (.inl c), some (.inl 0), u10_3]) (st' := []) rfl ?_
          refine w_nil ?_
          have lp99 : ∀ (dd : Nat) (i9 : Int) (u99_3 : Option pz_V) (hu99_3 : pz_nc u99_3 = true), (10 - i9).toNat = dd → ∀ (hi9 : 0 ≤ i9 ∧ i9 ≤ 10), ∀ (hrow : f2 = q_ps (c + 1) (iv 157)),  pz_G 226 99 [some (.inr (.inl 154)), some (.inl c), some (.inl i9), u99_3] [] (pz_Sh L, pz_u1 iv 157 f2, dv, cc, ss) (pz_P (pz_Sh L) (.inl (some (.inl 1))) (pz_u1 iv 157 (q_ps 10 (iv 157))) dv cc ss) := by
            intro dd99
            induction dd99 using Nat.strongRecOn with
            | _ dd99 ih99 =>
            intro i9 u99_3 hu99_3 hd99 hi9 hrow
            refine pz_G_of pz_b226_99 ?_
            refine w_loc rfl ?_
            refine w_pure rfl ?_
            refine w_ige (fun h3 => ?_) (fun h3 => ?_)
            · refine pz_G_of pz_b226_125 ?_
              refine w_iinc (ls' := [some (.inr (.inl 154)), some (.inl (c + 1)), some (.inl i9), u99_3]) rfl rfl rfl (by omega) ?_
              refine w_goto ?_
              exact ih2 _ (by omega) (c + 1) f2 (some (.inl i9)) rfl u99_3 hu99_3 rfl (by omega) (by exact hrow)
            · refine w_loc rfl ?_
              refine w_getR (q := 157) is_154 rf_154_4 ?_
              refine w_pure rfl ?_
              refine w_loc rfl ?_
              refine w_imul (by omega) ?_
              refine w_iald (v := f2 (11 * i9).toNat) is_157 ln_157 ⟨by omega, by omega⟩ rfl ?_
              refine w_zge (fun h4 => ?_) (fun h4 => ?_)
              · refine pz_G_of pz_b226_119 ?_
                refine w_iinc (ls' := [some (.inr (.inl 154)), some (.inl c), some (.inl (i9 + 1)), u99_3]) rfl rfl rfl (by omega) ?_
                refine w_goto ?_
                exact ih99 _ (by omega) (i9 + 1) u99_3 hu99_3 rfl (by omega) (by exact hrow)
              · refine w_pure rfl ?_
                refine w_ret (pz_rok1 (Or.inl rfl)) ?_
                exfalso
                have hd9 := hok c hc.1 (by omega) i9 hi9.1 (by omega)
                rw [← hrow] at hd9
                omega
          exact lp99 _ 0 u10_3 hu10_3 rfl (by omega) (by rw [q_ps_s hc.1, hf2, show i = 10 by omega]; rfl)
        · refine w_pure rfl ?_
          refine w_loc (ls' := [some (.inr (.inl 154)), some (.inl c), some (.inl i), some (.inl 0)]) (st' := []) rfl ?_
          refine w_nil ?_
          have lp18 : ∀ (dd : Nat) (j : Int) (f3 : Nat → Int) , (10 - j).toNat = dd → ∀ (hj : 0 ≤ j ∧ j ≤ 10), ∀ (hf3 : f3 = q_at (iv 157) c i j),  pz_G 226 18 [some (.inr (.inl 154)), some (.inl c), some (.inl i), some (.inl j)] [] (pz_Sh L, pz_u1 iv 157 f3, dv, cc, ss) (pz_P (pz_Sh L) (.inl (some (.inl 1))) (pz_u1 iv 157 (q_ps 10 (iv 157))) dv cc ss) := by
            intro dd18
            induction dd18 using Nat.strongRecOn with
            | _ dd18 ih18 =>
            intro j f3  hd18 hj hf3
            have hb3 : j ≤ 9 → -1000000000 ≤ f3 (10 * i + c).toNat ∧ -1000000000 ≤ f3 (10 * c + j).toNat := by rw [hf3]; exact fun h => hcb c i j hc.1 (by omega) (fun c1 g1 g2 => hok c1 g1 (by omega)) hi.1 (by omega) hj.1 h
            refine pz_G_of pz_b226_18 ?_
            refine w_loc rfl ?_
            refine w_pure rfl ?_
            refine w_ige (fun h5 => ?_) (fun h5 => ?_)
            · refine pz_G_of pz_b226_91 ?_
              refine w_iinc (ls' := [some (.inr (.inl 154)), some (.inl c), some (.inl (i + 1)), some (.inl j)]) rfl rfl rfl (by omega) ?_
              refine w_goto ?_
              exact ih10 _ (by omega) (i + 1) f3 (some (.inl j)) rfl rfl (by omega) (by rw [q_fr_s (by omega), hf3, show j = 10 by omega]; rfl)
            · refine w_loc rfl ?_
              refine w_getR (q := 157) is_154 rf_154_4 ?_
              refine w_pure rfl ?_
              refine w_loc rfl ?_
              refine w_imul (by omega) ?_
              refine w_loc rfl ?_
              refine w_iadd (by omega) ?_
              refine w_iald (v := f3 ((10 * i) + c).toNat) is_157 ln_157 ⟨by omega, by omega⟩ rfl ?_
              refine w_ldcv (v := 1000000) rfl ?_
              refine w_ige (fun h6 => ?_) (fun h6 => ?_)
              · refine pz_G_of pz_b226_85 ?_
                refine w_iinc (ls' := [some (.inr (.inl 154)), some (.inl c), some (.inl i), some (.inl (j + 1))]) rfl rfl rfl (by omega) ?_
                refine w_goto ?_
                exact ih18 _ (by omega) (j + 1) f3  rfl (by omega) (by show _ = q_fr (q_j c i) 0 (j + 1) _; rw [q_fr_s (by omega)]; show _ = q_j c i j (q_at (iv 157) c i j); rw [← hf3]; unfold q_j; first | rw [q_if_t (by omega)] | rw [q_if_f (by omega)])
              · refine w_loc rfl ?_
                refine w_getR (q := 157) is_154 rf_154_4 ?_
                refine w_pure rfl ?_
                refine w_loc rfl ?_
                refine w_imul (by omega) ?_
                refine w_loc rfl ?_
                refine w_iadd (by omega) ?_
                refine w_iald (v := f3 ((10 * c) + j).toNat) is_157 ln_157 ⟨by omega, by omega⟩ rfl ?_
                refine w_ldcv (v := 1000000) rfl ?_
                refine w_ige (fun h7 => ?_) (fun h7 => ?_)
                · refine pz_G_of pz_b226_85 ?_
                  refine w_iinc (ls' := [some (.inr (.inl 154)), some (.inl c), some (.inl i), some (.inl (j + 1))]) rfl rfl rfl (by omega) ?_
                  refine w_goto ?_
                  exact ih18 _ (by omega) (j + 1) f3  rfl (by omega) (by show _ = q_fr (q_j c i) 0 (j + 1) _; rw [q_fr_s (by omega)]; show _ = q_j c i j (q_at (iv 157) c i j); rw [← hf3]; unfold q_j; first | rw [q_if_t (by omega)] | rw [q_if_f (by omega)])
                · refine w_loc rfl ?_
                  refine w_loc rfl ?_
                  refine w_loc rfl ?_
                  refine w_loc rfl ?_
                  refine w_getR (q := 157) is_154 rf_154_4 ?_
                  refine w_pure rfl ?_
                  refine w_loc rfl ?_
                  refine w_imul (by omega) ?_
                  refine w_loc rfl ?_
                  refine w_iadd (by omega) ?_
                  refine w_iald (v := f3 ((10 * i) + c).toNat) is_157 ln_157 ⟨by omega, by omega⟩ rfl ?_
                  refine w_loc rfl ?_
                  refine w_getR (q := 157) is_154 rf_154_4 ?_
                  refine w_pure rfl ?_
                  refine w_loc rfl ?_
                  refine w_imul (by omega) ?_
                  refine w_loc rfl ?_
                  refine w_iadd (by omega) ?_
                  refine w_iald (v := f3 ((10 * c) + j).toNat) is_157 ln_157 ⟨by omega, by omega⟩ rfl ?_
                  refine w_iadd (by omega) ?_
                  have hc8 : pz_R (pz_Sh L) 224 [.inr (.inl 154), .inl i, .inl j, .inl ((f3 ((10 * i) + c).toNat) + (f3 ((10 * c) + j).toNat))] (pz_u1 iv 157 f3) (.inl none) (pz_u1 iv 157 (q_eg f3 i j ((f3 ((10 * i) + c).toNat) + (f3 ((10 * c) + j).toNat)))) := pz_R_mem (s_X11_edge i j ((f3 ((10 * i) + c).toNat) + (f3 ((10 * c) + j).toNat)) (by show 0 ≤ i ∧ i ≤ 9; omega) (by show 0 ≤ j ∧ j ≤ 9; omega)) (by rw [pz_u1_top (r := 157)]; rfl)
                  refine w_callv hc8 rfl (pz_cokI is_154 rfl) ?_
                  refine w_nil ?_
                  refine pz_G_of pz_b226_85 ?_
                  refine w_iinc (ls' := [some (.inr (.inl 154)), some (.inl c), some (.inl i), some (.inl (j + 1))]) rfl rfl rfl (by omega) ?_
                  refine w_goto ?_
                  exact ih18 _ (by omega) (j + 1) (q_eg f3 i j ((f3 ((10 * i) + c).toNat) + (f3 ((10 * c) + j).toNat)))  rfl (by omega) (by show _ = q_fr (q_j c i) 0 (j + 1) _; rw [q_fr_s (by omega)]; show _ = q_j c i j (q_at (iv 157) c i j); rw [← hf3]; unfold q_j; first | rw [q_if_t (by omega)] | rw [q_if_f (by omega)])
          exact lp18 _ 0 f2  rfl (by omega) (by unfold q_at; rw [q_fr_0 (by omega)]; exact hf2)
      exact lp10 _ 0 f1 u2_3 hu2_3 rfl (by omega) (by rw [q_fr_0 (by omega)]; exact hf1)
  exact lp2 _ 0 (iv 157) (none) rfl (none) rfl rfl (by omega) (by exact (q_fr_0 (by omega)).symm)

theorem s_X11_closes_f {L : Nat} {iv : Nat → Nat → Int} (hcb : q_cb (iv 157)) (c0 : Int) (h0 : 0 ≤ c0 ∧ c0 < 10) (hlt : ∀ c1 : Int, 0 ≤ c1 → c1 < c0 → q_dg (q_ps (c1 + 1) (iv 157))) (hn : ¬ q_dg (q_ps (c0 + 1) (iv 157))) : pz_R (pz_Sh L) 226 [.inr (.inl 154)] iv (.inl (some (.inl 0))) (pz_u1 iv 157 (q_ps (c0 + 1) (iv 157))) := by
  intro dv cc ss
  refine pz_G_mem (iv2 := pz_u1 iv 157 (iv 157)) (by exact (pz_u1_self iv 157).symm) ?_
  show pz_G 226 0 [some (.inr (.inl 154)), none, none, none] [] (pz_Sh L, pz_u1 iv 157 (iv 157), dv, cc, ss) (pz_P (pz_Sh L) (.inl (some (.inl 0))) (pz_u1 iv 157 (q_ps (c0 + 1) (iv 157))) dv cc ss)
  refine pz_G_of pz_b226_0 ?_
  refine w_pure rfl ?_
  refine w_loc (ls' := [some (.inr (.inl 154)), some (.inl 0), none, none]) (st' := []) rfl ?_
  refine w_nil ?_
  have lp2 : ∀ (dd : Nat) (c : Int) (f1 : Nat → Int) (u2_2 : Option pz_V) (hu2_2 : pz_nc u2_2 = true) (u2_3 : Option pz_V) (hu2_3 : pz_nc u2_3 = true), (10 - c).toNat = dd → ∀ (hc : 0 ≤ c ∧ c ≤ 10), ∀ (hf1 : f1 = q_ps c (iv 157)), ∀ (hcc : c ≤ c0),  pz_G 226 2 [some (.inr (.inl 154)), some (.inl c), u2_2, u2_3] [] (pz_Sh L, pz_u1 iv 157 f1, dv, cc, ss) (pz_P (pz_Sh L) (.inl (some (.inl 0))) (pz_u1 iv 157 (q_ps (c0 + 1) (iv 157))) dv cc ss) := by
    intro dd2
    induction dd2 using Nat.strongRecOn with
    | _ dd2 ih2 =>
    intro c f1 u2_2 hu2_2 u2_3 hu2_3 hd2 hc hf1 hcc
    refine pz_G_of pz_b226_2 ?_
    refine w_loc rfl ?_
    refine w_pure rfl ?_
    refine w_ige (fun h1 => ?_) (fun h1 => ?_)
    · refine pz_G_of pz_b226_131 ?_
      refine w_pure rfl ?_
      refine w_ret (pz_rok1 (Or.inr rfl)) ?_
      exfalso
      omega
    · refine w_pure rfl ?_
      refine w_loc (ls' := [some (.inr (.inl 154)), some (.inl c), some (.inl 0), u2_3]) (st' := []) rfl ?_
      refine w_nil ?_
      have lp10 : ∀ (dd : Nat) (i : Int) (f2 : Nat → Int) (u10_3 : Option pz_V) (hu10_3 : pz_nc u10_3 = true), (10 - i).toNat = dd → ∀ (hi : 0 ≤ i ∧ i ≤ 10), ∀ (hf2 : f2 = q_fr (q_i c) 0 i (q_ps c (iv 157))),  pz_G 226 10 [some (.inr (.inl 154)), some (.inl c), some (.inl i), u10_3] [] (pz_Sh L, pz_u1 iv 157 f2, dv, cc, ss) (pz_P (pz_Sh L) (.inl (some (.inl 0))) (pz_u1 iv 157 (q_ps (c0 + 1) (iv 157))) dv cc ss) := by
        intro dd10
        induction dd10 using Nat.strongRecOn with
        | _ dd10 ih10 =>
        intro i f2 u10_3 hu10_3 hd10 hi hf2
        refine pz_G_of pz_b226_10 ?_
        refine w_loc rfl ?_
        refine w_pure rfl ?_
        refine w_ige (fun h2 => ?_) (fun h2 => ?_)
        · refine pz_G_of pz_b226_97 ?_
          refine w_pure rfl ?_
          refine w_loc (ls' := [some (.inr (.inl 154)), some (.inl c), some (.inl 0), u10_3]) (st' := []) rfl ?_
          refine w_nil ?_
          have lp99 : ∀ (dd : Nat) (i9 : Int) (u99_3 : Option pz_V) (hu99_3 : pz_nc u99_3 = true), (10 - i9).toNat = dd → ∀ (hi9 : 0 ≤ i9 ∧ i9 ≤ 10), ∀ (hrow : f2 = q_ps (c + 1) (iv 157)), ∀ (hdi : ∀ i2 : Int, 0 ≤ i2 → i2 < i9 → 0 ≤ f2 (11 * i2).toNat),  pz_G 226 99 [some (.inr (.inl 154)), some (.inl c), some (.inl i9), u99_3] [] (pz_Sh L, pz_u1 iv 157 f2, dv, cc, ss) (pz_P (pz_Sh L) (.inl (some (.inl 0))) (pz_u1 iv 157 (q_ps (c0 + 1) (iv 157))) dv cc ss) := by
            intro dd99
            induction dd99 using Nat.strongRecOn with
            | _ dd99 ih99 =>
            intro i9 u99_3 hu99_3 hd99 hi9 hrow hdi
            refine pz_G_of pz_b226_99 ?_
            refine w_loc rfl ?_
            refine w_pure rfl ?_
            refine w_ige (fun h3 => ?_) (fun h3 => ?_)
            · refine pz_G_of pz_b226_125 ?_
              refine w_iinc (ls' := [some (.inr (.inl 154)), some (.inl (c + 1)), some (.inl i9), u99_3]) rfl rfl rfl (by omega) ?_
              refine w_goto ?_
              exact ih2 _ (by omega) (c + 1) f2 (some (.inl i9)) rfl u99_3 hu99_3 rfl (by omega) (by exact hrow) (by (by_cases hq : c = c0; (exact absurd (by rw [← hq, ← hrow]; exact fun i2 g1 g2 => hdi i2 g1 (by omega)) hn); omega))
            · refine w_loc rfl ?_
              refine w_getR (q := 157) is_154 rf_154_4 ?_
              refine w_pure rfl ?_
              refine w_loc rfl ?_
              refine w_imul (by omega) ?_
              refine w_iald (v := f2 (11 * i9).toNat) is_157 ln_157 ⟨by omega, by omega⟩ rfl ?_
              refine w_zge (fun h4 => ?_) (fun h4 => ?_)
              · refine pz_G_of pz_b226_119 ?_
                refine w_iinc (ls' := [some (.inr (.inl 154)), some (.inl c), some (.inl (i9 + 1)), u99_3]) rfl rfl rfl (by omega) ?_
                refine w_goto ?_
                exact ih99 _ (by omega) (i9 + 1) u99_3 hu99_3 rfl (by omega) (by exact hrow) (by intro i2 g1 g2; by_cases hq : i2 = i9; (rw [hq]; omega); exact hdi i2 g1 (by omega))
              · refine w_pure rfl ?_
                refine w_ret (pz_rok1 (Or.inl rfl)) ?_
                have hcq : c = c0 := by
                  rcases Int.lt_or_le c c0 with hq | hq
                  · have hd9 := hlt c hc.1 hq i9 hi9.1 (by omega)
                    rw [← hrow] at hd9
                    omega
                  · omega
                exact lf_i rfl (by rw [hrow, hcq])
          exact lp99 _ 0 u10_3 hu10_3 rfl (by omega) (by rw [q_ps_s hc.1, hf2, show i = 10 by omega]; rfl) (by intro i2 g1 g2; omega)
        · refine w_pure rfl ?_
          refine w_loc (ls' := [some (.inr (.inl 154)), some (.inl c), some (.inl i), some (.inl 0)]) (st' := []) rfl ?_
          refine w_nil ?_
          have lp18 : ∀ (dd : Nat) (j : Int) (f3 : Nat → Int) , (10 - j).toNat = dd → ∀ (hj : 0 ≤ j ∧ j ≤ 10), ∀ (hf3 : f3 = q_at (iv 157) c i j),  pz_G 226 18 [some (.inr (.inl 154)), some (.inl c), some (.inl i), some (.inl j)] [] (pz_Sh L, pz_u1 iv 157 f3, dv, cc, ss) (pz_P (pz_Sh L) (.inl (some (.inl 0))) (pz_u1 iv 157 (q_ps (c0 + 1) (iv 157))) dv cc ss) := by
            intro dd18
            induction dd18 using Nat.strongRecOn with
            | _ dd18 ih18 =>
            intro j f3  hd18 hj hf3
            have hb3 : j ≤ 9 → -1000000000 ≤ f3 (10 * i + c).toNat ∧ -1000000000 ≤ f3 (10 * c + j).toNat := by rw [hf3]; exact fun h => hcb c i j hc.1 (by omega) (fun c1 g1 g2 => hlt c1 g1 (by omega)) hi.1 (by omega) hj.1 h
            refine pz_G_of pz_b226_18 ?_
            refine w_loc rfl ?_
            refine w_pure rfl ?_
            refine w_ige (fun h5 => ?_) (fun h5 => ?_)
            · refine pz_G_of pz_b226_91 ?_
              refine w_iinc (ls' := [some (.inr (.inl 154)), some (.inl c), some (.inl (i + 1)), some (.inl j)]) rfl rfl rfl (by omega) ?_
              refine w_goto ?_
              exact ih10 _ (by omega) (i + 1) f3 (some (.inl j)) rfl rfl (by omega) (by rw [q_fr_s (by omega), hf3, show j = 10 by omega]; rfl)
            · refine w_loc rfl ?_
              refine w_getR (q := 157) is_154 rf_154_4 ?_
              refine w_pure rfl ?_
              refine w_loc rfl ?_
              refine w_imul (by omega) ?_
              refine w_loc rfl ?_
              refine w_iadd (by omega) ?_
              refine w_iald (v := f3 ((10 * i) + c).toNat) is_157 ln_157 ⟨by omega, by omega⟩ rfl ?_
              refine w_ldcv (v := 1000000) rfl ?_
              refine w_ige (fun h6 => ?_) (fun h6 => ?_)
              · refine pz_G_of pz_b226_85 ?_
                refine w_iinc (ls' := [some (.inr (.inl 154)), some (.inl c), some (.inl i), some (.inl (j + 1))]) rfl rfl rfl (by omega) ?_
                refine w_goto ?_
                exact ih18 _ (by omega) (j + 1) f3  rfl (by omega) (by show _ = q_fr (q_j c i) 0 (j + 1) _; rw [q_fr_s (by omega)]; show _ = q_j c i j (q_at (iv 157) c i j); rw [← hf3]; unfold q_j; first | rw [q_if_t (by omega)] | rw [q_if_f (by omega)])
              · refine w_loc rfl ?_
                refine w_getR (q := 157) is_154 rf_154_4 ?_
                refine w_pure rfl ?_
                refine w_loc rfl ?_
                refine w_imul (by omega) ?_
                refine w_loc rfl ?_
                refine w_iadd (by omega) ?_
                refine w_iald (v := f3 ((10 * c) + j).toNat) is_157 ln_157 ⟨by omega, by omega⟩ rfl ?_
                refine w_ldcv (v := 1000000) rfl ?_
                refine w_ige (fun h7 => ?_) (fun h7 => ?_)
                · refine pz_G_of pz_b226_85 ?_
                  refine w_iinc (ls' := [some (.inr (.inl 154)), some (.inl c), some (.inl i), some (.inl (j + 1))]) rfl rfl rfl (by omega) ?_
                  refine w_goto ?_
                  exact ih18 _ (by omega) (j + 1) f3  rfl (by omega) (by show _ = q_fr (q_j c i) 0 (j + 1) _; rw [q_fr_s (by omega)]; show _ = q_j c i j (q_at (iv 157) c i j); rw [← hf3]; unfold q_j; first | rw [q_if_t (by omega)] | rw [q_if_f (by omega)])
                · refine w_loc rfl ?_
                  refine w_loc rfl ?_
                  refine w_loc rfl ?_
                  refine w_loc rfl ?_
                  refine w_getR (q := 157) is_154 rf_154_4 ?_
                  refine w_pure rfl ?_
                  refine w_loc rfl ?_
                  refine w_imul (by omega) ?_
                  refine w_loc rfl ?_
                  refine w_iadd (by omega) ?_
                  refine w_iald (v := f3 ((10 * i) + c).toNat) is_157 ln_157 ⟨by omega, by omega⟩ rfl ?_
                  refine w_loc rfl ?_
                  refine w_getR (q := 157) is_154 rf_154_4 ?_
                  refine w_pure rfl ?_
                  refine w_loc rfl ?_
                  refine w_imul (by omega) ?_
                  refine w_loc rfl ?_
                  refine w_iadd (by omega) ?_
                  refine w_iald (v := f3 ((10 * c) + j).toNat) is_157 ln_157 ⟨by omega, by omega⟩ rfl ?_
                  refine w_iadd (by omega) ?_
                  have hc8 : pz_R (pz_Sh L) 224 [.inr (.inl 154), .inl i, .inl j, .inl ((f3 ((10 * i) + c).toNat) + (f3 ((10 * c) + j).toNat))] (pz_u1 iv 157 f3) (.inl none) (pz_u1 iv 157 (q_eg f3 i j ((f3 ((10 * i) + c).toNat) + (f3 ((10 * c) + j).toNat)))) := pz_R_mem (s_X11_edge i j ((f3 ((10 * i) + c).toNat) + (f3 ((10 * c) + j).toNat)) (by show 0 ≤ i ∧ i ≤ 9; omega) (by show 0 ≤ j ∧ j ≤ 9; omega)) (by rw [pz_u1_top (r := 157)]; rfl)
                  refine w_callv hc8 rfl (pz_cokI is_154 rfl) ?_
                  refine w_nil ?_
                  refine pz_G_of pz_b226_85 ?_
                  refine w_iinc (ls' := [some (.inr (.inl 154)), some (.inl c), some (.inl i), some (.inl (j + 1))]) rfl rfl rfl (by omega) ?_
                  refine w_goto ?_
                  exact ih18 _ (by omega) (j + 1) (q_eg f3 i j ((f3 ((10 * i) + c).toNat) + (f3 ((10 * c) + j).toNat)))  rfl (by omega) (by show _ = q_fr (q_j c i) 0 (j + 1) _; rw [q_fr_s (by omega)]; show _ = q_j c i j (q_at (iv 157) c i j); rw [← hf3]; unfold q_j; first | rw [q_if_t (by omega)] | rw [q_if_f (by omega)])
          exact lp18 _ 0 f2  rfl (by omega) (by unfold q_at; rw [q_fr_0 (by omega)]; exact hf2)
      exact lp10 _ 0 f1 u2_3 hu2_3 rfl (by omega) (by rw [q_fr_0 (by omega)]; exact hf1)
  exact lp2 _ 0 (iv 157) (none) rfl (none) rfl rfl (by omega) (by exact (q_fr_0 (by omega)).symm) (by omega)
