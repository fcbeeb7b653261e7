
theorem s_X11_cell {L : Nat} {iv : Nat → Nat → Int} (q : Int) (f : Int) (t : Int) (hq : 0 ≤ q ∧ q ≤ 3) (hf : 0 ≤ f ∧ f ≤ 9) (ht : 0 ≤ t ∧ t ≤ 9) : pz_R (pz_Sh L) 241 [.inl q, .inl f, .inl t] iv (.inl (some (.inl (100 * q + 10 * f + t)))) iv := by
  intro dv cc ss
  show pz_G 241 0 [some (.inl q), some (.inl f), some (.inl t)] [] (pz_Sh L, iv, dv, cc, ss) (pz_P (pz_Sh L) (.inl (some (.inl (100 * q + 10 * f + t)))) iv dv cc ss)
  refine pz_G_of pz_b241_0 ?_
  refine w_pure rfl ?_
  refine w_loc rfl ?_
  refine w_imul (by omega) ?_
  refine w_pure rfl ?_
  refine w_loc rfl ?_
  refine w_imul (by omega) ?_
  refine w_iadd (by omega) ?_
  refine w_loc rfl ?_
  refine w_iadd (by omega) ?_
  refine w_ret rfl ?_
  first | exact lf_i (by first | rfl | omega) (by rfl) | (exfalso; omega)

theorem s_X11_lowers {L : Nat} {iv : Nat → Nat → Int} (c : Int) (w : Int) (hc : 0 ≤ c ∧ c ≤ 399) : pz_R (pz_Sh L) 242 [.inr (.inl 154), .inl c, .inl w] iv (.inl none) (pz_u1 iv 158 (q_lw (iv 158) c w)) := by
  intro dv cc ss
  refine pz_G_mem (iv2 := pz_u1 iv 158 (iv 158)) (by exact (pz_u1_self iv 158).symm) ?_
  show pz_G 242 0 [some (.inr (.inl 154)), some (.inl c), some (.inl w)] [] (pz_Sh L, pz_u1 iv 158 (iv 158), dv, cc, ss) (pz_P (pz_Sh L) (.inl none) (pz_u1 iv 158 (q_lw (iv 158) c w)) dv cc ss)
  refine pz_G_of pz_b242_0 ?_
  refine w_loc rfl ?_
  refine w_loc rfl ?_
  refine w_getR (q := 158) is_154 rf_154_5 ?_
  refine w_loc rfl ?_
  refine w_iald (v := (iv 158) c.toNat) is_158 ln_158 ⟨by omega, by omega⟩ rfl ?_
  refine w_ige (fun h1 => ?_) (fun h1 => ?_)
  · refine pz_G_of pz_b242_17 ?_
    refine w_vret ?_
    exact lf_v (by unfold q_lw; first | rw [q_if_t (by omega)] | rw [q_if_f (by omega)])
  · refine w_loc rfl ?_
    refine w_getR (q := 158) is_154 rf_154_5 ?_
    refine w_loc rfl ?_
    refine w_loc rfl ?_
    refine w_iastm (iv2 := pz_u1 iv 158 (pz_up (iv 158) c.toNat w)) is_158 ln_158 ⟨by omega, by omega⟩ (by exact pz_u2_top _ _ _ _ _) ?_
    refine w_nil ?_
    refine pz_G_of pz_b242_17 ?_
    refine w_vret ?_
    exact lf_v (by unfold q_lw; first | rw [q_if_t (by omega)] | rw [q_if_f (by omega)])

theorem s_X11_waitOf {L : Nat} {iv : Nat → Nat → Int} (e : Int) (s : Int) (hk : q_KR (iv 155)) (he : 0 ≤ e ∧ e ≤ 9) (hs : 0 ≤ s ∧ s < (iv 155) 2) (hv : q_vl (iv 158)) : pz_R (pz_Sh L) 251 [.inr (.inl 154), .inl e, .inl s] iv (.inl (some (.inl (q_wt (iv 158) (iv 155) e s)))) iv := by
  intro dv cc ss
  have hk0 := hk.r0
  have hsp := hk.sp hs.1 hs.2
  have hv1 := hv (100 * (s + 1) + 10 * e + iv 155 (212 + 4 * s).toNat).toNat (by omega)
  show pz_G 251 0 [some (.inr (.inl 154)), some (.inl e), some (.inl s), none] [] (pz_Sh L, iv, dv, cc, ss) (pz_P (pz_Sh L) (.inl (some (.inl (q_wt (iv 158) (iv 155) e s)))) iv dv cc ss)
  refine pz_G_of pz_b251_0 ?_
  refine w_loc rfl ?_
  refine w_getR (q := 158) is_154 rf_154_5 ?_
  refine w_loc rfl ?_
  refine w_pure rfl ?_
  refine w_iadd (by omega) ?_
  refine w_loc rfl ?_
  refine w_loc rfl ?_
  refine w_loc rfl ?_
  have hc1 : pz_R (pz_Sh L) 206 [.inr (.inl 154), .inl s] (iv) (.inl (some (.inl ((iv 155) (212 + 4 * s).toNat)))) (iv) := s_X11_first s (by omega)
  refine w_call hc1 rfl (pz_cokI is_154 rfl) ?_
  have hc2 : pz_R (pz_Sh L) 241 [.inl (s + 1), .inl e, .inl ((iv 155) (212 + 4 * s).toNat)] (iv) (.inl (some (.inl (100 * (s + 1) + 10 * e + ((iv 155) (212 + 4 * s).toNat))))) (iv) := s_X11_cell (s + 1) e ((iv 155) (212 + 4 * s).toNat) (by omega) (by omega) (by omega)
  refine w_call hc2 rfl rfl ?_
  refine w_iald (v := (iv 158) (100 * (s + 1) + 10 * e + ((iv 155) (212 + 4 * s).toNat)).toNat) is_158 ln_158 ⟨by omega, by omega⟩ rfl ?_
  refine w_loc (ls' := [some (.inr (.inl 154)), some (.inl e), some (.inl s), some (.inl ((iv 158) (100 * (s + 1) + 10 * e + ((iv 155) (212 + 4 * s).toNat)).toNat))]) (st' := []) rfl ?_
  refine w_loc rfl ?_
  refine w_zge (fun h3 => ?_) (fun h3 => ?_)
  · refine pz_G_of pz_b251_27 ?_
    refine w_pure rfl ?_
    refine w_nil ?_
    refine pz_G_of pz_b251_28 ?_
    refine w_ret rfl ?_
    exact lf_i (by unfold q_wt; split <;> first | rfl | omega) rfl
  · refine w_loc rfl ?_
    refine w_ineg (by omega) ?_
    refine w_goto ?_
    refine pz_G_of pz_b251_28 ?_
    refine w_ret rfl ?_
    exact lf_i (by unfold q_wt; split <;> first | rfl | omega) rfl

theorem s_X11_low {L : Nat} {iv : Nat → Nat → Int} (e : Int) (hk : q_KR (iv 155)) (he : 0 ≤ e ∧ e ≤ 9) (hv : q_vl (iv 158)) (ha : q_al (iv 160)) : pz_R (pz_Sh L) 253 [.inr (.inl 154), .inl e] iv (.inl (some (.inl (q_lo (iv 158) (iv 160) (iv 155) e)))) iv := by
  intro dv cc ss
  have hk0 := hk.r0
  show pz_G 253 0 [some (.inr (.inl 154)), some (.inl e), none, none] [] (pz_Sh L, iv, dv, cc, ss) (pz_P (pz_Sh L) (.inl (some (.inl (q_lo (iv 158) (iv 160) (iv 155) e)))) iv dv cc ss)
  refine pz_G_of pz_b253_0 ?_
  refine w_pure rfl ?_
  refine w_loc (ls' := [some (.inr (.inl 154)), some (.inl e), some (.inl 0), none]) (st' := []) rfl ?_
  refine w_pure rfl ?_
  refine w_loc (ls' := [some (.inr (.inl 154)), some (.inl e), some (.inl 0), some (.inl 0)]) (st' := []) rfl ?_
  refine w_nil ?_
  have lp4 : ∀ (dd : Nat) (x : Int) (s : Int) , (iv 155 0 - s).toNat = dd → ∀ (hs : 0 ≤ s ∧ s ≤ iv 155 0), ∀ (hx : x = q_fr (q_loS (iv 158) (iv 160) e) 0 s 0),  pz_G 253 4 [some (.inr (.inl 154)), some (.inl e), some (.inl x), some (.inl s)] [] (pz_Sh L, iv, dv, cc, ss) (pz_P (pz_Sh L) (.inl (some (.inl (q_lo (iv 158) (iv 160) (iv 155) e)))) iv dv cc ss) := by
    intro dd4
    induction dd4 using Nat.strongRecOn with
    | _ dd4 ih4 =>
    intro x s  hd4 hs hx
    have hv1 := fun h => hv (100 * 0 + 10 * e + s).toNat h
    have ha1 := fun h => ha s hs.1 h
    refine pz_G_of pz_b253_4 ?_
    refine w_loc rfl ?_
    refine w_loc rfl ?_
    refine w_getR (q := 155) is_154 rf_154_1 ?_
    refine w_pure rfl ?_
    refine w_iald (v := (iv 155) 0) is_155 ln_155 ⟨by omega, by omega⟩ rfl ?_
    refine w_ige (fun h1 => ?_) (fun h1 => ?_)
    · refine pz_G_of pz_b253_87 ?_
      refine w_loc rfl ?_
      refine w_ret rfl ?_
      exact lf_i (by rw [hx, show s = iv 155 0 by omega]; rfl) rfl
    · refine w_loc rfl ?_
      refine w_getR (q := 160) is_154 rf_154_9 ?_
      refine w_loc rfl ?_
      refine w_iald (v := (iv 160) s.toNat) is_160 ln_160 ⟨by omega, by omega⟩ rfl ?_
      refine w_pure rfl ?_
      refine w_ieq (fun h2 => ?_) (fun h2 => ?_)
      · refine pz_G_of pz_b253_81 ?_
        refine w_iinc (ls' := [some (.inr (.inl 154)), some (.inl e), some (.inl x), some (.inl (s + 1))]) rfl rfl rfl (by omega) ?_
        refine w_goto ?_
        exact ih4 _ (by omega) x (s + 1)  rfl (by omega) (by rw [q_fr_s (by omega), ← hx]; unfold q_loS; first | rw [q_if_t (by omega)] | rw [q_if_f (by omega)])
      · refine w_loc rfl ?_
        refine w_getR (q := 158) is_154 rf_154_5 ?_
        refine w_pure rfl ?_
        refine w_loc rfl ?_
        refine w_loc rfl ?_
        have hc3 : pz_R (pz_Sh L) 241 [.inl 0, .inl e, .inl s] (iv) (.inl (some (.inl (100 * 0 + 10 * e + s)))) (iv) := s_X11_cell 0 e s (by omega) (by omega) (by omega)
        refine w_call hc3 rfl rfl ?_
        refine w_iald (v := (iv 158) (100 * 0 + 10 * e + s).toNat) is_158 ln_158 ⟨by omega, by omega⟩ rfl ?_
        refine w_ldcv (v := 1000000) rfl ?_
        refine w_ige (fun h4 => ?_) (fun h4 => ?_)
        · refine pz_G_of pz_b253_81 ?_
          refine w_iinc (ls' := [some (.inr (.inl 154)), some (.inl e), some (.inl x), some (.inl (s + 1))]) rfl rfl rfl (by omega) ?_
          refine w_goto ?_
          exact ih4 _ (by omega) x (s + 1)  rfl (by omega) (by rw [q_fr_s (by omega), ← hx]; unfold q_loS; first | rw [q_if_t (by omega)] | rw [q_if_f (by omega)])
        · refine w_loc rfl ?_
          refine w_getR (q := 160) is_154 rf_154_9 ?_
          refine w_loc rfl ?_
          refine w_iald (v := (iv 160) s.toNat) is_160 ln_160 ⟨by omega, by omega⟩ rfl ?_
          refine w_loc rfl ?_
          refine w_getR (q := 158) is_154 rf_154_5 ?_
          refine w_pure rfl ?_
          refine w_loc rfl ?_
          refine w_loc rfl ?_
          have hc5 : pz_R (pz_Sh L) 241 [.inl 0, .inl e, .inl s] (iv) (.inl (some (.inl (100 * 0 + 10 * e + s)))) (iv) := s_X11_cell 0 e s (by omega) (by omega) (by omega)
          refine w_call hc5 rfl rfl ?_
          refine w_iald (v := (iv 158) (100 * 0 + 10 * e + s).toNat) is_158 ln_158 ⟨by omega, by omega⟩ rfl ?_
          refine w_isub (by omega) ?_
          refine w_loc rfl ?_
          refine w_ile (fun h6 => ?_) (fun h6 => ?_)
          · refine pz_G_of pz_b253_81 ?_
            refine w_iinc (ls' := [some (.inr (.inl 154)), some (.inl e), some (.inl x), some (.inl (s + 1))]) rfl rfl rfl (by omega) ?_
            refine w_goto ?_
            exact ih4 _ (by omega) x (s + 1)  rfl (by omega) (by rw [q_fr_s (by omega), ← hx]; unfold q_loS; first | rw [q_if_t (by omega)] | rw [q_if_f (by omega)])
          · refine w_loc rfl ?_
            refine w_getR (q := 160) is_154 rf_154_9 ?_
            refine w_loc rfl ?_
            refine w_iald (v := (iv 160) s.toNat) is_160 ln_160 ⟨by omega, by omega⟩ rfl ?_
            refine w_loc rfl ?_
            refine w_getR (q := 158) is_154 rf_154_5 ?_
            refine w_pure rfl ?_
            refine w_loc rfl ?_
            refine w_loc rfl ?_
            have hc7 : pz_R (pz_Sh L) 241 [.inl 0, .inl e, .inl s] (iv) (.inl (some (.inl (100 * 0 + 10 * e + s)))) (iv) := s_X11_cell 0 e s (by omega) (by omega) (by omega)
            refine w_call hc7 rfl rfl ?_
            refine w_iald (v := (iv 158) (100 * 0 + 10 * e + s).toNat) is_158 ln_158 ⟨by omega, by omega⟩ rfl ?_
            refine w_isub (by omega) ?_
            refine w_loc (ls' := [some (.inr (.inl 154)), some (.inl e), some (.inl (((iv 160) s.toNat) - ((iv 158) (100 * 0 + 10 * e + s).toNat))), some (.inl s)]) (st' := []) rfl ?_
            refine w_nil ?_
            refine pz_G_of pz_b253_81 ?_
            refine w_iinc (ls' := [some (.inr (.inl 154)), some (.inl e), some (.inl (((iv 160) s.toNat) - ((iv 158) (100 * 0 + 10 * e + s).toNat))), some (.inl (s + 1))]) rfl rfl rfl (by omega) ?_
            refine w_goto ?_
            exact ih4 _ (by omega) (((iv 160) s.toNat) - ((iv 158) (100 * 0 + 10 * e + s).toNat)) (s + 1)  rfl (by omega) (by rw [q_fr_s (by omega), ← hx]; unfold q_loS; first | rw [q_if_t (by omega)] | rw [q_if_f (by omega)])
  exact lp4 _ 0 0  rfl (by omega) (by rw [q_fr_0 (by omega)])

theorem s_X11_high {L : Nat} {iv : Nat → Nat → Int} (e : Int) (hk : q_KR (iv 155)) (he : 0 ≤ e ∧ e ≤ 9) (hv : q_vl (iv 158)) (ha : q_al (iv 160)) : pz_R (pz_Sh L) 254 [.inr (.inl 154), .inl e] iv (.inl (some (.inl (q_hi (iv 158) (iv 160) (iv 155) e)))) iv := by
  intro dv cc ss
  have hk0 := hk.r0
  show pz_G 254 0 [some (.inr (.inl 154)), some (.inl e), none, none] [] (pz_Sh L, iv, dv, cc, ss) (pz_P (pz_Sh L) (.inl (some (.inl (q_hi (iv 158) (iv 160) (iv 155) e)))) iv dv cc ss)
  refine pz_G_of pz_b254_0 ?_
  refine w_pure rfl ?_
  refine w_loc (ls' := [some (.inr (.inl 154)), some (.inl e), some (.inl 9999), none]) (st' := []) rfl ?_
  refine w_pure rfl ?_
  refine w_loc (ls' := [some (.inr (.inl 154)), some (.inl e), some (.inl 9999), some (.inl 0)]) (st' := []) rfl ?_
  refine w_nil ?_
  have lp6 : ∀ (dd : Nat) (x : Int) (s : Int) , (iv 155 0 - s).toNat = dd → ∀ (hs : 0 ≤ s ∧ s ≤ iv 155 0), ∀ (hx : x = q_fr (q_hiS (iv 158) (iv 160) e) 0 s 9999),  pz_G 254 6 [some (.inr (.inl 154)), some (.inl e), some (.inl x), some (.inl s)] [] (pz_Sh L, iv, dv, cc, ss) (pz_P (pz_Sh L) (.inl (some (.inl (q_hi (iv 158) (iv 160) (iv 155) e)))) iv dv cc ss) := by
    intro dd6
    induction dd6 using Nat.strongRecOn with
    | _ dd6 ih6 =>
    intro x s  hd6 hs hx
    have hv1 := fun h => hv (100 * 0 + 10 * s + e).toNat h
    have ha1 := fun h => ha s hs.1 h
    refine pz_G_of pz_b254_6 ?_
    refine w_loc rfl ?_
    refine w_loc rfl ?_
    refine w_getR (q := 155) is_154 rf_154_1 ?_
    refine w_pure rfl ?_
    refine w_iald (v := (iv 155) 0) is_155 ln_155 ⟨by omega, by omega⟩ rfl ?_
    refine w_ige (fun h1 => ?_) (fun h1 => ?_)
    · refine pz_G_of pz_b254_89 ?_
      refine w_loc rfl ?_
      refine w_ret rfl ?_
      exact lf_i (by rw [hx, show s = iv 155 0 by omega]; rfl) rfl
    · refine w_loc rfl ?_
      refine w_getR (q := 160) is_154 rf_154_9 ?_
      refine w_loc rfl ?_
      refine w_iald (v := (iv 160) s.toNat) is_160 ln_160 ⟨by omega, by omega⟩ rfl ?_
      refine w_pure rfl ?_
      refine w_ieq (fun h2 => ?_) (fun h2 => ?_)
      · refine pz_G_of pz_b254_83 ?_
        refine w_iinc (ls' := [some (.inr (.inl 154)), some (.inl e), some (.inl x), some (.inl (s + 1))]) rfl rfl rfl (by omega) ?_
        refine w_goto ?_
        exact ih6 _ (by omega) x (s + 1)  rfl (by omega) (by rw [q_fr_s (by omega), ← hx]; unfold q_hiS; first | rw [q_if_t (by omega)] | rw [q_if_f (by omega)])
      · refine w_loc rfl ?_
        refine w_getR (q := 158) is_154 rf_154_5 ?_
        refine w_pure rfl ?_
        refine w_loc rfl ?_
        refine w_loc rfl ?_
        have hc3 : pz_R (pz_Sh L) 241 [.inl 0, .inl s, .inl e] (iv) (.inl (some (.inl (100 * 0 + 10 * s + e)))) (iv) := s_X11_cell 0 s e (by omega) (by omega) (by omega)
        refine w_call hc3 rfl rfl ?_
        refine w_iald (v := (iv 158) (100 * 0 + 10 * s + e).toNat) is_158 ln_158 ⟨by omega, by omega⟩ rfl ?_
        refine w_ldcv (v := 1000000) rfl ?_
        refine w_ige (fun h4 => ?_) (fun h4 => ?_)
        · refine pz_G_of pz_b254_83 ?_
          refine w_iinc (ls' := [some (.inr (.inl 154)), some (.inl e), some (.inl x), some (.inl (s + 1))]) rfl rfl rfl (by omega) ?_
          refine w_goto ?_
          exact ih6 _ (by omega) x (s + 1)  rfl (by omega) (by rw [q_fr_s (by omega), ← hx]; unfold q_hiS; first | rw [q_if_t (by omega)] | rw [q_if_f (by omega)])
        · refine w_loc rfl ?_
          refine w_getR (q := 160) is_154 rf_154_9 ?_
          refine w_loc rfl ?_
          refine w_iald (v := (iv 160) s.toNat) is_160 ln_160 ⟨by omega, by omega⟩ rfl ?_
          refine w_loc rfl ?_
          refine w_getR (q := 158) is_154 rf_154_5 ?_
          refine w_pure rfl ?_
          refine w_loc rfl ?_
          refine w_loc rfl ?_
          have hc5 : pz_R (pz_Sh L) 241 [.inl 0, .inl s, .inl e] (iv) (.inl (some (.inl (100 * 0 + 10 * s + e)))) (iv) := s_X11_cell 0 s e (by omega) (by omega) (by omega)
          refine w_call hc5 rfl rfl ?_
          refine w_iald (v := (iv 158) (100 * 0 + 10 * s + e).toNat) is_158 ln_158 ⟨by omega, by omega⟩ rfl ?_
          refine w_iadd (by omega) ?_
          refine w_loc rfl ?_
          refine w_ige (fun h6 => ?_) (fun h6 => ?_)
          · refine pz_G_of pz_b254_83 ?_
            refine w_iinc (ls' := [some (.inr (.inl 154)), some (.inl e), some (.inl x), some (.inl (s + 1))]) rfl rfl rfl (by omega) ?_
            refine w_goto ?_
            exact ih6 _ (by omega) x (s + 1)  rfl (by omega) (by rw [q_fr_s (by omega), ← hx]; unfold q_hiS; first | rw [q_if_t (by omega)] | rw [q_if_f (by omega)])
          · refine w_loc rfl ?_
            refine w_getR (q := 160) is_154 rf_154_9 ?_
            refine w_loc rfl ?_
            refine w_iald (v := (iv 160) s.toNat) is_160 ln_160 ⟨by omega, by omega⟩ rfl ?_
            refine w_loc rfl ?_
            refine w_getR (q := 158) is_154 rf_154_5 ?_
            refine w_pure rfl ?_
            refine w_loc rfl ?_
            refine w_loc rfl ?_
            have hc7 : pz_R (pz_Sh L) 241 [.inl 0, .inl s, .inl e] (iv) (.inl (some (.inl (100 * 0 + 10 * s + e)))) (iv) := s_X11_cell 0 s e (by omega) (by omega) (by omega)
            refine w_call hc7 rfl rfl ?_
            refine w_iald (v := (iv 158) (100 * 0 + 10 * s + e).toNat) is_158 ln_158 ⟨by omega, by omega⟩ rfl ?_
            refine w_iadd (by omega) ?_
            refine w_loc (ls' := [some (.inr (.inl 154)), some (.inl e), some (.inl (((iv 160) s.toNat) + ((iv 158) (100 * 0 + 10 * s + e).toNat))), some (.inl s)]) (st' := []) rfl ?_
            refine w_nil ?_
            refine pz_G_of pz_b254_83 ?_
            refine w_iinc (ls' := [some (.inr (.inl 154)), some (.inl e), some (.inl (((iv 160) s.toNat) + ((iv 158) (100 * 0 + 10 * s + e).toNat))), some (.inl (s + 1))]) rfl rfl rfl (by omega) ?_
            refine w_goto ?_
            exact ih6 _ (by omega) (((iv 160) s.toNat) + ((iv 158) (100 * 0 + 10 * s + e).toNat)) (s + 1)  rfl (by omega) (by rw [q_fr_s (by omega), ← hx]; unfold q_hiS; first | rw [q_if_t (by omega)] | rw [q_if_f (by omega)])
  exact lp6 _ 9999 0  rfl (by omega) (by rw [q_fr_0 (by omega)])

theorem s_X11_mustWait {L : Nat} {iv : Nat → Nat → Int} (e : Int) (m : Int) (hk : q_KR (iv 155)) (he : 0 ≤ e ∧ e ≤ 9) (hm : 0 ≤ m ∧ m ≤ 1000) (hv : q_vl (iv 158)) (ha : q_al (iv 160)) : pz_R (pz_Sh L) 255 [.inr (.inl 154), .inl e, .inl m] iv (.inl (some (.inl (pz_bi (q_mw (iv 158) (iv 160) (iv 155) e m))))) iv := by
  intro dv cc ss
  have hk0 := hk.r0
  show pz_G 255 0 [some (.inr (.inl 154)), some (.inl e), some (.inl m), none, none] [] (pz_Sh L, iv, dv, cc, ss) (pz_P (pz_Sh L) (.inl (some (.inl (pz_bi (q_mw (iv 158) (iv 160) (iv 155) e m))))) iv dv cc ss)
  refine pz_G_of pz_b255_0 ?_
  refine w_pure rfl ?_
  refine w_loc (ls' := [some (.inr (.inl 154)), some (.inl e), some (.inl m), some (.inl 0), none]) (st' := []) rfl ?_
  refine w_pure rfl ?_
  refine w_loc (ls' := [some (.inr (.inl 154)), some (.inl e), some (.inl m), some (.inl 0), some (.inl 0)]) (st' := []) rfl ?_
  refine w_nil ?_
  have lp5 : ∀ (dd : Nat) (z : Int) (s : Int) , ((iv 155) 2 - s).toNat = dd → ∀ (his : 0 ≤ s ∧ s ≤ (iv 155) 2), ∀ (hz : z = pz_bi (q_exi (q_mwP (iv 158) (iv 160) (iv 155) e m) s)),  pz_G 255 5 [some (.inr (.inl 154)), some (.inl e), some (.inl m), some (.inl z), some (.inl s)] [] (pz_Sh L, iv, dv, cc, ss) (pz_P (pz_Sh L) (.inl (some (.inl (pz_bi (q_mw (iv 158) (iv 160) (iv 155) e m))))) iv dv cc ss) := by
    intro dd5
    induction dd5 using Nat.strongRecOn with
    | _ dd5 ih5 =>
    intro z s  hd5 his hz
    have hsp := fun h => hk.sp his.1 h
    have hw := fun h => q_wt_r (k := iv 155) (e := e) (s := s) hv h
    have ha1 := fun h1 h2 => ha (iv 155 (212 + 4 * s + 1).toNat) h1 h2
    have ha2 := fun h1 h2 => ha (iv 155 (212 + 4 * s).toNat) h1 h2
    refine pz_G_of pz_b255_5 ?_
    refine w_loc rfl ?_
    refine w_loc rfl ?_
    refine w_getR (q := 155) is_154 rf_154_1 ?_
    refine w_pure rfl ?_
    refine w_iald (v := (iv 155) 2) is_155 ln_155 ⟨by omega, by omega⟩ rfl ?_
    refine w_ige (fun h1 => ?_) (fun h1 => ?_)
    · refine pz_G_of pz_b255_95 ?_
      refine w_loc rfl ?_
      refine w_ret (pz_rok1 (by first | omega | (rw [hz]; exact pz_bi01 _))) ?_
      exact lf_i (by rw [hz, show s = (iv 155) 2 by omega]; rfl) rfl
    · refine w_loc rfl ?_
      refine w_zne (fun h2 => ?_) (fun h2 => ?_)
      · refine pz_G_of pz_b255_83 ?_
        refine w_pure rfl ?_
        refine w_goto ?_
        refine pz_G_of pz_b255_88 ?_
        refine w_loc (ls' := [some (.inr (.inl 154)), some (.inl e), some (.inl m), some (.inl 1), some (.inl s)]) (st' := []) rfl ?_
        refine w_iinc (ls' := [some (.inr (.inl 154)), some (.inl e), some (.inl m), some (.inl 1), some (.inl (s + 1))]) rfl rfl rfl (by omega) ?_
        refine w_goto ?_
        exact ih5 _ (by omega) 1 (s + 1)  rfl (by omega) (by first | exact q_exi_t1 hz (by omega) (by omega) | exact q_exi_t2 (by omega) (by omega) | exact q_exi_f hz (by omega) (by omega) (by omega))
      · refine w_loc rfl ?_
        refine w_getR (q := 160) is_154 rf_154_9 ?_
        refine w_loc rfl ?_
        refine w_loc rfl ?_
        have hc3 : pz_R (pz_Sh L) 207 [.inr (.inl 154), .inl s] (iv) (.inl (some (.inl ((iv 155) (212 + 4 * s + 1).toNat)))) (iv) := s_X11_endOf s (by omega)
        refine w_call hc3 rfl (pz_cokI is_154 rfl) ?_
        refine w_iald (v := (iv 160) ((iv 155) (212 + 4 * s + 1).toNat).toNat) is_160 ln_160 ⟨by omega, by omega⟩ rfl ?_
        refine w_pure rfl ?_
        refine w_ine (fun h4 => ?_) (fun h4 => ?_)
        · refine pz_G_of pz_b255_87 ?_
          refine w_pure rfl ?_
          refine w_nil ?_
          refine pz_G_of pz_b255_88 ?_
          refine w_loc (ls' := [some (.inr (.inl 154)), some (.inl e), some (.inl m), some (.inl 0), some (.inl s)]) (st' := []) rfl ?_
          refine w_iinc (ls' := [some (.inr (.inl 154)), some (.inl e), some (.inl m), some (.inl 0), some (.inl (s + 1))]) rfl rfl rfl (by omega) ?_
          refine w_goto ?_
          exact ih5 _ (by omega) 0 (s + 1)  rfl (by omega) (by first | exact q_exi_t1 hz (by omega) (by omega) | exact q_exi_t2 (by omega) (by omega) | exact q_exi_f hz (by omega) (by omega) (by omega))
        · refine w_loc rfl ?_
          refine w_loc rfl ?_
          refine w_loc rfl ?_
          have hc5 : pz_R (pz_Sh L) 251 [.inr (.inl 154), .inl e, .inl s] (iv) (.inl (some (.inl (q_wt (iv 158) (iv 155) e s)))) (iv) := s_X11_waitOf e s (by exact hk) (by omega) (by omega) (by exact hv)
          refine w_call hc5 rfl (pz_cokI is_154 rfl) ?_
          refine w_zle (fun h6 => ?_) (fun h6 => ?_)
          · refine pz_G_of pz_b255_87 ?_
            refine w_pure rfl ?_
            refine w_nil ?_
            refine pz_G_of pz_b255_88 ?_
            refine w_loc (ls' := [some (.inr (.inl 154)), some (.inl e), some (.inl m), some (.inl 0), some (.inl s)]) (st' := []) rfl ?_
            refine w_iinc (ls' := [some (.inr (.inl 154)), some (.inl e), some (.inl m), some (.inl 0), some (.inl (s + 1))]) rfl rfl rfl (by omega) ?_
            refine w_goto ?_
            exact ih5 _ (by omega) 0 (s + 1)  rfl (by omega) (by first | exact q_exi_t1 hz (by omega) (by omega) | exact q_exi_t2 (by omega) (by omega) | exact q_exi_f hz (by omega) (by omega) (by omega))
          · refine w_loc rfl ?_
            refine w_getR (q := 160) is_154 rf_154_9 ?_
            refine w_loc rfl ?_
            refine w_loc rfl ?_
            have hc7 : pz_R (pz_Sh L) 206 [.inr (.inl 154), .inl s] (iv) (.inl (some (.inl ((iv 155) (212 + 4 * s).toNat)))) (iv) := s_X11_first s (by omega)
            refine w_call hc7 rfl (pz_cokI is_154 rfl) ?_
            refine w_iald (v := (iv 160) ((iv 155) (212 + 4 * s).toNat).toNat) is_160 ln_160 ⟨by omega, by omega⟩ rfl ?_
            refine w_pure rfl ?_
            refine w_ieq (fun h8 => ?_) (fun h8 => ?_)
            · refine pz_G_of pz_b255_83 ?_
              refine w_pure rfl ?_
              refine w_goto ?_
              refine pz_G_of pz_b255_88 ?_
              refine w_loc (ls' := [some (.inr (.inl 154)), some (.inl e), some (.inl m), some (.inl 1), some (.inl s)]) (st' := []) rfl ?_
              refine w_iinc (ls' := [some (.inr (.inl 154)), some (.inl e), some (.inl m), some (.inl 1), some (.inl (s + 1))]) rfl rfl rfl (by omega) ?_
              refine w_goto ?_
              exact ih5 _ (by omega) 1 (s + 1)  rfl (by omega) (by first | exact q_exi_t1 hz (by omega) (by omega) | exact q_exi_t2 (by omega) (by omega) | exact q_exi_f hz (by omega) (by omega) (by omega))
            · refine w_loc rfl ?_
              refine w_loc rfl ?_
              refine w_getR (q := 160) is_154 rf_154_9 ?_
              refine w_loc rfl ?_
              refine w_loc rfl ?_
              have hc9 : pz_R (pz_Sh L) 206 [.inr (.inl 154), .inl s] (iv) (.inl (some (.inl ((iv 155) (212 + 4 * s).toNat)))) (iv) := s_X11_first s (by omega)
              refine w_call hc9 rfl (pz_cokI is_154 rfl) ?_
              refine w_iald (v := (iv 160) ((iv 155) (212 + 4 * s).toNat).toNat) is_160 ln_160 ⟨by omega, by omega⟩ rfl ?_
              refine w_isub (by omega) ?_
              refine w_loc rfl ?_
              refine w_loc rfl ?_
              refine w_loc rfl ?_
              have hc10 : pz_R (pz_Sh L) 251 [.inr (.inl 154), .inl e, .inl s] (iv) (.inl (some (.inl (q_wt (iv 158) (iv 155) e s)))) (iv) := s_X11_waitOf e s (by exact hk) (by omega) (by omega) (by exact hv)
              refine w_call hc10 rfl (pz_cokI is_154 rfl) ?_
              refine w_ige (fun h11 => ?_) (fun h11 => ?_)
              · refine pz_G_of pz_b255_87 ?_
                refine w_pure rfl ?_
                refine w_nil ?_
                refine pz_G_of pz_b255_88 ?_
                refine w_loc (ls' := [some (.inr (.inl 154)), some (.inl e), some (.inl m), some (.inl 0), some (.inl s)]) (st' := []) rfl ?_
                refine w_iinc (ls' := [some (.inr (.inl 154)), some (.inl e), some (.inl m), some (.inl 0), some (.inl (s + 1))]) rfl rfl rfl (by omega) ?_
                refine w_goto ?_
                exact ih5 _ (by omega) 0 (s + 1)  rfl (by omega) (by first | exact q_exi_t1 hz (by omega) (by omega) | exact q_exi_t2 (by omega) (by omega) | exact q_exi_f hz (by omega) (by omega) (by omega))
              · refine w_nil ?_
                refine pz_G_of pz_b255_83 ?_
                refine w_pure rfl ?_
                refine w_goto ?_
                refine pz_G_of pz_b255_88 ?_
                refine w_loc (ls' := [some (.inr (.inl 154)), some (.inl e), some (.inl m), some (.inl 1), some (.inl s)]) (st' := []) rfl ?_
                refine w_iinc (ls' := [some (.inr (.inl 154)), some (.inl e), some (.inl m), some (.inl 1), some (.inl (s + 1))]) rfl rfl rfl (by omega) ?_
                refine w_goto ?_
                exact ih5 _ (by omega) 1 (s + 1)  rfl (by omega) (by first | exact q_exi_t1 hz (by omega) (by omega) | exact q_exi_t2 (by omega) (by omega) | exact q_exi_f hz (by omega) (by omega) (by omega))
  exact lp5 _ 0 0  rfl (by omega) (by exact q_exi_0 (by omega))

theorem s_X11_isBehind {L : Nat} {iv : Nat → Nat → Int} (e : Int) (hk : q_KR (iv 155)) (he : 0 ≤ e ∧ e ≤ 9) : pz_R (pz_Sh L) 256 [.inr (.inl 154), .inl e] iv (.inl (some (.inl (pz_bi (q_bh (iv 158) (iv 160) (iv 155) e))))) iv := by
  intro dv cc ss
  have hk0 := hk.r0
  show pz_G 256 0 [some (.inr (.inl 154)), some (.inl e), none, none] [] (pz_Sh L, iv, dv, cc, ss) (pz_P (pz_Sh L) (.inl (some (.inl (pz_bi (q_bh (iv 158) (iv 160) (iv 155) e))))) iv dv cc ss)
  refine pz_G_of pz_b256_0 ?_
  refine w_pure rfl ?_
  refine w_loc (ls' := [some (.inr (.inl 154)), some (.inl e), some (.inl 0), none]) (st' := []) rfl ?_
  refine w_pure rfl ?_
  refine w_loc (ls' := [some (.inr (.inl 154)), some (.inl e), some (.inl 0), some (.inl 0)]) (st' := []) rfl ?_
  refine w_nil ?_
  have lp4 : ∀ (dd : Nat) (z : Int) (o : Int) , ((iv 155) 0 - o).toNat = dd → ∀ (hio : 0 ≤ o ∧ o ≤ (iv 155) 0), ∀ (hz : z = pz_bi (q_exi (q_bhP (iv 158) (iv 160) e) o)),  pz_G 256 4 [some (.inr (.inl 154)), some (.inl e), some (.inl z), some (.inl o)] [] (pz_Sh L, iv, dv, cc, ss) (pz_P (pz_Sh L) (.inl (some (.inl (pz_bi (q_bh (iv 158) (iv 160) (iv 155) e))))) iv dv cc ss) := by
    intro dd4
    induction dd4 using Nat.strongRecOn with
    | _ dd4 ih4 =>
    intro z o  hd4 hio hz
    refine pz_G_of pz_b256_4 ?_
    refine w_loc rfl ?_
    refine w_loc rfl ?_
    refine w_getR (q := 155) is_154 rf_154_1 ?_
    refine w_pure rfl ?_
    refine w_iald (v := (iv 155) 0) is_155 ln_155 ⟨by omega, by omega⟩ rfl ?_
    refine w_ige (fun h1 => ?_) (fun h1 => ?_)
    · refine pz_G_of pz_b256_54 ?_
      refine w_loc rfl ?_
      refine w_ret (pz_rok1 (by first | omega | (rw [hz]; exact pz_bi01 _))) ?_
      exact lf_i (by rw [hz, show o = (iv 155) 0 by omega]; rfl) rfl
    · refine w_loc rfl ?_
      refine w_zne (fun h2 => ?_) (fun h2 => ?_)
      · refine pz_G_of pz_b256_42 ?_
        refine w_pure rfl ?_
        refine w_goto ?_
        refine pz_G_of pz_b256_47 ?_
        refine w_loc (ls' := [some (.inr (.inl 154)), some (.inl e), some (.inl 1), some (.inl o)]) (st' := []) rfl ?_
        refine w_iinc (ls' := [some (.inr (.inl 154)), some (.inl e), some (.inl 1), some (.inl (o + 1))]) rfl rfl rfl (by omega) ?_
        refine w_goto ?_
        exact ih4 _ (by omega) 1 (o + 1)  rfl (by omega) (by first | exact q_exi_t1 hz (by omega) (by omega) | exact q_exi_t2 (by omega) (by omega) | exact q_exi_f hz (by omega) (by omega) (by omega))
      · refine w_loc rfl ?_
        refine w_getR (q := 160) is_154 rf_154_9 ?_
        refine w_loc rfl ?_
        refine w_iald (v := (iv 160) o.toNat) is_160 ln_160 ⟨by omega, by omega⟩ rfl ?_
        refine w_pure rfl ?_
        refine w_ine (fun h3 => ?_) (fun h3 => ?_)
        · refine pz_G_of pz_b256_46 ?_
          refine w_pure rfl ?_
          refine w_nil ?_
          refine pz_G_of pz_b256_47 ?_
          refine w_loc (ls' := [some (.inr (.inl 154)), some (.inl e), some (.inl 0), some (.inl o)]) (st' := []) rfl ?_
          refine w_iinc (ls' := [some (.inr (.inl 154)), some (.inl e), some (.inl 0), some (.inl (o + 1))]) rfl rfl rfl (by omega) ?_
          refine w_goto ?_
          exact ih4 _ (by omega) 0 (o + 1)  rfl (by omega) (by first | exact q_exi_t1 hz (by omega) (by omega) | exact q_exi_t2 (by omega) (by omega) | exact q_exi_f hz (by omega) (by omega) (by omega))
        · refine w_loc rfl ?_
          refine w_getR (q := 158) is_154 rf_154_5 ?_
          refine w_pure rfl ?_
          refine w_loc rfl ?_
          refine w_loc rfl ?_
          have hc4 : pz_R (pz_Sh L) 241 [.inl 0, .inl e, .inl o] (iv) (.inl (some (.inl (100 * 0 + 10 * e + o)))) (iv) := s_X11_cell 0 e o (by omega) (by omega) (by omega)
          refine w_call hc4 rfl rfl ?_
          refine w_iald (v := (iv 158) (100 * 0 + 10 * e + o).toNat) is_158 ln_158 ⟨by omega, by omega⟩ rfl ?_
          refine w_zge (fun h5 => ?_) (fun h5 => ?_)
          · refine pz_G_of pz_b256_46 ?_
            refine w_pure rfl ?_
            refine w_nil ?_
            refine pz_G_of pz_b256_47 ?_
            refine w_loc (ls' := [some (.inr (.inl 154)), some (.inl e), some (.inl 0), some (.inl o)]) (st' := []) rfl ?_
            refine w_iinc (ls' := [some (.inr (.inl 154)), some (.inl e), some (.inl 0), some (.inl (o + 1))]) rfl rfl rfl (by omega) ?_
            refine w_goto ?_
            exact ih4 _ (by omega) 0 (o + 1)  rfl (by omega) (by first | exact q_exi_t1 hz (by omega) (by omega) | exact q_exi_t2 (by omega) (by omega) | exact q_exi_f hz (by omega) (by omega) (by omega))
          · refine w_nil ?_
            refine pz_G_of pz_b256_42 ?_
            refine w_pure rfl ?_
            refine w_goto ?_
            refine pz_G_of pz_b256_47 ?_
            refine w_loc (ls' := [some (.inr (.inl 154)), some (.inl e), some (.inl 1), some (.inl o)]) (st' := []) rfl ?_
            refine w_iinc (ls' := [some (.inr (.inl 154)), some (.inl e), some (.inl 1), some (.inl (o + 1))]) rfl rfl rfl (by omega) ?_
            refine w_goto ?_
            exact ih4 _ (by omega) 1 (o + 1)  rfl (by omega) (by first | exact q_exi_t1 hz (by omega) (by omega) | exact q_exi_t2 (by omega) (by omega) | exact q_exi_f hz (by omega) (by omega) (by omega))
  exact lp4 _ 0 0  rfl (by omega) (by exact q_exi_0 (by omega))

theorem s_X11_reasonOf {L : Nat} {iv : Nat → Nat → Int} (e : Int) (m : Int) (hk : q_KR (iv 155)) (he : 0 ≤ e ∧ e ≤ 9) (hm : 0 ≤ m ∧ m ≤ 1000) (hv : q_vl (iv 158)) (ha : q_al (iv 160)) : pz_R (pz_Sh L) 257 [.inr (.inl 154), .inl e, .inl m] iv (.inl (some (.inl (q_rs (iv 158) (iv 160) (iv 155) e m)))) iv := by
  intro dv cc ss
  have hk0 := hk.r0
  show pz_G 257 0 [some (.inr (.inl 154)), some (.inl e), some (.inl m)] [] (pz_Sh L, iv, dv, cc, ss) (pz_P (pz_Sh L) (.inl (some (.inl (q_rs (iv 158) (iv 160) (iv 155) e m)))) iv dv cc ss)
  refine pz_G_of pz_b257_0 ?_
  refine w_loc rfl ?_
  refine w_getR (q := 160) is_154 rf_154_9 ?_
  refine w_loc rfl ?_
  refine w_iald (v := (iv 160) e.toNat) is_160 ln_160 ⟨by omega, by omega⟩ rfl ?_
  refine w_pure rfl ?_
  refine w_ieq (fun h1 => ?_) (fun h1 => ?_)
  · refine pz_G_of pz_b257_13 ?_
    refine w_loc rfl ?_
    refine w_loc rfl ?_
    have hc2 : pz_R (pz_Sh L) 211 [.inr (.inl 154), .inl e] (iv) (.inl (some (.inl (pz_bi (q_exi (fun s => (iv 155) (212 + 4 * s + 1).toNat = e) ((iv 155) 2)))))) (iv) := s_X11_isEnd e (by exact hk)
    refine w_call hc2 rfl (pz_cokI is_154 rfl) ?_
    refine w_beq (fun h3 => ?_) (fun h3 => ?_)
    · refine pz_G_of pz_b257_24 ?_
      refine w_loc rfl ?_
      refine w_loc rfl ?_
      have hc4 : pz_R (pz_Sh L) 256 [.inr (.inl 154), .inl e] (iv) (.inl (some (.inl (pz_bi (q_bh (iv 158) (iv 160) (iv 155) e))))) (iv) := s_X11_isBehind e (by exact hk) (by omega)
      refine w_call hc4 rfl (pz_cokI is_154 rfl) ?_
      refine w_beq (fun h5 => ?_) (fun h5 => ?_)
      · refine pz_G_of pz_b257_35 ?_
        refine w_loc rfl ?_
        refine w_loc rfl ?_
        refine w_loc rfl ?_
        have hc6 : pz_R (pz_Sh L) 255 [.inr (.inl 154), .inl e, .inl m] (iv) (.inl (some (.inl (pz_bi (q_mw (iv 158) (iv 160) (iv 155) e m))))) (iv) := s_X11_mustWait e m (by exact hk) (by omega) (by omega) (by exact hv) (by exact ha)
        refine w_call hc6 rfl (pz_cokI is_154 rfl) ?_
        refine w_beq (fun h7 => ?_) (fun h7 => ?_)
        · refine pz_G_of pz_b257_47 ?_
          refine w_loc rfl ?_
          refine w_loc rfl ?_
          refine w_loc rfl ?_
          have hc8 : pz_R (pz_Sh L) 253 [.inr (.inl 154), .inl e] (iv) (.inl (some (.inl (q_lo (iv 158) (iv 160) (iv 155) e)))) (iv) := s_X11_low e (by exact hk) (by omega) (by exact hv) (by exact ha)
          refine w_call hc8 rfl (pz_cokI is_154 rfl) ?_
          refine w_ige (fun h9 => ?_) (fun h9 => ?_)
          · refine pz_G_of pz_b257_59 ?_
            refine w_loc rfl ?_
            refine w_loc rfl ?_
            refine w_loc rfl ?_
            have hc10 : pz_R (pz_Sh L) 254 [.inr (.inl 154), .inl e] (iv) (.inl (some (.inl (q_hi (iv 158) (iv 160) (iv 155) e)))) (iv) := s_X11_high e (by exact hk) (by omega) (by exact hv) (by exact ha)
            refine w_call hc10 rfl (pz_cokI is_154 rfl) ?_
            refine w_ile (fun h11 => ?_) (fun h11 => ?_)
            · refine pz_G_of pz_b257_73 ?_
              refine w_pure rfl ?_
              refine w_nil ?_
              refine pz_G_of pz_b257_75 ?_
              refine w_ret (pz_rok2 (by omega)) ?_
              exact lf_i (by unfold q_rs; first | rw [q_if_t (by omega)] | (rw [q_if_f (by omega)]; first | rw [q_if_t (by assumption)] | (rw [q_if_f (by assumption)]; first | rw [q_if_t (by assumption)] | (rw [q_if_f (by assumption)]; first | rw [q_if_t (by assumption)] | (rw [q_if_f (by assumption)]; first | rw [q_if_t (by omega)] | (rw [q_if_f (by omega)]; first | rw [q_if_t (by omega)] | rw [q_if_f (by omega)])))))) rfl
            · refine w_pure rfl ?_
              refine w_goto ?_
              refine pz_G_of pz_b257_75 ?_
              refine w_ret (pz_rok2 (by omega)) ?_
              exact lf_i (by unfold q_rs; first | rw [q_if_t (by omega)] | (rw [q_if_f (by omega)]; first | rw [q_if_t (by assumption)] | (rw [q_if_f (by assumption)]; first | rw [q_if_t (by assumption)] | (rw [q_if_f (by assumption)]; first | rw [q_if_t (by assumption)] | (rw [q_if_f (by assumption)]; first | rw [q_if_t (by omega)] | (rw [q_if_f (by omega)]; first | rw [q_if_t (by omega)] | rw [q_if_f (by omega)])))))) rfl
          · refine w_pure rfl ?_
            refine w_ret (pz_rok2 (by omega)) ?_
            exact lf_i (by unfold q_rs; first | rw [q_if_t (by omega)] | (rw [q_if_f (by omega)]; first | rw [q_if_t (by assumption)] | (rw [q_if_f (by assumption)]; first | rw [q_if_t (by assumption)] | (rw [q_if_f (by assumption)]; first | rw [q_if_t (by assumption)] | (rw [q_if_f (by assumption)]; first | rw [q_if_t (by omega)] | (rw [q_if_f (by omega)]; first | rw [q_if_t (by omega)] | rw [q_if_f (by omega)])))))) rfl
        · refine w_pure rfl ?_
          refine w_ret (pz_rok2 (by omega)) ?_
          exact lf_i (by unfold q_rs; first | rw [q_if_t (by omega)] | (rw [q_if_f (by omega)]; first | rw [q_if_t (by assumption)] | (rw [q_if_f (by assumption)]; first | rw [q_if_t (by assumption)] | (rw [q_if_f (by assumption)]; first | rw [q_if_t (by assumption)] | (rw [q_if_f (by assumption)]; first | rw [q_if_t (by omega)] | (rw [q_if_f (by omega)]; first | rw [q_if_t (by omega)] | rw [q_if_f (by omega)])))))) rfl
      · refine w_pure rfl ?_
        refine w_ret (pz_rok2 (by omega)) ?_
        exact lf_i (by unfold q_rs; first | rw [q_if_t (by omega)] | (rw [q_if_f (by omega)]; first | rw [q_if_t (by assumption)] | (rw [q_if_f (by assumption)]; first | rw [q_if_t (by assumption)] | (rw [q_if_f (by assumption)]; first | rw [q_if_t (by assumption)] | (rw [q_if_f (by assumption)]; first | rw [q_if_t (by omega)] | (rw [q_if_f (by omega)]; first | rw [q_if_t (by omega)] | rw [q_if_f (by omega)])))))) rfl
    · refine w_pure rfl ?_
      refine w_ret (pz_rok2 (by omega)) ?_
      exact lf_i (by unfold q_rs; first | rw [q_if_t (by omega)] | (rw [q_if_f (by omega)]; first | rw [q_if_t (by assumption)] | (rw [q_if_f (by assumption)]; first | rw [q_if_t (by assumption)] | (rw [q_if_f (by assumption)]; first | rw [q_if_t (by assumption)] | (rw [q_if_f (by assumption)]; first | rw [q_if_t (by omega)] | (rw [q_if_f (by omega)]; first | rw [q_if_t (by omega)] | rw [q_if_f (by omega)])))))) rfl
  · refine w_pure rfl ?_
    refine w_ret (pz_rok2 (by omega)) ?_
    exact lf_i (by unfold q_rs; first | rw [q_if_t (by omega)] | (rw [q_if_f (by omega)]; first | rw [q_if_t (by assumption)] | (rw [q_if_f (by assumption)]; first | rw [q_if_t (by assumption)] | (rw [q_if_f (by assumption)]; first | rw [q_if_t (by assumption)] | (rw [q_if_f (by assumption)]; first | rw [q_if_t (by omega)] | (rw [q_if_f (by omega)]; first | rw [q_if_t (by omega)] | rw [q_if_f (by omega)])))))) rfl
