
theorem s_X11_clears {L : Nat} {iv : Nat → Nat → Int} : pz_R (pz_Sh L) 223 [.inr (.inl 154)] iv (.inl none) (pz_u1 iv 157 (q_clr (iv 157))) := by
  intro dv cc ss
  refine pz_G_mem (iv2 := pz_u1 iv 157 (iv 157)) (by exact (pz_u1_self iv 157).symm) ?_
  show pz_G 223 0 [some (.inr (.inl 154)), none] [] (pz_Sh L, pz_u1 iv 157 (iv 157), dv, cc, ss) (pz_P (pz_Sh L) (.inl none) (pz_u1 iv 157 (q_clr (iv 157))) dv cc ss)
  refine pz_G_of pz_b223_0 ?_
  refine w_pure rfl ?_
  refine w_loc (ls' := [some (.inr (.inl 154)), some (.inl 0)]) (st' := []) rfl ?_
  refine w_nil ?_
  have lp2 : ∀ (dd : Nat) (i : Int) (f : Nat → Int) , (100 - i).toNat = dd → ∀ (hi : 0 ≤ i ∧ i ≤ 100), ∀ (hf : ∀ j : Nat, f j = if (j : Int) < i then (if j % 11 = 0 then 0 else 1000000) else (iv 157) j),  pz_G 223 2 [some (.inr (.inl 154)), some (.inl i)] [] (pz_Sh L, pz_u1 iv 157 f, dv, cc, ss) (pz_P (pz_Sh L) (.inl none) (pz_u1 iv 157 (q_clr (iv 157))) dv cc ss) := by
    intro dd2
    induction dd2 using Nat.strongRecOn with
    | _ dd2 ih2 =>
    intro i f  hd2 hi hf
    refine pz_G_of pz_b223_2 ?_
    refine w_loc rfl ?_
    refine w_pure rfl ?_
    refine w_ige (fun h1 => ?_) (fun h1 => ?_)
    · refine pz_G_of pz_b223_33 ?_
      refine w_vret ?_
      exact lf_v (by rw [show f = q_clr (iv 157) from by funext j; rw [hf j]; unfold q_clr; (repeat' split) <;> first | rfl | omega])
    · refine w_loc rfl ?_
      refine w_getR (q := 157) is_154 rf_154_4 ?_
      refine w_loc rfl ?_
      refine w_loc rfl ?_
      refine w_pure rfl ?_
      refine w_iremp (by omega) ?_
      refine w_zne (fun h2 => ?_) (fun h2 => ?_)
      · refine pz_G_of pz_b223_24 ?_
        refine w_ldcv (v := 1000000) rfl ?_
        refine w_nil ?_
        refine pz_G_of pz_b223_26 ?_
        refine w_iastm (iv2 := pz_u1 iv 157 (pz_up f i.toNat 1000000)) is_157 ln_157 ⟨by omega, by omega⟩ (by exact pz_u2_top _ _ _ _ _) ?_
        refine w_iinc (ls' := [some (.inr (.inl 154)), some (.inl (i + 1))]) rfl rfl rfl (by omega) ?_
        refine w_goto ?_
        exact ih2 _ (by omega) (i + 1) (pz_up f i.toNat 1000000)  rfl (by omega) (by intro j; rw [pz_up_at, hf j]; (repeat' split) <;> first | rfl | omega)
      · refine w_pure rfl ?_
        refine w_goto ?_
        refine pz_G_of pz_b223_26 ?_
        refine w_iastm (iv2 := pz_u1 iv 157 (pz_up f i.toNat 0)) is_157 ln_157 ⟨by omega, by omega⟩ (by exact pz_u2_top _ _ _ _ _) ?_
        refine w_iinc (ls' := [some (.inr (.inl 154)), some (.inl (i + 1))]) rfl rfl rfl (by omega) ?_
        refine w_goto ?_
        exact ih2 _ (by omega) (i + 1) (pz_up f i.toNat 0)  rfl (by omega) (by intro j; rw [pz_up_at, hf j]; (repeat' split) <;> first | rfl | omega)
  exact lp2 _ 0 (iv 157)  rfl (by omega) (by intro j; rw [if_neg (by omega)])

theorem s_X11_edge {L : Nat} {iv : Nat → Nat → Int} (i : Int) (j : Int) (w : Int) (hi : 0 ≤ i ∧ i ≤ 9) (hj : 0 ≤ j ∧ j ≤ 9) : pz_R (pz_Sh L) 224 [.inr (.inl 154), .inl i, .inl j, .inl w] iv (.inl none) (pz_u1 iv 157 (q_eg (iv 157) i j w)) := by
  intro dv cc ss
  refine pz_G_mem (iv2 := pz_u1 iv 157 (iv 157)) (by exact (pz_u1_self iv 157).symm) ?_
  show pz_G 224 0 [some (.inr (.inl 154)), some (.inl i), some (.inl j), some (.inl w)] [] (pz_Sh L, pz_u1 iv 157 (iv 157), dv, cc, ss) (pz_P (pz_Sh L) (.inl none) (pz_u1 iv 157 (q_eg (iv 157) i j w)) dv cc ss)
  refine pz_G_of pz_b224_0 ?_
  refine w_loc rfl ?_
  refine w_loc rfl ?_
  refine w_getR (q := 157) is_154 rf_154_4 ?_
  refine w_pure rfl ?_
  refine w_loc rfl ?_
  refine w_imul (by omega) ?_
  refine w_loc rfl ?_
  refine w_iadd (by omega) ?_
  refine w_iald (v := (iv 157) ((10 * i) + j).toNat) is_157 ln_157 ⟨by omega, by omega⟩ rfl ?_
  refine w_ige (fun h1 => ?_) (fun h1 => ?_)
  · refine pz_G_of pz_b224_27 ?_
    refine w_vret ?_
    exact lf_v (by unfold q_eg q_lw; first | rw [q_if_t (by omega)] | rw [q_if_f (by omega)])
  · refine w_loc rfl ?_
    refine w_getR (q := 157) is_154 rf_154_4 ?_
    refine w_pure rfl ?_
    refine w_loc rfl ?_
    refine w_imul (by omega) ?_
    refine w_loc rfl ?_
    refine w_iadd (by omega) ?_
    refine w_loc rfl ?_
    refine w_iastm (iv2 := pz_u1 iv 157 (pz_up (iv 157) ((10 * i) + j).toNat w)) is_157 ln_157 ⟨by omega, by omega⟩ (by exact pz_u2_top _ _ _ _ _) ?_
    refine w_nil ?_
    refine pz_G_of pz_b224_27 ?_
    refine w_vret ?_
    exact lf_v (by unfold q_eg q_lw; first | rw [q_if_t (by omega)] | rw [q_if_f (by omega)])

theorem s_X11_bounds {L : Nat} {iv : Nat → Nat → Int} (hk : q_KR (iv 155)) : pz_R (pz_Sh L) 225 [.inr (.inl 154)] iv (.inl none) (pz_u1 iv 157 (q_bds (iv 155) (iv 161) (iv 157))) := by
  intro dv cc ss
  have hk0 := hk.r0
  refine pz_G_mem (iv2 := pz_u1 iv 157 (iv 157)) (by exact (pz_u1_self iv 157).symm) ?_
  show pz_G 225 0 [some (.inr (.inl 154)), none] [] (pz_Sh L, pz_u1 iv 157 (iv 157), dv, cc, ss) (pz_P (pz_Sh L) (.inl none) (pz_u1 iv 157 (q_bds (iv 155) (iv 161) (iv 157))) dv cc ss)
  refine pz_G_of pz_b225_0 ?_
  refine w_loc rfl ?_
  have hc1 : pz_R (pz_Sh L) 223 [.inr (.inl 154)] (pz_u1 iv 157 (iv 157)) (.inl none) (pz_u1 iv 157 (q_clr (iv 157))) := pz_R_mem (s_X11_clears) (by rw [pz_u1_top (r := 157)]; rfl)
  refine w_callv hc1 rfl (pz_cokI is_154 rfl) ?_
  refine w_pure rfl ?_
  refine w_loc (ls' := [some (.inr (.inl 154)), some (.inl 0)]) (st' := []) rfl ?_
  refine w_nil ?_
  have lp6 : ∀ (dd : Nat) (b : Int) (f : Nat → Int) , ((iv 155) 1 - b).toNat = dd → ∀ (hb : 0 ≤ b ∧ b ≤ (iv 155) 1), ∀ (hf : f = q_fr (q_bdE (iv 155) (iv 161)) 0 b (q_clr (iv 157))),  pz_G 225 6 [some (.inr (.inl 154)), some (.inl b)] [] (pz_Sh L, pz_u1 iv 157 f, dv, cc, ss) (pz_P (pz_Sh L) (.inl none) (pz_u1 iv 157 (q_bds (iv 155) (iv 161) (iv 157))) dv cc ss) := by
    intro dd6
    induction dd6 using Nat.strongRecOn with
    | _ dd6 ih6 =>
    intro b f  hd6 hb hf
    have hbr := fun h => hk.bd hb.1 h
    refine pz_G_of pz_b225_6 ?_
    refine w_loc rfl ?_
    refine w_loc rfl ?_
    refine w_getR (q := 155) is_154 rf_154_1 ?_
    refine w_pure rfl ?_
    refine w_iald (v := (iv 155) 1) is_155 ln_155 ⟨by omega, by omega⟩ rfl ?_
    refine w_ige (fun h2 => ?_) (fun h2 => ?_)
    · refine pz_G_of pz_b225_80 ?_
      refine w_pure rfl ?_
      refine w_loc (ls' := [some (.inr (.inl 154)), some (.inl 1)]) (st' := []) rfl ?_
      refine w_nil ?_
      have lp82 : ∀ (dd : Nat) (e : Int) (f2 : Nat → Int) , ((iv 155) 0 - e).toNat = dd → ∀ (he : 1 ≤ e ∧ e ≤ (iv 155) 0), ∀ (hf2 : f2 = q_fr (q_stE (iv 155)) 1 e (q_fr (q_bdE (iv 155) (iv 161)) 0 ((iv 155) 1) (q_clr (iv 157)))),  pz_G 225 82 [some (.inr (.inl 154)), some (.inl e)] [] (pz_Sh L, pz_u1 iv 157 f2, dv, cc, ss) (pz_P (pz_Sh L) (.inl none) (pz_u1 iv 157 (q_bds (iv 155) (iv 161) (iv 157))) dv cc ss) := by
        intro dd82
        induction dd82 using Nat.strongRecOn with
        | _ dd82 ih82 =>
        intro e f2  hd82 he hf2
        have her := hk.st (e := e) (by omega)
        refine pz_G_of pz_b225_82 ?_
        refine w_loc rfl ?_
        refine w_loc rfl ?_
        refine w_getR (q := 155) is_154 rf_154_1 ?_
        refine w_pure rfl ?_
        refine w_iald (v := (iv 155) 0) is_155 ln_155 ⟨by omega, by omega⟩ rfl ?_
        refine w_ige (fun h3 => ?_) (fun h3 => ?_)
        · refine pz_G_of pz_b225_140 ?_
          refine w_vret ?_
          exact lf_v (by rw [hf2, show e = (iv 155) 0 by omega]; rfl)
        · refine w_loc rfl ?_
          refine w_loc rfl ?_
          have hc4 : pz_R (pz_Sh L) 196 [.inr (.inl 154), .inl e] (pz_u1 iv 157 f2) (.inl (some (.inl (pz_bi (q_sta (iv 155) e))))) (pz_u1 iv 157 f2) := s_X11_hasStarted e (by show 0 ≤ e ∧ e ≤ 9; omega)
          refine w_call hc4 rfl (pz_cokI is_154 rfl) ?_
          refine w_bne (fun h5 => ?_) (fun h5 => ?_)
          · refine pz_G_of pz_b225_103 ?_
            refine w_loc rfl ?_
            refine w_pure rfl ?_
            refine w_loc rfl ?_
            refine w_loc rfl ?_
            refine w_getR (q := 155) is_154 rf_154_1 ?_
            refine w_pure rfl ?_
            refine w_loc rfl ?_
            refine w_iadd (by omega) ?_
            refine w_iald (v := (iv 155) (6 + e).toNat) is_155 ln_155 ⟨by omega, by omega⟩ rfl ?_
            have hc6 : pz_R (pz_Sh L) 224 [.inr (.inl 154), .inl 0, .inl e, .inl ((iv 155) (6 + e).toNat)] (pz_u1 iv 157 f2) (.inl none) (pz_u1 iv 157 (q_eg f2 0 e ((iv 155) (6 + e).toNat))) := pz_R_mem (s_X11_edge 0 e ((iv 155) (6 + e).toNat) (by show 0 ≤ 0 ∧ 0 ≤ 9; omega) (by show 0 ≤ e ∧ e ≤ 9; omega)) (by rw [pz_u1_top (r := 157)]; rfl)
            refine w_callv hc6 rfl (pz_cokI is_154 rfl) ?_
            refine w_loc rfl ?_
            refine w_loc rfl ?_
            refine w_pure rfl ?_
            refine w_loc rfl ?_
            refine w_getR (q := 155) is_154 rf_154_1 ?_
            refine w_pure rfl ?_
            refine w_loc rfl ?_
            refine w_iadd (by omega) ?_
            refine w_iald (v := (iv 155) (6 + e).toNat) is_155 ln_155 ⟨by omega, by omega⟩ rfl ?_
            refine w_ineg (by omega) ?_
            have hc7 : pz_R (pz_Sh L) 224 [.inr (.inl 154), .inl e, .inl 0, .inl (-((iv 155) (6 + e).toNat))] (pz_u1 iv 157 (q_eg f2 0 e ((iv 155) (6 + e).toNat))) (.inl none) (pz_u1 iv 157 (q_eg (q_eg f2 0 e ((iv 155) (6 + e).toNat)) e 0 (-((iv 155) (6 + e).toNat)))) := pz_R_mem (s_X11_edge e 0 (-((iv 155) (6 + e).toNat)) (by show 0 ≤ e ∧ e ≤ 9; omega) (by show 0 ≤ 0 ∧ 0 ≤ 9; omega)) (by rw [pz_u1_top (r := 157)]; rfl)
            refine w_callv hc7 rfl (pz_cokI is_154 rfl) ?_
            refine w_nil ?_
            refine pz_G_of pz_b225_134 ?_
            refine w_iinc (ls' := [some (.inr (.inl 154)), some (.inl (e + 1))]) rfl rfl rfl (by omega) ?_
            refine w_goto ?_
            exact ih82 _ (by omega) (e + 1) (q_eg (q_eg f2 0 e ((iv 155) (6 + e).toNat)) e 0 (-((iv 155) (6 + e).toNat)))  rfl (by omega) (by rw [q_fr_s (by omega), ← hf2]; unfold q_stE; first | rw [q_if_t (by omega)] | rw [q_if_f (by omega)])
          · refine w_goto ?_
            refine pz_G_of pz_b225_134 ?_
            refine w_iinc (ls' := [some (.inr (.inl 154)), some (.inl (e + 1))]) rfl rfl rfl (by omega) ?_
            refine w_goto ?_
            exact ih82 _ (by omega) (e + 1) f2  rfl (by omega) (by rw [q_fr_s (by omega), ← hf2]; unfold q_stE; first | rw [q_if_t (by omega)] | rw [q_if_f (by omega)])
      exact lp82 _ 1 f  rfl (by omega) (by rw [q_fr_0 (by omega), hf, show b = (iv 155) 1 by omega])
    · refine w_loc rfl ?_
      refine w_loc rfl ?_
      have hc8 : pz_R (pz_Sh L) 203 [.inr (.inl 154), .inl b] (pz_u1 iv 157 f) (.inl (some (.inl (pz_bi (q_hld (iv 155) b))))) (pz_u1 iv 157 f) := s_X11_holds b (by show 0 ≤ b ∧ b ≤ 39; omega) (by show (-4 ≤ (iv 155) (52 + 4 * b + 3).toNat ∧ (iv 155) (52 + 4 * b + 3).toNat ≤ 4) ∨ (iv 155) (52 + 4 * b + 3).toNat = 99; omega)
      refine w_call hc8 rfl (pz_cokI is_154 rfl) ?_
      refine w_beq (fun h9 => ?_) (fun h9 => ?_)
      · refine pz_G_of pz_b225_74 ?_
        refine w_iinc (ls' := [some (.inr (.inl 154)), some (.inl (b + 1))]) rfl rfl rfl (by omega) ?_
        refine w_goto ?_
        exact ih6 _ (by omega) (b + 1) f  rfl (by omega) (by rw [q_fr_s (by omega), ← hf]; unfold q_bdE; first | rw [q_if_t (by omega)] | rw [q_if_f (by omega)])
      · refine w_loc rfl ?_
        refine w_getR (q := 161) is_154 rf_154_10 ?_
        refine w_loc rfl ?_
        refine w_bald (v := (iv 161) b.toNat) is_161 ln_161 ⟨by omega, by omega⟩ rfl ?_
        refine w_zne (fun h10 => ?_) (fun h10 => ?_)
        · refine pz_G_of pz_b225_74 ?_
          refine w_iinc (ls' := [some (.inr (.inl 154)), some (.inl (b + 1))]) rfl rfl rfl (by omega) ?_
          refine w_goto ?_
          exact ih6 _ (by omega) (b + 1) f  rfl (by omega) (by rw [q_fr_s (by omega), ← hf]; unfold q_bdE; first | rw [q_if_t (by omega)] | rw [q_if_f (by omega)])
        · refine w_loc rfl ?_
          refine w_loc rfl ?_
          refine w_getR (q := 155) is_154 rf_154_1 ?_
          refine w_pure rfl ?_
          refine w_pure rfl ?_
          refine w_loc rfl ?_
          refine w_imul (by omega) ?_
          refine w_iadd (by omega) ?_
          refine w_iald (v := (iv 155) (52 + (4 * b)).toNat) is_155 ln_155 ⟨by omega, by omega⟩ rfl ?_
          refine w_loc rfl ?_
          refine w_getR (q := 155) is_154 rf_154_1 ?_
          refine w_pure rfl ?_
          refine w_pure rfl ?_
          refine w_loc rfl ?_
          refine w_imul (by omega) ?_
          refine w_iadd (by omega) ?_
          refine w_pure rfl ?_
          refine w_iadd (by omega) ?_
          refine w_iald (v := (iv 155) ((52 + (4 * b)) + 1).toNat) is_155 ln_155 ⟨by omega, by omega⟩ rfl ?_
          refine w_loc rfl ?_
          refine w_getR (q := 155) is_154 rf_154_1 ?_
          refine w_pure rfl ?_
          refine w_pure rfl ?_
          refine w_loc rfl ?_
          refine w_imul (by omega) ?_
          refine w_iadd (by omega) ?_
          refine w_pure rfl ?_
          refine w_iadd (by omega) ?_
          refine w_iald (v := (iv 155) ((52 + (4 * b)) + 2).toNat) is_155 ln_155 ⟨by omega, by omega⟩ rfl ?_
          have hc11 : pz_R (pz_Sh L) 224 [.inr (.inl 154), .inl ((iv 155) (52 + (4 * b)).toNat), .inl ((iv 155) ((52 + (4 * b)) + 1).toNat), .inl ((iv 155) ((52 + (4 * b)) + 2).toNat)] (pz_u1 iv 157 f) (.inl none) (pz_u1 iv 157 (q_eg f ((iv 155) (52 + (4 * b)).toNat) ((iv 155) ((52 + (4 * b)) + 1).toNat) ((iv 155) ((52 + (4 * b)) + 2).toNat))) := pz_R_mem (s_X11_edge ((iv 155) (52 + (4 * b)).toNat) ((iv 155) ((52 + (4 * b)) + 1).toNat) ((iv 155) ((52 + (4 * b)) + 2).toNat) (by show 0 ≤ ((iv 155) (52 + (4 * b)).toNat) ∧ ((iv 155) (52 + (4 * b)).toNat) ≤ 9; omega) (by show 0 ≤ ((iv 155) ((52 + (4 * b)) + 1).toNat) ∧ ((iv 155) ((52 + (4 * b)) + 1).toNat) ≤ 9; omega)) (by rw [pz_u1_top (r := 157)]; rfl)
          refine w_callv hc11 rfl (pz_cokI is_154 rfl) ?_
          refine w_nil ?_
          refine pz_G_of pz_b225_74 ?_
          refine w_iinc (ls' := [some (.inr (.inl 154)), some (.inl (b + 1))]) rfl rfl rfl (by omega) ?_
          refine w_goto ?_
          exact ih6 _ (by omega) (b + 1) (q_eg f ((iv 155) (52 + (4 * b)).toNat) ((iv 155) ((52 + (4 * b)) + 1).toNat) ((iv 155) ((52 + (4 * b)) + 2).toNat))  rfl (by omega) (by rw [q_fr_s (by omega), ← hf]; unfold q_bdE; first | rw [q_if_t (by omega)] | rw [q_if_f (by omega)])
  exact lp6 _ 0 (q_clr (iv 157))  rfl (by omega) (by rw [q_fr_0 (by omega)])
