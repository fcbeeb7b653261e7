
theorem s_X8_takeUp {L : Nat} {iv : Nat → Nat → Int} {k : Nat → Int} (hk : q_KR k) (hS : q_cS k (iv 10) (iv 11) (iv 12) (iv 13) (iv 14)) (hC : q_cC k (iv 15) (iv 16)) : pz_R (pz_Sh L) 89 [.inr (.inl 142), .inr (.inl 138)] iv (.inl none) (pz_u1 (pz_u1 iv 143 (q_cp 100 (iv 140) (iv 143))) 145 (q_tu k (iv 145))) := by
  intro dv cc ss
  have hk0 := hk.r0
  have hS0 := hS.1
  have hC0 := hC.1
  refine pz_G_mem (iv2 := pz_u1 (pz_u1 iv 143 (iv 143)) 145 (iv 145)) (by exact ((pz_u1_self iv 143).symm).trans (pz_u1_self (pz_u1 iv 143 (iv 143)) 145).symm) ?_
  show pz_G 89 0 [some (.inr (.inl 142)), some (.inr (.inl 138)), none, none] [] (pz_Sh L, pz_u1 (pz_u1 iv 143 (iv 143)) 145 (iv 145), dv, cc, ss) (pz_P (pz_Sh L) (.inl none) (pz_u1 (pz_u1 iv 143 (q_cp 100 (iv 140) (iv 143))) 145 (q_tu k (iv 145))) dv cc ss)
  refine pz_G_of pz_b89_0 ?_
  refine w_loc rfl ?_
  refine w_getR (q := 140) is_138 rf_138_3 ?_
  refine w_pure rfl ?_
  refine w_loc rfl ?_
  refine w_getR (q := 143) is_142 rf_142_4 ?_
  refine w_pure rfl ?_
  refine w_pure rfl ?_
  refine w_cpym (K := 20) (iv2 := pz_u1 (pz_u1 iv 143 (q_cp 100 (iv 140) (iv 143))) 145 (iv 145)) rfl is_140 is_143 (by decide) (by decide) ln_140 ln_143 (by decide) (by decide) (by show pz_u1 (pz_u1 (pz_u1 iv 143 (iv 143)) 145 (iv 145)) 143 (q_cp 100 (iv 140) (iv 143)) = _; rw [pz_u1_in (r := 143) (q := 145) (by decide)]; rw [pz_u1_top]) ?_
  refine w_pure rfl ?_
  refine w_loc (ls' := [some (.inr (.inl 142)), some (.inr (.inl 138)), some (.inl 0), none]) (st' := []) rfl ?_
  refine w_nil ?_
  have lp17 : ∀ (dd : Nat) (c : Int) (f : Nat → Int) (u17_3 : Option pz_V) (hu17_3 : pz_nc u17_3 = true), (30 - c).toNat = dd → ∀ (hc : 0 ≤ c ∧ c ≤ 30), ∀ (hf : ∀ j : Nat, f j = if (j : Int) < c then 1000000000 else iv 145 j),  pz_G 89 17 [some (.inr (.inl 142)), some (.inr (.inl 138)), some (.inl c), u17_3] [] (pz_Sh L, pz_u1 (pz_u1 iv 143 (q_cp 100 (iv 140) (iv 143))) 145 f, dv, cc, ss) (pz_P (pz_Sh L) (.inl none) (pz_u1 (pz_u1 iv 143 (q_cp 100 (iv 140) (iv 143))) 145 (q_tu k (iv 145))) dv cc ss) := by
    intro dd17
    induction dd17 using Nat.strongRecOn with
    | _ dd17 ih17 =>
    intro c f u17_3 hu17_3 hd17 hc hf
    refine pz_G_of pz_b89_17 ?_
    refine w_loc rfl ?_
    refine w_pure rfl ?_
    refine w_ige (fun h1 => ?_) (fun h1 => ?_)
    · refine pz_G_of pz_b89_37 ?_
      refine w_pure rfl ?_
      refine w_loc (ls' := [some (.inr (.inl 142)), some (.inr (.inl 138)), some (.inl 0), u17_3]) (st' := []) rfl ?_
      refine w_nil ?_
      have lp39 : ∀ (dd : Nat) (s : Int) (u : Nat → Int) (u39_3 : Option pz_V) (hu39_3 : pz_nc u39_3 = true), (k 2 - s).toNat = dd → ∀ (hs : 0 ≤ s ∧ s ≤ k 2), ∀ (hu : u = q_fr (q_tuS k) 0 s (fun j => if j < 30 then 1000000000 else iv 145 j)),  pz_G 89 39 [some (.inr (.inl 142)), some (.inr (.inl 138)), some (.inl s), u39_3] [] (pz_Sh L, pz_u1 (pz_u1 iv 143 (q_cp 100 (iv 140) (iv 143))) 145 u, dv, cc, ss) (pz_P (pz_Sh L) (.inl none) (pz_u1 (pz_u1 iv 143 (q_cp 100 (iv 140) (iv 143))) 145 (q_tu k (iv 145))) dv cc ss) := by
        intro dd39
        induction dd39 using Nat.strongRecOn with
        | _ dd39 ih39 =>
        intro s u u39_3 hu39_3 hd39 hs hu
        have hsp := fun h => hk.sp hs.1 h
        refine pz_G_of pz_b89_39 ?_
        refine w_loc rfl ?_
        refine w_loc rfl ?_
        refine w_getR (q := 3) is_142 rf_142_0 ?_
        refine w_getR (q := 10) is_3 rf_3_2 ?_
        refine w_getI (v := (iv 10) 0) is_10 (by decide) rfl ?_
        refine w_ige (fun h2 => ?_) (fun h2 => ?_)
        · refine pz_G_of pz_b89_114 ?_
          refine w_vret ?_
          first | exact lf_v (by rw [hu, show s = k 2 by omega]; rfl) | (exfalso; omega)
        · refine w_loc rfl ?_
          refine w_pure rfl ?_
          refine w_ige (fun h3 => ?_) (fun h3 => ?_)
          · refine pz_G_of pz_b89_114 ?_
            refine w_vret ?_
            first | exact lf_v (by rw [hu, show s = k 2 by omega]; rfl) | (exfalso; omega)
          · refine w_loc rfl ?_
            refine w_getR (q := 3) is_142 rf_142_0 ?_
            refine w_getR (q := 10) is_3 rf_3_2 ?_
            refine w_loc rfl ?_
            have hc4 : pz_R (pz_Sh L) 111 [.inr (.inl 10), .inl s] (pz_u1 (pz_u1 iv 143 (q_cp 100 (iv 140) (iv 143))) 145 u) (.inl (some (.inl (k (212 + 4 * s + 1).toNat)))) (pz_u1 (pz_u1 iv 143 (q_cp 100 (iv 140) (iv 143))) 145 u) := s_X9_endOf s (by show q_KR k; exact hk) (by show q_cS k (iv 10) (iv 11) (iv 12) (iv 13) (iv 14); exact hS) (by show 0 ≤ s ∧ s < k 2; omega)
            refine w_call hc4 rfl (pz_cokI is_10 rfl) ?_
            refine w_loc (ls' := [some (.inr (.inl 142)), some (.inr (.inl 138)), some (.inl s), some (.inl (k (212 + 4 * s + 1).toNat))]) (st' := []) rfl ?_
            refine w_loc rfl ?_
            refine w_loc rfl ?_
            have hc5 : pz_R (pz_Sh L) 90 [.inr (.inl 142), .inl s] (pz_u1 (pz_u1 iv 143 (q_cp 100 (iv 140) (iv 143))) 145 u) (.inl (some (.inl (pz_bi (¬ q_sta k (k (212 + 4 * s + 1).toNat)))))) (pz_u1 (pz_u1 iv 143 (q_cp 100 (iv 140) (iv 143))) 145 u) := s_X8_isOpen s (by show q_KR k; exact hk) (by show q_cS k (iv 10) (iv 11) (iv 12) (iv 13) (iv 14); exact hS) (by show q_cC k (iv 15) (iv 16); exact hC) (by show 0 ≤ s ∧ s < k 2; omega)
            refine w_call hc5 rfl (pz_cokI is_142 rfl) ?_
            refine w_beq (fun h6 => ?_) (fun h6 => ?_)
            · refine pz_G_of pz_b89_108 ?_
              refine w_iinc (ls' := [some (.inr (.inl 142)), some (.inr (.inl 138)), some (.inl (s + 1)), some (.inl (k (212 + 4 * s + 1).toNat))]) rfl rfl rfl (by omega) ?_
              refine w_goto ?_
              exact ih39 _ (by omega) (s + 1) u (some (.inl (k (212 + 4 * s + 1).toNat))) rfl rfl (by omega) (by rw [q_fr_s (by omega), ← hu]; unfold q_tuS; first | (exfalso; omega) | rw [q_if_t (Classical.not_not.mp (by assumption))] | rw [q_if_f (by assumption)])
            · refine w_loc rfl ?_
              have hc7 : pz_R (pz_Sh L) 187 [.inl (k (212 + 4 * s + 1).toNat)] (pz_u1 (pz_u1 iv 143 (q_cp 100 (iv 140) (iv 143))) 145 u) (.inl (some (.inl (pz_bi (0 ≤ (k (212 + 4 * s + 1).toNat) ∧ (k (212 + 4 * s + 1).toNat) < 10))))) (pz_u1 (pz_u1 iv 143 (q_cp 100 (iv 140) (iv 143))) 145 u) := s_X10_isEventNumber (k (212 + 4 * s + 1).toNat)
              refine w_call hc7 rfl rfl ?_
              refine w_beq (fun h8 => ?_) (fun h8 => ?_)
              · refine pz_G_of pz_b89_108 ?_
                refine w_iinc (ls' := [some (.inr (.inl 142)), some (.inr (.inl 138)), some (.inl (s + 1)), some (.inl (k (212 + 4 * s + 1).toNat))]) rfl rfl rfl (by omega) ?_
                refine w_goto ?_
                exact ih39 _ (by omega) (s + 1) u (some (.inl (k (212 + 4 * s + 1).toNat))) rfl rfl (by omega) (by rw [q_fr_s (by omega), ← hu]; unfold q_tuS; first | (exfalso; omega) | rw [q_if_t (Classical.not_not.mp (by assumption))] | rw [q_if_f (by assumption)])
              · refine w_loc rfl ?_
                refine w_getR (q := 145) is_142 rf_142_6 ?_
                refine w_loc rfl ?_
                refine w_pure rfl ?_
                refine w_imulc (by omega) ?_
                refine w_loc rfl ?_
                refine w_iadd (by omega) ?_
                refine w_loc rfl ?_
                refine w_getR (q := 3) is_142 rf_142_0 ?_
                refine w_getR (q := 10) is_3 rf_3_2 ?_
                refine w_loc rfl ?_
                have hc9 : pz_R (pz_Sh L) 113 [.inr (.inl 10), .inl s] (pz_u1 (pz_u1 iv 143 (q_cp 100 (iv 140) (iv 143))) 145 u) (.inl (some (.inl (k (212 + 4 * s + 3).toNat)))) (pz_u1 (pz_u1 iv 143 (q_cp 100 (iv 140) (iv 143))) 145 u) := s_X9_greatestOf s (by show q_KR k; exact hk) (by show q_cS k (iv 10) (iv 11) (iv 12) (iv 13) (iv 14); exact hS) (by show 0 ≤ s ∧ s < k 2; omega)
                refine w_call hc9 rfl (pz_cokI is_10 rfl) ?_
                refine w_ineg (by omega) ?_
                refine w_iastm (iv2 := pz_u1 (pz_u1 iv 143 (q_cp 100 (iv 140) (iv 143))) 145 (pz_up u ((10 * s) + (k (212 + 4 * s + 1).toNat)).toNat (-(k (212 + 4 * s + 3).toNat)))) is_145 ln_145 ⟨by omega, by omega⟩ (by exact pz_u2_top _ _ _ _ _) ?_
                refine w_nil ?_
                refine pz_G_of pz_b89_108 ?_
                refine w_iinc (ls' := [some (.inr (.inl 142)), some (.inr (.inl 138)), some (.inl (s + 1)), some (.inl (k (212 + 4 * s + 1).toNat))]) rfl rfl rfl (by omega) ?_
                refine w_goto ?_
                exact ih39 _ (by omega) (s + 1) (pz_up u ((10 * s) + (k (212 + 4 * s + 1).toNat)).toNat (-(k (212 + 4 * s + 3).toNat))) (some (.inl (k (212 + 4 * s + 1).toNat))) rfl rfl (by omega) (by rw [q_fr_s (by omega), ← hu]; unfold q_tuS; first | (exfalso; omega) | rw [q_if_t (Classical.not_not.mp (by assumption))] | rw [q_if_f (by assumption)])
      exact lp39 _ 0 f u17_3 hu17_3 rfl (by omega) (by rw [q_fr_0 (by omega)]; funext j; rw [hf j]; (repeat' split) <;> first | rfl | omega)
    · refine w_loc rfl ?_
      refine w_getR (q := 145) is_142 rf_142_6 ?_
      refine w_loc rfl ?_
      refine w_ldcv (v := 1000000000) rfl ?_
      refine w_iastm (iv2 := pz_u1 (pz_u1 iv 143 (q_cp 100 (iv 140) (iv 143))) 145 (pz_up f c.toNat 1000000000)) is_145 ln_145 ⟨by omega, by omega⟩ (by exact pz_u2_top _ _ _ _ _) ?_
      refine w_iinc (ls' := [some (.inr (.inl 142)), some (.inr (.inl 138)), some (.inl (c + 1)), u17_3]) rfl rfl rfl (by omega) ?_
      refine w_goto ?_
      exact ih17 _ (by omega) (c + 1) (pz_up f c.toNat 1000000000) u17_3 hu17_3 rfl (by omega) (by intro j; rw [pz_up_at, hf j]; (repeat' split) <;> first | rfl | omega)
  exact lp17 _ 0 (iv 145) (none) rfl rfl (by omega) (by intro j; rw [if_neg (by omega)])

theorem s_X8_run {L : Nat} {iv : Nat → Nat → Int} {k : Nat → Int} (hk : q_KR k) (hE : q_cE k (iv 3)) (hS : q_cS k (iv 10) (iv 11) (iv 12) (iv 13) (iv 14)) (hC : q_cC k (iv 15) (iv 16)) (hNK : q_NK k (iv 138) (iv 139) (iv 140)) : pz_RE (pz_Sh L) 88 [.inr (.inl 142), .inr (.inl 138)] iv (.inl none) (fun iv9 => ∃ (m9 : Nat → Int) (V9 : Nat → Int) (W9 : Nat → Int) (U9 : Nat → Int) (Y9 : Nat → Int) (n9 : Nat → Int) (w9 : Nat → Int) (d9 : Nat → Int), iv9 = pz_u1 (pz_u1 (pz_u1 (pz_u1 (pz_u1 (pz_u1 (pz_u1 (pz_u1 iv 142 m9) 143 V9) 144 W9) 145 U9) 146 Y9) 147 n9) 148 w9) 149 d9 ∧ (q_RK k m9 V9 U9)) := by
  intro dv cc ss
  have hk0 := hk.r0
  have hE0 := hE
  have hS0 := hS.1
  have hC0 := hC.1
  have hN1 := hNK.2.1
  have hcy : iv 138 1 ≠ 0 → q_con k (fun _ => 0) := fun h => pz_bi_ne (by rw [← hN1]; exact h)
  have hcn : iv 138 1 = 0 → ¬ q_con k (fun _ => 0) := fun h => pz_bi_eq (by rw [← hN1]; exact h)
  refine pz_G_mem (iv2 := pz_u1 (pz_u1 (pz_u1 (pz_u1 (pz_u1 (pz_u1 (pz_u1 (pz_u1 iv 142 (iv 142)) 143 (iv 143)) 144 (iv 144)) 145 (iv 145)) 146 (iv 146)) 147 (iv 147)) 148 (iv 148)) 149 (iv 149)) (by exact ((((((((pz_u1_self iv 142).symm).trans (pz_u1_self (pz_u1 iv 142 (iv 142)) 143).symm).trans (pz_u1_self (pz_u1 (pz_u1 iv 142 (iv 142)) 143 (iv 143)) 144).symm).trans (pz_u1_self (pz_u1 (pz_u1 (pz_u1 iv 142 (iv 142)) 143 (iv 143)) 144 (iv 144)) 145).symm).trans (pz_u1_self (pz_u1 (pz_u1 (pz_u1 (pz_u1 iv 142 (iv 142)) 143 (iv 143)) 144 (iv 144)) 145 (iv 145)) 146).symm).trans (pz_u1_self (pz_u1 (pz_u1 (pz_u1 (pz_u1 (pz_u1 iv 142 (iv 142)) 143 (iv 143)) 144 (iv 144)) 145 (iv 145)) 146 (iv 146)) 147).symm).trans (pz_u1_self (pz_u1 (pz_u1 (pz_u1 (pz_u1 (pz_u1 (pz_u1 iv 142 (iv 142)) 143 (iv 143)) 144 (iv 144)) 145 (iv 145)) 146 (iv 146)) 147 (iv 147)) 148).symm).trans (pz_u1_self (pz_u1 (pz_u1 (pz_u1 (pz_u1 (pz_u1 (pz_u1 (pz_u1 iv 142 (iv 142)) 143 (iv 143)) 144 (iv 144)) 145 (iv 145)) 146 (iv 146)) 147 (iv 147)) 148 (iv 148)) 149).symm) ?_
  show pz_G 88 0 [some (.inr (.inl 142)), some (.inr (.inl 138)), none] [] (pz_Sh L, pz_u1 (pz_u1 (pz_u1 (pz_u1 (pz_u1 (pz_u1 (pz_u1 (pz_u1 iv 142 (iv 142)) 143 (iv 143)) 144 (iv 144)) 145 (iv 145)) 146 (iv 146)) 147 (iv 147)) 148 (iv 148)) 149 (iv 149), dv, cc, ss) (pz_PE (pz_Sh L) (.inl none) (fun iv9 => ∃ (m9 : Nat → Int) (V9 : Nat → Int) (W9 : Nat → Int) (U9 : Nat → Int) (Y9 : Nat → Int) (n9 : Nat → Int) (w9 : Nat → Int) (d9 : Nat → Int), iv9 = pz_u1 (pz_u1 (pz_u1 (pz_u1 (pz_u1 (pz_u1 (pz_u1 (pz_u1 iv 142 m9) 143 V9) 144 W9) 145 U9) 146 Y9) 147 n9) 148 w9) 149 d9 ∧ (q_RK k m9 V9 U9)) dv cc ss)
  refine pz_G_of pz_b88_0 ?_
  refine w_loc rfl ?_
  refine w_pure rfl ?_
  refine w_putIm (iv2 := pz_u1 (pz_u1 (pz_u1 (pz_u1 (pz_u1 (pz_u1 (pz_u1 (pz_u1 iv 142 (pz_up (iv 142) 1 0)) 143 (iv 143)) 144 (iv 144)) 145 (iv 145)) 146 (iv 146)) 147 (iv 147)) 148 (iv 148)) 149 (iv 149)) is_142 (pz_fit1 (Or.inl rfl)) (by rw [pz_u2_in (r := 142) (q := 149) (by decide)]; rw [pz_u2_in (r := 142) (q := 148) (by decide)]; rw [pz_u2_in (r := 142) (q := 147) (by decide)]; rw [pz_u2_in (r := 142) (q := 146) (by decide)]; rw [pz_u2_in (r := 142) (q := 145) (by decide)]; rw [pz_u2_in (r := 142) (q := 144) (by decide)]; rw [pz_u2_in (r := 142) (q := 143) (by decide)]; rw [pz_u2_top] <;> rfl) ?_
  refine w_loc rfl ?_
  refine w_pure rfl ?_
  refine w_putIm (iv2 := pz_u1 (pz_u1 (pz_u1 (pz_u1 (pz_u1 (pz_u1 (pz_u1 (pz_u1 iv 142 (pz_up (pz_up (iv 142) 1 0) 2 0)) 143 (iv 143)) 144 (iv 144)) 145 (iv 145)) 146 (iv 146)) 147 (iv 147)) 148 (iv 148)) 149 (iv 149)) is_142 pz_fit0 (by rw [pz_u2_in (r := 142) (q := 149) (by decide)]; rw [pz_u2_in (r := 142) (q := 148) (by decide)]; rw [pz_u2_in (r := 142) (q := 147) (by decide)]; rw [pz_u2_in (r := 142) (q := 146) (by decide)]; rw [pz_u2_in (r := 142) (q := 145) (by decide)]; rw [pz_u2_in (r := 142) (q := 144) (by decide)]; rw [pz_u2_in (r := 142) (q := 143) (by decide)]; rw [pz_u2_top] <;> rfl) ?_
  refine w_loc rfl ?_
  refine w_getI (v := (iv 138) 1) is_138 (by decide) rfl ?_
  refine w_zne (fun h1 => ?_) (fun h1 => ?_)
  · refine pz_G_of pz_b88_18 ?_
    have hcon := hcy (by assumption)
    refine w_loc rfl ?_
    refine w_loc rfl ?_
    have hc2 : pz_R (pz_Sh L) 89 [.inr (.inl 142), .inr (.inl 138)] (pz_u1 (pz_u1 (pz_u1 (pz_u1 (pz_u1 (pz_u1 (pz_u1 (pz_u1 iv 142 (pz_up (pz_up (iv 142) 1 0) 2 0)) 143 (iv 143)) 144 (iv 144)) 145 (iv 145)) 146 (iv 146)) 147 (iv 147)) 148 (iv 148)) 149 (iv 149)) (.inl none) (pz_u1 (pz_u1 (pz_u1 (pz_u1 (pz_u1 (pz_u1 (pz_u1 (pz_u1 iv 142 (pz_up (pz_up (iv 142) 1 0) 2 0)) 143 (q_cp 100 (iv 140) (iv 143))) 144 (iv 144)) 145 (q_tu k (iv 145))) 146 (iv 146)) 147 (iv 147)) 148 (iv 148)) 149 (iv 149)) := pz_R_mem (s_X8_takeUp (by show q_KR k; exact hk) (by show q_cS k (iv 10) (iv 11) (iv 12) (iv 13) (iv 14); exact hS) (by show q_cC k (iv 15) (iv 16); exact hC)) (by rw [pz_u1_in (r := 143) (q := 149) (by decide)]; rw [pz_u1_in (r := 143) (q := 148) (by decide)]; rw [pz_u1_in (r := 143) (q := 147) (by decide)]; rw [pz_u1_in (r := 143) (q := 146) (by decide)]; rw [pz_u1_in (r := 143) (q := 145) (by decide)]; rw [pz_u1_in (r := 143) (q := 144) (by decide)]; rw [pz_u1_top (r := 143)]; rw [pz_u1_in (r := 145) (q := 149) (by decide)]; rw [pz_u1_in (r := 145) (q := 148) (by decide)]; rw [pz_u1_in (r := 145) (q := 147) (by decide)]; rw [pz_u1_in (r := 145) (q := 146) (by decide)]; rw [pz_u1_top (r := 145)]; rfl)
    refine w_callv hc2 rfl (pz_cokI is_142 rfl) ?_
    refine w_pure rfl ?_
    refine w_loc (ls' := [some (.inr (.inl 142)), some (.inr (.inl 138)), some (.inl 0)]) (st' := []) rfl ?_
    refine w_nil ?_
    have lp25 : ∀ (dd : Nat) (n : Int) (m : Nat → Int) (V : Nat → Int) (W : Nat → Int) (U : Nat → Int) (Y : Nat → Int) (f1 : Nat → Int) (f2 : Nat → Int) (f3 : Nat → Int) , (60 - n).toNat = dd → ∀ (hn : 0 ≤ n ∧ n ≤ 60), ∀ (hfn : q_fn k n), ∀ (hr : q_RL k n V U), ∀ (hm1 : m 1 = 0), ∀ (hm2 : m 2 = n),  pz_G 88 25 [some (.inr (.inl 142)), some (.inr (.inl 138)), some (.inl n)] [] (pz_Sh L, pz_u1 (pz_u1 (pz_u1 (pz_u1 (pz_u1 (pz_u1 (pz_u1 (pz_u1 iv 142 m) 143 V) 144 W) 145 U) 146 Y) 147 f1) 148 f2) 149 f3, dv, cc, ss) (pz_PE (pz_Sh L) (.inl none) (fun iv9 => ∃ (m9 : Nat → Int) (V9 : Nat → Int) (W9 : Nat → Int) (U9 : Nat → Int) (Y9 : Nat → Int) (n9 : Nat → Int) (w9 : Nat → Int) (d9 : Nat → Int), iv9 = pz_u1 (pz_u1 (pz_u1 (pz_u1 (pz_u1 (pz_u1 (pz_u1 (pz_u1 iv 142 m9) 143 V9) 144 W9) 145 U9) 146 Y9) 147 n9) 148 w9) 149 d9 ∧ (q_RK k m9 V9 U9)) dv cc ss) := by
      intro dd25
      induction dd25 using Nat.strongRecOn with
      | _ dd25 ih25 =>
      intro n m V W U Y f1 f2 f3  hd25 hn hfn hr hm1 hm2
      have hrV := hr.2.1
      have hrU := hr.2.2
      refine pz_G_of pz_b88_25 ?_
      refine w_loc rfl ?_
      refine w_pure rfl ?_
      refine w_ige (fun h3 => ?_) (fun h3 => ?_)
      · refine pz_G_of pz_b88_79 ?_
        refine w_vret ?_
        first | exact ⟨pz_u1 (pz_u1 (pz_u1 (pz_u1 (pz_u1 (pz_u1 (pz_u1 (pz_u1 iv 142 m) 143 V) 144 W) 145 U) 146 Y) 147 f1) 148 f2) 149 f3, ⟨m, V, W, U, Y, f1, f2, f3, by rfl, by exact q_end (n := 59) hcon (by omega) (fun i g1 g2 => hfn i g1 (by omega)) (fun q => by omega) (by rw [show (59 : Int) + 1 = n by omega]; exact hr) (by rw [hm1]; exact pz_bi_f (fun q => q.2 ⟨(hfn 59 (by omega) (by omega)).2, rfl⟩)) (by rw [hm2, pz_bi_1 (hfn 59 (by omega) (by omega)).2]; omega)⟩, lf_v (by rfl)⟩ | (exfalso; omega)
      · refine w_loc rfl ?_
        have hc4 := s_X8_goRound (L := L) (iv := pz_u1 (pz_u1 (pz_u1 (pz_u1 (pz_u1 (pz_u1 (pz_u1 (pz_u1 iv 142 m) 143 V) 144 W) 145 U) 146 Y) 147 f1) 148 f2) 149 f3) (by show q_KR k; exact hk) (by show q_cE k (iv 3); exact hE) (by show q_cS k (iv 10) (iv 11) (iv 12) (iv 13) (iv 14); exact hS) (by show q_cC k (iv 15) (iv 16); exact hC) (by show q_rng 100 V; exact hrV) (by show q_rng 30 U; exact hrU)
        refine w_callvE hc4 rfl (pz_cokI is_142 rfl) (fun iv9 h9 => ?_)
        obtain ⟨m9_5, h9e, hmo⟩ := h9
        have h9x : iv9 = pz_u1 (pz_u1 (pz_u1 (pz_u1 (pz_u1 (pz_u1 (pz_u1 (pz_u1 iv 142 m9_5) 143 (q_cp 100 (q_rn k V U (q_cp 100 V W, q_cp 30 U Y)).1 V)) 144 ((q_rn k V U (q_cp 100 V W, q_cp 30 U Y)).1)) 145 (q_cp 30 (q_rn k V U (q_cp 100 V W, q_cp 30 U Y)).2 U)) 146 ((q_rn k V U (q_cp 100 V W, q_cp 30 U Y)).2)) 147 f1) 148 f2) 149 f3 := h9e.trans (by rw [pz_u1_in (r := 142) (q := 149) (by decide)]; rw [pz_u1_in (r := 142) (q := 148) (by decide)]; rw [pz_u1_in (r := 142) (q := 147) (by decide)]; rw [pz_u1_in (r := 142) (q := 146) (by decide)]; rw [pz_u1_in (r := 142) (q := 145) (by decide)]; rw [pz_u1_in (r := 142) (q := 144) (by decide)]; rw [pz_u1_in (r := 142) (q := 143) (by decide)]; rw [pz_u1_top (r := 142)]; rw [pz_u1_in (r := 143) (q := 149) (by decide)]; rw [pz_u1_in (r := 143) (q := 148) (by decide)]; rw [pz_u1_in (r := 143) (q := 147) (by decide)]; rw [pz_u1_in (r := 143) (q := 146) (by decide)]; rw [pz_u1_in (r := 143) (q := 145) (by decide)]; rw [pz_u1_in (r := 143) (q := 144) (by decide)]; rw [pz_u1_top (r := 143)]; rw [pz_u1_in (r := 144) (q := 149) (by decide)]; rw [pz_u1_in (r := 144) (q := 148) (by decide)]; rw [pz_u1_in (r := 144) (q := 147) (by decide)]; rw [pz_u1_in (r := 144) (q := 146) (by decide)]; rw [pz_u1_in (r := 144) (q := 145) (by decide)]; rw [pz_u1_top (r := 144)]; rw [pz_u1_in (r := 145) (q := 149) (by decide)]; rw [pz_u1_in (r := 145) (q := 148) (by decide)]; rw [pz_u1_in (r := 145) (q := 147) (by decide)]; rw [pz_u1_in (r := 145) (q := 146) (by decide)]; rw [pz_u1_top (r := 145)]; rw [pz_u1_in (r := 146) (q := 149) (by decide)]; rw [pz_u1_in (r := 146) (q := 148) (by decide)]; rw [pz_u1_in (r := 146) (q := 147) (by decide)]; rw [pz_u1_top (r := 146)] <;> rfl)
        subst h9x
        replace hmo : q_mvP m (q_cp 100 V W) (q_cp 30 U Y) (q_rn k V U (q_cp 100 V W, q_cp 30 U Y)).1 (q_rn k V U (q_cp 100 V W, q_cp 30 U Y)).2 m9_5 := hmo
        have hr2 := q_RL_s (V1 := W) (U1 := Y) (V2 := V) (U2 := U) hk hcon ⟨hn.1, by omega⟩ hfn hr
        have hmm := q_RL_m hk hcon ⟨hn.1, by omega⟩ hfn hr hmo
        have hmf1 := (hmo.2.2.2.2 1 (by decide)).trans hm1
        have hmf2 := (hmo.2.2.2.2 2 (by decide)).trans hm2
        refine w_loc rfl ?_
        refine w_getI (v := m9_5 3) is_142 (by decide) rfl ?_
        refine w_zeq (fun h6 => ?_) (fun h6 => ?_)
        · refine pz_G_of pz_b88_52 ?_
          refine w_loc rfl ?_
          have hc7 := s_X8_hasWayBelowZero (L := L) (iv := pz_u1 (pz_u1 (pz_u1 (pz_u1 (pz_u1 (pz_u1 (pz_u1 (pz_u1 iv 142 m9_5) 143 (q_cp 100 (q_rn k V U (q_cp 100 V W, q_cp 30 U Y)).1 V)) 144 ((q_rn k V U (q_cp 100 V W, q_cp 30 U Y)).1)) 145 (q_cp 30 (q_rn k V U (q_cp 100 V W, q_cp 30 U Y)).2 U)) 146 ((q_rn k V U (q_cp 100 V W, q_cp 30 U Y)).2)) 147 f1) 148 f2) 149 f3) (by show q_KR k; exact hk) (by show q_cE k (iv 3); exact hE) (by show q_cS k (iv 10) (iv 11) (iv 12) (iv 13) (iv 14); exact hS) (by show q_cw (k 0) (q_cp 100 (q_wz k (q_cp 100 (q_rn k V U (q_cp 100 V W, q_cp 30 U Y)).1 V) (q_cp 30 (q_rn k V U (q_cp 100 V W, q_cp 30 U Y)).2 U) f2) f3); exact q_RL_c hk hcon ⟨hn.1, by omega⟩ hfn hr2)
          refine w_callE hc7 rfl (pz_cokI is_142 rfl) (fun iv9 h9 => ?_)
          obtain ⟨n9_8, w9_9, d9_10, h9e⟩ := h9
          have h9x : iv9 = pz_u1 (pz_u1 (pz_u1 (pz_u1 (pz_u1 (pz_u1 (pz_u1 (pz_u1 iv 142 m9_5) 143 (q_cp 100 (q_rn k V U (q_cp 100 V W, q_cp 30 U Y)).1 V)) 144 ((q_rn k V U (q_cp 100 V W, q_cp 30 U Y)).1)) 145 (q_cp 30 (q_rn k V U (q_cp 100 V W, q_cp 30 U Y)).2 U)) 146 ((q_rn k V U (q_cp 100 V W, q_cp 30 U Y)).2)) 147 n9_8) 148 w9_9) 149 d9_10 := h9e.trans (by rw [pz_u1_in (r := 147) (q := 149) (by decide)]; rw [pz_u1_in (r := 147) (q := 148) (by decide)]; rw [pz_u1_top (r := 147)]; rw [pz_u1_in (r := 148) (q := 149) (by decide)]; rw [pz_u1_top (r := 148)]; rw [pz_u1_top (r := 149)] <;> rfl)
          subst h9x
          refine w_beq (fun h11 => ?_) (fun h11 => ?_)
          · have hyf : q_fi k (q_rx k n (q_X0 k)) := (q_RL_w hk hcon ⟨hn.1, by omega⟩ hfn hr2).mp (Classical.not_not.mp (by assumption))
            refine pz_G_of pz_b88_60 ?_
            refine w_loc rfl ?_
            refine w_getI (v := m9_5 3) is_142 (by decide) rfl ?_
            refine w_zne (fun h12 => ?_) (fun h12 => ?_)
            · refine pz_G_of pz_b88_73 ?_
              refine w_iinc (ls' := [some (.inr (.inl 142)), some (.inr (.inl 138)), some (.inl (n + 1))]) rfl rfl rfl (by omega) ?_
              refine w_goto ?_
              exact ih25 _ (by omega) (n + 1) m9_5 (q_cp 100 (q_rn k V U (q_cp 100 V W, q_cp 30 U Y)).1 V) ((q_rn k V U (q_cp 100 V W, q_cp 30 U Y)).1) (q_cp 30 (q_rn k V U (q_cp 100 V W, q_cp 30 U Y)).2 U) ((q_rn k V U (q_cp 100 V W, q_cp 30 U Y)).2) n9_8 w9_9 d9_10  rfl (by omega) (by exact q_fn_s hfn ⟨hyf, q_bz hmm (by assumption)⟩) (by exact hr2) (by first | (rw [pz_up_ne (by decide)]; exact hmf1) | exact hmf1) (by first | (exfalso; omega) | (rw [pz_up_eq, hmf2]))
            · refine w_loc rfl ?_
              refine w_pure rfl ?_
              refine w_putIm (iv2 := pz_u1 (pz_u1 (pz_u1 (pz_u1 (pz_u1 (pz_u1 (pz_u1 (pz_u1 iv 142 (pz_up m9_5 1 1)) 143 (q_cp 100 (q_rn k V U (q_cp 100 V W, q_cp 30 U Y)).1 V)) 144 ((q_rn k V U (q_cp 100 V W, q_cp 30 U Y)).1)) 145 (q_cp 30 (q_rn k V U (q_cp 100 V W, q_cp 30 U Y)).2 U)) 146 ((q_rn k V U (q_cp 100 V W, q_cp 30 U Y)).2)) 147 n9_8) 148 w9_9) 149 d9_10) is_142 (pz_fit1 (Or.inr rfl)) (by rw [pz_u2_in (r := 142) (q := 149) (by decide)]; rw [pz_u2_in (r := 142) (q := 148) (by decide)]; rw [pz_u2_in (r := 142) (q := 147) (by decide)]; rw [pz_u2_in (r := 142) (q := 146) (by decide)]; rw [pz_u2_in (r := 142) (q := 145) (by decide)]; rw [pz_u2_in (r := 142) (q := 144) (by decide)]; rw [pz_u2_in (r := 142) (q := 143) (by decide)]; rw [pz_u2_top] <;> rfl) ?_
              refine w_vret ?_
              first | exact ⟨pz_u1 (pz_u1 (pz_u1 (pz_u1 (pz_u1 (pz_u1 (pz_u1 (pz_u1 iv 142 (pz_up m9_5 1 1)) 143 (q_cp 100 (q_rn k V U (q_cp 100 V W, q_cp 30 U Y)).1 V)) 144 ((q_rn k V U (q_cp 100 V W, q_cp 30 U Y)).1)) 145 (q_cp 30 (q_rn k V U (q_cp 100 V W, q_cp 30 U Y)).2 U)) 146 ((q_rn k V U (q_cp 100 V W, q_cp 30 U Y)).2)) 147 n9_8) 148 w9_9) 149 d9_10, ⟨(pz_up m9_5 1 1), (q_cp 100 (q_rn k V U (q_cp 100 V W, q_cp 30 U Y)).1 V), ((q_rn k V U (q_cp 100 V W, q_cp 30 U Y)).1), (q_cp 30 (q_rn k V U (q_cp 100 V W, q_cp 30 U Y)).2 U), ((q_rn k V U (q_cp 100 V W, q_cp 30 U Y)).2), n9_8, w9_9, d9_10, by rfl, by exact q_end hcon ⟨hn.1, by omega⟩ hfn (fun q => q_bzn hmm (by assumption) q.2.1) hr2 (by rw [pz_up_eq]; exact pz_bi_t ⟨hyf, fun q => q_bzn hmm (by assumption) q.1⟩) (by rw [pz_up_ne (by decide), hmf2, pz_bi_0 (q_bzn hmm (by assumption))]; omega)⟩, lf_v (by rfl)⟩ | (exfalso; omega)
          · have hnf : ¬ q_fi k (q_rx k n (q_X0 k)) := fun q => (by assumption : ¬ q_snd _ _ _) ((q_RL_w hk hcon ⟨hn.1, by omega⟩ hfn hr2).mpr q)
            refine w_vret ?_
            first | exact ⟨pz_u1 (pz_u1 (pz_u1 (pz_u1 (pz_u1 (pz_u1 (pz_u1 (pz_u1 iv 142 m9_5) 143 (q_cp 100 (q_rn k V U (q_cp 100 V W, q_cp 30 U Y)).1 V)) 144 ((q_rn k V U (q_cp 100 V W, q_cp 30 U Y)).1)) 145 (q_cp 30 (q_rn k V U (q_cp 100 V W, q_cp 30 U Y)).2 U)) 146 ((q_rn k V U (q_cp 100 V W, q_cp 30 U Y)).2)) 147 n9_8) 148 w9_9) 149 d9_10, ⟨m9_5, (q_cp 100 (q_rn k V U (q_cp 100 V W, q_cp 30 U Y)).1 V), ((q_rn k V U (q_cp 100 V W, q_cp 30 U Y)).1), (q_cp 30 (q_rn k V U (q_cp 100 V W, q_cp 30 U Y)).2 U), ((q_rn k V U (q_cp 100 V W, q_cp 30 U Y)).2), n9_8, w9_9, d9_10, by rfl, by exact q_end hcon ⟨hn.1, by omega⟩ hfn (fun q => hnf q.1) hr2 (by first | (rw [pz_up_ne (by decide), hmf1]; exact pz_bi_f (fun q => hnf q.1)) | (rw [hmf1]; exact pz_bi_f (fun q => hnf q.1))) (by first | (rw [pz_up_eq, hmf2, pz_bi_1 (q_bz hmm (by assumption))]) | (rw [hmf2, pz_bi_0 (q_bzn hmm (by assumption))]; omega))⟩, lf_v (by rfl)⟩ | (exfalso; omega)
        · refine w_loc rfl ?_
          refine w_pure rfl ?_
          refine w_getI (v := m9_5 2) is_142 (by decide) rfl ?_
          refine w_pure rfl ?_
          refine w_iadd (by omega) ?_
          refine w_putIm (iv2 := pz_u1 (pz_u1 (pz_u1 (pz_u1 (pz_u1 (pz_u1 (pz_u1 (pz_u1 iv 142 (pz_up m9_5 2 ((m9_5 2) + 1))) 143 (q_cp 100 (q_rn k V U (q_cp 100 V W, q_cp 30 U Y)).1 V)) 144 ((q_rn k V U (q_cp 100 V W, q_cp 30 U Y)).1)) 145 (q_cp 30 (q_rn k V U (q_cp 100 V W, q_cp 30 U Y)).2 U)) 146 ((q_rn k V U (q_cp 100 V W, q_cp 30 U Y)).2)) 147 f1) 148 f2) 149 f3) is_142 pz_fit0 (by rw [pz_u2_in (r := 142) (q := 149) (by decide)]; rw [pz_u2_in (r := 142) (q := 148) (by decide)]; rw [pz_u2_in (r := 142) (q := 147) (by decide)]; rw [pz_u2_in (r := 142) (q := 146) (by decide)]; rw [pz_u2_in (r := 142) (q := 145) (by decide)]; rw [pz_u2_in (r := 142) (q := 144) (by decide)]; rw [pz_u2_in (r := 142) (q := 143) (by decide)]; rw [pz_u2_top] <;> rfl) ?_
          refine w_nil ?_
          refine pz_G_of pz_b88_52 ?_
          refine w_loc rfl ?_
          have hc13 := s_X8_hasWayBelowZero (L := L) (iv := pz_u1 (pz_u1 (pz_u1 (pz_u1 (pz_u1 (pz_u1 (pz_u1 (pz_u1 iv 142 (pz_up m9_5 2 ((m9_5 2) + 1))) 143 (q_cp 100 (q_rn k V U (q_cp 100 V W, q_cp 30 U Y)).1 V)) 144 ((q_rn k V U (q_cp 100 V W, q_cp 30 U Y)).1)) 145 (q_cp 30 (q_rn k V U (q_cp 100 V W, q_cp 30 U Y)).2 U)) 146 ((q_rn k V U (q_cp 100 V W, q_cp 30 U Y)).2)) 147 f1) 148 f2) 149 f3) (by show q_KR k; exact hk) (by show q_cE k (iv 3); exact hE) (by show q_cS k (iv 10) (iv 11) (iv 12) (iv 13) (iv 14); exact hS) (by show q_cw (k 0) (q_cp 100 (q_wz k (q_cp 100 (q_rn k V U (q_cp 100 V W, q_cp 30 U Y)).1 V) (q_cp 30 (q_rn k V U (q_cp 100 V W, q_cp 30 U Y)).2 U) f2) f3); exact q_RL_c hk hcon ⟨hn.1, by omega⟩ hfn hr2)
          refine w_callE hc13 rfl (pz_cokI is_142 rfl) (fun iv9 h9 => ?_)
          obtain ⟨n9_14, w9_15, d9_16, h9e⟩ := h9
          have h9x : iv9 = pz_u1 (pz_u1 (pz_u1 (pz_u1 (pz_u1 (pz_u1 (pz_u1 (pz_u1 iv 142 (pz_up m9_5 2 ((m9_5 2) + 1))) 143 (q_cp 100 (q_rn k V U (q_cp 100 V W, q_cp 30 U Y)).1 V)) 144 ((q_rn k V U (q_cp 100 V W, q_cp 30 U Y)).1)) 145 (q_cp 30 (q_rn k V U (q_cp 100 V W, q_cp 30 U Y)).2 U)) 146 ((q_rn k V U (q_cp 100 V W, q_cp 30 U Y)).2)) 147 n9_14) 148 w9_15) 149 d9_16 := h9e.trans (by rw [pz_u1_in (r := 147) (q := 149) (by decide)]; rw [pz_u1_in (r := 147) (q := 148) (by decide)]; rw [pz_u1_top (r := 147)]; rw [pz_u1_in (r := 148) (q := 149) (by decide)]; rw [pz_u1_top (r := 148)]; rw [pz_u1_top (r := 149)] <;> rfl)
          subst h9x
          refine w_beq (fun h17 => ?_) (fun h17 => ?_)
          · have hyf : q_fi k (q_rx k n (q_X0 k)) := (q_RL_w hk hcon ⟨hn.1, by omega⟩ hfn hr2).mp (Classical.not_not.mp (by assumption))
            refine pz_G_of pz_b88_60 ?_
            refine w_loc rfl ?_
            refine w_getI (v := m9_5 3) is_142 (by decide) rfl ?_
            refine w_zne (fun h18 => ?_) (fun h18 => ?_)
            · refine pz_G_of pz_b88_73 ?_
              refine w_iinc (ls' := [some (.inr (.inl 142)), some (.inr (.inl 138)), some (.inl (n + 1))]) rfl rfl rfl (by omega) ?_
              refine w_goto ?_
              exact ih25 _ (by omega) (n + 1) (pz_up m9_5 2 ((m9_5 2) + 1)) (q_cp 100 (q_rn k V U (q_cp 100 V W, q_cp 30 U Y)).1 V) ((q_rn k V U (q_cp 100 V W, q_cp 30 U Y)).1) (q_cp 30 (q_rn k V U (q_cp 100 V W, q_cp 30 U Y)).2 U) ((q_rn k V U (q_cp 100 V W, q_cp 30 U Y)).2) n9_14 w9_15 d9_16  rfl (by omega) (by exact q_fn_s hfn ⟨hyf, q_bz hmm (by assumption)⟩) (by exact hr2) (by first | (rw [pz_up_ne (by decide)]; exact hmf1) | exact hmf1) (by first | (exfalso; omega) | (rw [pz_up_eq, hmf2]))
            · refine w_loc rfl ?_
              refine w_pure rfl ?_
              refine w_putIm (iv2 := pz_u1 (pz_u1 (pz_u1 (pz_u1 (pz_u1 (pz_u1 (pz_u1 (pz_u1 iv 142 (pz_up (pz_up m9_5 2 ((m9_5 2) + 1)) 1 1)) 143 (q_cp 100 (q_rn k V U (q_cp 100 V W, q_cp 30 U Y)).1 V)) 144 ((q_rn k V U (q_cp 100 V W, q_cp 30 U Y)).1)) 145 (q_cp 30 (q_rn k V U (q_cp 100 V W, q_cp 30 U Y)).2 U)) 146 ((q_rn k V U (q_cp 100 V W, q_cp 30 U Y)).2)) 147 n9_14) 148 w9_15) 149 d9_16) is_142 (pz_fit1 (Or.inr rfl)) (by rw [pz_u2_in (r := 142) (q := 149) (by decide)]; rw [pz_u2_in (r := 142) (q := 148) (by decide)]; rw [pz_u2_in (r := 142) (q := 147) (by decide)]; rw [pz_u2_in (r := 142) (q := 146) (by decide)]; rw [pz_u2_in (r := 142) (q := 145) (by decide)]; rw [pz_u2_in (r := 142) (q := 144) (by decide)]; rw [pz_u2_in (r := 142) (q := 143) (by decide)]; rw [pz_u2_top] <;> rfl) ?_
              refine w_vret ?_
              first | exact ⟨pz_u1 (pz_u1 (pz_u1 (pz_u1 (pz_u1 (pz_u1 (pz_u1 (pz_u1 iv 142 (pz_up (pz_up m9_5 2 ((m9_5 2) + 1)) 1 1)) 143 (q_cp 100 (q_rn k V U (q_cp 100 V W, q_cp 30 U Y)).1 V)) 144 ((q_rn k V U (q_cp 100 V W, q_cp 30 U Y)).1)) 145 (q_cp 30 (q_rn k V U (q_cp 100 V W, q_cp 30 U Y)).2 U)) 146 ((q_rn k V U (q_cp 100 V W, q_cp 30 U Y)).2)) 147 n9_14) 148 w9_15) 149 d9_16, ⟨(pz_up (pz_up m9_5 2 ((m9_5 2) + 1)) 1 1), (q_cp 100 (q_rn k V U (q_cp 100 V W, q_cp 30 U Y)).1 V), ((q_rn k V U (q_cp 100 V W, q_cp 30 U Y)).1), (q_cp 30 (q_rn k V U (q_cp 100 V W, q_cp 30 U Y)).2 U), ((q_rn k V U (q_cp 100 V W, q_cp 30 U Y)).2), n9_14, w9_15, d9_16, by rfl, by exact q_end hcon ⟨hn.1, by omega⟩ hfn (fun q => q_bzn hmm (by assumption) q.2.1) hr2 (by rw [pz_up_eq]; exact pz_bi_t ⟨hyf, fun q => q_bzn hmm (by assumption) q.1⟩) (by rw [pz_up_ne (by decide), hmf2, pz_bi_0 (q_bzn hmm (by assumption))]; omega)⟩, lf_v (by rfl)⟩ | (exfalso; omega)
          · have hnf : ¬ q_fi k (q_rx k n (q_X0 k)) := fun q => (by assumption : ¬ q_snd _ _ _) ((q_RL_w hk hcon ⟨hn.1, by omega⟩ hfn hr2).mpr q)
            refine w_vret ?_
            first | exact ⟨pz_u1 (pz_u1 (pz_u1 (pz_u1 (pz_u1 (pz_u1 (pz_u1 (pz_u1 iv 142 (pz_up m9_5 2 ((m9_5 2) + 1))) 143 (q_cp 100 (q_rn k V U (q_cp 100 V W, q_cp 30 U Y)).1 V)) 144 ((q_rn k V U (q_cp 100 V W, q_cp 30 U Y)).1)) 145 (q_cp 30 (q_rn k V U (q_cp 100 V W, q_cp 30 U Y)).2 U)) 146 ((q_rn k V U (q_cp 100 V W, q_cp 30 U Y)).2)) 147 n9_14) 148 w9_15) 149 d9_16, ⟨(pz_up m9_5 2 ((m9_5 2) + 1)), (q_cp 100 (q_rn k V U (q_cp 100 V W, q_cp 30 U Y)).1 V), ((q_rn k V U (q_cp 100 V W, q_cp 30 U Y)).1), (q_cp 30 (q_rn k V U (q_cp 100 V W, q_cp 30 U Y)).2 U), ((q_rn k V U (q_cp 100 V W, q_cp 30 U Y)).2), n9_14, w9_15, d9_16, by rfl, by exact q_end hcon ⟨hn.1, by omega⟩ hfn (fun q => hnf q.1) hr2 (by first | (rw [pz_up_ne (by decide), hmf1]; exact pz_bi_f (fun q => hnf q.1)) | (rw [hmf1]; exact pz_bi_f (fun q => hnf q.1))) (by first | (rw [pz_up_eq, hmf2, pz_bi_1 (q_bz hmm (by assumption))]) | (rw [hmf2, pz_bi_0 (q_bzn hmm (by assumption))]; omega))⟩, lf_v (by rfl)⟩ | (exfalso; omega)
    exact lp25 _ 0 (pz_up (pz_up (iv 142) 1 0) 2 0) (q_cp 100 (iv 140) (iv 143)) (iv 144) (q_tu k (iv 145)) (iv 146) (iv 147) (iv 148) (iv 149)  rfl (by omega) (by intro i g1 g2; omega) (by exact q_RL_0 hk hcon (hNK.2.2.2 hcon).1 (hNK.2.2.2 hcon).2) (by rfl) (by rfl)
  · refine w_vret ?_
    first | exact ⟨pz_u1 (pz_u1 (pz_u1 (pz_u1 (pz_u1 (pz_u1 (pz_u1 (pz_u1 iv 142 (pz_up (pz_up (iv 142) 1 0) 2 0)) 143 (iv 143)) 144 (iv 144)) 145 (iv 145)) 146 (iv 146)) 147 (iv 147)) 148 (iv 148)) 149 (iv 149), ⟨(pz_up (pz_up (iv 142) 1 0) 2 0), (iv 143), (iv 144), (iv 145), (iv 146), (iv 147), (iv 148), (iv 149), by rfl, by exact q_end0 (hcn (by assumption)) rfl rfl⟩, lf_v (by rfl)⟩ | (exfalso; omega)
