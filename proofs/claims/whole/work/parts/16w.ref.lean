
theorem s_X11_reduces_n {L : Nat} {iv : Nat → Nat → Int} (hk : q_KR (iv 155)) (hcase0 : ¬ q_con (iv 155) (iv 161)) : pz_R (pz_Sh L) 247 [.inr (.inl 154)] iv (.inl none) (pz_u1 (pz_u1 (pz_u1 (pz_u1 iv 154 (pz_up (pz_up (iv 154) 8 0) 7 (pz_bi (q_con (iv 155) (iv 161))))) 157 (q_dd (iv 155) (iv 161) (iv 157))) 158 (q_v0 (q_dd (iv 155) (iv 161) (iv 157)) (iv 158))) 159 (iv 159)) := by
  intro dv cc ss
  have hk0 := hk.r0
  refine pz_G_mem (iv2 := pz_u1 (pz_u1 (pz_u1 (pz_u1 iv 154 (iv 154)) 157 (iv 157)) 158 (iv 158)) 159 (iv 159)) (by exact ((((pz_u1_self iv 154).symm).trans (pz_u1_self (pz_u1 iv 154 (iv 154)) 157).symm).trans (pz_u1_self (pz_u1 (pz_u1 iv 154 (iv 154)) 157 (iv 157)) 158).symm).trans (pz_u1_self (pz_u1 (pz_u1 (pz_u1 iv 154 (iv 154)) 157 (iv 157)) 158 (iv 158)) 159).symm) ?_
  show pz_G 247 0 [some (.inr (.inl 154)), none, none] [] (pz_Sh L, pz_u1 (pz_u1 (pz_u1 (pz_u1 iv 154 (iv 154)) 157 (iv 157)) 158 (iv 158)) 159 (iv 159), dv, cc, ss) (pz_P (pz_Sh L) (.inl none) (pz_u1 (pz_u1 (pz_u1 (pz_u1 iv 154 (pz_up (pz_up (iv 154) 8 0) 7 (pz_bi (q_con (iv 155) (iv 161))))) 157 (q_dd (iv 155) (iv 161) (iv 157))) 158 (q_v0 (q_dd (iv 155) (iv 161) (iv 157)) (iv 158))) 159 (iv 159)) dv cc ss)
  refine pz_G_of pz_b247_0 ?_
  refine w_loc rfl ?_
  refine w_pure rfl ?_
  refine w_putIm (iv2 := pz_u1 (pz_u1 (pz_u1 (pz_u1 iv 154 (pz_up (iv 154) 8 0)) 157 (iv 157)) 158 (iv 158)) 159 (iv 159)) is_154 pz_fit0 (by rw [pz_u2_in (r := 154) (q := 159) (by decide)]; rw [pz_u2_in (r := 154) (q := 158) (by decide)]; rw [pz_u2_in (r := 154) (q := 157) (by decide)]; rw [pz_u2_top]) ?_
  refine w_loc rfl ?_
  refine w_loc rfl ?_
  have hc1 : pz_R (pz_Sh L) 227 [.inr (.inl 154)] (pz_u1 (pz_u1 (pz_u1 (pz_u1 iv 154 (pz_up (iv 154) 8 0)) 157 (iv 157)) 158 (iv 158)) 159 (iv 159)) (.inl (some (.inl (pz_bi (q_con (iv 155) (iv 161)))))) (pz_u1 (pz_u1 (pz_u1 (pz_u1 iv 154 (pz_up (iv 154) 8 0)) 157 (q_dd (iv 155) (iv 161) (iv 157))) 158 (iv 158)) 159 (iv 159)) := pz_R_mem (s_X11_isConsistentNow (by show q_KR (iv 155); exact hk)) (by rw [pz_u1_in (r := 157) (q := 159) (by decide)]; rw [pz_u1_in (r := 157) (q := 158) (by decide)]; rw [pz_u1_top (r := 157)]; rfl)
  refine w_call hc1 rfl (pz_cokI is_154 rfl) ?_
  refine w_putIm (iv2 := pz_u1 (pz_u1 (pz_u1 (pz_u1 iv 154 (pz_up (pz_up (iv 154) 8 0) 7 (pz_bi (q_con (iv 155) (iv 161))))) 157 (q_dd (iv 155) (iv 161) (iv 157))) 158 (iv 158)) 159 (iv 159)) is_154 (pz_fit1 (pz_bi01 _)) (by rw [pz_u2_in (r := 154) (q := 159) (by decide)]; rw [pz_u2_in (r := 154) (q := 158) (by decide)]; rw [pz_u2_in (r := 154) (q := 157) (by decide)]; rw [pz_u2_top]) ?_
  refine w_pure rfl ?_
  refine w_loc (ls' := [some (.inr (.inl 154)), some (.inl 0), none]) (st' := []) rfl ?_
  refine w_nil ?_
  have lp15 : ∀ (dd : Nat) (i : Int) (f : Nat → Int) (u15_2 : Option pz_V) (hu15_2 : pz_nc u15_2 = true), (400 - i).toNat = dd → ∀ (hi : 0 ≤ i ∧ i ≤ 400), ∀ (hf : ∀ j : Nat, f j = if (j : Int) < i then (if j < 100 then q_dd (iv 155) (iv 161) (iv 157) j else 1000000) else iv 158 j),  pz_G 247 15 [some (.inr (.inl 154)), some (.inl i), u15_2] [] (pz_Sh L, pz_u1 (pz_u1 (pz_u1 (pz_u1 iv 154 (pz_up (pz_up (iv 154) 8 0) 7 (pz_bi (q_con (iv 155) (iv 161))))) 157 (q_dd (iv 155) (iv 161) (iv 157))) 158 f) 159 (iv 159), dv, cc, ss) (pz_P (pz_Sh L) (.inl none) (pz_u1 (pz_u1 (pz_u1 (pz_u1 iv 154 (pz_up (pz_up (iv 154) 8 0) 7 (pz_bi (q_con (iv 155) (iv 161))))) 157 (q_dd (iv 155) (iv 161) (iv 157))) 158 (q_v0 (q_dd (iv 155) (iv 161) (iv 157)) (iv 158))) 159 (iv 159)) dv cc ss) := by
    intro dd15
    induction dd15 using Nat.strongRecOn with
    | _ dd15 ih15 =>
    intro i f u15_2 hu15_2 hd15 hi hf
    refine pz_G_of pz_b247_15 ?_
    refine w_loc rfl ?_
    refine w_pure rfl ?_
    refine w_ige (fun h2 => ?_) (fun h2 => ?_)
    · first
      | (exfalso; first | omega | contradiction)
      | (have hfa : f = q_v0 (q_dd (iv 155) (iv 161) (iv 157)) (iv 158) := by
           funext j
           rw [hf j]
           unfold q_v0
           (repeat' split) <;> first | rfl | omega
         refine pz_G_of pz_b247_51 ?_
         refine w_loc rfl ?_
         refine w_getI (v := pz_bi (q_con (iv 155) (iv 161))) is_154 (by decide) rfl ?_
         refine w_bne (fun h3 => ?_) (fun h3 => ?_)
         · first
           | (exfalso; first | omega | contradiction)
           | (exfalso; first | omega | contradiction)
         · first
           | (exfalso; first | omega | contradiction)
           | (refine w_vret ?_
              first | exact lf_v (by rw [← hfa]) | (exfalso; omega)))
    · first
      | (exfalso; first | omega | contradiction)
      | (refine w_loc rfl ?_
         refine w_getR (q := 158) is_154 rf_154_5 ?_
         refine w_loc rfl ?_
         refine w_loc rfl ?_
         refine w_pure rfl ?_
         refine w_ige (fun h4 => ?_) (fun h4 => ?_)
         · first
           | (exfalso; first | omega | contradiction)
           | (refine pz_G_of pz_b247_42 ?_
              refine w_ldcv (v := 1000000) rfl ?_
              refine w_nil ?_
              refine pz_G_of pz_b247_44 ?_
              refine w_iastm (iv2 := pz_u1 (pz_u1 (pz_u1 (pz_u1 iv 154 (pz_up (pz_up (iv 154) 8 0) 7 (pz_bi (q_con (iv 155) (iv 161))))) 157 (q_dd (iv 155) (iv 161) (iv 157))) 158 (pz_up f i.toNat 1000000)) 159 (iv 159)) is_158 ln_158 ⟨by omega, by omega⟩ (by rw [pz_u2_in (r := 158) (q := 159) (by decide)]; rw [pz_u2_top]) ?_
              refine w_iinc (ls' := [some (.inr (.inl 154)), some (.inl (i + 1)), u15_2]) rfl rfl rfl (by omega) ?_
              refine w_goto ?_
              exact ih15 _ (by omega) (i + 1) (pz_up f i.toNat 1000000) u15_2 hu15_2 rfl (by omega) (by intro j; rw [pz_up_at, hf j]; (repeat' split) <;> first | rfl | omega | (congr 1; omega)))
         · first
           | (exfalso; first | omega | contradiction)
           | (refine w_loc rfl ?_
              refine w_getR (q := 157) is_154 rf_154_4 ?_
              refine w_loc rfl ?_
              refine w_iald (v := (q_dd (iv 155) (iv 161) (iv 157)) i.toNat) is_157 ln_157 ⟨by omega, by omega⟩ rfl ?_
              refine w_goto ?_
              refine pz_G_of pz_b247_44 ?_
              refine w_iastm (iv2 := pz_u1 (pz_u1 (pz_u1 (pz_u1 iv 154 (pz_up (pz_up (iv 154) 8 0) 7 (pz_bi (q_con (iv 155) (iv 161))))) 157 (q_dd (iv 155) (iv 161) (iv 157))) 158 (pz_up f i.toNat ((q_dd (iv 155) (iv 161) (iv 157)) i.toNat))) 159 (iv 159)) is_158 ln_158 ⟨by omega, by omega⟩ (by rw [pz_u2_in (r := 158) (q := 159) (by decide)]; rw [pz_u2_top]) ?_
              refine w_iinc (ls' := [some (.inr (.inl 154)), some (.inl (i + 1)), u15_2]) rfl rfl rfl (by omega) ?_
              refine w_goto ?_
              exact ih15 _ (by omega) (i + 1) (pz_up f i.toNat ((q_dd (iv 155) (iv 161) (iv 157)) i.toNat)) u15_2 hu15_2 rfl (by omega) (by intro j; rw [pz_up_at, hf j]; (repeat' split) <;> first | rfl | omega | (congr 1; omega))))
  exact lp15 _ 0 (iv 158) (none) rfl rfl (by omega) (by intro j; rw [if_neg (by omega)])

theorem s_X11_reduces_m {L : Nat} {iv : Nat → Nat → Int} (m : Int) (hl : q_last (iv 155) (q_vi (iv 155) (q_dd (iv 155) (iv 161) (iv 157)) (iv 158), iv 159, q_dd (iv 155) (iv 161) (iv 157)) m) (hB : q_rB (iv 155) (q_vi (iv 155) (q_dd (iv 155) (iv 161) (iv 157)) (iv 158), iv 159, q_dd (iv 155) (iv 161) (iv 157)) m) (hk : q_KR (iv 155)) (hcase0 : q_con (iv 155) (iv 161)) : pz_R (pz_Sh L) 247 [.inr (.inl 154)] iv (.inl none) (pz_u1 (pz_u1 (pz_u1 (pz_u1 iv 154 (q_rf (iv 155) (q_vi (iv 155) (q_dd (iv 155) (iv 161) (iv 157)) (iv 158), (iv 159), q_dd (iv 155) (iv 161) (iv 157)) m (iv 154))) 157 ((q_rx (iv 155) (m + 1) (q_vi (iv 155) (q_dd (iv 155) (iv 161) (iv 157)) (iv 158), (iv 159), q_dd (iv 155) (iv 161) (iv 157))).2.2)) 158 ((q_rx (iv 155) (m + 1) (q_vi (iv 155) (q_dd (iv 155) (iv 161) (iv 157)) (iv 158), (iv 159), q_dd (iv 155) (iv 161) (iv 157))).1)) 159 ((q_rx (iv 155) (m + 1) (q_vi (iv 155) (q_dd (iv 155) (iv 161) (iv 157)) (iv 158), (iv 159), q_dd (iv 155) (iv 161) (iv 157))).2.1)) := by
  intro dv cc ss
  have hk0 := hk.r0
  refine pz_G_mem (iv2 := pz_u1 (pz_u1 (pz_u1 (pz_u1 iv 154 (iv 154)) 157 (iv 157)) 158 (iv 158)) 159 (iv 159)) (by exact ((((pz_u1_self iv 154).symm).trans (pz_u1_self (pz_u1 iv 154 (iv 154)) 157).symm).trans (pz_u1_self (pz_u1 (pz_u1 iv 154 (iv 154)) 157 (iv 157)) 158).symm).trans (pz_u1_self (pz_u1 (pz_u1 (pz_u1 iv 154 (iv 154)) 157 (iv 157)) 158 (iv 158)) 159).symm) ?_
  show pz_G 247 0 [some (.inr (.inl 154)), none, none] [] (pz_Sh L, pz_u1 (pz_u1 (pz_u1 (pz_u1 iv 154 (iv 154)) 157 (iv 157)) 158 (iv 158)) 159 (iv 159), dv, cc, ss) (pz_P (pz_Sh L) (.inl none) (pz_u1 (pz_u1 (pz_u1 (pz_u1 iv 154 (q_rf (iv 155) (q_vi (iv 155) (q_dd (iv 155) (iv 161) (iv 157)) (iv 158), (iv 159), q_dd (iv 155) (iv 161) (iv 157)) m (iv 154))) 157 ((q_rx (iv 155) (m + 1) (q_vi (iv 155) (q_dd (iv 155) (iv 161) (iv 157)) (iv 158), (iv 159), q_dd (iv 155) (iv 161) (iv 157))).2.2)) 158 ((q_rx (iv 155) (m + 1) (q_vi (iv 155) (q_dd (iv 155) (iv 161) (iv 157)) (iv 158), (iv 159), q_dd (iv 155) (iv 161) (iv 157))).1)) 159 ((q_rx (iv 155) (m + 1) (q_vi (iv 155) (q_dd (iv 155) (iv 161) (iv 157)) (iv 158), (iv 159), q_dd (iv 155) (iv 161) (iv 157))).2.1)) dv cc ss)
  refine pz_G_of pz_b247_0 ?_
  refine w_loc rfl ?_
  refine w_pure rfl ?_
  refine w_putIm (iv2 := pz_u1 (pz_u1 (pz_u1 (pz_u1 iv 154 (pz_up (iv 154) 8 0)) 157 (iv 157)) 158 (iv 158)) 159 (iv 159)) is_154 pz_fit0 (by rw [pz_u2_in (r := 154) (q := 159) (by decide)]; rw [pz_u2_in (r := 154) (q := 158) (by decide)]; rw [pz_u2_in (r := 154) (q := 157) (by decide)]; rw [pz_u2_top]) ?_
  refine w_loc rfl ?_
  refine w_loc rfl ?_
  have hc1 : pz_R (pz_Sh L) 227 [.inr (.inl 154)] (pz_u1 (pz_u1 (pz_u1 (pz_u1 iv 154 (pz_up (iv 154) 8 0)) 157 (iv 157)) 158 (iv 158)) 159 (iv 159)) (.inl (some (.inl (pz_bi (q_con (iv 155) (iv 161)))))) (pz_u1 (pz_u1 (pz_u1 (pz_u1 iv 154 (pz_up (iv 154) 8 0)) 157 (q_dd (iv 155) (iv 161) (iv 157))) 158 (iv 158)) 159 (iv 159)) := pz_R_mem (s_X11_isConsistentNow (by show q_KR (iv 155); exact hk)) (by rw [pz_u1_in (r := 157) (q := 159) (by decide)]; rw [pz_u1_in (r := 157) (q := 158) (by decide)]; rw [pz_u1_top (r := 157)]; rfl)
  refine w_call hc1 rfl (pz_cokI is_154 rfl) ?_
  refine w_putIm (iv2 := pz_u1 (pz_u1 (pz_u1 (pz_u1 iv 154 (pz_up (pz_up (iv 154) 8 0) 7 (pz_bi (q_con (iv 155) (iv 161))))) 157 (q_dd (iv 155) (iv 161) (iv 157))) 158 (iv 158)) 159 (iv 159)) is_154 (pz_fit1 (pz_bi01 _)) (by rw [pz_u2_in (r := 154) (q := 159) (by decide)]; rw [pz_u2_in (r := 154) (q := 158) (by decide)]; rw [pz_u2_in (r := 154) (q := 157) (by decide)]; rw [pz_u2_top]) ?_
  refine w_pure rfl ?_
  refine w_loc (ls' := [some (.inr (.inl 154)), some (.inl 0), none]) (st' := []) rfl ?_
  refine w_nil ?_
  have lp15 : ∀ (dd : Nat) (i : Int) (f : Nat → Int) (u15_2 : Option pz_V) (hu15_2 : pz_nc u15_2 = true), (400 - i).toNat = dd → ∀ (hi : 0 ≤ i ∧ i ≤ 400), ∀ (hf : ∀ j : Nat, f j = if (j : Int) < i then (if j < 100 then q_dd (iv 155) (iv 161) (iv 157) j else 1000000) else iv 158 j),  pz_G 247 15 [some (.inr (.inl 154)), some (.inl i), u15_2] [] (pz_Sh L, pz_u1 (pz_u1 (pz_u1 (pz_u1 iv 154 (pz_up (pz_up (iv 154) 8 0) 7 (pz_bi (q_con (iv 155) (iv 161))))) 157 (q_dd (iv 155) (iv 161) (iv 157))) 158 f) 159 (iv 159), dv, cc, ss) (pz_P (pz_Sh L) (.inl none) (pz_u1 (pz_u1 (pz_u1 (pz_u1 iv 154 (q_rf (iv 155) (q_vi (iv 155) (q_dd (iv 155) (iv 161) (iv 157)) (iv 158), (iv 159), q_dd (iv 155) (iv 161) (iv 157)) m (iv 154))) 157 ((q_rx (iv 155) (m + 1) (q_vi (iv 155) (q_dd (iv 155) (iv 161) (iv 157)) (iv 158), (iv 159), q_dd (iv 155) (iv 161) (iv 157))).2.2)) 158 ((q_rx (iv 155) (m + 1) (q_vi (iv 155) (q_dd (iv 155) (iv 161) (iv 157)) (iv 158), (iv 159), q_dd (iv 155) (iv 161) (iv 157))).1)) 159 ((q_rx (iv 155) (m + 1) (q_vi (iv 155) (q_dd (iv 155) (iv 161) (iv 157)) (iv 158), (iv 159), q_dd (iv 155) (iv 161) (iv 157))).2.1)) dv cc ss) := by
    intro dd15
    induction dd15 using Nat.strongRecOn with
    | _ dd15 ih15 =>
    intro i f u15_2 hu15_2 hd15 hi hf
    refine pz_G_of pz_b247_15 ?_
    refine w_loc rfl ?_
    refine w_pure rfl ?_
    refine w_ige (fun h2 => ?_) (fun h2 => ?_)
    · first
      | (exfalso; first | omega | contradiction)
      | (have hfa : f = q_v0 (q_dd (iv 155) (iv 161) (iv 157)) (iv 158) := by
           funext j
           rw [hf j]
           unfold q_v0
           (repeat' split) <;> first | rfl | omega
         refine pz_G_of pz_b247_51 ?_
         refine w_loc rfl ?_
         refine w_getI (v := pz_bi (q_con (iv 155) (iv 161))) is_154 (by decide) rfl ?_
         refine w_bne (fun h3 => ?_) (fun h3 => ?_)
         · first
           | (exfalso; first | omega | contradiction)
           | (refine pz_G_of pz_b247_59 ?_
              refine w_pure rfl ?_
              refine w_loc (ls' := [some (.inr (.inl 154)), some (.inl 0), u15_2]) (st' := []) rfl ?_
              refine w_nil ?_
              have lp61 : ∀ (dd : Nat) (s : Int) (f2 : Nat → Int) (u61_2 : Option pz_V) (hu61_2 : pz_nc u61_2 = true), (iv 155 2 - s).toNat = dd → ∀ (hs : 0 ≤ s ∧ s ≤ iv 155 2), ∀ (hf2 : f2 = q_fr (q_upS (iv 155)) 0 s f),  pz_G 247 61 [some (.inr (.inl 154)), some (.inl s), u61_2] [] (pz_Sh L, pz_u1 (pz_u1 (pz_u1 (pz_u1 iv 154 (pz_up (pz_up (iv 154) 8 0) 7 (pz_bi (q_con (iv 155) (iv 161))))) 157 (q_dd (iv 155) (iv 161) (iv 157))) 158 f2) 159 (iv 159), dv, cc, ss) (pz_P (pz_Sh L) (.inl none) (pz_u1 (pz_u1 (pz_u1 (pz_u1 iv 154 (q_rf (iv 155) (q_vi (iv 155) (q_dd (iv 155) (iv 161) (iv 157)) (iv 158), (iv 159), q_dd (iv 155) (iv 161) (iv 157)) m (iv 154))) 157 ((q_rx (iv 155) (m + 1) (q_vi (iv 155) (q_dd (iv 155) (iv 161) (iv 157)) (iv 158), (iv 159), q_dd (iv 155) (iv 161) (iv 157))).2.2)) 158 ((q_rx (iv 155) (m + 1) (q_vi (iv 155) (q_dd (iv 155) (iv 161) (iv 157)) (iv 158), (iv 159), q_dd (iv 155) (iv 161) (iv 157))).1)) 159 ((q_rx (iv 155) (m + 1) (q_vi (iv 155) (q_dd (iv 155) (iv 161) (iv 157)) (iv 158), (iv 159), q_dd (iv 155) (iv 161) (iv 157))).2.1)) dv cc ss) := by
                intro dd61
                induction dd61 using Nat.strongRecOn with
                | _ dd61 ih61 =>
                intro s f2 u61_2 hu61_2 hd61 hs hf2
                have hsp := fun h => hk.sp hs.1 h
                refine pz_G_of pz_b247_61 ?_
                refine w_loc rfl ?_
                refine w_loc rfl ?_
                refine w_getR (q := 155) is_154 rf_154_1 ?_
                refine w_pure rfl ?_
                refine w_iald (v := (iv 155) 2) is_155 ln_155 ⟨by omega, by omega⟩ rfl ?_
                refine w_ige (fun h4 => ?_) (fun h4 => ?_)
                · first
                  | (exfalso; first | omega | contradiction)
                  | (refine pz_G_of pz_b247_112 ?_
                     refine w_pure rfl ?_
                     refine w_loc (ls' := [some (.inr (.inl 154)), some (.inl 1), u61_2]) (st' := []) rfl ?_
                     refine w_nil ?_
                     have lp114 : ∀ (dd : Nat) (y : Int) (n : Int) (w : Nat → Int) (g : Nat → Int) (v : Nat → Int) (a : Nat → Int) (u114_2 : Option pz_V) (hu114_2 : pz_nc u114_2 = true), (60 - n).toNat = dd → ∀ (hyn : 0 ≤ n ∧ n ≤ 60), ∀ (hy1 : y ≠ 0 → (n ≤ m ∧ (v, a, g) = q_rx (iv 155) n (q_vi (iv 155) (q_dd (iv 155) (iv 161) (iv 157)) (iv 158), iv 159, q_dd (iv 155) (iv 161) (iv 157)) ∧ w = pz_up (pz_up (iv 154) 8 n) 7 1)), ∀ (hy0 : y = 0 → ((v, a, g) = q_rx (iv 155) (m + 1) (q_vi (iv 155) (q_dd (iv 155) (iv 161) (iv 157)) (iv 158), iv 159, q_dd (iv 155) (iv 161) (iv 157)) ∧ w = q_rf (iv 155) (q_vi (iv 155) (q_dd (iv 155) (iv 161) (iv 157)) (iv 158), iv 159, q_dd (iv 155) (iv 161) (iv 157)) m (iv 154))),  pz_G 247 114 [some (.inr (.inl 154)), some (.inl y), u114_2] [] (pz_Sh L, pz_u1 (pz_u1 (pz_u1 (pz_u1 iv 154 w) 157 g) 158 v) 159 a, dv, cc, ss) (pz_P (pz_Sh L) (.inl none) (pz_u1 (pz_u1 (pz_u1 (pz_u1 iv 154 (q_rf (iv 155) (q_vi (iv 155) (q_dd (iv 155) (iv 161) (iv 157)) (iv 158), (iv 159), q_dd (iv 155) (iv 161) (iv 157)) m (iv 154))) 157 ((q_rx (iv 155) (m + 1) (q_vi (iv 155) (q_dd (iv 155) (iv 161) (iv 157)) (iv 158), (iv 159), q_dd (iv 155) (iv 161) (iv 157))).2.2)) 158 ((q_rx (iv 155) (m + 1) (q_vi (iv 155) (q_dd (iv 155) (iv 161) (iv 157)) (iv 158), (iv 159), q_dd (iv 155) (iv 161) (iv 157))).1)) 159 ((q_rx (iv 155) (m + 1) (q_vi (iv 155) (q_dd (iv 155) (iv 161) (iv 157)) (iv 158), (iv 159), q_dd (iv 155) (iv 161) (iv 157))).2.1)) dv cc ss) := by
                       intro dd114
                       induction dd114 using Nat.strongRecOn with
                       | _ dd114 ih114 =>
                       intro y n w g v a u114_2 hu114_2 hd114 hyn hy1 hy0
                       refine pz_G_of pz_b247_114 ?_
                       refine w_loc rfl ?_
                       refine w_zeq (fun h5 => ?_) (fun h5 => ?_)
                       · first
                         | (exfalso; first | omega | contradiction)
                         | (refine pz_G_of pz_b247_207 ?_
                            refine w_vret ?_
                            first | exact lf_v (by rw [← (hy0 (by omega)).1, ← (hy0 (by omega)).2]) | (exfalso; omega))
                       · first
                         | (exfalso; first | omega | contradiction)
                         | (obtain ⟨hn1, hx, hw⟩ := hy1 (by assumption)
                            have hw8 : w 8 = n := by
                              rw [hw]
                              rfl
                            have hBv := q_rB_v hB ⟨hyn.1, hn1⟩ hx
                            have hm := hl.1
                            refine w_loc rfl ?_
                            have hc6 : pz_R (pz_Sh L) 243 [.inr (.inl 154)] (pz_u1 (pz_u1 (pz_u1 (pz_u1 iv 154 w) 157 g) 158 v) 159 a) (.inl none) (pz_u1 (pz_u1 (pz_u1 (pz_u1 iv 154 w) 157 g) 158 (q_rd (iv 155) (q_c4 v a) v)) 159 (q_c4 v a)) := pz_R_mem (s_X11_round (by show q_KR (iv 155); exact hk) (by show q_vb v; exact hBv.1)) (by rw [pz_u1_in (r := 158) (q := 159) (by decide)]; rw [pz_u1_top (r := 158)]; rw [pz_u1_top (r := 159)]; rfl)
                            refine w_callv hc6 rfl (pz_cokI is_154 rfl) ?_
                            refine w_loc rfl ?_
                            have hc7 : pz_R (pz_Sh L) 245 [.inr (.inl 154)] (pz_u1 (pz_u1 (pz_u1 (pz_u1 iv 154 w) 157 g) 158 (q_rd (iv 155) (q_c4 v a) v)) 159 (q_c4 v a)) (.inl (some (.inl (pz_bi (q_hc (q_rd (iv 155) (q_c4 v a) v) (q_c4 v a)))))) (pz_u1 (pz_u1 (pz_u1 (pz_u1 iv 154 w) 157 g) 158 (q_rd (iv 155) (q_c4 v a) v)) 159 (q_c4 v a)) := s_X11_hasChanged
                            refine w_call hc7 rfl (pz_cokI is_154 rfl) ?_
                            refine w_loc (ls' := [some (.inr (.inl 154)), some (.inl y), some (.inl (pz_bi (q_hc (q_rd (iv 155) (q_c4 v a) v) (q_c4 v a))))]) (st' := []) rfl ?_
                            refine w_loc rfl ?_
                            refine w_pure rfl ?_
                            refine w_getI (v := w 8) is_154 (by decide) rfl ?_
                            refine w_loc rfl ?_
                            refine w_beq (fun h8 => ?_) (fun h8 => ?_)
                            · first
                              | (exfalso; first | omega | contradiction)
                              | (refine pz_G_of pz_b247_140 ?_
                                 refine w_pure rfl ?_
                                 refine w_nil ?_
                                 refine pz_G_of pz_b247_141 ?_
                                 refine w_iadd (by omega) ?_
                                 refine w_putIm (iv2 := pz_u1 (pz_u1 (pz_u1 (pz_u1 iv 154 (pz_up w 8 ((w 8) + 0))) 157 g) 158 (q_rd (iv 155) (q_c4 v a) v)) 159 (q_c4 v a)) is_154 pz_fit0 (by rw [pz_u2_in (r := 154) (q := 159) (by decide)]; rw [pz_u2_in (r := 154) (q := 158) (by decide)]; rw [pz_u2_in (r := 154) (q := 157) (by decide)]; rw [pz_u2_top]) ?_
                                 refine w_loc rfl ?_
                                 refine w_loc rfl ?_
                                 have hc9 : pz_R (pz_Sh L) 246 [.inr (.inl 154)] (pz_u1 (pz_u1 (pz_u1 (pz_u1 iv 154 (pz_up w 8 ((w 8) + 0))) 157 g) 158 (q_rd (iv 155) (q_c4 v a) v)) 159 (q_c4 v a)) (.inl (some (.inl (pz_bi (q_ok (q_ir (iv 155) (q_rd (iv 155) (q_c4 v a) v) g)))))) (pz_u1 (pz_u1 (pz_u1 (pz_u1 iv 154 (pz_up w 8 ((w 8) + 0))) 157 (q_cg (q_ir (iv 155) (q_rd (iv 155) (q_c4 v a) v) g))) 158 (q_rd (iv 155) (q_c4 v a) v)) 159 (q_c4 v a)) := pz_R_mem (s_X11_isRound (by show q_KR (iv 155); exact hk) (by show q_cb (q_ir (iv 155) (q_rd (iv 155) (q_c4 v a) v) g); exact hBv.2)) (by rw [pz_u1_in (r := 157) (q := 159) (by decide)]; rw [pz_u1_in (r := 157) (q := 158) (by decide)]; rw [pz_u1_top (r := 157)]; rfl)
                                 refine w_call hc9 rfl (pz_cokI is_154 rfl) ?_
                                 refine w_putIm (iv2 := pz_u1 (pz_u1 (pz_u1 (pz_u1 iv 154 (pz_up (pz_up w 8 ((w 8) + 0)) 7 (pz_bi (q_ok (q_ir (iv 155) (q_rd (iv 155) (q_c4 v a) v) g))))) 157 (q_cg (q_ir (iv 155) (q_rd (iv 155) (q_c4 v a) v) g))) 158 (q_rd (iv 155) (q_c4 v a) v)) 159 (q_c4 v a)) is_154 (pz_fit1 (pz_bi01 _)) (by rw [pz_u2_in (r := 154) (q := 159) (by decide)]; rw [pz_u2_in (r := 154) (q := 158) (by decide)]; rw [pz_u2_in (r := 154) (q := 157) (by decide)]; rw [pz_u2_top]) ?_
                                 refine w_loc rfl ?_
                                 refine w_getI (v := pz_bi (q_ok (q_ir (iv 155) (q_rd (iv 155) (q_c4 v a) v) g))) is_154 (by decide) rfl ?_
                                 refine w_beq (fun h10 => ?_) (fun h10 => ?_)
                                 · first
                                   | (exfalso; first | omega | contradiction)
                                   | (refine pz_G_of pz_b247_177 ?_
                                      refine w_pure rfl ?_
                                      refine w_nil ?_
                                      refine pz_G_of pz_b247_178 ?_
                                      refine w_loc (ls' := [some (.inr (.inl 154)), some (.inl 0), some (.inl (pz_bi (q_hc (q_rd (iv 155) (q_c4 v a) v) (q_c4 v a))))]) (st' := []) rfl ?_
                                      refine w_loc rfl ?_
                                      refine w_getI (v := pz_bi (q_ok (q_ir (iv 155) (q_rd (iv 155) (q_c4 v a) v) g))) is_154 (by decide) rfl ?_
                                      refine w_beq (fun h11 => ?_) (fun h11 => ?_)
                                      · first
                                        | (exfalso; first | omega | contradiction)
                                        | (refine pz_G_of pz_b247_204 ?_
                                           refine w_goto ?_
                                           exact ih114 _ (by omega) 0 (n + 1) (pz_up (pz_up w 8 ((w 8) + 0)) 7 (pz_bi (q_ok (q_ir (iv 155) (q_rd (iv 155) (q_c4 v a) v) g)))) (q_cg (q_ir (iv 155) (q_rd (iv 155) (q_c4 v a) v) g)) (q_rd (iv 155) (q_c4 v a) v) (q_c4 v a) (some (.inl (pz_bi (q_hc (q_rd (iv 155) (q_c4 v a) v) (q_c4 v a))))) rfl rfl (by omega) (by intro hq; first | exact absurd rfl hq | exact ⟨by have hq2 := q_last_go hl ⟨hyn.1, hn1⟩ hx (by assumption) (by assumption) (by omega); omega, q_rx_s hyn.1 hx, by rw [q_w7 hw, hw8, pz_bi_1 (by assumption)]⟩) (by intro hq; first | exact absurd hq (by decide) | exact ⟨q_rx_e hl ⟨hyn.1, hn1⟩ hx (fun q => by first | exact absurd q.1 (by assumption) | exact absurd q.2.1 (by assumption) | omega), by first | exact q_rf_1 hl ⟨hyn.1, hn1⟩ hx hw (by assumption) (by assumption) | exact q_rf_2 hl ⟨hyn.1, hn1⟩ hx hw (by assumption) | exact q_rf_4 hl ⟨hyn.1, hn1⟩ hx hw (by assumption) (by omega)⟩))
                                      · first
                                        | (exfalso; first | omega | contradiction)
                                        | (refine w_loc rfl ?_
                                           refine w_beq (fun h12 => ?_) (fun h12 => ?_)
                                           · first
                                             | (exfalso; first | omega | contradiction)
                                             | (refine pz_G_of pz_b247_204 ?_
                                                refine w_goto ?_
                                                exact ih114 _ (by omega) 0 (n + 1) (pz_up (pz_up w 8 ((w 8) + 0)) 7 (pz_bi (q_ok (q_ir (iv 155) (q_rd (iv 155) (q_c4 v a) v) g)))) (q_cg (q_ir (iv 155) (q_rd (iv 155) (q_c4 v a) v) g)) (q_rd (iv 155) (q_c4 v a) v) (q_c4 v a) (some (.inl (pz_bi (q_hc (q_rd (iv 155) (q_c4 v a) v) (q_c4 v a))))) rfl rfl (by omega) (by intro hq; first | exact absurd rfl hq | exact ⟨by have hq2 := q_last_go hl ⟨hyn.1, hn1⟩ hx (by assumption) (by assumption) (by omega); omega, q_rx_s hyn.1 hx, by rw [q_w7 hw, hw8, pz_bi_1 (by assumption)]⟩) (by intro hq; first | exact absurd hq (by decide) | exact ⟨q_rx_e hl ⟨hyn.1, hn1⟩ hx (fun q => by first | exact absurd q.1 (by assumption) | exact absurd q.2.1 (by assumption) | omega), by first | exact q_rf_1 hl ⟨hyn.1, hn1⟩ hx hw (by assumption) (by assumption) | exact q_rf_2 hl ⟨hyn.1, hn1⟩ hx hw (by assumption) | exact q_rf_4 hl ⟨hyn.1, hn1⟩ hx hw (by assumption) (by omega)⟩))
                                           · first
                                             | (exfalso; first | omega | contradiction)
                                             | (refine w_loc rfl ?_
                                                refine w_getI (v := (w 8) + 0) is_154 (by decide) rfl ?_
                                                refine w_pure rfl ?_
                                                refine w_ine (fun h13 => ?_) (fun h13 => ?_)
                                                · first
                                                  | (exfalso; first | omega | contradiction)
                                                  | (refine pz_G_of pz_b247_204 ?_
                                                     refine w_goto ?_
                                                     exact ih114 _ (by omega) 0 (n + 1) (pz_up (pz_up w 8 ((w 8) + 0)) 7 (pz_bi (q_ok (q_ir (iv 155) (q_rd (iv 155) (q_c4 v a) v) g)))) (q_cg (q_ir (iv 155) (q_rd (iv 155) (q_c4 v a) v) g)) (q_rd (iv 155) (q_c4 v a) v) (q_c4 v a) (some (.inl (pz_bi (q_hc (q_rd (iv 155) (q_c4 v a) v) (q_c4 v a))))) rfl rfl (by omega) (by intro hq; first | exact absurd rfl hq | exact ⟨by have hq2 := q_last_go hl ⟨hyn.1, hn1⟩ hx (by assumption) (by assumption) (by omega); omega, q_rx_s hyn.1 hx, by rw [q_w7 hw, hw8, pz_bi_1 (by assumption)]⟩) (by intro hq; first | exact absurd hq (by decide) | exact ⟨q_rx_e hl ⟨hyn.1, hn1⟩ hx (fun q => by first | exact absurd q.1 (by assumption) | exact absurd q.2.1 (by assumption) | omega), by first | exact q_rf_1 hl ⟨hyn.1, hn1⟩ hx hw (by assumption) (by assumption) | exact q_rf_2 hl ⟨hyn.1, hn1⟩ hx hw (by assumption) | exact q_rf_4 hl ⟨hyn.1, hn1⟩ hx hw (by assumption) (by omega)⟩))
                                                · first
                                                  | (exfalso; first | omega | contradiction)
                                                  | (refine w_loc rfl ?_
                                                     refine w_pure rfl ?_
                                                     refine w_putIm (iv2 := pz_u1 (pz_u1 (pz_u1 (pz_u1 iv 154 (pz_up (pz_up (pz_up w 8 ((w 8) + 0)) 7 (pz_bi (q_ok (q_ir (iv 155) (q_rd (iv 155) (q_c4 v a) v) g)))) 7 0)) 157 (q_cg (q_ir (iv 155) (q_rd (iv 155) (q_c4 v a) v) g))) 158 (q_rd (iv 155) (q_c4 v a) v)) 159 (q_c4 v a)) is_154 (pz_fit1 (Or.inl rfl)) (by rw [pz_u2_in (r := 154) (q := 159) (by decide)]; rw [pz_u2_in (r := 154) (q := 158) (by decide)]; rw [pz_u2_in (r := 154) (q := 157) (by decide)]; rw [pz_u2_top]) ?_
                                                     refine w_nil ?_
                                                     refine pz_G_of pz_b247_204 ?_
                                                     refine w_goto ?_
                                                     exact ih114 _ (by omega) 0 (n + 1) (pz_up (pz_up (pz_up w 8 ((w 8) + 0)) 7 (pz_bi (q_ok (q_ir (iv 155) (q_rd (iv 155) (q_c4 v a) v) g)))) 7 0) (q_cg (q_ir (iv 155) (q_rd (iv 155) (q_c4 v a) v) g)) (q_rd (iv 155) (q_c4 v a) v) (q_c4 v a) (some (.inl (pz_bi (q_hc (q_rd (iv 155) (q_c4 v a) v) (q_c4 v a))))) rfl rfl (by omega) (by intro hq; first | exact absurd rfl hq | exact ⟨by have hq2 := q_last_go hl ⟨hyn.1, hn1⟩ hx (by assumption) (by assumption) (by omega); omega, q_rx_s hyn.1 hx, by rw [q_w7 hw, hw8, pz_bi_1 (by assumption)]⟩) (by intro hq; first | exact absurd hq (by decide) | exact ⟨q_rx_e hl ⟨hyn.1, hn1⟩ hx (fun q => by first | exact absurd q.1 (by assumption) | exact absurd q.2.1 (by assumption) | omega), by first | exact q_rf_1 hl ⟨hyn.1, hn1⟩ hx hw (by assumption) (by assumption) | exact q_rf_2 hl ⟨hyn.1, hn1⟩ hx hw (by assumption) | exact q_rf_4 hl ⟨hyn.1, hn1⟩ hx hw (by assumption) (by omega)⟩)))))
                                 · first
                                   | (exfalso; first | omega | contradiction)
                                   | (refine w_loc rfl ?_
                                      refine w_beq (fun h14 => ?_) (fun h14 => ?_)
                                      · first
                                        | (exfalso; first | omega | contradiction)
                                        | (refine pz_G_of pz_b247_177 ?_
                                           refine w_pure rfl ?_
                                           refine w_nil ?_
                                           refine pz_G_of pz_b247_178 ?_
                                           refine w_loc (ls' := [some (.inr (.inl 154)), some (.inl 0), some (.inl (pz_bi (q_hc (q_rd (iv 155) (q_c4 v a) v) (q_c4 v a))))]) (st' := []) rfl ?_
                                           refine w_loc rfl ?_
                                           refine w_getI (v := pz_bi (q_ok (q_ir (iv 155) (q_rd (iv 155) (q_c4 v a) v) g))) is_154 (by decide) rfl ?_
                                           refine w_beq (fun h15 => ?_) (fun h15 => ?_)
                                           · first
                                             | (exfalso; first | omega | contradiction)
                                             | (refine pz_G_of pz_b247_204 ?_
                                                refine w_goto ?_
                                                exact ih114 _ (by omega) 0 (n + 1) (pz_up (pz_up w 8 ((w 8) + 0)) 7 (pz_bi (q_ok (q_ir (iv 155) (q_rd (iv 155) (q_c4 v a) v) g)))) (q_cg (q_ir (iv 155) (q_rd (iv 155) (q_c4 v a) v) g)) (q_rd (iv 155) (q_c4 v a) v) (q_c4 v a) (some (.inl (pz_bi (q_hc (q_rd (iv 155) (q_c4 v a) v) (q_c4 v a))))) rfl rfl (by omega) (by intro hq; first | exact absurd rfl hq | exact ⟨by have hq2 := q_last_go hl ⟨hyn.1, hn1⟩ hx (by assumption) (by assumption) (by omega); omega, q_rx_s hyn.1 hx, by rw [q_w7 hw, hw8, pz_bi_1 (by assumption)]⟩) (by intro hq; first | exact absurd hq (by decide) | exact ⟨q_rx_e hl ⟨hyn.1, hn1⟩ hx (fun q => by first | exact absurd q.1 (by assumption) | exact absurd q.2.1 (by assumption) | omega), by first | exact q_rf_1 hl ⟨hyn.1, hn1⟩ hx hw (by assumption) (by assumption) | exact q_rf_2 hl ⟨hyn.1, hn1⟩ hx hw (by assumption) | exact q_rf_4 hl ⟨hyn.1, hn1⟩ hx hw (by assumption) (by omega)⟩))
                                           · first
                                             | (exfalso; first | omega | contradiction)
                                             | (refine w_loc rfl ?_
                                                refine w_beq (fun h16 => ?_) (fun h16 => ?_)
                                                · first
                                                  | (exfalso; first | omega | contradiction)
                                                  | (refine pz_G_of pz_b247_204 ?_
                                                     refine w_goto ?_
                                                     exact ih114 _ (by omega) 0 (n + 1) (pz_up (pz_up w 8 ((w 8) + 0)) 7 (pz_bi (q_ok (q_ir (iv 155) (q_rd (iv 155) (q_c4 v a) v) g)))) (q_cg (q_ir (iv 155) (q_rd (iv 155) (q_c4 v a) v) g)) (q_rd (iv 155) (q_c4 v a) v) (q_c4 v a) (some (.inl (pz_bi (q_hc (q_rd (iv 155) (q_c4 v a) v) (q_c4 v a))))) rfl rfl (by omega) (by intro hq; first | exact absurd rfl hq | exact ⟨by have hq2 := q_last_go hl ⟨hyn.1, hn1⟩ hx (by assumption) (by assumption) (by omega); omega, q_rx_s hyn.1 hx, by rw [q_w7 hw, hw8, pz_bi_1 (by assumption)]⟩) (by intro hq; first | exact absurd hq (by decide) | exact ⟨q_rx_e hl ⟨hyn.1, hn1⟩ hx (fun q => by first | exact absurd q.1 (by assumption) | exact absurd q.2.1 (by assumption) | omega), by first | exact q_rf_1 hl ⟨hyn.1, hn1⟩ hx hw (by assumption) (by assumption) | exact q_rf_2 hl ⟨hyn.1, hn1⟩ hx hw (by assumption) | exact q_rf_4 hl ⟨hyn.1, hn1⟩ hx hw (by assumption) (by omega)⟩))
                                                · first
                                                  | (exfalso; first | omega | contradiction)
                                                  | (refine w_loc rfl ?_
                                                     refine w_getI (v := (w 8) + 0) is_154 (by decide) rfl ?_
                                                     refine w_pure rfl ?_
                                                     refine w_ine (fun h17 => ?_) (fun h17 => ?_)
                                                     · first
                                                       | (exfalso; first | omega | contradiction)
                                                       | (refine pz_G_of pz_b247_204 ?_
                                                          refine w_goto ?_
                                                          exact ih114 _ (by omega) 0 (n + 1) (pz_up (pz_up w 8 ((w 8) + 0)) 7 (pz_bi (q_ok (q_ir (iv 155) (q_rd (iv 155) (q_c4 v a) v) g)))) (q_cg (q_ir (iv 155) (q_rd (iv 155) (q_c4 v a) v) g)) (q_rd (iv 155) (q_c4 v a) v) (q_c4 v a) (some (.inl (pz_bi (q_hc (q_rd (iv 155) (q_c4 v a) v) (q_c4 v a))))) rfl rfl (by omega) (by intro hq; first | exact absurd rfl hq | exact ⟨by have hq2 := q_last_go hl ⟨hyn.1, hn1⟩ hx (by assumption) (by assumption) (by omega); omega, q_rx_s hyn.1 hx, by rw [q_w7 hw, hw8, pz_bi_1 (by assumption)]⟩) (by intro hq; first | exact absurd hq (by decide) | exact ⟨q_rx_e hl ⟨hyn.1, hn1⟩ hx (fun q => by first | exact absurd q.1 (by assumption) | exact absurd q.2.1 (by assumption) | omega), by first | exact q_rf_1 hl ⟨hyn.1, hn1⟩ hx hw (by assumption) (by assumption) | exact q_rf_2 hl ⟨hyn.1, hn1⟩ hx hw (by assumption) | exact q_rf_4 hl ⟨hyn.1, hn1⟩ hx hw (by assumption) (by omega)⟩))
                                                     · first
                                                       | (exfalso; first | omega | contradiction)
                                                       | (refine w_loc rfl ?_
                                                          refine w_pure rfl ?_
                                                          refine w_putIm (iv2 := pz_u1 (pz_u1 (pz_u1 (pz_u1 iv 154 (pz_up (pz_up (pz_up w 8 ((w 8) + 0)) 7 (pz_bi (q_ok (q_ir (iv 155) (q_rd (iv 155) (q_c4 v a) v) g)))) 7 0)) 157 (q_cg (q_ir (iv 155) (q_rd (iv 155) (q_c4 v a) v) g))) 158 (q_rd (iv 155) (q_c4 v a) v)) 159 (q_c4 v a)) is_154 (pz_fit1 (Or.inl rfl)) (by rw [pz_u2_in (r := 154) (q := 159) (by decide)]; rw [pz_u2_in (r := 154) (q := 158) (by decide)]; rw [pz_u2_in (r := 154) (q := 157) (by decide)]; rw [pz_u2_top]) ?_
                                                          refine w_nil ?_
                                                          refine pz_G_of pz_b247_204 ?_
                                                          refine w_goto ?_
                                                          exact ih114 _ (by omega) 0 (n + 1) (pz_up (pz_up (pz_up w 8 ((w 8) + 0)) 7 (pz_bi (q_ok (q_ir (iv 155) (q_rd (iv 155) (q_c4 v a) v) g)))) 7 0) (q_cg (q_ir (iv 155) (q_rd (iv 155) (q_c4 v a) v) g)) (q_rd (iv 155) (q_c4 v a) v) (q_c4 v a) (some (.inl (pz_bi (q_hc (q_rd (iv 155) (q_c4 v a) v) (q_c4 v a))))) rfl rfl (by omega) (by intro hq; first | exact absurd rfl hq | exact ⟨by have hq2 := q_last_go hl ⟨hyn.1, hn1⟩ hx (by assumption) (by assumption) (by omega); omega, q_rx_s hyn.1 hx, by rw [q_w7 hw, hw8, pz_bi_1 (by assumption)]⟩) (by intro hq; first | exact absurd hq (by decide) | exact ⟨q_rx_e hl ⟨hyn.1, hn1⟩ hx (fun q => by first | exact absurd q.1 (by assumption) | exact absurd q.2.1 (by assumption) | omega), by first | exact q_rf_1 hl ⟨hyn.1, hn1⟩ hx hw (by assumption) (by assumption) | exact q_rf_2 hl ⟨hyn.1, hn1⟩ hx hw (by assumption) | exact q_rf_4 hl ⟨hyn.1, hn1⟩ hx hw (by assumption) (by omega)⟩)))))
                                      · first
                                        | (exfalso; first | omega | contradiction)
                                        | (refine w_loc rfl ?_
                                           refine w_getI (v := (w 8) + 0) is_154 (by decide) rfl ?_
                                           refine w_pure rfl ?_
                                           refine w_ige (fun h18 => ?_) (fun h18 => ?_)
                                           · first
                                             | (exfalso; first | omega | contradiction)
                                             | (refine pz_G_of pz_b247_177 ?_
                                                refine w_pure rfl ?_
                                                refine w_nil ?_
                                                refine pz_G_of pz_b247_178 ?_
                                                refine w_loc (ls' := [some (.inr (.inl 154)), some (.inl 0), some (.inl (pz_bi (q_hc (q_rd (iv 155) (q_c4 v a) v) (q_c4 v a))))]) (st' := []) rfl ?_
                                                refine w_loc rfl ?_
                                                refine w_getI (v := pz_bi (q_ok (q_ir (iv 155) (q_rd (iv 155) (q_c4 v a) v) g))) is_154 (by decide) rfl ?_
                                                refine w_beq (fun h19 => ?_) (fun h19 => ?_)
                                                · first
                                                  | (exfalso; first | omega | contradiction)
                                                  | (refine pz_G_of pz_b247_204 ?_
                                                     refine w_goto ?_
                                                     exact ih114 _ (by omega) 0 (n + 1) (pz_up (pz_up w 8 ((w 8) + 0)) 7 (pz_bi (q_ok (q_ir (iv 155) (q_rd (iv 155) (q_c4 v a) v) g)))) (q_cg (q_ir (iv 155) (q_rd (iv 155) (q_c4 v a) v) g)) (q_rd (iv 155) (q_c4 v a) v) (q_c4 v a) (some (.inl (pz_bi (q_hc (q_rd (iv 155) (q_c4 v a) v) (q_c4 v a))))) rfl rfl (by omega) (by intro hq; first | exact absurd rfl hq | exact ⟨by have hq2 := q_last_go hl ⟨hyn.1, hn1⟩ hx (by assumption) (by assumption) (by omega); omega, q_rx_s hyn.1 hx, by rw [q_w7 hw, hw8, pz_bi_1 (by assumption)]⟩) (by intro hq; first | exact absurd hq (by decide) | exact ⟨q_rx_e hl ⟨hyn.1, hn1⟩ hx (fun q => by first | exact absurd q.1 (by assumption) | exact absurd q.2.1 (by assumption) | omega), by first | exact q_rf_1 hl ⟨hyn.1, hn1⟩ hx hw (by assumption) (by assumption) | exact q_rf_2 hl ⟨hyn.1, hn1⟩ hx hw (by assumption) | exact q_rf_4 hl ⟨hyn.1, hn1⟩ hx hw (by assumption) (by omega)⟩))
                                                · first
                                                  | (exfalso; first | omega | contradiction)
                                                  | (refine w_loc rfl ?_
                                                     refine w_beq (fun h20 => ?_) (fun h20 => ?_)
                                                     · first
                                                       | (exfalso; first | omega | contradiction)
                                                       | (refine pz_G_of pz_b247_204 ?_
                                                          refine w_goto ?_
                                                          exact ih114 _ (by omega) 0 (n + 1) (pz_up (pz_up w 8 ((w 8) + 0)) 7 (pz_bi (q_ok (q_ir (iv 155) (q_rd (iv 155) (q_c4 v a) v) g)))) (q_cg (q_ir (iv 155) (q_rd (iv 155) (q_c4 v a) v) g)) (q_rd (iv 155) (q_c4 v a) v) (q_c4 v a) (some (.inl (pz_bi (q_hc (q_rd (iv 155) (q_c4 v a) v) (q_c4 v a))))) rfl rfl (by omega) (by intro hq; first | exact absurd rfl hq | exact ⟨by have hq2 := q_last_go hl ⟨hyn.1, hn1⟩ hx (by assumption) (by assumption) (by omega); omega, q_rx_s hyn.1 hx, by rw [q_w7 hw, hw8, pz_bi_1 (by assumption)]⟩) (by intro hq; first | exact absurd hq (by decide) | exact ⟨q_rx_e hl ⟨hyn.1, hn1⟩ hx (fun q => by first | exact absurd q.1 (by assumption) | exact absurd q.2.1 (by assumption) | omega), by first | exact q_rf_1 hl ⟨hyn.1, hn1⟩ hx hw (by assumption) (by assumption) | exact q_rf_2 hl ⟨hyn.1, hn1⟩ hx hw (by assumption) | exact q_rf_4 hl ⟨hyn.1, hn1⟩ hx hw (by assumption) (by omega)⟩))
                                                     · first
                                                       | (exfalso; first | omega | contradiction)
                                                       | (refine w_loc rfl ?_
                                                          refine w_getI (v := (w 8) + 0) is_154 (by decide) rfl ?_
                                                          refine w_pure rfl ?_
                                                          refine w_ine (fun h21 => ?_) (fun h21 => ?_)
                                                          · first
                                                            | (exfalso; first | omega | contradiction)
                                                            | (refine pz_G_of pz_b247_204 ?_
                                                               refine w_goto ?_
                                                               exact ih114 _ (by omega) 0 (n + 1) (pz_up (pz_up w 8 ((w 8) + 0)) 7 (pz_bi (q_ok (q_ir (iv 155) (q_rd (iv 155) (q_c4 v a) v) g)))) (q_cg (q_ir (iv 155) (q_rd (iv 155) (q_c4 v a) v) g)) (q_rd (iv 155) (q_c4 v a) v) (q_c4 v a) (some (.inl (pz_bi (q_hc (q_rd (iv 155) (q_c4 v a) v) (q_c4 v a))))) rfl rfl (by omega) (by intro hq; first | exact absurd rfl hq | exact ⟨by have hq2 := q_last_go hl ⟨hyn.1, hn1⟩ hx (by assumption) (by assumption) (by omega); omega, q_rx_s hyn.1 hx, by rw [q_w7 hw, hw8, pz_bi_1 (by assumption)]⟩) (by intro hq; first | exact absurd hq (by decide) | exact ⟨q_rx_e hl ⟨hyn.1, hn1⟩ hx (fun q => by first | exact absurd q.1 (by assumption) | exact absurd q.2.1 (by assumption) | omega), by first | exact q_rf_1 hl ⟨hyn.1, hn1⟩ hx hw (by assumption) (by assumption) | exact q_rf_2 hl ⟨hyn.1, hn1⟩ hx hw (by assumption) | exact q_rf_4 hl ⟨hyn.1, hn1⟩ hx hw (by assumption) (by omega)⟩))
                                                          · first
                                                            | (exfalso; first | omega | contradiction)
                                                            | (refine w_loc rfl ?_
                                                               refine w_pure rfl ?_
                                                               refine w_putIm (iv2 := pz_u1 (pz_u1 (pz_u1 (pz_u1 iv 154 (pz_up (pz_up (pz_up w 8 ((w 8) + 0)) 7 (pz_bi (q_ok (q_ir (iv 155) (q_rd (iv 155) (q_c4 v a) v) g)))) 7 0)) 157 (q_cg (q_ir (iv 155) (q_rd (iv 155) (q_c4 v a) v) g))) 158 (q_rd (iv 155) (q_c4 v a) v)) 159 (q_c4 v a)) is_154 (pz_fit1 (Or.inl rfl)) (by rw [pz_u2_in (r := 154) (q := 159) (by decide)]; rw [pz_u2_in (r := 154) (q := 158) (by decide)]; rw [pz_u2_in (r := 154) (q := 157) (by decide)]; rw [pz_u2_top]) ?_
                                                               refine w_nil ?_
                                                               refine pz_G_of pz_b247_204 ?_
                                                               refine w_goto ?_
                                                               exact ih114 _ (by omega) 0 (n + 1) (pz_up (pz_up (pz_up w 8 ((w 8) + 0)) 7 (pz_bi (q_ok (q_ir (iv 155) (q_rd (iv 155) (q_c4 v a) v) g)))) 7 0) (q_cg (q_ir (iv 155) (q_rd (iv 155) (q_c4 v a) v) g)) (q_rd (iv 155) (q_c4 v a) v) (q_c4 v a) (some (.inl (pz_bi (q_hc (q_rd (iv 155) (q_c4 v a) v) (q_c4 v a))))) rfl rfl (by omega) (by intro hq; first | exact absurd rfl hq | exact ⟨by have hq2 := q_last_go hl ⟨hyn.1, hn1⟩ hx (by assumption) (by assumption) (by omega); omega, q_rx_s hyn.1 hx, by rw [q_w7 hw, hw8, pz_bi_1 (by assumption)]⟩) (by intro hq; first | exact absurd hq (by decide) | exact ⟨q_rx_e hl ⟨hyn.1, hn1⟩ hx (fun q => by first | exact absurd q.1 (by assumption) | exact absurd q.2.1 (by assumption) | omega), by first | exact q_rf_1 hl ⟨hyn.1, hn1⟩ hx hw (by assumption) (by assumption) | exact q_rf_2 hl ⟨hyn.1, hn1⟩ hx hw (by assumption) | exact q_rf_4 hl ⟨hyn.1, hn1⟩ hx hw (by assumption) (by omega)⟩)))))
                                           · first
                                             | (exfalso; first | omega | contradiction)
                                             | (refine w_pure rfl ?_
                                                refine w_goto ?_
                                                refine pz_G_of pz_b247_178 ?_
                                                refine w_loc (ls' := [some (.inr (.inl 154)), some (.inl 1), some (.inl (pz_bi (q_hc (q_rd (iv 155) (q_c4 v a) v) (q_c4 v a))))]) (st' := []) rfl ?_
                                                refine w_loc rfl ?_
                                                refine w_getI (v := pz_bi (q_ok (q_ir (iv 155) (q_rd (iv 155) (q_c4 v a) v) g))) is_154 (by decide) rfl ?_
                                                refine w_beq (fun h22 => ?_) (fun h22 => ?_)
                                                · first
                                                  | (exfalso; first | omega | contradiction)
                                                  | (refine pz_G_of pz_b247_204 ?_
                                                     refine w_goto ?_
                                                     exact ih114 _ (by omega) 1 (n + 1) (pz_up (pz_up w 8 ((w 8) + 0)) 7 (pz_bi (q_ok (q_ir (iv 155) (q_rd (iv 155) (q_c4 v a) v) g)))) (q_cg (q_ir (iv 155) (q_rd (iv 155) (q_c4 v a) v) g)) (q_rd (iv 155) (q_c4 v a) v) (q_c4 v a) (some (.inl (pz_bi (q_hc (q_rd (iv 155) (q_c4 v a) v) (q_c4 v a))))) rfl rfl (by omega) (by intro hq; first | exact absurd rfl hq | exact ⟨by have hq2 := q_last_go hl ⟨hyn.1, hn1⟩ hx (by assumption) (by assumption) (by omega); omega, q_rx_s hyn.1 hx, by rw [q_w7 hw, hw8, pz_bi_1 (by assumption)]⟩) (by intro hq; first | exact absurd hq (by decide) | exact ⟨q_rx_e hl ⟨hyn.1, hn1⟩ hx (fun q => by first | exact absurd q.1 (by assumption) | exact absurd q.2.1 (by assumption) | omega), by first | exact q_rf_1 hl ⟨hyn.1, hn1⟩ hx hw (by assumption) (by assumption) | exact q_rf_2 hl ⟨hyn.1, hn1⟩ hx hw (by assumption) | exact q_rf_4 hl ⟨hyn.1, hn1⟩ hx hw (by assumption) (by omega)⟩))
                                                · first
                                                  | (exfalso; first | omega | contradiction)
                                                  | (refine w_loc rfl ?_
                                                     refine w_beq (fun h23 => ?_) (fun h23 => ?_)
                                                     · first
                                                       | (exfalso; first | omega | contradiction)
                                                       | (refine pz_G_of pz_b247_204 ?_
                                                          refine w_goto ?_
                                                          exact ih114 _ (by omega) 1 (n + 1) (pz_up (pz_up w 8 ((w 8) + 0)) 7 (pz_bi (q_ok (q_ir (iv 155) (q_rd (iv 155) (q_c4 v a) v) g)))) (q_cg (q_ir (iv 155) (q_rd (iv 155) (q_c4 v a) v) g)) (q_rd (iv 155) (q_c4 v a) v) (q_c4 v a) (some (.inl (pz_bi (q_hc (q_rd (iv 155) (q_c4 v a) v) (q_c4 v a))))) rfl rfl (by omega) (by intro hq; first | exact absurd rfl hq | exact ⟨by have hq2 := q_last_go hl ⟨hyn.1, hn1⟩ hx (by assumption) (by assumption) (by omega); omega, q_rx_s hyn.1 hx, by rw [q_w7 hw, hw8, pz_bi_1 (by assumption)]⟩) (by intro hq; first | exact absurd hq (by decide) | exact ⟨q_rx_e hl ⟨hyn.1, hn1⟩ hx (fun q => by first | exact absurd q.1 (by assumption) | exact absurd q.2.1 (by assumption) | omega), by first | exact q_rf_1 hl ⟨hyn.1, hn1⟩ hx hw (by assumption) (by assumption) | exact q_rf_2 hl ⟨hyn.1, hn1⟩ hx hw (by assumption) | exact q_rf_4 hl ⟨hyn.1, hn1⟩ hx hw (by assumption) (by omega)⟩))
                                                     · first
                                                       | (exfalso; first | omega | contradiction)
                                                       | (refine w_loc rfl ?_
                                                          refine w_getI (v := (w 8) + 0) is_154 (by decide) rfl ?_
                                                          refine w_pure rfl ?_
                                                          refine w_ine (fun h24 => ?_) (fun h24 => ?_)
                                                          · first
                                                            | (exfalso; first | omega | contradiction)
                                                            | (refine pz_G_of pz_b247_204 ?_
                                                               refine w_goto ?_
                                                               exact ih114 _ (by omega) 1 (n + 1) (pz_up (pz_up w 8 ((w 8) + 0)) 7 (pz_bi (q_ok (q_ir (iv 155) (q_rd (iv 155) (q_c4 v a) v) g)))) (q_cg (q_ir (iv 155) (q_rd (iv 155) (q_c4 v a) v) g)) (q_rd (iv 155) (q_c4 v a) v) (q_c4 v a) (some (.inl (pz_bi (q_hc (q_rd (iv 155) (q_c4 v a) v) (q_c4 v a))))) rfl rfl (by omega) (by intro hq; first | exact absurd rfl hq | exact ⟨by have hq2 := q_last_go hl ⟨hyn.1, hn1⟩ hx (by assumption) (by assumption) (by omega); omega, q_rx_s hyn.1 hx, by rw [q_w7 hw, hw8, pz_bi_1 (by assumption)]⟩) (by intro hq; first | exact absurd hq (by decide) | exact ⟨q_rx_e hl ⟨hyn.1, hn1⟩ hx (fun q => by first | exact absurd q.1 (by assumption) | exact absurd q.2.1 (by assumption) | omega), by first | exact q_rf_1 hl ⟨hyn.1, hn1⟩ hx hw (by assumption) (by assumption) | exact q_rf_2 hl ⟨hyn.1, hn1⟩ hx hw (by assumption) | exact q_rf_4 hl ⟨hyn.1, hn1⟩ hx hw (by assumption) (by omega)⟩))
                                                          · first
                                                            | (exfalso; first | omega | contradiction)
                                                            | (refine w_loc rfl ?_
                                                               refine w_pure rfl ?_
                                                               refine w_putIm (iv2 := pz_u1 (pz_u1 (pz_u1 (pz_u1 iv 154 (pz_up (pz_up (pz_up w 8 ((w 8) + 0)) 7 (pz_bi (q_ok (q_ir (iv 155) (q_rd (iv 155) (q_c4 v a) v) g)))) 7 0)) 157 (q_cg (q_ir (iv 155) (q_rd (iv 155) (q_c4 v a) v) g))) 158 (q_rd (iv 155) (q_c4 v a) v)) 159 (q_c4 v a)) is_154 (pz_fit1 (Or.inl rfl)) (by rw [pz_u2_in (r := 154) (q := 159) (by decide)]; rw [pz_u2_in (r := 154) (q := 158) (by decide)]; rw [pz_u2_in (r := 154) (q := 157) (by decide)]; rw [pz_u2_top]) ?_
                                                               refine w_nil ?_
                                                               refine pz_G_of pz_b247_204 ?_
                                                               refine w_goto ?_
                                                               exact ih114 _ (by omega) 1 (n + 1) (pz_up (pz_up (pz_up w 8 ((w 8) + 0)) 7 (pz_bi (q_ok (q_ir (iv 155) (q_rd (iv 155) (q_c4 v a) v) g)))) 7 0) (q_cg (q_ir (iv 155) (q_rd (iv 155) (q_c4 v a) v) g)) (q_rd (iv 155) (q_c4 v a) v) (q_c4 v a) (some (.inl (pz_bi (q_hc (q_rd (iv 155) (q_c4 v a) v) (q_c4 v a))))) rfl rfl (by omega) (by intro hq; first | exact absurd rfl hq | exact ⟨by have hq2 := q_last_go hl ⟨hyn.1, hn1⟩ hx (by assumption) (by assumption) (by omega); omega, q_rx_s hyn.1 hx, by rw [q_w7 hw, hw8, pz_bi_1 (by assumption)]⟩) (by intro hq; first | exact absurd hq (by decide) | exact ⟨q_rx_e hl ⟨hyn.1, hn1⟩ hx (fun q => by first | exact absurd q.1 (by assumption) | exact absurd q.2.1 (by assumption) | omega), by first | exact q_rf_1 hl ⟨hyn.1, hn1⟩ hx hw (by assumption) (by assumption) | exact q_rf_2 hl ⟨hyn.1, hn1⟩ hx hw (by assumption) | exact q_rf_4 hl ⟨hyn.1, hn1⟩ hx hw (by assumption) (by omega)⟩))))))))
                            · first
                              | (exfalso; first | omega | contradiction)
                              | (refine w_pure rfl ?_
                                 refine w_goto ?_
                                 refine pz_G_of pz_b247_141 ?_
                                 refine w_iadd (by omega) ?_
                                 refine w_putIm (iv2 := pz_u1 (pz_u1 (pz_u1 (pz_u1 iv 154 (pz_up w 8 ((w 8) + 1))) 157 g) 158 (q_rd (iv 155) (q_c4 v a) v)) 159 (q_c4 v a)) is_154 pz_fit0 (by rw [pz_u2_in (r := 154) (q := 159) (by decide)]; rw [pz_u2_in (r := 154) (q := 158) (by decide)]; rw [pz_u2_in (r := 154) (q := 157) (by decide)]; rw [pz_u2_top]) ?_
                                 refine w_loc rfl ?_
                                 refine w_loc rfl ?_
                                 have hc25 : pz_R (pz_Sh L) 246 [.inr (.inl 154)] (pz_u1 (pz_u1 (pz_u1 (pz_u1 iv 154 (pz_up w 8 ((w 8) + 1))) 157 g) 158 (q_rd (iv 155) (q_c4 v a) v)) 159 (q_c4 v a)) (.inl (some (.inl (pz_bi (q_ok (q_ir (iv 155) (q_rd (iv 155) (q_c4 v a) v) g)))))) (pz_u1 (pz_u1 (pz_u1 (pz_u1 iv 154 (pz_up w 8 ((w 8) + 1))) 157 (q_cg (q_ir (iv 155) (q_rd (iv 155) (q_c4 v a) v) g))) 158 (q_rd (iv 155) (q_c4 v a) v)) 159 (q_c4 v a)) := pz_R_mem (s_X11_isRound (by show q_KR (iv 155); exact hk) (by show q_cb (q_ir (iv 155) (q_rd (iv 155) (q_c4 v a) v) g); exact hBv.2)) (by rw [pz_u1_in (r := 157) (q := 159) (by decide)]; rw [pz_u1_in (r := 157) (q := 158) (by decide)]; rw [pz_u1_top (r := 157)]; rfl)
                                 refine w_call hc25 rfl (pz_cokI is_154 rfl) ?_
                                 refine w_putIm (iv2 := pz_u1 (pz_u1 (pz_u1 (pz_u1 iv 154 (pz_up (pz_up w 8 ((w 8) + 1)) 7 (pz_bi (q_ok (q_ir (iv 155) (q_rd (iv 155) (q_c4 v a) v) g))))) 157 (q_cg (q_ir (iv 155) (q_rd (iv 155) (q_c4 v a) v) g))) 158 (q_rd (iv 155) (q_c4 v a) v)) 159 (q_c4 v a)) is_154 (pz_fit1 (pz_bi01 _)) (by rw [pz_u2_in (r := 154) (q := 159) (by decide)]; rw [pz_u2_in (r := 154) (q := 158) (by decide)]; rw [pz_u2_in (r := 154) (q := 157) (by decide)]; rw [pz_u2_top]) ?_
                                 refine w_loc rfl ?_
                                 refine w_getI (v := pz_bi (q_ok (q_ir (iv 155) (q_rd (iv 155) (q_c4 v a) v) g))) is_154 (by decide) rfl ?_
                                 refine w_beq (fun h26 => ?_) (fun h26 => ?_)
                                 · first
                                   | (exfalso; first | omega | contradiction)
                                   | (refine pz_G_of pz_b247_177 ?_
                                      refine w_pure rfl ?_
                                      refine w_nil ?_
                                      refine pz_G_of pz_b247_178 ?_
                                      refine w_loc (ls' := [some (.inr (.inl 154)), some (.inl 0), some (.inl (pz_bi (q_hc (q_rd (iv 155) (q_c4 v a) v) (q_c4 v a))))]) (st' := []) rfl ?_
                                      refine w_loc rfl ?_
                                      refine w_getI (v := pz_bi (q_ok (q_ir (iv 155) (q_rd (iv 155) (q_c4 v a) v) g))) is_154 (by decide) rfl ?_
                                      refine w_beq (fun h27 => ?_) (fun h27 => ?_)
                                      · first
                                        | (exfalso; first | omega | contradiction)
                                        | (refine pz_G_of pz_b247_204 ?_
                                           refine w_goto ?_
                                           exact ih114 _ (by omega) 0 (n + 1) (pz_up (pz_up w 8 ((w 8) + 1)) 7 (pz_bi (q_ok (q_ir (iv 155) (q_rd (iv 155) (q_c4 v a) v) g)))) (q_cg (q_ir (iv 155) (q_rd (iv 155) (q_c4 v a) v) g)) (q_rd (iv 155) (q_c4 v a) v) (q_c4 v a) (some (.inl (pz_bi (q_hc (q_rd (iv 155) (q_c4 v a) v) (q_c4 v a))))) rfl rfl (by omega) (by intro hq; first | exact absurd rfl hq | exact ⟨by have hq2 := q_last_go hl ⟨hyn.1, hn1⟩ hx (by assumption) (by assumption) (by omega); omega, q_rx_s hyn.1 hx, by rw [q_w7 hw, hw8, pz_bi_1 (by assumption)]⟩) (by intro hq; first | exact absurd hq (by decide) | exact ⟨q_rx_e hl ⟨hyn.1, hn1⟩ hx (fun q => by first | exact absurd q.1 (by assumption) | exact absurd q.2.1 (by assumption) | omega), by first | exact q_rf_1 hl ⟨hyn.1, hn1⟩ hx hw (by assumption) (by assumption) | exact q_rf_2 hl ⟨hyn.1, hn1⟩ hx hw (by assumption) | exact q_rf_4 hl ⟨hyn.1, hn1⟩ hx hw (by assumption) (by omega)⟩))
                                      · first
                                        | (exfalso; first | omega | contradiction)
                                        | (refine w_loc rfl ?_
                                           refine w_beq (fun h28 => ?_) (fun h28 => ?_)
                                           · first
                                             | (exfalso; first | omega | contradiction)
                                             | (refine pz_G_of pz_b247_204 ?_
                                                refine w_goto ?_
                                                exact ih114 _ (by omega) 0 (n + 1) (pz_up (pz_up w 8 ((w 8) + 1)) 7 (pz_bi (q_ok (q_ir (iv 155) (q_rd (iv 155) (q_c4 v a) v) g)))) (q_cg (q_ir (iv 155) (q_rd (iv 155) (q_c4 v a) v) g)) (q_rd (iv 155) (q_c4 v a) v) (q_c4 v a) (some (.inl (pz_bi (q_hc (q_rd (iv 155) (q_c4 v a) v) (q_c4 v a))))) rfl rfl (by omega) (by intro hq; first | exact absurd rfl hq | exact ⟨by have hq2 := q_last_go hl ⟨hyn.1, hn1⟩ hx (by assumption) (by assumption) (by omega); omega, q_rx_s hyn.1 hx, by rw [q_w7 hw, hw8, pz_bi_1 (by assumption)]⟩) (by intro hq; first | exact absurd hq (by decide) | exact ⟨q_rx_e hl ⟨hyn.1, hn1⟩ hx (fun q => by first | exact absurd q.1 (by assumption) | exact absurd q.2.1 (by assumption) | omega), by first | exact q_rf_1 hl ⟨hyn.1, hn1⟩ hx hw (by assumption) (by assumption) | exact q_rf_2 hl ⟨hyn.1, hn1⟩ hx hw (by assumption) | exact q_rf_4 hl ⟨hyn.1, hn1⟩ hx hw (by assumption) (by omega)⟩))
                                           · first
                                             | (exfalso; first | omega | contradiction)
                                             | (refine w_loc rfl ?_
                                                refine w_getI (v := (w 8) + 1) is_154 (by decide) rfl ?_
                                                refine w_pure rfl ?_
                                                refine w_ine (fun h29 => ?_) (fun h29 => ?_)
                                                · first
                                                  | (exfalso; first | omega | contradiction)
                                                  | (refine pz_G_of pz_b247_204 ?_
                                                     refine w_goto ?_
                                                     exact ih114 _ (by omega) 0 (n + 1) (pz_up (pz_up w 8 ((w 8) + 1)) 7 (pz_bi (q_ok (q_ir (iv 155) (q_rd (iv 155) (q_c4 v a) v) g)))) (q_cg (q_ir (iv 155) (q_rd (iv 155) (q_c4 v a) v) g)) (q_rd (iv 155) (q_c4 v a) v) (q_c4 v a) (some (.inl (pz_bi (q_hc (q_rd (iv 155) (q_c4 v a) v) (q_c4 v a))))) rfl rfl (by omega) (by intro hq; first | exact absurd rfl hq | exact ⟨by have hq2 := q_last_go hl ⟨hyn.1, hn1⟩ hx (by assumption) (by assumption) (by omega); omega, q_rx_s hyn.1 hx, by rw [q_w7 hw, hw8, pz_bi_1 (by assumption)]⟩) (by intro hq; first | exact absurd hq (by decide) | exact ⟨q_rx_e hl ⟨hyn.1, hn1⟩ hx (fun q => by first | exact absurd q.1 (by assumption) | exact absurd q.2.1 (by assumption) | omega), by first | exact q_rf_1 hl ⟨hyn.1, hn1⟩ hx hw (by assumption) (by assumption) | exact q_rf_2 hl ⟨hyn.1, hn1⟩ hx hw (by assumption) | exact q_rf_4 hl ⟨hyn.1, hn1⟩ hx hw (by assumption) (by omega)⟩))
                                                · first
                                                  | (exfalso; first | omega | contradiction)
                                                  | (refine w_loc rfl ?_
                                                     refine w_pure rfl ?_
                                                     refine w_putIm (iv2 := pz_u1 (pz_u1 (pz_u1 (pz_u1 iv 154 (pz_up (pz_up (pz_up w 8 ((w 8) + 1)) 7 (pz_bi (q_ok (q_ir (iv 155) (q_rd (iv 155) (q_c4 v a) v) g)))) 7 0)) 157 (q_cg (q_ir (iv 155) (q_rd (iv 155) (q_c4 v a) v) g))) 158 (q_rd (iv 155) (q_c4 v a) v)) 159 (q_c4 v a)) is_154 (pz_fit1 (Or.inl rfl)) (by rw [pz_u2_in (r := 154) (q := 159) (by decide)]; rw [pz_u2_in (r := 154) (q := 158) (by decide)]; rw [pz_u2_in (r := 154) (q := 157) (by decide)]; rw [pz_u2_top]) ?_
                                                     refine w_nil ?_
                                                     refine pz_G_of pz_b247_204 ?_
                                                     refine w_goto ?_
                                                     exact ih114 _ (by omega) 0 (n + 1) (pz_up (pz_up (pz_up w 8 ((w 8) + 1)) 7 (pz_bi (q_ok (q_ir (iv 155) (q_rd (iv 155) (q_c4 v a) v) g)))) 7 0) (q_cg (q_ir (iv 155) (q_rd (iv 155) (q_c4 v a) v) g)) (q_rd (iv 155) (q_c4 v a) v) (q_c4 v a) (some (.inl (pz_bi (q_hc (q_rd (iv 155) (q_c4 v a) v) (q_c4 v a))))) rfl rfl (by omega) (by intro hq; first | exact absurd rfl hq | exact ⟨by have hq2 := q_last_go hl ⟨hyn.1, hn1⟩ hx (by assumption) (by assumption) (by omega); omega, q_rx_s hyn.1 hx, by rw [q_w7 hw, hw8, pz_bi_1 (by assumption)]⟩) (by intro hq; first | exact absurd hq (by decide) | exact ⟨q_rx_e hl ⟨hyn.1, hn1⟩ hx (fun q => by first | exact absurd q.1 (by assumption) | exact absurd q.2.1 (by assumption) | omega), by first | exact q_rf_1 hl ⟨hyn.1, hn1⟩ hx hw (by assumption) (by assumption) | exact q_rf_2 hl ⟨hyn.1, hn1⟩ hx hw (by assumption) | exact q_rf_4 hl ⟨hyn.1, hn1⟩ hx hw (by assumption) (by omega)⟩)))))
                                 · first
                                   | (exfalso; first | omega | contradiction)
                                   | (refine w_loc rfl ?_
                                      refine w_beq (fun h30 => ?_) (fun h30 => ?_)
                                      · first
                                        | (exfalso; first | omega | contradiction)
                                        | (refine pz_G_of pz_b247_177 ?_
                                           refine w_pure rfl ?_
                                           refine w_nil ?_
                                           refine pz_G_of pz_b247_178 ?_
                                           refine w_loc (ls' := [some (.inr (.inl 154)), some (.inl 0), some (.inl (pz_bi (q_hc (q_rd (iv 155) (q_c4 v a) v) (q_c4 v a))))]) (st' := []) rfl ?_
                                           refine w_loc rfl ?_
                                           refine w_getI (v := pz_bi (q_ok (q_ir (iv 155) (q_rd (iv 155) (q_c4 v a) v) g))) is_154 (by decide) rfl ?_
                                           refine w_beq (fun h31 => ?_) (fun h31 => ?_)
                                           · first
                                             | (exfalso; first | omega | contradiction)
                                             | (refine pz_G_of pz_b247_204 ?_
                                                refine w_goto ?_
                                                exact ih114 _ (by omega) 0 (n + 1) (pz_up (pz_up w 8 ((w 8) + 1)) 7 (pz_bi (q_ok (q_ir (iv 155) (q_rd (iv 155) (q_c4 v a) v) g)))) (q_cg (q_ir (iv 155) (q_rd (iv 155) (q_c4 v a) v) g)) (q_rd (iv 155) (q_c4 v a) v) (q_c4 v a) (some (.inl (pz_bi (q_hc (q_rd (iv 155) (q_c4 v a) v) (q_c4 v a))))) rfl rfl (by omega) (by intro hq; first | exact absurd rfl hq | exact ⟨by have hq2 := q_last_go hl ⟨hyn.1, hn1⟩ hx (by assumption) (by assumption) (by omega); omega, q_rx_s hyn.1 hx, by rw [q_w7 hw, hw8, pz_bi_1 (by assumption)]⟩) (by intro hq; first | exact absurd hq (by decide) | exact ⟨q_rx_e hl ⟨hyn.1, hn1⟩ hx (fun q => by first | exact absurd q.1 (by assumption) | exact absurd q.2.1 (by assumption) | omega), by first | exact q_rf_1 hl ⟨hyn.1, hn1⟩ hx hw (by assumption) (by assumption) | exact q_rf_2 hl ⟨hyn.1, hn1⟩ hx hw (by assumption) | exact q_rf_4 hl ⟨hyn.1, hn1⟩ hx hw (by assumption) (by omega)⟩))
                                           · first
                                             | (exfalso; first | omega | contradiction)
                                             | (refine w_loc rfl ?_
                                                refine w_beq (fun h32 => ?_) (fun h32 => ?_)
                                                · first
                                                  | (exfalso; first | omega | contradiction)
                                                  | (refine pz_G_of pz_b247_204 ?_
                                                     refine w_goto ?_
                                                     exact ih114 _ (by omega) 0 (n + 1) (pz_up (pz_up w 8 ((w 8) + 1)) 7 (pz_bi (q_ok (q_ir (iv 155) (q_rd (iv 155) (q_c4 v a) v) g)))) (q_cg (q_ir (iv 155) (q_rd (iv 155) (q_c4 v a) v) g)) (q_rd (iv 155) (q_c4 v a) v) (q_c4 v a) (some (.inl (pz_bi (q_hc (q_rd (iv 155) (q_c4 v a) v) (q_c4 v a))))) rfl rfl (by omega) (by intro hq; first | exact absurd rfl hq | exact ⟨by have hq2 := q_last_go hl ⟨hyn.1, hn1⟩ hx (by assumption) (by assumption) (by omega); omega, q_rx_s hyn.1 hx, by rw [q_w7 hw, hw8, pz_bi_1 (by assumption)]⟩) (by intro hq; first | exact absurd hq (by decide) | exact ⟨q_rx_e hl ⟨hyn.1, hn1⟩ hx (fun q => by first | exact absurd q.1 (by assumption) | exact absurd q.2.1 (by assumption) | omega), by first | exact q_rf_1 hl ⟨hyn.1, hn1⟩ hx hw (by assumption) (by assumption) | exact q_rf_2 hl ⟨hyn.1, hn1⟩ hx hw (by assumption) | exact q_rf_4 hl ⟨hyn.1, hn1⟩ hx hw (by assumption) (by omega)⟩))
                                                · first
                                                  | (exfalso; first | omega | contradiction)
                                                  | (refine w_loc rfl ?_
                                                     refine w_getI (v := (w 8) + 1) is_154 (by decide) rfl ?_
                                                     refine w_pure rfl ?_
                                                     refine w_ine (fun h33 => ?_) (fun h33 => ?_)
                                                     · first
                                                       | (exfalso; first | omega | contradiction)
                                                       | (refine pz_G_of pz_b247_204 ?_
                                                          refine w_goto ?_
                                                          exact ih114 _ (by omega) 0 (n + 1) (pz_up (pz_up w 8 ((w 8) + 1)) 7 (pz_bi (q_ok (q_ir (iv 155) (q_rd (iv 155) (q_c4 v a) v) g)))) (q_cg (q_ir (iv 155) (q_rd (iv 155) (q_c4 v a) v) g)) (q_rd (iv 155) (q_c4 v a) v) (q_c4 v a) (some (.inl (pz_bi (q_hc (q_rd (iv 155) (q_c4 v a) v) (q_c4 v a))))) rfl rfl (by omega) (by intro hq; first | exact absurd rfl hq | exact ⟨by have hq2 := q_last_go hl ⟨hyn.1, hn1⟩ hx (by assumption) (by assumption) (by omega); omega, q_rx_s hyn.1 hx, by rw [q_w7 hw, hw8, pz_bi_1 (by assumption)]⟩) (by intro hq; first | exact absurd hq (by decide) | exact ⟨q_rx_e hl ⟨hyn.1, hn1⟩ hx (fun q => by first | exact absurd q.1 (by assumption) | exact absurd q.2.1 (by assumption) | omega), by first | exact q_rf_1 hl ⟨hyn.1, hn1⟩ hx hw (by assumption) (by assumption) | exact q_rf_2 hl ⟨hyn.1, hn1⟩ hx hw (by assumption) | exact q_rf_4 hl ⟨hyn.1, hn1⟩ hx hw (by assumption) (by omega)⟩))
                                                     · first
                                                       | (exfalso; first | omega | contradiction)
                                                       | (refine w_loc rfl ?_
                                                          refine w_pure rfl ?_
                                                          refine w_putIm (iv2 := pz_u1 (pz_u1 (pz_u1 (pz_u1 iv 154 (pz_up (pz_up (pz_up w 8 ((w 8) + 1)) 7 (pz_bi (q_ok (q_ir (iv 155) (q_rd (iv 155) (q_c4 v a) v) g)))) 7 0)) 157 (q_cg (q_ir (iv 155) (q_rd (iv 155) (q_c4 v a) v) g))) 158 (q_rd (iv 155) (q_c4 v a) v)) 159 (q_c4 v a)) is_154 (pz_fit1 (Or.inl rfl)) (by rw [pz_u2_in (r := 154) (q := 159) (by decide)]; rw [pz_u2_in (r := 154) (q := 158) (by decide)]; rw [pz_u2_in (r := 154) (q := 157) (by decide)]; rw [pz_u2_top]) ?_
                                                          refine w_nil ?_
                                                          refine pz_G_of pz_b247_204 ?_
                                                          refine w_goto ?_
                                                          exact ih114 _ (by omega) 0 (n + 1) (pz_up (pz_up (pz_up w 8 ((w 8) + 1)) 7 (pz_bi (q_ok (q_ir (iv 155) (q_rd (iv 155) (q_c4 v a) v) g)))) 7 0) (q_cg (q_ir (iv 155) (q_rd (iv 155) (q_c4 v a) v) g)) (q_rd (iv 155) (q_c4 v a) v) (q_c4 v a) (some (.inl (pz_bi (q_hc (q_rd (iv 155) (q_c4 v a) v) (q_c4 v a))))) rfl rfl (by omega) (by intro hq; first | exact absurd rfl hq | exact ⟨by have hq2 := q_last_go hl ⟨hyn.1, hn1⟩ hx (by assumption) (by assumption) (by omega); omega, q_rx_s hyn.1 hx, by rw [q_w7 hw, hw8, pz_bi_1 (by assumption)]⟩) (by intro hq; first | exact absurd hq (by decide) | exact ⟨q_rx_e hl ⟨hyn.1, hn1⟩ hx (fun q => by first | exact absurd q.1 (by assumption) | exact absurd q.2.1 (by assumption) | omega), by first | exact q_rf_1 hl ⟨hyn.1, hn1⟩ hx hw (by assumption) (by assumption) | exact q_rf_2 hl ⟨hyn.1, hn1⟩ hx hw (by assumption) | exact q_rf_4 hl ⟨hyn.1, hn1⟩ hx hw (by assumption) (by omega)⟩)))))
                                      · first
                                        | (exfalso; first | omega | contradiction)
                                        | (refine w_loc rfl ?_
                                           refine w_getI (v := (w 8) + 1) is_154 (by decide) rfl ?_
                                           refine w_pure rfl ?_
                                           refine w_ige (fun h34 => ?_) (fun h34 => ?_)
                                           · first
                                             | (exfalso; first | omega | contradiction)
                                             | (refine pz_G_of pz_b247_177 ?_
                                                refine w_pure rfl ?_
                                                refine w_nil ?_
                                                refine pz_G_of pz_b247_178 ?_
                                                refine w_loc (ls' := [some (.inr (.inl 154)), some (.inl 0), some (.inl (pz_bi (q_hc (q_rd (iv 155) (q_c4 v a) v) (q_c4 v a))))]) (st' := []) rfl ?_
                                                refine w_loc rfl ?_
                                                refine w_getI (v := pz_bi (q_ok (q_ir (iv 155) (q_rd (iv 155) (q_c4 v a) v) g))) is_154 (by decide) rfl ?_
                                                refine w_beq (fun h35 => ?_) (fun h35 => ?_)
                                                · first
                                                  | (exfalso; first | omega | contradiction)
                                                  | (refine pz_G_of pz_b247_204 ?_
                                                     refine w_goto ?_
                                                     exact ih114 _ (by omega) 0 (n + 1) (pz_up (pz_up w 8 ((w 8) + 1)) 7 (pz_bi (q_ok (q_ir (iv 155) (q_rd (iv 155) (q_c4 v a) v) g)))) (q_cg (q_ir (iv 155) (q_rd (iv 155) (q_c4 v a) v) g)) (q_rd (iv 155) (q_c4 v a) v) (q_c4 v a) (some (.inl (pz_bi (q_hc (q_rd (iv 155) (q_c4 v a) v) (q_c4 v a))))) rfl rfl (by omega) (by intro hq; first | exact absurd rfl hq | exact ⟨by have hq2 := q_last_go hl ⟨hyn.1, hn1⟩ hx (by assumption) (by assumption) (by omega); omega, q_rx_s hyn.1 hx, by rw [q_w7 hw, hw8, pz_bi_1 (by assumption)]⟩) (by intro hq; first | exact absurd hq (by decide) | exact ⟨q_rx_e hl ⟨hyn.1, hn1⟩ hx (fun q => by first | exact absurd q.1 (by assumption) | exact absurd q.2.1 (by assumption) | omega), by first | exact q_rf_1 hl ⟨hyn.1, hn1⟩ hx hw (by assumption) (by assumption) | exact q_rf_2 hl ⟨hyn.1, hn1⟩ hx hw (by assumption) | exact q_rf_4 hl ⟨hyn.1, hn1⟩ hx hw (by assumption) (by omega)⟩))
                                                · first
                                                  | (exfalso; first | omega | contradiction)
                                                  | (refine w_loc rfl ?_
                                                     refine w_beq (fun h36 => ?_) (fun h36 => ?_)
                                                     · first
                                                       | (exfalso; first | omega | contradiction)
                                                       | (refine pz_G_of pz_b247_204 ?_
                                                          refine w_goto ?_
                                                          exact ih114 _ (by omega) 0 (n + 1) (pz_up (pz_up w 8 ((w 8) + 1)) 7 (pz_bi (q_ok (q_ir (iv 155) (q_rd (iv 155) (q_c4 v a) v) g)))) (q_cg (q_ir (iv 155) (q_rd (iv 155) (q_c4 v a) v) g)) (q_rd (iv 155) (q_c4 v a) v) (q_c4 v a) (some (.inl (pz_bi (q_hc (q_rd (iv 155) (q_c4 v a) v) (q_c4 v a))))) rfl rfl (by omega) (by intro hq; first | exact absurd rfl hq | exact ⟨by have hq2 := q_last_go hl ⟨hyn.1, hn1⟩ hx (by assumption) (by assumption) (by omega); omega, q_rx_s hyn.1 hx, by rw [q_w7 hw, hw8, pz_bi_1 (by assumption)]⟩) (by intro hq; first | exact absurd hq (by decide) | exact ⟨q_rx_e hl ⟨hyn.1, hn1⟩ hx (fun q => by first | exact absurd q.1 (by assumption) | exact absurd q.2.1 (by assumption) | omega), by first | exact q_rf_1 hl ⟨hyn.1, hn1⟩ hx hw (by assumption) (by assumption) | exact q_rf_2 hl ⟨hyn.1, hn1⟩ hx hw (by assumption) | exact q_rf_4 hl ⟨hyn.1, hn1⟩ hx hw (by assumption) (by omega)⟩))
                                                     · first
                                                       | (exfalso; first | omega | contradiction)
                                                       | (refine w_loc rfl ?_
                                                          refine w_getI (v := (w 8) + 1) is_154 (by decide) rfl ?_
                                                          refine w_pure rfl ?_
                                                          refine w_ine (fun h37 => ?_) (fun h37 => ?_)
                                                          · first
                                                            | (exfalso; first | omega | contradiction)
                                                            | (refine pz_G_of pz_b247_204 ?_
                                                               refine w_goto ?_
                                                               exact ih114 _ (by omega) 0 (n + 1) (pz_up (pz_up w 8 ((w 8) + 1)) 7 (pz_bi (q_ok (q_ir (iv 155) (q_rd (iv 155) (q_c4 v a) v) g)))) (q_cg (q_ir (iv 155) (q_rd (iv 155) (q_c4 v a) v) g)) (q_rd (iv 155) (q_c4 v a) v) (q_c4 v a) (some (.inl (pz_bi (q_hc (q_rd (iv 155) (q_c4 v a) v) (q_c4 v a))))) rfl rfl (by omega) (by intro hq; first | exact absurd rfl hq | exact ⟨by have hq2 := q_last_go hl ⟨hyn.1, hn1⟩ hx (by assumption) (by assumption) (by omega); omega, q_rx_s hyn.1 hx, by rw [q_w7 hw, hw8, pz_bi_1 (by assumption)]⟩) (by intro hq; first | exact absurd hq (by decide) | exact ⟨q_rx_e hl ⟨hyn.1, hn1⟩ hx (fun q => by first | exact absurd q.1 (by assumption) | exact absurd q.2.1 (by assumption) | omega), by first | exact q_rf_1 hl ⟨hyn.1, hn1⟩ hx hw (by assumption) (by assumption) | exact q_rf_2 hl ⟨hyn.1, hn1⟩ hx hw (by assumption) | exact q_rf_4 hl ⟨hyn.1, hn1⟩ hx hw (by assumption) (by omega)⟩))
                                                          · first
                                                            | (exfalso; first | omega | contradiction)
                                                            | (refine w_loc rfl ?_
                                                               refine w_pure rfl ?_
                                                               refine w_putIm (iv2 := pz_u1 (pz_u1 (pz_u1 (pz_u1 iv 154 (pz_up (pz_up (pz_up w 8 ((w 8) + 1)) 7 (pz_bi (q_ok (q_ir (iv 155) (q_rd (iv 155) (q_c4 v a) v) g)))) 7 0)) 157 (q_cg (q_ir (iv 155) (q_rd (iv 155) (q_c4 v a) v) g))) 158 (q_rd (iv 155) (q_c4 v a) v)) 159 (q_c4 v a)) is_154 (pz_fit1 (Or.inl rfl)) (by rw [pz_u2_in (r := 154) (q := 159) (by decide)]; rw [pz_u2_in (r := 154) (q := 158) (by decide)]; rw [pz_u2_in (r := 154) (q := 157) (by decide)]; rw [pz_u2_top]) ?_
                                                               refine w_nil ?_
                                                               refine pz_G_of pz_b247_204 ?_
                                                               refine w_goto ?_
                                                               exact ih114 _ (by omega) 0 (n + 1) (pz_up (pz_up (pz_up w 8 ((w 8) + 1)) 7 (pz_bi (q_ok (q_ir (iv 155) (q_rd (iv 155) (q_c4 v a) v) g)))) 7 0) (q_cg (q_ir (iv 155) (q_rd (iv 155) (q_c4 v a) v) g)) (q_rd (iv 155) (q_c4 v a) v) (q_c4 v a) (some (.inl (pz_bi (q_hc (q_rd (iv 155) (q_c4 v a) v) (q_c4 v a))))) rfl rfl (by omega) (by intro hq; first | exact absurd rfl hq | exact ⟨by have hq2 := q_last_go hl ⟨hyn.1, hn1⟩ hx (by assumption) (by assumption) (by omega); omega, q_rx_s hyn.1 hx, by rw [q_w7 hw, hw8, pz_bi_1 (by assumption)]⟩) (by intro hq; first | exact absurd hq (by decide) | exact ⟨q_rx_e hl ⟨hyn.1, hn1⟩ hx (fun q => by first | exact absurd q.1 (by assumption) | exact absurd q.2.1 (by assumption) | omega), by first | exact q_rf_1 hl ⟨hyn.1, hn1⟩ hx hw (by assumption) (by assumption) | exact q_rf_2 hl ⟨hyn.1, hn1⟩ hx hw (by assumption) | exact q_rf_4 hl ⟨hyn.1, hn1⟩ hx hw (by assumption) (by omega)⟩)))))
                                           · first
                                             | (exfalso; first | omega | contradiction)
                                             | (refine w_pure rfl ?_
                                                refine w_goto ?_
                                                refine pz_G_of pz_b247_178 ?_
                                                refine w_loc (ls' := [some (.inr (.inl 154)), some (.inl 1), some (.inl (pz_bi (q_hc (q_rd (iv 155) (q_c4 v a) v) (q_c4 v a))))]) (st' := []) rfl ?_
                                                refine w_loc rfl ?_
                                                refine w_getI (v := pz_bi (q_ok (q_ir (iv 155) (q_rd (iv 155) (q_c4 v a) v) g))) is_154 (by decide) rfl ?_
                                                refine w_beq (fun h38 => ?_) (fun h38 => ?_)
                                                · first
                                                  | (exfalso; first | omega | contradiction)
                                                  | (refine pz_G_of pz_b247_204 ?_
                                                     refine w_goto ?_
                                                     exact ih114 _ (by omega) 1 (n + 1) (pz_up (pz_up w 8 ((w 8) + 1)) 7 (pz_bi (q_ok (q_ir (iv 155) (q_rd (iv 155) (q_c4 v a) v) g)))) (q_cg (q_ir (iv 155) (q_rd (iv 155) (q_c4 v a) v) g)) (q_rd (iv 155) (q_c4 v a) v) (q_c4 v a) (some (.inl (pz_bi (q_hc (q_rd (iv 155) (q_c4 v a) v) (q_c4 v a))))) rfl rfl (by omega) (by intro hq; first | exact absurd rfl hq | exact ⟨by have hq2 := q_last_go hl ⟨hyn.1, hn1⟩ hx (by assumption) (by assumption) (by omega); omega, q_rx_s hyn.1 hx, by rw [q_w7 hw, hw8, pz_bi_1 (by assumption)]⟩) (by intro hq; first | exact absurd hq (by decide) | exact ⟨q_rx_e hl ⟨hyn.1, hn1⟩ hx (fun q => by first | exact absurd q.1 (by assumption) | exact absurd q.2.1 (by assumption) | omega), by first | exact q_rf_1 hl ⟨hyn.1, hn1⟩ hx hw (by assumption) (by assumption) | exact q_rf_2 hl ⟨hyn.1, hn1⟩ hx hw (by assumption) | exact q_rf_4 hl ⟨hyn.1, hn1⟩ hx hw (by assumption) (by omega)⟩))
                                                · first
                                                  | (exfalso; first | omega | contradiction)
                                                  | (refine w_loc rfl ?_
                                                     refine w_beq (fun h39 => ?_) (fun h39 => ?_)
                                                     · first
                                                       | (exfalso; first | omega | contradiction)
                                                       | (refine pz_G_of pz_b247_204 ?_
                                                          refine w_goto ?_
                                                          exact ih114 _ (by omega) 1 (n + 1) (pz_up (pz_up w 8 ((w 8) + 1)) 7 (pz_bi (q_ok (q_ir (iv 155) (q_rd (iv 155) (q_c4 v a) v) g)))) (q_cg (q_ir (iv 155) (q_rd (iv 155) (q_c4 v a) v) g)) (q_rd (iv 155) (q_c4 v a) v) (q_c4 v a) (some (.inl (pz_bi (q_hc (q_rd (iv 155) (q_c4 v a) v) (q_c4 v a))))) rfl rfl (by omega) (by intro hq; first | exact absurd rfl hq | exact ⟨by have hq2 := q_last_go hl ⟨hyn.1, hn1⟩ hx (by assumption) (by assumption) (by omega); omega, q_rx_s hyn.1 hx, by rw [q_w7 hw, hw8, pz_bi_1 (by assumption)]⟩) (by intro hq; first | exact absurd hq (by decide) | exact ⟨q_rx_e hl ⟨hyn.1, hn1⟩ hx (fun q => by first | exact absurd q.1 (by assumption) | exact absurd q.2.1 (by assumption) | omega), by first | exact q_rf_1 hl ⟨hyn.1, hn1⟩ hx hw (by assumption) (by assumption) | exact q_rf_2 hl ⟨hyn.1, hn1⟩ hx hw (by assumption) | exact q_rf_4 hl ⟨hyn.1, hn1⟩ hx hw (by assumption) (by omega)⟩))
                                                     · first
                                                       | (exfalso; first | omega | contradiction)
                                                       | (refine w_loc rfl ?_
                                                          refine w_getI (v := (w 8) + 1) is_154 (by decide) rfl ?_
                                                          refine w_pure rfl ?_
                                                          refine w_ine (fun h40 => ?_) (fun h40 => ?_)
                                                          · first
                                                            | (exfalso; first | omega | contradiction)
                                                            | (refine pz_G_of pz_b247_204 ?_
                                                               refine w_goto ?_
                                                               exact ih114 _ (by omega) 1 (n + 1) (pz_up (pz_up w 8 ((w 8) + 1)) 7 (pz_bi (q_ok (q_ir (iv 155) (q_rd (iv 155) (q_c4 v a) v) g)))) (q_cg (q_ir (iv 155) (q_rd (iv 155) (q_c4 v a) v) g)) (q_rd (iv 155) (q_c4 v a) v) (q_c4 v a) (some (.inl (pz_bi (q_hc (q_rd (iv 155) (q_c4 v a) v) (q_c4 v a))))) rfl rfl (by omega) (by intro hq; first | exact absurd rfl hq | exact ⟨by have hq2 := q_last_go hl ⟨hyn.1, hn1⟩ hx (by assumption) (by assumption) (by omega); omega, q_rx_s hyn.1 hx, by rw [q_w7 hw, hw8, pz_bi_1 (by assumption)]⟩) (by intro hq; first | exact absurd hq (by decide) | exact ⟨q_rx_e hl ⟨hyn.1, hn1⟩ hx (fun q => by first | exact absurd q.1 (by assumption) | exact absurd q.2.1 (by assumption) | omega), by first | exact q_rf_1 hl ⟨hyn.1, hn1⟩ hx hw (by assumption) (by assumption) | exact q_rf_2 hl ⟨hyn.1, hn1⟩ hx hw (by assumption) | exact q_rf_4 hl ⟨hyn.1, hn1⟩ hx hw (by assumption) (by omega)⟩))
                                                          · first
                                                            | (exfalso; first | omega | contradiction)
                                                            | (refine w_loc rfl ?_
                                                               refine w_pure rfl ?_
                                                               refine w_putIm (iv2 := pz_u1 (pz_u1 (pz_u1 (pz_u1 iv 154 (pz_up (pz_up (pz_up w 8 ((w 8) + 1)) 7 (pz_bi (q_ok (q_ir (iv 155) (q_rd (iv 155) (q_c4 v a) v) g)))) 7 0)) 157 (q_cg (q_ir (iv 155) (q_rd (iv 155) (q_c4 v a) v) g))) 158 (q_rd (iv 155) (q_c4 v a) v)) 159 (q_c4 v a)) is_154 (pz_fit1 (Or.inl rfl)) (by rw [pz_u2_in (r := 154) (q := 159) (by decide)]; rw [pz_u2_in (r := 154) (q := 158) (by decide)]; rw [pz_u2_in (r := 154) (q := 157) (by decide)]; rw [pz_u2_top]) ?_
                                                               refine w_nil ?_
                                                               refine pz_G_of pz_b247_204 ?_
                                                               refine w_goto ?_
                                                               exact ih114 _ (by omega) 1 (n + 1) (pz_up (pz_up (pz_up w 8 ((w 8) + 1)) 7 (pz_bi (q_ok (q_ir (iv 155) (q_rd (iv 155) (q_c4 v a) v) g)))) 7 0) (q_cg (q_ir (iv 155) (q_rd (iv 155) (q_c4 v a) v) g)) (q_rd (iv 155) (q_c4 v a) v) (q_c4 v a) (some (.inl (pz_bi (q_hc (q_rd (iv 155) (q_c4 v a) v) (q_c4 v a))))) rfl rfl (by omega) (by intro hq; first | exact absurd rfl hq | exact ⟨by have hq2 := q_last_go hl ⟨hyn.1, hn1⟩ hx (by assumption) (by assumption) (by omega); omega, q_rx_s hyn.1 hx, by rw [q_w7 hw, hw8, pz_bi_1 (by assumption)]⟩) (by intro hq; first | exact absurd hq (by decide) | exact ⟨q_rx_e hl ⟨hyn.1, hn1⟩ hx (fun q => by first | exact absurd q.1 (by assumption) | exact absurd q.2.1 (by assumption) | omega), by first | exact q_rf_1 hl ⟨hyn.1, hn1⟩ hx hw (by assumption) (by assumption) | exact q_rf_2 hl ⟨hyn.1, hn1⟩ hx hw (by assumption) | exact q_rf_4 hl ⟨hyn.1, hn1⟩ hx hw (by assumption) (by omega)⟩)))))))))
                     exact lp114 _ 1 0 (pz_up (pz_up (iv 154) 8 0) 7 (pz_bi (q_con (iv 155) (iv 161)))) (q_dd (iv 155) (iv 161) (iv 157)) f2 (iv 159) u61_2 hu61_2 rfl (by omega) (by intro _; exact ⟨hl.1.1, by rw [hf2, show s = iv 155 2 by omega, hfa]; exact (q_fr_0 (by omega)).symm, by rw [pz_bi_1 hcase0]⟩) (by intro hq; exact absurd hq (by decide)))
                · first
                  | (exfalso; first | omega | contradiction)
                  | (refine w_loc rfl ?_
                     refine w_loc rfl ?_
                     have hc41 : pz_R (pz_Sh L) 210 [.inr (.inl 154), .inl s] (pz_u1 (pz_u1 (pz_u1 (pz_u1 iv 154 (pz_up (pz_up (iv 154) 8 0) 7 (pz_bi (q_con (iv 155) (iv 161))))) 157 (q_dd (iv 155) (iv 161) (iv 157))) 158 f2) 159 (iv 159)) (.inl (some (.inl (pz_bi (q_sta (iv 155) ((iv 155) (212 + 4 * s + 1).toNat)))))) (pz_u1 (pz_u1 (pz_u1 (pz_u1 iv 154 (pz_up (pz_up (iv 154) 8 0) 7 (pz_bi (q_con (iv 155) (iv 161))))) 157 (q_dd (iv 155) (iv 161) (iv 157))) 158 f2) 159 (iv 159)) := s_X11_hasEnded s (by show q_KR (iv 155); exact hk) (by show 0 ≤ s ∧ s < (iv 155) 2; omega)
                     refine w_call hc41 rfl (pz_cokI is_154 rfl) ?_
                     refine w_bne (fun h42 => ?_) (fun h42 => ?_)
                     · first
                       | (exfalso; first | omega | contradiction)
                       | (refine pz_G_of pz_b247_106 ?_
                          refine w_iinc (ls' := [some (.inr (.inl 154)), some (.inl (s + 1)), u61_2]) rfl rfl rfl (by omega) ?_
                          refine w_goto ?_
                          exact ih61 _ (by omega) (s + 1) f2 u61_2 hu61_2 rfl (by omega) (by rw [q_fr_s (by omega), ← hf2]; unfold q_upS; first | rw [q_if_t (by omega)] | rw [q_if_f (by omega)]))
                     · first
                       | (exfalso; first | omega | contradiction)
                       | (refine w_loc rfl ?_
                          refine w_getR (q := 158) is_154 rf_154_5 ?_
                          refine w_loc rfl ?_
                          refine w_pure rfl ?_
                          refine w_iadd (by omega) ?_
                          refine w_loc rfl ?_
                          refine w_loc rfl ?_
                          have hc43 : pz_R (pz_Sh L) 207 [.inr (.inl 154), .inl s] (pz_u1 (pz_u1 (pz_u1 (pz_u1 iv 154 (pz_up (pz_up (iv 154) 8 0) 7 (pz_bi (q_con (iv 155) (iv 161))))) 157 (q_dd (iv 155) (iv 161) (iv 157))) 158 f2) 159 (iv 159)) (.inl (some (.inl ((iv 155) (212 + 4 * s + 1).toNat)))) (pz_u1 (pz_u1 (pz_u1 (pz_u1 iv 154 (pz_up (pz_up (iv 154) 8 0) 7 (pz_bi (q_con (iv 155) (iv 161))))) 157 (q_dd (iv 155) (iv 161) (iv 157))) 158 f2) 159 (iv 159)) := s_X11_endOf s (by show 0 ≤ s ∧ s ≤ 2; omega)
                          refine w_call hc43 rfl (pz_cokI is_154 rfl) ?_
                          refine w_loc rfl ?_
                          refine w_loc rfl ?_
                          have hc44 : pz_R (pz_Sh L) 206 [.inr (.inl 154), .inl s] (pz_u1 (pz_u1 (pz_u1 (pz_u1 iv 154 (pz_up (pz_up (iv 154) 8 0) 7 (pz_bi (q_con (iv 155) (iv 161))))) 157 (q_dd (iv 155) (iv 161) (iv 157))) 158 f2) 159 (iv 159)) (.inl (some (.inl ((iv 155) (212 + 4 * s).toNat)))) (pz_u1 (pz_u1 (pz_u1 (pz_u1 iv 154 (pz_up (pz_up (iv 154) 8 0) 7 (pz_bi (q_con (iv 155) (iv 161))))) 157 (q_dd (iv 155) (iv 161) (iv 157))) 158 f2) 159 (iv 159)) := s_X11_first s (by show 0 ≤ s ∧ s ≤ 2; omega)
                          refine w_call hc44 rfl (pz_cokI is_154 rfl) ?_
                          have hc45 : pz_R (pz_Sh L) 241 [.inl (s + 1), .inl ((iv 155) (212 + 4 * s + 1).toNat), .inl ((iv 155) (212 + 4 * s).toNat)] (pz_u1 (pz_u1 (pz_u1 (pz_u1 iv 154 (pz_up (pz_up (iv 154) 8 0) 7 (pz_bi (q_con (iv 155) (iv 161))))) 157 (q_dd (iv 155) (iv 161) (iv 157))) 158 f2) 159 (iv 159)) (.inl (some (.inl (100 * (s + 1) + 10 * ((iv 155) (212 + 4 * s + 1).toNat) + ((iv 155) (212 + 4 * s).toNat))))) (pz_u1 (pz_u1 (pz_u1 (pz_u1 iv 154 (pz_up (pz_up (iv 154) 8 0) 7 (pz_bi (q_con (iv 155) (iv 161))))) 157 (q_dd (iv 155) (iv 161) (iv 157))) 158 f2) 159 (iv 159)) := s_X11_cell (s + 1) ((iv 155) (212 + 4 * s + 1).toNat) ((iv 155) (212 + 4 * s).toNat) (by show 0 ≤ (s + 1) ∧ (s + 1) ≤ 3; omega) (by show 0 ≤ ((iv 155) (212 + 4 * s + 1).toNat) ∧ ((iv 155) (212 + 4 * s + 1).toNat) ≤ 9; omega) (by show 0 ≤ ((iv 155) (212 + 4 * s).toNat) ∧ ((iv 155) (212 + 4 * s).toNat) ≤ 9; omega)
                          refine w_call hc45 rfl rfl ?_
                          refine w_loc rfl ?_
                          refine w_loc rfl ?_
                          have hc46 : pz_R (pz_Sh L) 209 [.inr (.inl 154), .inl s] (pz_u1 (pz_u1 (pz_u1 (pz_u1 iv 154 (pz_up (pz_up (iv 154) 8 0) 7 (pz_bi (q_con (iv 155) (iv 161))))) 157 (q_dd (iv 155) (iv 161) (iv 157))) 158 f2) 159 (iv 159)) (.inl (some (.inl ((iv 155) (212 + 4 * s + 3).toNat)))) (pz_u1 (pz_u1 (pz_u1 (pz_u1 iv 154 (pz_up (pz_up (iv 154) 8 0) 7 (pz_bi (q_con (iv 155) (iv 161))))) 157 (q_dd (iv 155) (iv 161) (iv 157))) 158 f2) 159 (iv 159)) := s_X11_greatest s (by show 0 ≤ s ∧ s ≤ 2; omega)
                          refine w_call hc46 rfl (pz_cokI is_154 rfl) ?_
                          refine w_ineg (by omega) ?_
                          refine w_iastm (iv2 := pz_u1 (pz_u1 (pz_u1 (pz_u1 iv 154 (pz_up (pz_up (iv 154) 8 0) 7 (pz_bi (q_con (iv 155) (iv 161))))) 157 (q_dd (iv 155) (iv 161) (iv 157))) 158 (pz_up f2 (100 * (s + 1) + 10 * ((iv 155) (212 + 4 * s + 1).toNat) + ((iv 155) (212 + 4 * s).toNat)).toNat (-((iv 155) (212 + 4 * s + 3).toNat)))) 159 (iv 159)) is_158 ln_158 ⟨by omega, by omega⟩ (by rw [pz_u2_in (r := 158) (q := 159) (by decide)]; rw [pz_u2_top]) ?_
                          refine w_nil ?_
                          refine pz_G_of pz_b247_106 ?_
                          refine w_iinc (ls' := [some (.inr (.inl 154)), some (.inl (s + 1)), u61_2]) rfl rfl rfl (by omega) ?_
                          refine w_goto ?_
                          exact ih61 _ (by omega) (s + 1) (pz_up f2 (100 * (s + 1) + 10 * ((iv 155) (212 + 4 * s + 1).toNat) + ((iv 155) (212 + 4 * s).toNat)).toNat (-((iv 155) (212 + 4 * s + 3).toNat))) u61_2 hu61_2 rfl (by omega) (by rw [q_fr_s (by omega), ← hf2]; unfold q_upS; first | rw [q_if_t (by omega)] | rw [q_if_f (by omega)])))
              exact lp61 _ 0 f u15_2 hu15_2 rfl (by omega) (by rw [q_fr_0 (by omega)]))
         · first
           | (exfalso; first | omega | contradiction)
           | (refine w_vret ?_
              first | exact lf_v (by rw [← (hy0 (by omega)).1, ← (hy0 (by omega)).2]) | (exfalso; omega)))
    · first
      | (exfalso; first | omega | contradiction)
      | (refine w_loc rfl ?_
         refine w_getR (q := 158) is_154 rf_154_5 ?_
         refine w_loc rfl ?_
         refine w_loc rfl ?_
         refine w_pure rfl ?_
         refine w_ige (fun h47 => ?_) (fun h47 => ?_)
         · first
           | (exfalso; first | omega | contradiction)
           | (refine pz_G_of pz_b247_42 ?_
              refine w_ldcv (v := 1000000) rfl ?_
              refine w_nil ?_
              refine pz_G_of pz_b247_44 ?_
              refine w_iastm (iv2 := pz_u1 (pz_u1 (pz_u1 (pz_u1 iv 154 (pz_up (pz_up (iv 154) 8 0) 7 (pz_bi (q_con (iv 155) (iv 161))))) 157 (q_dd (iv 155) (iv 161) (iv 157))) 158 (pz_up f i.toNat 1000000)) 159 (iv 159)) is_158 ln_158 ⟨by omega, by omega⟩ (by rw [pz_u2_in (r := 158) (q := 159) (by decide)]; rw [pz_u2_top]) ?_
              refine w_iinc (ls' := [some (.inr (.inl 154)), some (.inl (i + 1)), u15_2]) rfl rfl rfl (by omega) ?_
              refine w_goto ?_
              exact ih15 _ (by omega) (i + 1) (pz_up f i.toNat 1000000) u15_2 hu15_2 rfl (by omega) (by intro j; rw [pz_up_at, hf j]; (repeat' split) <;> first | rfl | omega | (congr 1; omega)))
         · first
           | (exfalso; first | omega | contradiction)
           | (refine w_loc rfl ?_
              refine w_getR (q := 157) is_154 rf_154_4 ?_
              refine w_loc rfl ?_
              refine w_iald (v := (q_dd (iv 155) (iv 161) (iv 157)) i.toNat) is_157 ln_157 ⟨by omega, by omega⟩ rfl ?_
              refine w_goto ?_
              refine pz_G_of pz_b247_44 ?_
              refine w_iastm (iv2 := pz_u1 (pz_u1 (pz_u1 (pz_u1 iv 154 (pz_up (pz_up (iv 154) 8 0) 7 (pz_bi (q_con (iv 155) (iv 161))))) 157 (q_dd (iv 155) (iv 161) (iv 157))) 158 (pz_up f i.toNat ((q_dd (iv 155) (iv 161) (iv 157)) i.toNat))) 159 (iv 159)) is_158 ln_158 ⟨by omega, by omega⟩ (by rw [pz_u2_in (r := 158) (q := 159) (by decide)]; rw [pz_u2_top]) ?_
              refine w_iinc (ls' := [some (.inr (.inl 154)), some (.inl (i + 1)), u15_2]) rfl rfl rfl (by omega) ?_
              refine w_goto ?_
              exact ih15 _ (by omega) (i + 1) (pz_up f i.toNat ((q_dd (iv 155) (iv 161) (iv 157)) i.toNat)) u15_2 hu15_2 rfl (by omega) (by intro j; rw [pz_up_at, hf j]; (repeat' split) <;> first | rfl | omega | (congr 1; omega))))
  exact lp15 _ 0 (iv 158) (none) rfl rfl (by omega) (by intro j; rw [if_neg (by omega)])
