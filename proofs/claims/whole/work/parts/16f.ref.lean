
theorem s_X11_open_1 {L : Nat} {iv : Nat → Nat → Int} (ho : 0 ≤ (iv 154) 3 ∧ (iv 154) 3 ≤ 4) (hcase0 : iv 154 3 = 4) : pz_R (pz_Sh L) 299 [.inr (.inl 154)] iv (.inl (some (.inl 0))) (pz_u1 (pz_u1 iv 154 (pz_up (iv 154) 0 1)) 156 (iv 156)) := by
  intro dv cc ss
  refine pz_G_mem (iv2 := pz_u1 (pz_u1 iv 154 (iv 154)) 156 (iv 156)) (by exact ((pz_u1_self iv 154).symm).trans (pz_u1_self (pz_u1 iv 154 (iv 154)) 156).symm) ?_
  show pz_G 299 0 [some (.inr (.inl 154)), none] [] (pz_Sh L, pz_u1 (pz_u1 iv 154 (iv 154)) 156 (iv 156), dv, cc, ss) (pz_P (pz_Sh L) (.inl (some (.inl 0))) (pz_u1 (pz_u1 iv 154 (pz_up (iv 154) 0 1)) 156 (iv 156)) dv cc ss)
  refine pz_G_of pz_b299_0 ?_
  refine w_loc rfl ?_
  refine w_getI (v := (iv 154) 3) is_154 (by decide) rfl ?_
  refine w_pure rfl ?_
  refine w_ine (fun h1 => ?_) (fun h1 => ?_)
  · first
    | (exfalso; first | omega | contradiction)
    | (refine pz_G_of pz_b299_14 ?_
       refine w_pure rfl ?_
       refine w_loc (ls' := [some (.inr (.inl 154)), some (.inl 0)]) (st' := []) rfl ?_
       refine w_nil ?_
       have lp16 : ∀ (dd : Nat) (i : Int) (f : Nat → Int) , (260 - i).toNat = dd → ∀ (hi : 0 ≤ i ∧ i ≤ 260), ∀ (hf : ∀ j : Nat, f j = if 260 * iv 154 3 ≤ (j : Int) ∧ (j : Int) < 260 * iv 154 3 + i then iv 155 ((j : Int) - 260 * iv 154 3).toNat else iv 156 j),  pz_G 299 16 [some (.inr (.inl 154)), some (.inl i)] [] (pz_Sh L, pz_u1 (pz_u1 iv 154 (iv 154)) 156 f, dv, cc, ss) (pz_P (pz_Sh L) (.inl (some (.inl 0))) (pz_u1 (pz_u1 iv 154 (pz_up (iv 154) 0 1)) 156 (iv 156)) dv cc ss) := by
         intro dd16
         induction dd16 using Nat.strongRecOn with
         | _ dd16 ih16 =>
         intro i f  hd16 hi hf
         refine pz_G_of pz_b299_16 ?_
         refine w_loc rfl ?_
         refine w_pure rfl ?_
         refine w_ige (fun h2 => ?_) (fun h2 => ?_)
         · first
           | (exfalso; first | omega | contradiction)
           | (refine pz_G_of pz_b299_50 ?_
              refine w_loc rfl ?_
              refine w_pure rfl ?_
              refine w_getI (v := (iv 154) 3) is_154 (by decide) rfl ?_
              refine w_pure rfl ?_
              refine w_iadd (by omega) ?_
              refine w_putIm (iv2 := pz_u1 (pz_u1 iv 154 (pz_up (iv 154) 3 (((iv 154) 3) + 1))) 156 f) is_154 pz_fit0 (by rw [pz_u2_in (r := 154) (q := 156) (by decide)]; rw [pz_u2_top]) ?_
              refine w_loc rfl ?_
              refine w_loc rfl ?_
              refine w_getI (v := ((iv 154) 3) + 1) is_154 (by decide) rfl ?_
              have hc3 : pz_R (pz_Sh L) 192 [.inr (.inl 154), .inl (((iv 154) 3) + 1)] (pz_u1 (pz_u1 iv 154 (pz_up (iv 154) 3 (((iv 154) 3) + 1))) 156 f) (.inl (some (.inl (((iv 154) 3) + 1)))) (pz_u1 (pz_u1 iv 154 (pz_up (pz_up (iv 154) 3 (((iv 154) 3) + 1)) 0 0)) 156 f) := pz_R_mem (s_X11_tells (((iv 154) 3) + 1)) (by rw [pz_u1_in (r := 154) (q := 156) (by decide)]; rw [pz_u1_top (r := 154)]; rfl)
              refine w_call hc3 rfl (pz_cokI is_154 rfl) ?_
              refine w_ret rfl ?_
              first | first | exact lf_i rfl rfl | exact lf_i rfl (by rw [show f = q_opn (iv 154 3) (iv 155) (iv 156) from by funext j; rw [hf j]; unfold q_opn; (repeat' split) <;> first | rfl | omega]) | (exfalso; omega))
         · first
           | (exfalso; first | omega | contradiction)
           | (refine w_loc rfl ?_
              refine w_getR (q := 156) is_154 rf_154_2 ?_
              refine w_pure rfl ?_
              refine w_loc rfl ?_
              refine w_getI (v := (iv 154) 3) is_154 (by decide) rfl ?_
              refine w_imul (by omega) ?_
              refine w_loc rfl ?_
              refine w_iadd (by omega) ?_
              refine w_loc rfl ?_
              refine w_getR (q := 155) is_154 rf_154_1 ?_
              refine w_loc rfl ?_
              refine w_iald (v := (iv 155) i.toNat) is_155 ln_155 ⟨by omega, by omega⟩ rfl ?_
              refine w_iastm (iv2 := pz_u1 (pz_u1 iv 154 (iv 154)) 156 (pz_up f ((260 * ((iv 154) 3)) + i).toNat ((iv 155) i.toNat))) is_156 ln_156 ⟨by omega, by omega⟩ (by exact pz_u2_top _ _ _ _ _) ?_
              refine w_iinc (ls' := [some (.inr (.inl 154)), some (.inl (i + 1))]) rfl rfl rfl (by omega) ?_
              refine w_goto ?_
              exact ih16 _ (by omega) (i + 1) (pz_up f ((260 * ((iv 154) 3)) + i).toNat ((iv 155) i.toNat))  rfl (by omega) (by intro j; rw [pz_up_at, hf j]; (repeat' split) <;> first | rfl | omega | (congr 1; omega)))
       exact lp16 _ 0 (iv 156)  rfl (by omega) (by intro j; rw [if_neg (by omega)]))
  · first
    | (exfalso; first | omega | contradiction)
    | (refine w_loc rfl ?_
       refine w_pure rfl ?_
       have hc4 : pz_R (pz_Sh L) 191 [.inr (.inl 154), .inl 1] (pz_u1 (pz_u1 iv 154 (iv 154)) 156 (iv 156)) (.inl (some (.inl 0))) (pz_u1 (pz_u1 iv 154 (pz_up (iv 154) 0 1)) 156 (iv 156)) := pz_R_mem (s_X11_fails 1) (by rw [pz_u1_in (r := 154) (q := 156) (by decide)]; rw [pz_u1_top (r := 154)]; rfl)
       refine w_call hc4 rfl (pz_cokI is_154 rfl) ?_
       refine w_ret rfl ?_
       first | first | exact lf_i rfl rfl | exact lf_i rfl (by rw [show f = q_opn (iv 154 3) (iv 155) (iv 156) from by funext j; rw [hf j]; unfold q_opn; (repeat' split) <;> first | rfl | omega]) | (exfalso; omega))

theorem s_X11_open_0 {L : Nat} {iv : Nat → Nat → Int} (ho : 0 ≤ (iv 154) 3 ∧ (iv 154) 3 ≤ 4) (hcase0 : iv 154 3 ≠ 4) : pz_R (pz_Sh L) 299 [.inr (.inl 154)] iv (.inl (some (.inl ((iv 154) 3 + 1)))) (pz_u1 (pz_u1 iv 154 (pz_up (pz_up (iv 154) 3 ((iv 154) 3 + 1)) 0 0)) 156 (q_opn ((iv 154) 3) (iv 155) (iv 156))) := by
  intro dv cc ss
  refine pz_G_mem (iv2 := pz_u1 (pz_u1 iv 154 (iv 154)) 156 (iv 156)) (by exact ((pz_u1_self iv 154).symm).trans (pz_u1_self (pz_u1 iv 154 (iv 154)) 156).symm) ?_
  show pz_G 299 0 [some (.inr (.inl 154)), none] [] (pz_Sh L, pz_u1 (pz_u1 iv 154 (iv 154)) 156 (iv 156), dv, cc, ss) (pz_P (pz_Sh L) (.inl (some (.inl ((iv 154) 3 + 1)))) (pz_u1 (pz_u1 iv 154 (pz_up (pz_up (iv 154) 3 ((iv 154) 3 + 1)) 0 0)) 156 (q_opn ((iv 154) 3) (iv 155) (iv 156))) dv cc ss)
  refine pz_G_of pz_b299_0 ?_
  refine w_loc rfl ?_
  refine w_getI (v := (iv 154) 3) is_154 (by decide) rfl ?_
  refine w_pure rfl ?_
  refine w_ine (fun h1 => ?_) (fun h1 => ?_)
  · first
    | (exfalso; first | omega | contradiction)
    | (refine pz_G_of pz_b299_14 ?_
       refine w_pure rfl ?_
       refine w_loc (ls' := [some (.inr (.inl 154)), some (.inl 0)]) (st' := []) rfl ?_
       refine w_nil ?_
       have lp16 : ∀ (dd : Nat) (i : Int) (f : Nat → Int) , (260 - i).toNat = dd → ∀ (hi : 0 ≤ i ∧ i ≤ 260), ∀ (hf : ∀ j : Nat, f j = if 260 * iv 154 3 ≤ (j : Int) ∧ (j : Int) < 260 * iv 154 3 + i then iv 155 ((j : Int) - 260 * iv 154 3).toNat else iv 156 j),  pz_G 299 16 [some (.inr (.inl 154)), some (.inl i)] [] (pz_Sh L, pz_u1 (pz_u1 iv 154 (iv 154)) 156 f, dv, cc, ss) (pz_P (pz_Sh L) (.inl (some (.inl ((iv 154) 3 + 1)))) (pz_u1 (pz_u1 iv 154 (pz_up (pz_up (iv 154) 3 ((iv 154) 3 + 1)) 0 0)) 156 (q_opn ((iv 154) 3) (iv 155) (iv 156))) dv cc ss) := by
         intro dd16
         induction dd16 using Nat.strongRecOn with
         | _ dd16 ih16 =>
         intro i f  hd16 hi hf
         refine pz_G_of pz_b299_16 ?_
         refine w_loc rfl ?_
         refine w_pure rfl ?_
         refine w_ige (fun h2 => ?_) (fun h2 => ?_)
         · first
           | (exfalso; first | omega | contradiction)
           | (refine pz_G_of pz_b299_50 ?_
              refine w_loc rfl ?_
              refine w_pure rfl ?_
              refine w_getI (v := (iv 154) 3) is_154 (by decide) rfl ?_
              refine w_pure rfl ?_
              refine w_iadd (by omega) ?_
              refine w_putIm (iv2 := pz_u1 (pz_u1 iv 154 (pz_up (iv 154) 3 (((iv 154) 3) + 1))) 156 f) is_154 pz_fit0 (by rw [pz_u2_in (r := 154) (q := 156) (by decide)]; rw [pz_u2_top]) ?_
              refine w_loc rfl ?_
              refine w_loc rfl ?_
              refine w_getI (v := ((iv 154) 3) + 1) is_154 (by decide) rfl ?_
              have hc3 : pz_R (pz_Sh L) 192 [.inr (.inl 154), .inl (((iv 154) 3) + 1)] (pz_u1 (pz_u1 iv 154 (pz_up (iv 154) 3 (((iv 154) 3) + 1))) 156 f) (.inl (some (.inl (((iv 154) 3) + 1)))) (pz_u1 (pz_u1 iv 154 (pz_up (pz_up (iv 154) 3 (((iv 154) 3) + 1)) 0 0)) 156 f) := pz_R_mem (s_X11_tells (((iv 154) 3) + 1)) (by rw [pz_u1_in (r := 154) (q := 156) (by decide)]; rw [pz_u1_top (r := 154)]; rfl)
              refine w_call hc3 rfl (pz_cokI is_154 rfl) ?_
              refine w_ret rfl ?_
              first | first | exact lf_i rfl rfl | exact lf_i rfl (by rw [show f = q_opn (iv 154 3) (iv 155) (iv 156) from by funext j; rw [hf j]; unfold q_opn; (repeat' split) <;> first | rfl | omega]) | (exfalso; omega))
         · first
           | (exfalso; first | omega | contradiction)
           | (refine w_loc rfl ?_
              refine w_getR (q := 156) is_154 rf_154_2 ?_
              refine w_pure rfl ?_
              refine w_loc rfl ?_
              refine w_getI (v := (iv 154) 3) is_154 (by decide) rfl ?_
              refine w_imul (by omega) ?_
              refine w_loc rfl ?_
              refine w_iadd (by omega) ?_
              refine w_loc rfl ?_
              refine w_getR (q := 155) is_154 rf_154_1 ?_
              refine w_loc rfl ?_
              refine w_iald (v := (iv 155) i.toNat) is_155 ln_155 ⟨by omega, by omega⟩ rfl ?_
              refine w_iastm (iv2 := pz_u1 (pz_u1 iv 154 (iv 154)) 156 (pz_up f ((260 * ((iv 154) 3)) + i).toNat ((iv 155) i.toNat))) is_156 ln_156 ⟨by omega, by omega⟩ (by exact pz_u2_top _ _ _ _ _) ?_
              refine w_iinc (ls' := [some (.inr (.inl 154)), some (.inl (i + 1))]) rfl rfl rfl (by omega) ?_
              refine w_goto ?_
              exact ih16 _ (by omega) (i + 1) (pz_up f ((260 * ((iv 154) 3)) + i).toNat ((iv 155) i.toNat))  rfl (by omega) (by intro j; rw [pz_up_at, hf j]; (repeat' split) <;> first | rfl | omega | (congr 1; omega)))
       exact lp16 _ 0 (iv 156)  rfl (by omega) (by intro j; rw [if_neg (by omega)]))
  · first
    | (exfalso; first | omega | contradiction)
    | (refine w_loc rfl ?_
       refine w_pure rfl ?_
       have hc4 : pz_R (pz_Sh L) 191 [.inr (.inl 154), .inl 1] (pz_u1 (pz_u1 iv 154 (iv 154)) 156 (iv 156)) (.inl (some (.inl 0))) (pz_u1 (pz_u1 iv 154 (pz_up (iv 154) 0 1)) 156 (iv 156)) := pz_R_mem (s_X11_fails 1) (by rw [pz_u1_in (r := 154) (q := 156) (by decide)]; rw [pz_u1_top (r := 154)]; rfl)
       refine w_call hc4 rfl (pz_cokI is_154 rfl) ?_
       refine w_ret rfl ?_
       first | first | exact lf_i rfl rfl | exact lf_i rfl (by rw [show f = q_opn (iv 154 3) (iv 155) (iv 156) from by funext j; rw [hf j]; unfold q_opn; (repeat' split) <;> first | rfl | omega]) | (exfalso; omega))

theorem s_X11_takeBack_1 {L : Nat} {iv : Nat → Nat → Int} (ho : 0 ≤ (iv 154) 3 ∧ (iv 154) 3 ≤ 4) (hcase0 : iv 154 3 = 0) : pz_R (pz_Sh L) 300 [.inr (.inl 154)] iv (.inl (some (.inl 0))) (pz_u1 (pz_u1 iv 154 (pz_up (iv 154) 0 1)) 155 (iv 155)) := by
  intro dv cc ss
  refine pz_G_mem (iv2 := pz_u1 (pz_u1 iv 154 (iv 154)) 155 (iv 155)) (by exact ((pz_u1_self iv 154).symm).trans (pz_u1_self (pz_u1 iv 154 (iv 154)) 155).symm) ?_
  show pz_G 300 0 [some (.inr (.inl 154)), none] [] (pz_Sh L, pz_u1 (pz_u1 iv 154 (iv 154)) 155 (iv 155), dv, cc, ss) (pz_P (pz_Sh L) (.inl (some (.inl 0))) (pz_u1 (pz_u1 iv 154 (pz_up (iv 154) 0 1)) 155 (iv 155)) dv cc ss)
  refine pz_G_of pz_b300_0 ?_
  refine w_loc rfl ?_
  refine w_getI (v := (iv 154) 3) is_154 (by decide) rfl ?_
  refine w_zne (fun h1 => ?_) (fun h1 => ?_)
  · first
    | (exfalso; first | omega | contradiction)
    | (refine pz_G_of pz_b300_13 ?_
       refine w_loc rfl ?_
       refine w_pure rfl ?_
       refine w_getI (v := (iv 154) 3) is_154 (by decide) rfl ?_
       refine w_pure rfl ?_
       refine w_isub (by omega) ?_
       refine w_putIm (iv2 := pz_u1 (pz_u1 iv 154 (pz_up (iv 154) 3 (((iv 154) 3) - 1))) 155 (iv 155)) is_154 pz_fit0 (by rw [pz_u2_in (r := 154) (q := 155) (by decide)]; rw [pz_u2_top]) ?_
       refine w_pure rfl ?_
       refine w_loc (ls' := [some (.inr (.inl 154)), some (.inl 0)]) (st' := []) rfl ?_
       refine w_nil ?_
       have lp25 : ∀ (dd : Nat) (i : Int) (f : Nat → Int) , (260 - i).toNat = dd → ∀ (hi : 0 ≤ i ∧ i ≤ 260), ∀ (hf : ∀ j : Nat, f j = if (j : Int) < i then iv 156 (260 * (iv 154 3 - 1) + (j : Int)).toNat else iv 155 j),  pz_G 300 25 [some (.inr (.inl 154)), some (.inl i)] [] (pz_Sh L, pz_u1 (pz_u1 iv 154 (pz_up (iv 154) 3 (((iv 154) 3) - 1))) 155 f, dv, cc, ss) (pz_P (pz_Sh L) (.inl (some (.inl 0))) (pz_u1 (pz_u1 iv 154 (pz_up (iv 154) 0 1)) 155 (iv 155)) dv cc ss) := by
         intro dd25
         induction dd25 using Nat.strongRecOn with
         | _ dd25 ih25 =>
         intro i f  hd25 hi hf
         refine pz_G_of pz_b300_25 ?_
         refine w_loc rfl ?_
         refine w_pure rfl ?_
         refine w_ige (fun h2 => ?_) (fun h2 => ?_)
         · first
           | (exfalso; first | omega | contradiction)
           | (refine pz_G_of pz_b300_59 ?_
              refine w_loc rfl ?_
              refine w_loc rfl ?_
              refine w_getI (v := ((iv 154) 3) - 1) is_154 (by decide) rfl ?_
              have hc3 : pz_R (pz_Sh L) 192 [.inr (.inl 154), .inl (((iv 154) 3) - 1)] (pz_u1 (pz_u1 iv 154 (pz_up (iv 154) 3 (((iv 154) 3) - 1))) 155 f) (.inl (some (.inl (((iv 154) 3) - 1)))) (pz_u1 (pz_u1 iv 154 (pz_up (pz_up (iv 154) 3 (((iv 154) 3) - 1)) 0 0)) 155 f) := pz_R_mem (s_X11_tells (((iv 154) 3) - 1)) (by rw [pz_u1_in (r := 154) (q := 155) (by decide)]; rw [pz_u1_top (r := 154)]; rfl)
              refine w_call hc3 rfl (pz_cokI is_154 rfl) ?_
              refine w_ret rfl ?_
              first | first | exact lf_i rfl rfl | exact lf_i rfl (by rw [show f = q_tbk (iv 154 3 - 1) (iv 156) (iv 155) from by funext j; rw [hf j]; unfold q_tbk; (repeat' split) <;> first | rfl | omega]) | (exfalso; omega))
         · first
           | (exfalso; first | omega | contradiction)
           | (refine w_loc rfl ?_
              refine w_getR (q := 155) is_154 rf_154_1 ?_
              refine w_loc rfl ?_
              refine w_loc rfl ?_
              refine w_getR (q := 156) is_154 rf_154_2 ?_
              refine w_pure rfl ?_
              refine w_loc rfl ?_
              refine w_getI (v := ((iv 154) 3) - 1) is_154 (by decide) rfl ?_
              refine w_imul (by omega) ?_
              refine w_loc rfl ?_
              refine w_iadd (by omega) ?_
              refine w_iald (v := (iv 156) ((260 * (((iv 154) 3) - 1)) + i).toNat) is_156 ln_156 ⟨by omega, by omega⟩ rfl ?_
              refine w_iastm (iv2 := pz_u1 (pz_u1 iv 154 (pz_up (iv 154) 3 (((iv 154) 3) - 1))) 155 (pz_up f i.toNat ((iv 156) ((260 * (((iv 154) 3) - 1)) + i).toNat))) is_155 ln_155 ⟨by omega, by omega⟩ (by exact pz_u2_top _ _ _ _ _) ?_
              refine w_iinc (ls' := [some (.inr (.inl 154)), some (.inl (i + 1))]) rfl rfl rfl (by omega) ?_
              refine w_goto ?_
              exact ih25 _ (by omega) (i + 1) (pz_up f i.toNat ((iv 156) ((260 * (((iv 154) 3) - 1)) + i).toNat))  rfl (by omega) (by intro j; rw [pz_up_at, hf j]; (repeat' split) <;> first | rfl | omega | (congr 1; omega)))
       exact lp25 _ 0 (iv 155)  rfl (by omega) (by intro j; rw [if_neg (by omega)]))
  · first
    | (exfalso; first | omega | contradiction)
    | (refine w_loc rfl ?_
       refine w_pure rfl ?_
       have hc4 : pz_R (pz_Sh L) 191 [.inr (.inl 154), .inl 1] (pz_u1 (pz_u1 iv 154 (iv 154)) 155 (iv 155)) (.inl (some (.inl 0))) (pz_u1 (pz_u1 iv 154 (pz_up (iv 154) 0 1)) 155 (iv 155)) := pz_R_mem (s_X11_fails 1) (by rw [pz_u1_in (r := 154) (q := 155) (by decide)]; rw [pz_u1_top (r := 154)]; rfl)
       refine w_call hc4 rfl (pz_cokI is_154 rfl) ?_
       refine w_ret rfl ?_
       first | first | exact lf_i rfl rfl | exact lf_i rfl (by rw [show f = q_tbk (iv 154 3 - 1) (iv 156) (iv 155) from by funext j; rw [hf j]; unfold q_tbk; (repeat' split) <;> first | rfl | omega]) | (exfalso; omega))

theorem s_X11_takeBack_0 {L : Nat} {iv : Nat → Nat → Int} (ho : 0 ≤ (iv 154) 3 ∧ (iv 154) 3 ≤ 4) (hcase0 : iv 154 3 ≠ 0) : pz_R (pz_Sh L) 300 [.inr (.inl 154)] iv (.inl (some (.inl ((iv 154) 3 - 1)))) (pz_u1 (pz_u1 iv 154 (pz_up (pz_up (iv 154) 3 ((iv 154) 3 - 1)) 0 0)) 155 (q_tbk ((iv 154) 3 - 1) (iv 156) (iv 155))) := by
  intro dv cc ss
  refine pz_G_mem (iv2 := pz_u1 (pz_u1 iv 154 (iv 154)) 155 (iv 155)) (by exact ((pz_u1_self iv 154).symm).trans (pz_u1_self (pz_u1 iv 154 (iv 154)) 155).symm) ?_
  show pz_G 300 0 [some (.inr (.inl 154)), none] [] (pz_Sh L, pz_u1 (pz_u1 iv 154 (iv 154)) 155 (iv 155), dv, cc, ss) (pz_P (pz_Sh L) (.inl (some (.inl ((iv 154) 3 - 1)))) (pz_u1 (pz_u1 iv 154 (pz_up (pz_up (iv 154) 3 ((iv 154) 3 - 1)) 0 0)) 155 (q_tbk ((iv 154) 3 - 1) (iv 156) (iv 155))) dv cc ss)
  refine pz_G_of pz_b300_0 ?_
  refine w_loc rfl ?_
  refine w_getI (v := (iv 154) 3) is_154 (by decide) rfl ?_
  refine w_zne (fun h1 => ?_) (fun h1 => ?_)
  · first
    | (exfalso; first | omega | contradiction)
    | (refine pz_G_of pz_b300_13 ?_
       refine w_loc rfl ?_
       refine w_pure rfl ?_
       refine w_getI (v := (iv 154) 3) is_154 (by decide) rfl ?_
       refine w_pure rfl ?_
       refine w_isub (by omega) ?_
       refine w_putIm (iv2 := pz_u1 (pz_u1 iv 154 (pz_up (iv 154) 3 (((iv 154) 3) - 1))) 155 (iv 155)) is_154 pz_fit0 (by rw [pz_u2_in (r := 154) (q := 155) (by decide)]; rw [pz_u2_top]) ?_
       refine w_pure rfl ?_
       refine w_loc (ls' := [some (.inr (.inl 154)), some (.inl 0)]) (st' := []) rfl ?_
       refine w_nil ?_
       have lp25 : ∀ (dd : Nat) (i : Int) (f : Nat → Int) , (260 - i).toNat = dd → ∀ (hi : 0 ≤ i ∧ i ≤ 260), ∀ (hf : ∀ j : Nat, f j = if (j : Int) < i then iv 156 (260 * (iv 154 3 - 1) + (j : Int)).toNat else iv 155 j),  pz_G 300 25 [some (.inr (.inl 154)), some (.inl i)] [] (pz_Sh L, pz_u1 (pz_u1 iv 154 (pz_up (iv 154) 3 (((iv 154) 3) - 1))) 155 f, dv, cc, ss) (pz_P (pz_Sh L) (.inl (some (.inl ((iv 154) 3 - 1)))) (pz_u1 (pz_u1 iv 154 (pz_up (pz_up (iv 154) 3 ((iv 154) 3 - 1)) 0 0)) 155 (q_tbk ((iv 154) 3 - 1) (iv 156) (iv 155))) dv cc ss) := by
         intro dd25
         induction dd25 using Nat.strongRecOn with
         | _ dd25 ih25 =>
         intro i f  hd25 hi hf
         refine pz_G_of pz_b300_25 ?_
         refine w_loc rfl ?_
         refine w_pure rfl ?_
         refine w_ige (fun h2 => ?_) (fun h2 => ?_)
         · first
           | (exfalso; first | omega | contradiction)
           | (refine pz_G_of pz_b300_59 ?_
              refine w_loc rfl ?_
              refine w_loc rfl ?_
              refine w_getI (v := ((iv 154) 3) - 1) is_154 (by decide) rfl ?_
              have hc3 : pz_R (pz_Sh L) 192 [.inr (.inl 154), .inl (((iv 154) 3) - 1)] (pz_u1 (pz_u1 iv 154 (pz_up (iv 154) 3 (((iv 154) 3) - 1))) 155 f) (.inl (some (.inl (((iv 154) 3) - 1)))) (pz_u1 (pz_u1 iv 154 (pz_up (pz_up (iv 154) 3 (((iv 154) 3) - 1)) 0 0)) 155 f) := pz_R_mem (s_X11_tells (((iv 154) 3) - 1)) (by rw [pz_u1_in (r := 154) (q := 155) (by decide)]; rw [pz_u1_top (r := 154)]; rfl)
              refine w_call hc3 rfl (pz_cokI is_154 rfl) ?_
              refine w_ret rfl ?_
              first | first | exact lf_i rfl rfl | exact lf_i rfl (by rw [show f = q_tbk (iv 154 3 - 1) (iv 156) (iv 155) from by funext j; rw [hf j]; unfold q_tbk; (repeat' split) <;> first | rfl | omega]) | (exfalso; omega))
         · first
           | (exfalso; first | omega | contradiction)
           | (refine w_loc rfl ?_
              refine w_getR (q := 155) is_154 rf_154_1 ?_
              refine w_loc rfl ?_
              refine w_loc rfl ?_
              refine w_getR (q := 156) is_154 rf_154_2 ?_
              refine w_pure rfl ?_
              refine w_loc rfl ?_
              refine w_getI (v := ((iv 154) 3) - 1) is_154 (by decide) rfl ?_
              refine w_imul (by omega) ?_
              refine w_loc rfl ?_
              refine w_iadd (by omega) ?_
              refine w_iald (v := (iv 156) ((260 * (((iv 154) 3) - 1)) + i).toNat) is_156 ln_156 ⟨by omega, by omega⟩ rfl ?_
              refine w_iastm (iv2 := pz_u1 (pz_u1 iv 154 (pz_up (iv 154) 3 (((iv 154) 3) - 1))) 155 (pz_up f i.toNat ((iv 156) ((260 * (((iv 154) 3) - 1)) + i).toNat))) is_155 ln_155 ⟨by omega, by omega⟩ (by exact pz_u2_top _ _ _ _ _) ?_
              refine w_iinc (ls' := [some (.inr (.inl 154)), some (.inl (i + 1))]) rfl rfl rfl (by omega) ?_
              refine w_goto ?_
              exact ih25 _ (by omega) (i + 1) (pz_up f i.toNat ((iv 156) ((260 * (((iv 154) 3) - 1)) + i).toNat))  rfl (by omega) (by intro j; rw [pz_up_at, hf j]; (repeat' split) <;> first | rfl | omega | (congr 1; omega)))
       exact lp25 _ 0 (iv 155)  rfl (by omega) (by intro j; rw [if_neg (by omega)]))
  · first
    | (exfalso; first | omega | contradiction)
    | (refine w_loc rfl ?_
       refine w_pure rfl ?_
       have hc4 : pz_R (pz_Sh L) 191 [.inr (.inl 154), .inl 1] (pz_u1 (pz_u1 iv 154 (iv 154)) 155 (iv 155)) (.inl (some (.inl 0))) (pz_u1 (pz_u1 iv 154 (pz_up (iv 154) 0 1)) 155 (iv 155)) := pz_R_mem (s_X11_fails 1) (by rw [pz_u1_in (r := 154) (q := 155) (by decide)]; rw [pz_u1_top (r := 154)]; rfl)
       refine w_call hc4 rfl (pz_cokI is_154 rfl) ?_
       refine w_ret rfl ?_
       first | first | exact lf_i rfl rfl | exact lf_i rfl (by rw [show f = q_tbk (iv 154 3 - 1) (iv 156) (iv 155) from by funext j; rw [hf j]; unfold q_tbk; (repeat' split) <;> first | rfl | omega]) | (exfalso; omega))

theorem s_X11_setAt {L : Nat} {iv : Nat → Nat → Int} (m : Int) (hk : q_KR (iv 155)) (hd : q_dl (iv 157)) : pz_R (pz_Sh L) 287 [.inr (.inl 154), .inl m] iv (.inl (some (.inl (q_st (iv 155) (iv 157) m ((iv 155) 3))))) iv := by
  intro dv cc ss
  have hk0 := hk.r0
  show pz_G 287 0 [some (.inr (.inl 154)), some (.inl m), none, none] [] (pz_Sh L, iv, dv, cc, ss) (pz_P (pz_Sh L) (.inl (some (.inl (q_st (iv 155) (iv 157) m ((iv 155) 3))))) iv dv cc ss)
  refine pz_G_of pz_b287_0 ?_
  refine w_pure rfl ?_
  refine w_loc (ls' := [some (.inr (.inl 154)), some (.inl m), some (.inl 0), none]) (st' := []) rfl ?_
  refine w_pure rfl ?_
  refine w_loc (ls' := [some (.inr (.inl 154)), some (.inl m), some (.inl 0), some (.inl 0)]) (st' := []) rfl ?_
  refine w_nil ?_
  have lp4 : ∀ (dd : Nat) (n : Int) (a : Int) , ((iv 155) 3 - a).toNat = dd → ∀ (ha : 0 ≤ a ∧ a ≤ (iv 155) 3), ∀ (hn : n = q_st (iv 155) (iv 157) m a),  pz_G 287 4 [some (.inr (.inl 154)), some (.inl m), some (.inl n), some (.inl a)] [] (pz_Sh L, iv, dv, cc, ss) (pz_P (pz_Sh L) (.inl (some (.inl (q_st (iv 155) (iv 157) m ((iv 155) 3))))) iv dv cc ss) := by
    intro dd4
    induction dd4 using Nat.strongRecOn with
    | _ dd4 ih4 =>
    intro n a  hd4 ha hn
    have har := fun h => hk.ac ha.1 h
    have hsr := q_st_r (k := iv 155) (d := iv 157) (m := m) ha.1 (by omega)
    rw [← hn] at hsr
    have hp2 := q_p2_r (a := a) ha.1
    refine pz_G_of pz_b287_4 ?_
    refine w_loc rfl ?_
    refine w_loc rfl ?_
    refine w_getR (q := 155) is_154 rf_154_1 ?_
    refine w_pure rfl ?_
    refine w_iald (v := (iv 155) 3) is_155 ln_155 ⟨by omega, by omega⟩ rfl ?_
    refine w_ige (fun h1 => ?_) (fun h1 => ?_)
    · refine pz_G_of pz_b287_39 ?_
      refine w_loc rfl ?_
      refine w_ret rfl ?_
      exact lf_i (by rw [hn, show a = (iv 155) 3 by omega]) rfl
    · refine w_loc rfl ?_
      refine w_loc rfl ?_
      refine w_loc rfl ?_
      refine w_loc rfl ?_
      have hc2 : pz_R (pz_Sh L) 283 [.inr (.inl 154), .inl a, .inl m] (iv) (.inl (some (.inl (pz_bi (q_on (iv 155) (iv 157) a m))))) (iv) := s_X11_isOn a m (by exact hk) (by omega) (by first | exact hd | exact q_dd_l hk (by assumption))
      refine w_call hc2 rfl (pz_cokI is_154 rfl) ?_
      refine w_beq (fun h3 => ?_) (fun h3 => ?_)
      · refine pz_G_of pz_b287_30 ?_
        refine w_pure rfl ?_
        refine w_nil ?_
        refine pz_G_of pz_b287_31 ?_
        refine w_ior ?_
        refine w_loc (ls' := [some (.inr (.inl 154)), some (.inl m), some (.inl (pz_or n 0)), some (.inl a)]) (st' := []) rfl ?_
        refine w_iinc (ls' := [some (.inr (.inl 154)), some (.inl m), some (.inl (pz_or n 0)), some (.inl (a + 1))]) rfl rfl rfl (by omega) ?_
        refine w_goto ?_
        exact ih4 _ (by omega) (pz_or n 0) (a + 1)  rfl (by omega) (by unfold q_st; rw [q_sum_s (by omega)]; (try dsimp only); show _ = q_st (iv 155) (iv 157) m a + _; rw [← hn]; first | rw [q_if_t (by assumption), q_or_p2 (by omega) (by omega) (by omega) (by omega)] | rw [q_if_f (by assumption), q_or_0 (by omega) (by omega), Int.add_zero])
      · refine w_pure rfl ?_
        refine w_loc rfl ?_
        refine w_ishl ?_
        refine w_goto ?_
        refine pz_G_of pz_b287_31 ?_
        refine w_ior ?_
        refine w_loc (ls' := [some (.inr (.inl 154)), some (.inl m), some (.inl (pz_or n (pz_shl 1 a))), some (.inl a)]) (st' := []) rfl ?_
        refine w_iinc (ls' := [some (.inr (.inl 154)), some (.inl m), some (.inl (pz_or n (pz_shl 1 a))), some (.inl (a + 1))]) rfl rfl rfl (by omega) ?_
        refine w_goto ?_
        exact ih4 _ (by omega) (pz_or n (pz_shl 1 a)) (a + 1)  rfl (by omega) (by unfold q_st; rw [q_sum_s (by omega)]; (try dsimp only); show _ = q_st (iv 155) (iv 157) m a + _; rw [← hn]; first | rw [q_if_t (by assumption), q_or_p2 (by omega) (by omega) (by omega) (by omega)] | rw [q_if_f (by assumption), q_or_0 (by omega) (by omega), Int.add_zero])
  exact lp4 _ 0 0  rfl (by omega) (by rfl)

theorem s_X11_peakSet_1 {L : Nat} {iv : Nat → Nat → Int} (hk : q_KR (iv 155)) (hcase0 : ¬ q_con (iv 155) (iv 161)) : pz_R (pz_Sh L) 289 [.inr (.inl 154)] iv (.inl (some (.inl 0))) (pz_u1 (pz_u1 iv 154 (pz_up (iv 154) 0 1)) 157 (q_dd (iv 155) (iv 161) (iv 157))) := by
  intro dv cc ss
  have hk0 := hk.r0
  refine pz_G_mem (iv2 := pz_u1 (pz_u1 iv 154 (iv 154)) 157 (iv 157)) (by exact ((pz_u1_self iv 154).symm).trans (pz_u1_self (pz_u1 iv 154 (iv 154)) 157).symm) ?_
  show pz_G 289 0 [some (.inr (.inl 154)), none] [] (pz_Sh L, pz_u1 (pz_u1 iv 154 (iv 154)) 157 (iv 157), dv, cc, ss) (pz_P (pz_Sh L) (.inl (some (.inl 0))) (pz_u1 (pz_u1 iv 154 (pz_up (iv 154) 0 1)) 157 (q_dd (iv 155) (iv 161) (iv 157))) dv cc ss)
  refine pz_G_of pz_b289_0 ?_
  refine w_loc rfl ?_
  have hc1 : pz_R (pz_Sh L) 227 [.inr (.inl 154)] (pz_u1 (pz_u1 iv 154 (iv 154)) 157 (iv 157)) (.inl (some (.inl (pz_bi (q_con (iv 155) (iv 161)))))) (pz_u1 (pz_u1 iv 154 (iv 154)) 157 (q_dd (iv 155) (iv 161) (iv 157))) := pz_R_mem (s_X11_isConsistentNow (by show q_KR (iv 155); exact hk)) (by rw [pz_u1_top (r := 157)]; rfl)
  refine w_call hc1 rfl (pz_cokI is_154 rfl) ?_
  refine w_bne (fun h2 => ?_) (fun h2 => ?_)
  · first
    | (exfalso; first | omega | contradiction)
    | (refine pz_G_of pz_b289_13 ?_
       refine w_loc rfl ?_
       have hc3 : pz_R (pz_Sh L) 286 [.inr (.inl 154)] (pz_u1 (pz_u1 iv 154 (iv 154)) 157 (q_dd (iv 155) (iv 161) (iv 157))) (.inl (some (.inl (q_pk (iv 155) (q_dd (iv 155) (iv 161) (iv 157)))))) (pz_u1 (pz_u1 iv 154 (iv 154)) 157 (q_dd (iv 155) (iv 161) (iv 157))) := s_X11_peakOf (by show q_KR (iv 155); exact hk) (by show q_dl (q_dd (iv 155) (iv 161) (iv 157)); first | exact hd | exact q_dd_l hk (by assumption))
       refine w_call hc3 rfl (pz_cokI is_154 rfl) ?_
       refine w_loc (ls' := [some (.inr (.inl 154)), some (.inl (q_pk (iv 155) (q_dd (iv 155) (iv 161) (iv 157))))]) (st' := []) rfl ?_
       refine w_loc rfl ?_
       refine w_pure rfl ?_
       refine w_ine (fun h4 => ?_) (fun h4 => ?_)
       · first
         | (exfalso; first | omega | contradiction)
         | (refine pz_G_of pz_b289_31 ?_
            refine w_loc rfl ?_
            refine w_loc rfl ?_
            refine w_loc rfl ?_
            have hc5 : pz_R (pz_Sh L) 287 [.inr (.inl 154), .inl (q_pk (iv 155) (q_dd (iv 155) (iv 161) (iv 157)))] (pz_u1 (pz_u1 iv 154 (iv 154)) 157 (q_dd (iv 155) (iv 161) (iv 157))) (.inl (some (.inl (q_st (iv 155) (q_dd (iv 155) (iv 161) (iv 157)) (q_pk (iv 155) (q_dd (iv 155) (iv 161) (iv 157))) ((iv 155) 3))))) (pz_u1 (pz_u1 iv 154 (iv 154)) 157 (q_dd (iv 155) (iv 161) (iv 157))) := s_X11_setAt (q_pk (iv 155) (q_dd (iv 155) (iv 161) (iv 157))) (by show q_KR (iv 155); exact hk) (by show q_dl (q_dd (iv 155) (iv 161) (iv 157)); first | exact hd | exact q_dd_l hk (by assumption))
            refine w_call hc5 rfl (pz_cokI is_154 rfl) ?_
            have hc6 : pz_R (pz_Sh L) 192 [.inr (.inl 154), .inl (q_st (iv 155) (q_dd (iv 155) (iv 161) (iv 157)) (q_pk (iv 155) (q_dd (iv 155) (iv 161) (iv 157))) ((iv 155) 3))] (pz_u1 (pz_u1 iv 154 (iv 154)) 157 (q_dd (iv 155) (iv 161) (iv 157))) (.inl (some (.inl (q_st (iv 155) (q_dd (iv 155) (iv 161) (iv 157)) (q_pk (iv 155) (q_dd (iv 155) (iv 161) (iv 157))) ((iv 155) 3))))) (pz_u1 (pz_u1 iv 154 (pz_up (iv 154) 0 0)) 157 (q_dd (iv 155) (iv 161) (iv 157))) := pz_R_mem (s_X11_tells (q_st (iv 155) (q_dd (iv 155) (iv 161) (iv 157)) (q_pk (iv 155) (q_dd (iv 155) (iv 161) (iv 157))) ((iv 155) 3))) (by rw [pz_u1_in (r := 154) (q := 157) (by decide)]; rw [pz_u1_top (r := 154)]; rfl)
            refine w_call hc6 rfl (pz_cokI is_154 rfl) ?_
            refine w_nil ?_
            refine pz_G_of pz_b289_40 ?_
            refine w_ret rfl ?_
            first | exact lf_i (by first | rfl | omega) (by rfl) | (exfalso; omega))
       · first
         | (exfalso; first | omega | contradiction)
         | (refine w_loc rfl ?_
            refine w_pure rfl ?_
            have hc7 : pz_R (pz_Sh L) 191 [.inr (.inl 154), .inl 2] (pz_u1 (pz_u1 iv 154 (iv 154)) 157 (q_dd (iv 155) (iv 161) (iv 157))) (.inl (some (.inl 0))) (pz_u1 (pz_u1 iv 154 (pz_up (iv 154) 0 2)) 157 (q_dd (iv 155) (iv 161) (iv 157))) := pz_R_mem (s_X11_fails 2) (by rw [pz_u1_in (r := 154) (q := 157) (by decide)]; rw [pz_u1_top (r := 154)]; rfl)
            refine w_call hc7 rfl (pz_cokI is_154 rfl) ?_
            refine w_goto ?_
            refine pz_G_of pz_b289_40 ?_
            refine w_ret rfl ?_
            first | exact lf_i (by first | rfl | omega) (by rfl) | (exfalso; omega)))
  · first
    | (exfalso; first | omega | contradiction)
    | (refine w_loc rfl ?_
       refine w_pure rfl ?_
       have hc8 : pz_R (pz_Sh L) 191 [.inr (.inl 154), .inl 1] (pz_u1 (pz_u1 iv 154 (iv 154)) 157 (q_dd (iv 155) (iv 161) (iv 157))) (.inl (some (.inl 0))) (pz_u1 (pz_u1 iv 154 (pz_up (iv 154) 0 1)) 157 (q_dd (iv 155) (iv 161) (iv 157))) := pz_R_mem (s_X11_fails 1) (by rw [pz_u1_in (r := 154) (q := 157) (by decide)]; rw [pz_u1_top (r := 154)]; rfl)
       refine w_call hc8 rfl (pz_cokI is_154 rfl) ?_
       refine w_ret rfl ?_
       first | exact lf_i (by first | rfl | omega) (by rfl) | (exfalso; omega))

theorem s_X11_peakSet_2 {L : Nat} {iv : Nat → Nat → Int} (hk : q_KR (iv 155)) (hcase0 : q_con (iv 155) (iv 161)) (hcase1 : q_pk (iv 155) (q_dd (iv 155) (iv 161) (iv 157)) = -1) : pz_R (pz_Sh L) 289 [.inr (.inl 154)] iv (.inl (some (.inl 0))) (pz_u1 (pz_u1 iv 154 (pz_up (iv 154) 0 2)) 157 (q_dd (iv 155) (iv 161) (iv 157))) := by
  intro dv cc ss
  have hk0 := hk.r0
  refine pz_G_mem (iv2 := pz_u1 (pz_u1 iv 154 (iv 154)) 157 (iv 157)) (by exact ((pz_u1_self iv 154).symm).trans (pz_u1_self (pz_u1 iv 154 (iv 154)) 157).symm) ?_
  show pz_G 289 0 [some (.inr (.inl 154)), none] [] (pz_Sh L, pz_u1 (pz_u1 iv 154 (iv 154)) 157 (iv 157), dv, cc, ss) (pz_P (pz_Sh L) (.inl (some (.inl 0))) (pz_u1 (pz_u1 iv 154 (pz_up (iv 154) 0 2)) 157 (q_dd (iv 155) (iv 161) (iv 157))) dv cc ss)
  refine pz_G_of pz_b289_0 ?_
  refine w_loc rfl ?_
  have hc1 : pz_R (pz_Sh L) 227 [.inr (.inl 154)] (pz_u1 (pz_u1 iv 154 (iv 154)) 157 (iv 157)) (.inl (some (.inl (pz_bi (q_con (iv 155) (iv 161)))))) (pz_u1 (pz_u1 iv 154 (iv 154)) 157 (q_dd (iv 155) (iv 161) (iv 157))) := pz_R_mem (s_X11_isConsistentNow (by show q_KR (iv 155); exact hk)) (by rw [pz_u1_top (r := 157)]; rfl)
  refine w_call hc1 rfl (pz_cokI is_154 rfl) ?_
  refine w_bne (fun h2 => ?_) (fun h2 => ?_)
  · first
    | (exfalso; first | omega | contradiction)
    | (refine pz_G_of pz_b289_13 ?_
       refine w_loc rfl ?_
       have hc3 : pz_R (pz_Sh L) 286 [.inr (.inl 154)] (pz_u1 (pz_u1 iv 154 (iv 154)) 157 (q_dd (iv 155) (iv 161) (iv 157))) (.inl (some (.inl (q_pk (iv 155) (q_dd (iv 155) (iv 161) (iv 157)))))) (pz_u1 (pz_u1 iv 154 (iv 154)) 157 (q_dd (iv 155) (iv 161) (iv 157))) := s_X11_peakOf (by show q_KR (iv 155); exact hk) (by show q_dl (q_dd (iv 155) (iv 161) (iv 157)); first | exact hd | exact q_dd_l hk (by assumption))
       refine w_call hc3 rfl (pz_cokI is_154 rfl) ?_
       refine w_loc (ls' := [some (.inr (.inl 154)), some (.inl (q_pk (iv 155) (q_dd (iv 155) (iv 161) (iv 157))))]) (st' := []) rfl ?_
       refine w_loc rfl ?_
       refine w_pure rfl ?_
       refine w_ine (fun h4 => ?_) (fun h4 => ?_)
       · first
         | (exfalso; first | omega | contradiction)
         | (refine pz_G_of pz_b289_31 ?_
            refine w_loc rfl ?_
            refine w_loc rfl ?_
            refine w_loc rfl ?_
            have hc5 : pz_R (pz_Sh L) 287 [.inr (.inl 154), .inl (q_pk (iv 155) (q_dd (iv 155) (iv 161) (iv 157)))] (pz_u1 (pz_u1 iv 154 (iv 154)) 157 (q_dd (iv 155) (iv 161) (iv 157))) (.inl (some (.inl (q_st (iv 155) (q_dd (iv 155) (iv 161) (iv 157)) (q_pk (iv 155) (q_dd (iv 155) (iv 161) (iv 157))) ((iv 155) 3))))) (pz_u1 (pz_u1 iv 154 (iv 154)) 157 (q_dd (iv 155) (iv 161) (iv 157))) := s_X11_setAt (q_pk (iv 155) (q_dd (iv 155) (iv 161) (iv 157))) (by show q_KR (iv 155); exact hk) (by show q_dl (q_dd (iv 155) (iv 161) (iv 157)); first | exact hd | exact q_dd_l hk (by assumption))
            refine w_call hc5 rfl (pz_cokI is_154 rfl) ?_
            have hc6 : pz_R (pz_Sh L) 192 [.inr (.inl 154), .inl (q_st (iv 155) (q_dd (iv 155) (iv 161) (iv 157)) (q_pk (iv 155) (q_dd (iv 155) (iv 161) (iv 157))) ((iv 155) 3))] (pz_u1 (pz_u1 iv 154 (iv 154)) 157 (q_dd (iv 155) (iv 161) (iv 157))) (.inl (some (.inl (q_st (iv 155) (q_dd (iv 155) (iv 161) (iv 157)) (q_pk (iv 155) (q_dd (iv 155) (iv 161) (iv 157))) ((iv 155) 3))))) (pz_u1 (pz_u1 iv 154 (pz_up (iv 154) 0 0)) 157 (q_dd (iv 155) (iv 161) (iv 157))) := pz_R_mem (s_X11_tells (q_st (iv 155) (q_dd (iv 155) (iv 161) (iv 157)) (q_pk (iv 155) (q_dd (iv 155) (iv 161) (iv 157))) ((iv 155) 3))) (by rw [pz_u1_in (r := 154) (q := 157) (by decide)]; rw [pz_u1_top (r := 154)]; rfl)
            refine w_call hc6 rfl (pz_cokI is_154 rfl) ?_
            refine w_nil ?_
            refine pz_G_of pz_b289_40 ?_
            refine w_ret rfl ?_
            first | exact lf_i (by first | rfl | omega) (by rfl) | (exfalso; omega))
       · first
         | (exfalso; first | omega | contradiction)
         | (refine w_loc rfl ?_
            refine w_pure rfl ?_
            have hc7 : pz_R (pz_Sh L) 191 [.inr (.inl 154), .inl 2] (pz_u1 (pz_u1 iv 154 (iv 154)) 157 (q_dd (iv 155) (iv 161) (iv 157))) (.inl (some (.inl 0))) (pz_u1 (pz_u1 iv 154 (pz_up (iv 154) 0 2)) 157 (q_dd (iv 155) (iv 161) (iv 157))) := pz_R_mem (s_X11_fails 2) (by rw [pz_u1_in (r := 154) (q := 157) (by decide)]; rw [pz_u1_top (r := 154)]; rfl)
            refine w_call hc7 rfl (pz_cokI is_154 rfl) ?_
            refine w_goto ?_
            refine pz_G_of pz_b289_40 ?_
            refine w_ret rfl ?_
            first | exact lf_i (by first | rfl | omega) (by rfl) | (exfalso; omega)))
  · first
    | (exfalso; first | omega | contradiction)
    | (refine w_loc rfl ?_
       refine w_pure rfl ?_
       have hc8 : pz_R (pz_Sh L) 191 [.inr (.inl 154), .inl 1] (pz_u1 (pz_u1 iv 154 (iv 154)) 157 (q_dd (iv 155) (iv 161) (iv 157))) (.inl (some (.inl 0))) (pz_u1 (pz_u1 iv 154 (pz_up (iv 154) 0 1)) 157 (q_dd (iv 155) (iv 161) (iv 157))) := pz_R_mem (s_X11_fails 1) (by rw [pz_u1_in (r := 154) (q := 157) (by decide)]; rw [pz_u1_top (r := 154)]; rfl)
       refine w_call hc8 rfl (pz_cokI is_154 rfl) ?_
       refine w_ret rfl ?_
       first | exact lf_i (by first | rfl | omega) (by rfl) | (exfalso; omega))

theorem s_X11_peakSet_0 {L : Nat} {iv : Nat → Nat → Int} (hk : q_KR (iv 155)) (hcase0 : q_con (iv 155) (iv 161)) (hcase1 : q_pk (iv 155) (q_dd (iv 155) (iv 161) (iv 157)) ≠ -1) : pz_R (pz_Sh L) 289 [.inr (.inl 154)] iv (.inl (some (.inl (q_st (iv 155) (q_dd (iv 155) (iv 161) (iv 157)) (q_pk (iv 155) (q_dd (iv 155) (iv 161) (iv 157))) ((iv 155) 3))))) (pz_u1 (pz_u1 iv 154 (pz_up (iv 154) 0 0)) 157 (q_dd (iv 155) (iv 161) (iv 157))) := by
  intro dv cc ss
  have hk0 := hk.r0
  refine pz_G_mem (iv2 := pz_u1 (pz_u1 iv 154 (iv 154)) 157 (iv 157)) (by exact ((pz_u1_self iv 154).symm).trans (pz_u1_self (pz_u1 iv 154 (iv 154)) 157).symm) ?_
  show pz_G 289 0 [some (.inr (.inl 154)), none] [] (pz_Sh L, pz_u1 (pz_u1 iv 154 (iv 154)) 157 (iv 157), dv, cc, ss) (pz_P (pz_Sh L) (.inl (some (.inl (q_st (iv 155) (q_dd (iv 155) (iv 161) (iv 157)) (q_pk (iv 155) (q_dd (iv 155) (iv 161) (iv 157))) ((iv 155) 3))))) (pz_u1 (pz_u1 iv 154 (pz_up (iv 154) 0 0)) 157 (q_dd (iv 155) (iv 161) (iv 157))) dv cc ss)
  refine pz_G_of pz_b289_0 ?_
  refine w_loc rfl ?_
  have hc1 : pz_R (pz_Sh L) 227 [.inr (.inl 154)] (pz_u1 (pz_u1 iv 154 (iv 154)) 157 (iv 157)) (.inl (some (.inl (pz_bi (q_con (iv 155) (iv 161)))))) (pz_u1 (pz_u1 iv 154 (iv 154)) 157 (q_dd (iv 155) (iv 161) (iv 157))) := pz_R_mem (s_X11_isConsistentNow (by show q_KR (iv 155); exact hk)) (by rw [pz_u1_top (r := 157)]; rfl)
  refine w_call hc1 rfl (pz_cokI is_154 rfl) ?_
  refine w_bne (fun h2 => ?_) (fun h2 => ?_)
  · first
    | (exfalso; first | omega | contradiction)
    | (refine pz_G_of pz_b289_13 ?_
       refine w_loc rfl ?_
       have hc3 : pz_R (pz_Sh L) 286 [.inr (.inl 154)] (pz_u1 (pz_u1 iv 154 (iv 154)) 157 (q_dd (iv 155) (iv 161) (iv 157))) (.inl (some (.inl (q_pk (iv 155) (q_dd (iv 155) (iv 161) (iv 157)))))) (pz_u1 (pz_u1 iv 154 (iv 154)) 157 (q_dd (iv 155) (iv 161) (iv 157))) := s_X11_peakOf (by show q_KR (iv 155); exact hk) (by show q_dl (q_dd (iv 155) (iv 161) (iv 157)); first | exact hd | exact q_dd_l hk (by assumption))
       refine w_call hc3 rfl (pz_cokI is_154 rfl) ?_
       refine w_loc (ls' := [some (.inr (.inl 154)), some (.inl (q_pk (iv 155) (q_dd (iv 155) (iv 161) (iv 157))))]) (st' := []) rfl ?_
       refine w_loc rfl ?_
       refine w_pure rfl ?_
       refine w_ine (fun h4 => ?_) (fun h4 => ?_)
       · first
         | (exfalso; first | omega | contradiction)
         | (refine pz_G_of pz_b289_31 ?_
            refine w_loc rfl ?_
            refine w_loc rfl ?_
            refine w_loc rfl ?_
            have hc5 : pz_R (pz_Sh L) 287 [.inr (.inl 154), .inl (q_pk (iv 155) (q_dd (iv 155) (iv 161) (iv 157)))] (pz_u1 (pz_u1 iv 154 (iv 154)) 157 (q_dd (iv 155) (iv 161) (iv 157))) (.inl (some (.inl (q_st (iv 155) (q_dd (iv 155) (iv 161) (iv 157)) (q_pk (iv 155) (q_dd (iv 155) (iv 161) (iv 157))) ((iv 155) 3))))) (pz_u1 (pz_u1 iv 154 (iv 154)) 157 (q_dd (iv 155) (iv 161) (iv 157))) := s_X11_setAt (q_pk (iv 155) (q_dd (iv 155) (iv 161) (iv 157))) (by show q_KR (iv 155); exact hk) (by show q_dl (q_dd (iv 155) (iv 161) (iv 157)); first | exact hd | exact q_dd_l hk (by assumption))
            refine w_call hc5 rfl (pz_cokI is_154 rfl) ?_
            have hc6 : pz_R (pz_Sh L) 192 [.inr (.inl 154), .inl (q_st (iv 155) (q_dd (iv 155) (iv 161) (iv 157)) (q_pk (iv 155) (q_dd (iv 155) (iv 161) (iv 157))) ((iv 155) 3))] (pz_u1 (pz_u1 iv 154 (iv 154)) 157 (q_dd (iv 155) (iv 161) (iv 157))) (.inl (some (.inl (q_st (iv 155) (q_dd (iv 155) (iv 161) (iv 157)) (q_pk (iv 155) (q_dd (iv 155) (iv 161) (iv 157))) ((iv 155) 3))))) (pz_u1 (pz_u1 iv 154 (pz_up (iv 154) 0 0)) 157 (q_dd (iv 155) (iv 161) (iv 157))) := pz_R_mem (s_X11_tells (q_st (iv 155) (q_dd (iv 155) (iv 161) (iv 157)) (q_pk (iv 155) (q_dd (iv 155) (iv 161) (iv 157))) ((iv 155) 3))) (by rw [pz_u1_in (r := 154) (q := 157) (by decide)]; rw [pz_u1_top (r := 154)]; rfl)
            refine w_call hc6 rfl (pz_cokI is_154 rfl) ?_
            refine w_nil ?_
            refine pz_G_of pz_b289_40 ?_
            refine w_ret rfl ?_
            first | exact lf_i (by first | rfl | omega) (by rfl) | (exfalso; omega))
       · first
         | (exfalso; first | omega | contradiction)
         | (refine w_loc rfl ?_
            refine w_pure rfl ?_
            have hc7 : pz_R (pz_Sh L) 191 [.inr (.inl 154), .inl 2] (pz_u1 (pz_u1 iv 154 (iv 154)) 157 (q_dd (iv 155) (iv 161) (iv 157))) (.inl (some (.inl 0))) (pz_u1 (pz_u1 iv 154 (pz_up (iv 154) 0 2)) 157 (q_dd (iv 155) (iv 161) (iv 157))) := pz_R_mem (s_X11_fails 2) (by rw [pz_u1_in (r := 154) (q := 157) (by decide)]; rw [pz_u1_top (r := 154)]; rfl)
            refine w_call hc7 rfl (pz_cokI is_154 rfl) ?_
            refine w_goto ?_
            refine pz_G_of pz_b289_40 ?_
            refine w_ret rfl ?_
            first | exact lf_i (by first | rfl | omega) (by rfl) | (exfalso; omega)))
  · first
    | (exfalso; first | omega | contradiction)
    | (refine w_loc rfl ?_
       refine w_pure rfl ?_
       have hc8 : pz_R (pz_Sh L) 191 [.inr (.inl 154), .inl 1] (pz_u1 (pz_u1 iv 154 (iv 154)) 157 (q_dd (iv 155) (iv 161) (iv 157))) (.inl (some (.inl 0))) (pz_u1 (pz_u1 iv 154 (pz_up (iv 154) 0 1)) 157 (q_dd (iv 155) (iv 161) (iv 157))) := pz_R_mem (s_X11_fails 1) (by rw [pz_u1_in (r := 154) (q := 157) (by decide)]; rw [pz_u1_top (r := 154)]; rfl)
       refine w_call hc8 rfl (pz_cokI is_154 rfl) ?_
       refine w_ret rfl ?_
       first | exact lf_i (by first | rfl | omega) (by rfl) | (exfalso; omega))

theorem s_X11_pass_1 {L : Nat} {iv : Nat → Nat → Int} (m : Int) (hk : q_KR (iv 155)) (hcase0 : ¬ (1 ≤ m ∧ m ≤ 200)) : pz_R (pz_Sh L) 275 [.inr (.inl 154), .inl m] iv (.inl (some (.inl 0))) (pz_u1 (pz_u1 iv 154 (pz_up (iv 154) 0 1)) 155 (iv 155)) := by
  intro dv cc ss
  have hk0 := hk.r0
  refine pz_G_mem (iv2 := pz_u1 (pz_u1 iv 154 (iv 154)) 155 (iv 155)) (by exact ((pz_u1_self iv 154).symm).trans (pz_u1_self (pz_u1 iv 154 (iv 154)) 155).symm) ?_
  show pz_G 275 0 [some (.inr (.inl 154)), some (.inl m), none] [] (pz_Sh L, pz_u1 (pz_u1 iv 154 (iv 154)) 155 (iv 155), dv, cc, ss) (pz_P (pz_Sh L) (.inl (some (.inl 0))) (pz_u1 (pz_u1 iv 154 (pz_up (iv 154) 0 1)) 155 (iv 155)) dv cc ss)
  refine pz_G_of pz_b275_0 ?_
  refine w_loc rfl ?_
  refine w_pure rfl ?_
  refine w_pure rfl ?_
  have hc1 : pz_R (pz_Sh L) 190 [.inl m, .inl 1, .inl 200] (pz_u1 (pz_u1 iv 154 (iv 154)) 155 (iv 155)) (.inl (some (.inl (pz_bi (1 ≤ m ∧ m ≤ 200))))) (pz_u1 (pz_u1 iv 154 (iv 154)) 155 (iv 155)) := s_X11_in m 1 200
  refine w_call hc1 rfl rfl ?_
  refine w_bne (fun h2 => ?_) (fun h2 => ?_)
  · first
    | (exfalso; first | omega | contradiction)
    | (refine pz_G_of pz_b275_17 ?_
       refine w_pure rfl ?_
       refine w_loc (ls' := [some (.inr (.inl 154)), some (.inl m), some (.inl 0)]) (st' := []) rfl ?_
       refine w_nil ?_
       have lp19 : ∀ (dd : Nat) (s : Int) , (iv 155 2 - s).toNat = dd → ∀ (hs : 0 ≤ s ∧ s ≤ iv 155 2), ∀ (hno : ∀ i : Int, 0 ≤ i → i < s → ¬ q_ovr (iv 155) m i),  pz_G 275 19 [some (.inr (.inl 154)), some (.inl m), some (.inl s)] [] (pz_Sh L, pz_u1 (pz_u1 iv 154 (iv 154)) 155 (iv 155), dv, cc, ss) (pz_P (pz_Sh L) (.inl (some (.inl 0))) (pz_u1 (pz_u1 iv 154 (pz_up (iv 154) 0 1)) 155 (iv 155)) dv cc ss) := by
         intro dd19
         induction dd19 using Nat.strongRecOn with
         | _ dd19 ih19 =>
         intro s  hd19 hs hno
         have hsp := fun h => hk.sp hs.1 h
         have hs6 := fun h1 h2 => hk.st (e := iv 155 (212 + 4 * s).toNat) h1 h2
         refine pz_G_of pz_b275_19 ?_
         refine w_loc rfl ?_
         refine w_loc rfl ?_
         refine w_getR (q := 155) is_154 rf_154_1 ?_
         refine w_pure rfl ?_
         refine w_iald (v := (iv 155) 2) is_155 ln_155 ⟨by omega, by omega⟩ rfl ?_
         refine w_ige (fun h3 => ?_) (fun h3 => ?_)
         · first
           | (exfalso; first | omega | contradiction)
           | (refine pz_G_of pz_b275_91 ?_
              refine w_loc rfl ?_
              refine w_getR (q := 155) is_154 rf_154_1 ?_
              refine w_pure rfl ?_
              refine w_iald (v := (iv 155) 4) is_155 ln_155 ⟨by omega, by omega⟩ rfl ?_
              refine w_loc rfl ?_
              refine w_iadd (by omega) ?_
              refine w_pure rfl ?_
              refine w_ile (fun h4 => ?_) (fun h4 => ?_)
              · first
                | (exfalso; first | omega | contradiction)
                | (refine pz_G_of pz_b275_111 ?_
                   refine w_loc rfl ?_
                   refine w_getR (q := 155) is_154 rf_154_1 ?_
                   refine w_pure rfl ?_
                   refine w_pure rfl ?_
                   refine w_iald (v := (iv 155) 4) is_155 ln_155 ⟨by omega, by omega⟩ rfl ?_
                   refine w_loc rfl ?_
                   refine w_iadd (by omega) ?_
                   refine w_iastm (iv2 := pz_u1 (pz_u1 iv 154 (iv 154)) 155 (pz_up (iv 155) 4 (((iv 155) 4) + m))) is_155 ln_155 ⟨by omega, by omega⟩ (by exact pz_u2_top _ _ _ _ _) ?_
                   refine w_loc rfl ?_
                   refine w_loc rfl ?_
                   refine w_getR (q := 155) is_154 rf_154_1 ?_
                   refine w_pure rfl ?_
                   refine w_iald (v := ((iv 155) 4) + m) is_155 ln_155 ⟨by omega, by omega⟩ rfl ?_
                   have hc5 : pz_R (pz_Sh L) 192 [.inr (.inl 154), .inl (((iv 155) 4) + m)] (pz_u1 (pz_u1 iv 154 (iv 154)) 155 (pz_up (iv 155) 4 (((iv 155) 4) + m))) (.inl (some (.inl (((iv 155) 4) + m)))) (pz_u1 (pz_u1 iv 154 (pz_up (iv 154) 0 0)) 155 (pz_up (iv 155) 4 (((iv 155) 4) + m))) := pz_R_mem (s_X11_tells (((iv 155) 4) + m)) (by rw [pz_u1_in (r := 154) (q := 155) (by decide)]; rw [pz_u1_top (r := 154)]; rfl)
                   refine w_call hc5 rfl (pz_cokI is_154 rfl) ?_
                   refine w_ret rfl ?_
                   first | first | exact lf_i (by first | rfl | omega) rfl | (exfalso; obtain ⟨i9, g1, g2, g3⟩ := hcase1; exact hno i9 g1 (by omega) g3) | (exfalso; exact hcase1 ⟨s, hs.1, by omega, by omega⟩) | (exfalso; omega))
              · first
                | (exfalso; first | omega | contradiction)
                | (refine w_loc rfl ?_
                   refine w_pure rfl ?_
                   have hc6 : pz_R (pz_Sh L) 191 [.inr (.inl 154), .inl 3] (pz_u1 (pz_u1 iv 154 (iv 154)) 155 (iv 155)) (.inl (some (.inl 0))) (pz_u1 (pz_u1 iv 154 (pz_up (iv 154) 0 3)) 155 (iv 155)) := pz_R_mem (s_X11_fails 3) (by rw [pz_u1_in (r := 154) (q := 155) (by decide)]; rw [pz_u1_top (r := 154)]; rfl)
                   refine w_call hc6 rfl (pz_cokI is_154 rfl) ?_
                   refine w_ret rfl ?_
                   first | first | exact lf_i (by first | rfl | omega) rfl | (exfalso; obtain ⟨i9, g1, g2, g3⟩ := hcase1; exact hno i9 g1 (by omega) g3) | (exfalso; exact hcase1 ⟨s, hs.1, by omega, by omega⟩) | (exfalso; omega)))
         · first
           | (exfalso; first | omega | contradiction)
           | (refine w_loc rfl ?_
              refine w_loc rfl ?_
              refine w_loc rfl ?_
              have hc7 : pz_R (pz_Sh L) 206 [.inr (.inl 154), .inl s] (pz_u1 (pz_u1 iv 154 (iv 154)) 155 (iv 155)) (.inl (some (.inl ((iv 155) (212 + 4 * s).toNat)))) (pz_u1 (pz_u1 iv 154 (iv 154)) 155 (iv 155)) := s_X11_first s (by show 0 ≤ s ∧ s ≤ 2; omega)
              refine w_call hc7 rfl (pz_cokI is_154 rfl) ?_
              have hc8 : pz_R (pz_Sh L) 196 [.inr (.inl 154), .inl ((iv 155) (212 + 4 * s).toNat)] (pz_u1 (pz_u1 iv 154 (iv 154)) 155 (iv 155)) (.inl (some (.inl (pz_bi (q_sta (iv 155) ((iv 155) (212 + 4 * s).toNat)))))) (pz_u1 (pz_u1 iv 154 (iv 154)) 155 (iv 155)) := s_X11_hasStarted ((iv 155) (212 + 4 * s).toNat) (by show 0 ≤ ((iv 155) (212 + 4 * s).toNat) ∧ ((iv 155) (212 + 4 * s).toNat) ≤ 9; omega)
              refine w_call hc8 rfl (pz_cokI is_154 rfl) ?_
              refine w_beq (fun h9 => ?_) (fun h9 => ?_)
              · first
                | (exfalso; first | omega | contradiction)
                | (refine pz_G_of pz_b275_85 ?_
                   refine w_iinc (ls' := [some (.inr (.inl 154)), some (.inl m), some (.inl (s + 1))]) rfl rfl rfl (by omega) ?_
                   refine w_goto ?_
                   exact ih19 _ (by omega) (s + 1)  rfl (by omega) (by intro i g1 g2; by_cases hq : i = s; (rw [hq]; omega); exact hno i g1 (by omega)))
              · first
                | (exfalso; first | omega | contradiction)
                | (refine w_loc rfl ?_
                   refine w_loc rfl ?_
                   have hc10 : pz_R (pz_Sh L) 210 [.inr (.inl 154), .inl s] (pz_u1 (pz_u1 iv 154 (iv 154)) 155 (iv 155)) (.inl (some (.inl (pz_bi (q_sta (iv 155) ((iv 155) (212 + 4 * s + 1).toNat)))))) (pz_u1 (pz_u1 iv 154 (iv 154)) 155 (iv 155)) := s_X11_hasEnded s (by show q_KR (iv 155); exact hk) (by show 0 ≤ s ∧ s < (iv 155) 2; omega)
                   refine w_call hc10 rfl (pz_cokI is_154 rfl) ?_
                   refine w_bne (fun h11 => ?_) (fun h11 => ?_)
                   · first
                     | (exfalso; first | omega | contradiction)
                     | (refine pz_G_of pz_b275_85 ?_
                        refine w_iinc (ls' := [some (.inr (.inl 154)), some (.inl m), some (.inl (s + 1))]) rfl rfl rfl (by omega) ?_
                        refine w_goto ?_
                        exact ih19 _ (by omega) (s + 1)  rfl (by omega) (by intro i g1 g2; by_cases hq : i = s; (rw [hq]; omega); exact hno i g1 (by omega)))
                   · first
                     | (exfalso; first | omega | contradiction)
                     | (refine w_loc rfl ?_
                        refine w_getR (q := 155) is_154 rf_154_1 ?_
                        refine w_pure rfl ?_
                        refine w_iald (v := (iv 155) 4) is_155 ln_155 ⟨by omega, by omega⟩ rfl ?_
                        refine w_loc rfl ?_
                        refine w_iadd (by omega) ?_
                        refine w_loc rfl ?_
                        refine w_getR (q := 155) is_154 rf_154_1 ?_
                        refine w_pure rfl ?_
                        refine w_loc rfl ?_
                        refine w_loc rfl ?_
                        have hc12 : pz_R (pz_Sh L) 206 [.inr (.inl 154), .inl s] (pz_u1 (pz_u1 iv 154 (iv 154)) 155 (iv 155)) (.inl (some (.inl ((iv 155) (212 + 4 * s).toNat)))) (pz_u1 (pz_u1 iv 154 (iv 154)) 155 (iv 155)) := s_X11_first s (by show 0 ≤ s ∧ s ≤ 2; omega)
                        refine w_call hc12 rfl (pz_cokI is_154 rfl) ?_
                        refine w_iadd (by omega) ?_
                        refine w_iald (v := (iv 155) (6 + ((iv 155) (212 + 4 * s).toNat)).toNat) is_155 ln_155 ⟨by omega, by omega⟩ rfl ?_
                        refine w_isub (by omega) ?_
                        refine w_loc rfl ?_
                        refine w_loc rfl ?_
                        have hc13 : pz_R (pz_Sh L) 209 [.inr (.inl 154), .inl s] (pz_u1 (pz_u1 iv 154 (iv 154)) 155 (iv 155)) (.inl (some (.inl ((iv 155) (212 + 4 * s + 3).toNat)))) (pz_u1 (pz_u1 iv 154 (iv 154)) 155 (iv 155)) := s_X11_greatest s (by show 0 ≤ s ∧ s ≤ 2; omega)
                        refine w_call hc13 rfl (pz_cokI is_154 rfl) ?_
                        refine w_ile (fun h14 => ?_) (fun h14 => ?_)
                        · first
                          | (exfalso; first | omega | contradiction)
                          | (refine pz_G_of pz_b275_85 ?_
                             refine w_iinc (ls' := [some (.inr (.inl 154)), some (.inl m), some (.inl (s + 1))]) rfl rfl rfl (by omega) ?_
                             refine w_goto ?_
                             exact ih19 _ (by omega) (s + 1)  rfl (by omega) (by intro i g1 g2; by_cases hq : i = s; (rw [hq]; omega); exact hno i g1 (by omega)))
                        · first
                          | (exfalso; first | omega | contradiction)
                          | (refine w_loc rfl ?_
                             refine w_pure rfl ?_
                             have hc15 : pz_R (pz_Sh L) 191 [.inr (.inl 154), .inl 2] (pz_u1 (pz_u1 iv 154 (iv 154)) 155 (iv 155)) (.inl (some (.inl 0))) (pz_u1 (pz_u1 iv 154 (pz_up (iv 154) 0 2)) 155 (iv 155)) := pz_R_mem (s_X11_fails 2) (by rw [pz_u1_in (r := 154) (q := 155) (by decide)]; rw [pz_u1_top (r := 154)]; rfl)
                             refine w_call hc15 rfl (pz_cokI is_154 rfl) ?_
                             refine w_ret rfl ?_
                             first | first | exact lf_i (by first | rfl | omega) rfl | (exfalso; obtain ⟨i9, g1, g2, g3⟩ := hcase1; exact hno i9 g1 (by omega) g3) | (exfalso; exact hcase1 ⟨s, hs.1, by omega, by omega⟩) | (exfalso; omega)))))
       exact lp19 _ 0  rfl (by omega) (by intro i g1 g2; omega))
  · first
    | (exfalso; first | omega | contradiction)
    | (refine w_loc rfl ?_
       refine w_pure rfl ?_
       have hc16 : pz_R (pz_Sh L) 191 [.inr (.inl 154), .inl 1] (pz_u1 (pz_u1 iv 154 (iv 154)) 155 (iv 155)) (.inl (some (.inl 0))) (pz_u1 (pz_u1 iv 154 (pz_up (iv 154) 0 1)) 155 (iv 155)) := pz_R_mem (s_X11_fails 1) (by rw [pz_u1_in (r := 154) (q := 155) (by decide)]; rw [pz_u1_top (r := 154)]; rfl)
       refine w_call hc16 rfl (pz_cokI is_154 rfl) ?_
       refine w_ret rfl ?_
       first | first | exact lf_i (by first | rfl | omega) rfl | (exfalso; obtain ⟨i9, g1, g2, g3⟩ := hcase1; exact hno i9 g1 (by omega) g3) | (exfalso; exact hcase1 ⟨s, hs.1, by omega, by omega⟩) | (exfalso; omega))

theorem s_X11_pass_2 {L : Nat} {iv : Nat → Nat → Int} (m : Int) (hk : q_KR (iv 155)) (hcase0 : 1 ≤ m ∧ m ≤ 200) (hcase1 : q_exi (q_ovr (iv 155) m) (iv 155 2)) : pz_R (pz_Sh L) 275 [.inr (.inl 154), .inl m] iv (.inl (some (.inl 0))) (pz_u1 (pz_u1 iv 154 (pz_up (iv 154) 0 2)) 155 (iv 155)) := by
  intro dv cc ss
  have hk0 := hk.r0
  refine pz_G_mem (iv2 := pz_u1 (pz_u1 iv 154 (iv 154)) 155 (iv 155)) (by exact ((pz_u1_self iv 154).symm).trans (pz_u1_self (pz_u1 iv 154 (iv 154)) 155).symm) ?_
  show pz_G 275 0 [some (.inr (.inl 154)), some (.inl m), none] [] (pz_Sh L, pz_u1 (pz_u1 iv 154 (iv 154)) 155 (iv 155), dv, cc, ss) (pz_P (pz_Sh L) (.inl (some (.inl 0))) (pz_u1 (pz_u1 iv 154 (pz_up (iv 154) 0 2)) 155 (iv 155)) dv cc ss)
  refine pz_G_of pz_b275_0 ?_
  refine w_loc rfl ?_
  refine w_pure rfl ?_
  refine w_pure rfl ?_
  have hc1 : pz_R (pz_Sh L) 190 [.inl m, .inl 1, .inl 200] (pz_u1 (pz_u1 iv 154 (iv 154)) 155 (iv 155)) (.inl (some (.inl (pz_bi (1 ≤ m ∧ m ≤ 200))))) (pz_u1 (pz_u1 iv 154 (iv 154)) 155 (iv 155)) := s_X11_in m 1 200
  refine w_call hc1 rfl rfl ?_
  refine w_bne (fun h2 => ?_) (fun h2 => ?_)
  · first
    | (exfalso; first | omega | contradiction)
    | (refine pz_G_of pz_b275_17 ?_
       refine w_pure rfl ?_
       refine w_loc (ls' := [some (.inr (.inl 154)), some (.inl m), some (.inl 0)]) (st' := []) rfl ?_
       refine w_nil ?_
       have lp19 : ∀ (dd : Nat) (s : Int) , (iv 155 2 - s).toNat = dd → ∀ (hs : 0 ≤ s ∧ s ≤ iv 155 2), ∀ (hno : ∀ i : Int, 0 ≤ i → i < s → ¬ q_ovr (iv 155) m i),  pz_G 275 19 [some (.inr (.inl 154)), some (.inl m), some (.inl s)] [] (pz_Sh L, pz_u1 (pz_u1 iv 154 (iv 154)) 155 (iv 155), dv, cc, ss) (pz_P (pz_Sh L) (.inl (some (.inl 0))) (pz_u1 (pz_u1 iv 154 (pz_up (iv 154) 0 2)) 155 (iv 155)) dv cc ss) := by
         intro dd19
         induction dd19 using Nat.strongRecOn with
         | _ dd19 ih19 =>
         intro s  hd19 hs hno
         have hsp := fun h => hk.sp hs.1 h
         have hs6 := fun h1 h2 => hk.st (e := iv 155 (212 + 4 * s).toNat) h1 h2
         refine pz_G_of pz_b275_19 ?_
         refine w_loc rfl ?_
         refine w_loc rfl ?_
         refine w_getR (q := 155) is_154 rf_154_1 ?_
         refine w_pure rfl ?_
         refine w_iald (v := (iv 155) 2) is_155 ln_155 ⟨by omega, by omega⟩ rfl ?_
         refine w_ige (fun h3 => ?_) (fun h3 => ?_)
         · first
           | (exfalso; first | omega | contradiction)
           | (refine pz_G_of pz_b275_91 ?_
              refine w_loc rfl ?_
              refine w_getR (q := 155) is_154 rf_154_1 ?_
              refine w_pure rfl ?_
              refine w_iald (v := (iv 155) 4) is_155 ln_155 ⟨by omega, by omega⟩ rfl ?_
              refine w_loc rfl ?_
              refine w_iadd (by omega) ?_
              refine w_pure rfl ?_
              refine w_ile (fun h4 => ?_) (fun h4 => ?_)
              · first
                | (exfalso; first | omega | contradiction)
                | (refine pz_G_of pz_b275_111 ?_
                   refine w_loc rfl ?_
                   refine w_getR (q := 155) is_154 rf_154_1 ?_
                   refine w_pure rfl ?_
                   refine w_pure rfl ?_
                   refine w_iald (v := (iv 155) 4) is_155 ln_155 ⟨by omega, by omega⟩ rfl ?_
                   refine w_loc rfl ?_
                   refine w_iadd (by omega) ?_
                   refine w_iastm (iv2 := pz_u1 (pz_u1 iv 154 (iv 154)) 155 (pz_up (iv 155) 4 (((iv 155) 4) + m))) is_155 ln_155 ⟨by omega, by omega⟩ (by exact pz_u2_top _ _ _ _ _) ?_
                   refine w_loc rfl ?_
                   refine w_loc rfl ?_
                   refine w_getR (q := 155) is_154 rf_154_1 ?_
                   refine w_pure rfl ?_
                   refine w_iald (v := ((iv 155) 4) + m) is_155 ln_155 ⟨by omega, by omega⟩ rfl ?_
                   have hc5 : pz_R (pz_Sh L) 192 [.inr (.inl 154), .inl (((iv 155) 4) + m)] (pz_u1 (pz_u1 iv 154 (iv 154)) 155 (pz_up (iv 155) 4 (((iv 155) 4) + m))) (.inl (some (.inl (((iv 155) 4) + m)))) (pz_u1 (pz_u1 iv 154 (pz_up (iv 154) 0 0)) 155 (pz_up (iv 155) 4 (((iv 155) 4) + m))) := pz_R_mem (s_X11_tells (((iv 155) 4) + m)) (by rw [pz_u1_in (r := 154) (q := 155) (by decide)]; rw [pz_u1_top (r := 154)]; rfl)
                   refine w_call hc5 rfl (pz_cokI is_154 rfl) ?_
                   refine w_ret rfl ?_
                   first | first | exact lf_i (by first | rfl | omega) rfl | (exfalso; obtain ⟨i9, g1, g2, g3⟩ := hcase1; exact hno i9 g1 (by omega) g3) | (exfalso; exact hcase1 ⟨s, hs.1, by omega, by omega⟩) | (exfalso; omega))
              · first
                | (exfalso; first | omega | contradiction)
                | (refine w_loc rfl ?_
                   refine w_pure rfl ?_
                   have hc6 : pz_R (pz_Sh L) 191 [.inr (.inl 154), .inl 3] (pz_u1 (pz_u1 iv 154 (iv 154)) 155 (iv 155)) (.inl (some (.inl 0))) (pz_u1 (pz_u1 iv 154 (pz_up (iv 154) 0 3)) 155 (iv 155)) := pz_R_mem (s_X11_fails 3) (by rw [pz_u1_in (r := 154) (q := 155) (by decide)]; rw [pz_u1_top (r := 154)]; rfl)
                   refine w_call hc6 rfl (pz_cokI is_154 rfl) ?_
                   refine w_ret rfl ?_
                   first | first | exact lf_i (by first | rfl | omega) rfl | (exfalso; obtain ⟨i9, g1, g2, g3⟩ := hcase1; exact hno i9 g1 (by omega) g3) | (exfalso; exact hcase1 ⟨s, hs.1, by omega, by omega⟩) | (exfalso; omega)))
         · first
           | (exfalso; first | omega | contradiction)
           | (refine w_loc rfl ?_
              refine w_loc rfl ?_
              refine w_loc rfl ?_
              have hc7 : pz_R (pz_Sh L) 206 [.inr (.inl 154), .inl s] (pz_u1 (pz_u1 iv 154 (iv 154)) 155 (iv 155)) (.inl (some (.inl ((iv 155) (212 + 4 * s).toNat)))) (pz_u1 (pz_u1 iv 154 (iv 154)) 155 (iv 155)) := s_X11_first s (by show 0 ≤ s ∧ s ≤ 2; omega)
              refine w_call hc7 rfl (pz_cokI is_154 rfl) ?_
              have hc8 : pz_R (pz_Sh L) 196 [.inr (.inl 154), .inl ((iv 155) (212 + 4 * s).toNat)] (pz_u1 (pz_u1 iv 154 (iv 154)) 155 (iv 155)) (.inl (some (.inl (pz_bi (q_sta (iv 155) ((iv 155) (212 + 4 * s).toNat)))))) (pz_u1 (pz_u1 iv 154 (iv 154)) 155 (iv 155)) := s_X11_hasStarted ((iv 155) (212 + 4 * s).toNat) (by show 0 ≤ ((iv 155) (212 + 4 * s).toNat) ∧ ((iv 155) (212 + 4 * s).toNat) ≤ 9; omega)
              refine w_call hc8 rfl (pz_cokI is_154 rfl) ?_
              refine w_beq (fun h9 => ?_) (fun h9 => ?_)
              · first
                | (exfalso; first | omega | contradiction)
                | (refine pz_G_of pz_b275_85 ?_
                   refine w_iinc (ls' := [some (.inr (.inl 154)), some (.inl m), some (.inl (s + 1))]) rfl rfl rfl (by omega) ?_
                   refine w_goto ?_
                   exact ih19 _ (by omega) (s + 1)  rfl (by omega) (by intro i g1 g2; by_cases hq : i = s; (rw [hq]; omega); exact hno i g1 (by omega)))
              · first
                | (exfalso; first | omega | contradiction)
                | (refine w_loc rfl ?_
                   refine w_loc rfl ?_
                   have hc10 : pz_R (pz_Sh L) 210 [.inr (.inl 154), .inl s] (pz_u1 (pz_u1 iv 154 (iv 154)) 155 (iv 155)) (.inl (some (.inl (pz_bi (q_sta (iv 155) ((iv 155) (212 + 4 * s + 1).toNat)))))) (pz_u1 (pz_u1 iv 154 (iv 154)) 155 (iv 155)) := s_X11_hasEnded s (by show q_KR (iv 155); exact hk) (by show 0 ≤ s ∧ s < (iv 155) 2; omega)
                   refine w_call hc10 rfl (pz_cokI is_154 rfl) ?_
                   refine w_bne (fun h11 => ?_) (fun h11 => ?_)
                   · first
                     | (exfalso; first | omega | contradiction)
                     | (refine pz_G_of pz_b275_85 ?_
                        refine w_iinc (ls' := [some (.inr (.inl 154)), some (.inl m), some (.inl (s + 1))]) rfl rfl rfl (by omega) ?_
                        refine w_goto ?_
                        exact ih19 _ (by omega) (s + 1)  rfl (by omega) (by intro i g1 g2; by_cases hq : i = s; (rw [hq]; omega); exact hno i g1 (by omega)))
                   · first
                     | (exfalso; first | omega | contradiction)
                     | (refine w_loc rfl ?_
                        refine w_getR (q := 155) is_154 rf_154_1 ?_
                        refine w_pure rfl ?_
                        refine w_iald (v := (iv 155) 4) is_155 ln_155 ⟨by omega, by omega⟩ rfl ?_
                        refine w_loc rfl ?_
                        refine w_iadd (by omega) ?_
                        refine w_loc rfl ?_
                        refine w_getR (q := 155) is_154 rf_154_1 ?_
                        refine w_pure rfl ?_
                        refine w_loc rfl ?_
                        refine w_loc rfl ?_
                        have hc12 : pz_R (pz_Sh L) 206 [.inr (.inl 154), .inl s] (pz_u1 (pz_u1 iv 154 (iv 154)) 155 (iv 155)) (.inl (some (.inl ((iv 155) (212 + 4 * s).toNat)))) (pz_u1 (pz_u1 iv 154 (iv 154)) 155 (iv 155)) := s_X11_first s (by show 0 ≤ s ∧ s ≤ 2; omega)
                        refine w_call hc12 rfl (pz_cokI is_154 rfl) ?_
                        refine w_iadd (by omega) ?_
                        refine w_iald (v := (iv 155) (6 + ((iv 155) (212 + 4 * s).toNat)).toNat) is_155 ln_155 ⟨by omega, by omega⟩ rfl ?_
                        refine w_isub (by omega) ?_
                        refine w_loc rfl ?_
                        refine w_loc rfl ?_
                        have hc13 : pz_R (pz_Sh L) 209 [.inr (.inl 154), .inl s] (pz_u1 (pz_u1 iv 154 (iv 154)) 155 (iv 155)) (.inl (some (.inl ((iv 155) (212 + 4 * s + 3).toNat)))) (pz_u1 (pz_u1 iv 154 (iv 154)) 155 (iv 155)) := s_X11_greatest s (by show 0 ≤ s ∧ s ≤ 2; omega)
                        refine w_call hc13 rfl (pz_cokI is_154 rfl) ?_
                        refine w_ile (fun h14 => ?_) (fun h14 => ?_)
                        · first
                          | (exfalso; first | omega | contradiction)
                          | (refine pz_G_of pz_b275_85 ?_
                             refine w_iinc (ls' := [some (.inr (.inl 154)), some (.inl m), some (.inl (s + 1))]) rfl rfl rfl (by omega) ?_
                             refine w_goto ?_
                             exact ih19 _ (by omega) (s + 1)  rfl (by omega) (by intro i g1 g2; by_cases hq : i = s; (rw [hq]; omega); exact hno i g1 (by omega)))
                        · first
                          | (exfalso; first | omega | contradiction)
                          | (refine w_loc rfl ?_
                             refine w_pure rfl ?_
                             have hc15 : pz_R (pz_Sh L) 191 [.inr (.inl 154), .inl 2] (pz_u1 (pz_u1 iv 154 (iv 154)) 155 (iv 155)) (.inl (some (.inl 0))) (pz_u1 (pz_u1 iv 154 (pz_up (iv 154) 0 2)) 155 (iv 155)) := pz_R_mem (s_X11_fails 2) (by rw [pz_u1_in (r := 154) (q := 155) (by decide)]; rw [pz_u1_top (r := 154)]; rfl)
                             refine w_call hc15 rfl (pz_cokI is_154 rfl) ?_
                             refine w_ret rfl ?_
                             first | first | exact lf_i (by first | rfl | omega) rfl | (exfalso; obtain ⟨i9, g1, g2, g3⟩ := hcase1; exact hno i9 g1 (by omega) g3) | (exfalso; exact hcase1 ⟨s, hs.1, by omega, by omega⟩) | (exfalso; omega)))))
       exact lp19 _ 0  rfl (by omega) (by intro i g1 g2; omega))
  · first
    | (exfalso; first | omega | contradiction)
    | (refine w_loc rfl ?_
       refine w_pure rfl ?_
       have hc16 : pz_R (pz_Sh L) 191 [.inr (.inl 154), .inl 1] (pz_u1 (pz_u1 iv 154 (iv 154)) 155 (iv 155)) (.inl (some (.inl 0))) (pz_u1 (pz_u1 iv 154 (pz_up (iv 154) 0 1)) 155 (iv 155)) := pz_R_mem (s_X11_fails 1) (by rw [pz_u1_in (r := 154) (q := 155) (by decide)]; rw [pz_u1_top (r := 154)]; rfl)
       refine w_call hc16 rfl (pz_cokI is_154 rfl) ?_
       refine w_ret rfl ?_
       first | first | exact lf_i (by first | rfl | omega) rfl | (exfalso; obtain ⟨i9, g1, g2, g3⟩ := hcase1; exact hno i9 g1 (by omega) g3) | (exfalso; exact hcase1 ⟨s, hs.1, by omega, by omega⟩) | (exfalso; omega))

theorem s_X11_pass_3 {L : Nat} {iv : Nat → Nat → Int} (m : Int) (hk : q_KR (iv 155)) (hcase0 : 1 ≤ m ∧ m ≤ 200) (hcase1 : ¬ (q_exi (q_ovr (iv 155) m) (iv 155 2))) (hcase2 : 600 < iv 155 4 + m) : pz_R (pz_Sh L) 275 [.inr (.inl 154), .inl m] iv (.inl (some (.inl 0))) (pz_u1 (pz_u1 iv 154 (pz_up (iv 154) 0 3)) 155 (iv 155)) := by
  intro dv cc ss
  have hk0 := hk.r0
  refine pz_G_mem (iv2 := pz_u1 (pz_u1 iv 154 (iv 154)) 155 (iv 155)) (by exact ((pz_u1_self iv 154).symm).trans (pz_u1_self (pz_u1 iv 154 (iv 154)) 155).symm) ?_
  show pz_G 275 0 [some (.inr (.inl 154)), some (.inl m), none] [] (pz_Sh L, pz_u1 (pz_u1 iv 154 (iv 154)) 155 (iv 155), dv, cc, ss) (pz_P (pz_Sh L) (.inl (some (.inl 0))) (pz_u1 (pz_u1 iv 154 (pz_up (iv 154) 0 3)) 155 (iv 155)) dv cc ss)
  refine pz_G_of pz_b275_0 ?_
  refine w_loc rfl ?_
  refine w_pure rfl ?_
  refine w_pure rfl ?_
  have hc1 : pz_R (pz_Sh L) 190 [.inl m, .inl 1, .inl 200] (pz_u1 (pz_u1 iv 154 (iv 154)) 155 (iv 155)) (.inl (some (.inl (pz_bi (1 ≤ m ∧ m ≤ 200))))) (pz_u1 (pz_u1 iv 154 (iv 154)) 155 (iv 155)) := s_X11_in m 1 200
  refine w_call hc1 rfl rfl ?_
  refine w_bne (fun h2 => ?_) (fun h2 => ?_)
  · first
    | (exfalso; first | omega | contradiction)
    | (refine pz_G_of pz_b275_17 ?_
       refine w_pure rfl ?_
       refine w_loc (ls' := [some (.inr (.inl 154)), some (.inl m), some (.inl 0)]) (st' := []) rfl ?_
       refine w_nil ?_
       have lp19 : ∀ (dd : Nat) (s : Int) , (iv 155 2 - s).toNat = dd → ∀ (hs : 0 ≤ s ∧ s ≤ iv 155 2), ∀ (hno : ∀ i : Int, 0 ≤ i → i < s → ¬ q_ovr (iv 155) m i),  pz_G 275 19 [some (.inr (.inl 154)), some (.inl m), some (.inl s)] [] (pz_Sh L, pz_u1 (pz_u1 iv 154 (iv 154)) 155 (iv 155), dv, cc, ss) (pz_P (pz_Sh L) (.inl (some (.inl 0))) (pz_u1 (pz_u1 iv 154 (pz_up (iv 154) 0 3)) 155 (iv 155)) dv cc ss) := by
         intro dd19
         induction dd19 using Nat.strongRecOn with
         | _ dd19 ih19 =>
         intro s  hd19 hs hno
         have hsp := fun h => hk.sp hs.1 h
         have hs6 := fun h1 h2 => hk.st (e := iv 155 (212 + 4 * s).toNat) h1 h2
         refine pz_G_of pz_b275_19 ?_
         refine w_loc rfl ?_
         refine w_loc rfl ?_
         refine w_getR (q := 155) is_154 rf_154_1 ?_
         refine w_pure rfl ?_
         refine w_iald (v := (iv 155) 2) is_155 ln_155 ⟨by omega, by omega⟩ rfl ?_
         refine w_ige (fun h3 => ?_) (fun h3 => ?_)
         · first
           | (exfalso; first | omega | contradiction)
           | (refine pz_G_of pz_b275_91 ?_
              refine w_loc rfl ?_
              refine w_getR (q := 155) is_154 rf_154_1 ?_
              refine w_pure rfl ?_
              refine w_iald (v := (iv 155) 4) is_155 ln_155 ⟨by omega, by omega⟩ rfl ?_
              refine w_loc rfl ?_
              refine w_iadd (by omega) ?_
              refine w_pure rfl ?_
              refine w_ile (fun h4 => ?_) (fun h4 => ?_)
              · first
                | (exfalso; first | omega | contradiction)
                | (refine pz_G_of pz_b275_111 ?_
                   refine w_loc rfl ?_
                   refine w_getR (q := 155) is_154 rf_154_1 ?_
                   refine w_pure rfl ?_
                   refine w_pure rfl ?_
                   refine w_iald (v := (iv 155) 4) is_155 ln_155 ⟨by omega, by omega⟩ rfl ?_
                   refine w_loc rfl ?_
                   refine w_iadd (by omega) ?_
                   refine w_iastm (iv2 := pz_u1 (pz_u1 iv 154 (iv 154)) 155 (pz_up (iv 155) 4 (((iv 155) 4) + m))) is_155 ln_155 ⟨by omega, by omega⟩ (by exact pz_u2_top _ _ _ _ _) ?_
                   refine w_loc rfl ?_
                   refine w_loc rfl ?_
                   refine w_getR (q := 155) is_154 rf_154_1 ?_
                   refine w_pure rfl ?_
                   refine w_iald (v := ((iv 155) 4) + m) is_155 ln_155 ⟨by omega, by omega⟩ rfl ?_
                   have hc5 : pz_R (pz_Sh L) 192 [.inr (.inl 154), .inl (((iv 155) 4) + m)] (pz_u1 (pz_u1 iv 154 (iv 154)) 155 (pz_up (iv 155) 4 (((iv 155) 4) + m))) (.inl (some (.inl (((iv 155) 4) + m)))) (pz_u1 (pz_u1 iv 154 (pz_up (iv 154) 0 0)) 155 (pz_up (iv 155) 4 (((iv 155) 4) + m))) := pz_R_mem (s_X11_tells (((iv 155) 4) + m)) (by rw [pz_u1_in (r := 154) (q := 155) (by decide)]; rw [pz_u1_top (r := 154)]; rfl)
                   refine w_call hc5 rfl (pz_cokI is_154 rfl) ?_
                   refine w_ret rfl ?_
                   first | first | exact lf_i (by first | rfl | omega) rfl | (exfalso; obtain ⟨i9, g1, g2, g3⟩ := hcase1; exact hno i9 g1 (by omega) g3) | (exfalso; exact hcase1 ⟨s, hs.1, by omega, by omega⟩) | (exfalso; omega))
              · first
                | (exfalso; first | omega | contradiction)
                | (refine w_loc rfl ?_
                   refine w_pure rfl ?_
                   have hc6 : pz_R (pz_Sh L) 191 [.inr (.inl 154), .inl 3] (pz_u1 (pz_u1 iv 154 (iv 154)) 155 (iv 155)) (.inl (some (.inl 0))) (pz_u1 (pz_u1 iv 154 (pz_up (iv 154) 0 3)) 155 (iv 155)) := pz_R_mem (s_X11_fails 3) (by rw [pz_u1_in (r := 154) (q := 155) (by decide)]; rw [pz_u1_top (r := 154)]; rfl)
                   refine w_call hc6 rfl (pz_cokI is_154 rfl) ?_
                   refine w_ret rfl ?_
                   first | first | exact lf_i (by first | rfl | omega) rfl | (exfalso; obtain ⟨i9, g1, g2, g3⟩ := hcase1; exact hno i9 g1 (by omega) g3) | (exfalso; exact hcase1 ⟨s, hs.1, by omega, by omega⟩) | (exfalso; omega)))
         · first
           | (exfalso; first | omega | contradiction)
           | (refine w_loc rfl ?_
              refine w_loc rfl ?_
              refine w_loc rfl ?_
              have hc7 : pz_R (pz_Sh L) 206 [.inr (.inl 154), .inl s] (pz_u1 (pz_u1 iv 154 (iv 154)) 155 (iv 155)) (.inl (some (.inl ((iv 155) (212 + 4 * s).toNat)))) (pz_u1 (pz_u1 iv 154 (iv 154)) 155 (iv 155)) := s_X11_first s (by show 0 ≤ s ∧ s ≤ 2; omega)
              refine w_call hc7 rfl (pz_cokI is_154 rfl) ?_
              have hc8 : pz_R (pz_Sh L) 196 [.inr (.inl 154), .inl ((iv 155) (212 + 4 * s).toNat)] (pz_u1 (pz_u1 iv 154 (iv 154)) 155 (iv 155)) (.inl (some (.inl (pz_bi (q_sta (iv 155) ((iv 155) (212 + 4 * s).toNat)))))) (pz_u1 (pz_u1 iv 154 (iv 154)) 155 (iv 155)) := s_X11_hasStarted ((iv 155) (212 + 4 * s).toNat) (by show 0 ≤ ((iv 155) (212 + 4 * s).toNat) ∧ ((iv 155) (212 + 4 * s).toNat) ≤ 9; omega)
              refine w_call hc8 rfl (pz_cokI is_154 rfl) ?_
              refine w_beq (fun h9 => ?_) (fun h9 => ?_)
              · first
                | (exfalso; first | omega | contradiction)
                | (refine pz_G_of pz_b275_85 ?_
                   refine w_iinc (ls' := [some (.inr (.inl 154)), some (.inl m), some (.inl (s + 1))]) rfl rfl rfl (by omega) ?_
                   refine w_goto ?_
                   exact ih19 _ (by omega) (s + 1)  rfl (by omega) (by intro i g1 g2; by_cases hq : i = s; (rw [hq]; omega); exact hno i g1 (by omega)))
              · first
                | (exfalso; first | omega | contradiction)
                | (refine w_loc rfl ?_
                   refine w_loc rfl ?_
                   have hc10 : pz_R (pz_Sh L) 210 [.inr (.inl 154), .inl s] (pz_u1 (pz_u1 iv 154 (iv 154)) 155 (iv 155)) (.inl (some (.inl (pz_bi (q_sta (iv 155) ((iv 155) (212 + 4 * s + 1).toNat)))))) (pz_u1 (pz_u1 iv 154 (iv 154)) 155 (iv 155)) := s_X11_hasEnded s (by show q_KR (iv 155); exact hk) (by show 0 ≤ s ∧ s < (iv 155) 2; omega)
                   refine w_call hc10 rfl (pz_cokI is_154 rfl) ?_
                   refine w_bne (fun h11 => ?_) (fun h11 => ?_)
                   · first
                     | (exfalso; first | omega | contradiction)
                     | (refine pz_G_of pz_b275_85 ?_
                        refine w_iinc (ls' := [some (.inr (.inl 154)), some (.inl m), some (.inl (s + 1))]) rfl rfl rfl (by omega) ?_
                        refine w_goto ?_
                        exact ih19 _ (by omega) (s + 1)  rfl (by omega) (by intro i g1 g2; by_cases hq : i = s; (rw [hq]; omega); exact hno i g1 (by omega)))
                   · first
                     | (exfalso; first | omega | contradiction)
                     | (refine w_loc rfl ?_
                        refine w_getR (q := 155) is_154 rf_154_1 ?_
                        refine w_pure rfl ?_
                        refine w_iald (v := (iv 155) 4) is_155 ln_155 ⟨by omega, by omega⟩ rfl ?_
                        refine w_loc rfl ?_
                        refine w_iadd (by omega) ?_
                        refine w_loc rfl ?_
                        refine w_getR (q := 155) is_154 rf_154_1 ?_
                        refine w_pure rfl ?_
                        refine w_loc rfl ?_
                        refine w_loc rfl ?_
                        have hc12 : pz_R (pz_Sh L) 206 [.inr (.inl 154), .inl s] (pz_u1 (pz_u1 iv 154 (iv 154)) 155 (iv 155)) (.inl (some (.inl ((iv 155) (212 + 4 * s).toNat)))) (pz_u1 (pz_u1 iv 154 (iv 154)) 155 (iv 155)) := s_X11_first s (by show 0 ≤ s ∧ s ≤ 2; omega)
                        refine w_call hc12 rfl (pz_cokI is_154 rfl) ?_
                        refine w_iadd (by omega) ?_
                        refine w_iald (v := (iv 155) (6 + ((iv 155) (212 + 4 * s).toNat)).toNat) is_155 ln_155 ⟨by omega, by omega⟩ rfl ?_
                        refine w_isub (by omega) ?_
                        refine w_loc rfl ?_
                        refine w_loc rfl ?_
                        have hc13 : pz_R (pz_Sh L) 209 [.inr (.inl 154), .inl s] (pz_u1 (pz_u1 iv 154 (iv 154)) 155 (iv 155)) (.inl (some (.inl ((iv 155) (212 + 4 * s + 3).toNat)))) (pz_u1 (pz_u1 iv 154 (iv 154)) 155 (iv 155)) := s_X11_greatest s (by show 0 ≤ s ∧ s ≤ 2; omega)
                        refine w_call hc13 rfl (pz_cokI is_154 rfl) ?_
                        refine w_ile (fun h14 => ?_) (fun h14 => ?_)
                        · first
                          | (exfalso; first | omega | contradiction)
                          | (refine pz_G_of pz_b275_85 ?_
                             refine w_iinc (ls' := [some (.inr (.inl 154)), some (.inl m), some (.inl (s + 1))]) rfl rfl rfl (by omega) ?_
                             refine w_goto ?_
                             exact ih19 _ (by omega) (s + 1)  rfl (by omega) (by intro i g1 g2; by_cases hq : i = s; (rw [hq]; omega); exact hno i g1 (by omega)))
                        · first
                          | (exfalso; first | omega | contradiction)
                          | (refine w_loc rfl ?_
                             refine w_pure rfl ?_
                             have hc15 : pz_R (pz_Sh L) 191 [.inr (.inl 154), .inl 2] (pz_u1 (pz_u1 iv 154 (iv 154)) 155 (iv 155)) (.inl (some (.inl 0))) (pz_u1 (pz_u1 iv 154 (pz_up (iv 154) 0 2)) 155 (iv 155)) := pz_R_mem (s_X11_fails 2) (by rw [pz_u1_in (r := 154) (q := 155) (by decide)]; rw [pz_u1_top (r := 154)]; rfl)
                             refine w_call hc15 rfl (pz_cokI is_154 rfl) ?_
                             refine w_ret rfl ?_
                             first | first | exact lf_i (by first | rfl | omega) rfl | (exfalso; obtain ⟨i9, g1, g2, g3⟩ := hcase1; exact hno i9 g1 (by omega) g3) | (exfalso; exact hcase1 ⟨s, hs.1, by omega, by omega⟩) | (exfalso; omega)))))
       exact lp19 _ 0  rfl (by omega) (by intro i g1 g2; omega))
  · first
    | (exfalso; first | omega | contradiction)
    | (refine w_loc rfl ?_
       refine w_pure rfl ?_
       have hc16 : pz_R (pz_Sh L) 191 [.inr (.inl 154), .inl 1] (pz_u1 (pz_u1 iv 154 (iv 154)) 155 (iv 155)) (.inl (some (.inl 0))) (pz_u1 (pz_u1 iv 154 (pz_up (iv 154) 0 1)) 155 (iv 155)) := pz_R_mem (s_X11_fails 1) (by rw [pz_u1_in (r := 154) (q := 155) (by decide)]; rw [pz_u1_top (r := 154)]; rfl)
       refine w_call hc16 rfl (pz_cokI is_154 rfl) ?_
       refine w_ret rfl ?_
       first | first | exact lf_i (by first | rfl | omega) rfl | (exfalso; obtain ⟨i9, g1, g2, g3⟩ := hcase1; exact hno i9 g1 (by omega) g3) | (exfalso; exact hcase1 ⟨s, hs.1, by omega, by omega⟩) | (exfalso; omega))

theorem s_X11_pass_0 {L : Nat} {iv : Nat → Nat → Int} (m : Int) (hk : q_KR (iv 155)) (hcase0 : 1 ≤ m ∧ m ≤ 200) (hcase1 : ¬ (q_exi (q_ovr (iv 155) m) (iv 155 2))) (hcase2 : iv 155 4 + m ≤ 600) : pz_R (pz_Sh L) 275 [.inr (.inl 154), .inl m] iv (.inl (some (.inl ((iv 155) 4 + m)))) (pz_u1 (pz_u1 iv 154 (pz_up (iv 154) 0 0)) 155 (pz_up (iv 155) 4 ((iv 155) 4 + m))) := by
  intro dv cc ss
  have hk0 := hk.r0
  refine pz_G_mem (iv2 := pz_u1 (pz_u1 iv 154 (iv 154)) 155 (iv 155)) (by exact ((pz_u1_self iv 154).symm).trans (pz_u1_self (pz_u1 iv 154 (iv 154)) 155).symm) ?_
  show pz_G 275 0 [some (.inr (.inl 154)), some (.inl m), none] [] (pz_Sh L, pz_u1 (pz_u1 iv 154 (iv 154)) 155 (iv 155), dv, cc, ss) (pz_P (pz_Sh L) (.inl (some (.inl ((iv 155) 4 + m)))) (pz_u1 (pz_u1 iv 154 (pz_up (iv 154) 0 0)) 155 (pz_up (iv 155) 4 ((iv 155) 4 + m))) dv cc ss)
  refine pz_G_of pz_b275_0 ?_
  refine w_loc rfl ?_
  refine w_pure rfl ?_
  refine w_pure rfl ?_
  have hc1 : pz_R (pz_Sh L) 190 [.inl m, .inl 1, .inl 200] (pz_u1 (pz_u1 iv 154 (iv 154)) 155 (iv 155)) (.inl (some (.inl (pz_bi (1 ≤ m ∧ m ≤ 200))))) (pz_u1 (pz_u1 iv 154 (iv 154)) 155 (iv 155)) := s_X11_in m 1 200
  refine w_call hc1 rfl rfl ?_
  refine w_bne (fun h2 => ?_) (fun h2 => ?_)
  · first
    | (exfalso; first | omega | contradiction)
    | (refine pz_G_of pz_b275_17 ?_
       refine w_pure rfl ?_
       refine w_loc (ls' := [some (.inr (.inl 154)), some (.inl m), some (.inl 0)]) (st' := []) rfl ?_
       refine w_nil ?_
       have lp19 : ∀ (dd : Nat) (s : Int) , (iv 155 2 - s).toNat = dd → ∀ (hs : 0 ≤ s ∧ s ≤ iv 155 2), ∀ (hno : ∀ i : Int, 0 ≤ i → i < s → ¬ q_ovr (iv 155) m i),  pz_G 275 19 [some (.inr (.inl 154)), some (.inl m), some (.inl s)] [] (pz_Sh L, pz_u1 (pz_u1 iv 154 (iv 154)) 155 (iv 155), dv, cc, ss) (pz_P (pz_Sh L) (.inl (some (.inl ((iv 155) 4 + m)))) (pz_u1 (pz_u1 iv 154 (pz_up (iv 154) 0 0)) 155 (pz_up (iv 155) 4 ((iv 155) 4 + m))) dv cc ss) := by
         intro dd19
         induction dd19 using Nat.strongRecOn with
         | _ dd19 ih19 =>
         intro s  hd19 hs hno
         have hsp := fun h => hk.sp hs.1 h
         have hs6 := fun h1 h2 => hk.st (e := iv 155 (212 + 4 * s).toNat) h1 h2
         refine pz_G_of pz_b275_19 ?_
         refine w_loc rfl ?_
         refine w_loc rfl ?_
         refine w_getR (q := 155) is_154 rf_154_1 ?_
         refine w_pure rfl ?_
         refine w_iald (v := (iv 155) 2) is_155 ln_155 ⟨by omega, by omega⟩ rfl ?_
         refine w_ige (fun h3 => ?_) (fun h3 => ?_)
         · first
           | (exfalso; first | omega | contradiction)
           | (refine pz_G_of pz_b275_91 ?_
              refine w_loc rfl ?_
              refine w_getR (q := 155) is_154 rf_154_1 ?_
              refine w_pure rfl ?_
              refine w_iald (v := (iv 155) 4) is_155 ln_155 ⟨by omega, by omega⟩ rfl ?_
              refine w_loc rfl ?_
              refine w_iadd (by omega) ?_
              refine w_pure rfl ?_
              refine w_ile (fun h4 => ?_) (fun h4 => ?_)
              · first
                | (exfalso; first | omega | contradiction)
                | (refine pz_G_of pz_b275_111 ?_
                   refine w_loc rfl ?_
                   refine w_getR (q := 155) is_154 rf_154_1 ?_
                   refine w_pure rfl ?_
                   refine w_pure rfl ?_
                   refine w_iald (v := (iv 155) 4) is_155 ln_155 ⟨by omega, by omega⟩ rfl ?_
                   refine w_loc rfl ?_
                   refine w_iadd (by omega) ?_
                   refine w_iastm (iv2 := pz_u1 (pz_u1 iv 154 (iv 154)) 155 (pz_up (iv 155) 4 (((iv 155) 4) + m))) is_155 ln_155 ⟨by omega, by omega⟩ (by exact pz_u2_top _ _ _ _ _) ?_
                   refine w_loc rfl ?_
                   refine w_loc rfl ?_
                   refine w_getR (q := 155) is_154 rf_154_1 ?_
                   refine w_pure rfl ?_
                   refine w_iald (v := ((iv 155) 4) + m) is_155 ln_155 ⟨by omega, by omega⟩ rfl ?_
                   have hc5 : pz_R (pz_Sh L) 192 [.inr (.inl 154), .inl (((iv 155) 4) + m)] (pz_u1 (pz_u1 iv 154 (iv 154)) 155 (pz_up (iv 155) 4 (((iv 155) 4) + m))) (.inl (some (.inl (((iv 155) 4) + m)))) (pz_u1 (pz_u1 iv 154 (pz_up (iv 154) 0 0)) 155 (pz_up (iv 155) 4 (((iv 155) 4) + m))) := pz_R_mem (s_X11_tells (((iv 155) 4) + m)) (by rw [pz_u1_in (r := 154) (q := 155) (by decide)]; rw [pz_u1_top (r := 154)]; rfl)
                   refine w_call hc5 rfl (pz_cokI is_154 rfl) ?_
                   refine w_ret rfl ?_
                   first | first | exact lf_i (by first | rfl | omega) rfl | (exfalso; obtain ⟨i9, g1, g2, g3⟩ := hcase1; exact hno i9 g1 (by omega) g3) | (exfalso; exact hcase1 ⟨s, hs.1, by omega, by omega⟩) | (exfalso; omega))
              · first
                | (exfalso; first | omega | contradiction)
                | (refine w_loc rfl ?_
                   refine w_pure rfl ?_
                   have hc6 : pz_R (pz_Sh L) 191 [.inr (.inl 154), .inl 3] (pz_u1 (pz_u1 iv 154 (iv 154)) 155 (iv 155)) (.inl (some (.inl 0))) (pz_u1 (pz_u1 iv 154 (pz_up (iv 154) 0 3)) 155 (iv 155)) := pz_R_mem (s_X11_fails 3) (by rw [pz_u1_in (r := 154) (q := 155) (by decide)]; rw [pz_u1_top (r := 154)]; rfl)
                   refine w_call hc6 rfl (pz_cokI is_154 rfl) ?_
                   refine w_ret rfl ?_
                   first | first | exact lf_i (by first | rfl | omega) rfl | (exfalso; obtain ⟨i9, g1, g2, g3⟩ := hcase1; exact hno i9 g1 (by omega) g3) | (exfalso; exact hcase1 ⟨s, hs.1, by omega, by omega⟩) | (exfalso; omega)))
         · first
           | (exfalso; first | omega | contradiction)
           | (refine w_loc rfl ?_
              refine w_loc rfl ?_
              refine w_loc rfl ?_
              have hc7 : pz_R (pz_Sh L) 206 [.inr (.inl 154), .inl s] (pz_u1 (pz_u1 iv 154 (iv 154)) 155 (iv 155)) (.inl (some (.inl ((iv 155) (212 + 4 * s).toNat)))) (pz_u1 (pz_u1 iv 154 (iv 154)) 155 (iv 155)) := s_X11_first s (by show 0 ≤ s ∧ s ≤ 2; omega)
              refine w_call hc7 rfl (pz_cokI is_154 rfl) ?_
              have hc8 : pz_R (pz_Sh L) 196 [.inr (.inl 154), .inl ((iv 155) (212 + 4 * s).toNat)] (pz_u1 (pz_u1 iv 154 (iv 154)) 155 (iv 155)) (.inl (some (.inl (pz_bi (q_sta (iv 155) ((iv 155) (212 + 4 * s).toNat)))))) (pz_u1 (pz_u1 iv 154 (iv 154)) 155 (iv 155)) := s_X11_hasStarted ((iv 155) (212 + 4 * s).toNat) (by show 0 ≤ ((iv 155) (212 + 4 * s).toNat) ∧ ((iv 155) (212 + 4 * s).toNat) ≤ 9; omega)
              refine w_call hc8 rfl (pz_cokI is_154 rfl) ?_
              refine w_beq (fun h9 => ?_) (fun h9 => ?_)
              · first
                | (exfalso; first | omega | contradiction)
                | (refine pz_G_of pz_b275_85 ?_
                   refine w_iinc (ls' := [some (.inr (.inl 154)), some (.inl m), some (.inl (s + 1))]) rfl rfl rfl (by omega) ?_
                   refine w_goto ?_
                   exact ih19 _ (by omega) (s + 1)  rfl (by omega) (by intro i g1 g2; by_cases hq : i = s; (rw [hq]; omega); exact hno i g1 (by omega)))
              · first
                | (exfalso; first | omega | contradiction)
                | (refine w_loc rfl ?_
                   refine w_loc rfl ?_
                   have hc10 : pz_R (pz_Sh L) 210 [.inr (.inl 154), .inl s] (pz_u1 (pz_u1 iv 154 (iv 154)) 155 (iv 155)) (.inl (some (.inl (pz_bi (q_sta (iv 155) ((iv 155) (212 + 4 * s + 1).toNat)))))) (pz_u1 (pz_u1 iv 154 (iv 154)) 155 (iv 155)) := s_X11_hasEnded s (by show q_KR (iv 155); exact hk) (by show 0 ≤ s ∧ s < (iv 155) 2; omega)
                   refine w_call hc10 rfl (pz_cokI is_154 rfl) ?_
                   refine w_bne (fun h11 => ?_) (fun h11 => ?_)
                   · first
                     | (exfalso; first | omega | contradiction)
                     | (refine pz_G_of pz_b275_85 ?_
                        refine w_iinc (ls' := [some (.inr (.inl 154)), some (.inl m), some (.inl (s + 1))]) rfl rfl rfl (by omega) ?_
                        refine w_goto ?_
                        exact ih19 _ (by omega) (s + 1)  rfl (by omega) (by intro i g1 g2; by_cases hq : i = s; (rw [hq]; omega); exact hno i g1 (by omega)))
                   · first
                     | (exfalso; first | omega | contradiction)
                     | (refine w_loc rfl ?_
                        refine w_getR (q := 155) is_154 rf_154_1 ?_
                        refine w_pure rfl ?_
                        refine w_iald (v := (iv 155) 4) is_155 ln_155 ⟨by omega, by omega⟩ rfl ?_
                        refine w_loc rfl ?_
                        refine w_iadd (by omega) ?_
                        refine w_loc rfl ?_
                        refine w_getR (q := 155) is_154 rf_154_1 ?_
                        refine w_pure rfl ?_
                        refine w_loc rfl ?_
                        refine w_loc rfl ?_
                        have hc12 : pz_R (pz_Sh L) 206 [.inr (.inl 154), .inl s] (pz_u1 (pz_u1 iv 154 (iv 154)) 155 (iv 155)) (.inl (some (.inl ((iv 155) (212 + 4 * s).toNat)))) (pz_u1 (pz_u1 iv 154 (iv 154)) 155 (iv 155)) := s_X11_first s (by show 0 ≤ s ∧ s ≤ 2; omega)
                        refine w_call hc12 rfl (pz_cokI is_154 rfl) ?_
                        refine w_iadd (by omega) ?_
                        refine w_iald (v := (iv 155) (6 + ((iv 155) (212 + 4 * s).toNat)).toNat) is_155 ln_155 ⟨by omega, by omega⟩ rfl ?_
                        refine w_isub (by omega) ?_
                        refine w_loc rfl ?_
                        refine w_loc rfl ?_
                        have hc13 : pz_R (pz_Sh L) 209 [.inr (.inl 154), .inl s] (pz_u1 (pz_u1 iv 154 (iv 154)) 155 (iv 155)) (.inl (some (.inl ((iv 155) (212 + 4 * s + 3).toNat)))) (pz_u1 (pz_u1 iv 154 (iv 154)) 155 (iv 155)) := s_X11_greatest s (by show 0 ≤ s ∧ s ≤ 2; omega)
                        refine w_call hc13 rfl (pz_cokI is_154 rfl) ?_
                        refine w_ile (fun h14 => ?_) (fun h14 => ?_)
                        · first
                          | (exfalso; first | omega | contradiction)
                          | (refine pz_G_of pz_b275_85 ?_
                             refine w_iinc (ls' := [some (.inr (.inl 154)), some (.inl m), some (.inl (s + 1))]) rfl rfl rfl (by omega) ?_
                             refine w_goto ?_
                             exact ih19 _ (by omega) (s + 1)  rfl (by omega) (by intro i g1 g2; by_cases hq : i = s; (rw [hq]; omega); exact hno i g1 (by omega)))
                        · first
                          | (exfalso; first | omega | contradiction)
                          | (refine w_loc rfl ?_
                             refine w_pure rfl ?_
                             have hc15 : pz_R (pz_Sh L) 191 [.inr (.inl 154), .inl 2] (pz_u1 (pz_u1 iv 154 (iv 154)) 155 (iv 155)) (.inl (some (.inl 0))) (pz_u1 (pz_u1 iv 154 (pz_up (iv 154) 0 2)) 155 (iv 155)) := pz_R_mem (s_X11_fails 2) (by rw [pz_u1_in (r := 154) (q := 155) (by decide)]; rw [pz_u1_top (r := 154)]; rfl)
                             refine w_call hc15 rfl (pz_cokI is_154 rfl) ?_
                             refine w_ret rfl ?_
                             first | first | exact lf_i (by first | rfl | omega) rfl | (exfalso; obtain ⟨i9, g1, g2, g3⟩ := hcase1; exact hno i9 g1 (by omega) g3) | (exfalso; exact hcase1 ⟨s, hs.1, by omega, by omega⟩) | (exfalso; omega)))))
       exact lp19 _ 0  rfl (by omega) (by intro i g1 g2; omega))
  · first
    | (exfalso; first | omega | contradiction)
    | (refine w_loc rfl ?_
       refine w_pure rfl ?_
       have hc16 : pz_R (pz_Sh L) 191 [.inr (.inl 154), .inl 1] (pz_u1 (pz_u1 iv 154 (iv 154)) 155 (iv 155)) (.inl (some (.inl 0))) (pz_u1 (pz_u1 iv 154 (pz_up (iv 154) 0 1)) 155 (iv 155)) := pz_R_mem (s_X11_fails 1) (by rw [pz_u1_in (r := 154) (q := 155) (by decide)]; rw [pz_u1_top (r := 154)]; rfl)
       refine w_call hc16 rfl (pz_cokI is_154 rfl) ?_
       refine w_ret rfl ?_
       first | first | exact lf_i (by first | rfl | omega) rfl | (exfalso; obtain ⟨i9, g1, g2, g3⟩ := hcase1; exact hno i9 g1 (by omega) g3) | (exfalso; exact hcase1 ⟨s, hs.1, by omega, by omega⟩) | (exfalso; omega))
