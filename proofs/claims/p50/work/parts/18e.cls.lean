
theorem s_X0_bestOrder {L : Nat} {iv : Nat → Nat → Int} {k : Nat → Int} {d : Nat → Int} (hk : q_KR k) (hA : q_cA k (iv 17) (iv 18) (iv 19) (iv 20)) (hN : q_nD k (iv 140) d) (hD : q_dR d) : pz_R (pz_Sh L) 13 [.inr (.inl 17), .inr (.inl 138)] iv (.inl (some (.inl (q_if (q_pk k d = -1) (-1) (q_lv k d))))) iv := by
  intro dv cc ss
  have hk0 := hk.r0
  have hA0 := hA.1
  have hst := q_st_r (k := k) (d := d) (m := q_pk k d) (n := k 3) (by omega) (by omega)
  have hp9 := q_p2_le (a := k 3) (b := 5) (by omega) (by omega)
  have hp8 : q_p2 5 = 32 := rfl
  show pz_G 13 0 [some (.inr (.inl 17)), some (.inr (.inl 138)), none, none, none, none, none, none, none] [] (pz_Sh L, iv, dv, cc, ss) (pz_P (pz_Sh L) (.inl (some (.inl (q_if (q_pk k d = -1) (-1) (q_lv k d))))) iv dv cc ss)
  refine pz_G_of pz_b13_0 ?_
  refine w_loc rfl ?_
  refine w_loc rfl ?_
  have hc1 : pz_R (pz_Sh L) 11 [.inr (.inl 17), .inr (.inl 138)] (iv) (.inl (some (.inl (q_pk k d)))) (iv) := s_X0_firstPeak (by exact hk) (by exact hA) (by exact hN) (by exact hD)
  refine w_call hc1 rfl (pz_cokI is_17 rfl) ?_
  refine w_loc (ls' := [some (.inr (.inl 17)), some (.inr (.inl 138)), some (.inl (q_pk k d)), none, none, none, none, none, none]) (st' := []) rfl ?_
  refine w_loc rfl ?_
  refine w_pure rfl ?_
  refine w_ine (fun h2 => ?_) (fun h2 => ?_)
  · refine pz_G_of pz_b13_13 ?_
    refine w_loc rfl ?_
    refine w_loc rfl ?_
    refine w_loc rfl ?_
    have hc3 : pz_R (pz_Sh L) 10 [.inr (.inl 17), .inl (q_pk k d), .inr (.inl 138)] (iv) (.inl (some (.inl (q_st k d (q_pk k d) (k 3))))) (iv) := s_X0_setAt (q_pk k d) (by exact hk) (by exact hA) (by exact hN) (by exact hD)
    refine w_call hc3 rfl (pz_cokI is_17 rfl) ?_
    refine w_loc (ls' := [some (.inr (.inl 17)), some (.inr (.inl 138)), some (.inl (q_pk k d)), some (.inl (q_st k d (q_pk k d) (k 3))), none, none, none, none, none]) (st' := []) rfl ?_
    refine w_pure rfl ?_
    refine w_loc (ls' := [some (.inr (.inl 17)), some (.inr (.inl 138)), some (.inl (q_pk k d)), some (.inl (q_st k d (q_pk k d) (k 3))), some (.inl (-1)), none, none, none, none]) (st' := []) rfl ?_
    refine w_pure rfl ?_
    refine w_loc (ls' := [some (.inr (.inl 17)), some (.inr (.inl 138)), some (.inl (q_pk k d)), some (.inl (q_st k d (q_pk k d) (k 3))), some (.inl (-1)), some (.inl (-1)), none, none, none]) (st' := []) rfl ?_
    refine w_pure rfl ?_
    refine w_loc (ls' := [some (.inr (.inl 17)), some (.inr (.inl 138)), some (.inl (q_pk k d)), some (.inl (q_st k d (q_pk k d) (k 3))), some (.inl (-1)), some (.inl (-1)), some (.inl 0), none, none]) (st' := []) rfl ?_
    refine w_nil ?_
    have lp29 : ∀ (dd : Nat) (be : Int) (mo : Int) (x : Int) (u29_2 : Option pz_V) (hu29_2 : pz_nc u29_2 = true) (u29_7 : Option pz_V) (hu29_7 : pz_nc u29_7 = true) (u29_8 : Option pz_V) (hu29_8 : pz_nc u29_8 = true), (k 3 - x).toNat = dd → ∀ (hx : 0 ≤ x ∧ x ≤ k 3), ∀ (hs : (mo, be) = q_lvF k d (q_st k d (q_pk k d) (k 3)) x), ∀ (hbe : -1 ≤ be ∧ be ≤ 24), ∀ (hmo : -1 ≤ mo),  pz_G 13 29 [some (.inr (.inl 17)), some (.inr (.inl 138)), u29_2, some (.inl (q_st k d (q_pk k d) (k 3))), some (.inl be), some (.inl mo), some (.inl x), u29_7, u29_8] [] (pz_Sh L, iv, dv, cc, ss) (pz_P (pz_Sh L) (.inl (some (.inl (q_if (q_pk k d = -1) (-1) (q_lv k d))))) iv dv cc ss) := by
      intro dd29
      induction dd29 using Nat.strongRecOn with
      | _ dd29 ih29 =>
      intro be mo x u29_2 hu29_2 u29_7 hu29_7 u29_8 hu29_8 hd29 hx hs hbe hmo
      refine pz_G_of pz_b13_29 ?_
      refine w_loc rfl ?_
      refine w_loc rfl ?_
      refine w_getI (v := (iv 17) 0) is_17 (by decide) rfl ?_
      refine w_ige (fun h4 => ?_) (fun h4 => ?_)
      · refine pz_G_of pz_b13_128 ?_
        refine w_loc rfl ?_
        refine w_ret rfl ?_
        first | exact lf_i (q_if_t (by omega)).symm rfl | exact lf_i (by rw [q_if_f (by assumption)]; have h9 := congrArg Prod.snd hs; rw [show x = k 3 by omega] at h9; exact h9) rfl
      · refine w_pure rfl ?_
        refine w_loc (ls' := [some (.inr (.inl 17)), some (.inr (.inl 138)), u29_2, some (.inl (q_st k d (q_pk k d) (k 3))), some (.inl be), some (.inl mo), some (.inl x), some (.inl 0), u29_8]) (st' := []) rfl ?_
        refine w_nil ?_
        have lp41 : ∀ (dd : Nat) (be2 : Int) (mo2 : Int) (y : Int) (u41_2 : Option pz_V) (hu41_2 : pz_nc u41_2 = true) (u41_8 : Option pz_V) (hu41_8 : pz_nc u41_8 = true), (k 3 - y).toNat = dd → ∀ (hy : 0 ≤ y ∧ y ≤ k 3), ∀ (hs2 : (mo2, be2) = q_fr (q_lvS k d (q_st k d (q_pk k d) (k 3)) x) 0 y (mo, be)), ∀ (hbe2 : -1 ≤ be2 ∧ be2 ≤ 24), ∀ (hmo2 : -1 ≤ mo2),  pz_G 13 41 [some (.inr (.inl 17)), some (.inr (.inl 138)), u41_2, some (.inl (q_st k d (q_pk k d) (k 3))), some (.inl be2), some (.inl mo2), some (.inl x), some (.inl y), u41_8] [] (pz_Sh L, iv, dv, cc, ss) (pz_P (pz_Sh L) (.inl (some (.inl (q_if (q_pk k d = -1) (-1) (q_lv k d))))) iv dv cc ss) := by
          intro dd41
          induction dd41 using Nat.strongRecOn with
          | _ dd41 ih41 =>
          intro be2 mo2 y u41_2 hu41_2 u41_8 hu41_8 hd41 hy hs2 hbe2 hmo2
          have hbx := q_bit (x := (q_st k d (q_pk k d) (k 3))) (i := x) (by omega) (by omega) hx.1 (by omega)
          have hby := fun h => q_bit (x := (q_st k d (q_pk k d) (k 3))) (i := y) (by omega) (by omega) hy.1 h
          have hsl : (0 ≤ q_sl k d x y ↔ 0 ≤ d (10 * k (224 + 3 * x + 1).toNat + k (224 + 3 * y).toNat).toNat) := by
            unfold q_sl; split <;> omega
          refine pz_G_of pz_b13_41 ?_
          refine w_loc rfl ?_
          refine w_loc rfl ?_
          refine w_getI (v := (iv 17) 0) is_17 (by decide) rfl ?_
          refine w_ige (fun h5 => ?_) (fun h5 => ?_)
          · refine pz_G_of pz_b13_122 ?_
            refine w_iinc (ls' := [some (.inr (.inl 17)), some (.inr (.inl 138)), u41_2, some (.inl (q_st k d (q_pk k d) (k 3))), some (.inl be2), some (.inl mo2), some (.inl (x + 1)), some (.inl y), u41_8]) rfl rfl rfl (by omega) ?_
            refine w_goto ?_
            exact ih29 _ (by omega) be2 mo2 (x + 1) u41_2 hu41_2 (some (.inl y)) rfl u41_8 hu41_8 rfl (by omega) (by unfold q_lvF at hs ⊢; rw [q_fr_s (by omega), ← hs]; unfold q_lvX; rw [hs2, show y = k 3 by omega]) (by omega) (by omega)
          · refine w_loc rfl ?_
            refine w_loc rfl ?_
            refine w_ieq (fun h6 => ?_) (fun h6 => ?_)
            · refine pz_G_of pz_b13_116 ?_
              refine w_iinc (ls' := [some (.inr (.inl 17)), some (.inr (.inl 138)), u41_2, some (.inl (q_st k d (q_pk k d) (k 3))), some (.inl be2), some (.inl mo2), some (.inl x), some (.inl (y + 1)), u41_8]) rfl rfl rfl (by omega) ?_
              refine w_goto ?_
              exact ih41 _ (by omega) be2 mo2 (y + 1) u41_2 hu41_2 u41_8 hu41_8 rfl (by omega) (by first | exact q_lvS_t (by omega) hs2 (by refine ⟨?_, ?_, ?_, ?_, ?_⟩ <;> omega) | exact q_lvS_f (by omega) hs2 (fun ⟨g1, g2, g3, g4, g5⟩ => by omega)) (by omega) (by omega)
            · refine w_loc rfl ?_
              refine w_loc rfl ?_
              have hc7 : pz_R (pz_Sh L) 186 [.inl x] (iv) (.inl (some (.inl (pz_shl 1 x)))) (iv) := s_X10_bit x
              refine w_call hc7 rfl rfl ?_
              refine w_iand ?_
              refine w_zeq (fun h8 => ?_) (fun h8 => ?_)
              · refine pz_G_of pz_b13_116 ?_
                refine w_iinc (ls' := [some (.inr (.inl 17)), some (.inr (.inl 138)), u41_2, some (.inl (q_st k d (q_pk k d) (k 3))), some (.inl be2), some (.inl mo2), some (.inl x), some (.inl (y + 1)), u41_8]) rfl rfl rfl (by omega) ?_
                refine w_goto ?_
                exact ih41 _ (by omega) be2 mo2 (y + 1) u41_2 hu41_2 u41_8 hu41_8 rfl (by omega) (by first | exact q_lvS_t (by omega) hs2 (by refine ⟨?_, ?_, ?_, ?_, ?_⟩ <;> omega) | exact q_lvS_f (by omega) hs2 (fun ⟨g1, g2, g3, g4, g5⟩ => by omega)) (by omega) (by omega)
              · refine w_loc rfl ?_
                refine w_loc rfl ?_
                have hc9 : pz_R (pz_Sh L) 186 [.inl y] (iv) (.inl (some (.inl (pz_shl 1 y)))) (iv) := s_X10_bit y
                refine w_call hc9 rfl rfl ?_
                refine w_iand ?_
                refine w_zne (fun h10 => ?_) (fun h10 => ?_)
                · refine pz_G_of pz_b13_80 ?_
                  refine w_loc rfl ?_
                  refine w_loc rfl ?_
                  refine w_loc rfl ?_
                  refine w_loc rfl ?_
                  have hc11 : pz_R (pz_Sh L) 12 [.inr (.inl 17), .inl x, .inl y, .inr (.inl 138)] (iv) (.inl (some (.inl (q_sl k d x y)))) (iv) := s_X0_room x y (by exact hk) (by exact hA) (by exact hN) (by exact hD) (by omega) (by omega)
                  refine w_call hc11 rfl (pz_cokI is_17 rfl) ?_
                  refine w_loc (ls' := [some (.inr (.inl 17)), some (.inr (.inl 138)), u41_2, some (.inl (q_st k d (q_pk k d) (k 3))), some (.inl be2), some (.inl mo2), some (.inl x), some (.inl y), some (.inl (q_sl k d x y))]) (st' := []) rfl ?_
                  refine w_loc rfl ?_
                  refine w_zlt (fun h12 => ?_) (fun h12 => ?_)
                  · refine pz_G_of pz_b13_116 ?_
                    refine w_iinc (ls' := [some (.inr (.inl 17)), some (.inr (.inl 138)), u41_2, some (.inl (q_st k d (q_pk k d) (k 3))), some (.inl be2), some (.inl mo2), some (.inl x), some (.inl (y + 1)), some (.inl (q_sl k d x y))]) rfl rfl rfl (by omega) ?_
                    refine w_goto ?_
                    exact ih41 _ (by omega) be2 mo2 (y + 1) u41_2 hu41_2 (some (.inl (q_sl k d x y))) rfl rfl (by omega) (by first | exact q_lvS_t (by omega) hs2 (by refine ⟨?_, ?_, ?_, ?_, ?_⟩ <;> omega) | exact q_lvS_f (by omega) hs2 (fun ⟨g1, g2, g3, g4, g5⟩ => by omega)) (by omega) (by omega)
                  · refine w_loc rfl ?_
                    refine w_loc rfl ?_
                    refine w_ile (fun h13 => ?_) (fun h13 => ?_)
                    · refine pz_G_of pz_b13_116 ?_
                      refine w_iinc (ls' := [some (.inr (.inl 17)), some (.inr (.inl 138)), u41_2, some (.inl (q_st k d (q_pk k d) (k 3))), some (.inl be2), some (.inl mo2), some (.inl x), some (.inl (y + 1)), some (.inl (q_sl k d x y))]) rfl rfl rfl (by omega) ?_
                      refine w_goto ?_
                      exact ih41 _ (by omega) be2 mo2 (y + 1) u41_2 hu41_2 (some (.inl (q_sl k d x y))) rfl rfl (by omega) (by first | exact q_lvS_t (by omega) hs2 (by refine ⟨?_, ?_, ?_, ?_, ?_⟩ <;> omega) | exact q_lvS_f (by omega) hs2 (fun ⟨g1, g2, g3, g4, g5⟩ => by omega)) (by omega) (by omega)
                    · refine w_loc rfl ?_
                      refine w_loc (ls' := [some (.inr (.inl 17)), some (.inr (.inl 138)), u41_2, some (.inl (q_st k d (q_pk k d) (k 3))), some (.inl be2), some (.inl (q_sl k d x y)), some (.inl x), some (.inl y), some (.inl (q_sl k d x y))]) (st' := []) rfl ?_
                      refine w_loc rfl ?_
                      refine w_pure rfl ?_
                      refine w_imulc (by omega) ?_
                      refine w_loc rfl ?_
                      refine w_iadd (by omega) ?_
                      refine w_loc (ls' := [some (.inr (.inl 17)), some (.inr (.inl 138)), u41_2, some (.inl (q_st k d (q_pk k d) (k 3))), some (.inl ((5 * x) + y)), some (.inl (q_sl k d x y)), some (.inl x), some (.inl y), some (.inl (q_sl k d x y))]) (st' := []) rfl ?_
                      refine w_nil ?_
                      refine pz_G_of pz_b13_116 ?_
                      refine w_iinc (ls' := [some (.inr (.inl 17)), some (.inr (.inl 138)), u41_2, some (.inl (q_st k d (q_pk k d) (k 3))), some (.inl ((5 * x) + y)), some (.inl (q_sl k d x y)), some (.inl x), some (.inl (y + 1)), some (.inl (q_sl k d x y))]) rfl rfl rfl (by omega) ?_
                      refine w_goto ?_
                      exact ih41 _ (by omega) ((5 * x) + y) (q_sl k d x y) (y + 1) u41_2 hu41_2 (some (.inl (q_sl k d x y))) rfl rfl (by omega) (by first | exact q_lvS_t (by omega) hs2 (by refine ⟨?_, ?_, ?_, ?_, ?_⟩ <;> omega) | exact q_lvS_f (by omega) hs2 (fun ⟨g1, g2, g3, g4, g5⟩ => by omega)) (by omega) (by omega)
                · refine w_goto ?_
                  refine pz_G_of pz_b13_116 ?_
                  refine w_iinc (ls' := [some (.inr (.inl 17)), some (.inr (.inl 138)), u41_2, some (.inl (q_st k d (q_pk k d) (k 3))), some (.inl be2), some (.inl mo2), some (.inl x), some (.inl (y + 1)), u41_8]) rfl rfl rfl (by omega) ?_
                  refine w_goto ?_
                  exact ih41 _ (by omega) be2 mo2 (y + 1) u41_2 hu41_2 u41_8 hu41_8 rfl (by omega) (by first | exact q_lvS_t (by omega) hs2 (by refine ⟨?_, ?_, ?_, ?_, ?_⟩ <;> omega) | exact q_lvS_f (by omega) hs2 (fun ⟨g1, g2, g3, g4, g5⟩ => by omega)) (by omega) (by omega)
        exact lp41 _ be mo 0 u29_2 hu29_2 u29_8 hu29_8 rfl (by omega) (by rw [q_fr_0 (by omega)]) (by omega) (by omega)
    exact lp29 _ (-1) (-1) 0 (some (.inl (q_pk k d))) rfl (none) rfl (none) rfl rfl (by omega) (by unfold q_lvF; rw [q_fr_0 (by omega)]) (by omega) (by omega)
  · refine w_pure rfl ?_
    refine w_ret rfl ?_
    first | exact lf_i (q_if_t (by omega)).symm rfl | exact lf_i (by rw [q_if_f (by assumption)]; have h9 := congrArg Prod.snd hs; rw [show x = k 3 by omega] at h9; exact h9) rfl

theorem s_X3_put {L : Nat} {iv : Nat → Nat → Int} (e : Int) (d : Int) (y : Int) (z : Int) {k : Nat → Int} (hO : q_cO k (iv 22) (iv 23) (iv 24)) (he : 0 ≤ e ∧ e ≤ 9) : pz_R (pz_Sh L) 31 [.inr (.inl 21), .inl e, .inl d, .inl y, .inl z] iv (.inl (some (.inl (k (16 + e).toNat)))) (pz_u1 (pz_u1 (pz_u1 iv 22 (pz_up (iv 22) e.toNat d)) 23 (pz_up (iv 23) e.toNat y)) 24 (pz_up (iv 24) e.toNat z)) := by
  intro dv cc ss
  have hOe := hO e he.1 he.2
  refine pz_G_mem (iv2 := pz_u1 (pz_u1 (pz_u1 iv 22 (iv 22)) 23 (iv 23)) 24 (iv 24)) (by exact (((pz_u1_self iv 22).symm).trans (pz_u1_self (pz_u1 iv 22 (iv 22)) 23).symm).trans (pz_u1_self (pz_u1 (pz_u1 iv 22 (iv 22)) 23 (iv 23)) 24).symm) ?_
  show pz_G 31 0 [some (.inr (.inl 21)), some (.inl e), some (.inl d), some (.inl y), some (.inl z), none] [] (pz_Sh L, pz_u1 (pz_u1 (pz_u1 iv 22 (iv 22)) 23 (iv 23)) 24 (iv 24), dv, cc, ss) (pz_P (pz_Sh L) (.inl (some (.inl (k (16 + e).toNat)))) (pz_u1 (pz_u1 (pz_u1 iv 22 (pz_up (iv 22) e.toNat d)) 23 (pz_up (iv 23) e.toNat y)) 24 (pz_up (iv 24) e.toNat z)) dv cc ss)
  refine pz_G_of pz_b31_0 ?_
  refine w_loc rfl ?_
  have hc1 : pz_R (pz_Sh L) 187 [.inl e] (pz_u1 (pz_u1 (pz_u1 iv 22 (iv 22)) 23 (iv 23)) 24 (iv 24)) (.inl (some (.inl (pz_bi (0 ≤ e ∧ e < 10))))) (pz_u1 (pz_u1 (pz_u1 iv 22 (iv 22)) 23 (iv 23)) 24 (iv 24)) := s_X10_isEventNumber e
  refine w_call hc1 rfl rfl ?_
  refine w_bne (fun h2 => ?_) (fun h2 => ?_)
  · refine pz_G_of pz_b31_9 ?_
    refine w_loc rfl ?_
    refine w_getR (q := 22) is_21 rf_21_0 ?_
    refine w_loc rfl ?_
    refine w_iald (v := (iv 22) e.toNat) is_22 ln_22 ⟨by omega, by omega⟩ rfl ?_
    refine w_loc (ls' := [some (.inr (.inl 21)), some (.inl e), some (.inl d), some (.inl y), some (.inl z), some (.inl ((iv 22) e.toNat))]) (st' := []) rfl ?_
    refine w_loc rfl ?_
    refine w_getR (q := 22) is_21 rf_21_0 ?_
    refine w_loc rfl ?_
    refine w_loc rfl ?_
    refine w_iastm (iv2 := pz_u1 (pz_u1 (pz_u1 iv 22 (pz_up (iv 22) e.toNat d)) 23 (iv 23)) 24 (iv 24)) is_22 ln_22 ⟨by omega, by omega⟩ (by rw [pz_u2_in (r := 22) (q := 24) (by decide)]; rw [pz_u2_in (r := 22) (q := 23) (by decide)]; rw [pz_u2_top] <;> rfl) ?_
    refine w_loc rfl ?_
    refine w_getR (q := 23) is_21 rf_21_1 ?_
    refine w_loc rfl ?_
    refine w_loc rfl ?_
    refine w_iastm (iv2 := pz_u1 (pz_u1 (pz_u1 iv 22 (pz_up (iv 22) e.toNat d)) 23 (pz_up (iv 23) e.toNat y)) 24 (iv 24)) is_23 ln_23 ⟨by omega, by omega⟩ (by rw [pz_u2_in (r := 23) (q := 24) (by decide)]; rw [pz_u2_top] <;> rfl) ?_
    refine w_loc rfl ?_
    refine w_getR (q := 24) is_21 rf_21_2 ?_
    refine w_loc rfl ?_
    refine w_loc rfl ?_
    refine w_iastm (iv2 := pz_u1 (pz_u1 (pz_u1 iv 22 (pz_up (iv 22) e.toNat d)) 23 (pz_up (iv 23) e.toNat y)) 24 (pz_up (iv 24) e.toNat z)) is_24 ln_24 ⟨by omega, by omega⟩ (by exact pz_u2_top _ _ _ _ _) ?_
    refine w_loc rfl ?_
    refine w_ret rfl ?_
    first | exact lf_i (by first | rfl | omega) (by rfl) | (exfalso; omega)
  · refine w_pure rfl ?_
    refine w_ret rfl ?_
    first | exact lf_i (by first | rfl | omega) (by rfl) | (exfalso; omega)

theorem s_X3_at {L : Nat} {iv : Nat → Nat → Int} (e : Int) (m : Int) {k : Nat → Int} (hk : q_KR k) (hO : q_cO k (iv 22) (iv 23) (iv 24)) (he : 0 ≤ e ∧ e ≤ 9) (hm : 0 ≤ m ∧ m ≤ 1000000) : pz_R (pz_Sh L) 32 [.inr (.inl 21), .inl e, .inl m] iv (.inl (some (.inl (q_cst k e m)))) iv := by
  intro dv cc ss
  have hk0 := hk.r0
  have hOe := hO e he.1 he.2
  have hcs := hk.cs he.1 he.2
  have hm1 : iv 22 e.toNat ≠ -1 → m < iv 22 e.toNat → 0 ≤ (-(m - iv 22 e.toNat)) * iv 23 e.toNat ∧ (-(m - iv 22 e.toNat)) * iv 23 e.toNat ≤ 999 * 99 := fun h1 h2 => q_mul_r (by omega) (by omega)
  have hm2 : iv 22 e.toNat ≠ -1 → iv 22 e.toNat ≤ m → 0 ≤ (m - iv 22 e.toNat) * iv 24 e.toNat ∧ (m - iv 22 e.toNat) * iv 24 e.toNat ≤ 1000000 * 99 := fun h1 h2 => q_mul_r (by omega) (by omega)
  show pz_G 32 0 [some (.inr (.inl 21)), some (.inl e), some (.inl m), none] [] (pz_Sh L, iv, dv, cc, ss) (pz_P (pz_Sh L) (.inl (some (.inl (q_cst k e m)))) iv dv cc ss)
  refine pz_G_of pz_b32_0 ?_
  refine w_loc rfl ?_
  have hc1 : pz_R (pz_Sh L) 187 [.inl e] (iv) (.inl (some (.inl (pz_bi (0 ≤ e ∧ e < 10))))) (iv) := s_X10_isEventNumber e
  refine w_call hc1 rfl rfl ?_
  refine w_beq (fun h2 => ?_) (fun h2 => ?_)
  · refine pz_G_of pz_b32_17 ?_
    refine w_pure rfl ?_
    refine w_ret rfl ?_
    first | exact lf_i (by unfold q_cst; rw [← hOe.1, ← hOe.2.1, ← hOe.2.2]; (repeat' split) <;> first | rfl | (exfalso; omega) | ((rw [Int.mul_comm]) <;> (congr 1 <;> omega))) rfl | (exfalso; omega)
  · refine w_loc rfl ?_
    refine w_getR (q := 22) is_21 rf_21_0 ?_
    refine w_loc rfl ?_
    refine w_iald (v := (iv 22) e.toNat) is_22 ln_22 ⟨by omega, by omega⟩ rfl ?_
    refine w_pure rfl ?_
    refine w_ine (fun h3 => ?_) (fun h3 => ?_)
    · refine pz_G_of pz_b32_19 ?_
      refine w_loc rfl ?_
      refine w_loc rfl ?_
      refine w_getR (q := 22) is_21 rf_21_0 ?_
      refine w_loc rfl ?_
      refine w_iald (v := (iv 22) e.toNat) is_22 ln_22 ⟨by omega, by omega⟩ rfl ?_
      refine w_isub (by omega) ?_
      refine w_loc (ls' := [some (.inr (.inl 21)), some (.inl e), some (.inl m), some (.inl (m - ((iv 22) e.toNat)))]) (st' := []) rfl ?_
      refine w_loc rfl ?_
      refine w_zge (fun h4 => ?_) (fun h4 => ?_)
      · refine pz_G_of pz_b32_44 ?_
        refine w_loc rfl ?_
        refine w_loc rfl ?_
        refine w_getR (q := 24) is_21 rf_21_2 ?_
        refine w_loc rfl ?_
        refine w_iald (v := (iv 24) e.toNat) is_24 ln_24 ⟨by omega, by omega⟩ rfl ?_
        refine w_imul (by omega) ?_
        refine w_nil ?_
        refine pz_G_of pz_b32_52 ?_
        refine w_ret rfl ?_
        first | exact lf_i (by unfold q_cst; rw [← hOe.1, ← hOe.2.1, ← hOe.2.2]; (repeat' split) <;> first | rfl | (exfalso; omega) | ((rw [Int.mul_comm]) <;> (congr 1 <;> omega))) rfl | (exfalso; omega)
      · refine w_loc rfl ?_
        refine w_ineg (by omega) ?_
        refine w_loc rfl ?_
        refine w_getR (q := 23) is_21 rf_21_1 ?_
        refine w_loc rfl ?_
        refine w_iald (v := (iv 23) e.toNat) is_23 ln_23 ⟨by omega, by omega⟩ rfl ?_
        refine w_imul (by omega) ?_
        refine w_goto ?_
        refine pz_G_of pz_b32_52 ?_
        refine w_ret rfl ?_
        first | exact lf_i (by unfold q_cst; rw [← hOe.1, ← hOe.2.1, ← hOe.2.2]; (repeat' split) <;> first | rfl | (exfalso; omega) | ((rw [Int.mul_comm]) <;> (congr 1 <;> omega))) rfl | (exfalso; omega)
    · refine w_nil ?_
      refine pz_G_of pz_b32_17 ?_
      refine w_pure rfl ?_
      refine w_ret rfl ?_
      first | exact lf_i (by unfold q_cst; rw [← hOe.1, ← hOe.2.1, ← hOe.2.2]; (repeat' split) <;> first | rfl | (exfalso; omega) | ((rw [Int.mul_comm]) <;> (congr 1 <;> omega))) rfl | (exfalso; omega)

theorem s_X5_clear_130 {L : Nat} {iv : Nat → Nat → Int} (e : Int) (he : 1 ≤ e ∧ e ≤ 10) : pz_R (pz_Sh L) 53 [.inr (.inl 130), .inl e] iv (.inl none) (pz_u1 (pz_u1 iv 130 (pz_up (iv 130) 0 e)) 131 (q_ncl e (iv 131))) := by
  intro dv cc ss
  refine pz_G_mem (iv2 := pz_u1 (pz_u1 iv 130 (iv 130)) 131 (iv 131)) (by exact ((pz_u1_self iv 130).symm).trans (pz_u1_self (pz_u1 iv 130 (iv 130)) 131).symm) ?_
  show pz_G 53 0 [some (.inr (.inl 130)), some (.inl e), none] [] (pz_Sh L, pz_u1 (pz_u1 iv 130 (iv 130)) 131 (iv 131), dv, cc, ss) (pz_P (pz_Sh L) (.inl none) (pz_u1 (pz_u1 iv 130 (pz_up (iv 130) 0 e)) 131 (q_ncl e (iv 131))) dv cc ss)
  refine pz_G_of pz_b53_0 ?_
  refine w_loc rfl ?_
  refine w_pure rfl ?_
  refine w_loc rfl ?_
  refine w_pure rfl ?_
  have hc1 : pz_R (pz_Sh L) 2 [.inl e, .inl 10] (pz_u1 (pz_u1 iv 130 (iv 130)) 131 (iv 131)) (.inl (some (.inl (min e 10)))) (pz_u1 (pz_u1 iv 130 (iv 130)) 131 (iv 131)) := s_J_min e 10
  refine w_call hc1 rfl rfl ?_
  have hc2 : pz_R (pz_Sh L) 1 [.inl 0, .inl (min e 10)] (pz_u1 (pz_u1 iv 130 (iv 130)) 131 (iv 131)) (.inl (some (.inl (max 0 (min e 10))))) (pz_u1 (pz_u1 iv 130 (iv 130)) 131 (iv 131)) := s_J_max 0 (min e 10)
  refine w_call hc2 rfl rfl ?_
  refine w_putIm (iv2 := pz_u1 (pz_u1 iv 130 (pz_up (iv 130) 0 (max 0 (min e 10)))) 131 (iv 131)) is_130 pz_fit0 (by rw [pz_u2_in (r := 130) (q := 131) (by decide)]; rw [pz_u2_top] <;> rfl) ?_
  refine w_pure rfl ?_
  refine w_loc (ls' := [some (.inr (.inl 130)), some (.inl e), some (.inl 0)]) (st' := []) rfl ?_
  refine w_nil ?_
  have lp16 : ∀ (dd : Nat) (c : Int) (f : Nat → Int) , (100 - c).toNat = dd → ∀ (hc : 0 ≤ c ∧ c ≤ 100), ∀ (hf : ∀ j : Nat, f j = if (j : Int) < c then 1000000000 else iv 131 j),  pz_G 53 16 [some (.inr (.inl 130)), some (.inl e), some (.inl c)] [] (pz_Sh L, pz_u1 (pz_u1 iv 130 (pz_up (iv 130) 0 (max 0 (min e 10)))) 131 f, dv, cc, ss) (pz_P (pz_Sh L) (.inl none) (pz_u1 (pz_u1 iv 130 (pz_up (iv 130) 0 e)) 131 (q_ncl e (iv 131))) dv cc ss) := by
    intro dd16
    induction dd16 using Nat.strongRecOn with
    | _ dd16 ih16 =>
    intro c f  hd16 hc hf
    refine pz_G_of pz_b53_16 ?_
    refine w_loc rfl ?_
    refine w_pure rfl ?_
    refine w_ige (fun h3 => ?_) (fun h3 => ?_)
    · refine pz_G_of pz_b53_36 ?_
      refine w_pure rfl ?_
      refine w_loc (ls' := [some (.inr (.inl 130)), some (.inl e), some (.inl 0)]) (st' := []) rfl ?_
      refine w_nil ?_
      have lp38 : ∀ (dd : Nat) (i : Int) (f2 : Nat → Int) , (10 - i).toNat = dd → ∀ (hi : 0 ≤ i ∧ i ≤ e), ∀ (hf2 : ∀ j : Nat, f2 j = if j < 100 then (if j % 11 = 0 ∧ (j : Int) < 11 * i then 0 else 1000000000) else iv 131 j),  pz_G 53 38 [some (.inr (.inl 130)), some (.inl e), some (.inl i)] [] (pz_Sh L, pz_u1 (pz_u1 iv 130 (pz_up (iv 130) 0 (max 0 (min e 10)))) 131 f2, dv, cc, ss) (pz_P (pz_Sh L) (.inl none) (pz_u1 (pz_u1 iv 130 (pz_up (iv 130) 0 e)) 131 (q_ncl e (iv 131))) dv cc ss) := by
        intro dd38
        induction dd38 using Nat.strongRecOn with
        | _ dd38 ih38 =>
        intro i f2  hd38 hi hf2
        refine pz_G_of pz_b53_38 ?_
        refine w_loc rfl ?_
        refine w_loc rfl ?_
        refine w_getI (v := max 0 (min e 10)) is_130 (by decide) rfl ?_
        refine w_ige (fun h4 => ?_) (fun h4 => ?_)
        · refine pz_G_of pz_b53_64 ?_
          refine w_vret ?_
          first | exact lf_v (by rw [show max 0 (min e 10) = e by omega, show f2 = q_ncl e (iv 131) from by funext j; rw [hf2 j, show i = e by omega]; rfl]) | (exfalso; omega)
        · refine w_loc rfl ?_
          refine w_getR (q := 131) is_130 rf_130_2 ?_
          refine w_loc rfl ?_
          refine w_pure rfl ?_
          refine w_imulc (by omega) ?_
          refine w_loc rfl ?_
          refine w_iadd (by omega) ?_
          refine w_pure rfl ?_
          refine w_iastm (iv2 := pz_u1 (pz_u1 iv 130 (pz_up (iv 130) 0 (max 0 (min e 10)))) 131 (pz_up f2 ((10 * i) + i).toNat 0)) is_131 ln_131 ⟨by omega, by omega⟩ (by exact pz_u2_top _ _ _ _ _) ?_
          refine w_iinc (ls' := [some (.inr (.inl 130)), some (.inl e), some (.inl (i + 1))]) rfl rfl rfl (by omega) ?_
          refine w_goto ?_
          exact ih38 _ (by omega) (i + 1) (pz_up f2 ((10 * i) + i).toNat 0)  rfl (by omega) (by intro j; rw [pz_up_at, hf2 j]; (repeat' split) <;> first | rfl | omega)
      exact lp38 _ 0 f  rfl (by omega) (by intro j; rw [hf j]; (repeat' split) <;> first | rfl | omega)
    · refine w_loc rfl ?_
      refine w_getR (q := 131) is_130 rf_130_2 ?_
      refine w_loc rfl ?_
      refine w_ldcv (v := 1000000000) rfl ?_
      refine w_iastm (iv2 := pz_u1 (pz_u1 iv 130 (pz_up (iv 130) 0 (max 0 (min e 10)))) 131 (pz_up f c.toNat 1000000000)) is_131 ln_131 ⟨by omega, by omega⟩ (by exact pz_u2_top _ _ _ _ _) ?_
      refine w_iinc (ls' := [some (.inr (.inl 130)), some (.inl e), some (.inl (c + 1))]) rfl rfl rfl (by omega) ?_
      refine w_goto ?_
      exact ih16 _ (by omega) (c + 1) (pz_up f c.toNat 1000000000)  rfl (by omega) (by intro j; rw [pz_up_at, hf j]; (repeat' split) <;> first | rfl | omega)
  exact lp16 _ 0 (iv 131)  rfl (by omega) (by intro j; rw [if_neg (by omega)])

theorem s_X5_addEdge_130 {L : Nat} {iv : Nat → Nat → Int} (i : Int) (j : Int) (w : Int) (hi : 0 ≤ i ∧ i ≤ 9) (hj : 0 ≤ j ∧ j ≤ 9) : pz_R (pz_Sh L) 54 [.inr (.inl 130), .inl i, .inl j, .inl w] iv (.inl none) (pz_u1 iv 131 (q_eg (iv 131) i j w)) := by
  intro dv cc ss
  refine pz_G_mem (iv2 := pz_u1 iv 131 (iv 131)) (by exact (pz_u1_self iv 131).symm) ?_
  show pz_G 54 0 [some (.inr (.inl 130)), some (.inl i), some (.inl j), some (.inl w), none] [] (pz_Sh L, pz_u1 iv 131 (iv 131), dv, cc, ss) (pz_P (pz_Sh L) (.inl none) (pz_u1 iv 131 (q_eg (iv 131) i j w)) dv cc ss)
  refine pz_G_of pz_b54_0 ?_
  refine w_loc rfl ?_
  refine w_zlt (fun h1 => ?_) (fun h1 => ?_)
  · refine pz_G_of pz_b54_24 ?_
    refine w_pure rfl ?_
    refine w_nil ?_
    refine pz_G_of pz_b54_25 ?_
    refine w_loc (ls' := [some (.inr (.inl 130)), some (.inl i), some (.inl j), some (.inl w), some (.inl 0)]) (st' := []) rfl ?_
    refine w_loc rfl ?_
    refine w_zeq (fun _ => ?_) (fun h => absurd h (by decide))
    refine pz_G_of pz_b54_59 ?_
    refine w_vret ?_
    first | (exfalso; omega) | exact lf_v (by unfold q_eg q_lw; first | rw [q_if_t (by omega)] | (rw [q_if_f (by omega)]))
  · refine w_loc rfl ?_
    refine w_pure rfl ?_
    refine w_ige (fun h2 => ?_) (fun h2 => ?_)
    · refine pz_G_of pz_b54_24 ?_
      refine w_pure rfl ?_
      refine w_nil ?_
      refine pz_G_of pz_b54_25 ?_
      refine w_loc (ls' := [some (.inr (.inl 130)), some (.inl i), some (.inl j), some (.inl w), some (.inl 0)]) (st' := []) rfl ?_
      refine w_loc rfl ?_
      refine w_zeq (fun _ => ?_) (fun h => absurd h (by decide))
      refine pz_G_of pz_b54_59 ?_
      refine w_vret ?_
      first | (exfalso; omega) | exact lf_v (by unfold q_eg q_lw; first | rw [q_if_t (by omega)] | (rw [q_if_f (by omega)]))
    · refine w_loc rfl ?_
      refine w_zlt (fun h3 => ?_) (fun h3 => ?_)
      · refine pz_G_of pz_b54_24 ?_
        refine w_pure rfl ?_
        refine w_nil ?_
        refine pz_G_of pz_b54_25 ?_
        refine w_loc (ls' := [some (.inr (.inl 130)), some (.inl i), some (.inl j), some (.inl w), some (.inl 0)]) (st' := []) rfl ?_
        refine w_loc rfl ?_
        refine w_zeq (fun _ => ?_) (fun h => absurd h (by decide))
        refine pz_G_of pz_b54_59 ?_
        refine w_vret ?_
        first | (exfalso; omega) | exact lf_v (by unfold q_eg q_lw; first | rw [q_if_t (by omega)] | (rw [q_if_f (by omega)]))
      · refine w_loc rfl ?_
        refine w_pure rfl ?_
        refine w_ige (fun h4 => ?_) (fun h4 => ?_)
        · refine pz_G_of pz_b54_24 ?_
          refine w_pure rfl ?_
          refine w_nil ?_
          refine pz_G_of pz_b54_25 ?_
          refine w_loc (ls' := [some (.inr (.inl 130)), some (.inl i), some (.inl j), some (.inl w), some (.inl 0)]) (st' := []) rfl ?_
          refine w_loc rfl ?_
          refine w_zeq (fun _ => ?_) (fun h => absurd h (by decide))
          refine pz_G_of pz_b54_59 ?_
          refine w_vret ?_
          first | (exfalso; omega) | exact lf_v (by unfold q_eg q_lw; first | rw [q_if_t (by omega)] | (rw [q_if_f (by omega)]))
        · refine w_pure rfl ?_
          refine w_goto ?_
          refine pz_G_of pz_b54_25 ?_
          refine w_loc (ls' := [some (.inr (.inl 130)), some (.inl i), some (.inl j), some (.inl w), some (.inl 1)]) (st' := []) rfl ?_
          refine w_loc rfl ?_
          refine w_zeq (fun h => absurd h (by decide)) (fun _ => ?_)
          refine w_loc rfl ?_
          refine w_loc rfl ?_
          refine w_getR (q := 131) is_130 rf_130_2 ?_
          refine w_loc rfl ?_
          refine w_pure rfl ?_
          refine w_imulc (by omega) ?_
          refine w_loc rfl ?_
          refine w_iadd (by omega) ?_
          refine w_iald (v := (iv 131) ((10 * i) + j).toNat) is_131 ln_131 ⟨by omega, by omega⟩ rfl ?_
          refine w_ige (fun h5 => ?_) (fun h5 => ?_)
          · refine pz_G_of pz_b54_59 ?_
            refine w_vret ?_
            first | (exfalso; omega) | exact lf_v (by unfold q_eg q_lw; first | rw [q_if_t (by omega)] | (rw [q_if_f (by omega)]))
          · refine w_loc rfl ?_
            refine w_getR (q := 131) is_130 rf_130_2 ?_
            refine w_loc rfl ?_
            refine w_pure rfl ?_
            refine w_imulc (by omega) ?_
            refine w_loc rfl ?_
            refine w_iadd (by omega) ?_
            refine w_loc rfl ?_
            refine w_iastm (iv2 := pz_u1 iv 131 (pz_up (iv 131) ((10 * i) + j).toNat w)) is_131 ln_131 ⟨by omega, by omega⟩ (by exact pz_u2_top _ _ _ _ _) ?_
            refine w_nil ?_
            refine pz_G_of pz_b54_59 ?_
            refine w_vret ?_
            first | (exfalso; omega) | exact lf_v (by unfold q_eg q_lw; first | rw [q_if_t (by omega)] | (rw [q_if_f (by omega)]))

theorem s_X5_addGap_130 {L : Nat} {iv : Nat → Nat → Int} (i : Int) (j : Int) (l : Int) (g : Int) (hi : 0 ≤ i ∧ i ≤ 9) (hj : 0 ≤ j ∧ j ≤ 9) (hl : -100000 ≤ l ∧ l ≤ 100000) : pz_R (pz_Sh L) 55 [.inr (.inl 130), .inl i, .inl j, .inl l, .inl g] iv (.inl none) (pz_u1 iv 131 (q_eg (q_eg (iv 131) i j g) j i (-l))) := by
  intro dv cc ss
  refine pz_G_mem (iv2 := pz_u1 iv 131 (iv 131)) (by exact (pz_u1_self iv 131).symm) ?_
  show pz_G 55 0 [some (.inr (.inl 130)), some (.inl i), some (.inl j), some (.inl l), some (.inl g)] [] (pz_Sh L, pz_u1 iv 131 (iv 131), dv, cc, ss) (pz_P (pz_Sh L) (.inl none) (pz_u1 iv 131 (q_eg (q_eg (iv 131) i j g) j i (-l))) dv cc ss)
  refine pz_G_of pz_b55_0 ?_
  refine w_loc rfl ?_
  refine w_loc rfl ?_
  refine w_loc rfl ?_
  refine w_loc rfl ?_
  have hc1 : pz_R (pz_Sh L) 54 [.inr (.inl 130), .inl i, .inl j, .inl g] (pz_u1 iv 131 (iv 131)) (.inl none) (pz_u1 iv 131 (q_eg (iv 131) i j g)) := pz_R_mem (s_X5_addEdge_130 i j g (by show 0 ≤ i ∧ i ≤ 9; omega) (by show 0 ≤ j ∧ j ≤ 9; omega)) (by rw [pz_u1_top (r := 131)]; rfl)
  refine w_callv hc1 rfl (pz_cokI is_130 rfl) ?_
  refine w_loc rfl ?_
  refine w_loc rfl ?_
  refine w_loc rfl ?_
  refine w_loc rfl ?_
  refine w_ineg (by omega) ?_
  have hc2 : pz_R (pz_Sh L) 54 [.inr (.inl 130), .inl j, .inl i, .inl (-l)] (pz_u1 iv 131 (q_eg (iv 131) i j g)) (.inl none) (pz_u1 iv 131 (q_eg (q_eg (iv 131) i j g) j i (-l))) := pz_R_mem (s_X5_addEdge_130 j i (-l) (by show 0 ≤ j ∧ j ≤ 9; omega) (by show 0 ≤ i ∧ i ≤ 9; omega)) (by rw [pz_u1_top (r := 131)]; rfl)
  refine w_callv hc2 rfl (pz_cokI is_130 rfl) ?_
  refine w_vret ?_
  first | exact lf_v (by rfl) | (exfalso; omega)

theorem s_X5_hasLoopBelowZero_130 {L : Nat} {iv : Nat → Nat → Int} (hz : 1 ≤ (iv 130) 0 ∧ (iv 130) 0 ≤ 10) : pz_R (pz_Sh L) 57 [.inr (.inl 130)] iv (.inl (some (.inl (pz_bi (q_exi (fun i => (iv 132) (10 * i + i).toNat < 0) ((iv 130) 0)))))) iv := by
  intro dv cc ss
  show pz_G 57 0 [some (.inr (.inl 130)), none] [] (pz_Sh L, iv, dv, cc, ss) (pz_P (pz_Sh L) (.inl (some (.inl (pz_bi (q_exi (fun i => (iv 132) (10 * i + i).toNat < 0) ((iv 130) 0)))))) iv dv cc ss)
  refine pz_G_of pz_b57_0 ?_
  refine w_pure rfl ?_
  refine w_loc (ls' := [some (.inr (.inl 130)), some (.inl 0)]) (st' := []) rfl ?_
  refine w_nil ?_
  have lp2 : ∀ (dd : Nat) (i : Int) , (iv 130 0 - i).toNat = dd → ∀ (hi : 0 ≤ i ∧ i ≤ iv 130 0), ∀ (hno : ∀ j : Int, 0 ≤ j → j < i → ¬ iv 132 (10 * j + j).toNat < 0),  pz_G 57 2 [some (.inr (.inl 130)), some (.inl i)] [] (pz_Sh L, iv, dv, cc, ss) (pz_P (pz_Sh L) (.inl (some (.inl (pz_bi (q_exi (fun i => (iv 132) (10 * i + i).toNat < 0) ((iv 130) 0)))))) iv dv cc ss) := by
    intro dd2
    induction dd2 using Nat.strongRecOn with
    | _ dd2 ih2 =>
    intro i  hd2 hi hno
    refine pz_G_of pz_b57_2 ?_
    refine w_loc rfl ?_
    refine w_loc rfl ?_
    refine w_getI (v := (iv 130) 0) is_130 (by decide) rfl ?_
    refine w_ige (fun h1 => ?_) (fun h1 => ?_)
    · refine pz_G_of pz_b57_32 ?_
      refine w_pure rfl ?_
      refine w_ret (pz_rok1 (Or.inl rfl)) ?_
      first | exact lf_i (pz_bi_t ⟨i, by omega, by omega, by assumption⟩) rfl | exact lf_i (pz_bi_f (fun ⟨j, g1, g2, g3⟩ => hno j g1 (by omega) g3)) rfl
    · refine w_loc rfl ?_
      refine w_getR (q := 132) is_130 rf_130_3 ?_
      refine w_loc rfl ?_
      refine w_pure rfl ?_
      refine w_imulc (by omega) ?_
      refine w_loc rfl ?_
      refine w_iadd (by omega) ?_
      refine w_iald (v := (iv 132) ((10 * i) + i).toNat) is_132 ln_132 ⟨by omega, by omega⟩ rfl ?_
      refine w_zge (fun h2 => ?_) (fun h2 => ?_)
      · refine pz_G_of pz_b57_26 ?_
        refine w_iinc (ls' := [some (.inr (.inl 130)), some (.inl (i + 1))]) rfl rfl rfl (by omega) ?_
        refine w_goto ?_
        exact ih2 _ (by omega) (i + 1)  rfl (by omega) (by intro j g1 g2; by_cases g3 : j = i; (rw [g3]; omega); exact hno j g1 (by omega))
      · refine w_pure rfl ?_
        refine w_ret (pz_rok1 (Or.inr rfl)) ?_
        first | exact lf_i (pz_bi_t ⟨i, by omega, by omega, by assumption⟩) rfl | exact lf_i (pz_bi_f (fun ⟨j, g1, g2, g3⟩ => hno j g1 (by omega) g3)) rfl
  exact lp2 _ 0  rfl (by omega) (by intro j g1 g2; omega)

theorem s_X5_shortenOver_130 {L : Nat} {iv : Nat → Nat → Int} (c : Int) (hz : 1 ≤ (iv 130) 0 ∧ (iv 130) 0 ≤ 10) (hc : 0 ≤ c ∧ c < ((iv 130) 0)) (hb : q_bnd (iv 132)) (hcc : 0 ≤ (iv 132) (10 * c + c).toNat) : pz_R (pz_Sh L) 58 [.inr (.inl 130), .inl c] iv (.inl none) (pz_u1 iv 132 (q_cs ((iv 130) 0) c (iv 132))) := by
  intro dv cc ss
  refine pz_G_mem (iv2 := pz_u1 iv 132 (iv 132)) (by exact (pz_u1_self iv 132).symm) ?_
  show pz_G 58 0 [some (.inr (.inl 130)), some (.inl c), none, none, none, none] [] (pz_Sh L, pz_u1 iv 132 (iv 132), dv, cc, ss) (pz_P (pz_Sh L) (.inl none) (pz_u1 iv 132 (q_cs ((iv 130) 0) c (iv 132))) dv cc ss)
  refine pz_G_of pz_b58_0 ?_
  refine w_loc rfl ?_
  refine w_zlt (fun h1 => ?_) (fun h1 => ?_)
  · refine pz_G_of pz_b58_12 ?_
    refine w_vret ?_
    first | exact lf_v (by rw [show f = q_cs (iv 130 0) c (iv 132) from by funext n; rw [hf n]; split; rfl; (by_cases g : n < 100; (rw [show n = (10 * ((n / 10 : Nat) : Int) + ((n % 10 : Nat) : Int)).toNat by omega, q_cs_n (by omega) (by omega) (by omega)]); (unfold q_cs; rw [if_neg (fun q => g q.1.1)]))]) | (exfalso; omega)
  · refine w_loc rfl ?_
    refine w_loc rfl ?_
    refine w_getI (v := (iv 130) 0) is_130 (by decide) rfl ?_
    refine w_ilt (fun h2 => ?_) (fun h2 => ?_)
    · refine pz_G_of pz_b58_13 ?_
      refine w_pure rfl ?_
      refine w_loc (ls' := [some (.inr (.inl 130)), some (.inl c), some (.inl 0), none, none, none]) (st' := []) rfl ?_
      refine w_nil ?_
      have lp15 : ∀ (dd : Nat) (i : Int) (f : Nat → Int) (u15_3 : Option pz_V) (hu15_3 : pz_nc u15_3 = true) (u15_4 : Option pz_V) (hu15_4 : pz_nc u15_4 = true) (u15_5 : Option pz_V) (hu15_5 : pz_nc u15_5 = true), (iv 130 0 - i).toNat = dd → ∀ (hi : 0 ≤ i ∧ i ≤ iv 130 0), ∀ (hf : ∀ n : Nat, f n = if (n : Int) < 10 * i then q_cs (iv 130 0) c (iv 132) n else iv 132 n),  pz_G 58 15 [some (.inr (.inl 130)), some (.inl c), some (.inl i), u15_3, u15_4, u15_5] [] (pz_Sh L, pz_u1 iv 132 f, dv, cc, ss) (pz_P (pz_Sh L) (.inl none) (pz_u1 iv 132 (q_cs ((iv 130) 0) c (iv 132))) dv cc ss) := by
        intro dd15
        induction dd15 using Nat.strongRecOn with
        | _ dd15 ih15 =>
        intro i f u15_3 hu15_3 u15_4 hu15_4 u15_5 hu15_5 hd15 hi hf
        have hfi : i < iv 130 0 → f (10 * i + c).toNat = iv 132 (10 * i + c).toNat := by
          intro h
          rw [hf, if_neg (by omega)]
        refine pz_G_of pz_b58_15 ?_
        refine w_loc rfl ?_
        refine w_loc rfl ?_
        refine w_getI (v := (iv 130) 0) is_130 (by decide) rfl ?_
        refine w_ige (fun h3 => ?_) (fun h3 => ?_)
        · refine pz_G_of pz_b58_121 ?_
          refine w_vret ?_
          first | exact lf_v (by rw [show f = q_cs (iv 130 0) c (iv 132) from by funext n; rw [hf n]; split; rfl; (by_cases g : n < 100; (rw [show n = (10 * ((n / 10 : Nat) : Int) + ((n % 10 : Nat) : Int)).toNat by omega, q_cs_n (by omega) (by omega) (by omega)]); (unfold q_cs; rw [if_neg (fun q => g q.1.1)]))]) | (exfalso; omega)
        · refine w_loc rfl ?_
          refine w_getR (q := 132) is_130 rf_130_3 ?_
          refine w_loc rfl ?_
          refine w_pure rfl ?_
          refine w_imulc (by omega) ?_
          refine w_loc rfl ?_
          refine w_iadd (by omega) ?_
          refine w_iald (v := f ((10 * i) + c).toNat) is_132 ln_132 ⟨by omega, by omega⟩ rfl ?_
          refine w_loc (ls' := [some (.inr (.inl 130)), some (.inl c), some (.inl i), some (.inl (f ((10 * i) + c).toNat)), u15_4, u15_5]) (st' := []) rfl ?_
          refine w_pure rfl ?_
          refine w_loc (ls' := [some (.inr (.inl 130)), some (.inl c), some (.inl i), some (.inl (f ((10 * i) + c).toNat)), some (.inl 0), u15_5]) (st' := []) rfl ?_
          refine w_nil ?_
          have lp38 : ∀ (dd : Nat) (j : Int) (f2 : Nat → Int) (u38_5 : Option pz_V) (hu38_5 : pz_nc u38_5 = true), (iv 130 0 - j).toNat = dd → ∀ (hj : 0 ≤ j ∧ j ≤ iv 130 0), ∀ (hf2 : ∀ n : Nat, f2 n = if (n : Int) < 10 * i + j then q_cs (iv 130 0) c (iv 132) n else iv 132 n),  pz_G 58 38 [some (.inr (.inl 130)), some (.inl c), some (.inl i), some (.inl (f ((10 * i) + c).toNat)), some (.inl j), u38_5] [] (pz_Sh L, pz_u1 iv 132 f2, dv, cc, ss) (pz_P (pz_Sh L) (.inl none) (pz_u1 iv 132 (q_cs ((iv 130) 0) c (iv 132))) dv cc ss) := by
            intro dd38
            induction dd38 using Nat.strongRecOn with
            | _ dd38 ih38 =>
            intro j f2 u38_5 hu38_5 hd38 hj hf2
            have hfi2 := hfi (by omega)
            have hcj : j < iv 130 0 → f2 (10 * c + j).toNat = iv 132 (10 * c + j).toNat := by
              intro h
              rw [hf2]; split
              · exact q_cs_n hc.1 (by omega) (fun ⟨_, _, _, _, g⟩ => by omega)
              · rfl
            have hij : f2 (10 * i + j).toNat = iv 132 (10 * i + j).toNat := by
              rw [hf2, if_neg (by omega)]
            have hb1 := hb (10 * i + c).toNat (by omega)
            have hb2 := fun h => hb (10 * c + j).toNat h
            refine pz_G_of pz_b58_38 ?_
            refine w_loc rfl ?_
            refine w_ldcv (v := 1000000000) rfl ?_
            refine w_ieq (fun h4 => ?_) (fun h4 => ?_)
            · refine pz_G_of pz_b58_115 ?_
              refine w_iinc (ls' := [some (.inr (.inl 130)), some (.inl c), some (.inl (i + 1)), some (.inl (f ((10 * i) + c).toNat)), some (.inl j), u38_5]) rfl rfl rfl (by omega) ?_
              refine w_goto ?_
              exact ih15 _ (by omega) (i + 1) f2 (some (.inl (f ((10 * i) + c).toNat))) rfl (some (.inl j)) rfl u38_5 hu38_5 rfl (by omega) (by exact q_sh_end (by omega) (by omega) hf2 (by omega))
            · refine w_loc rfl ?_
              refine w_loc rfl ?_
              refine w_getI (v := (iv 130) 0) is_130 (by decide) rfl ?_
              refine w_ige (fun h5 => ?_) (fun h5 => ?_)
              · refine pz_G_of pz_b58_115 ?_
                refine w_iinc (ls' := [some (.inr (.inl 130)), some (.inl c), some (.inl (i + 1)), some (.inl (f ((10 * i) + c).toNat)), some (.inl j), u38_5]) rfl rfl rfl (by omega) ?_
                refine w_goto ?_
                exact ih15 _ (by omega) (i + 1) f2 (some (.inl (f ((10 * i) + c).toNat))) rfl (some (.inl j)) rfl u38_5 hu38_5 rfl (by omega) (by exact q_sh_end (by omega) (by omega) hf2 (by omega))
              · refine w_loc rfl ?_
                refine w_getR (q := 132) is_130 rf_130_3 ?_
                refine w_loc rfl ?_
                refine w_pure rfl ?_
                refine w_imulc (by omega) ?_
                refine w_loc rfl ?_
                refine w_iadd (by omega) ?_
                refine w_iald (v := f2 ((10 * c) + j).toNat) is_132 ln_132 ⟨by omega, by omega⟩ rfl ?_
                refine w_loc (ls' := [some (.inr (.inl 130)), some (.inl c), some (.inl i), some (.inl (f ((10 * i) + c).toNat)), some (.inl j), some (.inl (f2 ((10 * c) + j).toNat))]) (st' := []) rfl ?_
                refine w_loc rfl ?_
                refine w_ldcv (v := 1000000000) rfl ?_
                refine w_ieq (fun h6 => ?_) (fun h6 => ?_)
                · refine pz_G_of pz_b58_109 ?_
                  refine w_iinc (ls' := [some (.inr (.inl 130)), some (.inl c), some (.inl i), some (.inl (f ((10 * i) + c).toNat)), some (.inl (j + 1)), some (.inl (f2 ((10 * c) + j).toNat))]) rfl rfl rfl (by omega) ?_
                  refine w_goto ?_
                  exact ih38 _ (by omega) (j + 1) f2 (some (.inl (f2 ((10 * c) + j).toNat))) rfl rfl (by omega) (by first | exact q_sh_up (by omega) (by omega) hf2 (by rw [q_cs_y (by omega) (by omega) (by omega) (by omega)]; omega) | exact q_sh_no (by omega) (by omega) hf2 (by rw [q_cs_n (by omega) (by omega) (by omega)]))
                · refine w_loc rfl ?_
                  refine w_loc rfl ?_
                  refine w_iadd (by omega) ?_
                  refine w_loc rfl ?_
                  refine w_getR (q := 132) is_130 rf_130_3 ?_
                  refine w_loc rfl ?_
                  refine w_pure rfl ?_
                  refine w_imulc (by omega) ?_
                  refine w_loc rfl ?_
                  refine w_iadd (by omega) ?_
                  refine w_iald (v := f2 ((10 * i) + j).toNat) is_132 ln_132 ⟨by omega, by omega⟩ rfl ?_
                  refine w_ige (fun h7 => ?_) (fun h7 => ?_)
                  · refine pz_G_of pz_b58_109 ?_
                    refine w_iinc (ls' := [some (.inr (.inl 130)), some (.inl c), some (.inl i), some (.inl (f ((10 * i) + c).toNat)), some (.inl (j + 1)), some (.inl (f2 ((10 * c) + j).toNat))]) rfl rfl rfl (by omega) ?_
                    refine w_goto ?_
                    exact ih38 _ (by omega) (j + 1) f2 (some (.inl (f2 ((10 * c) + j).toNat))) rfl rfl (by omega) (by first | exact q_sh_up (by omega) (by omega) hf2 (by rw [q_cs_y (by omega) (by omega) (by omega) (by omega)]; omega) | exact q_sh_no (by omega) (by omega) hf2 (by rw [q_cs_n (by omega) (by omega) (by omega)]))
                  · refine w_loc rfl ?_
                    refine w_getR (q := 132) is_130 rf_130_3 ?_
                    refine w_loc rfl ?_
                    refine w_pure rfl ?_
                    refine w_imulc (by omega) ?_
                    refine w_loc rfl ?_
                    refine w_iadd (by omega) ?_
                    refine w_loc rfl ?_
                    refine w_loc rfl ?_
                    refine w_iadd (by omega) ?_
                    refine w_iastm (iv2 := pz_u1 iv 132 (pz_up f2 ((10 * i) + j).toNat ((f ((10 * i) + c).toNat) + (f2 ((10 * c) + j).toNat)))) is_132 ln_132 ⟨by omega, by omega⟩ (by exact pz_u2_top _ _ _ _ _) ?_
                    refine w_nil ?_
                    refine pz_G_of pz_b58_109 ?_
                    refine w_iinc (ls' := [some (.inr (.inl 130)), some (.inl c), some (.inl i), some (.inl (f ((10 * i) + c).toNat)), some (.inl (j + 1)), some (.inl (f2 ((10 * c) + j).toNat))]) rfl rfl rfl (by omega) ?_
                    refine w_goto ?_
                    exact ih38 _ (by omega) (j + 1) (pz_up f2 ((10 * i) + j).toNat ((f ((10 * i) + c).toNat) + (f2 ((10 * c) + j).toNat))) (some (.inl (f2 ((10 * c) + j).toNat))) rfl rfl (by omega) (by first | exact q_sh_up (by omega) (by omega) hf2 (by rw [q_cs_y (by omega) (by omega) (by omega) (by omega)]; omega) | exact q_sh_no (by omega) (by omega) hf2 (by rw [q_cs_n (by omega) (by omega) (by omega)]))
          exact lp38 _ 0 f u15_5 hu15_5 rfl (by omega) (by intro n; rw [hf n, show 10 * i + 0 = 10 * i by omega])
      exact lp15 _ 0 (iv 132) (none) rfl (none) rfl (none) rfl rfl (by omega) (by intro n; rw [if_neg (by omega)])
    · refine w_nil ?_
      refine pz_G_of pz_b58_12 ?_
      refine w_vret ?_
      first | exact lf_v (by rw [show f = q_cs (iv 130 0) c (iv 132) from by funext n; rw [hf n]; split; rfl; (by_cases g : n < 100; (rw [show n = (10 * ((n / 10 : Nat) : Int) + ((n % 10 : Nat) : Int)).toNat by omega, q_cs_n (by omega) (by omega) (by omega)]); (unfold q_cs; rw [if_neg (fun q => g q.1.1)]))]) | (exfalso; omega)

theorem s_X5_close_130 {L : Nat} {iv : Nat → Nat → Int} {z : Int} (hz : (iv 130) 0 = z ∧ 1 ≤ z ∧ z ≤ 10) (hcw : q_cw z (q_cp 100 (iv 131) (iv 132))) : pz_R (pz_Sh L) 56 [.inr (.inl 130)] iv (.inl none) (pz_u1 (pz_u1 iv 130 (pz_up (iv 130) 1 (pz_bi (q_okc z (q_cI z (q_cz z (q_cp 100 (iv 131) (iv 132))) (q_cp 100 (iv 131) (iv 132))))))) 132 (q_cI z (q_cz z (q_cp 100 (iv 131) (iv 132))) (q_cp 100 (iv 131) (iv 132)))) := by
  intro dv cc ss
  refine pz_G_mem (iv2 := pz_u1 (pz_u1 iv 130 (iv 130)) 132 (iv 132)) (by exact ((pz_u1_self iv 130).symm).trans (pz_u1_self (pz_u1 iv 130 (iv 130)) 132).symm) ?_
  show pz_G 56 0 [some (.inr (.inl 130)), none] [] (pz_Sh L, pz_u1 (pz_u1 iv 130 (iv 130)) 132 (iv 132), dv, cc, ss) (pz_P (pz_Sh L) (.inl none) (pz_u1 (pz_u1 iv 130 (pz_up (iv 130) 1 (pz_bi (q_okc z (q_cI z (q_cz z (q_cp 100 (iv 131) (iv 132))) (q_cp 100 (iv 131) (iv 132))))))) 132 (q_cI z (q_cz z (q_cp 100 (iv 131) (iv 132))) (q_cp 100 (iv 131) (iv 132)))) dv cc ss)
  refine pz_G_of pz_b56_0 ?_
  refine w_loc rfl ?_
  refine w_getR (q := 131) is_130 rf_130_2 ?_
  refine w_pure rfl ?_
  refine w_loc rfl ?_
  refine w_getR (q := 132) is_130 rf_130_3 ?_
  refine w_pure rfl ?_
  refine w_pure rfl ?_
  refine w_cpym (K := 20) (iv2 := pz_u1 (pz_u1 iv 130 (iv 130)) 132 (q_cp 100 (iv 131) (iv 132))) rfl is_131 is_132 (by decide) (by decide) ln_131 ln_132 (by decide) (by decide) (by show pz_u1 (pz_u1 (pz_u1 iv 130 (iv 130)) 132 (iv 132)) 132 (q_cp 100 (iv 131) (iv 132)) = _; rw [pz_u1_top]) ?_
  refine w_loc rfl ?_
  refine w_loc rfl ?_
  have hc1 : pz_R (pz_Sh L) 57 [.inr (.inl 130)] (pz_u1 (pz_u1 iv 130 (iv 130)) 132 (q_cp 100 (iv 131) (iv 132))) (.inl (some (.inl (pz_bi (q_exi (fun i => (q_cp 100 (iv 131) (iv 132)) (10 * i + i).toNat < 0) ((iv 130) 0)))))) (pz_u1 (pz_u1 iv 130 (iv 130)) 132 (q_cp 100 (iv 131) (iv 132))) := s_X5_hasLoopBelowZero_130 (by show 1 ≤ (iv 130) 0 ∧ (iv 130) 0 ≤ 10; first | omega | assumption)
  refine w_call hc1 rfl (pz_cokI is_130 rfl) ?_
  refine w_bne (fun h2 => ?_) (fun h2 => ?_)
  · refine pz_G_of pz_b56_27 ?_
    refine w_pure rfl ?_
    refine w_nil ?_
    refine pz_G_of pz_b56_28 ?_
    refine w_putIm (iv2 := pz_u1 (pz_u1 iv 130 (pz_up (iv 130) 1 0)) 132 (q_cp 100 (iv 131) (iv 132))) is_130 (pz_fit1 (Or.inl rfl)) (by rw [pz_u2_in (r := 130) (q := 132) (by decide)]; rw [pz_u2_top] <;> rfl) ?_
    refine w_pure rfl ?_
    refine w_loc (ls' := [some (.inr (.inl 130)), some (.inl 0)]) (st' := []) rfl ?_
    refine w_nil ?_
    have lp33 : ∀ (dd : Nat) (m : Int) (w : Nat → Int) (f : Nat → Int) , (z - m).toNat = dd → ∀ (hm : 0 ≤ m ∧ m ≤ z), ∀ (hf : f = q_cI z m (q_cp 100 (iv 131) (iv 132))), ∀ (hw : w = pz_up (iv 130) 1 (pz_bi (q_okc z f))), ∀ (hok : ∀ c : Int, 0 ≤ c → c < m → q_okc z (q_cI z c (q_cp 100 (iv 131) (iv 132)))),  pz_G 56 33 [some (.inr (.inl 130)), some (.inl m)] [] (pz_Sh L, pz_u1 (pz_u1 iv 130 w) 132 f, dv, cc, ss) (pz_P (pz_Sh L) (.inl none) (pz_u1 (pz_u1 iv 130 (pz_up (iv 130) 1 (pz_bi (q_okc z (q_cI z (q_cz z (q_cp 100 (iv 131) (iv 132))) (q_cp 100 (iv 131) (iv 132))))))) 132 (q_cI z (q_cz z (q_cp 100 (iv 131) (iv 132))) (q_cp 100 (iv 131) (iv 132)))) dv cc ss) := by
      intro dd33
      induction dd33 using Nat.strongRecOn with
      | _ dd33 ih33 =>
      intro m w f  hd33 hm hf hw hok
      have hw0 : w 0 = z := by
        rw [hw, pz_up_ne (by decide)]; exact hz.1
      have hw1 : w 1 = pz_bi (q_okc z f) := by
        rw [hw, pz_up_eq]
      have hw2 : w 1 ≠ 0 → q_okc z f := fun h => pz_bi_ne (by rw [← hw1]; exact h)
      have hw3 : w 1 = 0 → ¬ q_okc z f := fun h => pz_bi_eq (by rw [← hw1]; exact h)
      have hok2 : w 1 ≠ 0 → ∀ c1 : Int, 0 ≤ c1 → c1 ≤ m → q_okc z (q_cI z c1 (q_cp 100 (iv 131) (iv 132))) := by
        intro h c1 g1 g2
        by_cases g3 : c1 = m
        · rw [g3, ← hf]; exact hw2 h
        · exact hok c1 g1 (by omega)
      have hbf : w 1 ≠ 0 → m < z → q_bnd f := by
        intro h h2
        rw [hf]; exact hcw m hm.1 h2 (hok2 h)
      refine pz_G_of pz_b56_33 ?_
      refine w_loc rfl ?_
      refine w_loc rfl ?_
      refine w_getI (v := w 0) is_130 (by decide) rfl ?_
      refine w_ige (fun h3 => ?_) (fun h3 => ?_)
      · refine pz_G_of pz_b56_75 ?_
        refine w_vret ?_
        first | exact lf_v (by rw [q_cz_is (z := z) (r := (q_cp 100 (iv 131) (iv 132))) (m := m) ⟨hm.1, hm.2, hok, by first | exact Or.inl (by omega) | exact Or.inr (by rw [← hf]; exact hw3 (by assumption))⟩, ← hf, ← hw]) | (exfalso; omega)
      · refine w_loc rfl ?_
        refine w_getI (v := w 1) is_130 (by decide) rfl ?_
        refine w_zeq (fun h4 => ?_) (fun h4 => ?_)
        · refine pz_G_of pz_b56_75 ?_
          refine w_vret ?_
          first | exact lf_v (by rw [q_cz_is (z := z) (r := (q_cp 100 (iv 131) (iv 132))) (m := m) ⟨hm.1, hm.2, hok, by first | exact Or.inl (by omega) | exact Or.inr (by rw [← hf]; exact hw3 (by assumption))⟩, ← hf, ← hw]) | (exfalso; omega)
        · refine w_loc rfl ?_
          refine w_loc rfl ?_
          have hc5 : pz_R (pz_Sh L) 58 [.inr (.inl 130), .inl m] (pz_u1 (pz_u1 iv 130 w) 132 f) (.inl none) (pz_u1 (pz_u1 iv 130 w) 132 (q_cs (w 0) m f)) := pz_R_mem (s_X5_shortenOver_130 m (by show 1 ≤ w 0 ∧ w 0 ≤ 10; first | omega | assumption) (by show 0 ≤ m ∧ m < (w 0); omega) (by show q_bnd f; exact hbf (by assumption) (by omega)) (by show 0 ≤ f (10 * m + m).toNat; exact hw2 (by assumption) m (by omega) (by omega))) (by rw [pz_u1_top (r := 132)]; rfl)
          refine w_callv hc5 rfl (pz_cokI is_130 rfl) ?_
          refine w_loc rfl ?_
          refine w_loc rfl ?_
          have hc6 : pz_R (pz_Sh L) 57 [.inr (.inl 130)] (pz_u1 (pz_u1 iv 130 w) 132 (q_cs (w 0) m f)) (.inl (some (.inl (pz_bi (q_exi (fun i => (q_cs (w 0) m f) (10 * i + i).toNat < 0) (w 0)))))) (pz_u1 (pz_u1 iv 130 w) 132 (q_cs (w 0) m f)) := s_X5_hasLoopBelowZero_130 (by show 1 ≤ w 0 ∧ w 0 ≤ 10; first | omega | assumption)
          refine w_call hc6 rfl (pz_cokI is_130 rfl) ?_
          refine w_bne (fun h7 => ?_) (fun h7 => ?_)
          · refine pz_G_of pz_b56_65 ?_
            refine w_pure rfl ?_
            refine w_nil ?_
            refine pz_G_of pz_b56_66 ?_
            refine w_putIm (iv2 := pz_u1 (pz_u1 iv 130 (pz_up w 1 0)) 132 (q_cs (w 0) m f)) is_130 (pz_fit1 (Or.inl rfl)) (by rw [pz_u2_in (r := 130) (q := 132) (by decide)]; rw [pz_u2_top] <;> rfl) ?_
            refine w_iinc (ls' := [some (.inr (.inl 130)), some (.inl (m + 1))]) rfl rfl rfl (by omega) ?_
            refine w_goto ?_
            exact ih33 _ (by omega) (m + 1) (pz_up w 1 0) (q_cs (w 0) m f)  rfl (by omega) (by rw [q_cI_s (by omega), ← hf]; rw [hw0]) (by rw [hw0]; rw [hw]; (first | rw [pz_bi_1 (p := q_okc _ (q_cs _ _ _)) (q_okc_exi.mp (by rw [← hw0]; assumption))] | rw [pz_bi_0 (p := q_okc _ (q_cs _ _ _)) (fun q => absurd (by rw [← hw0]; assumption) (q_okc_exi.mpr q))]); funext j; rw [pz_up_at, pz_up_at, pz_up_at]; split <;> rfl) (by intro c g1 g2; exact hok2 (by assumption) c g1 (by omega))
          · refine w_pure rfl ?_
            refine w_goto ?_
            refine pz_G_of pz_b56_66 ?_
            refine w_putIm (iv2 := pz_u1 (pz_u1 iv 130 (pz_up w 1 1)) 132 (q_cs (w 0) m f)) is_130 (pz_fit1 (Or.inr rfl)) (by rw [pz_u2_in (r := 130) (q := 132) (by decide)]; rw [pz_u2_top] <;> rfl) ?_
            refine w_iinc (ls' := [some (.inr (.inl 130)), some (.inl (m + 1))]) rfl rfl rfl (by omega) ?_
            refine w_goto ?_
            exact ih33 _ (by omega) (m + 1) (pz_up w 1 1) (q_cs (w 0) m f)  rfl (by omega) (by rw [q_cI_s (by omega), ← hf]; rw [hw0]) (by rw [hw0]; rw [hw]; (first | rw [pz_bi_1 (p := q_okc _ (q_cs _ _ _)) (q_okc_exi.mp (by rw [← hw0]; assumption))] | rw [pz_bi_0 (p := q_okc _ (q_cs _ _ _)) (fun q => absurd (by rw [← hw0]; assumption) (q_okc_exi.mpr q))]); funext j; rw [pz_up_at, pz_up_at, pz_up_at]; split <;> rfl) (by intro c g1 g2; exact hok2 (by assumption) c g1 (by omega))
    exact lp33 _ 0 (pz_up (iv 130) 1 0) (q_cp 100 (iv 131) (iv 132))  rfl (by omega) (by rfl) (by rw [← hz.1]; first | rw [pz_bi_1 (q_okc_exi.mp (by assumption))] | rw [pz_bi_0 (fun q => absurd (by assumption) (q_okc_exi.mpr q))]) (by intro c g1 g2; omega)
  · refine w_pure rfl ?_
    refine w_goto ?_
    refine pz_G_of pz_b56_28 ?_
    refine w_putIm (iv2 := pz_u1 (pz_u1 iv 130 (pz_up (iv 130) 1 1)) 132 (q_cp 100 (iv 131) (iv 132))) is_130 (pz_fit1 (Or.inr rfl)) (by rw [pz_u2_in (r := 130) (q := 132) (by decide)]; rw [pz_u2_top] <;> rfl) ?_
    refine w_pure rfl ?_
    refine w_loc (ls' := [some (.inr (.inl 130)), some (.inl 0)]) (st' := []) rfl ?_
    refine w_nil ?_
    have lp33 : ∀ (dd : Nat) (m : Int) (w : Nat → Int) (f : Nat → Int) , (z - m).toNat = dd → ∀ (hm : 0 ≤ m ∧ m ≤ z), ∀ (hf : f = q_cI z m (q_cp 100 (iv 131) (iv 132))), ∀ (hw : w = pz_up (iv 130) 1 (pz_bi (q_okc z f))), ∀ (hok : ∀ c : Int, 0 ≤ c → c < m → q_okc z (q_cI z c (q_cp 100 (iv 131) (iv 132)))),  pz_G 56 33 [some (.inr (.inl 130)), some (.inl m)] [] (pz_Sh L, pz_u1 (pz_u1 iv 130 w) 132 f, dv, cc, ss) (pz_P (pz_Sh L) (.inl none) (pz_u1 (pz_u1 iv 130 (pz_up (iv 130) 1 (pz_bi (q_okc z (q_cI z (q_cz z (q_cp 100 (iv 131) (iv 132))) (q_cp 100 (iv 131) (iv 132))))))) 132 (q_cI z (q_cz z (q_cp 100 (iv 131) (iv 132))) (q_cp 100 (iv 131) (iv 132)))) dv cc ss) := by
      intro dd33
      induction dd33 using Nat.strongRecOn with
      | _ dd33 ih33 =>
      intro m w f  hd33 hm hf hw hok
      have hw0 : w 0 = z := by
        rw [hw, pz_up_ne (by decide)]; exact hz.1
      have hw1 : w 1 = pz_bi (q_okc z f) := by
        rw [hw, pz_up_eq]
      have hw2 : w 1 ≠ 0 → q_okc z f := fun h => pz_bi_ne (by rw [← hw1]; exact h)
      have hw3 : w 1 = 0 → ¬ q_okc z f := fun h => pz_bi_eq (by rw [← hw1]; exact h)
      have hok2 : w 1 ≠ 0 → ∀ c1 : Int, 0 ≤ c1 → c1 ≤ m → q_okc z (q_cI z c1 (q_cp 100 (iv 131) (iv 132))) := by
        intro h c1 g1 g2
        by_cases g3 : c1 = m
        · rw [g3, ← hf]; exact hw2 h
        · exact hok c1 g1 (by omega)
      have hbf : w 1 ≠ 0 → m < z → q_bnd f := by
        intro h h2
        rw [hf]; exact hcw m hm.1 h2 (hok2 h)
      refine pz_G_of pz_b56_33 ?_
      refine w_loc rfl ?_
      refine w_loc rfl ?_
      refine w_getI (v := w 0) is_130 (by decide) rfl ?_
      refine w_ige (fun h8 => ?_) (fun h8 => ?_)
      · refine pz_G_of pz_b56_75 ?_
        refine w_vret ?_
        first | exact lf_v (by rw [q_cz_is (z := z) (r := (q_cp 100 (iv 131) (iv 132))) (m := m) ⟨hm.1, hm.2, hok, by first | exact Or.inl (by omega) | exact Or.inr (by rw [← hf]; exact hw3 (by assumption))⟩, ← hf, ← hw]) | (exfalso; omega)
      · refine w_loc rfl ?_
        refine w_getI (v := w 1) is_130 (by decide) rfl ?_
        refine w_zeq (fun h9 => ?_) (fun h9 => ?_)
        · refine pz_G_of pz_b56_75 ?_
          refine w_vret ?_
          first | exact lf_v (by rw [q_cz_is (z := z) (r := (q_cp 100 (iv 131) (iv 132))) (m := m) ⟨hm.1, hm.2, hok, by first | exact Or.inl (by omega) | exact Or.inr (by rw [← hf]; exact hw3 (by assumption))⟩, ← hf, ← hw]) | (exfalso; omega)
        · refine w_loc rfl ?_
          refine w_loc rfl ?_
          have hc10 : pz_R (pz_Sh L) 58 [.inr (.inl 130), .inl m] (pz_u1 (pz_u1 iv 130 w) 132 f) (.inl none) (pz_u1 (pz_u1 iv 130 w) 132 (q_cs (w 0) m f)) := pz_R_mem (s_X5_shortenOver_130 m (by show 1 ≤ w 0 ∧ w 0 ≤ 10; first | omega | assumption) (by show 0 ≤ m ∧ m < (w 0); omega) (by show q_bnd f; exact hbf (by assumption) (by omega)) (by show 0 ≤ f (10 * m + m).toNat; exact hw2 (by assumption) m (by omega) (by omega))) (by rw [pz_u1_top (r := 132)]; rfl)
          refine w_callv hc10 rfl (pz_cokI is_130 rfl) ?_
          refine w_loc rfl ?_
          refine w_loc rfl ?_
          have hc11 : pz_R (pz_Sh L) 57 [.inr (.inl 130)] (pz_u1 (pz_u1 iv 130 w) 132 (q_cs (w 0) m f)) (.inl (some (.inl (pz_bi (q_exi (fun i => (q_cs (w 0) m f) (10 * i + i).toNat < 0) (w 0)))))) (pz_u1 (pz_u1 iv 130 w) 132 (q_cs (w 0) m f)) := s_X5_hasLoopBelowZero_130 (by show 1 ≤ w 0 ∧ w 0 ≤ 10; first | omega | assumption)
          refine w_call hc11 rfl (pz_cokI is_130 rfl) ?_
          refine w_bne (fun h12 => ?_) (fun h12 => ?_)
          · refine pz_G_of pz_b56_65 ?_
            refine w_pure rfl ?_
            refine w_nil ?_
            refine pz_G_of pz_b56_66 ?_
            refine w_putIm (iv2 := pz_u1 (pz_u1 iv 130 (pz_up w 1 0)) 132 (q_cs (w 0) m f)) is_130 (pz_fit1 (Or.inl rfl)) (by rw [pz_u2_in (r := 130) (q := 132) (by decide)]; rw [pz_u2_top] <;> rfl) ?_
            refine w_iinc (ls' := [some (.inr (.inl 130)), some (.inl (m + 1))]) rfl rfl rfl (by omega) ?_
            refine w_goto ?_
            exact ih33 _ (by omega) (m + 1) (pz_up w 1 0) (q_cs (w 0) m f)  rfl (by omega) (by rw [q_cI_s (by omega), ← hf]; rw [hw0]) (by rw [hw0]; rw [hw]; (first | rw [pz_bi_1 (p := q_okc _ (q_cs _ _ _)) (q_okc_exi.mp (by rw [← hw0]; assumption))] | rw [pz_bi_0 (p := q_okc _ (q_cs _ _ _)) (fun q => absurd (by rw [← hw0]; assumption) (q_okc_exi.mpr q))]); funext j; rw [pz_up_at, pz_up_at, pz_up_at]; split <;> rfl) (by intro c g1 g2; exact hok2 (by assumption) c g1 (by omega))
          · refine w_pure rfl ?_
            refine w_goto ?_
            refine pz_G_of pz_b56_66 ?_
            refine w_putIm (iv2 := pz_u1 (pz_u1 iv 130 (pz_up w 1 1)) 132 (q_cs (w 0) m f)) is_130 (pz_fit1 (Or.inr rfl)) (by rw [pz_u2_in (r := 130) (q := 132) (by decide)]; rw [pz_u2_top] <;> rfl) ?_
            refine w_iinc (ls' := [some (.inr (.inl 130)), some (.inl (m + 1))]) rfl rfl rfl (by omega) ?_
            refine w_goto ?_
            exact ih33 _ (by omega) (m + 1) (pz_up w 1 1) (q_cs (w 0) m f)  rfl (by omega) (by rw [q_cI_s (by omega), ← hf]; rw [hw0]) (by rw [hw0]; rw [hw]; (first | rw [pz_bi_1 (p := q_okc _ (q_cs _ _ _)) (q_okc_exi.mp (by rw [← hw0]; assumption))] | rw [pz_bi_0 (p := q_okc _ (q_cs _ _ _)) (fun q => absurd (by rw [← hw0]; assumption) (q_okc_exi.mpr q))]); funext j; rw [pz_up_at, pz_up_at, pz_up_at]; split <;> rfl) (by intro c g1 g2; exact hok2 (by assumption) c g1 (by omega))
    exact lp33 _ 0 (pz_up (iv 130) 1 1) (q_cp 100 (iv 131) (iv 132))  rfl (by omega) (by rfl) (by rw [← hz.1]; first | rw [pz_bi_1 (q_okc_exi.mp (by assumption))] | rw [pz_bi_0 (fun q => absurd (by assumption) (q_okc_exi.mpr q))]) (by intro c g1 g2; omega)

theorem s_X5_clear_138 {L : Nat} {iv : Nat → Nat → Int} (e : Int) (he : 1 ≤ e ∧ e ≤ 10) : pz_R (pz_Sh L) 53 [.inr (.inl 138), .inl e] iv (.inl none) (pz_u1 (pz_u1 iv 138 (pz_up (iv 138) 0 e)) 139 (q_ncl e (iv 139))) := by
  intro dv cc ss
  refine pz_G_mem (iv2 := pz_u1 (pz_u1 iv 138 (iv 138)) 139 (iv 139)) (by exact ((pz_u1_self iv 138).symm).trans (pz_u1_self (pz_u1 iv 138 (iv 138)) 139).symm) ?_
  show pz_G 53 0 [some (.inr (.inl 138)), some (.inl e), none] [] (pz_Sh L, pz_u1 (pz_u1 iv 138 (iv 138)) 139 (iv 139), dv, cc, ss) (pz_P (pz_Sh L) (.inl none) (pz_u1 (pz_u1 iv 138 (pz_up (iv 138) 0 e)) 139 (q_ncl e (iv 139))) dv cc ss)
  refine pz_G_of pz_b53_0 ?_
  refine w_loc rfl ?_
  refine w_pure rfl ?_
  refine w_loc rfl ?_
  refine w_pure rfl ?_
  have hc1 : pz_R (pz_Sh L) 2 [.inl e, .inl 10] (pz_u1 (pz_u1 iv 138 (iv 138)) 139 (iv 139)) (.inl (some (.inl (min e 10)))) (pz_u1 (pz_u1 iv 138 (iv 138)) 139 (iv 139)) := s_J_min e 10
  refine w_call hc1 rfl rfl ?_
  have hc2 : pz_R (pz_Sh L) 1 [.inl 0, .inl (min e 10)] (pz_u1 (pz_u1 iv 138 (iv 138)) 139 (iv 139)) (.inl (some (.inl (max 0 (min e 10))))) (pz_u1 (pz_u1 iv 138 (iv 138)) 139 (iv 139)) := s_J_max 0 (min e 10)
  refine w_call hc2 rfl rfl ?_
  refine w_putIm (iv2 := pz_u1 (pz_u1 iv 138 (pz_up (iv 138) 0 (max 0 (min e 10)))) 139 (iv 139)) is_138 pz_fit0 (by rw [pz_u2_in (r := 138) (q := 139) (by decide)]; rw [pz_u2_top] <;> rfl) ?_
  refine w_pure rfl ?_
  refine w_loc (ls' := [some (.inr (.inl 138)), some (.inl e), some (.inl 0)]) (st' := []) rfl ?_
  refine w_nil ?_
  have lp16 : ∀ (dd : Nat) (c : Int) (f : Nat → Int) , (100 - c).toNat = dd → ∀ (hc : 0 ≤ c ∧ c ≤ 100), ∀ (hf : ∀ j : Nat, f j = if (j : Int) < c then 1000000000 else iv 139 j),  pz_G 53 16 [some (.inr (.inl 138)), some (.inl e), some (.inl c)] [] (pz_Sh L, pz_u1 (pz_u1 iv 138 (pz_up (iv 138) 0 (max 0 (min e 10)))) 139 f, dv, cc, ss) (pz_P (pz_Sh L) (.inl none) (pz_u1 (pz_u1 iv 138 (pz_up (iv 138) 0 e)) 139 (q_ncl e (iv 139))) dv cc ss) := by
    intro dd16
    induction dd16 using Nat.strongRecOn with
    | _ dd16 ih16 =>
    intro c f  hd16 hc hf
    refine pz_G_of pz_b53_16 ?_
    refine w_loc rfl ?_
    refine w_pure rfl ?_
    refine w_ige (fun h3 => ?_) (fun h3 => ?_)
    · refine pz_G_of pz_b53_36 ?_
      refine w_pure rfl ?_
      refine w_loc (ls' := [some (.inr (.inl 138)), some (.inl e), some (.inl 0)]) (st' := []) rfl ?_
      refine w_nil ?_
      have lp38 : ∀ (dd : Nat) (i : Int) (f2 : Nat → Int) , (10 - i).toNat = dd → ∀ (hi : 0 ≤ i ∧ i ≤ e), ∀ (hf2 : ∀ j : Nat, f2 j = if j < 100 then (if j % 11 = 0 ∧ (j : Int) < 11 * i then 0 else 1000000000) else iv 139 j),  pz_G 53 38 [some (.inr (.inl 138)), some (.inl e), some (.inl i)] [] (pz_Sh L, pz_u1 (pz_u1 iv 138 (pz_up (iv 138) 0 (max 0 (min e 10)))) 139 f2, dv, cc, ss) (pz_P (pz_Sh L) (.inl none) (pz_u1 (pz_u1 iv 138 (pz_up (iv 138) 0 e)) 139 (q_ncl e (iv 139))) dv cc ss) := by
        intro dd38
        induction dd38 using Nat.strongRecOn with
        | _ dd38 ih38 =>
        intro i f2  hd38 hi hf2
        refine pz_G_of pz_b53_38 ?_
        refine w_loc rfl ?_
        refine w_loc rfl ?_
        refine w_getI (v := max 0 (min e 10)) is_138 (by decide) rfl ?_
        refine w_ige (fun h4 => ?_) (fun h4 => ?_)
        · refine pz_G_of pz_b53_64 ?_
          refine w_vret ?_
          first | exact lf_v (by rw [show max 0 (min e 10) = e by omega, show f2 = q_ncl e (iv 139) from by funext j; rw [hf2 j, show i = e by omega]; rfl]) | (exfalso; omega)
        · refine w_loc rfl ?_
          refine w_getR (q := 139) is_138 rf_138_2 ?_
          refine w_loc rfl ?_
          refine w_pure rfl ?_
          refine w_imulc (by omega) ?_
          refine w_loc rfl ?_
          refine w_iadd (by omega) ?_
          refine w_pure rfl ?_
          refine w_iastm (iv2 := pz_u1 (pz_u1 iv 138 (pz_up (iv 138) 0 (max 0 (min e 10)))) 139 (pz_up f2 ((10 * i) + i).toNat 0)) is_139 ln_139 ⟨by omega, by omega⟩ (by exact pz_u2_top _ _ _ _ _) ?_
          refine w_iinc (ls' := [some (.inr (.inl 138)), some (.inl e), some (.inl (i + 1))]) rfl rfl rfl (by omega) ?_
          refine w_goto ?_
          exact ih38 _ (by omega) (i + 1) (pz_up f2 ((10 * i) + i).toNat 0)  rfl (by omega) (by intro j; rw [pz_up_at, hf2 j]; (repeat' split) <;> first | rfl | omega)
      exact lp38 _ 0 f  rfl (by omega) (by intro j; rw [hf j]; (repeat' split) <;> first | rfl | omega)
    · refine w_loc rfl ?_
      refine w_getR (q := 139) is_138 rf_138_2 ?_
      refine w_loc rfl ?_
      refine w_ldcv (v := 1000000000) rfl ?_
      refine w_iastm (iv2 := pz_u1 (pz_u1 iv 138 (pz_up (iv 138) 0 (max 0 (min e 10)))) 139 (pz_up f c.toNat 1000000000)) is_139 ln_139 ⟨by omega, by omega⟩ (by exact pz_u2_top _ _ _ _ _) ?_
      refine w_iinc (ls' := [some (.inr (.inl 138)), some (.inl e), some (.inl (c + 1))]) rfl rfl rfl (by omega) ?_
      refine w_goto ?_
      exact ih16 _ (by omega) (c + 1) (pz_up f c.toNat 1000000000)  rfl (by omega) (by intro j; rw [pz_up_at, hf j]; (repeat' split) <;> first | rfl | omega)
  exact lp16 _ 0 (iv 139)  rfl (by omega) (by intro j; rw [if_neg (by omega)])

theorem s_X5_addEdge_138 {L : Nat} {iv : Nat → Nat → Int} (i : Int) (j : Int) (w : Int) (hi : 0 ≤ i ∧ i ≤ 9) (hj : 0 ≤ j ∧ j ≤ 9) : pz_R (pz_Sh L) 54 [.inr (.inl 138), .inl i, .inl j, .inl w] iv (.inl none) (pz_u1 iv 139 (q_eg (iv 139) i j w)) := by
  intro dv cc ss
  refine pz_G_mem (iv2 := pz_u1 iv 139 (iv 139)) (by exact (pz_u1_self iv 139).symm) ?_
  show pz_G 54 0 [some (.inr (.inl 138)), some (.inl i), some (.inl j), some (.inl w), none] [] (pz_Sh L, pz_u1 iv 139 (iv 139), dv, cc, ss) (pz_P (pz_Sh L) (.inl none) (pz_u1 iv 139 (q_eg (iv 139) i j w)) dv cc ss)
  refine pz_G_of pz_b54_0 ?_
  refine w_loc rfl ?_
  refine w_zlt (fun h1 => ?_) (fun h1 => ?_)
  · refine pz_G_of pz_b54_24 ?_
    refine w_pure rfl ?_
    refine w_nil ?_
    refine pz_G_of pz_b54_25 ?_
    refine w_loc (ls' := [some (.inr (.inl 138)), some (.inl i), some (.inl j), some (.inl w), some (.inl 0)]) (st' := []) rfl ?_
    refine w_loc rfl ?_
    refine w_zeq (fun _ => ?_) (fun h => absurd h (by decide))
    refine pz_G_of pz_b54_59 ?_
    refine w_vret ?_
    first | (exfalso; omega) | exact lf_v (by unfold q_eg q_lw; first | rw [q_if_t (by omega)] | (rw [q_if_f (by omega)]))
  · refine w_loc rfl ?_
    refine w_pure rfl ?_
    refine w_ige (fun h2 => ?_) (fun h2 => ?_)
    · refine pz_G_of pz_b54_24 ?_
      refine w_pure rfl ?_
      refine w_nil ?_
      refine pz_G_of pz_b54_25 ?_
      refine w_loc (ls' := [some (.inr (.inl 138)), some (.inl i), some (.inl j), some (.inl w), some (.inl 0)]) (st' := []) rfl ?_
      refine w_loc rfl ?_
      refine w_zeq (fun _ => ?_) (fun h => absurd h (by decide))
      refine pz_G_of pz_b54_59 ?_
      refine w_vret ?_
      first | (exfalso; omega) | exact lf_v (by unfold q_eg q_lw; first | rw [q_if_t (by omega)] | (rw [q_if_f (by omega)]))
    · refine w_loc rfl ?_
      refine w_zlt (fun h3 => ?_) (fun h3 => ?_)
      · refine pz_G_of pz_b54_24 ?_
        refine w_pure rfl ?_
        refine w_nil ?_
        refine pz_G_of pz_b54_25 ?_
        refine w_loc (ls' := [some (.inr (.inl 138)), some (.inl i), some (.inl j), some (.inl w), some (.inl 0)]) (st' := []) rfl ?_
        refine w_loc rfl ?_
        refine w_zeq (fun _ => ?_) (fun h => absurd h (by decide))
        refine pz_G_of pz_b54_59 ?_
        refine w_vret ?_
        first | (exfalso; omega) | exact lf_v (by unfold q_eg q_lw; first | rw [q_if_t (by omega)] | (rw [q_if_f (by omega)]))
      · refine w_loc rfl ?_
        refine w_pure rfl ?_
        refine w_ige (fun h4 => ?_) (fun h4 => ?_)
        · refine pz_G_of pz_b54_24 ?_
          refine w_pure rfl ?_
          refine w_nil ?_
          refine pz_G_of pz_b54_25 ?_
          refine w_loc (ls' := [some (.inr (.inl 138)), some (.inl i), some (.inl j), some (.inl w), some (.inl 0)]) (st' := []) rfl ?_
          refine w_loc rfl ?_
          refine w_zeq (fun _ => ?_) (fun h => absurd h (by decide))
          refine pz_G_of pz_b54_59 ?_
          refine w_vret ?_
          first | (exfalso; omega) | exact lf_v (by unfold q_eg q_lw; first | rw [q_if_t (by omega)] | (rw [q_if_f (by omega)]))
        · refine w_pure rfl ?_
          refine w_goto ?_
          refine pz_G_of pz_b54_25 ?_
          refine w_loc (ls' := [some (.inr (.inl 138)), some (.inl i), some (.inl j), some (.inl w), some (.inl 1)]) (st' := []) rfl ?_
          refine w_loc rfl ?_
          refine w_zeq (fun h => absurd h (by decide)) (fun _ => ?_)
          refine w_loc rfl ?_
          refine w_loc rfl ?_
          refine w_getR (q := 139) is_138 rf_138_2 ?_
          refine w_loc rfl ?_
          refine w_pure rfl ?_
          refine w_imulc (by omega) ?_
          refine w_loc rfl ?_
          refine w_iadd (by omega) ?_
          refine w_iald (v := (iv 139) ((10 * i) + j).toNat) is_139 ln_139 ⟨by omega, by omega⟩ rfl ?_
          refine w_ige (fun h5 => ?_) (fun h5 => ?_)
          · refine pz_G_of pz_b54_59 ?_
            refine w_vret ?_
            first | (exfalso; omega) | exact lf_v (by unfold q_eg q_lw; first | rw [q_if_t (by omega)] | (rw [q_if_f (by omega)]))
          · refine w_loc rfl ?_
            refine w_getR (q := 139) is_138 rf_138_2 ?_
            refine w_loc rfl ?_
            refine w_pure rfl ?_
            refine w_imulc (by omega) ?_
            refine w_loc rfl ?_
            refine w_iadd (by omega) ?_
            refine w_loc rfl ?_
            refine w_iastm (iv2 := pz_u1 iv 139 (pz_up (iv 139) ((10 * i) + j).toNat w)) is_139 ln_139 ⟨by omega, by omega⟩ (by exact pz_u2_top _ _ _ _ _) ?_
            refine w_nil ?_
            refine pz_G_of pz_b54_59 ?_
            refine w_vret ?_
            first | (exfalso; omega) | exact lf_v (by unfold q_eg q_lw; first | rw [q_if_t (by omega)] | (rw [q_if_f (by omega)]))

theorem s_X5_addGap_138 {L : Nat} {iv : Nat → Nat → Int} (i : Int) (j : Int) (l : Int) (g : Int) (hi : 0 ≤ i ∧ i ≤ 9) (hj : 0 ≤ j ∧ j ≤ 9) (hl : -100000 ≤ l ∧ l ≤ 100000) : pz_R (pz_Sh L) 55 [.inr (.inl 138), .inl i, .inl j, .inl l, .inl g] iv (.inl none) (pz_u1 iv 139 (q_eg (q_eg (iv 139) i j g) j i (-l))) := by
  intro dv cc ss
  refine pz_G_mem (iv2 := pz_u1 iv 139 (iv 139)) (by exact (pz_u1_self iv 139).symm) ?_
  show pz_G 55 0 [some (.inr (.inl 138)), some (.inl i), some (.inl j), some (.inl l), some (.inl g)] [] (pz_Sh L, pz_u1 iv 139 (iv 139), dv, cc, ss) (pz_P (pz_Sh L) (.inl none) (pz_u1 iv 139 (q_eg (q_eg (iv 139) i j g) j i (-l))) dv cc ss)
  refine pz_G_of pz_b55_0 ?_
  refine w_loc rfl ?_
  refine w_loc rfl ?_
  refine w_loc rfl ?_
  refine w_loc rfl ?_
  have hc1 : pz_R (pz_Sh L) 54 [.inr (.inl 138), .inl i, .inl j, .inl g] (pz_u1 iv 139 (iv 139)) (.inl none) (pz_u1 iv 139 (q_eg (iv 139) i j g)) := pz_R_mem (s_X5_addEdge_138 i j g (by show 0 ≤ i ∧ i ≤ 9; omega) (by show 0 ≤ j ∧ j ≤ 9; omega)) (by rw [pz_u1_top (r := 139)]; rfl)
  refine w_callv hc1 rfl (pz_cokI is_138 rfl) ?_
  refine w_loc rfl ?_
  refine w_loc rfl ?_
  refine w_loc rfl ?_
  refine w_loc rfl ?_
  refine w_ineg (by omega) ?_
  have hc2 : pz_R (pz_Sh L) 54 [.inr (.inl 138), .inl j, .inl i, .inl (-l)] (pz_u1 iv 139 (q_eg (iv 139) i j g)) (.inl none) (pz_u1 iv 139 (q_eg (q_eg (iv 139) i j g) j i (-l))) := pz_R_mem (s_X5_addEdge_138 j i (-l) (by show 0 ≤ j ∧ j ≤ 9; omega) (by show 0 ≤ i ∧ i ≤ 9; omega)) (by rw [pz_u1_top (r := 139)]; rfl)
  refine w_callv hc2 rfl (pz_cokI is_138 rfl) ?_
  refine w_vret ?_
  first | exact lf_v (by rfl) | (exfalso; omega)

theorem s_X5_hasLoopBelowZero_138 {L : Nat} {iv : Nat → Nat → Int} (hz : 1 ≤ (iv 138) 0 ∧ (iv 138) 0 ≤ 10) : pz_R (pz_Sh L) 57 [.inr (.inl 138)] iv (.inl (some (.inl (pz_bi (q_exi (fun i => (iv 140) (10 * i + i).toNat < 0) ((iv 138) 0)))))) iv := by
  intro dv cc ss
  show pz_G 57 0 [some (.inr (.inl 138)), none] [] (pz_Sh L, iv, dv, cc, ss) (pz_P (pz_Sh L) (.inl (some (.inl (pz_bi (q_exi (fun i => (iv 140) (10 * i + i).toNat < 0) ((iv 138) 0)))))) iv dv cc ss)
  refine pz_G_of pz_b57_0 ?_
  refine w_pure rfl ?_
  refine w_loc (ls' := [some (.inr (.inl 138)), some (.inl 0)]) (st' := []) rfl ?_
  refine w_nil ?_
  have lp2 : ∀ (dd : Nat) (i : Int) , (iv 138 0 - i).toNat = dd → ∀ (hi : 0 ≤ i ∧ i ≤ iv 138 0), ∀ (hno : ∀ j : Int, 0 ≤ j → j < i → ¬ iv 140 (10 * j + j).toNat < 0),  pz_G 57 2 [some (.inr (.inl 138)), some (.inl i)] [] (pz_Sh L, iv, dv, cc, ss) (pz_P (pz_Sh L) (.inl (some (.inl (pz_bi (q_exi (fun i => (iv 140) (10 * i + i).toNat < 0) ((iv 138) 0)))))) iv dv cc ss) := by
    intro dd2
    induction dd2 using Nat.strongRecOn with
    | _ dd2 ih2 =>
    intro i  hd2 hi hno
    refine pz_G_of pz_b57_2 ?_
    refine w_loc rfl ?_
    refine w_loc rfl ?_
    refine w_getI (v := (iv 138) 0) is_138 (by decide) rfl ?_
    refine w_ige (fun h1 => ?_) (fun h1 => ?_)
    · refine pz_G_of pz_b57_32 ?_
      refine w_pure rfl ?_
      refine w_ret (pz_rok1 (Or.inl rfl)) ?_
      first | exact lf_i (pz_bi_t ⟨i, by omega, by omega, by assumption⟩) rfl | exact lf_i (pz_bi_f (fun ⟨j, g1, g2, g3⟩ => hno j g1 (by omega) g3)) rfl
    · refine w_loc rfl ?_
      refine w_getR (q := 140) is_138 rf_138_3 ?_
      refine w_loc rfl ?_
      refine w_pure rfl ?_
      refine w_imulc (by omega) ?_
      refine w_loc rfl ?_
      refine w_iadd (by omega) ?_
      refine w_iald (v := (iv 140) ((10 * i) + i).toNat) is_140 ln_140 ⟨by omega, by omega⟩ rfl ?_
      refine w_zge (fun h2 => ?_) (fun h2 => ?_)
      · refine pz_G_of pz_b57_26 ?_
        refine w_iinc (ls' := [some (.inr (.inl 138)), some (.inl (i + 1))]) rfl rfl rfl (by omega) ?_
        refine w_goto ?_
        exact ih2 _ (by omega) (i + 1)  rfl (by omega) (by intro j g1 g2; by_cases g3 : j = i; (rw [g3]; omega); exact hno j g1 (by omega))
      · refine w_pure rfl ?_
        refine w_ret (pz_rok1 (Or.inr rfl)) ?_
        first | exact lf_i (pz_bi_t ⟨i, by omega, by omega, by assumption⟩) rfl | exact lf_i (pz_bi_f (fun ⟨j, g1, g2, g3⟩ => hno j g1 (by omega) g3)) rfl
  exact lp2 _ 0  rfl (by omega) (by intro j g1 g2; omega)

theorem s_X5_shortenOver_138 {L : Nat} {iv : Nat → Nat → Int} (c : Int) (hz : 1 ≤ (iv 138) 0 ∧ (iv 138) 0 ≤ 10) (hc : 0 ≤ c ∧ c < ((iv 138) 0)) (hb : q_bnd (iv 140)) (hcc : 0 ≤ (iv 140) (10 * c + c).toNat) : pz_R (pz_Sh L) 58 [.inr (.inl 138), .inl c] iv (.inl none) (pz_u1 iv 140 (q_cs ((iv 138) 0) c (iv 140))) := by
  intro dv cc ss
  refine pz_G_mem (iv2 := pz_u1 iv 140 (iv 140)) (by exact (pz_u1_self iv 140).symm) ?_
  show pz_G 58 0 [some (.inr (.inl 138)), some (.inl c), none, none, none, none] [] (pz_Sh L, pz_u1 iv 140 (iv 140), dv, cc, ss) (pz_P (pz_Sh L) (.inl none) (pz_u1 iv 140 (q_cs ((iv 138) 0) c (iv 140))) dv cc ss)
  refine pz_G_of pz_b58_0 ?_
  refine w_loc rfl ?_
  refine w_zlt (fun h1 => ?_) (fun h1 => ?_)
  · refine pz_G_of pz_b58_12 ?_
    refine w_vret ?_
    first | exact lf_v (by rw [show f = q_cs (iv 138 0) c (iv 140) from by funext n; rw [hf n]; split; rfl; (by_cases g : n < 100; (rw [show n = (10 * ((n / 10 : Nat) : Int) + ((n % 10 : Nat) : Int)).toNat by omega, q_cs_n (by omega) (by omega) (by omega)]); (unfold q_cs; rw [if_neg (fun q => g q.1.1)]))]) | (exfalso; omega)
  · refine w_loc rfl ?_
    refine w_loc rfl ?_
    refine w_getI (v := (iv 138) 0) is_138 (by decide) rfl ?_
    refine w_ilt (fun h2 => ?_) (fun h2 => ?_)
    · refine pz_G_of pz_b58_13 ?_
      refine w_pure rfl ?_
      refine w_loc (ls' := [some (.inr (.inl 138)), some (.inl c), some (.inl 0), none, none, none]) (st' := []) rfl ?_
      refine w_nil ?_
      have lp15 : ∀ (dd : Nat) (i : Int) (f : Nat → Int) (u15_3 : Option pz_V) (hu15_3 : pz_nc u15_3 = true) (u15_4 : Option pz_V) (hu15_4 : pz_nc u15_4 = true) (u15_5 : Option pz_V) (hu15_5 : pz_nc u15_5 = true), (iv 138 0 - i).toNat = dd → ∀ (hi : 0 ≤ i ∧ i ≤ iv 138 0), ∀ (hf : ∀ n : Nat, f n = if (n : Int) < 10 * i then q_cs (iv 138 0) c (iv 140) n else iv 140 n),  pz_G 58 15 [some (.inr (.inl 138)), some (.inl c), some (.inl i), u15_3, u15_4, u15_5] [] (pz_Sh L, pz_u1 iv 140 f, dv, cc, ss) (pz_P (pz_Sh L) (.inl none) (pz_u1 iv 140 (q_cs ((iv 138) 0) c (iv 140))) dv cc ss) := by
        intro dd15
        induction dd15 using Nat.strongRecOn with
        | _ dd15 ih15 =>
        intro i f u15_3 hu15_3 u15_4 hu15_4 u15_5 hu15_5 hd15 hi hf
        have hfi : i < iv 138 0 → f (10 * i + c).toNat = iv 140 (10 * i + c).toNat := by
          intro h
          rw [hf, if_neg (by omega)]
        refine pz_G_of pz_b58_15 ?_
        refine w_loc rfl ?_
        refine w_loc rfl ?_
        refine w_getI (v := (iv 138) 0) is_138 (by decide) rfl ?_
        refine w_ige (fun h3 => ?_) (fun h3 => ?_)
        · refine pz_G_of pz_b58_121 ?_
          refine w_vret ?_
          first | exact lf_v (by rw [show f = q_cs (iv 138 0) c (iv 140) from by funext n; rw [hf n]; split; rfl; (by_cases g : n < 100; (rw [show n = (10 * ((n / 10 : Nat) : Int) + ((n % 10 : Nat) : Int)).toNat by omega, q_cs_n (by omega) (by omega) (by omega)]); (unfold q_cs; rw [if_neg (fun q => g q.1.1)]))]) | (exfalso; omega)
        · refine w_loc rfl ?_
          refine w_getR (q := 140) is_138 rf_138_3 ?_
          refine w_loc rfl ?_
          refine w_pure rfl ?_
          refine w_imulc (by omega) ?_
          refine w_loc rfl ?_
          refine w_iadd (by omega) ?_
          refine w_iald (v := f ((10 * i) + c).toNat) is_140 ln_140 ⟨by omega, by omega⟩ rfl ?_
          refine w_loc (ls' := [some (.inr (.inl 138)), some (.inl c), some (.inl i), some (.inl (f ((10 * i) + c).toNat)), u15_4, u15_5]) (st' := []) rfl ?_
          refine w_pure rfl ?_
          refine w_loc (ls' := [some (.inr (.inl 138)), some (.inl c), some (.inl i), some (.inl (f ((10 * i) + c).toNat)), some (.inl 0), u15_5]) (st' := []) rfl ?_
          refine w_nil ?_
          have lp38 : ∀ (dd : Nat) (j : Int) (f2 : Nat → Int) (u38_5 : Option pz_V) (hu38_5 : pz_nc u38_5 = true), (iv 138 0 - j).toNat = dd → ∀ (hj : 0 ≤ j ∧ j ≤ iv 138 0), ∀ (hf2 : ∀ n : Nat, f2 n = if (n : Int) < 10 * i + j then q_cs (iv 138 0) c (iv 140) n else iv 140 n),  pz_G 58 38 [some (.inr (.inl 138)), some (.inl c), some (.inl i), some (.inl (f ((10 * i) + c).toNat)), some (.inl j), u38_5] [] (pz_Sh L, pz_u1 iv 140 f2, dv, cc, ss) (pz_P (pz_Sh L) (.inl none) (pz_u1 iv 140 (q_cs ((iv 138) 0) c (iv 140))) dv cc ss) := by
            intro dd38
            induction dd38 using Nat.strongRecOn with
            | _ dd38 ih38 =>
            intro j f2 u38_5 hu38_5 hd38 hj hf2
            have hfi2 := hfi (by omega)
            have hcj : j < iv 138 0 → f2 (10 * c + j).toNat = iv 140 (10 * c + j).toNat := by
              intro h
              rw [hf2]; split
              · exact q_cs_n hc.1 (by omega) (fun ⟨_, _, _, _, g⟩ => by omega)
              · rfl
            have hij : f2 (10 * i + j).toNat = iv 140 (10 * i + j).toNat := by
              rw [hf2, if_neg (by omega)]
            have hb1 := hb (10 * i + c).toNat (by omega)
            have hb2 := fun h => hb (10 * c + j).toNat h
            refine pz_G_of pz_b58_38 ?_
            refine w_loc rfl ?_
            refine w_ldcv (v := 1000000000) rfl ?_
            refine w_ieq (fun h4 => ?_) (fun h4 => ?_)
            · refine pz_G_of pz_b58_115 ?_
              refine w_iinc (ls' := [some (.inr (.inl 138)), some (.inl c), some (.inl (i + 1)), some (.inl (f ((10 * i) + c).toNat)), some (.inl j), u38_5]) rfl rfl rfl (by omega) ?_
              refine w_goto ?_
              exact ih15 _ (by omega) (i + 1) f2 (some (.inl (f ((10 * i) + c).toNat))) rfl (some (.inl j)) rfl u38_5 hu38_5 rfl (by omega) (by exact q_sh_end (by omega) (by omega) hf2 (by omega))
            · refine w_loc rfl ?_
              refine w_loc rfl ?_
              refine w_getI (v := (iv 138) 0) is_138 (by decide) rfl ?_
              refine w_ige (fun h5 => ?_) (fun h5 => ?_)
              · refine pz_G_of pz_b58_115 ?_
                refine w_iinc (ls' := [some (.inr (.inl 138)), some (.inl c), some (.inl (i + 1)), some (.inl (f ((10 * i) + c).toNat)), some (.inl j), u38_5]) rfl rfl rfl (by omega) ?_
                refine w_goto ?_
                exact ih15 _ (by omega) (i + 1) f2 (some (.inl (f ((10 * i) + c).toNat))) rfl (some (.inl j)) rfl u38_5 hu38_5 rfl (by omega) (by exact q_sh_end (by omega) (by omega) hf2 (by omega))
              · refine w_loc rfl ?_
                refine w_getR (q := 140) is_138 rf_138_3 ?_
                refine w_loc rfl ?_
                refine w_pure rfl ?_
                refine w_imulc (by omega) ?_
                refine w_loc rfl ?_
                refine w_iadd (by omega) ?_
                refine w_iald (v := f2 ((10 * c) + j).toNat) is_140 ln_140 ⟨by omega, by omega⟩ rfl ?_
                refine w_loc (ls' := [some (.inr (.inl 138)), some (.inl c), some (.inl i), some (.inl (f ((10 * i) + c).toNat)), some (.inl j), some (.inl (f2 ((10 * c) + j).toNat))]) (st' := []) rfl ?_
                refine w_loc rfl ?_
                refine w_ldcv (v := 1000000000) rfl ?_
                refine w_ieq (fun h6 => ?_) (fun h6 => ?_)
                · refine pz_G_of pz_b58_109 ?_
                  refine w_iinc (ls' := [some (.inr (.inl 138)), some (.inl c), some (.inl i), some (.inl (f ((10 * i) + c).toNat)), some (.inl (j + 1)), some (.inl (f2 ((10 * c) + j).toNat))]) rfl rfl rfl (by omega) ?_
                  refine w_goto ?_
                  exact ih38 _ (by omega) (j + 1) f2 (some (.inl (f2 ((10 * c) + j).toNat))) rfl rfl (by omega) (by first | exact q_sh_up (by omega) (by omega) hf2 (by rw [q_cs_y (by omega) (by omega) (by omega) (by omega)]; omega) | exact q_sh_no (by omega) (by omega) hf2 (by rw [q_cs_n (by omega) (by omega) (by omega)]))
                · refine w_loc rfl ?_
                  refine w_loc rfl ?_
                  refine w_iadd (by omega) ?_
                  refine w_loc rfl ?_
                  refine w_getR (q := 140) is_138 rf_138_3 ?_
                  refine w_loc rfl ?_
                  refine w_pure rfl ?_
                  refine w_imulc (by omega) ?_
                  refine w_loc rfl ?_
                  refine w_iadd (by omega) ?_
                  refine w_iald (v := f2 ((10 * i) + j).toNat) is_140 ln_140 ⟨by omega, by omega⟩ rfl ?_
                  refine w_ige (fun h7 => ?_) (fun h7 => ?_)
                  · refine pz_G_of pz_b58_109 ?_
                    refine w_iinc (ls' := [some (.inr (.inl 138)), some (.inl c), some (.inl i), some (.inl (f ((10 * i) + c).toNat)), some (.inl (j + 1)), some (.inl (f2 ((10 * c) + j).toNat))]) rfl rfl rfl (by omega) ?_
                    refine w_goto ?_
                    exact ih38 _ (by omega) (j + 1) f2 (some (.inl (f2 ((10 * c) + j).toNat))) rfl rfl (by omega) (by first | exact q_sh_up (by omega) (by omega) hf2 (by rw [q_cs_y (by omega) (by omega) (by omega) (by omega)]; omega) | exact q_sh_no (by omega) (by omega) hf2 (by rw [q_cs_n (by omega) (by omega) (by omega)]))
                  · refine w_loc rfl ?_
                    refine w_getR (q := 140) is_138 rf_138_3 ?_
                    refine w_loc rfl ?_
                    refine w_pure rfl ?_
                    refine w_imulc (by omega) ?_
                    refine w_loc rfl ?_
                    refine w_iadd (by omega) ?_
                    refine w_loc rfl ?_
                    refine w_loc rfl ?_
                    refine w_iadd (by omega) ?_
                    refine w_iastm (iv2 := pz_u1 iv 140 (pz_up f2 ((10 * i) + j).toNat ((f ((10 * i) + c).toNat) + (f2 ((10 * c) + j).toNat)))) is_140 ln_140 ⟨by omega, by omega⟩ (by exact pz_u2_top _ _ _ _ _) ?_
                    refine w_nil ?_
                    refine pz_G_of pz_b58_109 ?_
                    refine w_iinc (ls' := [some (.inr (.inl 138)), some (.inl c), some (.inl i), some (.inl (f ((10 * i) + c).toNat)), some (.inl (j + 1)), some (.inl (f2 ((10 * c) + j).toNat))]) rfl rfl rfl (by omega) ?_
                    refine w_goto ?_
                    exact ih38 _ (by omega) (j + 1) (pz_up f2 ((10 * i) + j).toNat ((f ((10 * i) + c).toNat) + (f2 ((10 * c) + j).toNat))) (some (.inl (f2 ((10 * c) + j).toNat))) rfl rfl (by omega) (by first | exact q_sh_up (by omega) (by omega) hf2 (by rw [q_cs_y (by omega) (by omega) (by omega) (by omega)]; omega) | exact q_sh_no (by omega) (by omega) hf2 (by rw [q_cs_n (by omega) (by omega) (by omega)]))
          exact lp38 _ 0 f u15_5 hu15_5 rfl (by omega) (by intro n; rw [hf n, show 10 * i + 0 = 10 * i by omega])
      exact lp15 _ 0 (iv 140) (none) rfl (none) rfl (none) rfl rfl (by omega) (by intro n; rw [if_neg (by omega)])
    · refine w_nil ?_
      refine pz_G_of pz_b58_12 ?_
      refine w_vret ?_
      first | exact lf_v (by rw [show f = q_cs (iv 138 0) c (iv 140) from by funext n; rw [hf n]; split; rfl; (by_cases g : n < 100; (rw [show n = (10 * ((n / 10 : Nat) : Int) + ((n % 10 : Nat) : Int)).toNat by omega, q_cs_n (by omega) (by omega) (by omega)]); (unfold q_cs; rw [if_neg (fun q => g q.1.1)]))]) | (exfalso; omega)

theorem s_X5_close_138 {L : Nat} {iv : Nat → Nat → Int} {z : Int} (hz : (iv 138) 0 = z ∧ 1 ≤ z ∧ z ≤ 10) (hcw : q_cw z (q_cp 100 (iv 139) (iv 140))) : pz_R (pz_Sh L) 56 [.inr (.inl 138)] iv (.inl none) (pz_u1 (pz_u1 iv 138 (pz_up (iv 138) 1 (pz_bi (q_okc z (q_cI z (q_cz z (q_cp 100 (iv 139) (iv 140))) (q_cp 100 (iv 139) (iv 140))))))) 140 (q_cI z (q_cz z (q_cp 100 (iv 139) (iv 140))) (q_cp 100 (iv 139) (iv 140)))) := by
  intro dv cc ss
  refine pz_G_mem (iv2 := pz_u1 (pz_u1 iv 138 (iv 138)) 140 (iv 140)) (by exact ((pz_u1_self iv 138).symm).trans (pz_u1_self (pz_u1 iv 138 (iv 138)) 140).symm) ?_
  show pz_G 56 0 [some (.inr (.inl 138)), none] [] (pz_Sh L, pz_u1 (pz_u1 iv 138 (iv 138)) 140 (iv 140), dv, cc, ss) (pz_P (pz_Sh L) (.inl none) (pz_u1 (pz_u1 iv 138 (pz_up (iv 138) 1 (pz_bi (q_okc z (q_cI z (q_cz z (q_cp 100 (iv 139) (iv 140))) (q_cp 100 (iv 139) (iv 140))))))) 140 (q_cI z (q_cz z (q_cp 100 (iv 139) (iv 140))) (q_cp 100 (iv 139) (iv 140)))) dv cc ss)
  refine pz_G_of pz_b56_0 ?_
  refine w_loc rfl ?_
  refine w_getR (q := 139) is_138 rf_138_2 ?_
  refine w_pure rfl ?_
  refine w_loc rfl ?_
  refine w_getR (q := 140) is_138 rf_138_3 ?_
  refine w_pure rfl ?_
  refine w_pure rfl ?_
  refine w_cpym (K := 20) (iv2 := pz_u1 (pz_u1 iv 138 (iv 138)) 140 (q_cp 100 (iv 139) (iv 140))) rfl is_139 is_140 (by decide) (by decide) ln_139 ln_140 (by decide) (by decide) (by show pz_u1 (pz_u1 (pz_u1 iv 138 (iv 138)) 140 (iv 140)) 140 (q_cp 100 (iv 139) (iv 140)) = _; rw [pz_u1_top]) ?_
  refine w_loc rfl ?_
  refine w_loc rfl ?_
  have hc1 : pz_R (pz_Sh L) 57 [.inr (.inl 138)] (pz_u1 (pz_u1 iv 138 (iv 138)) 140 (q_cp 100 (iv 139) (iv 140))) (.inl (some (.inl (pz_bi (q_exi (fun i => (q_cp 100 (iv 139) (iv 140)) (10 * i + i).toNat < 0) ((iv 138) 0)))))) (pz_u1 (pz_u1 iv 138 (iv 138)) 140 (q_cp 100 (iv 139) (iv 140))) := s_X5_hasLoopBelowZero_138 (by show 1 ≤ (iv 138) 0 ∧ (iv 138) 0 ≤ 10; first | omega | assumption)
  refine w_call hc1 rfl (pz_cokI is_138 rfl) ?_
  refine w_bne (fun h2 => ?_) (fun h2 => ?_)
  · refine pz_G_of pz_b56_27 ?_
    refine w_pure rfl ?_
    refine w_nil ?_
    refine pz_G_of pz_b56_28 ?_
    refine w_putIm (iv2 := pz_u1 (pz_u1 iv 138 (pz_up (iv 138) 1 0)) 140 (q_cp 100 (iv 139) (iv 140))) is_138 (pz_fit1 (Or.inl rfl)) (by rw [pz_u2_in (r := 138) (q := 140) (by decide)]; rw [pz_u2_top] <;> rfl) ?_
    refine w_pure rfl ?_
    refine w_loc (ls' := [some (.inr (.inl 138)), some (.inl 0)]) (st' := []) rfl ?_
    refine w_nil ?_
    have lp33 : ∀ (dd : Nat) (m : Int) (w : Nat → Int) (f : Nat → Int) , (z - m).toNat = dd → ∀ (hm : 0 ≤ m ∧ m ≤ z), ∀ (hf : f = q_cI z m (q_cp 100 (iv 139) (iv 140))), ∀ (hw : w = pz_up (iv 138) 1 (pz_bi (q_okc z f))), ∀ (hok : ∀ c : Int, 0 ≤ c → c < m → q_okc z (q_cI z c (q_cp 100 (iv 139) (iv 140)))),  pz_G 56 33 [some (.inr (.inl 138)), some (.inl m)] [] (pz_Sh L, pz_u1 (pz_u1 iv 138 w) 140 f, dv, cc, ss) (pz_P (pz_Sh L) (.inl none) (pz_u1 (pz_u1 iv 138 (pz_up (iv 138) 1 (pz_bi (q_okc z (q_cI z (q_cz z (q_cp 100 (iv 139) (iv 140))) (q_cp 100 (iv 139) (iv 140))))))) 140 (q_cI z (q_cz z (q_cp 100 (iv 139) (iv 140))) (q_cp 100 (iv 139) (iv 140)))) dv cc ss) := by
      intro dd33
      induction dd33 using Nat.strongRecOn with
      | _ dd33 ih33 =>
      intro m w f  hd33 hm hf hw hok
      have hw0 : w 0 = z := by
        rw [hw, pz_up_ne (by decide)]; exact hz.1
      have hw1 : w 1 = pz_bi (q_okc z f) := by
        rw [hw, pz_up_eq]
      have hw2 : w 1 ≠ 0 → q_okc z f := fun h => pz_bi_ne (by rw [← hw1]; exact h)
      have hw3 : w 1 = 0 → ¬ q_okc z f := fun h => pz_bi_eq (by rw [← hw1]; exact h)
      have hok2 : w 1 ≠ 0 → ∀ c1 : Int, 0 ≤ c1 → c1 ≤ m → q_okc z (q_cI z c1 (q_cp 100 (iv 139) (iv 140))) := by
        intro h c1 g1 g2
        by_cases g3 : c1 = m
        · rw [g3, ← hf]; exact hw2 h
        · exact hok c1 g1 (by omega)
      have hbf : w 1 ≠ 0 → m < z → q_bnd f := by
        intro h h2
        rw [hf]; exact hcw m hm.1 h2 (hok2 h)
      refine pz_G_of pz_b56_33 ?_
      refine w_loc rfl ?_
      refine w_loc rfl ?_
      refine w_getI (v := w 0) is_138 (by decide) rfl ?_
      refine w_ige (fun h3 => ?_) (fun h3 => ?_)
      · refine pz_G_of pz_b56_75 ?_
        refine w_vret ?_
        first | exact lf_v (by rw [q_cz_is (z := z) (r := (q_cp 100 (iv 139) (iv 140))) (m := m) ⟨hm.1, hm.2, hok, by first | exact Or.inl (by omega) | exact Or.inr (by rw [← hf]; exact hw3 (by assumption))⟩, ← hf, ← hw]) | (exfalso; omega)
      · refine w_loc rfl ?_
        refine w_getI (v := w 1) is_138 (by decide) rfl ?_
        refine w_zeq (fun h4 => ?_) (fun h4 => ?_)
        · refine pz_G_of pz_b56_75 ?_
          refine w_vret ?_
          first | exact lf_v (by rw [q_cz_is (z := z) (r := (q_cp 100 (iv 139) (iv 140))) (m := m) ⟨hm.1, hm.2, hok, by first | exact Or.inl (by omega) | exact Or.inr (by rw [← hf]; exact hw3 (by assumption))⟩, ← hf, ← hw]) | (exfalso; omega)
        · refine w_loc rfl ?_
          refine w_loc rfl ?_
          have hc5 : pz_R (pz_Sh L) 58 [.inr (.inl 138), .inl m] (pz_u1 (pz_u1 iv 138 w) 140 f) (.inl none) (pz_u1 (pz_u1 iv 138 w) 140 (q_cs (w 0) m f)) := pz_R_mem (s_X5_shortenOver_138 m (by show 1 ≤ w 0 ∧ w 0 ≤ 10; first | omega | assumption) (by show 0 ≤ m ∧ m < (w 0); omega) (by show q_bnd f; exact hbf (by assumption) (by omega)) (by show 0 ≤ f (10 * m + m).toNat; exact hw2 (by assumption) m (by omega) (by omega))) (by rw [pz_u1_top (r := 140)]; rfl)
          refine w_callv hc5 rfl (pz_cokI is_138 rfl) ?_
          refine w_loc rfl ?_
          refine w_loc rfl ?_
          have hc6 : pz_R (pz_Sh L) 57 [.inr (.inl 138)] (pz_u1 (pz_u1 iv 138 w) 140 (q_cs (w 0) m f)) (.inl (some (.inl (pz_bi (q_exi (fun i => (q_cs (w 0) m f) (10 * i + i).toNat < 0) (w 0)))))) (pz_u1 (pz_u1 iv 138 w) 140 (q_cs (w 0) m f)) := s_X5_hasLoopBelowZero_138 (by show 1 ≤ w 0 ∧ w 0 ≤ 10; first | omega | assumption)
          refine w_call hc6 rfl (pz_cokI is_138 rfl) ?_
          refine w_bne (fun h7 => ?_) (fun h7 => ?_)
          · refine pz_G_of pz_b56_65 ?_
            refine w_pure rfl ?_
            refine w_nil ?_
            refine pz_G_of pz_b56_66 ?_
            refine w_putIm (iv2 := pz_u1 (pz_u1 iv 138 (pz_up w 1 0)) 140 (q_cs (w 0) m f)) is_138 (pz_fit1 (Or.inl rfl)) (by rw [pz_u2_in (r := 138) (q := 140) (by decide)]; rw [pz_u2_top] <;> rfl) ?_
            refine w_iinc (ls' := [some (.inr (.inl 138)), some (.inl (m + 1))]) rfl rfl rfl (by omega) ?_
            refine w_goto ?_
            exact ih33 _ (by omega) (m + 1) (pz_up w 1 0) (q_cs (w 0) m f)  rfl (by omega) (by rw [q_cI_s (by omega), ← hf]; rw [hw0]) (by rw [hw0]; rw [hw]; (first | rw [pz_bi_1 (p := q_okc _ (q_cs _ _ _)) (q_okc_exi.mp (by rw [← hw0]; assumption))] | rw [pz_bi_0 (p := q_okc _ (q_cs _ _ _)) (fun q => absurd (by rw [← hw0]; assumption) (q_okc_exi.mpr q))]); funext j; rw [pz_up_at, pz_up_at, pz_up_at]; split <;> rfl) (by intro c g1 g2; exact hok2 (by assumption) c g1 (by omega))
          · refine w_pure rfl ?_
            refine w_goto ?_
            refine pz_G_of pz_b56_66 ?_
            refine w_putIm (iv2 := pz_u1 (pz_u1 iv 138 (pz_up w 1 1)) 140 (q_cs (w 0) m f)) is_138 (pz_fit1 (Or.inr rfl)) (by rw [pz_u2_in (r := 138) (q := 140) (by decide)]; rw [pz_u2_top] <;> rfl) ?_
            refine w_iinc (ls' := [some (.inr (.inl 138)), some (.inl (m + 1))]) rfl rfl rfl (by omega) ?_
            refine w_goto ?_
            exact ih33 _ (by omega) (m + 1) (pz_up w 1 1) (q_cs (w 0) m f)  rfl (by omega) (by rw [q_cI_s (by omega), ← hf]; rw [hw0]) (by rw [hw0]; rw [hw]; (first | rw [pz_bi_1 (p := q_okc _ (q_cs _ _ _)) (q_okc_exi.mp (by rw [← hw0]; assumption))] | rw [pz_bi_0 (p := q_okc _ (q_cs _ _ _)) (fun q => absurd (by rw [← hw0]; assumption) (q_okc_exi.mpr q))]); funext j; rw [pz_up_at, pz_up_at, pz_up_at]; split <;> rfl) (by intro c g1 g2; exact hok2 (by assumption) c g1 (by omega))
    exact lp33 _ 0 (pz_up (iv 138) 1 0) (q_cp 100 (iv 139) (iv 140))  rfl (by omega) (by rfl) (by rw [← hz.1]; first | rw [pz_bi_1 (q_okc_exi.mp (by assumption))] | rw [pz_bi_0 (fun q => absurd (by assumption) (q_okc_exi.mpr q))]) (by intro c g1 g2; omega)
  · refine w_pure rfl ?_
    refine w_goto ?_
    refine pz_G_of pz_b56_28 ?_
    refine w_putIm (iv2 := pz_u1 (pz_u1 iv 138 (pz_up (iv 138) 1 1)) 140 (q_cp 100 (iv 139) (iv 140))) is_138 (pz_fit1 (Or.inr rfl)) (by rw [pz_u2_in (r := 138) (q := 140) (by decide)]; rw [pz_u2_top] <;> rfl) ?_
    refine w_pure rfl ?_
    refine w_loc (ls' := [some (.inr (.inl 138)), some (.inl 0)]) (st' := []) rfl ?_
    refine w_nil ?_
    have lp33 : ∀ (dd : Nat) (m : Int) (w : Nat → Int) (f : Nat → Int) , (z - m).toNat = dd → ∀ (hm : 0 ≤ m ∧ m ≤ z), ∀ (hf : f = q_cI z m (q_cp 100 (iv 139) (iv 140))), ∀ (hw : w = pz_up (iv 138) 1 (pz_bi (q_okc z f))), ∀ (hok : ∀ c : Int, 0 ≤ c → c < m → q_okc z (q_cI z c (q_cp 100 (iv 139) (iv 140)))),  pz_G 56 33 [some (.inr (.inl 138)), some (.inl m)] [] (pz_Sh L, pz_u1 (pz_u1 iv 138 w) 140 f, dv, cc, ss) (pz_P (pz_Sh L) (.inl none) (pz_u1 (pz_u1 iv 138 (pz_up (iv 138) 1 (pz_bi (q_okc z (q_cI z (q_cz z (q_cp 100 (iv 139) (iv 140))) (q_cp 100 (iv 139) (iv 140))))))) 140 (q_cI z (q_cz z (q_cp 100 (iv 139) (iv 140))) (q_cp 100 (iv 139) (iv 140)))) dv cc ss) := by
      intro dd33
      induction dd33 using Nat.strongRecOn with
      | _ dd33 ih33 =>
      intro m w f  hd33 hm hf hw hok
      have hw0 : w 0 = z := by
        rw [hw, pz_up_ne (by decide)]; exact hz.1
      have hw1 : w 1 = pz_bi (q_okc z f) := by
        rw [hw, pz_up_eq]
      have hw2 : w 1 ≠ 0 → q_okc z f := fun h => pz_bi_ne (by rw [← hw1]; exact h)
      have hw3 : w 1 = 0 → ¬ q_okc z f := fun h => pz_bi_eq (by rw [← hw1]; exact h)
      have hok2 : w 1 ≠ 0 → ∀ c1 : Int, 0 ≤ c1 → c1 ≤ m → q_okc z (q_cI z c1 (q_cp 100 (iv 139) (iv 140))) := by
        intro h c1 g1 g2
        by_cases g3 : c1 = m
        · rw [g3, ← hf]; exact hw2 h
        · exact hok c1 g1 (by omega)
      have hbf : w 1 ≠ 0 → m < z → q_bnd f := by
        intro h h2
        rw [hf]; exact hcw m hm.1 h2 (hok2 h)
      refine pz_G_of pz_b56_33 ?_
      refine w_loc rfl ?_
      refine w_loc rfl ?_
      refine w_getI (v := w 0) is_138 (by decide) rfl ?_
      refine w_ige (fun h8 => ?_) (fun h8 => ?_)
      · refine pz_G_of pz_b56_75 ?_
        refine w_vret ?_
        first | exact lf_v (by rw [q_cz_is (z := z) (r := (q_cp 100 (iv 139) (iv 140))) (m := m) ⟨hm.1, hm.2, hok, by first | exact Or.inl (by omega) | exact Or.inr (by rw [← hf]; exact hw3 (by assumption))⟩, ← hf, ← hw]) | (exfalso; omega)
      · refine w_loc rfl ?_
        refine w_getI (v := w 1) is_138 (by decide) rfl ?_
        refine w_zeq (fun h9 => ?_) (fun h9 => ?_)
        · refine pz_G_of pz_b56_75 ?_
          refine w_vret ?_
          first | exact lf_v (by rw [q_cz_is (z := z) (r := (q_cp 100 (iv 139) (iv 140))) (m := m) ⟨hm.1, hm.2, hok, by first | exact Or.inl (by omega) | exact Or.inr (by rw [← hf]; exact hw3 (by assumption))⟩, ← hf, ← hw]) | (exfalso; omega)
        · refine w_loc rfl ?_
          refine w_loc rfl ?_
          have hc10 : pz_R (pz_Sh L) 58 [.inr (.inl 138), .inl m] (pz_u1 (pz_u1 iv 138 w) 140 f) (.inl none) (pz_u1 (pz_u1 iv 138 w) 140 (q_cs (w 0) m f)) := pz_R_mem (s_X5_shortenOver_138 m (by show 1 ≤ w 0 ∧ w 0 ≤ 10; first | omega | assumption) (by show 0 ≤ m ∧ m < (w 0); omega) (by show q_bnd f; exact hbf (by assumption) (by omega)) (by show 0 ≤ f (10 * m + m).toNat; exact hw2 (by assumption) m (by omega) (by omega))) (by rw [pz_u1_top (r := 140)]; rfl)
          refine w_callv hc10 rfl (pz_cokI is_138 rfl) ?_
          refine w_loc rfl ?_
          refine w_loc rfl ?_
          have hc11 : pz_R (pz_Sh L) 57 [.inr (.inl 138)] (pz_u1 (pz_u1 iv 138 w) 140 (q_cs (w 0) m f)) (.inl (some (.inl (pz_bi (q_exi (fun i => (q_cs (w 0) m f) (10 * i + i).toNat < 0) (w 0)))))) (pz_u1 (pz_u1 iv 138 w) 140 (q_cs (w 0) m f)) := s_X5_hasLoopBelowZero_138 (by show 1 ≤ w 0 ∧ w 0 ≤ 10; first | omega | assumption)
          refine w_call hc11 rfl (pz_cokI is_138 rfl) ?_
          refine w_bne (fun h12 => ?_) (fun h12 => ?_)
          · refine pz_G_of pz_b56_65 ?_
            refine w_pure rfl ?_
            refine w_nil ?_
            refine pz_G_of pz_b56_66 ?_
            refine w_putIm (iv2 := pz_u1 (pz_u1 iv 138 (pz_up w 1 0)) 140 (q_cs (w 0) m f)) is_138 (pz_fit1 (Or.inl rfl)) (by rw [pz_u2_in (r := 138) (q := 140) (by decide)]; rw [pz_u2_top] <;> rfl) ?_
            refine w_iinc (ls' := [some (.inr (.inl 138)), some (.inl (m + 1))]) rfl rfl rfl (by omega) ?_
            refine w_goto ?_
            exact ih33 _ (by omega) (m + 1) (pz_up w 1 0) (q_cs (w 0) m f)  rfl (by omega) (by rw [q_cI_s (by omega), ← hf]; rw [hw0]) (by rw [hw0]; rw [hw]; (first | rw [pz_bi_1 (p := q_okc _ (q_cs _ _ _)) (q_okc_exi.mp (by rw [← hw0]; assumption))] | rw [pz_bi_0 (p := q_okc _ (q_cs _ _ _)) (fun q => absurd (by rw [← hw0]; assumption) (q_okc_exi.mpr q))]); funext j; rw [pz_up_at, pz_up_at, pz_up_at]; split <;> rfl) (by intro c g1 g2; exact hok2 (by assumption) c g1 (by omega))
          · refine w_pure rfl ?_
            refine w_goto ?_
            refine pz_G_of pz_b56_66 ?_
            refine w_putIm (iv2 := pz_u1 (pz_u1 iv 138 (pz_up w 1 1)) 140 (q_cs (w 0) m f)) is_138 (pz_fit1 (Or.inr rfl)) (by rw [pz_u2_in (r := 138) (q := 140) (by decide)]; rw [pz_u2_top] <;> rfl) ?_
            refine w_iinc (ls' := [some (.inr (.inl 138)), some (.inl (m + 1))]) rfl rfl rfl (by omega) ?_
            refine w_goto ?_
            exact ih33 _ (by omega) (m + 1) (pz_up w 1 1) (q_cs (w 0) m f)  rfl (by omega) (by rw [q_cI_s (by omega), ← hf]; rw [hw0]) (by rw [hw0]; rw [hw]; (first | rw [pz_bi_1 (p := q_okc _ (q_cs _ _ _)) (q_okc_exi.mp (by rw [← hw0]; assumption))] | rw [pz_bi_0 (p := q_okc _ (q_cs _ _ _)) (fun q => absurd (by rw [← hw0]; assumption) (q_okc_exi.mpr q))]); funext j; rw [pz_up_at, pz_up_at, pz_up_at]; split <;> rfl) (by intro c g1 g2; exact hok2 (by assumption) c g1 (by omega))
    exact lp33 _ 0 (pz_up (iv 138) 1 1) (q_cp 100 (iv 139) (iv 140))  rfl (by omega) (by rfl) (by rw [← hz.1]; first | rw [pz_bi_1 (q_okc_exi.mp (by assumption))] | rw [pz_bi_0 (fun q => absurd (by assumption) (q_okc_exi.mpr q))]) (by intro c g1 g2; omega)

theorem s_X5_clear_147 {L : Nat} {iv : Nat → Nat → Int} (e : Int) (he : 1 ≤ e ∧ e ≤ 10) : pz_R (pz_Sh L) 53 [.inr (.inl 147), .inl e] iv (.inl none) (pz_u1 (pz_u1 iv 147 (pz_up (iv 147) 0 e)) 148 (q_ncl e (iv 148))) := by
  intro dv cc ss
  refine pz_G_mem (iv2 := pz_u1 (pz_u1 iv 147 (iv 147)) 148 (iv 148)) (by exact ((pz_u1_self iv 147).symm).trans (pz_u1_self (pz_u1 iv 147 (iv 147)) 148).symm) ?_
  show pz_G 53 0 [some (.inr (.inl 147)), some (.inl e), none] [] (pz_Sh L, pz_u1 (pz_u1 iv 147 (iv 147)) 148 (iv 148), dv, cc, ss) (pz_P (pz_Sh L) (.inl none) (pz_u1 (pz_u1 iv 147 (pz_up (iv 147) 0 e)) 148 (q_ncl e (iv 148))) dv cc ss)
  refine pz_G_of pz_b53_0 ?_
  refine w_loc rfl ?_
  refine w_pure rfl ?_
  refine w_loc rfl ?_
  refine w_pure rfl ?_
  have hc1 : pz_R (pz_Sh L) 2 [.inl e, .inl 10] (pz_u1 (pz_u1 iv 147 (iv 147)) 148 (iv 148)) (.inl (some (.inl (min e 10)))) (pz_u1 (pz_u1 iv 147 (iv 147)) 148 (iv 148)) := s_J_min e 10
  refine w_call hc1 rfl rfl ?_
  have hc2 : pz_R (pz_Sh L) 1 [.inl 0, .inl (min e 10)] (pz_u1 (pz_u1 iv 147 (iv 147)) 148 (iv 148)) (.inl (some (.inl (max 0 (min e 10))))) (pz_u1 (pz_u1 iv 147 (iv 147)) 148 (iv 148)) := s_J_max 0 (min e 10)
  refine w_call hc2 rfl rfl ?_
  refine w_putIm (iv2 := pz_u1 (pz_u1 iv 147 (pz_up (iv 147) 0 (max 0 (min e 10)))) 148 (iv 148)) is_147 pz_fit0 (by rw [pz_u2_in (r := 147) (q := 148) (by decide)]; rw [pz_u2_top] <;> rfl) ?_
  refine w_pure rfl ?_
  refine w_loc (ls' := [some (.inr (.inl 147)), some (.inl e), some (.inl 0)]) (st' := []) rfl ?_
  refine w_nil ?_
  have lp16 : ∀ (dd : Nat) (c : Int) (f : Nat → Int) , (100 - c).toNat = dd → ∀ (hc : 0 ≤ c ∧ c ≤ 100), ∀ (hf : ∀ j : Nat, f j = if (j : Int) < c then 1000000000 else iv 148 j),  pz_G 53 16 [some (.inr (.inl 147)), some (.inl e), some (.inl c)] [] (pz_Sh L, pz_u1 (pz_u1 iv 147 (pz_up (iv 147) 0 (max 0 (min e 10)))) 148 f, dv, cc, ss) (pz_P (pz_Sh L) (.inl none) (pz_u1 (pz_u1 iv 147 (pz_up (iv 147) 0 e)) 148 (q_ncl e (iv 148))) dv cc ss) := by
    intro dd16
    induction dd16 using Nat.strongRecOn with
    | _ dd16 ih16 =>
    intro c f  hd16 hc hf
    refine pz_G_of pz_b53_16 ?_
    refine w_loc rfl ?_
    refine w_pure rfl ?_
    refine w_ige (fun h3 => ?_) (fun h3 => ?_)
    · refine pz_G_of pz_b53_36 ?_
      refine w_pure rfl ?_
      refine w_loc (ls' := [some (.inr (.inl 147)), some (.inl e), some (.inl 0)]) (st' := []) rfl ?_
      refine w_nil ?_
      have lp38 : ∀ (dd : Nat) (i : Int) (f2 : Nat → Int) , (10 - i).toNat = dd → ∀ (hi : 0 ≤ i ∧ i ≤ e), ∀ (hf2 : ∀ j : Nat, f2 j = if j < 100 then (if j % 11 = 0 ∧ (j : Int) < 11 * i then 0 else 1000000000) else iv 148 j),  pz_G 53 38 [some (.inr (.inl 147)), some (.inl e), some (.inl i)] [] (pz_Sh L, pz_u1 (pz_u1 iv 147 (pz_up (iv 147) 0 (max 0 (min e 10)))) 148 f2, dv, cc, ss) (pz_P (pz_Sh L) (.inl none) (pz_u1 (pz_u1 iv 147 (pz_up (iv 147) 0 e)) 148 (q_ncl e (iv 148))) dv cc ss) := by
        intro dd38
        induction dd38 using Nat.strongRecOn with
        | _ dd38 ih38 =>
        intro i f2  hd38 hi hf2
        refine pz_G_of pz_b53_38 ?_
        refine w_loc rfl ?_
        refine w_loc rfl ?_
        refine w_getI (v := max 0 (min e 10)) is_147 (by decide) rfl ?_
        refine w_ige (fun h4 => ?_) (fun h4 => ?_)
        · refine pz_G_of pz_b53_64 ?_
          refine w_vret ?_
          first | exact lf_v (by rw [show max 0 (min e 10) = e by omega, show f2 = q_ncl e (iv 148) from by funext j; rw [hf2 j, show i = e by omega]; rfl]) | (exfalso; omega)
        · refine w_loc rfl ?_
          refine w_getR (q := 148) is_147 rf_147_2 ?_
          refine w_loc rfl ?_
          refine w_pure rfl ?_
          refine w_imulc (by omega) ?_
          refine w_loc rfl ?_
          refine w_iadd (by omega) ?_
          refine w_pure rfl ?_
          refine w_iastm (iv2 := pz_u1 (pz_u1 iv 147 (pz_up (iv 147) 0 (max 0 (min e 10)))) 148 (pz_up f2 ((10 * i) + i).toNat 0)) is_148 ln_148 ⟨by omega, by omega⟩ (by exact pz_u2_top _ _ _ _ _) ?_
          refine w_iinc (ls' := [some (.inr (.inl 147)), some (.inl e), some (.inl (i + 1))]) rfl rfl rfl (by omega) ?_
          refine w_goto ?_
          exact ih38 _ (by omega) (i + 1) (pz_up f2 ((10 * i) + i).toNat 0)  rfl (by omega) (by intro j; rw [pz_up_at, hf2 j]; (repeat' split) <;> first | rfl | omega)
      exact lp38 _ 0 f  rfl (by omega) (by intro j; rw [hf j]; (repeat' split) <;> first | rfl | omega)
    · refine w_loc rfl ?_
      refine w_getR (q := 148) is_147 rf_147_2 ?_
      refine w_loc rfl ?_
      refine w_ldcv (v := 1000000000) rfl ?_
      refine w_iastm (iv2 := pz_u1 (pz_u1 iv 147 (pz_up (iv 147) 0 (max 0 (min e 10)))) 148 (pz_up f c.toNat 1000000000)) is_148 ln_148 ⟨by omega, by omega⟩ (by exact pz_u2_top _ _ _ _ _) ?_
      refine w_iinc (ls' := [some (.inr (.inl 147)), some (.inl e), some (.inl (c + 1))]) rfl rfl rfl (by omega) ?_
      refine w_goto ?_
      exact ih16 _ (by omega) (c + 1) (pz_up f c.toNat 1000000000)  rfl (by omega) (by intro j; rw [pz_up_at, hf j]; (repeat' split) <;> first | rfl | omega)
  exact lp16 _ 0 (iv 148)  rfl (by omega) (by intro j; rw [if_neg (by omega)])

theorem s_X5_addEdge_147 {L : Nat} {iv : Nat → Nat → Int} (i : Int) (j : Int) (w : Int) (hi : 0 ≤ i ∧ i ≤ 9) (hj : 0 ≤ j ∧ j ≤ 9) : pz_R (pz_Sh L) 54 [.inr (.inl 147), .inl i, .inl j, .inl w] iv (.inl none) (pz_u1 iv 148 (q_eg (iv 148) i j w)) := by
  intro dv cc ss
  refine pz_G_mem (iv2 := pz_u1 iv 148 (iv 148)) (by exact (pz_u1_self iv 148).symm) ?_
  show pz_G 54 0 [some (.inr (.inl 147)), some (.inl i), some (.inl j), some (.inl w), none] [] (pz_Sh L, pz_u1 iv 148 (iv 148), dv, cc, ss) (pz_P (pz_Sh L) (.inl none) (pz_u1 iv 148 (q_eg (iv 148) i j w)) dv cc ss)
  refine pz_G_of pz_b54_0 ?_
  refine w_loc rfl ?_
  refine w_zlt (fun h1 => ?_) (fun h1 => ?_)
  · refine pz_G_of pz_b54_24 ?_
    refine w_pure rfl ?_
    refine w_nil ?_
    refine pz_G_of pz_b54_25 ?_
    refine w_loc (ls' := [some (.inr (.inl 147)), some (.inl i), some (.inl j), some (.inl w), some (.inl 0)]) (st' := []) rfl ?_
    refine w_loc rfl ?_
    refine w_zeq (fun _ => ?_) (fun h => absurd h (by decide))
    refine pz_G_of pz_b54_59 ?_
    refine w_vret ?_
    first | (exfalso; omega) | exact lf_v (by unfold q_eg q_lw; first | rw [q_if_t (by omega)] | (rw [q_if_f (by omega)]))
  · refine w_loc rfl ?_
    refine w_pure rfl ?_
    refine w_ige (fun h2 => ?_) (fun h2 => ?_)
    · refine pz_G_of pz_b54_24 ?_
      refine w_pure rfl ?_
      refine w_nil ?_
      refine pz_G_of pz_b54_25 ?_
      refine w_loc (ls' := [some (.inr (.inl 147)), some (.inl i), some (.inl j), some (.inl w), some (.inl 0)]) (st' := []) rfl ?_
      refine w_loc rfl ?_
      refine w_zeq (fun _ => ?_) (fun h => absurd h (by decide))
      refine pz_G_of pz_b54_59 ?_
      refine w_vret ?_
      first | (exfalso; omega) | exact lf_v (by unfold q_eg q_lw; first | rw [q_if_t (by omega)] | (rw [q_if_f (by omega)]))
    · refine w_loc rfl ?_
      refine w_zlt (fun h3 => ?_) (fun h3 => ?_)
      · refine pz_G_of pz_b54_24 ?_
        refine w_pure rfl ?_
        refine w_nil ?_
        refine pz_G_of pz_b54_25 ?_
        refine w_loc (ls' := [some (.inr (.inl 147)), some (.inl i), some (.inl j), some (.inl w), some (.inl 0)]) (st' := []) rfl ?_
        refine w_loc rfl ?_
        refine w_zeq (fun _ => ?_) (fun h => absurd h (by decide))
        refine pz_G_of pz_b54_59 ?_
        refine w_vret ?_
        first | (exfalso; omega) | exact lf_v (by unfold q_eg q_lw; first | rw [q_if_t (by omega)] | (rw [q_if_f (by omega)]))
      · refine w_loc rfl ?_
        refine w_pure rfl ?_
        refine w_ige (fun h4 => ?_) (fun h4 => ?_)
        · refine pz_G_of pz_b54_24 ?_
          refine w_pure rfl ?_
          refine w_nil ?_
          refine pz_G_of pz_b54_25 ?_
          refine w_loc (ls' := [some (.inr (.inl 147)), some (.inl i), some (.inl j), some (.inl w), some (.inl 0)]) (st' := []) rfl ?_
          refine w_loc rfl ?_
          refine w_zeq (fun _ => ?_) (fun h => absurd h (by decide))
          refine pz_G_of pz_b54_59 ?_
          refine w_vret ?_
          first | (exfalso; omega) | exact lf_v (by unfold q_eg q_lw; first | rw [q_if_t (by omega)] | (rw [q_if_f (by omega)]))
        · refine w_pure rfl ?_
          refine w_goto ?_
          refine pz_G_of pz_b54_25 ?_
          refine w_loc (ls' := [some (.inr (.inl 147)), some (.inl i), some (.inl j), some (.inl w), some (.inl 1)]) (st' := []) rfl ?_
          refine w_loc rfl ?_
          refine w_zeq (fun h => absurd h (by decide)) (fun _ => ?_)
          refine w_loc rfl ?_
          refine w_loc rfl ?_
          refine w_getR (q := 148) is_147 rf_147_2 ?_
          refine w_loc rfl ?_
          refine w_pure rfl ?_
          refine w_imulc (by omega) ?_
          refine w_loc rfl ?_
          refine w_iadd (by omega) ?_
          refine w_iald (v := (iv 148) ((10 * i) + j).toNat) is_148 ln_148 ⟨by omega, by omega⟩ rfl ?_
          refine w_ige (fun h5 => ?_) (fun h5 => ?_)
          · refine pz_G_of pz_b54_59 ?_
            refine w_vret ?_
            first | (exfalso; omega) | exact lf_v (by unfold q_eg q_lw; first | rw [q_if_t (by omega)] | (rw [q_if_f (by omega)]))
          · refine w_loc rfl ?_
            refine w_getR (q := 148) is_147 rf_147_2 ?_
            refine w_loc rfl ?_
            refine w_pure rfl ?_
            refine w_imulc (by omega) ?_
            refine w_loc rfl ?_
            refine w_iadd (by omega) ?_
            refine w_loc rfl ?_
            refine w_iastm (iv2 := pz_u1 iv 148 (pz_up (iv 148) ((10 * i) + j).toNat w)) is_148 ln_148 ⟨by omega, by omega⟩ (by exact pz_u2_top _ _ _ _ _) ?_
            refine w_nil ?_
            refine pz_G_of pz_b54_59 ?_
            refine w_vret ?_
            first | (exfalso; omega) | exact lf_v (by unfold q_eg q_lw; first | rw [q_if_t (by omega)] | (rw [q_if_f (by omega)]))

theorem s_X5_addGap_147 {L : Nat} {iv : Nat → Nat → Int} (i : Int) (j : Int) (l : Int) (g : Int) (hi : 0 ≤ i ∧ i ≤ 9) (hj : 0 ≤ j ∧ j ≤ 9) (hl : -100000 ≤ l ∧ l ≤ 100000) : pz_R (pz_Sh L) 55 [.inr (.inl 147), .inl i, .inl j, .inl l, .inl g] iv (.inl none) (pz_u1 iv 148 (q_eg (q_eg (iv 148) i j g) j i (-l))) := by
  intro dv cc ss
  refine pz_G_mem (iv2 := pz_u1 iv 148 (iv 148)) (by exact (pz_u1_self iv 148).symm) ?_
  show pz_G 55 0 [some (.inr (.inl 147)), some (.inl i), some (.inl j), some (.inl l), some (.inl g)] [] (pz_Sh L, pz_u1 iv 148 (iv 148), dv, cc, ss) (pz_P (pz_Sh L) (.inl none) (pz_u1 iv 148 (q_eg (q_eg (iv 148) i j g) j i (-l))) dv cc ss)
  refine pz_G_of pz_b55_0 ?_
  refine w_loc rfl ?_
  refine w_loc rfl ?_
  refine w_loc rfl ?_
  refine w_loc rfl ?_
  have hc1 : pz_R (pz_Sh L) 54 [.inr (.inl 147), .inl i, .inl j, .inl g] (pz_u1 iv 148 (iv 148)) (.inl none) (pz_u1 iv 148 (q_eg (iv 148) i j g)) := pz_R_mem (s_X5_addEdge_147 i j g (by show 0 ≤ i ∧ i ≤ 9; omega) (by show 0 ≤ j ∧ j ≤ 9; omega)) (by rw [pz_u1_top (r := 148)]; rfl)
  refine w_callv hc1 rfl (pz_cokI is_147 rfl) ?_
  refine w_loc rfl ?_
  refine w_loc rfl ?_
  refine w_loc rfl ?_
  refine w_loc rfl ?_
  refine w_ineg (by omega) ?_
  have hc2 : pz_R (pz_Sh L) 54 [.inr (.inl 147), .inl j, .inl i, .inl (-l)] (pz_u1 iv 148 (q_eg (iv 148) i j g)) (.inl none) (pz_u1 iv 148 (q_eg (q_eg (iv 148) i j g) j i (-l))) := pz_R_mem (s_X5_addEdge_147 j i (-l) (by show 0 ≤ j ∧ j ≤ 9; omega) (by show 0 ≤ i ∧ i ≤ 9; omega)) (by rw [pz_u1_top (r := 148)]; rfl)
  refine w_callv hc2 rfl (pz_cokI is_147 rfl) ?_
  refine w_vret ?_
  first | exact lf_v (by rfl) | (exfalso; omega)

theorem s_X5_hasLoopBelowZero_147 {L : Nat} {iv : Nat → Nat → Int} (hz : 1 ≤ (iv 147) 0 ∧ (iv 147) 0 ≤ 10) : pz_R (pz_Sh L) 57 [.inr (.inl 147)] iv (.inl (some (.inl (pz_bi (q_exi (fun i => (iv 149) (10 * i + i).toNat < 0) ((iv 147) 0)))))) iv := by
  intro dv cc ss
  show pz_G 57 0 [some (.inr (.inl 147)), none] [] (pz_Sh L, iv, dv, cc, ss) (pz_P (pz_Sh L) (.inl (some (.inl (pz_bi (q_exi (fun i => (iv 149) (10 * i + i).toNat < 0) ((iv 147) 0)))))) iv dv cc ss)
  refine pz_G_of pz_b57_0 ?_
  refine w_pure rfl ?_
  refine w_loc (ls' := [some (.inr (.inl 147)), some (.inl 0)]) (st' := []) rfl ?_
  refine w_nil ?_
  have lp2 : ∀ (dd : Nat) (i : Int) , (iv 147 0 - i).toNat = dd → ∀ (hi : 0 ≤ i ∧ i ≤ iv 147 0), ∀ (hno : ∀ j : Int, 0 ≤ j → j < i → ¬ iv 149 (10 * j + j).toNat < 0),  pz_G 57 2 [some (.inr (.inl 147)), some (.inl i)] [] (pz_Sh L, iv, dv, cc, ss) (pz_P (pz_Sh L) (.inl (some (.inl (pz_bi (q_exi (fun i => (iv 149) (10 * i + i).toNat < 0) ((iv 147) 0)))))) iv dv cc ss) := by
    intro dd2
    induction dd2 using Nat.strongRecOn with
    | _ dd2 ih2 =>
    intro i  hd2 hi hno
    refine pz_G_of pz_b57_2 ?_
    refine w_loc rfl ?_
    refine w_loc rfl ?_
    refine w_getI (v := (iv 147) 0) is_147 (by decide) rfl ?_
    refine w_ige (fun h1 => ?_) (fun h1 => ?_)
    · refine pz_G_of pz_b57_32 ?_
      refine w_pure rfl ?_
      refine w_ret (pz_rok1 (Or.inl rfl)) ?_
      first | exact lf_i (pz_bi_t ⟨i, by omega, by omega, by assumption⟩) rfl | exact lf_i (pz_bi_f (fun ⟨j, g1, g2, g3⟩ => hno j g1 (by omega) g3)) rfl
    · refine w_loc rfl ?_
      refine w_getR (q := 149) is_147 rf_147_3 ?_
      refine w_loc rfl ?_
      refine w_pure rfl ?_
      refine w_imulc (by omega) ?_
      refine w_loc rfl ?_
      refine w_iadd (by omega) ?_
      refine w_iald (v := (iv 149) ((10 * i) + i).toNat) is_149 ln_149 ⟨by omega, by omega⟩ rfl ?_
      refine w_zge (fun h2 => ?_) (fun h2 => ?_)
      · refine pz_G_of pz_b57_26 ?_
        refine w_iinc (ls' := [some (.inr (.inl 147)), some (.inl (i + 1))]) rfl rfl rfl (by omega) ?_
        refine w_goto ?_
        exact ih2 _ (by omega) (i + 1)  rfl (by omega) (by intro j g1 g2; by_cases g3 : j = i; (rw [g3]; omega); exact hno j g1 (by omega))
      · refine w_pure rfl ?_
        refine w_ret (pz_rok1 (Or.inr rfl)) ?_
        first | exact lf_i (pz_bi_t ⟨i, by omega, by omega, by assumption⟩) rfl | exact lf_i (pz_bi_f (fun ⟨j, g1, g2, g3⟩ => hno j g1 (by omega) g3)) rfl
  exact lp2 _ 0  rfl (by omega) (by intro j g1 g2; omega)

theorem s_X5_shortenOver_147 {L : Nat} {iv : Nat → Nat → Int} (c : Int) (hz : 1 ≤ (iv 147) 0 ∧ (iv 147) 0 ≤ 10) (hc : 0 ≤ c ∧ c < ((iv 147) 0)) (hb : q_bnd (iv 149)) (hcc : 0 ≤ (iv 149) (10 * c + c).toNat) : pz_R (pz_Sh L) 58 [.inr (.inl 147), .inl c] iv (.inl none) (pz_u1 iv 149 (q_cs ((iv 147) 0) c (iv 149))) := by
  intro dv cc ss
  refine pz_G_mem (iv2 := pz_u1 iv 149 (iv 149)) (by exact (pz_u1_self iv 149).symm) ?_
  show pz_G 58 0 [some (.inr (.inl 147)), some (.inl c), none, none, none, none] [] (pz_Sh L, pz_u1 iv 149 (iv 149), dv, cc, ss) (pz_P (pz_Sh L) (.inl none) (pz_u1 iv 149 (q_cs ((iv 147) 0) c (iv 149))) dv cc ss)
  refine pz_G_of pz_b58_0 ?_
  refine w_loc rfl ?_
  refine w_zlt (fun h1 => ?_) (fun h1 => ?_)
  · refine pz_G_of pz_b58_12 ?_
    refine w_vret ?_
    first | exact lf_v (by rw [show f = q_cs (iv 147 0) c (iv 149) from by funext n; rw [hf n]; split; rfl; (by_cases g : n < 100; (rw [show n = (10 * ((n / 10 : Nat) : Int) + ((n % 10 : Nat) : Int)).toNat by omega, q_cs_n (by omega) (by omega) (by omega)]); (unfold q_cs; rw [if_neg (fun q => g q.1.1)]))]) | (exfalso; omega)
  · refine w_loc rfl ?_
    refine w_loc rfl ?_
    refine w_getI (v := (iv 147) 0) is_147 (by decide) rfl ?_
    refine w_ilt (fun h2 => ?_) (fun h2 => ?_)
    · refine pz_G_of pz_b58_13 ?_
      refine w_pure rfl ?_
      refine w_loc (ls' := [some (.inr (.inl 147)), some (.inl c), some (.inl 0), none, none, none]) (st' := []) rfl ?_
      refine w_nil ?_
      have lp15 : ∀ (dd : Nat) (i : Int) (f : Nat → Int) (u15_3 : Option pz_V) (hu15_3 : pz_nc u15_3 = true) (u15_4 : Option pz_V) (hu15_4 : pz_nc u15_4 = true) (u15_5 : Option pz_V) (hu15_5 : pz_nc u15_5 = true), (iv 147 0 - i).toNat = dd → ∀ (hi : 0 ≤ i ∧ i ≤ iv 147 0), ∀ (hf : ∀ n : Nat, f n = if (n : Int) < 10 * i then q_cs (iv 147 0) c (iv 149) n else iv 149 n),  pz_G 58 15 [some (.inr (.inl 147)), some (.inl c), some (.inl i), u15_3, u15_4, u15_5] [] (pz_Sh L, pz_u1 iv 149 f, dv, cc, ss) (pz_P (pz_Sh L) (.inl none) (pz_u1 iv 149 (q_cs ((iv 147) 0) c (iv 149))) dv cc ss) := by
        intro dd15
        induction dd15 using Nat.strongRecOn with
        | _ dd15 ih15 =>
        intro i f u15_3 hu15_3 u15_4 hu15_4 u15_5 hu15_5 hd15 hi hf
        have hfi : i < iv 147 0 → f (10 * i + c).toNat = iv 149 (10 * i + c).toNat := by
          intro h
          rw [hf, if_neg (by omega)]
        refine pz_G_of pz_b58_15 ?_
        refine w_loc rfl ?_
        refine w_loc rfl ?_
        refine w_getI (v := (iv 147) 0) is_147 (by decide) rfl ?_
        refine w_ige (fun h3 => ?_) (fun h3 => ?_)
        · refine pz_G_of pz_b58_121 ?_
          refine w_vret ?_
          first | exact lf_v (by rw [show f = q_cs (iv 147 0) c (iv 149) from by funext n; rw [hf n]; split; rfl; (by_cases g : n < 100; (rw [show n = (10 * ((n / 10 : Nat) : Int) + ((n % 10 : Nat) : Int)).toNat by omega, q_cs_n (by omega) (by omega) (by omega)]); (unfold q_cs; rw [if_neg (fun q => g q.1.1)]))]) | (exfalso; omega)
        · refine w_loc rfl ?_
          refine w_getR (q := 149) is_147 rf_147_3 ?_
          refine w_loc rfl ?_
          refine w_pure rfl ?_
          refine w_imulc (by omega) ?_
          refine w_loc rfl ?_
          refine w_iadd (by omega) ?_
          refine w_iald (v := f ((10 * i) + c).toNat) is_149 ln_149 ⟨by omega, by omega⟩ rfl ?_
          refine w_loc (ls' := [some (.inr (.inl 147)), some (.inl c), some (.inl i), some (.inl (f ((10 * i) + c).toNat)), u15_4, u15_5]) (st' := []) rfl ?_
          refine w_pure rfl ?_
          refine w_loc (ls' := [some (.inr (.inl 147)), some (.inl c), some (.inl i), some (.inl (f ((10 * i) + c).toNat)), some (.inl 0), u15_5]) (st' := []) rfl ?_
          refine w_nil ?_
          have lp38 : ∀ (dd : Nat) (j : Int) (f2 : Nat → Int) (u38_5 : Option pz_V) (hu38_5 : pz_nc u38_5 = true), (iv 147 0 - j).toNat = dd → ∀ (hj : 0 ≤ j ∧ j ≤ iv 147 0), ∀ (hf2 : ∀ n : Nat, f2 n = if (n : Int) < 10 * i + j then q_cs (iv 147 0) c (iv 149) n else iv 149 n),  pz_G 58 38 [some (.inr (.inl 147)), some (.inl c), some (.inl i), some (.inl (f ((10 * i) + c).toNat)), some (.inl j), u38_5] [] (pz_Sh L, pz_u1 iv 149 f2, dv, cc, ss) (pz_P (pz_Sh L) (.inl none) (pz_u1 iv 149 (q_cs ((iv 147) 0) c (iv 149))) dv cc ss) := by
            intro dd38
            induction dd38 using Nat.strongRecOn with
            | _ dd38 ih38 =>
            intro j f2 u38_5 hu38_5 hd38 hj hf2
            have hfi2 := hfi (by omega)
            have hcj : j < iv 147 0 → f2 (10 * c + j).toNat = iv 149 (10 * c + j).toNat := by
              intro h
              rw [hf2]; split
              · exact q_cs_n hc.1 (by omega) (fun ⟨_, _, _, _, g⟩ => by omega)
              · rfl
            have hij : f2 (10 * i + j).toNat = iv 149 (10 * i + j).toNat := by
              rw [hf2, if_neg (by omega)]
            have hb1 := hb (10 * i + c).toNat (by omega)
            have hb2 := fun h => hb (10 * c + j).toNat h
            refine pz_G_of pz_b58_38 ?_
            refine w_loc rfl ?_
            refine w_ldcv (v := 1000000000) rfl ?_
            refine w_ieq (fun h4 => ?_) (fun h4 => ?_)
            · refine pz_G_of pz_b58_115 ?_
              refine w_iinc (ls' := [some (.inr (.inl 147)), some (.inl c), some (.inl (i + 1)), some (.inl (f ((10 * i) + c).toNat)), some (.inl j), u38_5]) rfl rfl rfl (by omega) ?_
              refine w_goto ?_
              exact ih15 _ (by omega) (i + 1) f2 (some (.inl (f ((10 * i) + c).toNat))) rfl (some (.inl j)) rfl u38_5 hu38_5 rfl (by omega) (by exact q_sh_end (by omega) (by omega) hf2 (by omega))
            · refine w_loc rfl ?_
              refine w_loc rfl ?_
              refine w_getI (v := (iv 147) 0) is_147 (by decide) rfl ?_
              refine w_ige (fun h5 => ?_) (fun h5 => ?_)
              · refine pz_G_of pz_b58_115 ?_
                refine w_iinc (ls' := [some (.inr (.inl 147)), some (.inl c), some (.inl (i + 1)), some (.inl (f ((10 * i) + c).toNat)), some (.inl j), u38_5]) rfl rfl rfl (by omega) ?_
                refine w_goto ?_
                exact ih15 _ (by omega) (i + 1) f2 (some (.inl (f ((10 * i) + c).toNat))) rfl (some (.inl j)) rfl u38_5 hu38_5 rfl (by omega) (by exact q_sh_end (by omega) (by omega) hf2 (by omega))
              · refine w_loc rfl ?_
                refine w_getR (q := 149) is_147 rf_147_3 ?_
                refine w_loc rfl ?_
                refine w_pure rfl ?_
                refine w_imulc (by omega) ?_
                refine w_loc rfl ?_
                refine w_iadd (by omega) ?_
                refine w_iald (v := f2 ((10 * c) + j).toNat) is_149 ln_149 ⟨by omega, by omega⟩ rfl ?_
                refine w_loc (ls' := [some (.inr (.inl 147)), some (.inl c), some (.inl i), some (.inl (f ((10 * i) + c).toNat)), some (.inl j), some (.inl (f2 ((10 * c) + j).toNat))]) (st' := []) rfl ?_
                refine w_loc rfl ?_
                refine w_ldcv (v := 1000000000) rfl ?_
                refine w_ieq (fun h6 => ?_) (fun h6 => ?_)
                · refine pz_G_of pz_b58_109 ?_
                  refine w_iinc (ls' := [some (.inr (.inl 147)), some (.inl c), some (.inl i), some (.inl (f ((10 * i) + c).toNat)), some (.inl (j + 1)), some (.inl (f2 ((10 * c) + j).toNat))]) rfl rfl rfl (by omega) ?_
                  refine w_goto ?_
                  exact ih38 _ (by omega) (j + 1) f2 (some (.inl (f2 ((10 * c) + j).toNat))) rfl rfl (by omega) (by first | exact q_sh_up (by omega) (by omega) hf2 (by rw [q_cs_y (by omega) (by omega) (by omega) (by omega)]; omega) | exact q_sh_no (by omega) (by omega) hf2 (by rw [q_cs_n (by omega) (by omega) (by omega)]))
                · refine w_loc rfl ?_
                  refine w_loc rfl ?_
                  refine w_iadd (by omega) ?_
                  refine w_loc rfl ?_
                  refine w_getR (q := 149) is_147 rf_147_3 ?_
                  refine w_loc rfl ?_
                  refine w_pure rfl ?_
                  refine w_imulc (by omega) ?_
                  refine w_loc rfl ?_
                  refine w_iadd (by omega) ?_
                  refine w_iald (v := f2 ((10 * i) + j).toNat) is_149 ln_149 ⟨by omega, by omega⟩ rfl ?_
                  refine w_ige (fun h7 => ?_) (fun h7 => ?_)
                  · refine pz_G_of pz_b58_109 ?_
                    refine w_iinc (ls' := [some (.inr (.inl 147)), some (.inl c), some (.inl i), some (.inl (f ((10 * i) + c).toNat)), some (.inl (j + 1)), some (.inl (f2 ((10 * c) + j).toNat))]) rfl rfl rfl (by omega) ?_
                    refine w_goto ?_
                    exact ih38 _ (by omega) (j + 1) f2 (some (.inl (f2 ((10 * c) + j).toNat))) rfl rfl (by omega) (by first | exact q_sh_up (by omega) (by omega) hf2 (by rw [q_cs_y (by omega) (by omega) (by omega) (by omega)]; omega) | exact q_sh_no (by omega) (by omega) hf2 (by rw [q_cs_n (by omega) (by omega) (by omega)]))
                  · refine w_loc rfl ?_
                    refine w_getR (q := 149) is_147 rf_147_3 ?_
                    refine w_loc rfl ?_
                    refine w_pure rfl ?_
                    refine w_imulc (by omega) ?_
                    refine w_loc rfl ?_
                    refine w_iadd (by omega) ?_
                    refine w_loc rfl ?_
                    refine w_loc rfl ?_
                    refine w_iadd (by omega) ?_
                    refine w_iastm (iv2 := pz_u1 iv 149 (pz_up f2 ((10 * i) + j).toNat ((f ((10 * i) + c).toNat) + (f2 ((10 * c) + j).toNat)))) is_149 ln_149 ⟨by omega, by omega⟩ (by exact pz_u2_top _ _ _ _ _) ?_
                    refine w_nil ?_
                    refine pz_G_of pz_b58_109 ?_
                    refine w_iinc (ls' := [some (.inr (.inl 147)), some (.inl c), some (.inl i), some (.inl (f ((10 * i) + c).toNat)), some (.inl (j + 1)), some (.inl (f2 ((10 * c) + j).toNat))]) rfl rfl rfl (by omega) ?_
                    refine w_goto ?_
                    exact ih38 _ (by omega) (j + 1) (pz_up f2 ((10 * i) + j).toNat ((f ((10 * i) + c).toNat) + (f2 ((10 * c) + j).toNat))) (some (.inl (f2 ((10 * c) + j).toNat))) rfl rfl (by omega) (by first | exact q_sh_up (by omega) (by omega) hf2 (by rw [q_cs_y (by omega) (by omega) (by omega) (by omega)]; omega) | exact q_sh_no (by omega) (by omega) hf2 (by rw [q_cs_n (by omega) (by omega) (by omega)]))
          exact lp38 _ 0 f u15_5 hu15_5 rfl (by omega) (by intro n; rw [hf n, show 10 * i + 0 = 10 * i by omega])
      exact lp15 _ 0 (iv 149) (none) rfl (none) rfl (none) rfl rfl (by omega) (by intro n; rw [if_neg (by omega)])
    · refine w_nil ?_
      refine pz_G_of pz_b58_12 ?_
      refine w_vret ?_
      first | exact lf_v (by rw [show f = q_cs (iv 147 0) c (iv 149) from by funext n; rw [hf n]; split; rfl; (by_cases g : n < 100; (rw [show n = (10 * ((n / 10 : Nat) : Int) + ((n % 10 : Nat) : Int)).toNat by omega, q_cs_n (by omega) (by omega) (by omega)]); (unfold q_cs; rw [if_neg (fun q => g q.1.1)]))]) | (exfalso; omega)

theorem s_X5_close_147 {L : Nat} {iv : Nat → Nat → Int} {z : Int} (hz : (iv 147) 0 = z ∧ 1 ≤ z ∧ z ≤ 10) (hcw : q_cw z (q_cp 100 (iv 148) (iv 149))) : pz_R (pz_Sh L) 56 [.inr (.inl 147)] iv (.inl none) (pz_u1 (pz_u1 iv 147 (pz_up (iv 147) 1 (pz_bi (q_okc z (q_cI z (q_cz z (q_cp 100 (iv 148) (iv 149))) (q_cp 100 (iv 148) (iv 149))))))) 149 (q_cI z (q_cz z (q_cp 100 (iv 148) (iv 149))) (q_cp 100 (iv 148) (iv 149)))) := by
  intro dv cc ss
  refine pz_G_mem (iv2 := pz_u1 (pz_u1 iv 147 (iv 147)) 149 (iv 149)) (by exact ((pz_u1_self iv 147).symm).trans (pz_u1_self (pz_u1 iv 147 (iv 147)) 149).symm) ?_
  show pz_G 56 0 [some (.inr (.inl 147)), none] [] (pz_Sh L, pz_u1 (pz_u1 iv 147 (iv 147)) 149 (iv 149), dv, cc, ss) (pz_P (pz_Sh L) (.inl none) (pz_u1 (pz_u1 iv 147 (pz_up (iv 147) 1 (pz_bi (q_okc z (q_cI z (q_cz z (q_cp 100 (iv 148) (iv 149))) (q_cp 100 (iv 148) (iv 149))))))) 149 (q_cI z (q_cz z (q_cp 100 (iv 148) (iv 149))) (q_cp 100 (iv 148) (iv 149)))) dv cc ss)
  refine pz_G_of pz_b56_0 ?_
  refine w_loc rfl ?_
  refine w_getR (q := 148) is_147 rf_147_2 ?_
  refine w_pure rfl ?_
  refine w_loc rfl ?_
  refine w_getR (q := 149) is_147 rf_147_3 ?_
  refine w_pure rfl ?_
  refine w_pure rfl ?_
  refine w_cpym (K := 20) (iv2 := pz_u1 (pz_u1 iv 147 (iv 147)) 149 (q_cp 100 (iv 148) (iv 149))) rfl is_148 is_149 (by decide) (by decide) ln_148 ln_149 (by decide) (by decide) (by show pz_u1 (pz_u1 (pz_u1 iv 147 (iv 147)) 149 (iv 149)) 149 (q_cp 100 (iv 148) (iv 149)) = _; rw [pz_u1_top]) ?_
  refine w_loc rfl ?_
  refine w_loc rfl ?_
  have hc1 : pz_R (pz_Sh L) 57 [.inr (.inl 147)] (pz_u1 (pz_u1 iv 147 (iv 147)) 149 (q_cp 100 (iv 148) (iv 149))) (.inl (some (.inl (pz_bi (q_exi (fun i => (q_cp 100 (iv 148) (iv 149)) (10 * i + i).toNat < 0) ((iv 147) 0)))))) (pz_u1 (pz_u1 iv 147 (iv 147)) 149 (q_cp 100 (iv 148) (iv 149))) := s_X5_hasLoopBelowZero_147 (by show 1 ≤ (iv 147) 0 ∧ (iv 147) 0 ≤ 10; first | omega | assumption)
  refine w_call hc1 rfl (pz_cokI is_147 rfl) ?_
  refine w_bne (fun h2 => ?_) (fun h2 => ?_)
  · refine pz_G_of pz_b56_27 ?_
    refine w_pure rfl ?_
    refine w_nil ?_
    refine pz_G_of pz_b56_28 ?_
    refine w_putIm (iv2 := pz_u1 (pz_u1 iv 147 (pz_up (iv 147) 1 0)) 149 (q_cp 100 (iv 148) (iv 149))) is_147 (pz_fit1 (Or.inl rfl)) (by rw [pz_u2_in (r := 147) (q := 149) (by decide)]; rw [pz_u2_top] <;> rfl) ?_
    refine w_pure rfl ?_
    refine w_loc (ls' := [some (.inr (.inl 147)), some (.inl 0)]) (st' := []) rfl ?_
    refine w_nil ?_
    have lp33 : ∀ (dd : Nat) (m : Int) (w : Nat → Int) (f : Nat → Int) , (z - m).toNat = dd → ∀ (hm : 0 ≤ m ∧ m ≤ z), ∀ (hf : f = q_cI z m (q_cp 100 (iv 148) (iv 149))), ∀ (hw : w = pz_up (iv 147) 1 (pz_bi (q_okc z f))), ∀ (hok : ∀ c : Int, 0 ≤ c → c < m → q_okc z (q_cI z c (q_cp 100 (iv 148) (iv 149)))),  pz_G 56 33 [some (.inr (.inl 147)), some (.inl m)] [] (pz_Sh L, pz_u1 (pz_u1 iv 147 w) 149 f, dv, cc, ss) (pz_P (pz_Sh L) (.inl none) (pz_u1 (pz_u1 iv 147 (pz_up (iv 147) 1 (pz_bi (q_okc z (q_cI z (q_cz z (q_cp 100 (iv 148) (iv 149))) (q_cp 100 (iv 148) (iv 149))))))) 149 (q_cI z (q_cz z (q_cp 100 (iv 148) (iv 149))) (q_cp 100 (iv 148) (iv 149)))) dv cc ss) := by
      intro dd33
      induction dd33 using Nat.strongRecOn with
      | _ dd33 ih33 =>
      intro m w f  hd33 hm hf hw hok
      have hw0 : w 0 = z := by
        rw [hw, pz_up_ne (by decide)]; exact hz.1
      have hw1 : w 1 = pz_bi (q_okc z f) := by
        rw [hw, pz_up_eq]
      have hw2 : w 1 ≠ 0 → q_okc z f := fun h => pz_bi_ne (by rw [← hw1]; exact h)
      have hw3 : w 1 = 0 → ¬ q_okc z f := fun h => pz_bi_eq (by rw [← hw1]; exact h)
      have hok2 : w 1 ≠ 0 → ∀ c1 : Int, 0 ≤ c1 → c1 ≤ m → q_okc z (q_cI z c1 (q_cp 100 (iv 148) (iv 149))) := by
        intro h c1 g1 g2
        by_cases g3 : c1 = m
        · rw [g3, ← hf]; exact hw2 h
        · exact hok c1 g1 (by omega)
      have hbf : w 1 ≠ 0 → m < z → q_bnd f := by
        intro h h2
        rw [hf]; exact hcw m hm.1 h2 (hok2 h)
      refine pz_G_of pz_b56_33 ?_
      refine w_loc rfl ?_
      refine w_loc rfl ?_
      refine w_getI (v := w 0) is_147 (by decide) rfl ?_
      refine w_ige (fun h3 => ?_) (fun h3 => ?_)
      · refine pz_G_of pz_b56_75 ?_
        refine w_vret ?_
        first | exact lf_v (by rw [q_cz_is (z := z) (r := (q_cp 100 (iv 148) (iv 149))) (m := m) ⟨hm.1, hm.2, hok, by first | exact Or.inl (by omega) | exact Or.inr (by rw [← hf]; exact hw3 (by assumption))⟩, ← hf, ← hw]) | (exfalso; omega)
      · refine w_loc rfl ?_
        refine w_getI (v := w 1) is_147 (by decide) rfl ?_
        refine w_zeq (fun h4 => ?_) (fun h4 => ?_)
        · refine pz_G_of pz_b56_75 ?_
          refine w_vret ?_
          first | exact lf_v (by rw [q_cz_is (z := z) (r := (q_cp 100 (iv 148) (iv 149))) (m := m) ⟨hm.1, hm.2, hok, by first | exact Or.inl (by omega) | exact Or.inr (by rw [← hf]; exact hw3 (by assumption))⟩, ← hf, ← hw]) | (exfalso; omega)
        · refine w_loc rfl ?_
          refine w_loc rfl ?_
          have hc5 : pz_R (pz_Sh L) 58 [.inr (.inl 147), .inl m] (pz_u1 (pz_u1 iv 147 w) 149 f) (.inl none) (pz_u1 (pz_u1 iv 147 w) 149 (q_cs (w 0) m f)) := pz_R_mem (s_X5_shortenOver_147 m (by show 1 ≤ w 0 ∧ w 0 ≤ 10; first | omega | assumption) (by show 0 ≤ m ∧ m < (w 0); omega) (by show q_bnd f; exact hbf (by assumption) (by omega)) (by show 0 ≤ f (10 * m + m).toNat; exact hw2 (by assumption) m (by omega) (by omega))) (by rw [pz_u1_top (r := 149)]; rfl)
          refine w_callv hc5 rfl (pz_cokI is_147 rfl) ?_
          refine w_loc rfl ?_
          refine w_loc rfl ?_
          have hc6 : pz_R (pz_Sh L) 57 [.inr (.inl 147)] (pz_u1 (pz_u1 iv 147 w) 149 (q_cs (w 0) m f)) (.inl (some (.inl (pz_bi (q_exi (fun i => (q_cs (w 0) m f) (10 * i + i).toNat < 0) (w 0)))))) (pz_u1 (pz_u1 iv 147 w) 149 (q_cs (w 0) m f)) := s_X5_hasLoopBelowZero_147 (by show 1 ≤ w 0 ∧ w 0 ≤ 10; first | omega | assumption)
          refine w_call hc6 rfl (pz_cokI is_147 rfl) ?_
          refine w_bne (fun h7 => ?_) (fun h7 => ?_)
          · refine pz_G_of pz_b56_65 ?_
            refine w_pure rfl ?_
            refine w_nil ?_
            refine pz_G_of pz_b56_66 ?_
            refine w_putIm (iv2 := pz_u1 (pz_u1 iv 147 (pz_up w 1 0)) 149 (q_cs (w 0) m f)) is_147 (pz_fit1 (Or.inl rfl)) (by rw [pz_u2_in (r := 147) (q := 149) (by decide)]; rw [pz_u2_top] <;> rfl) ?_
            refine w_iinc (ls' := [some (.inr (.inl 147)), some (.inl (m + 1))]) rfl rfl rfl (by omega) ?_
            refine w_goto ?_
            exact ih33 _ (by omega) (m + 1) (pz_up w 1 0) (q_cs (w 0) m f)  rfl (by omega) (by rw [q_cI_s (by omega), ← hf]; rw [hw0]) (by rw [hw0]; rw [hw]; (first | rw [pz_bi_1 (p := q_okc _ (q_cs _ _ _)) (q_okc_exi.mp (by rw [← hw0]; assumption))] | rw [pz_bi_0 (p := q_okc _ (q_cs _ _ _)) (fun q => absurd (by rw [← hw0]; assumption) (q_okc_exi.mpr q))]); funext j; rw [pz_up_at, pz_up_at, pz_up_at]; split <;> rfl) (by intro c g1 g2; exact hok2 (by assumption) c g1 (by omega))
          · refine w_pure rfl ?_
            refine w_goto ?_
            refine pz_G_of pz_b56_66 ?_
            refine w_putIm (iv2 := pz_u1 (pz_u1 iv 147 (pz_up w 1 1)) 149 (q_cs (w 0) m f)) is_147 (pz_fit1 (Or.inr rfl)) (by rw [pz_u2_in (r := 147) (q := 149) (by decide)]; rw [pz_u2_top] <;> rfl) ?_
            refine w_iinc (ls' := [some (.inr (.inl 147)), some (.inl (m + 1))]) rfl rfl rfl (by omega) ?_
            refine w_goto ?_
            exact ih33 _ (by omega) (m + 1) (pz_up w 1 1) (q_cs (w 0) m f)  rfl (by omega) (by rw [q_cI_s (by omega), ← hf]; rw [hw0]) (by rw [hw0]; rw [hw]; (first | rw [pz_bi_1 (p := q_okc _ (q_cs _ _ _)) (q_okc_exi.mp (by rw [← hw0]; assumption))] | rw [pz_bi_0 (p := q_okc _ (q_cs _ _ _)) (fun q => absurd (by rw [← hw0]; assumption) (q_okc_exi.mpr q))]); funext j; rw [pz_up_at, pz_up_at, pz_up_at]; split <;> rfl) (by intro c g1 g2; exact hok2 (by assumption) c g1 (by omega))
    exact lp33 _ 0 (pz_up (iv 147) 1 0) (q_cp 100 (iv 148) (iv 149))  rfl (by omega) (by rfl) (by rw [← hz.1]; first | rw [pz_bi_1 (q_okc_exi.mp (by assumption))] | rw [pz_bi_0 (fun q => absurd (by assumption) (q_okc_exi.mpr q))]) (by intro c g1 g2; omega)
  · refine w_pure rfl ?_
    refine w_goto ?_
    refine pz_G_of pz_b56_28 ?_
    refine w_putIm (iv2 := pz_u1 (pz_u1 iv 147 (pz_up (iv 147) 1 1)) 149 (q_cp 100 (iv 148) (iv 149))) is_147 (pz_fit1 (Or.inr rfl)) (by rw [pz_u2_in (r := 147) (q := 149) (by decide)]; rw [pz_u2_top] <;> rfl) ?_
    refine w_pure rfl ?_
    refine w_loc (ls' := [some (.inr (.inl 147)), some (.inl 0)]) (st' := []) rfl ?_
    refine w_nil ?_
    have lp33 : ∀ (dd : Nat) (m : Int) (w : Nat → Int) (f : Nat → Int) , (z - m).toNat = dd → ∀ (hm : 0 ≤ m ∧ m ≤ z), ∀ (hf : f = q_cI z m (q_cp 100 (iv 148) (iv 149))), ∀ (hw : w = pz_up (iv 147) 1 (pz_bi (q_okc z f))), ∀ (hok : ∀ c : Int, 0 ≤ c → c < m → q_okc z (q_cI z c (q_cp 100 (iv 148) (iv 149)))),  pz_G 56 33 [some (.inr (.inl 147)), some (.inl m)] [] (pz_Sh L, pz_u1 (pz_u1 iv 147 w) 149 f, dv, cc, ss) (pz_P (pz_Sh L) (.inl none) (pz_u1 (pz_u1 iv 147 (pz_up (iv 147) 1 (pz_bi (q_okc z (q_cI z (q_cz z (q_cp 100 (iv 148) (iv 149))) (q_cp 100 (iv 148) (iv 149))))))) 149 (q_cI z (q_cz z (q_cp 100 (iv 148) (iv 149))) (q_cp 100 (iv 148) (iv 149)))) dv cc ss) := by
      intro dd33
      induction dd33 using Nat.strongRecOn with
      | _ dd33 ih33 =>
      intro m w f  hd33 hm hf hw hok
      have hw0 : w 0 = z := by
        rw [hw, pz_up_ne (by decide)]; exact hz.1
      have hw1 : w 1 = pz_bi (q_okc z f) := by
        rw [hw, pz_up_eq]
      have hw2 : w 1 ≠ 0 → q_okc z f := fun h => pz_bi_ne (by rw [← hw1]; exact h)
      have hw3 : w 1 = 0 → ¬ q_okc z f := fun h => pz_bi_eq (by rw [← hw1]; exact h)
      have hok2 : w 1 ≠ 0 → ∀ c1 : Int, 0 ≤ c1 → c1 ≤ m → q_okc z (q_cI z c1 (q_cp 100 (iv 148) (iv 149))) := by
        intro h c1 g1 g2
        by_cases g3 : c1 = m
        · rw [g3, ← hf]; exact hw2 h
        · exact hok c1 g1 (by omega)
      have hbf : w 1 ≠ 0 → m < z → q_bnd f := by
        intro h h2
        rw [hf]; exact hcw m hm.1 h2 (hok2 h)
      refine pz_G_of pz_b56_33 ?_
      refine w_loc rfl ?_
      refine w_loc rfl ?_
      refine w_getI (v := w 0) is_147 (by decide) rfl ?_
      refine w_ige (fun h8 => ?_) (fun h8 => ?_)
      · refine pz_G_of pz_b56_75 ?_
        refine w_vret ?_
        first | exact lf_v (by rw [q_cz_is (z := z) (r := (q_cp 100 (iv 148) (iv 149))) (m := m) ⟨hm.1, hm.2, hok, by first | exact Or.inl (by omega) | exact Or.inr (by rw [← hf]; exact hw3 (by assumption))⟩, ← hf, ← hw]) | (exfalso; omega)
      · refine w_loc rfl ?_
        refine w_getI (v := w 1) is_147 (by decide) rfl ?_
        refine w_zeq (fun h9 => ?_) (fun h9 => ?_)
        · refine pz_G_of pz_b56_75 ?_
          refine w_vret ?_
          first | exact lf_v (by rw [q_cz_is (z := z) (r := (q_cp 100 (iv 148) (iv 149))) (m := m) ⟨hm.1, hm.2, hok, by first | exact Or.inl (by omega) | exact Or.inr (by rw [← hf]; exact hw3 (by assumption))⟩, ← hf, ← hw]) | (exfalso; omega)
        · refine w_loc rfl ?_
          refine w_loc rfl ?_
          have hc10 : pz_R (pz_Sh L) 58 [.inr (.inl 147), .inl m] (pz_u1 (pz_u1 iv 147 w) 149 f) (.inl none) (pz_u1 (pz_u1 iv 147 w) 149 (q_cs (w 0) m f)) := pz_R_mem (s_X5_shortenOver_147 m (by show 1 ≤ w 0 ∧ w 0 ≤ 10; first | omega | assumption) (by show 0 ≤ m ∧ m < (w 0); omega) (by show q_bnd f; exact hbf (by assumption) (by omega)) (by show 0 ≤ f (10 * m + m).toNat; exact hw2 (by assumption) m (by omega) (by omega))) (by rw [pz_u1_top (r := 149)]; rfl)
          refine w_callv hc10 rfl (pz_cokI is_147 rfl) ?_
          refine w_loc rfl ?_
          refine w_loc rfl ?_
          have hc11 : pz_R (pz_Sh L) 57 [.inr (.inl 147)] (pz_u1 (pz_u1 iv 147 w) 149 (q_cs (w 0) m f)) (.inl (some (.inl (pz_bi (q_exi (fun i => (q_cs (w 0) m f) (10 * i + i).toNat < 0) (w 0)))))) (pz_u1 (pz_u1 iv 147 w) 149 (q_cs (w 0) m f)) := s_X5_hasLoopBelowZero_147 (by show 1 ≤ w 0 ∧ w 0 ≤ 10; first | omega | assumption)
          refine w_call hc11 rfl (pz_cokI is_147 rfl) ?_
          refine w_bne (fun h12 => ?_) (fun h12 => ?_)
          · refine pz_G_of pz_b56_65 ?_
            refine w_pure rfl ?_
            refine w_nil ?_
            refine pz_G_of pz_b56_66 ?_
            refine w_putIm (iv2 := pz_u1 (pz_u1 iv 147 (pz_up w 1 0)) 149 (q_cs (w 0) m f)) is_147 (pz_fit1 (Or.inl rfl)) (by rw [pz_u2_in (r := 147) (q := 149) (by decide)]; rw [pz_u2_top] <;> rfl) ?_
            refine w_iinc (ls' := [some (.inr (.inl 147)), some (.inl (m + 1))]) rfl rfl rfl (by omega) ?_
            refine w_goto ?_
            exact ih33 _ (by omega) (m + 1) (pz_up w 1 0) (q_cs (w 0) m f)  rfl (by omega) (by rw [q_cI_s (by omega), ← hf]; rw [hw0]) (by rw [hw0]; rw [hw]; (first | rw [pz_bi_1 (p := q_okc _ (q_cs _ _ _)) (q_okc_exi.mp (by rw [← hw0]; assumption))] | rw [pz_bi_0 (p := q_okc _ (q_cs _ _ _)) (fun q => absurd (by rw [← hw0]; assumption) (q_okc_exi.mpr q))]); funext j; rw [pz_up_at, pz_up_at, pz_up_at]; split <;> rfl) (by intro c g1 g2; exact hok2 (by assumption) c g1 (by omega))
          · refine w_pure rfl ?_
            refine w_goto ?_
            refine pz_G_of pz_b56_66 ?_
            refine w_putIm (iv2 := pz_u1 (pz_u1 iv 147 (pz_up w 1 1)) 149 (q_cs (w 0) m f)) is_147 (pz_fit1 (Or.inr rfl)) (by rw [pz_u2_in (r := 147) (q := 149) (by decide)]; rw [pz_u2_top] <;> rfl) ?_
            refine w_iinc (ls' := [some (.inr (.inl 147)), some (.inl (m + 1))]) rfl rfl rfl (by omega) ?_
            refine w_goto ?_
            exact ih33 _ (by omega) (m + 1) (pz_up w 1 1) (q_cs (w 0) m f)  rfl (by omega) (by rw [q_cI_s (by omega), ← hf]; rw [hw0]) (by rw [hw0]; rw [hw]; (first | rw [pz_bi_1 (p := q_okc _ (q_cs _ _ _)) (q_okc_exi.mp (by rw [← hw0]; assumption))] | rw [pz_bi_0 (p := q_okc _ (q_cs _ _ _)) (fun q => absurd (by rw [← hw0]; assumption) (q_okc_exi.mpr q))]); funext j; rw [pz_up_at, pz_up_at, pz_up_at]; split <;> rfl) (by intro c g1 g2; exact hok2 (by assumption) c g1 (by omega))
    exact lp33 _ 0 (pz_up (iv 147) 1 1) (q_cp 100 (iv 148) (iv 149))  rfl (by omega) (by rfl) (by rw [← hz.1]; first | rw [pz_bi_1 (q_okc_exi.mp (by assumption))] | rw [pz_bi_0 (fun q => absurd (by assumption) (q_okc_exi.mpr q))]) (by intro c g1 g2; omega)

theorem s_X5_goRound {L : Nat} {iv : Nat → Nat → Int} {p : Nat → Int} (hz : 1 ≤ (iv 138) 0 ∧ (iv 138) 0 ≤ 10) (hpo : q_po ((iv 138) 0) p (iv 139)) (hrp : q_rp ((iv 138) 0) p (iv 141)) : pz_R (pz_Sh L) 61 [.inr (.inl 138)] iv (.inl (some (.inl ((q_gr ((iv 138) 0) (iv 139) ((iv 141), 0)).2)))) (pz_u1 iv 141 ((q_gr ((iv 138) 0) (iv 139) ((iv 141), 0)).1)) := by
  intro dv cc ss
  refine pz_G_mem (iv2 := pz_u1 iv 141 (iv 141)) (by exact (pz_u1_self iv 141).symm) ?_
  show pz_G 61 0 [some (.inr (.inl 138)), none, none, none, none] [] (pz_Sh L, pz_u1 iv 141 (iv 141), dv, cc, ss) (pz_P (pz_Sh L) (.inl (some (.inl ((q_gr ((iv 138) 0) (iv 139) ((iv 141), 0)).2)))) (pz_u1 iv 141 ((q_gr ((iv 138) 0) (iv 139) ((iv 141), 0)).1)) dv cc ss)
  refine pz_G_of pz_b61_0 ?_
  refine w_pure rfl ?_
  refine w_loc (ls' := [some (.inr (.inl 138)), some (.inl 0), none, none, none]) (st' := []) rfl ?_
  refine w_pure rfl ?_
  refine w_loc (ls' := [some (.inr (.inl 138)), some (.inl 0), some (.inl 0), none, none]) (st' := []) rfl ?_
  refine w_nil ?_
  have lp4 : ∀ (dd : Nat) (y : Int) (i : Int) (R : Nat → Int) (u4_3 : Option pz_V) (hu4_3 : pz_nc u4_3 = true) (u4_4 : Option pz_V) (hu4_4 : pz_nc u4_4 = true), (iv 138 0 - i).toNat = dd → ∀ (hi : 0 ≤ i ∧ i ≤ iv 138 0), ∀ (hR : (R, y) = q_fr (q_gF (iv 138 0) (iv 139)) 0 i (iv 141, 0)), ∀ (hr : q_rp (iv 138 0) p R), ∀ (hy : y = 0 ∨ y = 1),  pz_G 61 4 [some (.inr (.inl 138)), some (.inl y), some (.inl i), u4_3, u4_4] [] (pz_Sh L, pz_u1 iv 141 R, dv, cc, ss) (pz_P (pz_Sh L) (.inl (some (.inl ((q_gr ((iv 138) 0) (iv 139) ((iv 141), 0)).2)))) (pz_u1 iv 141 ((q_gr ((iv 138) 0) (iv 139) ((iv 141), 0)).1)) dv cc ss) := by
    intro dd4
    induction dd4 using Nat.strongRecOn with
    | _ dd4 ih4 =>
    intro y i R u4_3 hu4_3 u4_4 hu4_4 hd4 hi hR hr hy
    refine pz_G_of pz_b61_4 ?_
    refine w_loc rfl ?_
    refine w_loc rfl ?_
    refine w_getI (v := (iv 138) 0) is_138 (by decide) rfl ?_
    refine w_ige (fun h1 => ?_) (fun h1 => ?_)
    · refine pz_G_of pz_b61_100 ?_
      refine w_loc rfl ?_
      refine w_ret (pz_rok1 (by omega)) ?_
      exact lf_i (by rw [show i = iv 138 0 by omega] at hR; exact congrArg Prod.snd hR) (by rw [show i = iv 138 0 by omega] at hR; rw [show R = (q_gr (iv 138 0) (iv 139) (iv 141, 0)).1 from congrArg Prod.fst hR])
    · refine w_pure rfl ?_
      refine w_loc (ls' := [some (.inr (.inl 138)), some (.inl y), some (.inl i), some (.inl 0), u4_4]) (st' := []) rfl ?_
      refine w_nil ?_
      have lp14 : ∀ (dd : Nat) (y2 : Int) (t : Int) (R2 : Nat → Int) (u14_1 : Option pz_V) (hu14_1 : pz_nc u14_1 = true) (u14_4 : Option pz_V) (hu14_4 : pz_nc u14_4 = true), (iv 138 0 - t).toNat = dd → ∀ (ht : 0 ≤ t ∧ t ≤ iv 138 0), ∀ (hR2 : (R2, y2) = q_fr (q_gS (iv 139) i) 0 t (R, y)), ∀ (hr2 : q_rp (iv 138 0) p R2), ∀ (hy2 : y2 = 0 ∨ y2 = 1),  pz_G 61 14 [some (.inr (.inl 138)), some (.inl y2), some (.inl i), some (.inl t), u14_4] [] (pz_Sh L, pz_u1 iv 141 R2, dv, cc, ss) (pz_P (pz_Sh L) (.inl (some (.inl ((q_gr ((iv 138) 0) (iv 139) ((iv 141), 0)).2)))) (pz_u1 iv 141 ((q_gr ((iv 138) 0) (iv 139) ((iv 141), 0)).1)) dv cc ss) := by
        intro dd14
        induction dd14 using Nat.strongRecOn with
        | _ dd14 ih14 =>
        intro y2 t R2 u14_1 hu14_1 u14_4 hu14_4 hd14 ht hR2 hr2 hy2
        have hp1 := fun h1 h2 => hpo i t hi.1 h1 ht.1 h2
        have hri := fun h => hr2 i hi.1 h
        refine pz_G_of pz_b61_14 ?_
        refine w_loc rfl ?_
        refine w_loc rfl ?_
        refine w_getI (v := (iv 138) 0) is_138 (by decide) rfl ?_
        refine w_ige (fun h2 => ?_) (fun h2 => ?_)
        · refine pz_G_of pz_b61_94 ?_
          refine w_iinc (ls' := [some (.inr (.inl 138)), some (.inl y2), some (.inl (i + 1)), some (.inl t), u14_4]) rfl rfl rfl (by omega) ?_
          refine w_goto ?_
          exact ih4 _ (by omega) y2 (i + 1) R2 (some (.inl t)) rfl u14_4 hu14_4 rfl (by omega) (by rw [q_fr_s (by omega), ← hR]; unfold q_gF; rw [hR2, show t = iv 138 0 by omega]) (by exact hr2) (by omega)
        · refine w_loc rfl ?_
          refine w_getR (q := 139) is_138 rf_138_2 ?_
          refine w_loc rfl ?_
          refine w_pure rfl ?_
          refine w_imulc (by omega) ?_
          refine w_loc rfl ?_
          refine w_iadd (by omega) ?_
          refine w_iald (v := (iv 139) ((10 * i) + t).toNat) is_139 ln_139 ⟨by omega, by omega⟩ rfl ?_
          refine w_loc (ls' := [some (.inr (.inl 138)), some (.inl y2), some (.inl i), some (.inl t), some (.inl ((iv 139) ((10 * i) + t).toNat))]) (st' := []) rfl ?_
          refine w_loc rfl ?_
          refine w_ldcv (v := 1000000000) rfl ?_
          refine w_ieq (fun h3 => ?_) (fun h3 => ?_)
          · refine pz_G_of pz_b61_88 ?_
            refine w_iinc (ls' := [some (.inr (.inl 138)), some (.inl y2), some (.inl i), some (.inl (t + 1)), some (.inl ((iv 139) ((10 * i) + t).toNat))]) rfl rfl rfl (by omega) ?_
            refine w_goto ?_
            exact ih14 _ (by omega) y2 (t + 1) R2 (some (.inl y2)) rfl (some (.inl ((iv 139) ((10 * i) + t).toNat))) rfl rfl (by omega) (by first | exact q_gS_t (by omega) hR2 (by omega) | exact q_gS_f (by omega) hR2 (by omega)) (by first | exact hr2 | exact q_rp_up hpo hr2 (by omega) (by omega) (by omega) (by omega) rfl) (by omega)
          · refine w_loc rfl ?_
            refine w_getR (q := 141) is_138 rf_138_4 ?_
            refine w_loc rfl ?_
            refine w_iald (v := R2 i.toNat) is_141 ln_141 ⟨by omega, by omega⟩ rfl ?_
            refine w_ldcv (v := 1000000000) rfl ?_
            refine w_ieq (fun h4 => ?_) (fun h4 => ?_)
            · refine pz_G_of pz_b61_88 ?_
              refine w_iinc (ls' := [some (.inr (.inl 138)), some (.inl y2), some (.inl i), some (.inl (t + 1)), some (.inl ((iv 139) ((10 * i) + t).toNat))]) rfl rfl rfl (by omega) ?_
              refine w_goto ?_
              exact ih14 _ (by omega) y2 (t + 1) R2 (some (.inl y2)) rfl (some (.inl ((iv 139) ((10 * i) + t).toNat))) rfl rfl (by omega) (by first | exact q_gS_t (by omega) hR2 (by omega) | exact q_gS_f (by omega) hR2 (by omega)) (by first | exact hr2 | exact q_rp_up hpo hr2 (by omega) (by omega) (by omega) (by omega) rfl) (by omega)
            · refine w_loc rfl ?_
              refine w_getR (q := 141) is_138 rf_138_4 ?_
              refine w_loc rfl ?_
              refine w_iald (v := R2 i.toNat) is_141 ln_141 ⟨by omega, by omega⟩ rfl ?_
              refine w_loc rfl ?_
              refine w_iadd (by omega) ?_
              refine w_loc rfl ?_
              refine w_getR (q := 141) is_138 rf_138_4 ?_
              refine w_loc rfl ?_
              refine w_iald (v := R2 t.toNat) is_141 ln_141 ⟨by omega, by omega⟩ rfl ?_
              refine w_ige (fun h5 => ?_) (fun h5 => ?_)
              · refine pz_G_of pz_b61_88 ?_
                refine w_iinc (ls' := [some (.inr (.inl 138)), some (.inl y2), some (.inl i), some (.inl (t + 1)), some (.inl ((iv 139) ((10 * i) + t).toNat))]) rfl rfl rfl (by omega) ?_
                refine w_goto ?_
                exact ih14 _ (by omega) y2 (t + 1) R2 (some (.inl y2)) rfl (some (.inl ((iv 139) ((10 * i) + t).toNat))) rfl rfl (by omega) (by first | exact q_gS_t (by omega) hR2 (by omega) | exact q_gS_f (by omega) hR2 (by omega)) (by first | exact hr2 | exact q_rp_up hpo hr2 (by omega) (by omega) (by omega) (by omega) rfl) (by omega)
              · refine w_loc rfl ?_
                refine w_getR (q := 141) is_138 rf_138_4 ?_
                refine w_loc rfl ?_
                refine w_loc rfl ?_
                refine w_getR (q := 141) is_138 rf_138_4 ?_
                refine w_loc rfl ?_
                refine w_iald (v := R2 i.toNat) is_141 ln_141 ⟨by omega, by omega⟩ rfl ?_
                refine w_loc rfl ?_
                refine w_iadd (by omega) ?_
                refine w_iastm (iv2 := pz_u1 iv 141 (pz_up R2 t.toNat ((R2 i.toNat) + ((iv 139) ((10 * i) + t).toNat)))) is_141 ln_141 ⟨by omega, by omega⟩ (by exact pz_u2_top _ _ _ _ _) ?_
                refine w_pure rfl ?_
                refine w_loc (ls' := [some (.inr (.inl 138)), some (.inl 1), some (.inl i), some (.inl t), some (.inl ((iv 139) ((10 * i) + t).toNat))]) (st' := []) rfl ?_
                refine w_nil ?_
                refine pz_G_of pz_b61_88 ?_
                refine w_iinc (ls' := [some (.inr (.inl 138)), some (.inl 1), some (.inl i), some (.inl (t + 1)), some (.inl ((iv 139) ((10 * i) + t).toNat))]) rfl rfl rfl (by omega) ?_
                refine w_goto ?_
                exact ih14 _ (by omega) 1 (t + 1) (pz_up R2 t.toNat ((R2 i.toNat) + ((iv 139) ((10 * i) + t).toNat))) (some (.inl 1)) rfl (some (.inl ((iv 139) ((10 * i) + t).toNat))) rfl rfl (by omega) (by first | exact q_gS_t (by omega) hR2 (by omega) | exact q_gS_f (by omega) hR2 (by omega)) (by first | exact hr2 | exact q_rp_up hpo hr2 (by omega) (by omega) (by omega) (by omega) rfl) (by omega)
      exact lp14 _ y 0 R (some (.inl y)) rfl u4_4 hu4_4 rfl (by omega) (by rw [q_fr_0 (by omega)]) (by exact hr) (by omega)
  exact lp4 _ 0 0 (iv 141) (none) rfl (none) rfl rfl (by omega) (by rw [q_fr_0 (by omega)]) (by exact hrp) (by omega)

theorem s_X5_byRounds {L : Nat} {iv : Nat → Nat → Int} (f : Int) (t : Int) {p : Nat → Int} (hz : 1 ≤ (iv 138) 0 ∧ (iv 138) 0 ≤ 10) (hpo : q_po ((iv 138) 0) p (iv 139)) (hf : 0 ≤ f ∧ f < (iv 138) 0) (ht : 0 ≤ t ∧ t < (iv 138) 0) (hpf : p f.toNat ≤ 0) : pz_R (pz_Sh L) 60 [.inr (.inl 138), .inl f, .inl t] iv (.inl (some (.inl (q_gi ((iv 138) 0) (iv 139) ((iv 138) 0) (q_ri f (iv 141)) t.toNat)))) (pz_u1 iv 141 (q_gi ((iv 138) 0) (iv 139) ((iv 138) 0) (q_ri f (iv 141)))) := by
  intro dv cc ss
  refine pz_G_mem (iv2 := pz_u1 iv 141 (iv 141)) (by exact (pz_u1_self iv 141).symm) ?_
  show pz_G 60 0 [some (.inr (.inl 138)), some (.inl f), some (.inl t), none, none] [] (pz_Sh L, pz_u1 iv 141 (iv 141), dv, cc, ss) (pz_P (pz_Sh L) (.inl (some (.inl (q_gi ((iv 138) 0) (iv 139) ((iv 138) 0) (q_ri f (iv 141)) t.toNat)))) (pz_u1 iv 141 (q_gi ((iv 138) 0) (iv 139) ((iv 138) 0) (q_ri f (iv 141)))) dv cc ss)
  refine pz_G_of pz_b60_0 ?_
  refine w_loc rfl ?_
  have hc1 : pz_R (pz_Sh L) 187 [.inl f] (pz_u1 iv 141 (iv 141)) (.inl (some (.inl (pz_bi (0 ≤ f ∧ f < 10))))) (pz_u1 iv 141 (iv 141)) := s_X10_isEventNumber f
  refine w_call hc1 rfl rfl ?_
  refine w_beq (fun h2 => ?_) (fun h2 => ?_)
  · exfalso; first | omega | contradiction
  · refine w_loc rfl ?_
    have hc3 : pz_R (pz_Sh L) 187 [.inl t] (pz_u1 iv 141 (iv 141)) (.inl (some (.inl (pz_bi (0 ≤ t ∧ t < 10))))) (pz_u1 iv 141 (iv 141)) := s_X10_isEventNumber t
    refine w_call hc3 rfl rfl ?_
    refine w_bne (fun h4 => ?_) (fun h4 => ?_)
    · refine pz_G_of pz_b60_17 ?_
      refine w_pure rfl ?_
      refine w_loc (ls' := [some (.inr (.inl 138)), some (.inl f), some (.inl t), some (.inl 0), none]) (st' := []) rfl ?_
      refine w_nil ?_
      have lp19 : ∀ (dd : Nat) (e : Int) (g : Nat → Int) (u19_4 : Option pz_V) (hu19_4 : pz_nc u19_4 = true), (10 - e).toNat = dd → ∀ (he : 0 ≤ e ∧ e ≤ 10), ∀ (hg : ∀ j : Nat, g j = if (j : Int) < e then 1000000000 else iv 141 j),  pz_G 60 19 [some (.inr (.inl 138)), some (.inl f), some (.inl t), some (.inl e), u19_4] [] (pz_Sh L, pz_u1 iv 141 g, dv, cc, ss) (pz_P (pz_Sh L) (.inl (some (.inl (q_gi ((iv 138) 0) (iv 139) ((iv 138) 0) (q_ri f (iv 141)) t.toNat)))) (pz_u1 iv 141 (q_gi ((iv 138) 0) (iv 139) ((iv 138) 0) (q_ri f (iv 141)))) dv cc ss) := by
        intro dd19
        induction dd19 using Nat.strongRecOn with
        | _ dd19 ih19 =>
        intro e g u19_4 hu19_4 hd19 he hg
        refine pz_G_of pz_b60_19 ?_
        refine w_loc rfl ?_
        refine w_pure rfl ?_
        refine w_ige (fun h5 => ?_) (fun h5 => ?_)
        · refine pz_G_of pz_b60_39 ?_
          refine w_loc rfl ?_
          refine w_getR (q := 141) is_138 rf_138_4 ?_
          refine w_loc rfl ?_
          refine w_pure rfl ?_
          refine w_iastm (iv2 := pz_u1 iv 141 (pz_up g f.toNat 0)) is_141 ln_141 ⟨by omega, by omega⟩ (by exact pz_u2_top _ _ _ _ _) ?_
          refine w_pure rfl ?_
          refine w_loc (ls' := [some (.inr (.inl 138)), some (.inl f), some (.inl t), some (.inl 1), u19_4]) (st' := []) rfl ?_
          refine w_pure rfl ?_
          refine w_loc (ls' := [some (.inr (.inl 138)), some (.inl f), some (.inl t), some (.inl 1), some (.inl 0)]) (st' := []) rfl ?_
          refine w_nil ?_
          have lp51 : ∀ (dd : Nat) (y : Int) (n : Int) (R : Nat → Int) , (iv 138 0 - n).toNat = dd → ∀ (hn : 0 ≤ n ∧ n ≤ iv 138 0), ∀ (hR : R = q_gi (iv 138 0) (iv 139) n (q_ri f (iv 141))), ∀ (hr : q_rp (iv 138 0) p R), ∀ (hy : y = 0 ∨ y = 1), ∀ (hst : y = 0 → (q_gr (iv 138 0) (iv 139) (R, 0)).1 = R),  pz_G 60 51 [some (.inr (.inl 138)), some (.inl f), some (.inl t), some (.inl y), some (.inl n)] [] (pz_Sh L, pz_u1 iv 141 R, dv, cc, ss) (pz_P (pz_Sh L) (.inl (some (.inl (q_gi ((iv 138) 0) (iv 139) ((iv 138) 0) (q_ri f (iv 141)) t.toNat)))) (pz_u1 iv 141 (q_gi ((iv 138) 0) (iv 139) ((iv 138) 0) (q_ri f (iv 141)))) dv cc ss) := by
            intro dd51
            induction dd51 using Nat.strongRecOn with
            | _ dd51 ih51 =>
            intro y n R  hd51 hn hR hr hy hst
            have hg0 := q_gr_0 (z := iv 138 0) (w := iv 139) (R := R) (by omega)
            refine pz_G_of pz_b60_51 ?_
            refine w_loc rfl ?_
            refine w_loc rfl ?_
            refine w_getI (v := (iv 138) 0) is_138 (by decide) rfl ?_
            refine w_ige (fun h6 => ?_) (fun h6 => ?_)
            · refine pz_G_of pz_b60_75 ?_
              refine w_loc rfl ?_
              refine w_getR (q := 141) is_138 rf_138_4 ?_
              refine w_loc rfl ?_
              refine w_iald (v := R t.toNat) is_141 ln_141 ⟨by omega, by omega⟩ rfl ?_
              refine w_ret rfl ?_
              have h9 : R = q_gi (iv 138 0) (iv 139) (iv 138 0) (q_ri f (iv 141)) := (by first | (rw [hR, show n = iv 138 0 by omega]) | exact q_gi_e hn hR (hst (by omega))); exact lf_i (by rw [h9]) (by rw [h9])
            · refine w_loc rfl ?_
              refine w_zeq (fun h7 => ?_) (fun h7 => ?_)
              · refine pz_G_of pz_b60_75 ?_
                refine w_loc rfl ?_
                refine w_getR (q := 141) is_138 rf_138_4 ?_
                refine w_loc rfl ?_
                refine w_iald (v := R t.toNat) is_141 ln_141 ⟨by omega, by omega⟩ rfl ?_
                refine w_ret rfl ?_
                have h9 : R = q_gi (iv 138 0) (iv 139) (iv 138 0) (q_ri f (iv 141)) := (by first | (rw [hR, show n = iv 138 0 by omega]) | exact q_gi_e hn hR (hst (by omega))); exact lf_i (by rw [h9]) (by rw [h9])
              · refine w_loc rfl ?_
                have hc8 : pz_R (pz_Sh L) 61 [.inr (.inl 138)] (pz_u1 iv 141 R) (.inl (some (.inl ((q_gr ((iv 138) 0) (iv 139) (R, 0)).2)))) (pz_u1 iv 141 ((q_gr ((iv 138) 0) (iv 139) (R, 0)).1)) := pz_R_mem (s_X5_goRound (by show 1 ≤ (iv 138) 0 ∧ (iv 138) 0 ≤ 10; assumption) (by show q_po ((iv 138) 0) p (iv 139); exact hpo) (by show q_rp ((iv 138) 0) p R; exact hr)) (by rw [pz_u1_top (r := 141)]; rfl)
                refine w_call hc8 rfl (pz_cokI is_138 rfl) ?_
                refine w_loc (ls' := [some (.inr (.inl 138)), some (.inl f), some (.inl t), some (.inl ((q_gr ((iv 138) 0) (iv 139) (R, 0)).2)), some (.inl n)]) (st' := []) rfl ?_
                refine w_iinc (ls' := [some (.inr (.inl 138)), some (.inl f), some (.inl t), some (.inl ((q_gr ((iv 138) 0) (iv 139) (R, 0)).2)), some (.inl (n + 1))]) rfl rfl rfl (by omega) ?_
                refine w_goto ?_
                exact ih51 _ (by omega) ((q_gr ((iv 138) 0) (iv 139) (R, 0)).2) (n + 1) ((q_gr ((iv 138) 0) (iv 139) (R, 0)).1)  rfl (by omega) (by rw [q_gi_s (by omega), ← hR]) (by exact q_gr_rp (by omega) hpo hr) (by exact hg0.1) (by intro h; have h9 := hg0.2 h; rw [h9]; exact h9)
          exact lp51 _ 1 0 (pz_up g f.toNat 0)  rfl (by omega) (by unfold q_gi; rw [q_fr_0 (by omega)]; funext j; rw [pz_up_at, hg j]; unfold q_ri; (repeat' split) <;> first | rfl | omega) (by intro x g1 g2; have g3 := hpo x x g1 g2 g1 g2; rw [pz_up_at, hg]; (repeat' split) <;> first | omega | (rename_i g4; rw [show x = f by omega]; omega)) (by omega) (by intro h; omega)
        · refine w_loc rfl ?_
          refine w_getR (q := 141) is_138 rf_138_4 ?_
          refine w_loc rfl ?_
          refine w_ldcv (v := 1000000000) rfl ?_
          refine w_iastm (iv2 := pz_u1 iv 141 (pz_up g e.toNat 1000000000)) is_141 ln_141 ⟨by omega, by omega⟩ (by exact pz_u2_top _ _ _ _ _) ?_
          refine w_iinc (ls' := [some (.inr (.inl 138)), some (.inl f), some (.inl t), some (.inl (e + 1)), u19_4]) rfl rfl rfl (by omega) ?_
          refine w_goto ?_
          exact ih19 _ (by omega) (e + 1) (pz_up g e.toNat 1000000000) u19_4 hu19_4 rfl (by omega) (by intro j; rw [pz_up_at, hg j]; (repeat' split) <;> first | rfl | omega)
      exact lp19 _ 0 (iv 141) (none) rfl rfl (by omega) (by intro j; rw [if_neg (by omega)])
    · refine w_nil ?_
      exfalso; first | omega | contradiction

theorem s_X5_isReachedAtOnce {L : Nat} {iv : Nat → Nat → Int} (f : Int) (t : Int) {k : Nat → Int} {d : Nat → Int} (hk : q_KR k) (hN : q_nD k (iv 140) d) (hD : q_dR d) (hX : q_dX k d) (hzk : (iv 138) 0 = k 0) (hf : 0 ≤ f ∧ f < k 0) (ht : 0 ≤ t ∧ t < k 0) : pz_R (pz_Sh L) 62 [.inr (.inl 138), .inl f, .inl t] iv (.inl (some (.inl (pz_bi (q_dir d f t))))) iv := by
  intro dv cc ss
  have hk0 := hk.r0
  have hr0 := q_dir_0 hk hN hD hf ht
  show pz_G 62 0 [some (.inr (.inl 138)), some (.inl f), some (.inl t), none, none, none, none, none] [] (pz_Sh L, iv, dv, cc, ss) (pz_P (pz_Sh L) (.inl (some (.inl (pz_bi (q_dir d f t))))) iv dv cc ss)
  refine pz_G_of pz_b62_0 ?_
  refine w_loc rfl ?_
  refine w_loc rfl ?_
  refine w_loc rfl ?_
  have hc1 : pz_R (pz_Sh L) 59 [.inr (.inl 138), .inl f, .inl t] (iv) (.inl (some (.inl ((iv 140) (10 * f + t).toNat)))) (iv) := s_X5_between f t (by omega) (by omega)
  refine w_call hc1 rfl (pz_cokI is_138 rfl) ?_
  refine w_loc (ls' := [some (.inr (.inl 138)), some (.inl f), some (.inl t), some (.inl ((iv 140) (10 * f + t).toNat)), none, none, none, none]) (st' := []) rfl ?_
  refine w_loc rfl ?_
  refine w_ldcv (v := 1000000000) rfl ?_
  refine w_ine (fun h2 => ?_) (fun h2 => ?_)
  · refine pz_G_of pz_b62_15 ?_
    refine w_pure rfl ?_
    refine w_loc (ls' := [some (.inr (.inl 138)), some (.inl f), some (.inl t), some (.inl ((iv 140) (10 * f + t).toNat)), some (.inl 0), none, none, none]) (st' := []) rfl ?_
    refine w_nil ?_
    have lp18 : ∀ (dd : Nat) (c : Int) (u18_5 : Option pz_V) (hu18_5 : pz_nc u18_5 = true) (u18_6 : Option pz_V) (hu18_6 : pz_nc u18_6 = true) (u18_7 : Option pz_V) (hu18_7 : pz_nc u18_7 = true), (k 0 - c).toNat = dd → ∀ (hc : 0 ≤ c ∧ c ≤ k 0), ∀ (hno : ∀ i : Int, 0 ≤ i → i < c → q_dirP d f t i),  pz_G 62 18 [some (.inr (.inl 138)), some (.inl f), some (.inl t), some (.inl ((iv 140) (10 * f + t).toNat)), some (.inl c), u18_5, u18_6, u18_7] [] (pz_Sh L, iv, dv, cc, ss) (pz_P (pz_Sh L) (.inl (some (.inl (pz_bi (q_dir d f t))))) iv dv cc ss) := by
      intro dd18
      induction dd18 using Nat.strongRecOn with
      | _ dd18 ih18 =>
      intro c u18_5 hu18_5 u18_6 hu18_6 u18_7 hu18_7 hd18 hc hno
      have hrc := fun h => (q_dir_0 hk hN hD hf (t := c) ⟨hc.1, h⟩).2
      have hrd := fun h => (q_dir_0 hk hN hD (f := c) ⟨hc.1, h⟩ ht).2
      refine pz_G_of pz_b62_18 ?_
      refine w_loc rfl ?_
      refine w_loc rfl ?_
      refine w_getI (v := (iv 138) 0) is_138 (by decide) rfl ?_
      refine w_ige (fun h3 => ?_) (fun h3 => ?_)
      · refine pz_G_of pz_b62_100 ?_
        refine w_pure rfl ?_
        refine w_ret (pz_rok1 (Or.inr rfl)) ?_
        first | exact lf_i (pz_bi_f (fun q => absurd q.1 (hr0.1.mp (by assumption)))) rfl | exact lf_i (pz_bi_f (fun q => absurd (q.2 c (by omega) (by omega)) ((q_dir_c hk hN hD hf ht ⟨hc.1, by omega⟩ (by assumption)).mp ⟨by assumption, by assumption, by assumption, by assumption, by assumption⟩))) rfl | exact lf_i (pz_bi_t ⟨Classical.not_not.mp (fun q => absurd (hr0.1.mpr q) (by assumption)), fun i g1 g2 => by by_cases g3 : i < k 0; exact hno i g1 (by omega); exact Or.inr (Or.inr (Or.inl (hX f i hf.1 hf.2 (by omega) (by omega))))⟩) rfl
      · refine w_loc rfl ?_
        refine w_loc rfl ?_
        refine w_loc rfl ?_
        have hc4 : pz_R (pz_Sh L) 59 [.inr (.inl 138), .inl f, .inl c] (iv) (.inl (some (.inl ((iv 140) (10 * f + c).toNat)))) (iv) := s_X5_between f c (by omega) (by omega)
        refine w_call hc4 rfl (pz_cokI is_138 rfl) ?_
        refine w_loc (ls' := [some (.inr (.inl 138)), some (.inl f), some (.inl t), some (.inl ((iv 140) (10 * f + t).toNat)), some (.inl c), some (.inl ((iv 140) (10 * f + c).toNat)), u18_6, u18_7]) (st' := []) rfl ?_
        refine w_loc rfl ?_
        refine w_loc rfl ?_
        refine w_loc rfl ?_
        have hc5 : pz_R (pz_Sh L) 59 [.inr (.inl 138), .inl c, .inl t] (iv) (.inl (some (.inl ((iv 140) (10 * c + t).toNat)))) (iv) := s_X5_between c t (by omega) (by omega)
        refine w_call hc5 rfl (pz_cokI is_138 rfl) ?_
        refine w_loc (ls' := [some (.inr (.inl 138)), some (.inl f), some (.inl t), some (.inl ((iv 140) (10 * f + t).toNat)), some (.inl c), some (.inl ((iv 140) (10 * f + c).toNat)), some (.inl ((iv 140) (10 * c + t).toNat)), u18_7]) (st' := []) rfl ?_
        refine w_loc rfl ?_
        refine w_loc rfl ?_
        refine w_ieq (fun h6 => ?_) (fun h6 => ?_)
        · refine pz_G_of pz_b62_61 ?_
          refine w_pure rfl ?_
          refine w_nil ?_
          refine pz_G_of pz_b62_62 ?_
          refine w_loc (ls' := [some (.inr (.inl 138)), some (.inl f), some (.inl t), some (.inl ((iv 140) (10 * f + t).toNat)), some (.inl c), some (.inl ((iv 140) (10 * f + c).toNat)), some (.inl ((iv 140) (10 * c + t).toNat)), some (.inl 0)]) (st' := []) rfl ?_
          refine w_loc rfl ?_
          refine w_zeq (fun _ => ?_) (fun h => absurd h (by decide))
          refine pz_G_of pz_b62_94 ?_
          refine w_iinc (ls' := [some (.inr (.inl 138)), some (.inl f), some (.inl t), some (.inl ((iv 140) (10 * f + t).toNat)), some (.inl (c + 1)), some (.inl ((iv 140) (10 * f + c).toNat)), some (.inl ((iv 140) (10 * c + t).toNat)), some (.inl 0)]) rfl rfl rfl (by omega) ?_
          refine w_goto ?_
          exact ih18 _ (by omega) (c + 1) (some (.inl ((iv 140) (10 * f + c).toNat))) rfl (some (.inl ((iv 140) (10 * c + t).toNat))) rfl (some (.inl 0)) rfl rfl (by omega) (by intro i g1 g2; by_cases g3 : i = c; (rw [g3]; exact Classical.not_not.mp (fun q => absurd ((q_dir_c hk hN hD hf ht ⟨hc.1, by omega⟩ (by assumption)).mpr q) (by omega))); exact hno i g1 (by omega))
        · refine w_loc rfl ?_
          refine w_loc rfl ?_
          refine w_ieq (fun h7 => ?_) (fun h7 => ?_)
          · refine pz_G_of pz_b62_61 ?_
            refine w_pure rfl ?_
            refine w_nil ?_
            refine pz_G_of pz_b62_62 ?_
            refine w_loc (ls' := [some (.inr (.inl 138)), some (.inl f), some (.inl t), some (.inl ((iv 140) (10 * f + t).toNat)), some (.inl c), some (.inl ((iv 140) (10 * f + c).toNat)), some (.inl ((iv 140) (10 * c + t).toNat)), some (.inl 0)]) (st' := []) rfl ?_
            refine w_loc rfl ?_
            refine w_zeq (fun _ => ?_) (fun h => absurd h (by decide))
            refine pz_G_of pz_b62_94 ?_
            refine w_iinc (ls' := [some (.inr (.inl 138)), some (.inl f), some (.inl t), some (.inl ((iv 140) (10 * f + t).toNat)), some (.inl (c + 1)), some (.inl ((iv 140) (10 * f + c).toNat)), some (.inl ((iv 140) (10 * c + t).toNat)), some (.inl 0)]) rfl rfl rfl (by omega) ?_
            refine w_goto ?_
            exact ih18 _ (by omega) (c + 1) (some (.inl ((iv 140) (10 * f + c).toNat))) rfl (some (.inl ((iv 140) (10 * c + t).toNat))) rfl (some (.inl 0)) rfl rfl (by omega) (by intro i g1 g2; by_cases g3 : i = c; (rw [g3]; exact Classical.not_not.mp (fun q => absurd ((q_dir_c hk hN hD hf ht ⟨hc.1, by omega⟩ (by assumption)).mpr q) (by omega))); exact hno i g1 (by omega))
          · refine w_pure rfl ?_
            refine w_goto ?_
            refine pz_G_of pz_b62_62 ?_
            refine w_loc (ls' := [some (.inr (.inl 138)), some (.inl f), some (.inl t), some (.inl ((iv 140) (10 * f + t).toNat)), some (.inl c), some (.inl ((iv 140) (10 * f + c).toNat)), some (.inl ((iv 140) (10 * c + t).toNat)), some (.inl 1)]) (st' := []) rfl ?_
            refine w_loc rfl ?_
            refine w_zeq (fun h => absurd h (by decide)) (fun _ => ?_)
            refine w_loc rfl ?_
            refine w_ldcv (v := 1000000000) rfl ?_
            refine w_ieq (fun h8 => ?_) (fun h8 => ?_)
            · refine pz_G_of pz_b62_94 ?_
              refine w_iinc (ls' := [some (.inr (.inl 138)), some (.inl f), some (.inl t), some (.inl ((iv 140) (10 * f + t).toNat)), some (.inl (c + 1)), some (.inl ((iv 140) (10 * f + c).toNat)), some (.inl ((iv 140) (10 * c + t).toNat)), some (.inl 1)]) rfl rfl rfl (by omega) ?_
              refine w_goto ?_
              exact ih18 _ (by omega) (c + 1) (some (.inl ((iv 140) (10 * f + c).toNat))) rfl (some (.inl ((iv 140) (10 * c + t).toNat))) rfl (some (.inl 1)) rfl rfl (by omega) (by intro i g1 g2; by_cases g3 : i = c; (rw [g3]; exact Classical.not_not.mp (fun q => absurd ((q_dir_c hk hN hD hf ht ⟨hc.1, by omega⟩ (by assumption)).mpr q) (by omega))); exact hno i g1 (by omega))
            · refine w_loc rfl ?_
              refine w_ldcv (v := 1000000000) rfl ?_
              refine w_ieq (fun h9 => ?_) (fun h9 => ?_)
              · refine pz_G_of pz_b62_94 ?_
                refine w_iinc (ls' := [some (.inr (.inl 138)), some (.inl f), some (.inl t), some (.inl ((iv 140) (10 * f + t).toNat)), some (.inl (c + 1)), some (.inl ((iv 140) (10 * f + c).toNat)), some (.inl ((iv 140) (10 * c + t).toNat)), some (.inl 1)]) rfl rfl rfl (by omega) ?_
                refine w_goto ?_
                exact ih18 _ (by omega) (c + 1) (some (.inl ((iv 140) (10 * f + c).toNat))) rfl (some (.inl ((iv 140) (10 * c + t).toNat))) rfl (some (.inl 1)) rfl rfl (by omega) (by intro i g1 g2; by_cases g3 : i = c; (rw [g3]; exact Classical.not_not.mp (fun q => absurd ((q_dir_c hk hN hD hf ht ⟨hc.1, by omega⟩ (by assumption)).mpr q) (by omega))); exact hno i g1 (by omega))
              · refine w_loc rfl ?_
                refine w_loc rfl ?_
                refine w_iadd (by omega) ?_
                refine w_loc rfl ?_
                refine w_ine (fun h10 => ?_) (fun h10 => ?_)
                · refine pz_G_of pz_b62_94 ?_
                  refine w_iinc (ls' := [some (.inr (.inl 138)), some (.inl f), some (.inl t), some (.inl ((iv 140) (10 * f + t).toNat)), some (.inl (c + 1)), some (.inl ((iv 140) (10 * f + c).toNat)), some (.inl ((iv 140) (10 * c + t).toNat)), some (.inl 1)]) rfl rfl rfl (by omega) ?_
                  refine w_goto ?_
                  exact ih18 _ (by omega) (c + 1) (some (.inl ((iv 140) (10 * f + c).toNat))) rfl (some (.inl ((iv 140) (10 * c + t).toNat))) rfl (some (.inl 1)) rfl rfl (by omega) (by intro i g1 g2; by_cases g3 : i = c; (rw [g3]; exact Classical.not_not.mp (fun q => absurd ((q_dir_c hk hN hD hf ht ⟨hc.1, by omega⟩ (by assumption)).mpr q) (by omega))); exact hno i g1 (by omega))
                · refine w_pure rfl ?_
                  refine w_ret (pz_rok1 (Or.inl rfl)) ?_
                  first | exact lf_i (pz_bi_f (fun q => absurd q.1 (hr0.1.mp (by assumption)))) rfl | exact lf_i (pz_bi_f (fun q => absurd (q.2 c (by omega) (by omega)) ((q_dir_c hk hN hD hf ht ⟨hc.1, by omega⟩ (by assumption)).mp ⟨by assumption, by assumption, by assumption, by assumption, by assumption⟩))) rfl | exact lf_i (pz_bi_t ⟨Classical.not_not.mp (fun q => absurd (hr0.1.mpr q) (by assumption)), fun i g1 g2 => by by_cases g3 : i < k 0; exact hno i g1 (by omega); exact Or.inr (Or.inr (Or.inl (hX f i hf.1 hf.2 (by omega) (by omega))))⟩) rfl
    exact lp18 _ 0 (none) rfl (none) rfl (none) rfl rfl (by omega) (by intro i g1 g2; omega)
  · refine w_pure rfl ?_
    refine w_ret (pz_rok1 (Or.inl rfl)) ?_
    first | exact lf_i (pz_bi_f (fun q => absurd q.1 (hr0.1.mp (by assumption)))) rfl | exact lf_i (pz_bi_f (fun q => absurd (q.2 c (by omega) (by omega)) ((q_dir_c hk hN hD hf ht ⟨hc.1, by omega⟩ (by assumption)).mp ⟨by assumption, by assumption, by assumption, by assumption, by assumption⟩))) rfl | exact lf_i (pz_bi_t ⟨Classical.not_not.mp (fun q => absurd (hr0.1.mpr q) (by assumption)), fun i g1 g2 => by by_cases g3 : i < k 0; exact hno i g1 (by omega); exact Or.inr (Or.inr (Or.inl (hX f i hf.1 hf.2 (by omega) (by omega))))⟩) rfl
