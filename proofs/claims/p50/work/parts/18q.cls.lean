
theorem s_X10_addEvent_1 {L : Nat} {iv : Nat → Nat → Int} {k : Nat → Int} (hk : q_KR k) (hE : q_cE k (iv 3)) (hB : q_cB k (iv 4) (iv 5) (iv 6) (iv 7) (iv 8) (iv 9)) (hS : q_cS k (iv 10) (iv 11) (iv 12) (iv 13) (iv 14)) (hC : q_cC k (iv 15) (iv 16)) (hA : q_cA k (iv 17) (iv 18) (iv 19) (iv 20)) (hO : q_cO k (iv 22) (iv 23) (iv 24)) (hL : q_cL k (iv 25)) (hP : q_cP k (iv 27)) (hcase0 : k 0 = 10) : pz_R (pz_Sh L) 123 [.inr (.inl 2)] iv (.inr 0) iv := by
  intro dv cc ss
  have hk0 := hk.r0
  have hE0 := hE
  have hB0 := hB.1
  have hS0 := hS.1
  have hC0 := hC.1
  have hA0 := hA.1
  show pz_G 123 0 [some (.inr (.inl 2)), none] [] (pz_Sh L, iv, dv, cc, ss) (pz_P (pz_Sh L) (.inr 0) iv dv cc ss)
  refine pz_G_of pz_b123_0 ?_
  refine w_loc rfl ?_
  refine w_getR (q := 3) is_2 rf_2_0 ?_
  refine w_getI (v := (iv 3) 0) is_3 (by decide) rfl ?_
  refine w_pure rfl ?_
  refine w_ilt (fun h1 => ?_) (fun h1 => ?_)
  · exfalso; first | omega | contradiction
  · first
    | (exfalso; first | omega | contradiction)
    | (refine w_thr (by decide) ?_
       first | first | exact lf_e (by rfl) | exact lf_i (by rw [hE.1]) (by rw [hE.1]) | (exfalso; omega))

theorem s_X10_addEvent_0 {L : Nat} {iv : Nat → Nat → Int} {k : Nat → Int} (hk : q_KR k) (hE : q_cE k (iv 3)) (hB : q_cB k (iv 4) (iv 5) (iv 6) (iv 7) (iv 8) (iv 9)) (hS : q_cS k (iv 10) (iv 11) (iv 12) (iv 13) (iv 14)) (hC : q_cC k (iv 15) (iv 16)) (hA : q_cA k (iv 17) (iv 18) (iv 19) (iv 20)) (hO : q_cO k (iv 22) (iv 23) (iv 24)) (hL : q_cL k (iv 25)) (hP : q_cP k (iv 27)) (hcase0 : k 0 ≠ 10) : pz_R (pz_Sh L) 123 [.inr (.inl 2)] iv (.inl (some (.inl (k 0)))) (pz_u1 (pz_u1 iv 2 (pz_up (pz_up (pz_up (iv 2) 7 0) 8 0) 9 0)) 3 (pz_up (iv 3) 0 (k 0 + 1))) := by
  intro dv cc ss
  have hk0 := hk.r0
  have hE0 := hE
  have hB0 := hB.1
  have hS0 := hS.1
  have hC0 := hC.1
  have hA0 := hA.1
  refine pz_G_mem (iv2 := pz_u1 (pz_u1 iv 2 (iv 2)) 3 (iv 3)) (by exact ((pz_u1_self iv 2).symm).trans (pz_u1_self (pz_u1 iv 2 (iv 2)) 3).symm) ?_
  show pz_G 123 0 [some (.inr (.inl 2)), none] [] (pz_Sh L, pz_u1 (pz_u1 iv 2 (iv 2)) 3 (iv 3), dv, cc, ss) (pz_P (pz_Sh L) (.inl (some (.inl (k 0)))) (pz_u1 (pz_u1 iv 2 (pz_up (pz_up (pz_up (iv 2) 7 0) 8 0) 9 0)) 3 (pz_up (iv 3) 0 (k 0 + 1))) dv cc ss)
  refine pz_G_of pz_b123_0 ?_
  refine w_loc rfl ?_
  refine w_getR (q := 3) is_2 rf_2_0 ?_
  refine w_getI (v := (iv 3) 0) is_3 (by decide) rfl ?_
  refine w_pure rfl ?_
  refine w_ilt (fun h1 => ?_) (fun h1 => ?_)
  · first
    | (exfalso; first | omega | contradiction)
    | (refine pz_G_of pz_b123_22 ?_
       refine w_loc rfl ?_
       refine w_getR (q := 3) is_2 rf_2_0 ?_
       refine w_getI (v := (iv 3) 0) is_3 (by decide) rfl ?_
       refine w_loc (ls' := [some (.inr (.inl 2)), some (.inl ((iv 3) 0))]) (st' := []) rfl ?_
       refine w_loc rfl ?_
       refine w_getR (q := 3) is_2 rf_2_0 ?_
       refine w_loc rfl ?_
       refine w_pure rfl ?_
       refine w_iadd (by omega) ?_
       refine w_putIm (iv2 := pz_u1 (pz_u1 iv 2 (iv 2)) 3 (pz_up (iv 3) 0 (((iv 3) 0) + 1))) is_3 pz_fit0 (by exact pz_u2_top _ _ _ _ _) ?_
       refine w_loc rfl ?_
       have hc2 : pz_R (pz_Sh L) 178 [.inr (.inl 2)] (pz_u1 (pz_u1 iv 2 (iv 2)) 3 (pz_up (iv 3) 0 (((iv 3) 0) + 1))) (.inl none) (pz_u1 (pz_u1 iv 2 (pz_up (pz_up (pz_up (iv 2) 7 0) 8 0) 9 0)) 3 (pz_up (iv 3) 0 (((iv 3) 0) + 1))) := pz_R_mem (s_X10_forget) (by rw [pz_u1_in (r := 2) (q := 3) (by decide)]; rw [pz_u1_top (r := 2)]; rfl)
       refine w_callv hc2 rfl (pz_cokI is_2 rfl) ?_
       refine w_loc rfl ?_
       refine w_ret rfl ?_
       first | first | exact lf_e (by rfl) | exact lf_i (by rw [hE.1]) (by rw [hE.1]) | (exfalso; omega))
  · first
    | (exfalso; first | omega | contradiction)
    | (refine w_thr (by decide) ?_
       first | first | exact lf_e (by rfl) | exact lf_i (by rw [hE.1]) (by rw [hE.1]) | (exfalso; omega))

theorem s_X10_bound_1 {L : Nat} {iv : Nat → Nat → Int} (f : Int) (t : Int) (w : Int) (l : Int) {k : Nat → Int} (hk : q_KR k) (hE : q_cE k (iv 3)) (hB : q_cB k (iv 4) (iv 5) (iv 6) (iv 7) (iv 8) (iv 9)) (hS : q_cS k (iv 10) (iv 11) (iv 12) (iv 13) (iv 14)) (hC : q_cC k (iv 15) (iv 16)) (hA : q_cA k (iv 17) (iv 18) (iv 19) (iv 20)) (hO : q_cO k (iv 22) (iv 23) (iv 24)) (hL : q_cL k (iv 25)) (hP : q_cP k (iv 27)) (hcase0 : ¬ (0 ≤ f ∧ f ≤ k 0 - 1 ∧ 0 ≤ t ∧ t ≤ k 0 - 1)) : pz_R (pz_Sh L) 124 [.inr (.inl 2), .inl f, .inl t, .inl w, .inl l] iv (.inr 2) iv := by
  intro dv cc ss
  have hk0 := hk.r0
  have hE0 := hE
  have hB0 := hB.1
  have hS0 := hS.1
  have hC0 := hC.1
  have hA0 := hA.1
  show pz_G 124 0 [some (.inr (.inl 2)), some (.inl f), some (.inl t), some (.inl w), some (.inl l), none] [] (pz_Sh L, iv, dv, cc, ss) (pz_P (pz_Sh L) (.inr 2) iv dv cc ss)
  refine pz_G_of pz_b124_0 ?_
  refine w_loc rfl ?_
  refine w_loc rfl ?_
  by_cases h1 : 0 ≤ f ∧ f < k 0
  · first
    | (exfalso; first | omega | contradiction)
    | (have hc2 : pz_R (pz_Sh L) 170 [.inr (.inl 2), .inl f] (iv) (.inl none) (iv) := s_X10_needEvent_y f (by exact hE) (by exact h1)
       refine w_callv hc2 rfl (pz_cokI is_2 rfl) ?_
       refine w_loc rfl ?_
       refine w_loc rfl ?_
       by_cases h3 : 0 ≤ t ∧ t < k 0
       · first
         | (exfalso; first | omega | contradiction)
         | (have hc4 : pz_R (pz_Sh L) 170 [.inr (.inl 2), .inl t] (iv) (.inl none) (iv) := s_X10_needEvent_y t (by exact hE) (by exact h3)
            refine w_callv hc4 rfl (pz_cokI is_2 rfl) ?_
            refine w_loc rfl ?_
            refine w_loc rfl ?_
            refine w_ieq (fun h5 => ?_) (fun h5 => ?_)
            · first
              | (exfalso; first | omega | contradiction)
              | (refine pz_G_of pz_b124_19 ?_
                 refine w_pure rfl ?_
                 refine w_nil ?_
                 refine pz_G_of pz_b124_20 ?_
                 have hc6 : pz_R (pz_Sh L) 172 [.inl 0] (iv) (.inr 1) (iv) := s_X10_needRange_n 0 (by omega)
                 refine w_calle hc6 rfl rfl rfl ?_
                 first | exact lf_e (by rfl) | (exfalso; omega))
            · first
              | (exfalso; first | omega | contradiction)
              | (refine w_pure rfl ?_
                 refine w_goto ?_
                 refine pz_G_of pz_b124_20 ?_
                 have hc7 : pz_R (pz_Sh L) 172 [.inl 1] (iv) (.inl none) (iv) := s_X10_needRange_y 1 (by omega)
                 refine w_callv hc7 rfl rfl ?_
                 refine w_loc rfl ?_
                 refine w_pure rfl ?_
                 refine w_pure rfl ?_
                 have hc8 : pz_R (pz_Sh L) 185 [.inl w, .inl (-500), .inl 500] (iv) (.inl (some (.inl (pz_bi ((-500) ≤ w ∧ w ≤ 500))))) (iv) := s_X10_isWithin w (-500) 500
                 refine w_call hc8 rfl rfl ?_
                 by_cases h9 : (-500) ≤ w ∧ w ≤ 500
                 · first
                   | (exfalso; first | omega | contradiction)
                   | (have hc10 : pz_R (pz_Sh L) 172 [.inl (pz_bi ((-500) ≤ w ∧ w ≤ 500))] (iv) (.inl none) (iv) := s_X10_needRange_y (pz_bi ((-500) ≤ w ∧ w ≤ 500)) (by exact pz_bi_p1 h9)
                      refine w_callv hc10 rfl rfl ?_
                      refine w_loc rfl ?_
                      refine w_pure rfl ?_
                      refine w_pure rfl ?_
                      have hc11 : pz_R (pz_Sh L) 185 [.inl l, .inl (-4), .inl 4] (iv) (.inl (some (.inl (pz_bi ((-4) ≤ l ∧ l ≤ 4))))) (iv) := s_X10_isWithin l (-4) 4
                      refine w_call hc11 rfl rfl ?_
                      by_cases h12 : (-4) ≤ l ∧ l ≤ 4
                      · first
                        | (exfalso; first | omega | contradiction)
                        | (have hc13 : pz_R (pz_Sh L) 172 [.inl (pz_bi ((-4) ≤ l ∧ l ≤ 4))] (iv) (.inl none) (iv) := s_X10_needRange_y (pz_bi ((-4) ≤ l ∧ l ≤ 4)) (by exact pz_bi_p1 h12)
                           refine w_callv hc13 rfl rfl ?_
                           refine w_loc rfl ?_
                           refine w_getR (q := 3) is_2 rf_2_0 ?_
                           refine w_getR (q := 4) is_3 rf_3_1 ?_
                           refine w_getI (v := (iv 4) 0) is_4 (by decide) rfl ?_
                           refine w_pure rfl ?_
                           refine w_ige (fun h14 => ?_) (fun h14 => ?_)
                           · first
                             | (exfalso; first | omega | contradiction)
                             | (refine pz_G_of pz_b124_66 ?_
                                refine w_pure rfl ?_
                                refine w_nil ?_
                                refine pz_G_of pz_b124_67 ?_
                                have hc15 : pz_R (pz_Sh L) 173 [.inl 0] (iv) (.inr 0) (iv) := s_X10_needState_n 0 (by omega)
                                refine w_calle hc15 rfl rfl rfl ?_
                                first | exact lf_e (by rfl) | (exfalso; omega))
                           · first
                             | (exfalso; first | omega | contradiction)
                             | (refine w_pure rfl ?_
                                refine w_goto ?_
                                refine pz_G_of pz_b124_67 ?_
                                have hc16 : pz_R (pz_Sh L) 173 [.inl 1] (iv) (.inl none) (iv) := s_X10_needState_y 1 (by omega)
                                refine w_callv hc16 rfl rfl ?_
                                refine w_loc rfl ?_
                                refine w_getR (q := 3) is_2 rf_2_0 ?_
                                refine w_getR (q := 4) is_3 rf_3_1 ?_
                                refine w_loc rfl ?_
                                refine w_loc rfl ?_
                                refine w_loc rfl ?_
                                refine w_loc rfl ?_
                                have hc17 : pz_R (pz_Sh L) 16 [.inr (.inl 4), .inl f, .inl t, .inl w, .inl l] (iv) (.inl (some (.inl (k 1)))) (pz_u1 (pz_u1 (pz_u1 (pz_u1 (pz_u1 (pz_u1 iv 4 (pz_up (iv 4) 0 (k 1 + 1))) 5 (pz_up (iv 5) (k 1).toNat f)) 6 (pz_up (iv 6) (k 1).toNat t)) 7 (pz_up (iv 7) (k 1).toNat w)) 8 (pz_up (iv 8) (k 1).toNat l)) 9 (pz_up (iv 9) (k 1).toNat 0)) := pz_R_mem (s_X1_add f t w l (by exact hk) (by exact hB) (by omega)) (by rw [pz_u1_top (r := 4)]; rw [pz_u1_top (r := 5)]; rw [pz_u1_top (r := 6)]; rw [pz_u1_top (r := 7)]; rw [pz_u1_top (r := 8)]; rw [pz_u1_top (r := 9)]; rfl)
                                refine w_call hc17 rfl (pz_cokI is_4 rfl) ?_
                                refine w_loc (ls' := [some (.inr (.inl 2)), some (.inl f), some (.inl t), some (.inl w), some (.inl l), some (.inl (k 1))]) (st' := []) rfl ?_
                                refine w_loc rfl ?_
                                have hc18 : pz_R (pz_Sh L) 178 [.inr (.inl 2)] (pz_u1 (pz_u1 (pz_u1 (pz_u1 (pz_u1 (pz_u1 iv 4 (pz_up (iv 4) 0 (k 1 + 1))) 5 (pz_up (iv 5) (k 1).toNat f)) 6 (pz_up (iv 6) (k 1).toNat t)) 7 (pz_up (iv 7) (k 1).toNat w)) 8 (pz_up (iv 8) (k 1).toNat l)) 9 (pz_up (iv 9) (k 1).toNat 0)) (.inl none) (pz_u1 (pz_u1 (pz_u1 (pz_u1 (pz_u1 (pz_u1 (pz_u1 iv 2 (pz_up (pz_up (pz_up (iv 2) 7 0) 8 0) 9 0)) 4 (pz_up (iv 4) 0 (k 1 + 1))) 5 (pz_up (iv 5) (k 1).toNat f)) 6 (pz_up (iv 6) (k 1).toNat t)) 7 (pz_up (iv 7) (k 1).toNat w)) 8 (pz_up (iv 8) (k 1).toNat l)) 9 (pz_up (iv 9) (k 1).toNat 0)) := pz_R_mem (s_X10_forget) (by rw [pz_u1_in (r := 2) (q := 9) (by decide)]; rw [pz_u1_in (r := 2) (q := 8) (by decide)]; rw [pz_u1_in (r := 2) (q := 7) (by decide)]; rw [pz_u1_in (r := 2) (q := 6) (by decide)]; rw [pz_u1_in (r := 2) (q := 5) (by decide)]; rw [pz_u1_in (r := 2) (q := 4) (by decide)]; rw [pz_u1_top (r := 2)]; rfl)
                                refine w_callv hc18 rfl (pz_cokI is_2 rfl) ?_
                                refine w_loc rfl ?_
                                refine w_ret rfl ?_
                                first | exact lf_i (by first | rfl | omega) (by rfl) | (exfalso; omega)))
                      · first
                        | (exfalso; first | omega | contradiction)
                        | (have hc19 : pz_R (pz_Sh L) 172 [.inl (pz_bi ((-4) ≤ l ∧ l ≤ 4))] (iv) (.inr 1) (iv) := s_X10_needRange_n (pz_bi ((-4) ≤ l ∧ l ≤ 4)) (by exact pz_bi_0 h12)
                           refine w_calle hc19 rfl rfl rfl ?_
                           first | exact lf_e (by rfl) | (exfalso; omega)))
                 · first
                   | (exfalso; first | omega | contradiction)
                   | (have hc20 : pz_R (pz_Sh L) 172 [.inl (pz_bi ((-500) ≤ w ∧ w ≤ 500))] (iv) (.inr 1) (iv) := s_X10_needRange_n (pz_bi ((-500) ≤ w ∧ w ≤ 500)) (by exact pz_bi_0 h9)
                      refine w_calle hc20 rfl rfl rfl ?_
                      first | exact lf_e (by rfl) | (exfalso; omega))))
       · first
         | (exfalso; first | omega | contradiction)
         | (have hc21 : pz_R (pz_Sh L) 170 [.inr (.inl 2), .inl t] (iv) (.inr 2) (iv) := s_X10_needEvent_n t (by exact hE) (by exact h3)
            refine w_calle hc21 rfl (pz_cokI is_2 rfl) rfl ?_
            first | exact lf_e (by rfl) | (exfalso; omega)))
  · first
    | (exfalso; first | omega | contradiction)
    | (have hc22 : pz_R (pz_Sh L) 170 [.inr (.inl 2), .inl f] (iv) (.inr 2) (iv) := s_X10_needEvent_n f (by exact hE) (by exact h1)
       refine w_calle hc22 rfl (pz_cokI is_2 rfl) rfl ?_
       first | exact lf_e (by rfl) | (exfalso; omega))

theorem s_X10_bound_2 {L : Nat} {iv : Nat → Nat → Int} (f : Int) (t : Int) (w : Int) (l : Int) {k : Nat → Int} (hk : q_KR k) (hE : q_cE k (iv 3)) (hB : q_cB k (iv 4) (iv 5) (iv 6) (iv 7) (iv 8) (iv 9)) (hS : q_cS k (iv 10) (iv 11) (iv 12) (iv 13) (iv 14)) (hC : q_cC k (iv 15) (iv 16)) (hA : q_cA k (iv 17) (iv 18) (iv 19) (iv 20)) (hO : q_cO k (iv 22) (iv 23) (iv 24)) (hL : q_cL k (iv 25)) (hP : q_cP k (iv 27)) (hcase0 : 0 ≤ f ∧ f ≤ k 0 - 1 ∧ 0 ≤ t ∧ t ≤ k 0 - 1) (hcase1 : ¬ (f ≠ t ∧ -500 ≤ w ∧ w ≤ 500 ∧ -4 ≤ l ∧ l ≤ 4)) : pz_R (pz_Sh L) 124 [.inr (.inl 2), .inl f, .inl t, .inl w, .inl l] iv (.inr 1) iv := by
  intro dv cc ss
  have hk0 := hk.r0
  have hE0 := hE
  have hB0 := hB.1
  have hS0 := hS.1
  have hC0 := hC.1
  have hA0 := hA.1
  show pz_G 124 0 [some (.inr (.inl 2)), some (.inl f), some (.inl t), some (.inl w), some (.inl l), none] [] (pz_Sh L, iv, dv, cc, ss) (pz_P (pz_Sh L) (.inr 1) iv dv cc ss)
  refine pz_G_of pz_b124_0 ?_
  refine w_loc rfl ?_
  refine w_loc rfl ?_
  by_cases h1 : 0 ≤ f ∧ f < k 0
  · first
    | (exfalso; first | omega | contradiction)
    | (have hc2 : pz_R (pz_Sh L) 170 [.inr (.inl 2), .inl f] (iv) (.inl none) (iv) := s_X10_needEvent_y f (by exact hE) (by exact h1)
       refine w_callv hc2 rfl (pz_cokI is_2 rfl) ?_
       refine w_loc rfl ?_
       refine w_loc rfl ?_
       by_cases h3 : 0 ≤ t ∧ t < k 0
       · first
         | (exfalso; first | omega | contradiction)
         | (have hc4 : pz_R (pz_Sh L) 170 [.inr (.inl 2), .inl t] (iv) (.inl none) (iv) := s_X10_needEvent_y t (by exact hE) (by exact h3)
            refine w_callv hc4 rfl (pz_cokI is_2 rfl) ?_
            refine w_loc rfl ?_
            refine w_loc rfl ?_
            refine w_ieq (fun h5 => ?_) (fun h5 => ?_)
            · first
              | (exfalso; first | omega | contradiction)
              | (refine pz_G_of pz_b124_19 ?_
                 refine w_pure rfl ?_
                 refine w_nil ?_
                 refine pz_G_of pz_b124_20 ?_
                 have hc6 : pz_R (pz_Sh L) 172 [.inl 0] (iv) (.inr 1) (iv) := s_X10_needRange_n 0 (by omega)
                 refine w_calle hc6 rfl rfl rfl ?_
                 first | exact lf_e (by rfl) | (exfalso; omega))
            · first
              | (exfalso; first | omega | contradiction)
              | (refine w_pure rfl ?_
                 refine w_goto ?_
                 refine pz_G_of pz_b124_20 ?_
                 have hc7 : pz_R (pz_Sh L) 172 [.inl 1] (iv) (.inl none) (iv) := s_X10_needRange_y 1 (by omega)
                 refine w_callv hc7 rfl rfl ?_
                 refine w_loc rfl ?_
                 refine w_pure rfl ?_
                 refine w_pure rfl ?_
                 have hc8 : pz_R (pz_Sh L) 185 [.inl w, .inl (-500), .inl 500] (iv) (.inl (some (.inl (pz_bi ((-500) ≤ w ∧ w ≤ 500))))) (iv) := s_X10_isWithin w (-500) 500
                 refine w_call hc8 rfl rfl ?_
                 by_cases h9 : (-500) ≤ w ∧ w ≤ 500
                 · first
                   | (exfalso; first | omega | contradiction)
                   | (have hc10 : pz_R (pz_Sh L) 172 [.inl (pz_bi ((-500) ≤ w ∧ w ≤ 500))] (iv) (.inl none) (iv) := s_X10_needRange_y (pz_bi ((-500) ≤ w ∧ w ≤ 500)) (by exact pz_bi_p1 h9)
                      refine w_callv hc10 rfl rfl ?_
                      refine w_loc rfl ?_
                      refine w_pure rfl ?_
                      refine w_pure rfl ?_
                      have hc11 : pz_R (pz_Sh L) 185 [.inl l, .inl (-4), .inl 4] (iv) (.inl (some (.inl (pz_bi ((-4) ≤ l ∧ l ≤ 4))))) (iv) := s_X10_isWithin l (-4) 4
                      refine w_call hc11 rfl rfl ?_
                      by_cases h12 : (-4) ≤ l ∧ l ≤ 4
                      · first
                        | (exfalso; first | omega | contradiction)
                        | (have hc13 : pz_R (pz_Sh L) 172 [.inl (pz_bi ((-4) ≤ l ∧ l ≤ 4))] (iv) (.inl none) (iv) := s_X10_needRange_y (pz_bi ((-4) ≤ l ∧ l ≤ 4)) (by exact pz_bi_p1 h12)
                           refine w_callv hc13 rfl rfl ?_
                           refine w_loc rfl ?_
                           refine w_getR (q := 3) is_2 rf_2_0 ?_
                           refine w_getR (q := 4) is_3 rf_3_1 ?_
                           refine w_getI (v := (iv 4) 0) is_4 (by decide) rfl ?_
                           refine w_pure rfl ?_
                           refine w_ige (fun h14 => ?_) (fun h14 => ?_)
                           · first
                             | (exfalso; first | omega | contradiction)
                             | (refine pz_G_of pz_b124_66 ?_
                                refine w_pure rfl ?_
                                refine w_nil ?_
                                refine pz_G_of pz_b124_67 ?_
                                have hc15 : pz_R (pz_Sh L) 173 [.inl 0] (iv) (.inr 0) (iv) := s_X10_needState_n 0 (by omega)
                                refine w_calle hc15 rfl rfl rfl ?_
                                first | exact lf_e (by rfl) | (exfalso; omega))
                           · first
                             | (exfalso; first | omega | contradiction)
                             | (refine w_pure rfl ?_
                                refine w_goto ?_
                                refine pz_G_of pz_b124_67 ?_
                                have hc16 : pz_R (pz_Sh L) 173 [.inl 1] (iv) (.inl none) (iv) := s_X10_needState_y 1 (by omega)
                                refine w_callv hc16 rfl rfl ?_
                                refine w_loc rfl ?_
                                refine w_getR (q := 3) is_2 rf_2_0 ?_
                                refine w_getR (q := 4) is_3 rf_3_1 ?_
                                refine w_loc rfl ?_
                                refine w_loc rfl ?_
                                refine w_loc rfl ?_
                                refine w_loc rfl ?_
                                have hc17 : pz_R (pz_Sh L) 16 [.inr (.inl 4), .inl f, .inl t, .inl w, .inl l] (iv) (.inl (some (.inl (k 1)))) (pz_u1 (pz_u1 (pz_u1 (pz_u1 (pz_u1 (pz_u1 iv 4 (pz_up (iv 4) 0 (k 1 + 1))) 5 (pz_up (iv 5) (k 1).toNat f)) 6 (pz_up (iv 6) (k 1).toNat t)) 7 (pz_up (iv 7) (k 1).toNat w)) 8 (pz_up (iv 8) (k 1).toNat l)) 9 (pz_up (iv 9) (k 1).toNat 0)) := pz_R_mem (s_X1_add f t w l (by exact hk) (by exact hB) (by omega)) (by rw [pz_u1_top (r := 4)]; rw [pz_u1_top (r := 5)]; rw [pz_u1_top (r := 6)]; rw [pz_u1_top (r := 7)]; rw [pz_u1_top (r := 8)]; rw [pz_u1_top (r := 9)]; rfl)
                                refine w_call hc17 rfl (pz_cokI is_4 rfl) ?_
                                refine w_loc (ls' := [some (.inr (.inl 2)), some (.inl f), some (.inl t), some (.inl w), some (.inl l), some (.inl (k 1))]) (st' := []) rfl ?_
                                refine w_loc rfl ?_
                                have hc18 : pz_R (pz_Sh L) 178 [.inr (.inl 2)] (pz_u1 (pz_u1 (pz_u1 (pz_u1 (pz_u1 (pz_u1 iv 4 (pz_up (iv 4) 0 (k 1 + 1))) 5 (pz_up (iv 5) (k 1).toNat f)) 6 (pz_up (iv 6) (k 1).toNat t)) 7 (pz_up (iv 7) (k 1).toNat w)) 8 (pz_up (iv 8) (k 1).toNat l)) 9 (pz_up (iv 9) (k 1).toNat 0)) (.inl none) (pz_u1 (pz_u1 (pz_u1 (pz_u1 (pz_u1 (pz_u1 (pz_u1 iv 2 (pz_up (pz_up (pz_up (iv 2) 7 0) 8 0) 9 0)) 4 (pz_up (iv 4) 0 (k 1 + 1))) 5 (pz_up (iv 5) (k 1).toNat f)) 6 (pz_up (iv 6) (k 1).toNat t)) 7 (pz_up (iv 7) (k 1).toNat w)) 8 (pz_up (iv 8) (k 1).toNat l)) 9 (pz_up (iv 9) (k 1).toNat 0)) := pz_R_mem (s_X10_forget) (by rw [pz_u1_in (r := 2) (q := 9) (by decide)]; rw [pz_u1_in (r := 2) (q := 8) (by decide)]; rw [pz_u1_in (r := 2) (q := 7) (by decide)]; rw [pz_u1_in (r := 2) (q := 6) (by decide)]; rw [pz_u1_in (r := 2) (q := 5) (by decide)]; rw [pz_u1_in (r := 2) (q := 4) (by decide)]; rw [pz_u1_top (r := 2)]; rfl)
                                refine w_callv hc18 rfl (pz_cokI is_2 rfl) ?_
                                refine w_loc rfl ?_
                                refine w_ret rfl ?_
                                first | exact lf_i (by first | rfl | omega) (by rfl) | (exfalso; omega)))
                      · first
                        | (exfalso; first | omega | contradiction)
                        | (have hc19 : pz_R (pz_Sh L) 172 [.inl (pz_bi ((-4) ≤ l ∧ l ≤ 4))] (iv) (.inr 1) (iv) := s_X10_needRange_n (pz_bi ((-4) ≤ l ∧ l ≤ 4)) (by exact pz_bi_0 h12)
                           refine w_calle hc19 rfl rfl rfl ?_
                           first | exact lf_e (by rfl) | (exfalso; omega)))
                 · first
                   | (exfalso; first | omega | contradiction)
                   | (have hc20 : pz_R (pz_Sh L) 172 [.inl (pz_bi ((-500) ≤ w ∧ w ≤ 500))] (iv) (.inr 1) (iv) := s_X10_needRange_n (pz_bi ((-500) ≤ w ∧ w ≤ 500)) (by exact pz_bi_0 h9)
                      refine w_calle hc20 rfl rfl rfl ?_
                      first | exact lf_e (by rfl) | (exfalso; omega))))
       · first
         | (exfalso; first | omega | contradiction)
         | (have hc21 : pz_R (pz_Sh L) 170 [.inr (.inl 2), .inl t] (iv) (.inr 2) (iv) := s_X10_needEvent_n t (by exact hE) (by exact h3)
            refine w_calle hc21 rfl (pz_cokI is_2 rfl) rfl ?_
            first | exact lf_e (by rfl) | (exfalso; omega)))
  · first
    | (exfalso; first | omega | contradiction)
    | (have hc22 : pz_R (pz_Sh L) 170 [.inr (.inl 2), .inl f] (iv) (.inr 2) (iv) := s_X10_needEvent_n f (by exact hE) (by exact h1)
       refine w_calle hc22 rfl (pz_cokI is_2 rfl) rfl ?_
       first | exact lf_e (by rfl) | (exfalso; omega))

theorem s_X10_bound_3 {L : Nat} {iv : Nat → Nat → Int} (f : Int) (t : Int) (w : Int) (l : Int) {k : Nat → Int} (hk : q_KR k) (hE : q_cE k (iv 3)) (hB : q_cB k (iv 4) (iv 5) (iv 6) (iv 7) (iv 8) (iv 9)) (hS : q_cS k (iv 10) (iv 11) (iv 12) (iv 13) (iv 14)) (hC : q_cC k (iv 15) (iv 16)) (hA : q_cA k (iv 17) (iv 18) (iv 19) (iv 20)) (hO : q_cO k (iv 22) (iv 23) (iv 24)) (hL : q_cL k (iv 25)) (hP : q_cP k (iv 27)) (hcase0 : 0 ≤ f ∧ f ≤ k 0 - 1 ∧ 0 ≤ t ∧ t ≤ k 0 - 1) (hcase1 : f ≠ t ∧ -500 ≤ w ∧ w ≤ 500 ∧ -4 ≤ l ∧ l ≤ 4) (hcase2 : k 1 = 40) : pz_R (pz_Sh L) 124 [.inr (.inl 2), .inl f, .inl t, .inl w, .inl l] iv (.inr 0) iv := by
  intro dv cc ss
  have hk0 := hk.r0
  have hE0 := hE
  have hB0 := hB.1
  have hS0 := hS.1
  have hC0 := hC.1
  have hA0 := hA.1
  show pz_G 124 0 [some (.inr (.inl 2)), some (.inl f), some (.inl t), some (.inl w), some (.inl l), none] [] (pz_Sh L, iv, dv, cc, ss) (pz_P (pz_Sh L) (.inr 0) iv dv cc ss)
  refine pz_G_of pz_b124_0 ?_
  refine w_loc rfl ?_
  refine w_loc rfl ?_
  by_cases h1 : 0 ≤ f ∧ f < k 0
  · first
    | (exfalso; first | omega | contradiction)
    | (have hc2 : pz_R (pz_Sh L) 170 [.inr (.inl 2), .inl f] (iv) (.inl none) (iv) := s_X10_needEvent_y f (by exact hE) (by exact h1)
       refine w_callv hc2 rfl (pz_cokI is_2 rfl) ?_
       refine w_loc rfl ?_
       refine w_loc rfl ?_
       by_cases h3 : 0 ≤ t ∧ t < k 0
       · first
         | (exfalso; first | omega | contradiction)
         | (have hc4 : pz_R (pz_Sh L) 170 [.inr (.inl 2), .inl t] (iv) (.inl none) (iv) := s_X10_needEvent_y t (by exact hE) (by exact h3)
            refine w_callv hc4 rfl (pz_cokI is_2 rfl) ?_
            refine w_loc rfl ?_
            refine w_loc rfl ?_
            refine w_ieq (fun h5 => ?_) (fun h5 => ?_)
            · first
              | (exfalso; first | omega | contradiction)
              | (refine pz_G_of pz_b124_19 ?_
                 refine w_pure rfl ?_
                 refine w_nil ?_
                 refine pz_G_of pz_b124_20 ?_
                 have hc6 : pz_R (pz_Sh L) 172 [.inl 0] (iv) (.inr 1) (iv) := s_X10_needRange_n 0 (by omega)
                 refine w_calle hc6 rfl rfl rfl ?_
                 first | exact lf_e (by rfl) | (exfalso; omega))
            · first
              | (exfalso; first | omega | contradiction)
              | (refine w_pure rfl ?_
                 refine w_goto ?_
                 refine pz_G_of pz_b124_20 ?_
                 have hc7 : pz_R (pz_Sh L) 172 [.inl 1] (iv) (.inl none) (iv) := s_X10_needRange_y 1 (by omega)
                 refine w_callv hc7 rfl rfl ?_
                 refine w_loc rfl ?_
                 refine w_pure rfl ?_
                 refine w_pure rfl ?_
                 have hc8 : pz_R (pz_Sh L) 185 [.inl w, .inl (-500), .inl 500] (iv) (.inl (some (.inl (pz_bi ((-500) ≤ w ∧ w ≤ 500))))) (iv) := s_X10_isWithin w (-500) 500
                 refine w_call hc8 rfl rfl ?_
                 by_cases h9 : (-500) ≤ w ∧ w ≤ 500
                 · first
                   | (exfalso; first | omega | contradiction)
                   | (have hc10 : pz_R (pz_Sh L) 172 [.inl (pz_bi ((-500) ≤ w ∧ w ≤ 500))] (iv) (.inl none) (iv) := s_X10_needRange_y (pz_bi ((-500) ≤ w ∧ w ≤ 500)) (by exact pz_bi_p1 h9)
                      refine w_callv hc10 rfl rfl ?_
                      refine w_loc rfl ?_
                      refine w_pure rfl ?_
                      refine w_pure rfl ?_
                      have hc11 : pz_R (pz_Sh L) 185 [.inl l, .inl (-4), .inl 4] (iv) (.inl (some (.inl (pz_bi ((-4) ≤ l ∧ l ≤ 4))))) (iv) := s_X10_isWithin l (-4) 4
                      refine w_call hc11 rfl rfl ?_
                      by_cases h12 : (-4) ≤ l ∧ l ≤ 4
                      · first
                        | (exfalso; first | omega | contradiction)
                        | (have hc13 : pz_R (pz_Sh L) 172 [.inl (pz_bi ((-4) ≤ l ∧ l ≤ 4))] (iv) (.inl none) (iv) := s_X10_needRange_y (pz_bi ((-4) ≤ l ∧ l ≤ 4)) (by exact pz_bi_p1 h12)
                           refine w_callv hc13 rfl rfl ?_
                           refine w_loc rfl ?_
                           refine w_getR (q := 3) is_2 rf_2_0 ?_
                           refine w_getR (q := 4) is_3 rf_3_1 ?_
                           refine w_getI (v := (iv 4) 0) is_4 (by decide) rfl ?_
                           refine w_pure rfl ?_
                           refine w_ige (fun h14 => ?_) (fun h14 => ?_)
                           · first
                             | (exfalso; first | omega | contradiction)
                             | (refine pz_G_of pz_b124_66 ?_
                                refine w_pure rfl ?_
                                refine w_nil ?_
                                refine pz_G_of pz_b124_67 ?_
                                have hc15 : pz_R (pz_Sh L) 173 [.inl 0] (iv) (.inr 0) (iv) := s_X10_needState_n 0 (by omega)
                                refine w_calle hc15 rfl rfl rfl ?_
                                first | exact lf_e (by rfl) | (exfalso; omega))
                           · first
                             | (exfalso; first | omega | contradiction)
                             | (refine w_pure rfl ?_
                                refine w_goto ?_
                                refine pz_G_of pz_b124_67 ?_
                                have hc16 : pz_R (pz_Sh L) 173 [.inl 1] (iv) (.inl none) (iv) := s_X10_needState_y 1 (by omega)
                                refine w_callv hc16 rfl rfl ?_
                                refine w_loc rfl ?_
                                refine w_getR (q := 3) is_2 rf_2_0 ?_
                                refine w_getR (q := 4) is_3 rf_3_1 ?_
                                refine w_loc rfl ?_
                                refine w_loc rfl ?_
                                refine w_loc rfl ?_
                                refine w_loc rfl ?_
                                have hc17 : pz_R (pz_Sh L) 16 [.inr (.inl 4), .inl f, .inl t, .inl w, .inl l] (iv) (.inl (some (.inl (k 1)))) (pz_u1 (pz_u1 (pz_u1 (pz_u1 (pz_u1 (pz_u1 iv 4 (pz_up (iv 4) 0 (k 1 + 1))) 5 (pz_up (iv 5) (k 1).toNat f)) 6 (pz_up (iv 6) (k 1).toNat t)) 7 (pz_up (iv 7) (k 1).toNat w)) 8 (pz_up (iv 8) (k 1).toNat l)) 9 (pz_up (iv 9) (k 1).toNat 0)) := pz_R_mem (s_X1_add f t w l (by exact hk) (by exact hB) (by omega)) (by rw [pz_u1_top (r := 4)]; rw [pz_u1_top (r := 5)]; rw [pz_u1_top (r := 6)]; rw [pz_u1_top (r := 7)]; rw [pz_u1_top (r := 8)]; rw [pz_u1_top (r := 9)]; rfl)
                                refine w_call hc17 rfl (pz_cokI is_4 rfl) ?_
                                refine w_loc (ls' := [some (.inr (.inl 2)), some (.inl f), some (.inl t), some (.inl w), some (.inl l), some (.inl (k 1))]) (st' := []) rfl ?_
                                refine w_loc rfl ?_
                                have hc18 : pz_R (pz_Sh L) 178 [.inr (.inl 2)] (pz_u1 (pz_u1 (pz_u1 (pz_u1 (pz_u1 (pz_u1 iv 4 (pz_up (iv 4) 0 (k 1 + 1))) 5 (pz_up (iv 5) (k 1).toNat f)) 6 (pz_up (iv 6) (k 1).toNat t)) 7 (pz_up (iv 7) (k 1).toNat w)) 8 (pz_up (iv 8) (k 1).toNat l)) 9 (pz_up (iv 9) (k 1).toNat 0)) (.inl none) (pz_u1 (pz_u1 (pz_u1 (pz_u1 (pz_u1 (pz_u1 (pz_u1 iv 2 (pz_up (pz_up (pz_up (iv 2) 7 0) 8 0) 9 0)) 4 (pz_up (iv 4) 0 (k 1 + 1))) 5 (pz_up (iv 5) (k 1).toNat f)) 6 (pz_up (iv 6) (k 1).toNat t)) 7 (pz_up (iv 7) (k 1).toNat w)) 8 (pz_up (iv 8) (k 1).toNat l)) 9 (pz_up (iv 9) (k 1).toNat 0)) := pz_R_mem (s_X10_forget) (by rw [pz_u1_in (r := 2) (q := 9) (by decide)]; rw [pz_u1_in (r := 2) (q := 8) (by decide)]; rw [pz_u1_in (r := 2) (q := 7) (by decide)]; rw [pz_u1_in (r := 2) (q := 6) (by decide)]; rw [pz_u1_in (r := 2) (q := 5) (by decide)]; rw [pz_u1_in (r := 2) (q := 4) (by decide)]; rw [pz_u1_top (r := 2)]; rfl)
                                refine w_callv hc18 rfl (pz_cokI is_2 rfl) ?_
                                refine w_loc rfl ?_
                                refine w_ret rfl ?_
                                first | exact lf_i (by first | rfl | omega) (by rfl) | (exfalso; omega)))
                      · first
                        | (exfalso; first | omega | contradiction)
                        | (have hc19 : pz_R (pz_Sh L) 172 [.inl (pz_bi ((-4) ≤ l ∧ l ≤ 4))] (iv) (.inr 1) (iv) := s_X10_needRange_n (pz_bi ((-4) ≤ l ∧ l ≤ 4)) (by exact pz_bi_0 h12)
                           refine w_calle hc19 rfl rfl rfl ?_
                           first | exact lf_e (by rfl) | (exfalso; omega)))
                 · first
                   | (exfalso; first | omega | contradiction)
                   | (have hc20 : pz_R (pz_Sh L) 172 [.inl (pz_bi ((-500) ≤ w ∧ w ≤ 500))] (iv) (.inr 1) (iv) := s_X10_needRange_n (pz_bi ((-500) ≤ w ∧ w ≤ 500)) (by exact pz_bi_0 h9)
                      refine w_calle hc20 rfl rfl rfl ?_
                      first | exact lf_e (by rfl) | (exfalso; omega))))
       · first
         | (exfalso; first | omega | contradiction)
         | (have hc21 : pz_R (pz_Sh L) 170 [.inr (.inl 2), .inl t] (iv) (.inr 2) (iv) := s_X10_needEvent_n t (by exact hE) (by exact h3)
            refine w_calle hc21 rfl (pz_cokI is_2 rfl) rfl ?_
            first | exact lf_e (by rfl) | (exfalso; omega)))
  · first
    | (exfalso; first | omega | contradiction)
    | (have hc22 : pz_R (pz_Sh L) 170 [.inr (.inl 2), .inl f] (iv) (.inr 2) (iv) := s_X10_needEvent_n f (by exact hE) (by exact h1)
       refine w_calle hc22 rfl (pz_cokI is_2 rfl) rfl ?_
       first | exact lf_e (by rfl) | (exfalso; omega))

theorem s_X10_bound_0 {L : Nat} {iv : Nat → Nat → Int} (f : Int) (t : Int) (w : Int) (l : Int) {k : Nat → Int} (hk : q_KR k) (hE : q_cE k (iv 3)) (hB : q_cB k (iv 4) (iv 5) (iv 6) (iv 7) (iv 8) (iv 9)) (hS : q_cS k (iv 10) (iv 11) (iv 12) (iv 13) (iv 14)) (hC : q_cC k (iv 15) (iv 16)) (hA : q_cA k (iv 17) (iv 18) (iv 19) (iv 20)) (hO : q_cO k (iv 22) (iv 23) (iv 24)) (hL : q_cL k (iv 25)) (hP : q_cP k (iv 27)) (hcase0 : 0 ≤ f ∧ f ≤ k 0 - 1 ∧ 0 ≤ t ∧ t ≤ k 0 - 1) (hcase1 : f ≠ t ∧ -500 ≤ w ∧ w ≤ 500 ∧ -4 ≤ l ∧ l ≤ 4) (hcase2 : k 1 ≠ 40) : pz_R (pz_Sh L) 124 [.inr (.inl 2), .inl f, .inl t, .inl w, .inl l] iv (.inl (some (.inl (k 1)))) (pz_u1 (pz_u1 (pz_u1 (pz_u1 (pz_u1 (pz_u1 (pz_u1 iv 2 (pz_up (pz_up (pz_up (iv 2) 7 0) 8 0) 9 0)) 4 (pz_up (iv 4) 0 (k 1 + 1))) 5 (pz_up (iv 5) (k 1).toNat f)) 6 (pz_up (iv 6) (k 1).toNat t)) 7 (pz_up (iv 7) (k 1).toNat w)) 8 (pz_up (iv 8) (k 1).toNat l)) 9 (pz_up (iv 9) (k 1).toNat 0)) := by
  intro dv cc ss
  have hk0 := hk.r0
  have hE0 := hE
  have hB0 := hB.1
  have hS0 := hS.1
  have hC0 := hC.1
  have hA0 := hA.1
  refine pz_G_mem (iv2 := pz_u1 (pz_u1 (pz_u1 (pz_u1 (pz_u1 (pz_u1 (pz_u1 iv 2 (iv 2)) 4 (iv 4)) 5 (iv 5)) 6 (iv 6)) 7 (iv 7)) 8 (iv 8)) 9 (iv 9)) (by exact (((((((pz_u1_self iv 2).symm).trans (pz_u1_self (pz_u1 iv 2 (iv 2)) 4).symm).trans (pz_u1_self (pz_u1 (pz_u1 iv 2 (iv 2)) 4 (iv 4)) 5).symm).trans (pz_u1_self (pz_u1 (pz_u1 (pz_u1 iv 2 (iv 2)) 4 (iv 4)) 5 (iv 5)) 6).symm).trans (pz_u1_self (pz_u1 (pz_u1 (pz_u1 (pz_u1 iv 2 (iv 2)) 4 (iv 4)) 5 (iv 5)) 6 (iv 6)) 7).symm).trans (pz_u1_self (pz_u1 (pz_u1 (pz_u1 (pz_u1 (pz_u1 iv 2 (iv 2)) 4 (iv 4)) 5 (iv 5)) 6 (iv 6)) 7 (iv 7)) 8).symm).trans (pz_u1_self (pz_u1 (pz_u1 (pz_u1 (pz_u1 (pz_u1 (pz_u1 iv 2 (iv 2)) 4 (iv 4)) 5 (iv 5)) 6 (iv 6)) 7 (iv 7)) 8 (iv 8)) 9).symm) ?_
  show pz_G 124 0 [some (.inr (.inl 2)), some (.inl f), some (.inl t), some (.inl w), some (.inl l), none] [] (pz_Sh L, pz_u1 (pz_u1 (pz_u1 (pz_u1 (pz_u1 (pz_u1 (pz_u1 iv 2 (iv 2)) 4 (iv 4)) 5 (iv 5)) 6 (iv 6)) 7 (iv 7)) 8 (iv 8)) 9 (iv 9), dv, cc, ss) (pz_P (pz_Sh L) (.inl (some (.inl (k 1)))) (pz_u1 (pz_u1 (pz_u1 (pz_u1 (pz_u1 (pz_u1 (pz_u1 iv 2 (pz_up (pz_up (pz_up (iv 2) 7 0) 8 0) 9 0)) 4 (pz_up (iv 4) 0 (k 1 + 1))) 5 (pz_up (iv 5) (k 1).toNat f)) 6 (pz_up (iv 6) (k 1).toNat t)) 7 (pz_up (iv 7) (k 1).toNat w)) 8 (pz_up (iv 8) (k 1).toNat l)) 9 (pz_up (iv 9) (k 1).toNat 0)) dv cc ss)
  refine pz_G_of pz_b124_0 ?_
  refine w_loc rfl ?_
  refine w_loc rfl ?_
  by_cases h1 : 0 ≤ f ∧ f < k 0
  · first
    | (exfalso; first | omega | contradiction)
    | (have hc2 : pz_R (pz_Sh L) 170 [.inr (.inl 2), .inl f] (pz_u1 (pz_u1 (pz_u1 (pz_u1 (pz_u1 (pz_u1 (pz_u1 iv 2 (iv 2)) 4 (iv 4)) 5 (iv 5)) 6 (iv 6)) 7 (iv 7)) 8 (iv 8)) 9 (iv 9)) (.inl none) (pz_u1 (pz_u1 (pz_u1 (pz_u1 (pz_u1 (pz_u1 (pz_u1 iv 2 (iv 2)) 4 (iv 4)) 5 (iv 5)) 6 (iv 6)) 7 (iv 7)) 8 (iv 8)) 9 (iv 9)) := s_X10_needEvent_y f (by show q_cE k (iv 3); exact hE) (by show 0 ≤ f ∧ f < k 0; exact h1)
       refine w_callv hc2 rfl (pz_cokI is_2 rfl) ?_
       refine w_loc rfl ?_
       refine w_loc rfl ?_
       by_cases h3 : 0 ≤ t ∧ t < k 0
       · first
         | (exfalso; first | omega | contradiction)
         | (have hc4 : pz_R (pz_Sh L) 170 [.inr (.inl 2), .inl t] (pz_u1 (pz_u1 (pz_u1 (pz_u1 (pz_u1 (pz_u1 (pz_u1 iv 2 (iv 2)) 4 (iv 4)) 5 (iv 5)) 6 (iv 6)) 7 (iv 7)) 8 (iv 8)) 9 (iv 9)) (.inl none) (pz_u1 (pz_u1 (pz_u1 (pz_u1 (pz_u1 (pz_u1 (pz_u1 iv 2 (iv 2)) 4 (iv 4)) 5 (iv 5)) 6 (iv 6)) 7 (iv 7)) 8 (iv 8)) 9 (iv 9)) := s_X10_needEvent_y t (by show q_cE k (iv 3); exact hE) (by show 0 ≤ t ∧ t < k 0; exact h3)
            refine w_callv hc4 rfl (pz_cokI is_2 rfl) ?_
            refine w_loc rfl ?_
            refine w_loc rfl ?_
            refine w_ieq (fun h5 => ?_) (fun h5 => ?_)
            · first
              | (exfalso; first | omega | contradiction)
              | (refine pz_G_of pz_b124_19 ?_
                 refine w_pure rfl ?_
                 refine w_nil ?_
                 refine pz_G_of pz_b124_20 ?_
                 have hc6 : pz_R (pz_Sh L) 172 [.inl 0] (pz_u1 (pz_u1 (pz_u1 (pz_u1 (pz_u1 (pz_u1 (pz_u1 iv 2 (iv 2)) 4 (iv 4)) 5 (iv 5)) 6 (iv 6)) 7 (iv 7)) 8 (iv 8)) 9 (iv 9)) (.inr 1) (pz_u1 (pz_u1 (pz_u1 (pz_u1 (pz_u1 (pz_u1 (pz_u1 iv 2 (iv 2)) 4 (iv 4)) 5 (iv 5)) 6 (iv 6)) 7 (iv 7)) 8 (iv 8)) 9 (iv 9)) := s_X10_needRange_n 0 (by show 0 = 0; omega)
                 refine w_calle hc6 rfl rfl rfl ?_
                 first | exact lf_e (by rfl) | (exfalso; omega))
            · first
              | (exfalso; first | omega | contradiction)
              | (refine w_pure rfl ?_
                 refine w_goto ?_
                 refine pz_G_of pz_b124_20 ?_
                 have hc7 : pz_R (pz_Sh L) 172 [.inl 1] (pz_u1 (pz_u1 (pz_u1 (pz_u1 (pz_u1 (pz_u1 (pz_u1 iv 2 (iv 2)) 4 (iv 4)) 5 (iv 5)) 6 (iv 6)) 7 (iv 7)) 8 (iv 8)) 9 (iv 9)) (.inl none) (pz_u1 (pz_u1 (pz_u1 (pz_u1 (pz_u1 (pz_u1 (pz_u1 iv 2 (iv 2)) 4 (iv 4)) 5 (iv 5)) 6 (iv 6)) 7 (iv 7)) 8 (iv 8)) 9 (iv 9)) := s_X10_needRange_y 1 (by show 1 ≠ 0; omega)
                 refine w_callv hc7 rfl rfl ?_
                 refine w_loc rfl ?_
                 refine w_pure rfl ?_
                 refine w_pure rfl ?_
                 have hc8 : pz_R (pz_Sh L) 185 [.inl w, .inl (-500), .inl 500] (pz_u1 (pz_u1 (pz_u1 (pz_u1 (pz_u1 (pz_u1 (pz_u1 iv 2 (iv 2)) 4 (iv 4)) 5 (iv 5)) 6 (iv 6)) 7 (iv 7)) 8 (iv 8)) 9 (iv 9)) (.inl (some (.inl (pz_bi ((-500) ≤ w ∧ w ≤ 500))))) (pz_u1 (pz_u1 (pz_u1 (pz_u1 (pz_u1 (pz_u1 (pz_u1 iv 2 (iv 2)) 4 (iv 4)) 5 (iv 5)) 6 (iv 6)) 7 (iv 7)) 8 (iv 8)) 9 (iv 9)) := s_X10_isWithin w (-500) 500
                 refine w_call hc8 rfl rfl ?_
                 by_cases h9 : (-500) ≤ w ∧ w ≤ 500
                 · first
                   | (exfalso; first | omega | contradiction)
                   | (have hc10 : pz_R (pz_Sh L) 172 [.inl (pz_bi ((-500) ≤ w ∧ w ≤ 500))] (pz_u1 (pz_u1 (pz_u1 (pz_u1 (pz_u1 (pz_u1 (pz_u1 iv 2 (iv 2)) 4 (iv 4)) 5 (iv 5)) 6 (iv 6)) 7 (iv 7)) 8 (iv 8)) 9 (iv 9)) (.inl none) (pz_u1 (pz_u1 (pz_u1 (pz_u1 (pz_u1 (pz_u1 (pz_u1 iv 2 (iv 2)) 4 (iv 4)) 5 (iv 5)) 6 (iv 6)) 7 (iv 7)) 8 (iv 8)) 9 (iv 9)) := s_X10_needRange_y (pz_bi ((-500) ≤ w ∧ w ≤ 500)) (by show (pz_bi ((-500) ≤ w ∧ w ≤ 500)) ≠ 0; exact pz_bi_p1 h9)
                      refine w_callv hc10 rfl rfl ?_
                      refine w_loc rfl ?_
                      refine w_pure rfl ?_
                      refine w_pure rfl ?_
                      have hc11 : pz_R (pz_Sh L) 185 [.inl l, .inl (-4), .inl 4] (pz_u1 (pz_u1 (pz_u1 (pz_u1 (pz_u1 (pz_u1 (pz_u1 iv 2 (iv 2)) 4 (iv 4)) 5 (iv 5)) 6 (iv 6)) 7 (iv 7)) 8 (iv 8)) 9 (iv 9)) (.inl (some (.inl (pz_bi ((-4) ≤ l ∧ l ≤ 4))))) (pz_u1 (pz_u1 (pz_u1 (pz_u1 (pz_u1 (pz_u1 (pz_u1 iv 2 (iv 2)) 4 (iv 4)) 5 (iv 5)) 6 (iv 6)) 7 (iv 7)) 8 (iv 8)) 9 (iv 9)) := s_X10_isWithin l (-4) 4
                      refine w_call hc11 rfl rfl ?_
                      by_cases h12 : (-4) ≤ l ∧ l ≤ 4
                      · first
                        | (exfalso; first | omega | contradiction)
                        | (have hc13 : pz_R (pz_Sh L) 172 [.inl (pz_bi ((-4) ≤ l ∧ l ≤ 4))] (pz_u1 (pz_u1 (pz_u1 (pz_u1 (pz_u1 (pz_u1 (pz_u1 iv 2 (iv 2)) 4 (iv 4)) 5 (iv 5)) 6 (iv 6)) 7 (iv 7)) 8 (iv 8)) 9 (iv 9)) (.inl none) (pz_u1 (pz_u1 (pz_u1 (pz_u1 (pz_u1 (pz_u1 (pz_u1 iv 2 (iv 2)) 4 (iv 4)) 5 (iv 5)) 6 (iv 6)) 7 (iv 7)) 8 (iv 8)) 9 (iv 9)) := s_X10_needRange_y (pz_bi ((-4) ≤ l ∧ l ≤ 4)) (by show (pz_bi ((-4) ≤ l ∧ l ≤ 4)) ≠ 0; exact pz_bi_p1 h12)
                           refine w_callv hc13 rfl rfl ?_
                           refine w_loc rfl ?_
                           refine w_getR (q := 3) is_2 rf_2_0 ?_
                           refine w_getR (q := 4) is_3 rf_3_1 ?_
                           refine w_getI (v := (iv 4) 0) is_4 (by decide) rfl ?_
                           refine w_pure rfl ?_
                           refine w_ige (fun h14 => ?_) (fun h14 => ?_)
                           · first
                             | (exfalso; first | omega | contradiction)
                             | (refine pz_G_of pz_b124_66 ?_
                                refine w_pure rfl ?_
                                refine w_nil ?_
                                refine pz_G_of pz_b124_67 ?_
                                have hc15 : pz_R (pz_Sh L) 173 [.inl 0] (pz_u1 (pz_u1 (pz_u1 (pz_u1 (pz_u1 (pz_u1 (pz_u1 iv 2 (iv 2)) 4 (iv 4)) 5 (iv 5)) 6 (iv 6)) 7 (iv 7)) 8 (iv 8)) 9 (iv 9)) (.inr 0) (pz_u1 (pz_u1 (pz_u1 (pz_u1 (pz_u1 (pz_u1 (pz_u1 iv 2 (iv 2)) 4 (iv 4)) 5 (iv 5)) 6 (iv 6)) 7 (iv 7)) 8 (iv 8)) 9 (iv 9)) := s_X10_needState_n 0 (by show 0 = 0; omega)
                                refine w_calle hc15 rfl rfl rfl ?_
                                first | exact lf_e (by rfl) | (exfalso; omega))
                           · first
                             | (exfalso; first | omega | contradiction)
                             | (refine w_pure rfl ?_
                                refine w_goto ?_
                                refine pz_G_of pz_b124_67 ?_
                                have hc16 : pz_R (pz_Sh L) 173 [.inl 1] (pz_u1 (pz_u1 (pz_u1 (pz_u1 (pz_u1 (pz_u1 (pz_u1 iv 2 (iv 2)) 4 (iv 4)) 5 (iv 5)) 6 (iv 6)) 7 (iv 7)) 8 (iv 8)) 9 (iv 9)) (.inl none) (pz_u1 (pz_u1 (pz_u1 (pz_u1 (pz_u1 (pz_u1 (pz_u1 iv 2 (iv 2)) 4 (iv 4)) 5 (iv 5)) 6 (iv 6)) 7 (iv 7)) 8 (iv 8)) 9 (iv 9)) := s_X10_needState_y 1 (by show 1 ≠ 0; omega)
                                refine w_callv hc16 rfl rfl ?_
                                refine w_loc rfl ?_
                                refine w_getR (q := 3) is_2 rf_2_0 ?_
                                refine w_getR (q := 4) is_3 rf_3_1 ?_
                                refine w_loc rfl ?_
                                refine w_loc rfl ?_
                                refine w_loc rfl ?_
                                refine w_loc rfl ?_
                                have hc17 : pz_R (pz_Sh L) 16 [.inr (.inl 4), .inl f, .inl t, .inl w, .inl l] (pz_u1 (pz_u1 (pz_u1 (pz_u1 (pz_u1 (pz_u1 (pz_u1 iv 2 (iv 2)) 4 (iv 4)) 5 (iv 5)) 6 (iv 6)) 7 (iv 7)) 8 (iv 8)) 9 (iv 9)) (.inl (some (.inl (k 1)))) (pz_u1 (pz_u1 (pz_u1 (pz_u1 (pz_u1 (pz_u1 (pz_u1 iv 2 (iv 2)) 4 (pz_up (iv 4) 0 (k 1 + 1))) 5 (pz_up (iv 5) (k 1).toNat f)) 6 (pz_up (iv 6) (k 1).toNat t)) 7 (pz_up (iv 7) (k 1).toNat w)) 8 (pz_up (iv 8) (k 1).toNat l)) 9 (pz_up (iv 9) (k 1).toNat 0)) := pz_R_mem (s_X1_add f t w l (by show q_KR k; exact hk) (by show q_cB k (iv 4) (iv 5) (iv 6) (iv 7) (iv 8) (iv 9); exact hB) (by show k 1 < 40; omega)) (by rw [pz_u1_in (r := 4) (q := 9) (by decide)]; rw [pz_u1_in (r := 4) (q := 8) (by decide)]; rw [pz_u1_in (r := 4) (q := 7) (by decide)]; rw [pz_u1_in (r := 4) (q := 6) (by decide)]; rw [pz_u1_in (r := 4) (q := 5) (by decide)]; rw [pz_u1_top (r := 4)]; rw [pz_u1_in (r := 5) (q := 9) (by decide)]; rw [pz_u1_in (r := 5) (q := 8) (by decide)]; rw [pz_u1_in (r := 5) (q := 7) (by decide)]; rw [pz_u1_in (r := 5) (q := 6) (by decide)]; rw [pz_u1_top (r := 5)]; rw [pz_u1_in (r := 6) (q := 9) (by decide)]; rw [pz_u1_in (r := 6) (q := 8) (by decide)]; rw [pz_u1_in (r := 6) (q := 7) (by decide)]; rw [pz_u1_top (r := 6)]; rw [pz_u1_in (r := 7) (q := 9) (by decide)]; rw [pz_u1_in (r := 7) (q := 8) (by decide)]; rw [pz_u1_top (r := 7)]; rw [pz_u1_in (r := 8) (q := 9) (by decide)]; rw [pz_u1_top (r := 8)]; rw [pz_u1_top (r := 9)]; rfl)
                                refine w_call hc17 rfl (pz_cokI is_4 rfl) ?_
                                refine w_loc (ls' := [some (.inr (.inl 2)), some (.inl f), some (.inl t), some (.inl w), some (.inl l), some (.inl (k 1))]) (st' := []) rfl ?_
                                refine w_loc rfl ?_
                                have hc18 : pz_R (pz_Sh L) 178 [.inr (.inl 2)] (pz_u1 (pz_u1 (pz_u1 (pz_u1 (pz_u1 (pz_u1 (pz_u1 iv 2 (iv 2)) 4 (pz_up (iv 4) 0 (k 1 + 1))) 5 (pz_up (iv 5) (k 1).toNat f)) 6 (pz_up (iv 6) (k 1).toNat t)) 7 (pz_up (iv 7) (k 1).toNat w)) 8 (pz_up (iv 8) (k 1).toNat l)) 9 (pz_up (iv 9) (k 1).toNat 0)) (.inl none) (pz_u1 (pz_u1 (pz_u1 (pz_u1 (pz_u1 (pz_u1 (pz_u1 iv 2 (pz_up (pz_up (pz_up (iv 2) 7 0) 8 0) 9 0)) 4 (pz_up (iv 4) 0 (k 1 + 1))) 5 (pz_up (iv 5) (k 1).toNat f)) 6 (pz_up (iv 6) (k 1).toNat t)) 7 (pz_up (iv 7) (k 1).toNat w)) 8 (pz_up (iv 8) (k 1).toNat l)) 9 (pz_up (iv 9) (k 1).toNat 0)) := pz_R_mem (s_X10_forget) (by rw [pz_u1_in (r := 2) (q := 9) (by decide)]; rw [pz_u1_in (r := 2) (q := 8) (by decide)]; rw [pz_u1_in (r := 2) (q := 7) (by decide)]; rw [pz_u1_in (r := 2) (q := 6) (by decide)]; rw [pz_u1_in (r := 2) (q := 5) (by decide)]; rw [pz_u1_in (r := 2) (q := 4) (by decide)]; rw [pz_u1_top (r := 2)]; rfl)
                                refine w_callv hc18 rfl (pz_cokI is_2 rfl) ?_
                                refine w_loc rfl ?_
                                refine w_ret rfl ?_
                                first | exact lf_i (by first | rfl | omega) (by rfl) | (exfalso; omega)))
                      · first
                        | (exfalso; first | omega | contradiction)
                        | (have hc19 : pz_R (pz_Sh L) 172 [.inl (pz_bi ((-4) ≤ l ∧ l ≤ 4))] (pz_u1 (pz_u1 (pz_u1 (pz_u1 (pz_u1 (pz_u1 (pz_u1 iv 2 (iv 2)) 4 (iv 4)) 5 (iv 5)) 6 (iv 6)) 7 (iv 7)) 8 (iv 8)) 9 (iv 9)) (.inr 1) (pz_u1 (pz_u1 (pz_u1 (pz_u1 (pz_u1 (pz_u1 (pz_u1 iv 2 (iv 2)) 4 (iv 4)) 5 (iv 5)) 6 (iv 6)) 7 (iv 7)) 8 (iv 8)) 9 (iv 9)) := s_X10_needRange_n (pz_bi ((-4) ≤ l ∧ l ≤ 4)) (by show (pz_bi ((-4) ≤ l ∧ l ≤ 4)) = 0; exact pz_bi_0 h12)
                           refine w_calle hc19 rfl rfl rfl ?_
                           first | exact lf_e (by rfl) | (exfalso; omega)))
                 · first
                   | (exfalso; first | omega | contradiction)
                   | (have hc20 : pz_R (pz_Sh L) 172 [.inl (pz_bi ((-500) ≤ w ∧ w ≤ 500))] (pz_u1 (pz_u1 (pz_u1 (pz_u1 (pz_u1 (pz_u1 (pz_u1 iv 2 (iv 2)) 4 (iv 4)) 5 (iv 5)) 6 (iv 6)) 7 (iv 7)) 8 (iv 8)) 9 (iv 9)) (.inr 1) (pz_u1 (pz_u1 (pz_u1 (pz_u1 (pz_u1 (pz_u1 (pz_u1 iv 2 (iv 2)) 4 (iv 4)) 5 (iv 5)) 6 (iv 6)) 7 (iv 7)) 8 (iv 8)) 9 (iv 9)) := s_X10_needRange_n (pz_bi ((-500) ≤ w ∧ w ≤ 500)) (by show (pz_bi ((-500) ≤ w ∧ w ≤ 500)) = 0; exact pz_bi_0 h9)
                      refine w_calle hc20 rfl rfl rfl ?_
                      first | exact lf_e (by rfl) | (exfalso; omega))))
       · first
         | (exfalso; first | omega | contradiction)
         | (have hc21 : pz_R (pz_Sh L) 170 [.inr (.inl 2), .inl t] (pz_u1 (pz_u1 (pz_u1 (pz_u1 (pz_u1 (pz_u1 (pz_u1 iv 2 (iv 2)) 4 (iv 4)) 5 (iv 5)) 6 (iv 6)) 7 (iv 7)) 8 (iv 8)) 9 (iv 9)) (.inr 2) (pz_u1 (pz_u1 (pz_u1 (pz_u1 (pz_u1 (pz_u1 (pz_u1 iv 2 (iv 2)) 4 (iv 4)) 5 (iv 5)) 6 (iv 6)) 7 (iv 7)) 8 (iv 8)) 9 (iv 9)) := s_X10_needEvent_n t (by show q_cE k (iv 3); exact hE) (by show ¬ (0 ≤ t ∧ t < k 0); exact h3)
            refine w_calle hc21 rfl (pz_cokI is_2 rfl) rfl ?_
            first | exact lf_e (by rfl) | (exfalso; omega)))
  · first
    | (exfalso; first | omega | contradiction)
    | (have hc22 : pz_R (pz_Sh L) 170 [.inr (.inl 2), .inl f] (pz_u1 (pz_u1 (pz_u1 (pz_u1 (pz_u1 (pz_u1 (pz_u1 iv 2 (iv 2)) 4 (iv 4)) 5 (iv 5)) 6 (iv 6)) 7 (iv 7)) 8 (iv 8)) 9 (iv 9)) (.inr 2) (pz_u1 (pz_u1 (pz_u1 (pz_u1 (pz_u1 (pz_u1 (pz_u1 iv 2 (iv 2)) 4 (iv 4)) 5 (iv 5)) 6 (iv 6)) 7 (iv 7)) 8 (iv 8)) 9 (iv 9)) := s_X10_needEvent_n f (by show q_cE k (iv 3); exact hE) (by show ¬ (0 ≤ f ∧ f < k 0); exact h1)
       refine w_calle hc22 rfl (pz_cokI is_2 rfl) rfl ?_
       first | exact lf_e (by rfl) | (exfalso; omega))

theorem s_X10_dropBound_1 {L : Nat} {iv : Nat → Nat → Int} (b : Int) {k : Nat → Int} (hk : q_KR k) (hE : q_cE k (iv 3)) (hB : q_cB k (iv 4) (iv 5) (iv 6) (iv 7) (iv 8) (iv 9)) (hS : q_cS k (iv 10) (iv 11) (iv 12) (iv 13) (iv 14)) (hC : q_cC k (iv 15) (iv 16)) (hA : q_cA k (iv 17) (iv 18) (iv 19) (iv 20)) (hO : q_cO k (iv 22) (iv 23) (iv 24)) (hL : q_cL k (iv 25)) (hP : q_cP k (iv 27)) (hcase0 : ¬ (0 ≤ b ∧ b ≤ k 1 - 1)) : pz_R (pz_Sh L) 125 [.inr (.inl 2), .inl b] iv (.inr 2) iv := by
  intro dv cc ss
  have hk0 := hk.r0
  have hE0 := hE
  have hB0 := hB.1
  have hS0 := hS.1
  have hC0 := hC.1
  have hA0 := hA.1
  show pz_G 125 0 [some (.inr (.inl 2)), some (.inl b)] [] (pz_Sh L, iv, dv, cc, ss) (pz_P (pz_Sh L) (.inr 2) iv dv cc ss)
  refine pz_G_of pz_b125_0 ?_
  refine w_loc rfl ?_
  refine w_loc rfl ?_
  refine w_getR (q := 3) is_2 rf_2_0 ?_
  refine w_getR (q := 4) is_3 rf_3_1 ?_
  refine w_getI (v := (iv 4) 0) is_4 (by decide) rfl ?_
  by_cases h1 : 0 ≤ b ∧ b < ((iv 4) 0)
  · first
    | (exfalso; first | omega | contradiction)
    | (have hc2 : pz_R (pz_Sh L) 171 [.inl b, .inl ((iv 4) 0)] (iv) (.inl none) (iv) := s_X10_needItem_y b ((iv 4) 0) (by exact h1)
       refine w_callv hc2 rfl rfl ?_
       refine w_loc rfl ?_
       refine w_getR (q := 3) is_2 rf_2_0 ?_
       refine w_getR (q := 4) is_3 rf_3_1 ?_
       refine w_loc rfl ?_
       have hc3 : pz_R (pz_Sh L) 18 [.inr (.inl 4), .inl b] (iv) (.inl (some (.inl (pz_bi (k (52 + 4 * b + 3).toNat = 99))))) (iv) := s_X1_isDropped b (by first | exact hk | exact q_KR_drop hk (by omega) (by omega)) (by first | exact hB | exact q_cB_drop hB (by omega)) (by omega)
       refine w_call hc3 rfl (pz_cokI is_4 rfl) ?_
       refine w_bne (fun h4 => ?_) (fun h4 => ?_)
       · first
         | (exfalso; first | omega | contradiction)
         | (refine pz_G_of pz_b125_32 ?_
            refine w_pure rfl ?_
            refine w_nil ?_
            refine pz_G_of pz_b125_33 ?_
            have hc5 : pz_R (pz_Sh L) 173 [.inl 0] (iv) (.inr 0) (iv) := s_X10_needState_n 0 (by omega)
            refine w_calle hc5 rfl rfl rfl ?_
            first | exact lf_e (by rfl) | (exfalso; omega))
       · first
         | (exfalso; first | omega | contradiction)
         | (refine w_pure rfl ?_
            refine w_goto ?_
            refine pz_G_of pz_b125_33 ?_
            have hc6 : pz_R (pz_Sh L) 173 [.inl 1] (iv) (.inl none) (iv) := s_X10_needState_y 1 (by omega)
            refine w_callv hc6 rfl rfl ?_
            refine w_loc rfl ?_
            refine w_getR (q := 3) is_2 rf_2_0 ?_
            refine w_getR (q := 4) is_3 rf_3_1 ?_
            refine w_loc rfl ?_
            have hc7 : pz_R (pz_Sh L) 19 [.inr (.inl 4), .inl b] (iv) (.inl none) (pz_u1 iv 9 (pz_up (iv 9) b.toNat 1)) := pz_R_mem (s_X1_drop b (by first | exact hk | exact q_KR_drop hk (by omega) (by omega)) (by omega)) (by rw [pz_u1_top (r := 9)]; rfl)
            refine w_callv hc7 rfl (pz_cokI is_4 rfl) ?_
            refine w_loc rfl ?_
            have hc8 : pz_R (pz_Sh L) 178 [.inr (.inl 2)] (pz_u1 iv 9 (pz_up (iv 9) b.toNat 1)) (.inl none) (pz_u1 (pz_u1 iv 2 (pz_up (pz_up (pz_up (iv 2) 7 0) 8 0) 9 0)) 9 (pz_up (iv 9) b.toNat 1)) := pz_R_mem (s_X10_forget) (by rw [pz_u1_in (r := 2) (q := 9) (by decide)]; rw [pz_u1_top (r := 2)]; rfl)
            refine w_callv hc8 rfl (pz_cokI is_2 rfl) ?_
            refine w_loc rfl ?_
            refine w_getR (q := 3) is_2 rf_2_0 ?_
            have hc9 : pz_R (pz_Sh L) 72 [.inr (.inl 3)] (pz_u1 (pz_u1 iv 2 (pz_up (pz_up (pz_up (iv 2) 7 0) 8 0) 9 0)) 9 (pz_up (iv 9) b.toNat 1)) (.inl (some (.inl (q_held (pz_up k (52 + 4 * b + 3).toNat 99))))) (pz_u1 (pz_u1 iv 2 (pz_up (pz_up (pz_up (iv 2) 7 0) 8 0) 9 0)) 9 (pz_up (iv 9) b.toNat 1)) := s_X6_countHolding (by show q_KR (pz_up k (52 + 4 * b + 3).toNat 99); first | exact hk | exact q_KR_drop hk (by omega) (by omega)) (by show q_cB (pz_up k (52 + 4 * b + 3).toNat 99) (iv 4) (iv 5) (iv 6) (iv 7) (iv 8) (pz_up (iv 9) b.toNat 1); first | exact hB | exact q_cB_drop hB (by omega)) (by show q_cL (pz_up k (52 + 4 * b + 3).toNat 99) (iv 25); first | exact hL | exact q_cL_ag hL (fun j g1 g2 => pz_up_ne (by omega)))
            refine w_call hc9 rfl (pz_cokI is_3 rfl) ?_
            refine w_ret rfl ?_
            first | exact lf_i (by first | rfl | omega) (by rfl) | (exfalso; omega)))
  · first
    | (exfalso; first | omega | contradiction)
    | (have hc10 : pz_R (pz_Sh L) 171 [.inl b, .inl ((iv 4) 0)] (iv) (.inr 2) (iv) := s_X10_needItem_n b ((iv 4) 0) (by exact h1)
       refine w_calle hc10 rfl rfl rfl ?_
       first | exact lf_e (by rfl) | (exfalso; omega))

theorem s_X10_dropBound_2 {L : Nat} {iv : Nat → Nat → Int} (b : Int) {k : Nat → Int} (hk : q_KR k) (hE : q_cE k (iv 3)) (hB : q_cB k (iv 4) (iv 5) (iv 6) (iv 7) (iv 8) (iv 9)) (hS : q_cS k (iv 10) (iv 11) (iv 12) (iv 13) (iv 14)) (hC : q_cC k (iv 15) (iv 16)) (hA : q_cA k (iv 17) (iv 18) (iv 19) (iv 20)) (hO : q_cO k (iv 22) (iv 23) (iv 24)) (hL : q_cL k (iv 25)) (hP : q_cP k (iv 27)) (hcase0 : 0 ≤ b ∧ b ≤ k 1 - 1) (hcase1 : k (52 + 4 * b + 3).toNat = 99) : pz_R (pz_Sh L) 125 [.inr (.inl 2), .inl b] iv (.inr 0) iv := by
  intro dv cc ss
  have hk0 := hk.r0
  have hE0 := hE
  have hB0 := hB.1
  have hS0 := hS.1
  have hC0 := hC.1
  have hA0 := hA.1
  show pz_G 125 0 [some (.inr (.inl 2)), some (.inl b)] [] (pz_Sh L, iv, dv, cc, ss) (pz_P (pz_Sh L) (.inr 0) iv dv cc ss)
  refine pz_G_of pz_b125_0 ?_
  refine w_loc rfl ?_
  refine w_loc rfl ?_
  refine w_getR (q := 3) is_2 rf_2_0 ?_
  refine w_getR (q := 4) is_3 rf_3_1 ?_
  refine w_getI (v := (iv 4) 0) is_4 (by decide) rfl ?_
  by_cases h1 : 0 ≤ b ∧ b < ((iv 4) 0)
  · first
    | (exfalso; first | omega | contradiction)
    | (have hc2 : pz_R (pz_Sh L) 171 [.inl b, .inl ((iv 4) 0)] (iv) (.inl none) (iv) := s_X10_needItem_y b ((iv 4) 0) (by exact h1)
       refine w_callv hc2 rfl rfl ?_
       refine w_loc rfl ?_
       refine w_getR (q := 3) is_2 rf_2_0 ?_
       refine w_getR (q := 4) is_3 rf_3_1 ?_
       refine w_loc rfl ?_
       have hc3 : pz_R (pz_Sh L) 18 [.inr (.inl 4), .inl b] (iv) (.inl (some (.inl (pz_bi (k (52 + 4 * b + 3).toNat = 99))))) (iv) := s_X1_isDropped b (by first | exact hk | exact q_KR_drop hk (by omega) (by omega)) (by first | exact hB | exact q_cB_drop hB (by omega)) (by omega)
       refine w_call hc3 rfl (pz_cokI is_4 rfl) ?_
       refine w_bne (fun h4 => ?_) (fun h4 => ?_)
       · first
         | (exfalso; first | omega | contradiction)
         | (refine pz_G_of pz_b125_32 ?_
            refine w_pure rfl ?_
            refine w_nil ?_
            refine pz_G_of pz_b125_33 ?_
            have hc5 : pz_R (pz_Sh L) 173 [.inl 0] (iv) (.inr 0) (iv) := s_X10_needState_n 0 (by omega)
            refine w_calle hc5 rfl rfl rfl ?_
            first | exact lf_e (by rfl) | (exfalso; omega))
       · first
         | (exfalso; first | omega | contradiction)
         | (refine w_pure rfl ?_
            refine w_goto ?_
            refine pz_G_of pz_b125_33 ?_
            have hc6 : pz_R (pz_Sh L) 173 [.inl 1] (iv) (.inl none) (iv) := s_X10_needState_y 1 (by omega)
            refine w_callv hc6 rfl rfl ?_
            refine w_loc rfl ?_
            refine w_getR (q := 3) is_2 rf_2_0 ?_
            refine w_getR (q := 4) is_3 rf_3_1 ?_
            refine w_loc rfl ?_
            have hc7 : pz_R (pz_Sh L) 19 [.inr (.inl 4), .inl b] (iv) (.inl none) (pz_u1 iv 9 (pz_up (iv 9) b.toNat 1)) := pz_R_mem (s_X1_drop b (by first | exact hk | exact q_KR_drop hk (by omega) (by omega)) (by omega)) (by rw [pz_u1_top (r := 9)]; rfl)
            refine w_callv hc7 rfl (pz_cokI is_4 rfl) ?_
            refine w_loc rfl ?_
            have hc8 : pz_R (pz_Sh L) 178 [.inr (.inl 2)] (pz_u1 iv 9 (pz_up (iv 9) b.toNat 1)) (.inl none) (pz_u1 (pz_u1 iv 2 (pz_up (pz_up (pz_up (iv 2) 7 0) 8 0) 9 0)) 9 (pz_up (iv 9) b.toNat 1)) := pz_R_mem (s_X10_forget) (by rw [pz_u1_in (r := 2) (q := 9) (by decide)]; rw [pz_u1_top (r := 2)]; rfl)
            refine w_callv hc8 rfl (pz_cokI is_2 rfl) ?_
            refine w_loc rfl ?_
            refine w_getR (q := 3) is_2 rf_2_0 ?_
            have hc9 : pz_R (pz_Sh L) 72 [.inr (.inl 3)] (pz_u1 (pz_u1 iv 2 (pz_up (pz_up (pz_up (iv 2) 7 0) 8 0) 9 0)) 9 (pz_up (iv 9) b.toNat 1)) (.inl (some (.inl (q_held (pz_up k (52 + 4 * b + 3).toNat 99))))) (pz_u1 (pz_u1 iv 2 (pz_up (pz_up (pz_up (iv 2) 7 0) 8 0) 9 0)) 9 (pz_up (iv 9) b.toNat 1)) := s_X6_countHolding (by show q_KR (pz_up k (52 + 4 * b + 3).toNat 99); first | exact hk | exact q_KR_drop hk (by omega) (by omega)) (by show q_cB (pz_up k (52 + 4 * b + 3).toNat 99) (iv 4) (iv 5) (iv 6) (iv 7) (iv 8) (pz_up (iv 9) b.toNat 1); first | exact hB | exact q_cB_drop hB (by omega)) (by show q_cL (pz_up k (52 + 4 * b + 3).toNat 99) (iv 25); first | exact hL | exact q_cL_ag hL (fun j g1 g2 => pz_up_ne (by omega)))
            refine w_call hc9 rfl (pz_cokI is_3 rfl) ?_
            refine w_ret rfl ?_
            first | exact lf_i (by first | rfl | omega) (by rfl) | (exfalso; omega)))
  · first
    | (exfalso; first | omega | contradiction)
    | (have hc10 : pz_R (pz_Sh L) 171 [.inl b, .inl ((iv 4) 0)] (iv) (.inr 2) (iv) := s_X10_needItem_n b ((iv 4) 0) (by exact h1)
       refine w_calle hc10 rfl rfl rfl ?_
       first | exact lf_e (by rfl) | (exfalso; omega))

theorem s_X10_dropBound_0 {L : Nat} {iv : Nat → Nat → Int} (b : Int) {k : Nat → Int} (hk : q_KR k) (hE : q_cE k (iv 3)) (hB : q_cB k (iv 4) (iv 5) (iv 6) (iv 7) (iv 8) (iv 9)) (hS : q_cS k (iv 10) (iv 11) (iv 12) (iv 13) (iv 14)) (hC : q_cC k (iv 15) (iv 16)) (hA : q_cA k (iv 17) (iv 18) (iv 19) (iv 20)) (hO : q_cO k (iv 22) (iv 23) (iv 24)) (hL : q_cL k (iv 25)) (hP : q_cP k (iv 27)) (hcase0 : 0 ≤ b ∧ b ≤ k 1 - 1) (hcase1 : k (52 + 4 * b + 3).toNat ≠ 99) : pz_R (pz_Sh L) 125 [.inr (.inl 2), .inl b] iv (.inl (some (.inl (q_held (pz_up k (52 + 4 * b + 3).toNat 99))))) (pz_u1 (pz_u1 iv 2 (pz_up (pz_up (pz_up (iv 2) 7 0) 8 0) 9 0)) 9 (pz_up (iv 9) b.toNat 1)) := by
  intro dv cc ss
  have hk0 := hk.r0
  have hE0 := hE
  have hB0 := hB.1
  have hS0 := hS.1
  have hC0 := hC.1
  have hA0 := hA.1
  refine pz_G_mem (iv2 := pz_u1 (pz_u1 iv 2 (iv 2)) 9 (iv 9)) (by exact ((pz_u1_self iv 2).symm).trans (pz_u1_self (pz_u1 iv 2 (iv 2)) 9).symm) ?_
  show pz_G 125 0 [some (.inr (.inl 2)), some (.inl b)] [] (pz_Sh L, pz_u1 (pz_u1 iv 2 (iv 2)) 9 (iv 9), dv, cc, ss) (pz_P (pz_Sh L) (.inl (some (.inl (q_held (pz_up k (52 + 4 * b + 3).toNat 99))))) (pz_u1 (pz_u1 iv 2 (pz_up (pz_up (pz_up (iv 2) 7 0) 8 0) 9 0)) 9 (pz_up (iv 9) b.toNat 1)) dv cc ss)
  refine pz_G_of pz_b125_0 ?_
  refine w_loc rfl ?_
  refine w_loc rfl ?_
  refine w_getR (q := 3) is_2 rf_2_0 ?_
  refine w_getR (q := 4) is_3 rf_3_1 ?_
  refine w_getI (v := (iv 4) 0) is_4 (by decide) rfl ?_
  by_cases h1 : 0 ≤ b ∧ b < ((iv 4) 0)
  · first
    | (exfalso; first | omega | contradiction)
    | (have hc2 : pz_R (pz_Sh L) 171 [.inl b, .inl ((iv 4) 0)] (pz_u1 (pz_u1 iv 2 (iv 2)) 9 (iv 9)) (.inl none) (pz_u1 (pz_u1 iv 2 (iv 2)) 9 (iv 9)) := s_X10_needItem_y b ((iv 4) 0) (by show 0 ≤ b ∧ b < ((iv 4) 0); exact h1)
       refine w_callv hc2 rfl rfl ?_
       refine w_loc rfl ?_
       refine w_getR (q := 3) is_2 rf_2_0 ?_
       refine w_getR (q := 4) is_3 rf_3_1 ?_
       refine w_loc rfl ?_
       have hc3 : pz_R (pz_Sh L) 18 [.inr (.inl 4), .inl b] (pz_u1 (pz_u1 iv 2 (iv 2)) 9 (iv 9)) (.inl (some (.inl (pz_bi (k (52 + 4 * b + 3).toNat = 99))))) (pz_u1 (pz_u1 iv 2 (iv 2)) 9 (iv 9)) := s_X1_isDropped b (by show q_KR k; first | exact hk | exact q_KR_drop hk (by omega) (by omega)) (by show q_cB k (iv 4) (iv 5) (iv 6) (iv 7) (iv 8) (iv 9); first | exact hB | exact q_cB_drop hB (by omega)) (by show 0 ≤ b ∧ b < k 1; omega)
       refine w_call hc3 rfl (pz_cokI is_4 rfl) ?_
       refine w_bne (fun h4 => ?_) (fun h4 => ?_)
       · first
         | (exfalso; first | omega | contradiction)
         | (refine pz_G_of pz_b125_32 ?_
            refine w_pure rfl ?_
            refine w_nil ?_
            refine pz_G_of pz_b125_33 ?_
            have hc5 : pz_R (pz_Sh L) 173 [.inl 0] (pz_u1 (pz_u1 iv 2 (iv 2)) 9 (iv 9)) (.inr 0) (pz_u1 (pz_u1 iv 2 (iv 2)) 9 (iv 9)) := s_X10_needState_n 0 (by show 0 = 0; omega)
            refine w_calle hc5 rfl rfl rfl ?_
            first | exact lf_e (by rfl) | (exfalso; omega))
       · first
         | (exfalso; first | omega | contradiction)
         | (refine w_pure rfl ?_
            refine w_goto ?_
            refine pz_G_of pz_b125_33 ?_
            have hc6 : pz_R (pz_Sh L) 173 [.inl 1] (pz_u1 (pz_u1 iv 2 (iv 2)) 9 (iv 9)) (.inl none) (pz_u1 (pz_u1 iv 2 (iv 2)) 9 (iv 9)) := s_X10_needState_y 1 (by show 1 ≠ 0; omega)
            refine w_callv hc6 rfl rfl ?_
            refine w_loc rfl ?_
            refine w_getR (q := 3) is_2 rf_2_0 ?_
            refine w_getR (q := 4) is_3 rf_3_1 ?_
            refine w_loc rfl ?_
            have hc7 : pz_R (pz_Sh L) 19 [.inr (.inl 4), .inl b] (pz_u1 (pz_u1 iv 2 (iv 2)) 9 (iv 9)) (.inl none) (pz_u1 (pz_u1 iv 2 (iv 2)) 9 (pz_up (iv 9) b.toNat 1)) := pz_R_mem (s_X1_drop b (by show q_KR k; first | exact hk | exact q_KR_drop hk (by omega) (by omega)) (by show 0 ≤ b ∧ b < k 1; omega)) (by rw [pz_u1_top (r := 9)]; rfl)
            refine w_callv hc7 rfl (pz_cokI is_4 rfl) ?_
            refine w_loc rfl ?_
            have hc8 : pz_R (pz_Sh L) 178 [.inr (.inl 2)] (pz_u1 (pz_u1 iv 2 (iv 2)) 9 (pz_up (iv 9) b.toNat 1)) (.inl none) (pz_u1 (pz_u1 iv 2 (pz_up (pz_up (pz_up (iv 2) 7 0) 8 0) 9 0)) 9 (pz_up (iv 9) b.toNat 1)) := pz_R_mem (s_X10_forget) (by rw [pz_u1_in (r := 2) (q := 9) (by decide)]; rw [pz_u1_top (r := 2)]; rfl)
            refine w_callv hc8 rfl (pz_cokI is_2 rfl) ?_
            refine w_loc rfl ?_
            refine w_getR (q := 3) is_2 rf_2_0 ?_
            have hc9 : pz_R (pz_Sh L) 72 [.inr (.inl 3)] (pz_u1 (pz_u1 iv 2 (pz_up (pz_up (pz_up (iv 2) 7 0) 8 0) 9 0)) 9 (pz_up (iv 9) b.toNat 1)) (.inl (some (.inl (q_held (pz_up k (52 + 4 * b + 3).toNat 99))))) (pz_u1 (pz_u1 iv 2 (pz_up (pz_up (pz_up (iv 2) 7 0) 8 0) 9 0)) 9 (pz_up (iv 9) b.toNat 1)) := s_X6_countHolding (by show q_KR (pz_up k (52 + 4 * b + 3).toNat 99); first | exact hk | exact q_KR_drop hk (by omega) (by omega)) (by show q_cB (pz_up k (52 + 4 * b + 3).toNat 99) (iv 4) (iv 5) (iv 6) (iv 7) (iv 8) (pz_up (iv 9) b.toNat 1); first | exact hB | exact q_cB_drop hB (by omega)) (by show q_cL (pz_up k (52 + 4 * b + 3).toNat 99) (iv 25); first | exact hL | exact q_cL_ag hL (fun j g1 g2 => pz_up_ne (by omega)))
            refine w_call hc9 rfl (pz_cokI is_3 rfl) ?_
            refine w_ret rfl ?_
            first | exact lf_i (by first | rfl | omega) (by rfl) | (exfalso; omega)))
  · first
    | (exfalso; first | omega | contradiction)
    | (have hc10 : pz_R (pz_Sh L) 171 [.inl b, .inl ((iv 4) 0)] (pz_u1 (pz_u1 iv 2 (iv 2)) 9 (iv 9)) (.inr 2) (pz_u1 (pz_u1 iv 2 (iv 2)) 9 (iv 9)) := s_X10_needItem_n b ((iv 4) 0) (by show ¬ (0 ≤ b ∧ b < ((iv 4) 0)); exact h1)
       refine w_calle hc10 rfl rfl rfl ?_
       first | exact lf_e (by rfl) | (exfalso; omega))

theorem s_X10_addSpan_1 {L : Nat} {iv : Nat → Nat → Int} (f : Int) (t : Int) (l : Int) (g : Int) {k : Nat → Int} (hk : q_KR k) (hE : q_cE k (iv 3)) (hB : q_cB k (iv 4) (iv 5) (iv 6) (iv 7) (iv 8) (iv 9)) (hS : q_cS k (iv 10) (iv 11) (iv 12) (iv 13) (iv 14)) (hC : q_cC k (iv 15) (iv 16)) (hA : q_cA k (iv 17) (iv 18) (iv 19) (iv 20)) (hO : q_cO k (iv 22) (iv 23) (iv 24)) (hL : q_cL k (iv 25)) (hP : q_cP k (iv 27)) (hcase0 : ¬ (0 ≤ f ∧ f ≤ k 0 - 1 ∧ 0 ≤ t ∧ t ≤ k 0 - 1)) : pz_R (pz_Sh L) 126 [.inr (.inl 2), .inl f, .inl t, .inl l, .inl g] iv (.inr 2) iv := by
  intro dv cc ss
  have hk0 := hk.r0
  have hE0 := hE
  have hB0 := hB.1
  have hS0 := hS.1
  have hC0 := hC.1
  have hA0 := hA.1
  show pz_G 126 0 [some (.inr (.inl 2)), some (.inl f), some (.inl t), some (.inl l), some (.inl g), none] [] (pz_Sh L, iv, dv, cc, ss) (pz_P (pz_Sh L) (.inr 2) iv dv cc ss)
  refine pz_G_of pz_b126_0 ?_
  refine w_loc rfl ?_
  refine w_loc rfl ?_
  by_cases h1 : 0 ≤ f ∧ f < k 0
  · first
    | (exfalso; first | omega | contradiction)
    | (have hc2 : pz_R (pz_Sh L) 170 [.inr (.inl 2), .inl f] (iv) (.inl none) (iv) := s_X10_needEvent_y f (by exact hE) (by exact h1)
       refine w_callv hc2 rfl (pz_cokI is_2 rfl) ?_
       refine w_loc rfl ?_
       refine w_loc rfl ?_
       by_cases h3 : 0 ≤ t ∧ t < k 0
       · first
         | (exfalso; first | omega | contradiction)
         | (have hc4 : pz_R (pz_Sh L) 170 [.inr (.inl 2), .inl t] (iv) (.inl none) (iv) := s_X10_needEvent_y t (by exact hE) (by exact h3)
            refine w_callv hc4 rfl (pz_cokI is_2 rfl) ?_
            refine w_loc rfl ?_
            refine w_loc rfl ?_
            refine w_ile (fun h5 => ?_) (fun h5 => ?_)
            · first
              | (exfalso; first | omega | contradiction)
              | (refine pz_G_of pz_b126_19 ?_
                 refine w_pure rfl ?_
                 refine w_nil ?_
                 refine pz_G_of pz_b126_20 ?_
                 have hc6 : pz_R (pz_Sh L) 172 [.inl 0] (iv) (.inr 1) (iv) := s_X10_needRange_n 0 (by omega)
                 refine w_calle hc6 rfl rfl rfl ?_
                 first | exact lf_e (by rfl) | (exfalso; omega))
            · first
              | (exfalso; first | omega | contradiction)
              | (refine w_pure rfl ?_
                 refine w_goto ?_
                 refine pz_G_of pz_b126_20 ?_
                 have hc7 : pz_R (pz_Sh L) 172 [.inl 1] (iv) (.inl none) (iv) := s_X10_needRange_y 1 (by omega)
                 refine w_callv hc7 rfl rfl ?_
                 refine w_loc rfl ?_
                 refine w_pure rfl ?_
                 refine w_pure rfl ?_
                 have hc8 : pz_R (pz_Sh L) 185 [.inl l, .inl 1, .inl 200] (iv) (.inl (some (.inl (pz_bi (1 ≤ l ∧ l ≤ 200))))) (iv) := s_X10_isWithin l 1 200
                 refine w_call hc8 rfl rfl ?_
                 by_cases h9 : 1 ≤ l ∧ l ≤ 200
                 · first
                   | (exfalso; first | omega | contradiction)
                   | (have hc10 : pz_R (pz_Sh L) 172 [.inl (pz_bi (1 ≤ l ∧ l ≤ 200))] (iv) (.inl none) (iv) := s_X10_needRange_y (pz_bi (1 ≤ l ∧ l ≤ 200)) (by exact pz_bi_p1 h9)
                      refine w_callv hc10 rfl rfl ?_
                      refine w_loc rfl ?_
                      refine w_loc rfl ?_
                      refine w_pure rfl ?_
                      have hc11 : pz_R (pz_Sh L) 185 [.inl g, .inl l, .inl 200] (iv) (.inl (some (.inl (pz_bi (l ≤ g ∧ g ≤ 200))))) (iv) := s_X10_isWithin g l 200
                      refine w_call hc11 rfl rfl ?_
                      by_cases h12 : l ≤ g ∧ g ≤ 200
                      · first
                        | (exfalso; first | omega | contradiction)
                        | (have hc13 : pz_R (pz_Sh L) 172 [.inl (pz_bi (l ≤ g ∧ g ≤ 200))] (iv) (.inl none) (iv) := s_X10_needRange_y (pz_bi (l ≤ g ∧ g ≤ 200)) (by exact pz_bi_p1 h12)
                           refine w_callv hc13 rfl rfl ?_
                           refine w_loc rfl ?_
                           refine w_getR (q := 3) is_2 rf_2_0 ?_
                           refine w_getR (q := 10) is_3 rf_3_2 ?_
                           refine w_getI (v := (iv 10) 0) is_10 (by decide) rfl ?_
                           refine w_pure rfl ?_
                           refine w_ige (fun h14 => ?_) (fun h14 => ?_)
                           · first
                             | (exfalso; first | omega | contradiction)
                             | (refine pz_G_of pz_b126_64 ?_
                                refine w_pure rfl ?_
                                refine w_nil ?_
                                refine pz_G_of pz_b126_65 ?_
                                have hc15 : pz_R (pz_Sh L) 173 [.inl 0] (iv) (.inr 0) (iv) := s_X10_needState_n 0 (by omega)
                                refine w_calle hc15 rfl rfl rfl ?_
                                first | exact lf_e (by rfl) | (exfalso; omega))
                           · first
                             | (exfalso; first | omega | contradiction)
                             | (refine w_pure rfl ?_
                                refine w_goto ?_
                                refine pz_G_of pz_b126_65 ?_
                                have hc16 : pz_R (pz_Sh L) 173 [.inl 1] (iv) (.inl none) (iv) := s_X10_needState_y 1 (by omega)
                                refine w_callv hc16 rfl rfl ?_
                                refine w_loc rfl ?_
                                refine w_getR (q := 3) is_2 rf_2_0 ?_
                                refine w_getR (q := 10) is_3 rf_3_2 ?_
                                refine w_loc rfl ?_
                                have hc17 : pz_R (pz_Sh L) 115 [.inr (.inl 10), .inl t] (iv) (.inl (some (.inl (q_we k t)))) (iv) := s_X9_withEnd t (by exact hk) (by exact hS)
                                refine w_call hc17 rfl (pz_cokI is_10 rfl) ?_
                                refine w_pure rfl ?_
                                refine w_ine (fun h18 => ?_) (fun h18 => ?_)
                                · first
                                  | (exfalso; first | omega | contradiction)
                                  | (refine pz_G_of pz_b126_87 ?_
                                     refine w_pure rfl ?_
                                     refine w_nil ?_
                                     refine pz_G_of pz_b126_88 ?_
                                     have hc19 : pz_R (pz_Sh L) 173 [.inl 0] (iv) (.inr 0) (iv) := s_X10_needState_n 0 (by omega)
                                     refine w_calle hc19 rfl rfl rfl ?_
                                     first | exact lf_e (by rfl) | (exfalso; omega))
                                · first
                                  | (exfalso; first | omega | contradiction)
                                  | (refine w_pure rfl ?_
                                     refine w_goto ?_
                                     refine pz_G_of pz_b126_88 ?_
                                     have hc20 : pz_R (pz_Sh L) 173 [.inl 1] (iv) (.inl none) (iv) := s_X10_needState_y 1 (by omega)
                                     refine w_callv hc20 rfl rfl ?_
                                     refine w_loc rfl ?_
                                     refine w_zeq (fun h21 => ?_) (fun h21 => ?_)
                                     · first
                                       | (exfalso; first | omega | contradiction)
                                       | (refine pz_G_of pz_b126_109 ?_
                                          refine w_pure rfl ?_
                                          refine w_goto ?_
                                          refine pz_G_of pz_b126_114 ?_
                                          have hc22 : pz_R (pz_Sh L) 173 [.inl 1] (iv) (.inl none) (iv) := s_X10_needState_y 1 (by omega)
                                          refine w_callv hc22 rfl rfl ?_
                                          refine w_loc rfl ?_
                                          refine w_getR (q := 3) is_2 rf_2_0 ?_
                                          refine w_getR (q := 15) is_3 rf_3_3 ?_
                                          refine w_loc rfl ?_
                                          have hc23 : pz_R (pz_Sh L) 26 [.inr (.inl 15), .inl t] (iv) (.inl (some (.inl (pz_bi (q_sta k t))))) (iv) := s_X2_hasStarted_15 t (by exact hk) (by exact hC) (by omega)
                                          refine w_call hc23 rfl (pz_cokI is_15 rfl) ?_
                                          refine w_bne (fun h24 => ?_) (fun h24 => ?_)
                                          · first
                                            | (exfalso; first | omega | contradiction)
                                            | (refine pz_G_of pz_b126_135 ?_
                                               refine w_pure rfl ?_
                                               refine w_nil ?_
                                               refine pz_G_of pz_b126_136 ?_
                                               have hc25 : pz_R (pz_Sh L) 173 [.inl 0] (iv) (.inr 0) (iv) := s_X10_needState_n 0 (by omega)
                                               refine w_calle hc25 rfl rfl rfl ?_
                                               first | exact lf_e (by rfl) | (exfalso; omega))
                                          · first
                                            | (exfalso; first | omega | contradiction)
                                            | (refine w_pure rfl ?_
                                               refine w_goto ?_
                                               refine pz_G_of pz_b126_136 ?_
                                               have hc26 : pz_R (pz_Sh L) 173 [.inl 1] (iv) (.inl none) (iv) := s_X10_needState_y 1 (by omega)
                                               refine w_callv hc26 rfl rfl ?_
                                               refine w_loc rfl ?_
                                               refine w_getR (q := 3) is_2 rf_2_0 ?_
                                               refine w_getR (q := 10) is_3 rf_3_2 ?_
                                               refine w_loc rfl ?_
                                               refine w_loc rfl ?_
                                               refine w_loc rfl ?_
                                               refine w_loc rfl ?_
                                               have hc27 : pz_R (pz_Sh L) 109 [.inr (.inl 10), .inl f, .inl t, .inl l, .inl g] (iv) (.inl (some (.inl (k 2)))) (pz_u1 (pz_u1 (pz_u1 (pz_u1 (pz_u1 iv 10 (pz_up (iv 10) 0 (k 2 + 1))) 11 (pz_up (iv 11) (k 2).toNat f)) 12 (pz_up (iv 12) (k 2).toNat t)) 13 (pz_up (iv 13) (k 2).toNat l)) 14 (pz_up (iv 14) (k 2).toNat g)) := pz_R_mem (s_X9_add f t l g (by exact hk) (by exact hS) (by omega)) (by rw [pz_u1_top (r := 10)]; rw [pz_u1_top (r := 11)]; rw [pz_u1_top (r := 12)]; rw [pz_u1_top (r := 13)]; rw [pz_u1_top (r := 14)]; rfl)
                                               refine w_call hc27 rfl (pz_cokI is_10 rfl) ?_
                                               refine w_loc (ls' := [some (.inr (.inl 2)), some (.inl f), some (.inl t), some (.inl l), some (.inl g), some (.inl (k 2))]) (st' := []) rfl ?_
                                               refine w_loc rfl ?_
                                               have hc28 : pz_R (pz_Sh L) 178 [.inr (.inl 2)] (pz_u1 (pz_u1 (pz_u1 (pz_u1 (pz_u1 iv 10 (pz_up (iv 10) 0 (k 2 + 1))) 11 (pz_up (iv 11) (k 2).toNat f)) 12 (pz_up (iv 12) (k 2).toNat t)) 13 (pz_up (iv 13) (k 2).toNat l)) 14 (pz_up (iv 14) (k 2).toNat g)) (.inl none) (pz_u1 (pz_u1 (pz_u1 (pz_u1 (pz_u1 (pz_u1 iv 2 (pz_up (pz_up (pz_up (iv 2) 7 0) 8 0) 9 0)) 10 (pz_up (iv 10) 0 (k 2 + 1))) 11 (pz_up (iv 11) (k 2).toNat f)) 12 (pz_up (iv 12) (k 2).toNat t)) 13 (pz_up (iv 13) (k 2).toNat l)) 14 (pz_up (iv 14) (k 2).toNat g)) := pz_R_mem (s_X10_forget) (by rw [pz_u1_in (r := 2) (q := 14) (by decide)]; rw [pz_u1_in (r := 2) (q := 13) (by decide)]; rw [pz_u1_in (r := 2) (q := 12) (by decide)]; rw [pz_u1_in (r := 2) (q := 11) (by decide)]; rw [pz_u1_in (r := 2) (q := 10) (by decide)]; rw [pz_u1_top (r := 2)]; rfl)
                                               refine w_callv hc28 rfl (pz_cokI is_2 rfl) ?_
                                               refine w_loc rfl ?_
                                               refine w_ret rfl ?_
                                               first | exact lf_i (by first | rfl | omega) (by rfl) | (exfalso; omega)))
                                     · first
                                       | (exfalso; first | omega | contradiction)
                                       | (refine w_loc rfl ?_
                                          refine w_getR (q := 3) is_2 rf_2_0 ?_
                                          refine w_getR (q := 15) is_3 rf_3_3 ?_
                                          refine w_loc rfl ?_
                                          have hc29 : pz_R (pz_Sh L) 26 [.inr (.inl 15), .inl f] (iv) (.inl (some (.inl (pz_bi (q_sta k f))))) (iv) := s_X2_hasStarted_15 f (by exact hk) (by exact hC) (by omega)
                                          refine w_call hc29 rfl (pz_cokI is_15 rfl) ?_
                                          refine w_bne (fun h30 => ?_) (fun h30 => ?_)
                                          · first
                                            | (exfalso; first | omega | contradiction)
                                            | (refine pz_G_of pz_b126_113 ?_
                                               refine w_pure rfl ?_
                                               refine w_nil ?_
                                               refine pz_G_of pz_b126_114 ?_
                                               have hc31 : pz_R (pz_Sh L) 173 [.inl 0] (iv) (.inr 0) (iv) := s_X10_needState_n 0 (by omega)
                                               refine w_calle hc31 rfl rfl rfl ?_
                                               first | exact lf_e (by rfl) | (exfalso; omega))
                                          · first
                                            | (exfalso; first | omega | contradiction)
                                            | (refine w_nil ?_
                                               refine pz_G_of pz_b126_109 ?_
                                               refine w_pure rfl ?_
                                               refine w_goto ?_
                                               refine pz_G_of pz_b126_114 ?_
                                               have hc32 : pz_R (pz_Sh L) 173 [.inl 1] (iv) (.inl none) (iv) := s_X10_needState_y 1 (by omega)
                                               refine w_callv hc32 rfl rfl ?_
                                               refine w_loc rfl ?_
                                               refine w_getR (q := 3) is_2 rf_2_0 ?_
                                               refine w_getR (q := 15) is_3 rf_3_3 ?_
                                               refine w_loc rfl ?_
                                               have hc33 : pz_R (pz_Sh L) 26 [.inr (.inl 15), .inl t] (iv) (.inl (some (.inl (pz_bi (q_sta k t))))) (iv) := s_X2_hasStarted_15 t (by exact hk) (by exact hC) (by omega)
                                               refine w_call hc33 rfl (pz_cokI is_15 rfl) ?_
                                               refine w_bne (fun h34 => ?_) (fun h34 => ?_)
                                               · first
                                                 | (exfalso; first | omega | contradiction)
                                                 | (refine pz_G_of pz_b126_135 ?_
                                                    refine w_pure rfl ?_
                                                    refine w_nil ?_
                                                    refine pz_G_of pz_b126_136 ?_
                                                    have hc35 : pz_R (pz_Sh L) 173 [.inl 0] (iv) (.inr 0) (iv) := s_X10_needState_n 0 (by omega)
                                                    refine w_calle hc35 rfl rfl rfl ?_
                                                    first | exact lf_e (by rfl) | (exfalso; omega))
                                               · first
                                                 | (exfalso; first | omega | contradiction)
                                                 | (refine w_pure rfl ?_
                                                    refine w_goto ?_
                                                    refine pz_G_of pz_b126_136 ?_
                                                    have hc36 : pz_R (pz_Sh L) 173 [.inl 1] (iv) (.inl none) (iv) := s_X10_needState_y 1 (by omega)
                                                    refine w_callv hc36 rfl rfl ?_
                                                    refine w_loc rfl ?_
                                                    refine w_getR (q := 3) is_2 rf_2_0 ?_
                                                    refine w_getR (q := 10) is_3 rf_3_2 ?_
                                                    refine w_loc rfl ?_
                                                    refine w_loc rfl ?_
                                                    refine w_loc rfl ?_
                                                    refine w_loc rfl ?_
                                                    have hc37 : pz_R (pz_Sh L) 109 [.inr (.inl 10), .inl f, .inl t, .inl l, .inl g] (iv) (.inl (some (.inl (k 2)))) (pz_u1 (pz_u1 (pz_u1 (pz_u1 (pz_u1 iv 10 (pz_up (iv 10) 0 (k 2 + 1))) 11 (pz_up (iv 11) (k 2).toNat f)) 12 (pz_up (iv 12) (k 2).toNat t)) 13 (pz_up (iv 13) (k 2).toNat l)) 14 (pz_up (iv 14) (k 2).toNat g)) := pz_R_mem (s_X9_add f t l g (by exact hk) (by exact hS) (by omega)) (by rw [pz_u1_top (r := 10)]; rw [pz_u1_top (r := 11)]; rw [pz_u1_top (r := 12)]; rw [pz_u1_top (r := 13)]; rw [pz_u1_top (r := 14)]; rfl)
                                                    refine w_call hc37 rfl (pz_cokI is_10 rfl) ?_
                                                    refine w_loc (ls' := [some (.inr (.inl 2)), some (.inl f), some (.inl t), some (.inl l), some (.inl g), some (.inl (k 2))]) (st' := []) rfl ?_
                                                    refine w_loc rfl ?_
                                                    have hc38 : pz_R (pz_Sh L) 178 [.inr (.inl 2)] (pz_u1 (pz_u1 (pz_u1 (pz_u1 (pz_u1 iv 10 (pz_up (iv 10) 0 (k 2 + 1))) 11 (pz_up (iv 11) (k 2).toNat f)) 12 (pz_up (iv 12) (k 2).toNat t)) 13 (pz_up (iv 13) (k 2).toNat l)) 14 (pz_up (iv 14) (k 2).toNat g)) (.inl none) (pz_u1 (pz_u1 (pz_u1 (pz_u1 (pz_u1 (pz_u1 iv 2 (pz_up (pz_up (pz_up (iv 2) 7 0) 8 0) 9 0)) 10 (pz_up (iv 10) 0 (k 2 + 1))) 11 (pz_up (iv 11) (k 2).toNat f)) 12 (pz_up (iv 12) (k 2).toNat t)) 13 (pz_up (iv 13) (k 2).toNat l)) 14 (pz_up (iv 14) (k 2).toNat g)) := pz_R_mem (s_X10_forget) (by rw [pz_u1_in (r := 2) (q := 14) (by decide)]; rw [pz_u1_in (r := 2) (q := 13) (by decide)]; rw [pz_u1_in (r := 2) (q := 12) (by decide)]; rw [pz_u1_in (r := 2) (q := 11) (by decide)]; rw [pz_u1_in (r := 2) (q := 10) (by decide)]; rw [pz_u1_top (r := 2)]; rfl)
                                                    refine w_callv hc38 rfl (pz_cokI is_2 rfl) ?_
                                                    refine w_loc rfl ?_
                                                    refine w_ret rfl ?_
                                                    first | exact lf_i (by first | rfl | omega) (by rfl) | (exfalso; omega)))))))
                      · first
                        | (exfalso; first | omega | contradiction)
                        | (have hc39 : pz_R (pz_Sh L) 172 [.inl (pz_bi (l ≤ g ∧ g ≤ 200))] (iv) (.inr 1) (iv) := s_X10_needRange_n (pz_bi (l ≤ g ∧ g ≤ 200)) (by exact pz_bi_0 h12)
                           refine w_calle hc39 rfl rfl rfl ?_
                           first | exact lf_e (by rfl) | (exfalso; omega)))
                 · first
                   | (exfalso; first | omega | contradiction)
                   | (have hc40 : pz_R (pz_Sh L) 172 [.inl (pz_bi (1 ≤ l ∧ l ≤ 200))] (iv) (.inr 1) (iv) := s_X10_needRange_n (pz_bi (1 ≤ l ∧ l ≤ 200)) (by exact pz_bi_0 h9)
                      refine w_calle hc40 rfl rfl rfl ?_
                      first | exact lf_e (by rfl) | (exfalso; omega))))
       · first
         | (exfalso; first | omega | contradiction)
         | (have hc41 : pz_R (pz_Sh L) 170 [.inr (.inl 2), .inl t] (iv) (.inr 2) (iv) := s_X10_needEvent_n t (by exact hE) (by exact h3)
            refine w_calle hc41 rfl (pz_cokI is_2 rfl) rfl ?_
            first | exact lf_e (by rfl) | (exfalso; omega)))
  · first
    | (exfalso; first | omega | contradiction)
    | (have hc42 : pz_R (pz_Sh L) 170 [.inr (.inl 2), .inl f] (iv) (.inr 2) (iv) := s_X10_needEvent_n f (by exact hE) (by exact h1)
       refine w_calle hc42 rfl (pz_cokI is_2 rfl) rfl ?_
       first | exact lf_e (by rfl) | (exfalso; omega))

theorem s_X10_addSpan_2 {L : Nat} {iv : Nat → Nat → Int} (f : Int) (t : Int) (l : Int) (g : Int) {k : Nat → Int} (hk : q_KR k) (hE : q_cE k (iv 3)) (hB : q_cB k (iv 4) (iv 5) (iv 6) (iv 7) (iv 8) (iv 9)) (hS : q_cS k (iv 10) (iv 11) (iv 12) (iv 13) (iv 14)) (hC : q_cC k (iv 15) (iv 16)) (hA : q_cA k (iv 17) (iv 18) (iv 19) (iv 20)) (hO : q_cO k (iv 22) (iv 23) (iv 24)) (hL : q_cL k (iv 25)) (hP : q_cP k (iv 27)) (hcase0 : 0 ≤ f ∧ f ≤ k 0 - 1 ∧ 0 ≤ t ∧ t ≤ k 0 - 1) (hcase1 : ¬ (f < t ∧ 1 ≤ l ∧ l ≤ 200 ∧ l ≤ g ∧ g ≤ 200)) : pz_R (pz_Sh L) 126 [.inr (.inl 2), .inl f, .inl t, .inl l, .inl g] iv (.inr 1) iv := by
  intro dv cc ss
  have hk0 := hk.r0
  have hE0 := hE
  have hB0 := hB.1
  have hS0 := hS.1
  have hC0 := hC.1
  have hA0 := hA.1
  show pz_G 126 0 [some (.inr (.inl 2)), some (.inl f), some (.inl t), some (.inl l), some (.inl g), none] [] (pz_Sh L, iv, dv, cc, ss) (pz_P (pz_Sh L) (.inr 1) iv dv cc ss)
  refine pz_G_of pz_b126_0 ?_
  refine w_loc rfl ?_
  refine w_loc rfl ?_
  by_cases h1 : 0 ≤ f ∧ f < k 0
  · first
    | (exfalso; first | omega | contradiction)
    | (have hc2 : pz_R (pz_Sh L) 170 [.inr (.inl 2), .inl f] (iv) (.inl none) (iv) := s_X10_needEvent_y f (by exact hE) (by exact h1)
       refine w_callv hc2 rfl (pz_cokI is_2 rfl) ?_
       refine w_loc rfl ?_
       refine w_loc rfl ?_
       by_cases h3 : 0 ≤ t ∧ t < k 0
       · first
         | (exfalso; first | omega | contradiction)
         | (have hc4 : pz_R (pz_Sh L) 170 [.inr (.inl 2), .inl t] (iv) (.inl none) (iv) := s_X10_needEvent_y t (by exact hE) (by exact h3)
            refine w_callv hc4 rfl (pz_cokI is_2 rfl) ?_
            refine w_loc rfl ?_
            refine w_loc rfl ?_
            refine w_ile (fun h5 => ?_) (fun h5 => ?_)
            · first
              | (exfalso; first | omega | contradiction)
              | (refine pz_G_of pz_b126_19 ?_
                 refine w_pure rfl ?_
                 refine w_nil ?_
                 refine pz_G_of pz_b126_20 ?_
                 have hc6 : pz_R (pz_Sh L) 172 [.inl 0] (iv) (.inr 1) (iv) := s_X10_needRange_n 0 (by omega)
                 refine w_calle hc6 rfl rfl rfl ?_
                 first | exact lf_e (by rfl) | (exfalso; omega))
            · first
              | (exfalso; first | omega | contradiction)
              | (refine w_pure rfl ?_
                 refine w_goto ?_
                 refine pz_G_of pz_b126_20 ?_
                 have hc7 : pz_R (pz_Sh L) 172 [.inl 1] (iv) (.inl none) (iv) := s_X10_needRange_y 1 (by omega)
                 refine w_callv hc7 rfl rfl ?_
                 refine w_loc rfl ?_
                 refine w_pure rfl ?_
                 refine w_pure rfl ?_
                 have hc8 : pz_R (pz_Sh L) 185 [.inl l, .inl 1, .inl 200] (iv) (.inl (some (.inl (pz_bi (1 ≤ l ∧ l ≤ 200))))) (iv) := s_X10_isWithin l 1 200
                 refine w_call hc8 rfl rfl ?_
                 by_cases h9 : 1 ≤ l ∧ l ≤ 200
                 · first
                   | (exfalso; first | omega | contradiction)
                   | (have hc10 : pz_R (pz_Sh L) 172 [.inl (pz_bi (1 ≤ l ∧ l ≤ 200))] (iv) (.inl none) (iv) := s_X10_needRange_y (pz_bi (1 ≤ l ∧ l ≤ 200)) (by exact pz_bi_p1 h9)
                      refine w_callv hc10 rfl rfl ?_
                      refine w_loc rfl ?_
                      refine w_loc rfl ?_
                      refine w_pure rfl ?_
                      have hc11 : pz_R (pz_Sh L) 185 [.inl g, .inl l, .inl 200] (iv) (.inl (some (.inl (pz_bi (l ≤ g ∧ g ≤ 200))))) (iv) := s_X10_isWithin g l 200
                      refine w_call hc11 rfl rfl ?_
                      by_cases h12 : l ≤ g ∧ g ≤ 200
                      · first
                        | (exfalso; first | omega | contradiction)
                        | (have hc13 : pz_R (pz_Sh L) 172 [.inl (pz_bi (l ≤ g ∧ g ≤ 200))] (iv) (.inl none) (iv) := s_X10_needRange_y (pz_bi (l ≤ g ∧ g ≤ 200)) (by exact pz_bi_p1 h12)
                           refine w_callv hc13 rfl rfl ?_
                           refine w_loc rfl ?_
                           refine w_getR (q := 3) is_2 rf_2_0 ?_
                           refine w_getR (q := 10) is_3 rf_3_2 ?_
                           refine w_getI (v := (iv 10) 0) is_10 (by decide) rfl ?_
                           refine w_pure rfl ?_
                           refine w_ige (fun h14 => ?_) (fun h14 => ?_)
                           · first
                             | (exfalso; first | omega | contradiction)
                             | (refine pz_G_of pz_b126_64 ?_
                                refine w_pure rfl ?_
                                refine w_nil ?_
                                refine pz_G_of pz_b126_65 ?_
                                have hc15 : pz_R (pz_Sh L) 173 [.inl 0] (iv) (.inr 0) (iv) := s_X10_needState_n 0 (by omega)
                                refine w_calle hc15 rfl rfl rfl ?_
                                first | exact lf_e (by rfl) | (exfalso; omega))
                           · first
                             | (exfalso; first | omega | contradiction)
                             | (refine w_pure rfl ?_
                                refine w_goto ?_
                                refine pz_G_of pz_b126_65 ?_
                                have hc16 : pz_R (pz_Sh L) 173 [.inl 1] (iv) (.inl none) (iv) := s_X10_needState_y 1 (by omega)
                                refine w_callv hc16 rfl rfl ?_
                                refine w_loc rfl ?_
                                refine w_getR (q := 3) is_2 rf_2_0 ?_
                                refine w_getR (q := 10) is_3 rf_3_2 ?_
                                refine w_loc rfl ?_
                                have hc17 : pz_R (pz_Sh L) 115 [.inr (.inl 10), .inl t] (iv) (.inl (some (.inl (q_we k t)))) (iv) := s_X9_withEnd t (by exact hk) (by exact hS)
                                refine w_call hc17 rfl (pz_cokI is_10 rfl) ?_
                                refine w_pure rfl ?_
                                refine w_ine (fun h18 => ?_) (fun h18 => ?_)
                                · first
                                  | (exfalso; first | omega | contradiction)
                                  | (refine pz_G_of pz_b126_87 ?_
                                     refine w_pure rfl ?_
                                     refine w_nil ?_
                                     refine pz_G_of pz_b126_88 ?_
                                     have hc19 : pz_R (pz_Sh L) 173 [.inl 0] (iv) (.inr 0) (iv) := s_X10_needState_n 0 (by omega)
                                     refine w_calle hc19 rfl rfl rfl ?_
                                     first | exact lf_e (by rfl) | (exfalso; omega))
                                · first
                                  | (exfalso; first | omega | contradiction)
                                  | (refine w_pure rfl ?_
                                     refine w_goto ?_
                                     refine pz_G_of pz_b126_88 ?_
                                     have hc20 : pz_R (pz_Sh L) 173 [.inl 1] (iv) (.inl none) (iv) := s_X10_needState_y 1 (by omega)
                                     refine w_callv hc20 rfl rfl ?_
                                     refine w_loc rfl ?_
                                     refine w_zeq (fun h21 => ?_) (fun h21 => ?_)
                                     · first
                                       | (exfalso; first | omega | contradiction)
                                       | (refine pz_G_of pz_b126_109 ?_
                                          refine w_pure rfl ?_
                                          refine w_goto ?_
                                          refine pz_G_of pz_b126_114 ?_
                                          have hc22 : pz_R (pz_Sh L) 173 [.inl 1] (iv) (.inl none) (iv) := s_X10_needState_y 1 (by omega)
                                          refine w_callv hc22 rfl rfl ?_
                                          refine w_loc rfl ?_
                                          refine w_getR (q := 3) is_2 rf_2_0 ?_
                                          refine w_getR (q := 15) is_3 rf_3_3 ?_
                                          refine w_loc rfl ?_
                                          have hc23 : pz_R (pz_Sh L) 26 [.inr (.inl 15), .inl t] (iv) (.inl (some (.inl (pz_bi (q_sta k t))))) (iv) := s_X2_hasStarted_15 t (by exact hk) (by exact hC) (by omega)
                                          refine w_call hc23 rfl (pz_cokI is_15 rfl) ?_
                                          refine w_bne (fun h24 => ?_) (fun h24 => ?_)
                                          · first
                                            | (exfalso; first | omega | contradiction)
                                            | (refine pz_G_of pz_b126_135 ?_
                                               refine w_pure rfl ?_
                                               refine w_nil ?_
                                               refine pz_G_of pz_b126_136 ?_
                                               have hc25 : pz_R (pz_Sh L) 173 [.inl 0] (iv) (.inr 0) (iv) := s_X10_needState_n 0 (by omega)
                                               refine w_calle hc25 rfl rfl rfl ?_
                                               first | exact lf_e (by rfl) | (exfalso; omega))
                                          · first
                                            | (exfalso; first | omega | contradiction)
                                            | (refine w_pure rfl ?_
                                               refine w_goto ?_
                                               refine pz_G_of pz_b126_136 ?_
                                               have hc26 : pz_R (pz_Sh L) 173 [.inl 1] (iv) (.inl none) (iv) := s_X10_needState_y 1 (by omega)
                                               refine w_callv hc26 rfl rfl ?_
                                               refine w_loc rfl ?_
                                               refine w_getR (q := 3) is_2 rf_2_0 ?_
                                               refine w_getR (q := 10) is_3 rf_3_2 ?_
                                               refine w_loc rfl ?_
                                               refine w_loc rfl ?_
                                               refine w_loc rfl ?_
                                               refine w_loc rfl ?_
                                               have hc27 : pz_R (pz_Sh L) 109 [.inr (.inl 10), .inl f, .inl t, .inl l, .inl g] (iv) (.inl (some (.inl (k 2)))) (pz_u1 (pz_u1 (pz_u1 (pz_u1 (pz_u1 iv 10 (pz_up (iv 10) 0 (k 2 + 1))) 11 (pz_up (iv 11) (k 2).toNat f)) 12 (pz_up (iv 12) (k 2).toNat t)) 13 (pz_up (iv 13) (k 2).toNat l)) 14 (pz_up (iv 14) (k 2).toNat g)) := pz_R_mem (s_X9_add f t l g (by exact hk) (by exact hS) (by omega)) (by rw [pz_u1_top (r := 10)]; rw [pz_u1_top (r := 11)]; rw [pz_u1_top (r := 12)]; rw [pz_u1_top (r := 13)]; rw [pz_u1_top (r := 14)]; rfl)
                                               refine w_call hc27 rfl (pz_cokI is_10 rfl) ?_
                                               refine w_loc (ls' := [some (.inr (.inl 2)), some (.inl f), some (.inl t), some (.inl l), some (.inl g), some (.inl (k 2))]) (st' := []) rfl ?_
                                               refine w_loc rfl ?_
                                               have hc28 : pz_R (pz_Sh L) 178 [.inr (.inl 2)] (pz_u1 (pz_u1 (pz_u1 (pz_u1 (pz_u1 iv 10 (pz_up (iv 10) 0 (k 2 + 1))) 11 (pz_up (iv 11) (k 2).toNat f)) 12 (pz_up (iv 12) (k 2).toNat t)) 13 (pz_up (iv 13) (k 2).toNat l)) 14 (pz_up (iv 14) (k 2).toNat g)) (.inl none) (pz_u1 (pz_u1 (pz_u1 (pz_u1 (pz_u1 (pz_u1 iv 2 (pz_up (pz_up (pz_up (iv 2) 7 0) 8 0) 9 0)) 10 (pz_up (iv 10) 0 (k 2 + 1))) 11 (pz_up (iv 11) (k 2).toNat f)) 12 (pz_up (iv 12) (k 2).toNat t)) 13 (pz_up (iv 13) (k 2).toNat l)) 14 (pz_up (iv 14) (k 2).toNat g)) := pz_R_mem (s_X10_forget) (by rw [pz_u1_in (r := 2) (q := 14) (by decide)]; rw [pz_u1_in (r := 2) (q := 13) (by decide)]; rw [pz_u1_in (r := 2) (q := 12) (by decide)]; rw [pz_u1_in (r := 2) (q := 11) (by decide)]; rw [pz_u1_in (r := 2) (q := 10) (by decide)]; rw [pz_u1_top (r := 2)]; rfl)
                                               refine w_callv hc28 rfl (pz_cokI is_2 rfl) ?_
                                               refine w_loc rfl ?_
                                               refine w_ret rfl ?_
                                               first | exact lf_i (by first | rfl | omega) (by rfl) | (exfalso; omega)))
                                     · first
                                       | (exfalso; first | omega | contradiction)
                                       | (refine w_loc rfl ?_
                                          refine w_getR (q := 3) is_2 rf_2_0 ?_
                                          refine w_getR (q := 15) is_3 rf_3_3 ?_
                                          refine w_loc rfl ?_
                                          have hc29 : pz_R (pz_Sh L) 26 [.inr (.inl 15), .inl f] (iv) (.inl (some (.inl (pz_bi (q_sta k f))))) (iv) := s_X2_hasStarted_15 f (by exact hk) (by exact hC) (by omega)
                                          refine w_call hc29 rfl (pz_cokI is_15 rfl) ?_
                                          refine w_bne (fun h30 => ?_) (fun h30 => ?_)
                                          · first
                                            | (exfalso; first | omega | contradiction)
                                            | (refine pz_G_of pz_b126_113 ?_
                                               refine w_pure rfl ?_
                                               refine w_nil ?_
                                               refine pz_G_of pz_b126_114 ?_
                                               have hc31 : pz_R (pz_Sh L) 173 [.inl 0] (iv) (.inr 0) (iv) := s_X10_needState_n 0 (by omega)
                                               refine w_calle hc31 rfl rfl rfl ?_
                                               first | exact lf_e (by rfl) | (exfalso; omega))
                                          · first
                                            | (exfalso; first | omega | contradiction)
                                            | (refine w_nil ?_
                                               refine pz_G_of pz_b126_109 ?_
                                               refine w_pure rfl ?_
                                               refine w_goto ?_
                                               refine pz_G_of pz_b126_114 ?_
                                               have hc32 : pz_R (pz_Sh L) 173 [.inl 1] (iv) (.inl none) (iv) := s_X10_needState_y 1 (by omega)
                                               refine w_callv hc32 rfl rfl ?_
                                               refine w_loc rfl ?_
                                               refine w_getR (q := 3) is_2 rf_2_0 ?_
                                               refine w_getR (q := 15) is_3 rf_3_3 ?_
                                               refine w_loc rfl ?_
                                               have hc33 : pz_R (pz_Sh L) 26 [.inr (.inl 15), .inl t] (iv) (.inl (some (.inl (pz_bi (q_sta k t))))) (iv) := s_X2_hasStarted_15 t (by exact hk) (by exact hC) (by omega)
                                               refine w_call hc33 rfl (pz_cokI is_15 rfl) ?_
                                               refine w_bne (fun h34 => ?_) (fun h34 => ?_)
                                               · first
                                                 | (exfalso; first | omega | contradiction)
                                                 | (refine pz_G_of pz_b126_135 ?_
                                                    refine w_pure rfl ?_
                                                    refine w_nil ?_
                                                    refine pz_G_of pz_b126_136 ?_
                                                    have hc35 : pz_R (pz_Sh L) 173 [.inl 0] (iv) (.inr 0) (iv) := s_X10_needState_n 0 (by omega)
                                                    refine w_calle hc35 rfl rfl rfl ?_
                                                    first | exact lf_e (by rfl) | (exfalso; omega))
                                               · first
                                                 | (exfalso; first | omega | contradiction)
                                                 | (refine w_pure rfl ?_
                                                    refine w_goto ?_
                                                    refine pz_G_of pz_b126_136 ?_
                                                    have hc36 : pz_R (pz_Sh L) 173 [.inl 1] (iv) (.inl none) (iv) := s_X10_needState_y 1 (by omega)
                                                    refine w_callv hc36 rfl rfl ?_
                                                    refine w_loc rfl ?_
                                                    refine w_getR (q := 3) is_2 rf_2_0 ?_
                                                    refine w_getR (q := 10) is_3 rf_3_2 ?_
                                                    refine w_loc rfl ?_
                                                    refine w_loc rfl ?_
                                                    refine w_loc rfl ?_
                                                    refine w_loc rfl ?_
                                                    have hc37 : pz_R (pz_Sh L) 109 [.inr (.inl 10), .inl f, .inl t, .inl l, .inl g] (iv) (.inl (some (.inl (k 2)))) (pz_u1 (pz_u1 (pz_u1 (pz_u1 (pz_u1 iv 10 (pz_up (iv 10) 0 (k 2 + 1))) 11 (pz_up (iv 11) (k 2).toNat f)) 12 (pz_up (iv 12) (k 2).toNat t)) 13 (pz_up (iv 13) (k 2).toNat l)) 14 (pz_up (iv 14) (k 2).toNat g)) := pz_R_mem (s_X9_add f t l g (by exact hk) (by exact hS) (by omega)) (by rw [pz_u1_top (r := 10)]; rw [pz_u1_top (r := 11)]; rw [pz_u1_top (r := 12)]; rw [pz_u1_top (r := 13)]; rw [pz_u1_top (r := 14)]; rfl)
                                                    refine w_call hc37 rfl (pz_cokI is_10 rfl) ?_
                                                    refine w_loc (ls' := [some (.inr (.inl 2)), some (.inl f), some (.inl t), some (.inl l), some (.inl g), some (.inl (k 2))]) (st' := []) rfl ?_
                                                    refine w_loc rfl ?_
                                                    have hc38 : pz_R (pz_Sh L) 178 [.inr (.inl 2)] (pz_u1 (pz_u1 (pz_u1 (pz_u1 (pz_u1 iv 10 (pz_up (iv 10) 0 (k 2 + 1))) 11 (pz_up (iv 11) (k 2).toNat f)) 12 (pz_up (iv 12) (k 2).toNat t)) 13 (pz_up (iv 13) (k 2).toNat l)) 14 (pz_up (iv 14) (k 2).toNat g)) (.inl none) (pz_u1 (pz_u1 (pz_u1 (pz_u1 (pz_u1 (pz_u1 iv 2 (pz_up (pz_up (pz_up (iv 2) 7 0) 8 0) 9 0)) 10 (pz_up (iv 10) 0 (k 2 + 1))) 11 (pz_up (iv 11) (k 2).toNat f)) 12 (pz_up (iv 12) (k 2).toNat t)) 13 (pz_up (iv 13) (k 2).toNat l)) 14 (pz_up (iv 14) (k 2).toNat g)) := pz_R_mem (s_X10_forget) (by rw [pz_u1_in (r := 2) (q := 14) (by decide)]; rw [pz_u1_in (r := 2) (q := 13) (by decide)]; rw [pz_u1_in (r := 2) (q := 12) (by decide)]; rw [pz_u1_in (r := 2) (q := 11) (by decide)]; rw [pz_u1_in (r := 2) (q := 10) (by decide)]; rw [pz_u1_top (r := 2)]; rfl)
                                                    refine w_callv hc38 rfl (pz_cokI is_2 rfl) ?_
                                                    refine w_loc rfl ?_
                                                    refine w_ret rfl ?_
                                                    first | exact lf_i (by first | rfl | omega) (by rfl) | (exfalso; omega)))))))
                      · first
                        | (exfalso; first | omega | contradiction)
                        | (have hc39 : pz_R (pz_Sh L) 172 [.inl (pz_bi (l ≤ g ∧ g ≤ 200))] (iv) (.inr 1) (iv) := s_X10_needRange_n (pz_bi (l ≤ g ∧ g ≤ 200)) (by exact pz_bi_0 h12)
                           refine w_calle hc39 rfl rfl rfl ?_
                           first | exact lf_e (by rfl) | (exfalso; omega)))
                 · first
                   | (exfalso; first | omega | contradiction)
                   | (have hc40 : pz_R (pz_Sh L) 172 [.inl (pz_bi (1 ≤ l ∧ l ≤ 200))] (iv) (.inr 1) (iv) := s_X10_needRange_n (pz_bi (1 ≤ l ∧ l ≤ 200)) (by exact pz_bi_0 h9)
                      refine w_calle hc40 rfl rfl rfl ?_
                      first | exact lf_e (by rfl) | (exfalso; omega))))
       · first
         | (exfalso; first | omega | contradiction)
         | (have hc41 : pz_R (pz_Sh L) 170 [.inr (.inl 2), .inl t] (iv) (.inr 2) (iv) := s_X10_needEvent_n t (by exact hE) (by exact h3)
            refine w_calle hc41 rfl (pz_cokI is_2 rfl) rfl ?_
            first | exact lf_e (by rfl) | (exfalso; omega)))
  · first
    | (exfalso; first | omega | contradiction)
    | (have hc42 : pz_R (pz_Sh L) 170 [.inr (.inl 2), .inl f] (iv) (.inr 2) (iv) := s_X10_needEvent_n f (by exact hE) (by exact h1)
       refine w_calle hc42 rfl (pz_cokI is_2 rfl) rfl ?_
       first | exact lf_e (by rfl) | (exfalso; omega))

theorem s_X10_addSpan_3a {L : Nat} {iv : Nat → Nat → Int} (f : Int) (t : Int) (l : Int) (g : Int) {k : Nat → Int} (hk : q_KR k) (hE : q_cE k (iv 3)) (hB : q_cB k (iv 4) (iv 5) (iv 6) (iv 7) (iv 8) (iv 9)) (hS : q_cS k (iv 10) (iv 11) (iv 12) (iv 13) (iv 14)) (hC : q_cC k (iv 15) (iv 16)) (hA : q_cA k (iv 17) (iv 18) (iv 19) (iv 20)) (hO : q_cO k (iv 22) (iv 23) (iv 24)) (hL : q_cL k (iv 25)) (hP : q_cP k (iv 27)) (hcase0 : 0 ≤ f ∧ f ≤ k 0 - 1 ∧ 0 ≤ t ∧ t ≤ k 0 - 1) (hcase1 : f < t ∧ 1 ≤ l ∧ l ≤ 200 ∧ l ≤ g ∧ g ≤ 200) (hcase2 : k 2 = 3) : pz_R (pz_Sh L) 126 [.inr (.inl 2), .inl f, .inl t, .inl l, .inl g] iv (.inr 0) iv := by
  intro dv cc ss
  have hk0 := hk.r0
  have hE0 := hE
  have hB0 := hB.1
  have hS0 := hS.1
  have hC0 := hC.1
  have hA0 := hA.1
  show pz_G 126 0 [some (.inr (.inl 2)), some (.inl f), some (.inl t), some (.inl l), some (.inl g), none] [] (pz_Sh L, iv, dv, cc, ss) (pz_P (pz_Sh L) (.inr 0) iv dv cc ss)
  refine pz_G_of pz_b126_0 ?_
  refine w_loc rfl ?_
  refine w_loc rfl ?_
  by_cases h1 : 0 ≤ f ∧ f < k 0
  · first
    | (exfalso; first | omega | contradiction)
    | (have hc2 : pz_R (pz_Sh L) 170 [.inr (.inl 2), .inl f] (iv) (.inl none) (iv) := s_X10_needEvent_y f (by exact hE) (by exact h1)
       refine w_callv hc2 rfl (pz_cokI is_2 rfl) ?_
       refine w_loc rfl ?_
       refine w_loc rfl ?_
       by_cases h3 : 0 ≤ t ∧ t < k 0
       · first
         | (exfalso; first | omega | contradiction)
         | (have hc4 : pz_R (pz_Sh L) 170 [.inr (.inl 2), .inl t] (iv) (.inl none) (iv) := s_X10_needEvent_y t (by exact hE) (by exact h3)
            refine w_callv hc4 rfl (pz_cokI is_2 rfl) ?_
            refine w_loc rfl ?_
            refine w_loc rfl ?_
            refine w_ile (fun h5 => ?_) (fun h5 => ?_)
            · first
              | (exfalso; first | omega | contradiction)
              | (refine pz_G_of pz_b126_19 ?_
                 refine w_pure rfl ?_
                 refine w_nil ?_
                 refine pz_G_of pz_b126_20 ?_
                 have hc6 : pz_R (pz_Sh L) 172 [.inl 0] (iv) (.inr 1) (iv) := s_X10_needRange_n 0 (by omega)
                 refine w_calle hc6 rfl rfl rfl ?_
                 first | exact lf_e (by rfl) | (exfalso; omega))
            · first
              | (exfalso; first | omega | contradiction)
              | (refine w_pure rfl ?_
                 refine w_goto ?_
                 refine pz_G_of pz_b126_20 ?_
                 have hc7 : pz_R (pz_Sh L) 172 [.inl 1] (iv) (.inl none) (iv) := s_X10_needRange_y 1 (by omega)
                 refine w_callv hc7 rfl rfl ?_
                 refine w_loc rfl ?_
                 refine w_pure rfl ?_
                 refine w_pure rfl ?_
                 have hc8 : pz_R (pz_Sh L) 185 [.inl l, .inl 1, .inl 200] (iv) (.inl (some (.inl (pz_bi (1 ≤ l ∧ l ≤ 200))))) (iv) := s_X10_isWithin l 1 200
                 refine w_call hc8 rfl rfl ?_
                 by_cases h9 : 1 ≤ l ∧ l ≤ 200
                 · first
                   | (exfalso; first | omega | contradiction)
                   | (have hc10 : pz_R (pz_Sh L) 172 [.inl (pz_bi (1 ≤ l ∧ l ≤ 200))] (iv) (.inl none) (iv) := s_X10_needRange_y (pz_bi (1 ≤ l ∧ l ≤ 200)) (by exact pz_bi_p1 h9)
                      refine w_callv hc10 rfl rfl ?_
                      refine w_loc rfl ?_
                      refine w_loc rfl ?_
                      refine w_pure rfl ?_
                      have hc11 : pz_R (pz_Sh L) 185 [.inl g, .inl l, .inl 200] (iv) (.inl (some (.inl (pz_bi (l ≤ g ∧ g ≤ 200))))) (iv) := s_X10_isWithin g l 200
                      refine w_call hc11 rfl rfl ?_
                      by_cases h12 : l ≤ g ∧ g ≤ 200
                      · first
                        | (exfalso; first | omega | contradiction)
                        | (have hc13 : pz_R (pz_Sh L) 172 [.inl (pz_bi (l ≤ g ∧ g ≤ 200))] (iv) (.inl none) (iv) := s_X10_needRange_y (pz_bi (l ≤ g ∧ g ≤ 200)) (by exact pz_bi_p1 h12)
                           refine w_callv hc13 rfl rfl ?_
                           refine w_loc rfl ?_
                           refine w_getR (q := 3) is_2 rf_2_0 ?_
                           refine w_getR (q := 10) is_3 rf_3_2 ?_
                           refine w_getI (v := (iv 10) 0) is_10 (by decide) rfl ?_
                           refine w_pure rfl ?_
                           refine w_ige (fun h14 => ?_) (fun h14 => ?_)
                           · first
                             | (exfalso; first | omega | contradiction)
                             | (refine pz_G_of pz_b126_64 ?_
                                refine w_pure rfl ?_
                                refine w_nil ?_
                                refine pz_G_of pz_b126_65 ?_
                                have hc15 : pz_R (pz_Sh L) 173 [.inl 0] (iv) (.inr 0) (iv) := s_X10_needState_n 0 (by omega)
                                refine w_calle hc15 rfl rfl rfl ?_
                                first | exact lf_e (by rfl) | (exfalso; omega))
                           · first
                             | (exfalso; first | omega | contradiction)
                             | (refine w_pure rfl ?_
                                refine w_goto ?_
                                refine pz_G_of pz_b126_65 ?_
                                have hc16 : pz_R (pz_Sh L) 173 [.inl 1] (iv) (.inl none) (iv) := s_X10_needState_y 1 (by omega)
                                refine w_callv hc16 rfl rfl ?_
                                refine w_loc rfl ?_
                                refine w_getR (q := 3) is_2 rf_2_0 ?_
                                refine w_getR (q := 10) is_3 rf_3_2 ?_
                                refine w_loc rfl ?_
                                have hc17 : pz_R (pz_Sh L) 115 [.inr (.inl 10), .inl t] (iv) (.inl (some (.inl (q_we k t)))) (iv) := s_X9_withEnd t (by exact hk) (by exact hS)
                                refine w_call hc17 rfl (pz_cokI is_10 rfl) ?_
                                refine w_pure rfl ?_
                                refine w_ine (fun h18 => ?_) (fun h18 => ?_)
                                · first
                                  | (exfalso; first | omega | contradiction)
                                  | (refine pz_G_of pz_b126_87 ?_
                                     refine w_pure rfl ?_
                                     refine w_nil ?_
                                     refine pz_G_of pz_b126_88 ?_
                                     have hc19 : pz_R (pz_Sh L) 173 [.inl 0] (iv) (.inr 0) (iv) := s_X10_needState_n 0 (by omega)
                                     refine w_calle hc19 rfl rfl rfl ?_
                                     first | exact lf_e (by rfl) | (exfalso; omega))
                                · first
                                  | (exfalso; first | omega | contradiction)
                                  | (refine w_pure rfl ?_
                                     refine w_goto ?_
                                     refine pz_G_of pz_b126_88 ?_
                                     have hc20 : pz_R (pz_Sh L) 173 [.inl 1] (iv) (.inl none) (iv) := s_X10_needState_y 1 (by omega)
                                     refine w_callv hc20 rfl rfl ?_
                                     refine w_loc rfl ?_
                                     refine w_zeq (fun h21 => ?_) (fun h21 => ?_)
                                     · first
                                       | (exfalso; first | omega | contradiction)
                                       | (refine pz_G_of pz_b126_109 ?_
                                          refine w_pure rfl ?_
                                          refine w_goto ?_
                                          refine pz_G_of pz_b126_114 ?_
                                          have hc22 : pz_R (pz_Sh L) 173 [.inl 1] (iv) (.inl none) (iv) := s_X10_needState_y 1 (by omega)
                                          refine w_callv hc22 rfl rfl ?_
                                          refine w_loc rfl ?_
                                          refine w_getR (q := 3) is_2 rf_2_0 ?_
                                          refine w_getR (q := 15) is_3 rf_3_3 ?_
                                          refine w_loc rfl ?_
                                          have hc23 : pz_R (pz_Sh L) 26 [.inr (.inl 15), .inl t] (iv) (.inl (some (.inl (pz_bi (q_sta k t))))) (iv) := s_X2_hasStarted_15 t (by exact hk) (by exact hC) (by omega)
                                          refine w_call hc23 rfl (pz_cokI is_15 rfl) ?_
                                          refine w_bne (fun h24 => ?_) (fun h24 => ?_)
                                          · first
                                            | (exfalso; first | omega | contradiction)
                                            | (refine pz_G_of pz_b126_135 ?_
                                               refine w_pure rfl ?_
                                               refine w_nil ?_
                                               refine pz_G_of pz_b126_136 ?_
                                               have hc25 : pz_R (pz_Sh L) 173 [.inl 0] (iv) (.inr 0) (iv) := s_X10_needState_n 0 (by omega)
                                               refine w_calle hc25 rfl rfl rfl ?_
                                               first | exact lf_e (by rfl) | (exfalso; omega))
                                          · first
                                            | (exfalso; first | omega | contradiction)
                                            | (refine w_pure rfl ?_
                                               refine w_goto ?_
                                               refine pz_G_of pz_b126_136 ?_
                                               have hc26 : pz_R (pz_Sh L) 173 [.inl 1] (iv) (.inl none) (iv) := s_X10_needState_y 1 (by omega)
                                               refine w_callv hc26 rfl rfl ?_
                                               refine w_loc rfl ?_
                                               refine w_getR (q := 3) is_2 rf_2_0 ?_
                                               refine w_getR (q := 10) is_3 rf_3_2 ?_
                                               refine w_loc rfl ?_
                                               refine w_loc rfl ?_
                                               refine w_loc rfl ?_
                                               refine w_loc rfl ?_
                                               have hc27 : pz_R (pz_Sh L) 109 [.inr (.inl 10), .inl f, .inl t, .inl l, .inl g] (iv) (.inl (some (.inl (k 2)))) (pz_u1 (pz_u1 (pz_u1 (pz_u1 (pz_u1 iv 10 (pz_up (iv 10) 0 (k 2 + 1))) 11 (pz_up (iv 11) (k 2).toNat f)) 12 (pz_up (iv 12) (k 2).toNat t)) 13 (pz_up (iv 13) (k 2).toNat l)) 14 (pz_up (iv 14) (k 2).toNat g)) := pz_R_mem (s_X9_add f t l g (by exact hk) (by exact hS) (by omega)) (by rw [pz_u1_top (r := 10)]; rw [pz_u1_top (r := 11)]; rw [pz_u1_top (r := 12)]; rw [pz_u1_top (r := 13)]; rw [pz_u1_top (r := 14)]; rfl)
                                               refine w_call hc27 rfl (pz_cokI is_10 rfl) ?_
                                               refine w_loc (ls' := [some (.inr (.inl 2)), some (.inl f), some (.inl t), some (.inl l), some (.inl g), some (.inl (k 2))]) (st' := []) rfl ?_
                                               refine w_loc rfl ?_
                                               have hc28 : pz_R (pz_Sh L) 178 [.inr (.inl 2)] (pz_u1 (pz_u1 (pz_u1 (pz_u1 (pz_u1 iv 10 (pz_up (iv 10) 0 (k 2 + 1))) 11 (pz_up (iv 11) (k 2).toNat f)) 12 (pz_up (iv 12) (k 2).toNat t)) 13 (pz_up (iv 13) (k 2).toNat l)) 14 (pz_up (iv 14) (k 2).toNat g)) (.inl none) (pz_u1 (pz_u1 (pz_u1 (pz_u1 (pz_u1 (pz_u1 iv 2 (pz_up (pz_up (pz_up (iv 2) 7 0) 8 0) 9 0)) 10 (pz_up (iv 10) 0 (k 2 + 1))) 11 (pz_up (iv 11) (k 2).toNat f)) 12 (pz_up (iv 12) (k 2).toNat t)) 13 (pz_up (iv 13) (k 2).toNat l)) 14 (pz_up (iv 14) (k 2).toNat g)) := pz_R_mem (s_X10_forget) (by rw [pz_u1_in (r := 2) (q := 14) (by decide)]; rw [pz_u1_in (r := 2) (q := 13) (by decide)]; rw [pz_u1_in (r := 2) (q := 12) (by decide)]; rw [pz_u1_in (r := 2) (q := 11) (by decide)]; rw [pz_u1_in (r := 2) (q := 10) (by decide)]; rw [pz_u1_top (r := 2)]; rfl)
                                               refine w_callv hc28 rfl (pz_cokI is_2 rfl) ?_
                                               refine w_loc rfl ?_
                                               refine w_ret rfl ?_
                                               first | exact lf_i (by first | rfl | omega) (by rfl) | (exfalso; omega)))
                                     · first
                                       | (exfalso; first | omega | contradiction)
                                       | (refine w_loc rfl ?_
                                          refine w_getR (q := 3) is_2 rf_2_0 ?_
                                          refine w_getR (q := 15) is_3 rf_3_3 ?_
                                          refine w_loc rfl ?_
                                          have hc29 : pz_R (pz_Sh L) 26 [.inr (.inl 15), .inl f] (iv) (.inl (some (.inl (pz_bi (q_sta k f))))) (iv) := s_X2_hasStarted_15 f (by exact hk) (by exact hC) (by omega)
                                          refine w_call hc29 rfl (pz_cokI is_15 rfl) ?_
                                          refine w_bne (fun h30 => ?_) (fun h30 => ?_)
                                          · first
                                            | (exfalso; first | omega | contradiction)
                                            | (refine pz_G_of pz_b126_113 ?_
                                               refine w_pure rfl ?_
                                               refine w_nil ?_
                                               refine pz_G_of pz_b126_114 ?_
                                               have hc31 : pz_R (pz_Sh L) 173 [.inl 0] (iv) (.inr 0) (iv) := s_X10_needState_n 0 (by omega)
                                               refine w_calle hc31 rfl rfl rfl ?_
                                               first | exact lf_e (by rfl) | (exfalso; omega))
                                          · first
                                            | (exfalso; first | omega | contradiction)
                                            | (refine w_nil ?_
                                               refine pz_G_of pz_b126_109 ?_
                                               refine w_pure rfl ?_
                                               refine w_goto ?_
                                               refine pz_G_of pz_b126_114 ?_
                                               have hc32 : pz_R (pz_Sh L) 173 [.inl 1] (iv) (.inl none) (iv) := s_X10_needState_y 1 (by omega)
                                               refine w_callv hc32 rfl rfl ?_
                                               refine w_loc rfl ?_
                                               refine w_getR (q := 3) is_2 rf_2_0 ?_
                                               refine w_getR (q := 15) is_3 rf_3_3 ?_
                                               refine w_loc rfl ?_
                                               have hc33 : pz_R (pz_Sh L) 26 [.inr (.inl 15), .inl t] (iv) (.inl (some (.inl (pz_bi (q_sta k t))))) (iv) := s_X2_hasStarted_15 t (by exact hk) (by exact hC) (by omega)
                                               refine w_call hc33 rfl (pz_cokI is_15 rfl) ?_
                                               refine w_bne (fun h34 => ?_) (fun h34 => ?_)
                                               · first
                                                 | (exfalso; first | omega | contradiction)
                                                 | (refine pz_G_of pz_b126_135 ?_
                                                    refine w_pure rfl ?_
                                                    refine w_nil ?_
                                                    refine pz_G_of pz_b126_136 ?_
                                                    have hc35 : pz_R (pz_Sh L) 173 [.inl 0] (iv) (.inr 0) (iv) := s_X10_needState_n 0 (by omega)
                                                    refine w_calle hc35 rfl rfl rfl ?_
                                                    first | exact lf_e (by rfl) | (exfalso; omega))
                                               · first
                                                 | (exfalso; first | omega | contradiction)
                                                 | (refine w_pure rfl ?_
                                                    refine w_goto ?_
                                                    refine pz_G_of pz_b126_136 ?_
                                                    have hc36 : pz_R (pz_Sh L) 173 [.inl 1] (iv) (.inl none) (iv) := s_X10_needState_y 1 (by omega)
                                                    refine w_callv hc36 rfl rfl ?_
                                                    refine w_loc rfl ?_
                                                    refine w_getR (q := 3) is_2 rf_2_0 ?_
                                                    refine w_getR (q := 10) is_3 rf_3_2 ?_
                                                    refine w_loc rfl ?_
                                                    refine w_loc rfl ?_
                                                    refine w_loc rfl ?_
                                                    refine w_loc rfl ?_
                                                    have hc37 : pz_R (pz_Sh L) 109 [.inr (.inl 10), .inl f, .inl t, .inl l, .inl g] (iv) (.inl (some (.inl (k 2)))) (pz_u1 (pz_u1 (pz_u1 (pz_u1 (pz_u1 iv 10 (pz_up (iv 10) 0 (k 2 + 1))) 11 (pz_up (iv 11) (k 2).toNat f)) 12 (pz_up (iv 12) (k 2).toNat t)) 13 (pz_up (iv 13) (k 2).toNat l)) 14 (pz_up (iv 14) (k 2).toNat g)) := pz_R_mem (s_X9_add f t l g (by exact hk) (by exact hS) (by omega)) (by rw [pz_u1_top (r := 10)]; rw [pz_u1_top (r := 11)]; rw [pz_u1_top (r := 12)]; rw [pz_u1_top (r := 13)]; rw [pz_u1_top (r := 14)]; rfl)
                                                    refine w_call hc37 rfl (pz_cokI is_10 rfl) ?_
                                                    refine w_loc (ls' := [some (.inr (.inl 2)), some (.inl f), some (.inl t), some (.inl l), some (.inl g), some (.inl (k 2))]) (st' := []) rfl ?_
                                                    refine w_loc rfl ?_
                                                    have hc38 : pz_R (pz_Sh L) 178 [.inr (.inl 2)] (pz_u1 (pz_u1 (pz_u1 (pz_u1 (pz_u1 iv 10 (pz_up (iv 10) 0 (k 2 + 1))) 11 (pz_up (iv 11) (k 2).toNat f)) 12 (pz_up (iv 12) (k 2).toNat t)) 13 (pz_up (iv 13) (k 2).toNat l)) 14 (pz_up (iv 14) (k 2).toNat g)) (.inl none) (pz_u1 (pz_u1 (pz_u1 (pz_u1 (pz_u1 (pz_u1 iv 2 (pz_up (pz_up (pz_up (iv 2) 7 0) 8 0) 9 0)) 10 (pz_up (iv 10) 0 (k 2 + 1))) 11 (pz_up (iv 11) (k 2).toNat f)) 12 (pz_up (iv 12) (k 2).toNat t)) 13 (pz_up (iv 13) (k 2).toNat l)) 14 (pz_up (iv 14) (k 2).toNat g)) := pz_R_mem (s_X10_forget) (by rw [pz_u1_in (r := 2) (q := 14) (by decide)]; rw [pz_u1_in (r := 2) (q := 13) (by decide)]; rw [pz_u1_in (r := 2) (q := 12) (by decide)]; rw [pz_u1_in (r := 2) (q := 11) (by decide)]; rw [pz_u1_in (r := 2) (q := 10) (by decide)]; rw [pz_u1_top (r := 2)]; rfl)
                                                    refine w_callv hc38 rfl (pz_cokI is_2 rfl) ?_
                                                    refine w_loc rfl ?_
                                                    refine w_ret rfl ?_
                                                    first | exact lf_i (by first | rfl | omega) (by rfl) | (exfalso; omega)))))))
                      · first
                        | (exfalso; first | omega | contradiction)
                        | (have hc39 : pz_R (pz_Sh L) 172 [.inl (pz_bi (l ≤ g ∧ g ≤ 200))] (iv) (.inr 1) (iv) := s_X10_needRange_n (pz_bi (l ≤ g ∧ g ≤ 200)) (by exact pz_bi_0 h12)
                           refine w_calle hc39 rfl rfl rfl ?_
                           first | exact lf_e (by rfl) | (exfalso; omega)))
                 · first
                   | (exfalso; first | omega | contradiction)
                   | (have hc40 : pz_R (pz_Sh L) 172 [.inl (pz_bi (1 ≤ l ∧ l ≤ 200))] (iv) (.inr 1) (iv) := s_X10_needRange_n (pz_bi (1 ≤ l ∧ l ≤ 200)) (by exact pz_bi_0 h9)
                      refine w_calle hc40 rfl rfl rfl ?_
                      first | exact lf_e (by rfl) | (exfalso; omega))))
       · first
         | (exfalso; first | omega | contradiction)
         | (have hc41 : pz_R (pz_Sh L) 170 [.inr (.inl 2), .inl t] (iv) (.inr 2) (iv) := s_X10_needEvent_n t (by exact hE) (by exact h3)
            refine w_calle hc41 rfl (pz_cokI is_2 rfl) rfl ?_
            first | exact lf_e (by rfl) | (exfalso; omega)))
  · first
    | (exfalso; first | omega | contradiction)
    | (have hc42 : pz_R (pz_Sh L) 170 [.inr (.inl 2), .inl f] (iv) (.inr 2) (iv) := s_X10_needEvent_n f (by exact hE) (by exact h1)
       refine w_calle hc42 rfl (pz_cokI is_2 rfl) rfl ?_
       first | exact lf_e (by rfl) | (exfalso; omega))

theorem s_X10_addSpan_3b {L : Nat} {iv : Nat → Nat → Int} (f : Int) (t : Int) (l : Int) (g : Int) {k : Nat → Int} (hk : q_KR k) (hE : q_cE k (iv 3)) (hB : q_cB k (iv 4) (iv 5) (iv 6) (iv 7) (iv 8) (iv 9)) (hS : q_cS k (iv 10) (iv 11) (iv 12) (iv 13) (iv 14)) (hC : q_cC k (iv 15) (iv 16)) (hA : q_cA k (iv 17) (iv 18) (iv 19) (iv 20)) (hO : q_cO k (iv 22) (iv 23) (iv 24)) (hL : q_cL k (iv 25)) (hP : q_cP k (iv 27)) (hcase0 : 0 ≤ f ∧ f ≤ k 0 - 1 ∧ 0 ≤ t ∧ t ≤ k 0 - 1) (hcase1 : f < t ∧ 1 ≤ l ∧ l ≤ 200 ∧ l ≤ g ∧ g ≤ 200) (hcase2 : k 2 ≠ 3) (hcase3 : q_exi (fun s => k (212 + 4 * s + 1).toNat = t) (k 2)) : pz_R (pz_Sh L) 126 [.inr (.inl 2), .inl f, .inl t, .inl l, .inl g] iv (.inr 0) iv := by
  intro dv cc ss
  have hk0 := hk.r0
  have hE0 := hE
  have hB0 := hB.1
  have hS0 := hS.1
  have hC0 := hC.1
  have hA0 := hA.1
  have hwe : q_we k t ≠ -1 := (q_we_ie (by omega)).mpr hcase3
  show pz_G 126 0 [some (.inr (.inl 2)), some (.inl f), some (.inl t), some (.inl l), some (.inl g), none] [] (pz_Sh L, iv, dv, cc, ss) (pz_P (pz_Sh L) (.inr 0) iv dv cc ss)
  refine pz_G_of pz_b126_0 ?_
  refine w_loc rfl ?_
  refine w_loc rfl ?_
  by_cases h1 : 0 ≤ f ∧ f < k 0
  · first
    | (exfalso; first | omega | contradiction)
    | (have hc2 : pz_R (pz_Sh L) 170 [.inr (.inl 2), .inl f] (iv) (.inl none) (iv) := s_X10_needEvent_y f (by exact hE) (by exact h1)
       refine w_callv hc2 rfl (pz_cokI is_2 rfl) ?_
       refine w_loc rfl ?_
       refine w_loc rfl ?_
       by_cases h3 : 0 ≤ t ∧ t < k 0
       · first
         | (exfalso; first | omega | contradiction)
         | (have hc4 : pz_R (pz_Sh L) 170 [.inr (.inl 2), .inl t] (iv) (.inl none) (iv) := s_X10_needEvent_y t (by exact hE) (by exact h3)
            refine w_callv hc4 rfl (pz_cokI is_2 rfl) ?_
            refine w_loc rfl ?_
            refine w_loc rfl ?_
            refine w_ile (fun h5 => ?_) (fun h5 => ?_)
            · first
              | (exfalso; first | omega | contradiction)
              | (refine pz_G_of pz_b126_19 ?_
                 refine w_pure rfl ?_
                 refine w_nil ?_
                 refine pz_G_of pz_b126_20 ?_
                 have hc6 : pz_R (pz_Sh L) 172 [.inl 0] (iv) (.inr 1) (iv) := s_X10_needRange_n 0 (by omega)
                 refine w_calle hc6 rfl rfl rfl ?_
                 first | exact lf_e (by rfl) | (exfalso; omega))
            · first
              | (exfalso; first | omega | contradiction)
              | (refine w_pure rfl ?_
                 refine w_goto ?_
                 refine pz_G_of pz_b126_20 ?_
                 have hc7 : pz_R (pz_Sh L) 172 [.inl 1] (iv) (.inl none) (iv) := s_X10_needRange_y 1 (by omega)
                 refine w_callv hc7 rfl rfl ?_
                 refine w_loc rfl ?_
                 refine w_pure rfl ?_
                 refine w_pure rfl ?_
                 have hc8 : pz_R (pz_Sh L) 185 [.inl l, .inl 1, .inl 200] (iv) (.inl (some (.inl (pz_bi (1 ≤ l ∧ l ≤ 200))))) (iv) := s_X10_isWithin l 1 200
                 refine w_call hc8 rfl rfl ?_
                 by_cases h9 : 1 ≤ l ∧ l ≤ 200
                 · first
                   | (exfalso; first | omega | contradiction)
                   | (have hc10 : pz_R (pz_Sh L) 172 [.inl (pz_bi (1 ≤ l ∧ l ≤ 200))] (iv) (.inl none) (iv) := s_X10_needRange_y (pz_bi (1 ≤ l ∧ l ≤ 200)) (by exact pz_bi_p1 h9)
                      refine w_callv hc10 rfl rfl ?_
                      refine w_loc rfl ?_
                      refine w_loc rfl ?_
                      refine w_pure rfl ?_
                      have hc11 : pz_R (pz_Sh L) 185 [.inl g, .inl l, .inl 200] (iv) (.inl (some (.inl (pz_bi (l ≤ g ∧ g ≤ 200))))) (iv) := s_X10_isWithin g l 200
                      refine w_call hc11 rfl rfl ?_
                      by_cases h12 : l ≤ g ∧ g ≤ 200
                      · first
                        | (exfalso; first | omega | contradiction)
                        | (have hc13 : pz_R (pz_Sh L) 172 [.inl (pz_bi (l ≤ g ∧ g ≤ 200))] (iv) (.inl none) (iv) := s_X10_needRange_y (pz_bi (l ≤ g ∧ g ≤ 200)) (by exact pz_bi_p1 h12)
                           refine w_callv hc13 rfl rfl ?_
                           refine w_loc rfl ?_
                           refine w_getR (q := 3) is_2 rf_2_0 ?_
                           refine w_getR (q := 10) is_3 rf_3_2 ?_
                           refine w_getI (v := (iv 10) 0) is_10 (by decide) rfl ?_
                           refine w_pure rfl ?_
                           refine w_ige (fun h14 => ?_) (fun h14 => ?_)
                           · first
                             | (exfalso; first | omega | contradiction)
                             | (refine pz_G_of pz_b126_64 ?_
                                refine w_pure rfl ?_
                                refine w_nil ?_
                                refine pz_G_of pz_b126_65 ?_
                                have hc15 : pz_R (pz_Sh L) 173 [.inl 0] (iv) (.inr 0) (iv) := s_X10_needState_n 0 (by omega)
                                refine w_calle hc15 rfl rfl rfl ?_
                                first | exact lf_e (by rfl) | (exfalso; omega))
                           · first
                             | (exfalso; first | omega | contradiction)
                             | (refine w_pure rfl ?_
                                refine w_goto ?_
                                refine pz_G_of pz_b126_65 ?_
                                have hc16 : pz_R (pz_Sh L) 173 [.inl 1] (iv) (.inl none) (iv) := s_X10_needState_y 1 (by omega)
                                refine w_callv hc16 rfl rfl ?_
                                refine w_loc rfl ?_
                                refine w_getR (q := 3) is_2 rf_2_0 ?_
                                refine w_getR (q := 10) is_3 rf_3_2 ?_
                                refine w_loc rfl ?_
                                have hc17 : pz_R (pz_Sh L) 115 [.inr (.inl 10), .inl t] (iv) (.inl (some (.inl (q_we k t)))) (iv) := s_X9_withEnd t (by exact hk) (by exact hS)
                                refine w_call hc17 rfl (pz_cokI is_10 rfl) ?_
                                refine w_pure rfl ?_
                                refine w_ine (fun h18 => ?_) (fun h18 => ?_)
                                · first
                                  | (exfalso; first | omega | contradiction)
                                  | (refine pz_G_of pz_b126_87 ?_
                                     refine w_pure rfl ?_
                                     refine w_nil ?_
                                     refine pz_G_of pz_b126_88 ?_
                                     have hc19 : pz_R (pz_Sh L) 173 [.inl 0] (iv) (.inr 0) (iv) := s_X10_needState_n 0 (by omega)
                                     refine w_calle hc19 rfl rfl rfl ?_
                                     first | exact lf_e (by rfl) | (exfalso; omega))
                                · first
                                  | (exfalso; first | omega | contradiction)
                                  | (refine w_pure rfl ?_
                                     refine w_goto ?_
                                     refine pz_G_of pz_b126_88 ?_
                                     have hc20 : pz_R (pz_Sh L) 173 [.inl 1] (iv) (.inl none) (iv) := s_X10_needState_y 1 (by omega)
                                     refine w_callv hc20 rfl rfl ?_
                                     refine w_loc rfl ?_
                                     refine w_zeq (fun h21 => ?_) (fun h21 => ?_)
                                     · first
                                       | (exfalso; first | omega | contradiction)
                                       | (refine pz_G_of pz_b126_109 ?_
                                          refine w_pure rfl ?_
                                          refine w_goto ?_
                                          refine pz_G_of pz_b126_114 ?_
                                          have hc22 : pz_R (pz_Sh L) 173 [.inl 1] (iv) (.inl none) (iv) := s_X10_needState_y 1 (by omega)
                                          refine w_callv hc22 rfl rfl ?_
                                          refine w_loc rfl ?_
                                          refine w_getR (q := 3) is_2 rf_2_0 ?_
                                          refine w_getR (q := 15) is_3 rf_3_3 ?_
                                          refine w_loc rfl ?_
                                          have hc23 : pz_R (pz_Sh L) 26 [.inr (.inl 15), .inl t] (iv) (.inl (some (.inl (pz_bi (q_sta k t))))) (iv) := s_X2_hasStarted_15 t (by exact hk) (by exact hC) (by omega)
                                          refine w_call hc23 rfl (pz_cokI is_15 rfl) ?_
                                          refine w_bne (fun h24 => ?_) (fun h24 => ?_)
                                          · first
                                            | (exfalso; first | omega | contradiction)
                                            | (refine pz_G_of pz_b126_135 ?_
                                               refine w_pure rfl ?_
                                               refine w_nil ?_
                                               refine pz_G_of pz_b126_136 ?_
                                               have hc25 : pz_R (pz_Sh L) 173 [.inl 0] (iv) (.inr 0) (iv) := s_X10_needState_n 0 (by omega)
                                               refine w_calle hc25 rfl rfl rfl ?_
                                               first | exact lf_e (by rfl) | (exfalso; omega))
                                          · first
                                            | (exfalso; first | omega | contradiction)
                                            | (refine w_pure rfl ?_
                                               refine w_goto ?_
                                               refine pz_G_of pz_b126_136 ?_
                                               have hc26 : pz_R (pz_Sh L) 173 [.inl 1] (iv) (.inl none) (iv) := s_X10_needState_y 1 (by omega)
                                               refine w_callv hc26 rfl rfl ?_
                                               refine w_loc rfl ?_
                                               refine w_getR (q := 3) is_2 rf_2_0 ?_
                                               refine w_getR (q := 10) is_3 rf_3_2 ?_
                                               refine w_loc rfl ?_
                                               refine w_loc rfl ?_
                                               refine w_loc rfl ?_
                                               refine w_loc rfl ?_
                                               have hc27 : pz_R (pz_Sh L) 109 [.inr (.inl 10), .inl f, .inl t, .inl l, .inl g] (iv) (.inl (some (.inl (k 2)))) (pz_u1 (pz_u1 (pz_u1 (pz_u1 (pz_u1 iv 10 (pz_up (iv 10) 0 (k 2 + 1))) 11 (pz_up (iv 11) (k 2).toNat f)) 12 (pz_up (iv 12) (k 2).toNat t)) 13 (pz_up (iv 13) (k 2).toNat l)) 14 (pz_up (iv 14) (k 2).toNat g)) := pz_R_mem (s_X9_add f t l g (by exact hk) (by exact hS) (by omega)) (by rw [pz_u1_top (r := 10)]; rw [pz_u1_top (r := 11)]; rw [pz_u1_top (r := 12)]; rw [pz_u1_top (r := 13)]; rw [pz_u1_top (r := 14)]; rfl)
                                               refine w_call hc27 rfl (pz_cokI is_10 rfl) ?_
                                               refine w_loc (ls' := [some (.inr (.inl 2)), some (.inl f), some (.inl t), some (.inl l), some (.inl g), some (.inl (k 2))]) (st' := []) rfl ?_
                                               refine w_loc rfl ?_
                                               have hc28 : pz_R (pz_Sh L) 178 [.inr (.inl 2)] (pz_u1 (pz_u1 (pz_u1 (pz_u1 (pz_u1 iv 10 (pz_up (iv 10) 0 (k 2 + 1))) 11 (pz_up (iv 11) (k 2).toNat f)) 12 (pz_up (iv 12) (k 2).toNat t)) 13 (pz_up (iv 13) (k 2).toNat l)) 14 (pz_up (iv 14) (k 2).toNat g)) (.inl none) (pz_u1 (pz_u1 (pz_u1 (pz_u1 (pz_u1 (pz_u1 iv 2 (pz_up (pz_up (pz_up (iv 2) 7 0) 8 0) 9 0)) 10 (pz_up (iv 10) 0 (k 2 + 1))) 11 (pz_up (iv 11) (k 2).toNat f)) 12 (pz_up (iv 12) (k 2).toNat t)) 13 (pz_up (iv 13) (k 2).toNat l)) 14 (pz_up (iv 14) (k 2).toNat g)) := pz_R_mem (s_X10_forget) (by rw [pz_u1_in (r := 2) (q := 14) (by decide)]; rw [pz_u1_in (r := 2) (q := 13) (by decide)]; rw [pz_u1_in (r := 2) (q := 12) (by decide)]; rw [pz_u1_in (r := 2) (q := 11) (by decide)]; rw [pz_u1_in (r := 2) (q := 10) (by decide)]; rw [pz_u1_top (r := 2)]; rfl)
                                               refine w_callv hc28 rfl (pz_cokI is_2 rfl) ?_
                                               refine w_loc rfl ?_
                                               refine w_ret rfl ?_
                                               first | exact lf_i (by first | rfl | omega) (by rfl) | (exfalso; omega)))
                                     · first
                                       | (exfalso; first | omega | contradiction)
                                       | (refine w_loc rfl ?_
                                          refine w_getR (q := 3) is_2 rf_2_0 ?_
                                          refine w_getR (q := 15) is_3 rf_3_3 ?_
                                          refine w_loc rfl ?_
                                          have hc29 : pz_R (pz_Sh L) 26 [.inr (.inl 15), .inl f] (iv) (.inl (some (.inl (pz_bi (q_sta k f))))) (iv) := s_X2_hasStarted_15 f (by exact hk) (by exact hC) (by omega)
                                          refine w_call hc29 rfl (pz_cokI is_15 rfl) ?_
                                          refine w_bne (fun h30 => ?_) (fun h30 => ?_)
                                          · first
                                            | (exfalso; first | omega | contradiction)
                                            | (refine pz_G_of pz_b126_113 ?_
                                               refine w_pure rfl ?_
                                               refine w_nil ?_
                                               refine pz_G_of pz_b126_114 ?_
                                               have hc31 : pz_R (pz_Sh L) 173 [.inl 0] (iv) (.inr 0) (iv) := s_X10_needState_n 0 (by omega)
                                               refine w_calle hc31 rfl rfl rfl ?_
                                               first | exact lf_e (by rfl) | (exfalso; omega))
                                          · first
                                            | (exfalso; first | omega | contradiction)
                                            | (refine w_nil ?_
                                               refine pz_G_of pz_b126_109 ?_
                                               refine w_pure rfl ?_
                                               refine w_goto ?_
                                               refine pz_G_of pz_b126_114 ?_
                                               have hc32 : pz_R (pz_Sh L) 173 [.inl 1] (iv) (.inl none) (iv) := s_X10_needState_y 1 (by omega)
                                               refine w_callv hc32 rfl rfl ?_
                                               refine w_loc rfl ?_
                                               refine w_getR (q := 3) is_2 rf_2_0 ?_
                                               refine w_getR (q := 15) is_3 rf_3_3 ?_
                                               refine w_loc rfl ?_
                                               have hc33 : pz_R (pz_Sh L) 26 [.inr (.inl 15), .inl t] (iv) (.inl (some (.inl (pz_bi (q_sta k t))))) (iv) := s_X2_hasStarted_15 t (by exact hk) (by exact hC) (by omega)
                                               refine w_call hc33 rfl (pz_cokI is_15 rfl) ?_
                                               refine w_bne (fun h34 => ?_) (fun h34 => ?_)
                                               · first
                                                 | (exfalso; first | omega | contradiction)
                                                 | (refine pz_G_of pz_b126_135 ?_
                                                    refine w_pure rfl ?_
                                                    refine w_nil ?_
                                                    refine pz_G_of pz_b126_136 ?_
                                                    have hc35 : pz_R (pz_Sh L) 173 [.inl 0] (iv) (.inr 0) (iv) := s_X10_needState_n 0 (by omega)
                                                    refine w_calle hc35 rfl rfl rfl ?_
                                                    first | exact lf_e (by rfl) | (exfalso; omega))
                                               · first
                                                 | (exfalso; first | omega | contradiction)
                                                 | (refine w_pure rfl ?_
                                                    refine w_goto ?_
                                                    refine pz_G_of pz_b126_136 ?_
                                                    have hc36 : pz_R (pz_Sh L) 173 [.inl 1] (iv) (.inl none) (iv) := s_X10_needState_y 1 (by omega)
                                                    refine w_callv hc36 rfl rfl ?_
                                                    refine w_loc rfl ?_
                                                    refine w_getR (q := 3) is_2 rf_2_0 ?_
                                                    refine w_getR (q := 10) is_3 rf_3_2 ?_
                                                    refine w_loc rfl ?_
                                                    refine w_loc rfl ?_
                                                    refine w_loc rfl ?_
                                                    refine w_loc rfl ?_
                                                    have hc37 : pz_R (pz_Sh L) 109 [.inr (.inl 10), .inl f, .inl t, .inl l, .inl g] (iv) (.inl (some (.inl (k 2)))) (pz_u1 (pz_u1 (pz_u1 (pz_u1 (pz_u1 iv 10 (pz_up (iv 10) 0 (k 2 + 1))) 11 (pz_up (iv 11) (k 2).toNat f)) 12 (pz_up (iv 12) (k 2).toNat t)) 13 (pz_up (iv 13) (k 2).toNat l)) 14 (pz_up (iv 14) (k 2).toNat g)) := pz_R_mem (s_X9_add f t l g (by exact hk) (by exact hS) (by omega)) (by rw [pz_u1_top (r := 10)]; rw [pz_u1_top (r := 11)]; rw [pz_u1_top (r := 12)]; rw [pz_u1_top (r := 13)]; rw [pz_u1_top (r := 14)]; rfl)
                                                    refine w_call hc37 rfl (pz_cokI is_10 rfl) ?_
                                                    refine w_loc (ls' := [some (.inr (.inl 2)), some (.inl f), some (.inl t), some (.inl l), some (.inl g), some (.inl (k 2))]) (st' := []) rfl ?_
                                                    refine w_loc rfl ?_
                                                    have hc38 : pz_R (pz_Sh L) 178 [.inr (.inl 2)] (pz_u1 (pz_u1 (pz_u1 (pz_u1 (pz_u1 iv 10 (pz_up (iv 10) 0 (k 2 + 1))) 11 (pz_up (iv 11) (k 2).toNat f)) 12 (pz_up (iv 12) (k 2).toNat t)) 13 (pz_up (iv 13) (k 2).toNat l)) 14 (pz_up (iv 14) (k 2).toNat g)) (.inl none) (pz_u1 (pz_u1 (pz_u1 (pz_u1 (pz_u1 (pz_u1 iv 2 (pz_up (pz_up (pz_up (iv 2) 7 0) 8 0) 9 0)) 10 (pz_up (iv 10) 0 (k 2 + 1))) 11 (pz_up (iv 11) (k 2).toNat f)) 12 (pz_up (iv 12) (k 2).toNat t)) 13 (pz_up (iv 13) (k 2).toNat l)) 14 (pz_up (iv 14) (k 2).toNat g)) := pz_R_mem (s_X10_forget) (by rw [pz_u1_in (r := 2) (q := 14) (by decide)]; rw [pz_u1_in (r := 2) (q := 13) (by decide)]; rw [pz_u1_in (r := 2) (q := 12) (by decide)]; rw [pz_u1_in (r := 2) (q := 11) (by decide)]; rw [pz_u1_in (r := 2) (q := 10) (by decide)]; rw [pz_u1_top (r := 2)]; rfl)
                                                    refine w_callv hc38 rfl (pz_cokI is_2 rfl) ?_
                                                    refine w_loc rfl ?_
                                                    refine w_ret rfl ?_
                                                    first | exact lf_i (by first | rfl | omega) (by rfl) | (exfalso; omega)))))))
                      · first
                        | (exfalso; first | omega | contradiction)
                        | (have hc39 : pz_R (pz_Sh L) 172 [.inl (pz_bi (l ≤ g ∧ g ≤ 200))] (iv) (.inr 1) (iv) := s_X10_needRange_n (pz_bi (l ≤ g ∧ g ≤ 200)) (by exact pz_bi_0 h12)
                           refine w_calle hc39 rfl rfl rfl ?_
                           first | exact lf_e (by rfl) | (exfalso; omega)))
                 · first
                   | (exfalso; first | omega | contradiction)
                   | (have hc40 : pz_R (pz_Sh L) 172 [.inl (pz_bi (1 ≤ l ∧ l ≤ 200))] (iv) (.inr 1) (iv) := s_X10_needRange_n (pz_bi (1 ≤ l ∧ l ≤ 200)) (by exact pz_bi_0 h9)
                      refine w_calle hc40 rfl rfl rfl ?_
                      first | exact lf_e (by rfl) | (exfalso; omega))))
       · first
         | (exfalso; first | omega | contradiction)
         | (have hc41 : pz_R (pz_Sh L) 170 [.inr (.inl 2), .inl t] (iv) (.inr 2) (iv) := s_X10_needEvent_n t (by exact hE) (by exact h3)
            refine w_calle hc41 rfl (pz_cokI is_2 rfl) rfl ?_
            first | exact lf_e (by rfl) | (exfalso; omega)))
  · first
    | (exfalso; first | omega | contradiction)
    | (have hc42 : pz_R (pz_Sh L) 170 [.inr (.inl 2), .inl f] (iv) (.inr 2) (iv) := s_X10_needEvent_n f (by exact hE) (by exact h1)
       refine w_calle hc42 rfl (pz_cokI is_2 rfl) rfl ?_
       first | exact lf_e (by rfl) | (exfalso; omega))

theorem s_X10_addSpan_3c {L : Nat} {iv : Nat → Nat → Int} (f : Int) (t : Int) (l : Int) (g : Int) {k : Nat → Int} (hk : q_KR k) (hE : q_cE k (iv 3)) (hB : q_cB k (iv 4) (iv 5) (iv 6) (iv 7) (iv 8) (iv 9)) (hS : q_cS k (iv 10) (iv 11) (iv 12) (iv 13) (iv 14)) (hC : q_cC k (iv 15) (iv 16)) (hA : q_cA k (iv 17) (iv 18) (iv 19) (iv 20)) (hO : q_cO k (iv 22) (iv 23) (iv 24)) (hL : q_cL k (iv 25)) (hP : q_cP k (iv 27)) (hcase0 : 0 ≤ f ∧ f ≤ k 0 - 1 ∧ 0 ≤ t ∧ t ≤ k 0 - 1) (hcase1 : f < t ∧ 1 ≤ l ∧ l ≤ 200 ∧ l ≤ g ∧ g ≤ 200) (hcase2 : k 2 ≠ 3) (hcase3 : ¬ (q_exi (fun s => k (212 + 4 * s + 1).toNat = t) (k 2))) (hcase4 : 0 < f ∧ q_sta k f) : pz_R (pz_Sh L) 126 [.inr (.inl 2), .inl f, .inl t, .inl l, .inl g] iv (.inr 0) iv := by
  intro dv cc ss
  have hk0 := hk.r0
  have hE0 := hE
  have hB0 := hB.1
  have hS0 := hS.1
  have hC0 := hC.1
  have hA0 := hA.1
  have hwe : q_we k t = -1 := Classical.not_not.mp (fun q => hcase3 ((q_we_ie (by omega)).mp q))
  show pz_G 126 0 [some (.inr (.inl 2)), some (.inl f), some (.inl t), some (.inl l), some (.inl g), none] [] (pz_Sh L, iv, dv, cc, ss) (pz_P (pz_Sh L) (.inr 0) iv dv cc ss)
  refine pz_G_of pz_b126_0 ?_
  refine w_loc rfl ?_
  refine w_loc rfl ?_
  by_cases h1 : 0 ≤ f ∧ f < k 0
  · first
    | (exfalso; first | omega | contradiction)
    | (have hc2 : pz_R (pz_Sh L) 170 [.inr (.inl 2), .inl f] (iv) (.inl none) (iv) := s_X10_needEvent_y f (by exact hE) (by exact h1)
       refine w_callv hc2 rfl (pz_cokI is_2 rfl) ?_
       refine w_loc rfl ?_
       refine w_loc rfl ?_
       by_cases h3 : 0 ≤ t ∧ t < k 0
       · first
         | (exfalso; first | omega | contradiction)
         | (have hc4 : pz_R (pz_Sh L) 170 [.inr (.inl 2), .inl t] (iv) (.inl none) (iv) := s_X10_needEvent_y t (by exact hE) (by exact h3)
            refine w_callv hc4 rfl (pz_cokI is_2 rfl) ?_
            refine w_loc rfl ?_
            refine w_loc rfl ?_
            refine w_ile (fun h5 => ?_) (fun h5 => ?_)
            · first
              | (exfalso; first | omega | contradiction)
              | (refine pz_G_of pz_b126_19 ?_
                 refine w_pure rfl ?_
                 refine w_nil ?_
                 refine pz_G_of pz_b126_20 ?_
                 have hc6 : pz_R (pz_Sh L) 172 [.inl 0] (iv) (.inr 1) (iv) := s_X10_needRange_n 0 (by omega)
                 refine w_calle hc6 rfl rfl rfl ?_
                 first | exact lf_e (by rfl) | (exfalso; omega))
            · first
              | (exfalso; first | omega | contradiction)
              | (refine w_pure rfl ?_
                 refine w_goto ?_
                 refine pz_G_of pz_b126_20 ?_
                 have hc7 : pz_R (pz_Sh L) 172 [.inl 1] (iv) (.inl none) (iv) := s_X10_needRange_y 1 (by omega)
                 refine w_callv hc7 rfl rfl ?_
                 refine w_loc rfl ?_
                 refine w_pure rfl ?_
                 refine w_pure rfl ?_
                 have hc8 : pz_R (pz_Sh L) 185 [.inl l, .inl 1, .inl 200] (iv) (.inl (some (.inl (pz_bi (1 ≤ l ∧ l ≤ 200))))) (iv) := s_X10_isWithin l 1 200
                 refine w_call hc8 rfl rfl ?_
                 by_cases h9 : 1 ≤ l ∧ l ≤ 200
                 · first
                   | (exfalso; first | omega | contradiction)
                   | (have hc10 : pz_R (pz_Sh L) 172 [.inl (pz_bi (1 ≤ l ∧ l ≤ 200))] (iv) (.inl none) (iv) := s_X10_needRange_y (pz_bi (1 ≤ l ∧ l ≤ 200)) (by exact pz_bi_p1 h9)
                      refine w_callv hc10 rfl rfl ?_
                      refine w_loc rfl ?_
                      refine w_loc rfl ?_
                      refine w_pure rfl ?_
                      have hc11 : pz_R (pz_Sh L) 185 [.inl g, .inl l, .inl 200] (iv) (.inl (some (.inl (pz_bi (l ≤ g ∧ g ≤ 200))))) (iv) := s_X10_isWithin g l 200
                      refine w_call hc11 rfl rfl ?_
                      by_cases h12 : l ≤ g ∧ g ≤ 200
                      · first
                        | (exfalso; first | omega | contradiction)
                        | (have hc13 : pz_R (pz_Sh L) 172 [.inl (pz_bi (l ≤ g ∧ g ≤ 200))] (iv) (.inl none) (iv) := s_X10_needRange_y (pz_bi (l ≤ g ∧ g ≤ 200)) (by exact pz_bi_p1 h12)
                           refine w_callv hc13 rfl rfl ?_
                           refine w_loc rfl ?_
                           refine w_getR (q := 3) is_2 rf_2_0 ?_
                           refine w_getR (q := 10) is_3 rf_3_2 ?_
                           refine w_getI (v := (iv 10) 0) is_10 (by decide) rfl ?_
                           refine w_pure rfl ?_
                           refine w_ige (fun h14 => ?_) (fun h14 => ?_)
                           · first
                             | (exfalso; first | omega | contradiction)
                             | (refine pz_G_of pz_b126_64 ?_
                                refine w_pure rfl ?_
                                refine w_nil ?_
                                refine pz_G_of pz_b126_65 ?_
                                have hc15 : pz_R (pz_Sh L) 173 [.inl 0] (iv) (.inr 0) (iv) := s_X10_needState_n 0 (by omega)
                                refine w_calle hc15 rfl rfl rfl ?_
                                first | exact lf_e (by rfl) | (exfalso; omega))
                           · first
                             | (exfalso; first | omega | contradiction)
                             | (refine w_pure rfl ?_
                                refine w_goto ?_
                                refine pz_G_of pz_b126_65 ?_
                                have hc16 : pz_R (pz_Sh L) 173 [.inl 1] (iv) (.inl none) (iv) := s_X10_needState_y 1 (by omega)
                                refine w_callv hc16 rfl rfl ?_
                                refine w_loc rfl ?_
                                refine w_getR (q := 3) is_2 rf_2_0 ?_
                                refine w_getR (q := 10) is_3 rf_3_2 ?_
                                refine w_loc rfl ?_
                                have hc17 : pz_R (pz_Sh L) 115 [.inr (.inl 10), .inl t] (iv) (.inl (some (.inl (q_we k t)))) (iv) := s_X9_withEnd t (by exact hk) (by exact hS)
                                refine w_call hc17 rfl (pz_cokI is_10 rfl) ?_
                                refine w_pure rfl ?_
                                refine w_ine (fun h18 => ?_) (fun h18 => ?_)
                                · first
                                  | (exfalso; first | omega | contradiction)
                                  | (refine pz_G_of pz_b126_87 ?_
                                     refine w_pure rfl ?_
                                     refine w_nil ?_
                                     refine pz_G_of pz_b126_88 ?_
                                     have hc19 : pz_R (pz_Sh L) 173 [.inl 0] (iv) (.inr 0) (iv) := s_X10_needState_n 0 (by omega)
                                     refine w_calle hc19 rfl rfl rfl ?_
                                     first | exact lf_e (by rfl) | (exfalso; omega))
                                · first
                                  | (exfalso; first | omega | contradiction)
                                  | (refine w_pure rfl ?_
                                     refine w_goto ?_
                                     refine pz_G_of pz_b126_88 ?_
                                     have hc20 : pz_R (pz_Sh L) 173 [.inl 1] (iv) (.inl none) (iv) := s_X10_needState_y 1 (by omega)
                                     refine w_callv hc20 rfl rfl ?_
                                     refine w_loc rfl ?_
                                     refine w_zeq (fun h21 => ?_) (fun h21 => ?_)
                                     · first
                                       | (exfalso; first | omega | contradiction)
                                       | (refine pz_G_of pz_b126_109 ?_
                                          refine w_pure rfl ?_
                                          refine w_goto ?_
                                          refine pz_G_of pz_b126_114 ?_
                                          have hc22 : pz_R (pz_Sh L) 173 [.inl 1] (iv) (.inl none) (iv) := s_X10_needState_y 1 (by omega)
                                          refine w_callv hc22 rfl rfl ?_
                                          refine w_loc rfl ?_
                                          refine w_getR (q := 3) is_2 rf_2_0 ?_
                                          refine w_getR (q := 15) is_3 rf_3_3 ?_
                                          refine w_loc rfl ?_
                                          have hc23 : pz_R (pz_Sh L) 26 [.inr (.inl 15), .inl t] (iv) (.inl (some (.inl (pz_bi (q_sta k t))))) (iv) := s_X2_hasStarted_15 t (by exact hk) (by exact hC) (by omega)
                                          refine w_call hc23 rfl (pz_cokI is_15 rfl) ?_
                                          refine w_bne (fun h24 => ?_) (fun h24 => ?_)
                                          · first
                                            | (exfalso; first | omega | contradiction)
                                            | (refine pz_G_of pz_b126_135 ?_
                                               refine w_pure rfl ?_
                                               refine w_nil ?_
                                               refine pz_G_of pz_b126_136 ?_
                                               have hc25 : pz_R (pz_Sh L) 173 [.inl 0] (iv) (.inr 0) (iv) := s_X10_needState_n 0 (by omega)
                                               refine w_calle hc25 rfl rfl rfl ?_
                                               first | exact lf_e (by rfl) | (exfalso; omega))
                                          · first
                                            | (exfalso; first | omega | contradiction)
                                            | (refine w_pure rfl ?_
                                               refine w_goto ?_
                                               refine pz_G_of pz_b126_136 ?_
                                               have hc26 : pz_R (pz_Sh L) 173 [.inl 1] (iv) (.inl none) (iv) := s_X10_needState_y 1 (by omega)
                                               refine w_callv hc26 rfl rfl ?_
                                               refine w_loc rfl ?_
                                               refine w_getR (q := 3) is_2 rf_2_0 ?_
                                               refine w_getR (q := 10) is_3 rf_3_2 ?_
                                               refine w_loc rfl ?_
                                               refine w_loc rfl ?_
                                               refine w_loc rfl ?_
                                               refine w_loc rfl ?_
                                               have hc27 : pz_R (pz_Sh L) 109 [.inr (.inl 10), .inl f, .inl t, .inl l, .inl g] (iv) (.inl (some (.inl (k 2)))) (pz_u1 (pz_u1 (pz_u1 (pz_u1 (pz_u1 iv 10 (pz_up (iv 10) 0 (k 2 + 1))) 11 (pz_up (iv 11) (k 2).toNat f)) 12 (pz_up (iv 12) (k 2).toNat t)) 13 (pz_up (iv 13) (k 2).toNat l)) 14 (pz_up (iv 14) (k 2).toNat g)) := pz_R_mem (s_X9_add f t l g (by exact hk) (by exact hS) (by omega)) (by rw [pz_u1_top (r := 10)]; rw [pz_u1_top (r := 11)]; rw [pz_u1_top (r := 12)]; rw [pz_u1_top (r := 13)]; rw [pz_u1_top (r := 14)]; rfl)
                                               refine w_call hc27 rfl (pz_cokI is_10 rfl) ?_
                                               refine w_loc (ls' := [some (.inr (.inl 2)), some (.inl f), some (.inl t), some (.inl l), some (.inl g), some (.inl (k 2))]) (st' := []) rfl ?_
                                               refine w_loc rfl ?_
                                               have hc28 : pz_R (pz_Sh L) 178 [.inr (.inl 2)] (pz_u1 (pz_u1 (pz_u1 (pz_u1 (pz_u1 iv 10 (pz_up (iv 10) 0 (k 2 + 1))) 11 (pz_up (iv 11) (k 2).toNat f)) 12 (pz_up (iv 12) (k 2).toNat t)) 13 (pz_up (iv 13) (k 2).toNat l)) 14 (pz_up (iv 14) (k 2).toNat g)) (.inl none) (pz_u1 (pz_u1 (pz_u1 (pz_u1 (pz_u1 (pz_u1 iv 2 (pz_up (pz_up (pz_up (iv 2) 7 0) 8 0) 9 0)) 10 (pz_up (iv 10) 0 (k 2 + 1))) 11 (pz_up (iv 11) (k 2).toNat f)) 12 (pz_up (iv 12) (k 2).toNat t)) 13 (pz_up (iv 13) (k 2).toNat l)) 14 (pz_up (iv 14) (k 2).toNat g)) := pz_R_mem (s_X10_forget) (by rw [pz_u1_in (r := 2) (q := 14) (by decide)]; rw [pz_u1_in (r := 2) (q := 13) (by decide)]; rw [pz_u1_in (r := 2) (q := 12) (by decide)]; rw [pz_u1_in (r := 2) (q := 11) (by decide)]; rw [pz_u1_in (r := 2) (q := 10) (by decide)]; rw [pz_u1_top (r := 2)]; rfl)
                                               refine w_callv hc28 rfl (pz_cokI is_2 rfl) ?_
                                               refine w_loc rfl ?_
                                               refine w_ret rfl ?_
                                               first | exact lf_i (by first | rfl | omega) (by rfl) | (exfalso; omega)))
                                     · first
                                       | (exfalso; first | omega | contradiction)
                                       | (refine w_loc rfl ?_
                                          refine w_getR (q := 3) is_2 rf_2_0 ?_
                                          refine w_getR (q := 15) is_3 rf_3_3 ?_
                                          refine w_loc rfl ?_
                                          have hc29 : pz_R (pz_Sh L) 26 [.inr (.inl 15), .inl f] (iv) (.inl (some (.inl (pz_bi (q_sta k f))))) (iv) := s_X2_hasStarted_15 f (by exact hk) (by exact hC) (by omega)
                                          refine w_call hc29 rfl (pz_cokI is_15 rfl) ?_
                                          refine w_bne (fun h30 => ?_) (fun h30 => ?_)
                                          · first
                                            | (exfalso; first | omega | contradiction)
                                            | (refine pz_G_of pz_b126_113 ?_
                                               refine w_pure rfl ?_
                                               refine w_nil ?_
                                               refine pz_G_of pz_b126_114 ?_
                                               have hc31 : pz_R (pz_Sh L) 173 [.inl 0] (iv) (.inr 0) (iv) := s_X10_needState_n 0 (by omega)
                                               refine w_calle hc31 rfl rfl rfl ?_
                                               first | exact lf_e (by rfl) | (exfalso; omega))
                                          · first
                                            | (exfalso; first | omega | contradiction)
                                            | (refine w_nil ?_
                                               refine pz_G_of pz_b126_109 ?_
                                               refine w_pure rfl ?_
                                               refine w_goto ?_
                                               refine pz_G_of pz_b126_114 ?_
                                               have hc32 : pz_R (pz_Sh L) 173 [.inl 1] (iv) (.inl none) (iv) := s_X10_needState_y 1 (by omega)
                                               refine w_callv hc32 rfl rfl ?_
                                               refine w_loc rfl ?_
                                               refine w_getR (q := 3) is_2 rf_2_0 ?_
                                               refine w_getR (q := 15) is_3 rf_3_3 ?_
                                               refine w_loc rfl ?_
                                               have hc33 : pz_R (pz_Sh L) 26 [.inr (.inl 15), .inl t] (iv) (.inl (some (.inl (pz_bi (q_sta k t))))) (iv) := s_X2_hasStarted_15 t (by exact hk) (by exact hC) (by omega)
                                               refine w_call hc33 rfl (pz_cokI is_15 rfl) ?_
                                               refine w_bne (fun h34 => ?_) (fun h34 => ?_)
                                               · first
                                                 | (exfalso; first | omega | contradiction)
                                                 | (refine pz_G_of pz_b126_135 ?_
                                                    refine w_pure rfl ?_
                                                    refine w_nil ?_
                                                    refine pz_G_of pz_b126_136 ?_
                                                    have hc35 : pz_R (pz_Sh L) 173 [.inl 0] (iv) (.inr 0) (iv) := s_X10_needState_n 0 (by omega)
                                                    refine w_calle hc35 rfl rfl rfl ?_
                                                    first | exact lf_e (by rfl) | (exfalso; omega))
                                               · first
                                                 | (exfalso; first | omega | contradiction)
                                                 | (refine w_pure rfl ?_
                                                    refine w_goto ?_
                                                    refine pz_G_of pz_b126_136 ?_
                                                    have hc36 : pz_R (pz_Sh L) 173 [.inl 1] (iv) (.inl none) (iv) := s_X10_needState_y 1 (by omega)
                                                    refine w_callv hc36 rfl rfl ?_
                                                    refine w_loc rfl ?_
                                                    refine w_getR (q := 3) is_2 rf_2_0 ?_
                                                    refine w_getR (q := 10) is_3 rf_3_2 ?_
                                                    refine w_loc rfl ?_
                                                    refine w_loc rfl ?_
                                                    refine w_loc rfl ?_
                                                    refine w_loc rfl ?_
                                                    have hc37 : pz_R (pz_Sh L) 109 [.inr (.inl 10), .inl f, .inl t, .inl l, .inl g] (iv) (.inl (some (.inl (k 2)))) (pz_u1 (pz_u1 (pz_u1 (pz_u1 (pz_u1 iv 10 (pz_up (iv 10) 0 (k 2 + 1))) 11 (pz_up (iv 11) (k 2).toNat f)) 12 (pz_up (iv 12) (k 2).toNat t)) 13 (pz_up (iv 13) (k 2).toNat l)) 14 (pz_up (iv 14) (k 2).toNat g)) := pz_R_mem (s_X9_add f t l g (by exact hk) (by exact hS) (by omega)) (by rw [pz_u1_top (r := 10)]; rw [pz_u1_top (r := 11)]; rw [pz_u1_top (r := 12)]; rw [pz_u1_top (r := 13)]; rw [pz_u1_top (r := 14)]; rfl)
                                                    refine w_call hc37 rfl (pz_cokI is_10 rfl) ?_
                                                    refine w_loc (ls' := [some (.inr (.inl 2)), some (.inl f), some (.inl t), some (.inl l), some (.inl g), some (.inl (k 2))]) (st' := []) rfl ?_
                                                    refine w_loc rfl ?_
                                                    have hc38 : pz_R (pz_Sh L) 178 [.inr (.inl 2)] (pz_u1 (pz_u1 (pz_u1 (pz_u1 (pz_u1 iv 10 (pz_up (iv 10) 0 (k 2 + 1))) 11 (pz_up (iv 11) (k 2).toNat f)) 12 (pz_up (iv 12) (k 2).toNat t)) 13 (pz_up (iv 13) (k 2).toNat l)) 14 (pz_up (iv 14) (k 2).toNat g)) (.inl none) (pz_u1 (pz_u1 (pz_u1 (pz_u1 (pz_u1 (pz_u1 iv 2 (pz_up (pz_up (pz_up (iv 2) 7 0) 8 0) 9 0)) 10 (pz_up (iv 10) 0 (k 2 + 1))) 11 (pz_up (iv 11) (k 2).toNat f)) 12 (pz_up (iv 12) (k 2).toNat t)) 13 (pz_up (iv 13) (k 2).toNat l)) 14 (pz_up (iv 14) (k 2).toNat g)) := pz_R_mem (s_X10_forget) (by rw [pz_u1_in (r := 2) (q := 14) (by decide)]; rw [pz_u1_in (r := 2) (q := 13) (by decide)]; rw [pz_u1_in (r := 2) (q := 12) (by decide)]; rw [pz_u1_in (r := 2) (q := 11) (by decide)]; rw [pz_u1_in (r := 2) (q := 10) (by decide)]; rw [pz_u1_top (r := 2)]; rfl)
                                                    refine w_callv hc38 rfl (pz_cokI is_2 rfl) ?_
                                                    refine w_loc rfl ?_
                                                    refine w_ret rfl ?_
                                                    first | exact lf_i (by first | rfl | omega) (by rfl) | (exfalso; omega)))))))
                      · first
                        | (exfalso; first | omega | contradiction)
                        | (have hc39 : pz_R (pz_Sh L) 172 [.inl (pz_bi (l ≤ g ∧ g ≤ 200))] (iv) (.inr 1) (iv) := s_X10_needRange_n (pz_bi (l ≤ g ∧ g ≤ 200)) (by exact pz_bi_0 h12)
                           refine w_calle hc39 rfl rfl rfl ?_
                           first | exact lf_e (by rfl) | (exfalso; omega)))
                 · first
                   | (exfalso; first | omega | contradiction)
                   | (have hc40 : pz_R (pz_Sh L) 172 [.inl (pz_bi (1 ≤ l ∧ l ≤ 200))] (iv) (.inr 1) (iv) := s_X10_needRange_n (pz_bi (1 ≤ l ∧ l ≤ 200)) (by exact pz_bi_0 h9)
                      refine w_calle hc40 rfl rfl rfl ?_
                      first | exact lf_e (by rfl) | (exfalso; omega))))
       · first
         | (exfalso; first | omega | contradiction)
         | (have hc41 : pz_R (pz_Sh L) 170 [.inr (.inl 2), .inl t] (iv) (.inr 2) (iv) := s_X10_needEvent_n t (by exact hE) (by exact h3)
            refine w_calle hc41 rfl (pz_cokI is_2 rfl) rfl ?_
            first | exact lf_e (by rfl) | (exfalso; omega)))
  · first
    | (exfalso; first | omega | contradiction)
    | (have hc42 : pz_R (pz_Sh L) 170 [.inr (.inl 2), .inl f] (iv) (.inr 2) (iv) := s_X10_needEvent_n f (by exact hE) (by exact h1)
       refine w_calle hc42 rfl (pz_cokI is_2 rfl) rfl ?_
       first | exact lf_e (by rfl) | (exfalso; omega))

theorem s_X10_addSpan_3d {L : Nat} {iv : Nat → Nat → Int} (f : Int) (t : Int) (l : Int) (g : Int) {k : Nat → Int} (hk : q_KR k) (hE : q_cE k (iv 3)) (hB : q_cB k (iv 4) (iv 5) (iv 6) (iv 7) (iv 8) (iv 9)) (hS : q_cS k (iv 10) (iv 11) (iv 12) (iv 13) (iv 14)) (hC : q_cC k (iv 15) (iv 16)) (hA : q_cA k (iv 17) (iv 18) (iv 19) (iv 20)) (hO : q_cO k (iv 22) (iv 23) (iv 24)) (hL : q_cL k (iv 25)) (hP : q_cP k (iv 27)) (hcase0 : 0 ≤ f ∧ f ≤ k 0 - 1 ∧ 0 ≤ t ∧ t ≤ k 0 - 1) (hcase1 : f < t ∧ 1 ≤ l ∧ l ≤ 200 ∧ l ≤ g ∧ g ≤ 200) (hcase2 : k 2 ≠ 3) (hcase3 : ¬ (q_exi (fun s => k (212 + 4 * s + 1).toNat = t) (k 2))) (hcase4 : ¬ (0 < f ∧ q_sta k f)) (hcase5 : q_sta k t) : pz_R (pz_Sh L) 126 [.inr (.inl 2), .inl f, .inl t, .inl l, .inl g] iv (.inr 0) iv := by
  intro dv cc ss
  have hk0 := hk.r0
  have hE0 := hE
  have hB0 := hB.1
  have hS0 := hS.1
  have hC0 := hC.1
  have hA0 := hA.1
  have hwe : q_we k t = -1 := Classical.not_not.mp (fun q => hcase3 ((q_we_ie (by omega)).mp q))
  show pz_G 126 0 [some (.inr (.inl 2)), some (.inl f), some (.inl t), some (.inl l), some (.inl g), none] [] (pz_Sh L, iv, dv, cc, ss) (pz_P (pz_Sh L) (.inr 0) iv dv cc ss)
  refine pz_G_of pz_b126_0 ?_
  refine w_loc rfl ?_
  refine w_loc rfl ?_
  by_cases h1 : 0 ≤ f ∧ f < k 0
  · first
    | (exfalso; first | omega | contradiction)
    | (have hc2 : pz_R (pz_Sh L) 170 [.inr (.inl 2), .inl f] (iv) (.inl none) (iv) := s_X10_needEvent_y f (by exact hE) (by exact h1)
       refine w_callv hc2 rfl (pz_cokI is_2 rfl) ?_
       refine w_loc rfl ?_
       refine w_loc rfl ?_
       by_cases h3 : 0 ≤ t ∧ t < k 0
       · first
         | (exfalso; first | omega | contradiction)
         | (have hc4 : pz_R (pz_Sh L) 170 [.inr (.inl 2), .inl t] (iv) (.inl none) (iv) := s_X10_needEvent_y t (by exact hE) (by exact h3)
            refine w_callv hc4 rfl (pz_cokI is_2 rfl) ?_
            refine w_loc rfl ?_
            refine w_loc rfl ?_
            refine w_ile (fun h5 => ?_) (fun h5 => ?_)
            · first
              | (exfalso; first | omega | contradiction)
              | (refine pz_G_of pz_b126_19 ?_
                 refine w_pure rfl ?_
                 refine w_nil ?_
                 refine pz_G_of pz_b126_20 ?_
                 have hc6 : pz_R (pz_Sh L) 172 [.inl 0] (iv) (.inr 1) (iv) := s_X10_needRange_n 0 (by omega)
                 refine w_calle hc6 rfl rfl rfl ?_
                 first | exact lf_e (by rfl) | (exfalso; omega))
            · first
              | (exfalso; first | omega | contradiction)
              | (refine w_pure rfl ?_
                 refine w_goto ?_
                 refine pz_G_of pz_b126_20 ?_
                 have hc7 : pz_R (pz_Sh L) 172 [.inl 1] (iv) (.inl none) (iv) := s_X10_needRange_y 1 (by omega)
                 refine w_callv hc7 rfl rfl ?_
                 refine w_loc rfl ?_
                 refine w_pure rfl ?_
                 refine w_pure rfl ?_
                 have hc8 : pz_R (pz_Sh L) 185 [.inl l, .inl 1, .inl 200] (iv) (.inl (some (.inl (pz_bi (1 ≤ l ∧ l ≤ 200))))) (iv) := s_X10_isWithin l 1 200
                 refine w_call hc8 rfl rfl ?_
                 by_cases h9 : 1 ≤ l ∧ l ≤ 200
                 · first
                   | (exfalso; first | omega | contradiction)
                   | (have hc10 : pz_R (pz_Sh L) 172 [.inl (pz_bi (1 ≤ l ∧ l ≤ 200))] (iv) (.inl none) (iv) := s_X10_needRange_y (pz_bi (1 ≤ l ∧ l ≤ 200)) (by exact pz_bi_p1 h9)
                      refine w_callv hc10 rfl rfl ?_
                      refine w_loc rfl ?_
                      refine w_loc rfl ?_
                      refine w_pure rfl ?_
                      have hc11 : pz_R (pz_Sh L) 185 [.inl g, .inl l, .inl 200] (iv) (.inl (some (.inl (pz_bi (l ≤ g ∧ g ≤ 200))))) (iv) := s_X10_isWithin g l 200
                      refine w_call hc11 rfl rfl ?_
                      by_cases h12 : l ≤ g ∧ g ≤ 200
                      · first
                        | (exfalso; first | omega | contradiction)
                        | (have hc13 : pz_R (pz_Sh L) 172 [.inl (pz_bi (l ≤ g ∧ g ≤ 200))] (iv) (.inl none) (iv) := s_X10_needRange_y (pz_bi (l ≤ g ∧ g ≤ 200)) (by exact pz_bi_p1 h12)
                           refine w_callv hc13 rfl rfl ?_
                           refine w_loc rfl ?_
                           refine w_getR (q := 3) is_2 rf_2_0 ?_
                           refine w_getR (q := 10) is_3 rf_3_2 ?_
                           refine w_getI (v := (iv 10) 0) is_10 (by decide) rfl ?_
                           refine w_pure rfl ?_
                           refine w_ige (fun h14 => ?_) (fun h14 => ?_)
                           · first
                             | (exfalso; first | omega | contradiction)
                             | (refine pz_G_of pz_b126_64 ?_
                                refine w_pure rfl ?_
                                refine w_nil ?_
                                refine pz_G_of pz_b126_65 ?_
                                have hc15 : pz_R (pz_Sh L) 173 [.inl 0] (iv) (.inr 0) (iv) := s_X10_needState_n 0 (by omega)
                                refine w_calle hc15 rfl rfl rfl ?_
                                first | exact lf_e (by rfl) | (exfalso; omega))
                           · first
                             | (exfalso; first | omega | contradiction)
                             | (refine w_pure rfl ?_
                                refine w_goto ?_
                                refine pz_G_of pz_b126_65 ?_
                                have hc16 : pz_R (pz_Sh L) 173 [.inl 1] (iv) (.inl none) (iv) := s_X10_needState_y 1 (by omega)
                                refine w_callv hc16 rfl rfl ?_
                                refine w_loc rfl ?_
                                refine w_getR (q := 3) is_2 rf_2_0 ?_
                                refine w_getR (q := 10) is_3 rf_3_2 ?_
                                refine w_loc rfl ?_
                                have hc17 : pz_R (pz_Sh L) 115 [.inr (.inl 10), .inl t] (iv) (.inl (some (.inl (q_we k t)))) (iv) := s_X9_withEnd t (by exact hk) (by exact hS)
                                refine w_call hc17 rfl (pz_cokI is_10 rfl) ?_
                                refine w_pure rfl ?_
                                refine w_ine (fun h18 => ?_) (fun h18 => ?_)
                                · first
                                  | (exfalso; first | omega | contradiction)
                                  | (refine pz_G_of pz_b126_87 ?_
                                     refine w_pure rfl ?_
                                     refine w_nil ?_
                                     refine pz_G_of pz_b126_88 ?_
                                     have hc19 : pz_R (pz_Sh L) 173 [.inl 0] (iv) (.inr 0) (iv) := s_X10_needState_n 0 (by omega)
                                     refine w_calle hc19 rfl rfl rfl ?_
                                     first | exact lf_e (by rfl) | (exfalso; omega))
                                · first
                                  | (exfalso; first | omega | contradiction)
                                  | (refine w_pure rfl ?_
                                     refine w_goto ?_
                                     refine pz_G_of pz_b126_88 ?_
                                     have hc20 : pz_R (pz_Sh L) 173 [.inl 1] (iv) (.inl none) (iv) := s_X10_needState_y 1 (by omega)
                                     refine w_callv hc20 rfl rfl ?_
                                     refine w_loc rfl ?_
                                     refine w_zeq (fun h21 => ?_) (fun h21 => ?_)
                                     · first
                                       | (exfalso; first | omega | contradiction)
                                       | (refine pz_G_of pz_b126_109 ?_
                                          refine w_pure rfl ?_
                                          refine w_goto ?_
                                          refine pz_G_of pz_b126_114 ?_
                                          have hc22 : pz_R (pz_Sh L) 173 [.inl 1] (iv) (.inl none) (iv) := s_X10_needState_y 1 (by omega)
                                          refine w_callv hc22 rfl rfl ?_
                                          refine w_loc rfl ?_
                                          refine w_getR (q := 3) is_2 rf_2_0 ?_
                                          refine w_getR (q := 15) is_3 rf_3_3 ?_
                                          refine w_loc rfl ?_
                                          have hc23 : pz_R (pz_Sh L) 26 [.inr (.inl 15), .inl t] (iv) (.inl (some (.inl (pz_bi (q_sta k t))))) (iv) := s_X2_hasStarted_15 t (by exact hk) (by exact hC) (by omega)
                                          refine w_call hc23 rfl (pz_cokI is_15 rfl) ?_
                                          refine w_bne (fun h24 => ?_) (fun h24 => ?_)
                                          · first
                                            | (exfalso; first | omega | contradiction)
                                            | (refine pz_G_of pz_b126_135 ?_
                                               refine w_pure rfl ?_
                                               refine w_nil ?_
                                               refine pz_G_of pz_b126_136 ?_
                                               have hc25 : pz_R (pz_Sh L) 173 [.inl 0] (iv) (.inr 0) (iv) := s_X10_needState_n 0 (by omega)
                                               refine w_calle hc25 rfl rfl rfl ?_
                                               first | exact lf_e (by rfl) | (exfalso; omega))
                                          · first
                                            | (exfalso; first | omega | contradiction)
                                            | (refine w_pure rfl ?_
                                               refine w_goto ?_
                                               refine pz_G_of pz_b126_136 ?_
                                               have hc26 : pz_R (pz_Sh L) 173 [.inl 1] (iv) (.inl none) (iv) := s_X10_needState_y 1 (by omega)
                                               refine w_callv hc26 rfl rfl ?_
                                               refine w_loc rfl ?_
                                               refine w_getR (q := 3) is_2 rf_2_0 ?_
                                               refine w_getR (q := 10) is_3 rf_3_2 ?_
                                               refine w_loc rfl ?_
                                               refine w_loc rfl ?_
                                               refine w_loc rfl ?_
                                               refine w_loc rfl ?_
                                               have hc27 : pz_R (pz_Sh L) 109 [.inr (.inl 10), .inl f, .inl t, .inl l, .inl g] (iv) (.inl (some (.inl (k 2)))) (pz_u1 (pz_u1 (pz_u1 (pz_u1 (pz_u1 iv 10 (pz_up (iv 10) 0 (k 2 + 1))) 11 (pz_up (iv 11) (k 2).toNat f)) 12 (pz_up (iv 12) (k 2).toNat t)) 13 (pz_up (iv 13) (k 2).toNat l)) 14 (pz_up (iv 14) (k 2).toNat g)) := pz_R_mem (s_X9_add f t l g (by exact hk) (by exact hS) (by omega)) (by rw [pz_u1_top (r := 10)]; rw [pz_u1_top (r := 11)]; rw [pz_u1_top (r := 12)]; rw [pz_u1_top (r := 13)]; rw [pz_u1_top (r := 14)]; rfl)
                                               refine w_call hc27 rfl (pz_cokI is_10 rfl) ?_
                                               refine w_loc (ls' := [some (.inr (.inl 2)), some (.inl f), some (.inl t), some (.inl l), some (.inl g), some (.inl (k 2))]) (st' := []) rfl ?_
                                               refine w_loc rfl ?_
                                               have hc28 : pz_R (pz_Sh L) 178 [.inr (.inl 2)] (pz_u1 (pz_u1 (pz_u1 (pz_u1 (pz_u1 iv 10 (pz_up (iv 10) 0 (k 2 + 1))) 11 (pz_up (iv 11) (k 2).toNat f)) 12 (pz_up (iv 12) (k 2).toNat t)) 13 (pz_up (iv 13) (k 2).toNat l)) 14 (pz_up (iv 14) (k 2).toNat g)) (.inl none) (pz_u1 (pz_u1 (pz_u1 (pz_u1 (pz_u1 (pz_u1 iv 2 (pz_up (pz_up (pz_up (iv 2) 7 0) 8 0) 9 0)) 10 (pz_up (iv 10) 0 (k 2 + 1))) 11 (pz_up (iv 11) (k 2).toNat f)) 12 (pz_up (iv 12) (k 2).toNat t)) 13 (pz_up (iv 13) (k 2).toNat l)) 14 (pz_up (iv 14) (k 2).toNat g)) := pz_R_mem (s_X10_forget) (by rw [pz_u1_in (r := 2) (q := 14) (by decide)]; rw [pz_u1_in (r := 2) (q := 13) (by decide)]; rw [pz_u1_in (r := 2) (q := 12) (by decide)]; rw [pz_u1_in (r := 2) (q := 11) (by decide)]; rw [pz_u1_in (r := 2) (q := 10) (by decide)]; rw [pz_u1_top (r := 2)]; rfl)
                                               refine w_callv hc28 rfl (pz_cokI is_2 rfl) ?_
                                               refine w_loc rfl ?_
                                               refine w_ret rfl ?_
                                               first | exact lf_i (by first | rfl | omega) (by rfl) | (exfalso; omega)))
                                     · first
                                       | (exfalso; first | omega | contradiction)
                                       | (refine w_loc rfl ?_
                                          refine w_getR (q := 3) is_2 rf_2_0 ?_
                                          refine w_getR (q := 15) is_3 rf_3_3 ?_
                                          refine w_loc rfl ?_
                                          have hc29 : pz_R (pz_Sh L) 26 [.inr (.inl 15), .inl f] (iv) (.inl (some (.inl (pz_bi (q_sta k f))))) (iv) := s_X2_hasStarted_15 f (by exact hk) (by exact hC) (by omega)
                                          refine w_call hc29 rfl (pz_cokI is_15 rfl) ?_
                                          refine w_bne (fun h30 => ?_) (fun h30 => ?_)
                                          · first
                                            | (exfalso; first | omega | contradiction)
                                            | (refine pz_G_of pz_b126_113 ?_
                                               refine w_pure rfl ?_
                                               refine w_nil ?_
                                               refine pz_G_of pz_b126_114 ?_
                                               have hc31 : pz_R (pz_Sh L) 173 [.inl 0] (iv) (.inr 0) (iv) := s_X10_needState_n 0 (by omega)
                                               refine w_calle hc31 rfl rfl rfl ?_
                                               first | exact lf_e (by rfl) | (exfalso; omega))
                                          · first
                                            | (exfalso; first | omega | contradiction)
                                            | (refine w_nil ?_
                                               refine pz_G_of pz_b126_109 ?_
                                               refine w_pure rfl ?_
                                               refine w_goto ?_
                                               refine pz_G_of pz_b126_114 ?_
                                               have hc32 : pz_R (pz_Sh L) 173 [.inl 1] (iv) (.inl none) (iv) := s_X10_needState_y 1 (by omega)
                                               refine w_callv hc32 rfl rfl ?_
                                               refine w_loc rfl ?_
                                               refine w_getR (q := 3) is_2 rf_2_0 ?_
                                               refine w_getR (q := 15) is_3 rf_3_3 ?_
                                               refine w_loc rfl ?_
                                               have hc33 : pz_R (pz_Sh L) 26 [.inr (.inl 15), .inl t] (iv) (.inl (some (.inl (pz_bi (q_sta k t))))) (iv) := s_X2_hasStarted_15 t (by exact hk) (by exact hC) (by omega)
                                               refine w_call hc33 rfl (pz_cokI is_15 rfl) ?_
                                               refine w_bne (fun h34 => ?_) (fun h34 => ?_)
                                               · first
                                                 | (exfalso; first | omega | contradiction)
                                                 | (refine pz_G_of pz_b126_135 ?_
                                                    refine w_pure rfl ?_
                                                    refine w_nil ?_
                                                    refine pz_G_of pz_b126_136 ?_
                                                    have hc35 : pz_R (pz_Sh L) 173 [.inl 0] (iv) (.inr 0) (iv) := s_X10_needState_n 0 (by omega)
                                                    refine w_calle hc35 rfl rfl rfl ?_
                                                    first | exact lf_e (by rfl) | (exfalso; omega))
                                               · first
                                                 | (exfalso; first | omega | contradiction)
                                                 | (refine w_pure rfl ?_
                                                    refine w_goto ?_
                                                    refine pz_G_of pz_b126_136 ?_
                                                    have hc36 : pz_R (pz_Sh L) 173 [.inl 1] (iv) (.inl none) (iv) := s_X10_needState_y 1 (by omega)
                                                    refine w_callv hc36 rfl rfl ?_
                                                    refine w_loc rfl ?_
                                                    refine w_getR (q := 3) is_2 rf_2_0 ?_
                                                    refine w_getR (q := 10) is_3 rf_3_2 ?_
                                                    refine w_loc rfl ?_
                                                    refine w_loc rfl ?_
                                                    refine w_loc rfl ?_
                                                    refine w_loc rfl ?_
                                                    have hc37 : pz_R (pz_Sh L) 109 [.inr (.inl 10), .inl f, .inl t, .inl l, .inl g] (iv) (.inl (some (.inl (k 2)))) (pz_u1 (pz_u1 (pz_u1 (pz_u1 (pz_u1 iv 10 (pz_up (iv 10) 0 (k 2 + 1))) 11 (pz_up (iv 11) (k 2).toNat f)) 12 (pz_up (iv 12) (k 2).toNat t)) 13 (pz_up (iv 13) (k 2).toNat l)) 14 (pz_up (iv 14) (k 2).toNat g)) := pz_R_mem (s_X9_add f t l g (by exact hk) (by exact hS) (by omega)) (by rw [pz_u1_top (r := 10)]; rw [pz_u1_top (r := 11)]; rw [pz_u1_top (r := 12)]; rw [pz_u1_top (r := 13)]; rw [pz_u1_top (r := 14)]; rfl)
                                                    refine w_call hc37 rfl (pz_cokI is_10 rfl) ?_
                                                    refine w_loc (ls' := [some (.inr (.inl 2)), some (.inl f), some (.inl t), some (.inl l), some (.inl g), some (.inl (k 2))]) (st' := []) rfl ?_
                                                    refine w_loc rfl ?_
                                                    have hc38 : pz_R (pz_Sh L) 178 [.inr (.inl 2)] (pz_u1 (pz_u1 (pz_u1 (pz_u1 (pz_u1 iv 10 (pz_up (iv 10) 0 (k 2 + 1))) 11 (pz_up (iv 11) (k 2).toNat f)) 12 (pz_up (iv 12) (k 2).toNat t)) 13 (pz_up (iv 13) (k 2).toNat l)) 14 (pz_up (iv 14) (k 2).toNat g)) (.inl none) (pz_u1 (pz_u1 (pz_u1 (pz_u1 (pz_u1 (pz_u1 iv 2 (pz_up (pz_up (pz_up (iv 2) 7 0) 8 0) 9 0)) 10 (pz_up (iv 10) 0 (k 2 + 1))) 11 (pz_up (iv 11) (k 2).toNat f)) 12 (pz_up (iv 12) (k 2).toNat t)) 13 (pz_up (iv 13) (k 2).toNat l)) 14 (pz_up (iv 14) (k 2).toNat g)) := pz_R_mem (s_X10_forget) (by rw [pz_u1_in (r := 2) (q := 14) (by decide)]; rw [pz_u1_in (r := 2) (q := 13) (by decide)]; rw [pz_u1_in (r := 2) (q := 12) (by decide)]; rw [pz_u1_in (r := 2) (q := 11) (by decide)]; rw [pz_u1_in (r := 2) (q := 10) (by decide)]; rw [pz_u1_top (r := 2)]; rfl)
                                                    refine w_callv hc38 rfl (pz_cokI is_2 rfl) ?_
                                                    refine w_loc rfl ?_
                                                    refine w_ret rfl ?_
                                                    first | exact lf_i (by first | rfl | omega) (by rfl) | (exfalso; omega)))))))
                      · first
                        | (exfalso; first | omega | contradiction)
                        | (have hc39 : pz_R (pz_Sh L) 172 [.inl (pz_bi (l ≤ g ∧ g ≤ 200))] (iv) (.inr 1) (iv) := s_X10_needRange_n (pz_bi (l ≤ g ∧ g ≤ 200)) (by exact pz_bi_0 h12)
                           refine w_calle hc39 rfl rfl rfl ?_
                           first | exact lf_e (by rfl) | (exfalso; omega)))
                 · first
                   | (exfalso; first | omega | contradiction)
                   | (have hc40 : pz_R (pz_Sh L) 172 [.inl (pz_bi (1 ≤ l ∧ l ≤ 200))] (iv) (.inr 1) (iv) := s_X10_needRange_n (pz_bi (1 ≤ l ∧ l ≤ 200)) (by exact pz_bi_0 h9)
                      refine w_calle hc40 rfl rfl rfl ?_
                      first | exact lf_e (by rfl) | (exfalso; omega))))
       · first
         | (exfalso; first | omega | contradiction)
         | (have hc41 : pz_R (pz_Sh L) 170 [.inr (.inl 2), .inl t] (iv) (.inr 2) (iv) := s_X10_needEvent_n t (by exact hE) (by exact h3)
            refine w_calle hc41 rfl (pz_cokI is_2 rfl) rfl ?_
            first | exact lf_e (by rfl) | (exfalso; omega)))
  · first
    | (exfalso; first | omega | contradiction)
    | (have hc42 : pz_R (pz_Sh L) 170 [.inr (.inl 2), .inl f] (iv) (.inr 2) (iv) := s_X10_needEvent_n f (by exact hE) (by exact h1)
       refine w_calle hc42 rfl (pz_cokI is_2 rfl) rfl ?_
       first | exact lf_e (by rfl) | (exfalso; omega))

theorem s_X10_addSpan_0 {L : Nat} {iv : Nat → Nat → Int} (f : Int) (t : Int) (l : Int) (g : Int) {k : Nat → Int} (hk : q_KR k) (hE : q_cE k (iv 3)) (hB : q_cB k (iv 4) (iv 5) (iv 6) (iv 7) (iv 8) (iv 9)) (hS : q_cS k (iv 10) (iv 11) (iv 12) (iv 13) (iv 14)) (hC : q_cC k (iv 15) (iv 16)) (hA : q_cA k (iv 17) (iv 18) (iv 19) (iv 20)) (hO : q_cO k (iv 22) (iv 23) (iv 24)) (hL : q_cL k (iv 25)) (hP : q_cP k (iv 27)) (hcase0 : 0 ≤ f ∧ f ≤ k 0 - 1 ∧ 0 ≤ t ∧ t ≤ k 0 - 1) (hcase1 : f < t ∧ 1 ≤ l ∧ l ≤ 200 ∧ l ≤ g ∧ g ≤ 200) (hcase2 : k 2 ≠ 3) (hcase3 : ¬ (q_exi (fun s => k (212 + 4 * s + 1).toNat = t) (k 2))) (hcase4 : ¬ (0 < f ∧ q_sta k f)) (hcase5 : ¬ q_sta k t) : pz_R (pz_Sh L) 126 [.inr (.inl 2), .inl f, .inl t, .inl l, .inl g] iv (.inl (some (.inl (k 2)))) (pz_u1 (pz_u1 (pz_u1 (pz_u1 (pz_u1 (pz_u1 iv 2 (pz_up (pz_up (pz_up (iv 2) 7 0) 8 0) 9 0)) 10 (pz_up (iv 10) 0 (k 2 + 1))) 11 (pz_up (iv 11) (k 2).toNat f)) 12 (pz_up (iv 12) (k 2).toNat t)) 13 (pz_up (iv 13) (k 2).toNat l)) 14 (pz_up (iv 14) (k 2).toNat g)) := by
  intro dv cc ss
  have hk0 := hk.r0
  have hE0 := hE
  have hB0 := hB.1
  have hS0 := hS.1
  have hC0 := hC.1
  have hA0 := hA.1
  have hwe : q_we k t = -1 := Classical.not_not.mp (fun q => hcase3 ((q_we_ie (by omega)).mp q))
  refine pz_G_mem (iv2 := pz_u1 (pz_u1 (pz_u1 (pz_u1 (pz_u1 (pz_u1 iv 2 (iv 2)) 10 (iv 10)) 11 (iv 11)) 12 (iv 12)) 13 (iv 13)) 14 (iv 14)) (by exact ((((((pz_u1_self iv 2).symm).trans (pz_u1_self (pz_u1 iv 2 (iv 2)) 10).symm).trans (pz_u1_self (pz_u1 (pz_u1 iv 2 (iv 2)) 10 (iv 10)) 11).symm).trans (pz_u1_self (pz_u1 (pz_u1 (pz_u1 iv 2 (iv 2)) 10 (iv 10)) 11 (iv 11)) 12).symm).trans (pz_u1_self (pz_u1 (pz_u1 (pz_u1 (pz_u1 iv 2 (iv 2)) 10 (iv 10)) 11 (iv 11)) 12 (iv 12)) 13).symm).trans (pz_u1_self (pz_u1 (pz_u1 (pz_u1 (pz_u1 (pz_u1 iv 2 (iv 2)) 10 (iv 10)) 11 (iv 11)) 12 (iv 12)) 13 (iv 13)) 14).symm) ?_
  show pz_G 126 0 [some (.inr (.inl 2)), some (.inl f), some (.inl t), some (.inl l), some (.inl g), none] [] (pz_Sh L, pz_u1 (pz_u1 (pz_u1 (pz_u1 (pz_u1 (pz_u1 iv 2 (iv 2)) 10 (iv 10)) 11 (iv 11)) 12 (iv 12)) 13 (iv 13)) 14 (iv 14), dv, cc, ss) (pz_P (pz_Sh L) (.inl (some (.inl (k 2)))) (pz_u1 (pz_u1 (pz_u1 (pz_u1 (pz_u1 (pz_u1 iv 2 (pz_up (pz_up (pz_up (iv 2) 7 0) 8 0) 9 0)) 10 (pz_up (iv 10) 0 (k 2 + 1))) 11 (pz_up (iv 11) (k 2).toNat f)) 12 (pz_up (iv 12) (k 2).toNat t)) 13 (pz_up (iv 13) (k 2).toNat l)) 14 (pz_up (iv 14) (k 2).toNat g)) dv cc ss)
  refine pz_G_of pz_b126_0 ?_
  refine w_loc rfl ?_
  refine w_loc rfl ?_
  by_cases h1 : 0 ≤ f ∧ f < k 0
  · first
    | (exfalso; first | omega | contradiction)
    | (have hc2 : pz_R (pz_Sh L) 170 [.inr (.inl 2), .inl f] (pz_u1 (pz_u1 (pz_u1 (pz_u1 (pz_u1 (pz_u1 iv 2 (iv 2)) 10 (iv 10)) 11 (iv 11)) 12 (iv 12)) 13 (iv 13)) 14 (iv 14)) (.inl none) (pz_u1 (pz_u1 (pz_u1 (pz_u1 (pz_u1 (pz_u1 iv 2 (iv 2)) 10 (iv 10)) 11 (iv 11)) 12 (iv 12)) 13 (iv 13)) 14 (iv 14)) := s_X10_needEvent_y f (by show q_cE k (iv 3); exact hE) (by show 0 ≤ f ∧ f < k 0; exact h1)
       refine w_callv hc2 rfl (pz_cokI is_2 rfl) ?_
       refine w_loc rfl ?_
       refine w_loc rfl ?_
       by_cases h3 : 0 ≤ t ∧ t < k 0
       · first
         | (exfalso; first | omega | contradiction)
         | (have hc4 : pz_R (pz_Sh L) 170 [.inr (.inl 2), .inl t] (pz_u1 (pz_u1 (pz_u1 (pz_u1 (pz_u1 (pz_u1 iv 2 (iv 2)) 10 (iv 10)) 11 (iv 11)) 12 (iv 12)) 13 (iv 13)) 14 (iv 14)) (.inl none) (pz_u1 (pz_u1 (pz_u1 (pz_u1 (pz_u1 (pz_u1 iv 2 (iv 2)) 10 (iv 10)) 11 (iv 11)) 12 (iv 12)) 13 (iv 13)) 14 (iv 14)) := s_X10_needEvent_y t (by show q_cE k (iv 3); exact hE) (by show 0 ≤ t ∧ t < k 0; exact h3)
            refine w_callv hc4 rfl (pz_cokI is_2 rfl) ?_
            refine w_loc rfl ?_
            refine w_loc rfl ?_
            refine w_ile (fun h5 => ?_) (fun h5 => ?_)
            · first
              | (exfalso; first | omega | contradiction)
              | (refine pz_G_of pz_b126_19 ?_
                 refine w_pure rfl ?_
                 refine w_nil ?_
                 refine pz_G_of pz_b126_20 ?_
                 have hc6 : pz_R (pz_Sh L) 172 [.inl 0] (pz_u1 (pz_u1 (pz_u1 (pz_u1 (pz_u1 (pz_u1 iv 2 (iv 2)) 10 (iv 10)) 11 (iv 11)) 12 (iv 12)) 13 (iv 13)) 14 (iv 14)) (.inr 1) (pz_u1 (pz_u1 (pz_u1 (pz_u1 (pz_u1 (pz_u1 iv 2 (iv 2)) 10 (iv 10)) 11 (iv 11)) 12 (iv 12)) 13 (iv 13)) 14 (iv 14)) := s_X10_needRange_n 0 (by show 0 = 0; omega)
                 refine w_calle hc6 rfl rfl rfl ?_
                 first | exact lf_e (by rfl) | (exfalso; omega))
            · first
              | (exfalso; first | omega | contradiction)
              | (refine w_pure rfl ?_
                 refine w_goto ?_
                 refine pz_G_of pz_b126_20 ?_
                 have hc7 : pz_R (pz_Sh L) 172 [.inl 1] (pz_u1 (pz_u1 (pz_u1 (pz_u1 (pz_u1 (pz_u1 iv 2 (iv 2)) 10 (iv 10)) 11 (iv 11)) 12 (iv 12)) 13 (iv 13)) 14 (iv 14)) (.inl none) (pz_u1 (pz_u1 (pz_u1 (pz_u1 (pz_u1 (pz_u1 iv 2 (iv 2)) 10 (iv 10)) 11 (iv 11)) 12 (iv 12)) 13 (iv 13)) 14 (iv 14)) := s_X10_needRange_y 1 (by show 1 ≠ 0; omega)
                 refine w_callv hc7 rfl rfl ?_
                 refine w_loc rfl ?_
                 refine w_pure rfl ?_
                 refine w_pure rfl ?_
                 have hc8 : pz_R (pz_Sh L) 185 [.inl l, .inl 1, .inl 200] (pz_u1 (pz_u1 (pz_u1 (pz_u1 (pz_u1 (pz_u1 iv 2 (iv 2)) 10 (iv 10)) 11 (iv 11)) 12 (iv 12)) 13 (iv 13)) 14 (iv 14)) (.inl (some (.inl (pz_bi (1 ≤ l ∧ l ≤ 200))))) (pz_u1 (pz_u1 (pz_u1 (pz_u1 (pz_u1 (pz_u1 iv 2 (iv 2)) 10 (iv 10)) 11 (iv 11)) 12 (iv 12)) 13 (iv 13)) 14 (iv 14)) := s_X10_isWithin l 1 200
                 refine w_call hc8 rfl rfl ?_
                 by_cases h9 : 1 ≤ l ∧ l ≤ 200
                 · first
                   | (exfalso; first | omega | contradiction)
                   | (have hc10 : pz_R (pz_Sh L) 172 [.inl (pz_bi (1 ≤ l ∧ l ≤ 200))] (pz_u1 (pz_u1 (pz_u1 (pz_u1 (pz_u1 (pz_u1 iv 2 (iv 2)) 10 (iv 10)) 11 (iv 11)) 12 (iv 12)) 13 (iv 13)) 14 (iv 14)) (.inl none) (pz_u1 (pz_u1 (pz_u1 (pz_u1 (pz_u1 (pz_u1 iv 2 (iv 2)) 10 (iv 10)) 11 (iv 11)) 12 (iv 12)) 13 (iv 13)) 14 (iv 14)) := s_X10_needRange_y (pz_bi (1 ≤ l ∧ l ≤ 200)) (by show (pz_bi (1 ≤ l ∧ l ≤ 200)) ≠ 0; exact pz_bi_p1 h9)
                      refine w_callv hc10 rfl rfl ?_
                      refine w_loc rfl ?_
                      refine w_loc rfl ?_
                      refine w_pure rfl ?_
                      have hc11 : pz_R (pz_Sh L) 185 [.inl g, .inl l, .inl 200] (pz_u1 (pz_u1 (pz_u1 (pz_u1 (pz_u1 (pz_u1 iv 2 (iv 2)) 10 (iv 10)) 11 (iv 11)) 12 (iv 12)) 13 (iv 13)) 14 (iv 14)) (.inl (some (.inl (pz_bi (l ≤ g ∧ g ≤ 200))))) (pz_u1 (pz_u1 (pz_u1 (pz_u1 (pz_u1 (pz_u1 iv 2 (iv 2)) 10 (iv 10)) 11 (iv 11)) 12 (iv 12)) 13 (iv 13)) 14 (iv 14)) := s_X10_isWithin g l 200
                      refine w_call hc11 rfl rfl ?_
                      by_cases h12 : l ≤ g ∧ g ≤ 200
                      · first
                        | (exfalso; first | omega | contradiction)
                        | (have hc13 : pz_R (pz_Sh L) 172 [.inl (pz_bi (l ≤ g ∧ g ≤ 200))] (pz_u1 (pz_u1 (pz_u1 (pz_u1 (pz_u1 (pz_u1 iv 2 (iv 2)) 10 (iv 10)) 11 (iv 11)) 12 (iv 12)) 13 (iv 13)) 14 (iv 14)) (.inl none) (pz_u1 (pz_u1 (pz_u1 (pz_u1 (pz_u1 (pz_u1 iv 2 (iv 2)) 10 (iv 10)) 11 (iv 11)) 12 (iv 12)) 13 (iv 13)) 14 (iv 14)) := s_X10_needRange_y (pz_bi (l ≤ g ∧ g ≤ 200)) (by show (pz_bi (l ≤ g ∧ g ≤ 200)) ≠ 0; exact pz_bi_p1 h12)
                           refine w_callv hc13 rfl rfl ?_
                           refine w_loc rfl ?_
                           refine w_getR (q := 3) is_2 rf_2_0 ?_
                           refine w_getR (q := 10) is_3 rf_3_2 ?_
                           refine w_getI (v := (iv 10) 0) is_10 (by decide) rfl ?_
                           refine w_pure rfl ?_
                           refine w_ige (fun h14 => ?_) (fun h14 => ?_)
                           · first
                             | (exfalso; first | omega | contradiction)
                             | (refine pz_G_of pz_b126_64 ?_
                                refine w_pure rfl ?_
                                refine w_nil ?_
                                refine pz_G_of pz_b126_65 ?_
                                have hc15 : pz_R (pz_Sh L) 173 [.inl 0] (pz_u1 (pz_u1 (pz_u1 (pz_u1 (pz_u1 (pz_u1 iv 2 (iv 2)) 10 (iv 10)) 11 (iv 11)) 12 (iv 12)) 13 (iv 13)) 14 (iv 14)) (.inr 0) (pz_u1 (pz_u1 (pz_u1 (pz_u1 (pz_u1 (pz_u1 iv 2 (iv 2)) 10 (iv 10)) 11 (iv 11)) 12 (iv 12)) 13 (iv 13)) 14 (iv 14)) := s_X10_needState_n 0 (by show 0 = 0; omega)
                                refine w_calle hc15 rfl rfl rfl ?_
                                first | exact lf_e (by rfl) | (exfalso; omega))
                           · first
                             | (exfalso; first | omega | contradiction)
                             | (refine w_pure rfl ?_
                                refine w_goto ?_
                                refine pz_G_of pz_b126_65 ?_
                                have hc16 : pz_R (pz_Sh L) 173 [.inl 1] (pz_u1 (pz_u1 (pz_u1 (pz_u1 (pz_u1 (pz_u1 iv 2 (iv 2)) 10 (iv 10)) 11 (iv 11)) 12 (iv 12)) 13 (iv 13)) 14 (iv 14)) (.inl none) (pz_u1 (pz_u1 (pz_u1 (pz_u1 (pz_u1 (pz_u1 iv 2 (iv 2)) 10 (iv 10)) 11 (iv 11)) 12 (iv 12)) 13 (iv 13)) 14 (iv 14)) := s_X10_needState_y 1 (by show 1 ≠ 0; omega)
                                refine w_callv hc16 rfl rfl ?_
                                refine w_loc rfl ?_
                                refine w_getR (q := 3) is_2 rf_2_0 ?_
                                refine w_getR (q := 10) is_3 rf_3_2 ?_
                                refine w_loc rfl ?_
                                have hc17 : pz_R (pz_Sh L) 115 [.inr (.inl 10), .inl t] (pz_u1 (pz_u1 (pz_u1 (pz_u1 (pz_u1 (pz_u1 iv 2 (iv 2)) 10 (iv 10)) 11 (iv 11)) 12 (iv 12)) 13 (iv 13)) 14 (iv 14)) (.inl (some (.inl (q_we k t)))) (pz_u1 (pz_u1 (pz_u1 (pz_u1 (pz_u1 (pz_u1 iv 2 (iv 2)) 10 (iv 10)) 11 (iv 11)) 12 (iv 12)) 13 (iv 13)) 14 (iv 14)) := s_X9_withEnd t (by show q_KR k; exact hk) (by show q_cS k (iv 10) (iv 11) (iv 12) (iv 13) (iv 14); exact hS)
                                refine w_call hc17 rfl (pz_cokI is_10 rfl) ?_
                                refine w_pure rfl ?_
                                refine w_ine (fun h18 => ?_) (fun h18 => ?_)
                                · first
                                  | (exfalso; first | omega | contradiction)
                                  | (refine pz_G_of pz_b126_87 ?_
                                     refine w_pure rfl ?_
                                     refine w_nil ?_
                                     refine pz_G_of pz_b126_88 ?_
                                     have hc19 : pz_R (pz_Sh L) 173 [.inl 0] (pz_u1 (pz_u1 (pz_u1 (pz_u1 (pz_u1 (pz_u1 iv 2 (iv 2)) 10 (iv 10)) 11 (iv 11)) 12 (iv 12)) 13 (iv 13)) 14 (iv 14)) (.inr 0) (pz_u1 (pz_u1 (pz_u1 (pz_u1 (pz_u1 (pz_u1 iv 2 (iv 2)) 10 (iv 10)) 11 (iv 11)) 12 (iv 12)) 13 (iv 13)) 14 (iv 14)) := s_X10_needState_n 0 (by show 0 = 0; omega)
                                     refine w_calle hc19 rfl rfl rfl ?_
                                     first | exact lf_e (by rfl) | (exfalso; omega))
                                · first
                                  | (exfalso; first | omega | contradiction)
                                  | (refine w_pure rfl ?_
                                     refine w_goto ?_
                                     refine pz_G_of pz_b126_88 ?_
                                     have hc20 : pz_R (pz_Sh L) 173 [.inl 1] (pz_u1 (pz_u1 (pz_u1 (pz_u1 (pz_u1 (pz_u1 iv 2 (iv 2)) 10 (iv 10)) 11 (iv 11)) 12 (iv 12)) 13 (iv 13)) 14 (iv 14)) (.inl none) (pz_u1 (pz_u1 (pz_u1 (pz_u1 (pz_u1 (pz_u1 iv 2 (iv 2)) 10 (iv 10)) 11 (iv 11)) 12 (iv 12)) 13 (iv 13)) 14 (iv 14)) := s_X10_needState_y 1 (by show 1 ≠ 0; omega)
                                     refine w_callv hc20 rfl rfl ?_
                                     refine w_loc rfl ?_
                                     refine w_zeq (fun h21 => ?_) (fun h21 => ?_)
                                     · first
                                       | (exfalso; first | omega | contradiction)
                                       | (refine pz_G_of pz_b126_109 ?_
                                          refine w_pure rfl ?_
                                          refine w_goto ?_
                                          refine pz_G_of pz_b126_114 ?_
                                          have hc22 : pz_R (pz_Sh L) 173 [.inl 1] (pz_u1 (pz_u1 (pz_u1 (pz_u1 (pz_u1 (pz_u1 iv 2 (iv 2)) 10 (iv 10)) 11 (iv 11)) 12 (iv 12)) 13 (iv 13)) 14 (iv 14)) (.inl none) (pz_u1 (pz_u1 (pz_u1 (pz_u1 (pz_u1 (pz_u1 iv 2 (iv 2)) 10 (iv 10)) 11 (iv 11)) 12 (iv 12)) 13 (iv 13)) 14 (iv 14)) := s_X10_needState_y 1 (by show 1 ≠ 0; omega)
                                          refine w_callv hc22 rfl rfl ?_
                                          refine w_loc rfl ?_
                                          refine w_getR (q := 3) is_2 rf_2_0 ?_
                                          refine w_getR (q := 15) is_3 rf_3_3 ?_
                                          refine w_loc rfl ?_
                                          have hc23 : pz_R (pz_Sh L) 26 [.inr (.inl 15), .inl t] (pz_u1 (pz_u1 (pz_u1 (pz_u1 (pz_u1 (pz_u1 iv 2 (iv 2)) 10 (iv 10)) 11 (iv 11)) 12 (iv 12)) 13 (iv 13)) 14 (iv 14)) (.inl (some (.inl (pz_bi (q_sta k t))))) (pz_u1 (pz_u1 (pz_u1 (pz_u1 (pz_u1 (pz_u1 iv 2 (iv 2)) 10 (iv 10)) 11 (iv 11)) 12 (iv 12)) 13 (iv 13)) 14 (iv 14)) := s_X2_hasStarted_15 t (by show q_KR k; exact hk) (by show q_cC k (iv 15) (iv 16); exact hC) (by show 0 ≤ t ∧ t ≤ 9; omega)
                                          refine w_call hc23 rfl (pz_cokI is_15 rfl) ?_
                                          refine w_bne (fun h24 => ?_) (fun h24 => ?_)
                                          · first
                                            | (exfalso; first | omega | contradiction)
                                            | (refine pz_G_of pz_b126_135 ?_
                                               refine w_pure rfl ?_
                                               refine w_nil ?_
                                               refine pz_G_of pz_b126_136 ?_
                                               have hc25 : pz_R (pz_Sh L) 173 [.inl 0] (pz_u1 (pz_u1 (pz_u1 (pz_u1 (pz_u1 (pz_u1 iv 2 (iv 2)) 10 (iv 10)) 11 (iv 11)) 12 (iv 12)) 13 (iv 13)) 14 (iv 14)) (.inr 0) (pz_u1 (pz_u1 (pz_u1 (pz_u1 (pz_u1 (pz_u1 iv 2 (iv 2)) 10 (iv 10)) 11 (iv 11)) 12 (iv 12)) 13 (iv 13)) 14 (iv 14)) := s_X10_needState_n 0 (by show 0 = 0; omega)
                                               refine w_calle hc25 rfl rfl rfl ?_
                                               first | exact lf_e (by rfl) | (exfalso; omega))
                                          · first
                                            | (exfalso; first | omega | contradiction)
                                            | (refine w_pure rfl ?_
                                               refine w_goto ?_
                                               refine pz_G_of pz_b126_136 ?_
                                               have hc26 : pz_R (pz_Sh L) 173 [.inl 1] (pz_u1 (pz_u1 (pz_u1 (pz_u1 (pz_u1 (pz_u1 iv 2 (iv 2)) 10 (iv 10)) 11 (iv 11)) 12 (iv 12)) 13 (iv 13)) 14 (iv 14)) (.inl none) (pz_u1 (pz_u1 (pz_u1 (pz_u1 (pz_u1 (pz_u1 iv 2 (iv 2)) 10 (iv 10)) 11 (iv 11)) 12 (iv 12)) 13 (iv 13)) 14 (iv 14)) := s_X10_needState_y 1 (by show 1 ≠ 0; omega)
                                               refine w_callv hc26 rfl rfl ?_
                                               refine w_loc rfl ?_
                                               refine w_getR (q := 3) is_2 rf_2_0 ?_
                                               refine w_getR (q := 10) is_3 rf_3_2 ?_
                                               refine w_loc rfl ?_
                                               refine w_loc rfl ?_
                                               refine w_loc rfl ?_
                                               refine w_loc rfl ?_
                                               have hc27 : pz_R (pz_Sh L) 109 [.inr (.inl 10), .inl f, .inl t, .inl l, .inl g] (pz_u1 (pz_u1 (pz_u1 (pz_u1 (pz_u1 (pz_u1 iv 2 (iv 2)) 10 (iv 10)) 11 (iv 11)) 12 (iv 12)) 13 (iv 13)) 14 (iv 14)) (.inl (some (.inl (k 2)))) (pz_u1 (pz_u1 (pz_u1 (pz_u1 (pz_u1 (pz_u1 iv 2 (iv 2)) 10 (pz_up (iv 10) 0 (k 2 + 1))) 11 (pz_up (iv 11) (k 2).toNat f)) 12 (pz_up (iv 12) (k 2).toNat t)) 13 (pz_up (iv 13) (k 2).toNat l)) 14 (pz_up (iv 14) (k 2).toNat g)) := pz_R_mem (s_X9_add f t l g (by show q_KR k; exact hk) (by show q_cS k (iv 10) (iv 11) (iv 12) (iv 13) (iv 14); exact hS) (by show k 2 < 3; omega)) (by rw [pz_u1_in (r := 10) (q := 14) (by decide)]; rw [pz_u1_in (r := 10) (q := 13) (by decide)]; rw [pz_u1_in (r := 10) (q := 12) (by decide)]; rw [pz_u1_in (r := 10) (q := 11) (by decide)]; rw [pz_u1_top (r := 10)]; rw [pz_u1_in (r := 11) (q := 14) (by decide)]; rw [pz_u1_in (r := 11) (q := 13) (by decide)]; rw [pz_u1_in (r := 11) (q := 12) (by decide)]; rw [pz_u1_top (r := 11)]; rw [pz_u1_in (r := 12) (q := 14) (by decide)]; rw [pz_u1_in (r := 12) (q := 13) (by decide)]; rw [pz_u1_top (r := 12)]; rw [pz_u1_in (r := 13) (q := 14) (by decide)]; rw [pz_u1_top (r := 13)]; rw [pz_u1_top (r := 14)]; rfl)
                                               refine w_call hc27 rfl (pz_cokI is_10 rfl) ?_
                                               refine w_loc (ls' := [some (.inr (.inl 2)), some (.inl f), some (.inl t), some (.inl l), some (.inl g), some (.inl (k 2))]) (st' := []) rfl ?_
                                               refine w_loc rfl ?_
                                               have hc28 : pz_R (pz_Sh L) 178 [.inr (.inl 2)] (pz_u1 (pz_u1 (pz_u1 (pz_u1 (pz_u1 (pz_u1 iv 2 (iv 2)) 10 (pz_up (iv 10) 0 (k 2 + 1))) 11 (pz_up (iv 11) (k 2).toNat f)) 12 (pz_up (iv 12) (k 2).toNat t)) 13 (pz_up (iv 13) (k 2).toNat l)) 14 (pz_up (iv 14) (k 2).toNat g)) (.inl none) (pz_u1 (pz_u1 (pz_u1 (pz_u1 (pz_u1 (pz_u1 iv 2 (pz_up (pz_up (pz_up (iv 2) 7 0) 8 0) 9 0)) 10 (pz_up (iv 10) 0 (k 2 + 1))) 11 (pz_up (iv 11) (k 2).toNat f)) 12 (pz_up (iv 12) (k 2).toNat t)) 13 (pz_up (iv 13) (k 2).toNat l)) 14 (pz_up (iv 14) (k 2).toNat g)) := pz_R_mem (s_X10_forget) (by rw [pz_u1_in (r := 2) (q := 14) (by decide)]; rw [pz_u1_in (r := 2) (q := 13) (by decide)]; rw [pz_u1_in (r := 2) (q := 12) (by decide)]; rw [pz_u1_in (r := 2) (q := 11) (by decide)]; rw [pz_u1_in (r := 2) (q := 10) (by decide)]; rw [pz_u1_top (r := 2)]; rfl)
                                               refine w_callv hc28 rfl (pz_cokI is_2 rfl) ?_
                                               refine w_loc rfl ?_
                                               refine w_ret rfl ?_
                                               first | exact lf_i (by first | rfl | omega) (by rfl) | (exfalso; omega)))
                                     · first
                                       | (exfalso; first | omega | contradiction)
                                       | (refine w_loc rfl ?_
                                          refine w_getR (q := 3) is_2 rf_2_0 ?_
                                          refine w_getR (q := 15) is_3 rf_3_3 ?_
                                          refine w_loc rfl ?_
                                          have hc29 : pz_R (pz_Sh L) 26 [.inr (.inl 15), .inl f] (pz_u1 (pz_u1 (pz_u1 (pz_u1 (pz_u1 (pz_u1 iv 2 (iv 2)) 10 (iv 10)) 11 (iv 11)) 12 (iv 12)) 13 (iv 13)) 14 (iv 14)) (.inl (some (.inl (pz_bi (q_sta k f))))) (pz_u1 (pz_u1 (pz_u1 (pz_u1 (pz_u1 (pz_u1 iv 2 (iv 2)) 10 (iv 10)) 11 (iv 11)) 12 (iv 12)) 13 (iv 13)) 14 (iv 14)) := s_X2_hasStarted_15 f (by show q_KR k; exact hk) (by show q_cC k (iv 15) (iv 16); exact hC) (by show 0 ≤ f ∧ f ≤ 9; omega)
                                          refine w_call hc29 rfl (pz_cokI is_15 rfl) ?_
                                          refine w_bne (fun h30 => ?_) (fun h30 => ?_)
                                          · first
                                            | (exfalso; first | omega | contradiction)
                                            | (refine pz_G_of pz_b126_113 ?_
                                               refine w_pure rfl ?_
                                               refine w_nil ?_
                                               refine pz_G_of pz_b126_114 ?_
                                               have hc31 : pz_R (pz_Sh L) 173 [.inl 0] (pz_u1 (pz_u1 (pz_u1 (pz_u1 (pz_u1 (pz_u1 iv 2 (iv 2)) 10 (iv 10)) 11 (iv 11)) 12 (iv 12)) 13 (iv 13)) 14 (iv 14)) (.inr 0) (pz_u1 (pz_u1 (pz_u1 (pz_u1 (pz_u1 (pz_u1 iv 2 (iv 2)) 10 (iv 10)) 11 (iv 11)) 12 (iv 12)) 13 (iv 13)) 14 (iv 14)) := s_X10_needState_n 0 (by show 0 = 0; omega)
                                               refine w_calle hc31 rfl rfl rfl ?_
                                               first | exact lf_e (by rfl) | (exfalso; omega))
                                          · first
                                            | (exfalso; first | omega | contradiction)
                                            | (refine w_nil ?_
                                               refine pz_G_of pz_b126_109 ?_
                                               refine w_pure rfl ?_
                                               refine w_goto ?_
                                               refine pz_G_of pz_b126_114 ?_
                                               have hc32 : pz_R (pz_Sh L) 173 [.inl 1] (pz_u1 (pz_u1 (pz_u1 (pz_u1 (pz_u1 (pz_u1 iv 2 (iv 2)) 10 (iv 10)) 11 (iv 11)) 12 (iv 12)) 13 (iv 13)) 14 (iv 14)) (.inl none) (pz_u1 (pz_u1 (pz_u1 (pz_u1 (pz_u1 (pz_u1 iv 2 (iv 2)) 10 (iv 10)) 11 (iv 11)) 12 (iv 12)) 13 (iv 13)) 14 (iv 14)) := s_X10_needState_y 1 (by show 1 ≠ 0; omega)
                                               refine w_callv hc32 rfl rfl ?_
                                               refine w_loc rfl ?_
                                               refine w_getR (q := 3) is_2 rf_2_0 ?_
                                               refine w_getR (q := 15) is_3 rf_3_3 ?_
                                               refine w_loc rfl ?_
                                               have hc33 : pz_R (pz_Sh L) 26 [.inr (.inl 15), .inl t] (pz_u1 (pz_u1 (pz_u1 (pz_u1 (pz_u1 (pz_u1 iv 2 (iv 2)) 10 (iv 10)) 11 (iv 11)) 12 (iv 12)) 13 (iv 13)) 14 (iv 14)) (.inl (some (.inl (pz_bi (q_sta k t))))) (pz_u1 (pz_u1 (pz_u1 (pz_u1 (pz_u1 (pz_u1 iv 2 (iv 2)) 10 (iv 10)) 11 (iv 11)) 12 (iv 12)) 13 (iv 13)) 14 (iv 14)) := s_X2_hasStarted_15 t (by show q_KR k; exact hk) (by show q_cC k (iv 15) (iv 16); exact hC) (by show 0 ≤ t ∧ t ≤ 9; omega)
                                               refine w_call hc33 rfl (pz_cokI is_15 rfl) ?_
                                               refine w_bne (fun h34 => ?_) (fun h34 => ?_)
                                               · first
                                                 | (exfalso; first | omega | contradiction)
                                                 | (refine pz_G_of pz_b126_135 ?_
                                                    refine w_pure rfl ?_
                                                    refine w_nil ?_
                                                    refine pz_G_of pz_b126_136 ?_
                                                    have hc35 : pz_R (pz_Sh L) 173 [.inl 0] (pz_u1 (pz_u1 (pz_u1 (pz_u1 (pz_u1 (pz_u1 iv 2 (iv 2)) 10 (iv 10)) 11 (iv 11)) 12 (iv 12)) 13 (iv 13)) 14 (iv 14)) (.inr 0) (pz_u1 (pz_u1 (pz_u1 (pz_u1 (pz_u1 (pz_u1 iv 2 (iv 2)) 10 (iv 10)) 11 (iv 11)) 12 (iv 12)) 13 (iv 13)) 14 (iv 14)) := s_X10_needState_n 0 (by show 0 = 0; omega)
                                                    refine w_calle hc35 rfl rfl rfl ?_
                                                    first | exact lf_e (by rfl) | (exfalso; omega))
                                               · first
                                                 | (exfalso; first | omega | contradiction)
                                                 | (refine w_pure rfl ?_
                                                    refine w_goto ?_
                                                    refine pz_G_of pz_b126_136 ?_
                                                    have hc36 : pz_R (pz_Sh L) 173 [.inl 1] (pz_u1 (pz_u1 (pz_u1 (pz_u1 (pz_u1 (pz_u1 iv 2 (iv 2)) 10 (iv 10)) 11 (iv 11)) 12 (iv 12)) 13 (iv 13)) 14 (iv 14)) (.inl none) (pz_u1 (pz_u1 (pz_u1 (pz_u1 (pz_u1 (pz_u1 iv 2 (iv 2)) 10 (iv 10)) 11 (iv 11)) 12 (iv 12)) 13 (iv 13)) 14 (iv 14)) := s_X10_needState_y 1 (by show 1 ≠ 0; omega)
                                                    refine w_callv hc36 rfl rfl ?_
                                                    refine w_loc rfl ?_
                                                    refine w_getR (q := 3) is_2 rf_2_0 ?_
                                                    refine w_getR (q := 10) is_3 rf_3_2 ?_
                                                    refine w_loc rfl ?_
                                                    refine w_loc rfl ?_
                                                    refine w_loc rfl ?_
                                                    refine w_loc rfl ?_
                                                    have hc37 : pz_R (pz_Sh L) 109 [.inr (.inl 10), .inl f, .inl t, .inl l, .inl g] (pz_u1 (pz_u1 (pz_u1 (pz_u1 (pz_u1 (pz_u1 iv 2 (iv 2)) 10 (iv 10)) 11 (iv 11)) 12 (iv 12)) 13 (iv 13)) 14 (iv 14)) (.inl (some (.inl (k 2)))) (pz_u1 (pz_u1 (pz_u1 (pz_u1 (pz_u1 (pz_u1 iv 2 (iv 2)) 10 (pz_up (iv 10) 0 (k 2 + 1))) 11 (pz_up (iv 11) (k 2).toNat f)) 12 (pz_up (iv 12) (k 2).toNat t)) 13 (pz_up (iv 13) (k 2).toNat l)) 14 (pz_up (iv 14) (k 2).toNat g)) := pz_R_mem (s_X9_add f t l g (by show q_KR k; exact hk) (by show q_cS k (iv 10) (iv 11) (iv 12) (iv 13) (iv 14); exact hS) (by show k 2 < 3; omega)) (by rw [pz_u1_in (r := 10) (q := 14) (by decide)]; rw [pz_u1_in (r := 10) (q := 13) (by decide)]; rw [pz_u1_in (r := 10) (q := 12) (by decide)]; rw [pz_u1_in (r := 10) (q := 11) (by decide)]; rw [pz_u1_top (r := 10)]; rw [pz_u1_in (r := 11) (q := 14) (by decide)]; rw [pz_u1_in (r := 11) (q := 13) (by decide)]; rw [pz_u1_in (r := 11) (q := 12) (by decide)]; rw [pz_u1_top (r := 11)]; rw [pz_u1_in (r := 12) (q := 14) (by decide)]; rw [pz_u1_in (r := 12) (q := 13) (by decide)]; rw [pz_u1_top (r := 12)]; rw [pz_u1_in (r := 13) (q := 14) (by decide)]; rw [pz_u1_top (r := 13)]; rw [pz_u1_top (r := 14)]; rfl)
                                                    refine w_call hc37 rfl (pz_cokI is_10 rfl) ?_
                                                    refine w_loc (ls' := [some (.inr (.inl 2)), some (.inl f), some (.inl t), some (.inl l), some (.inl g), some (.inl (k 2))]) (st' := []) rfl ?_
                                                    refine w_loc rfl ?_
                                                    have hc38 : pz_R (pz_Sh L) 178 [.inr (.inl 2)] (pz_u1 (pz_u1 (pz_u1 (pz_u1 (pz_u1 (pz_u1 iv 2 (iv 2)) 10 (pz_up (iv 10) 0 (k 2 + 1))) 11 (pz_up (iv 11) (k 2).toNat f)) 12 (pz_up (iv 12) (k 2).toNat t)) 13 (pz_up (iv 13) (k 2).toNat l)) 14 (pz_up (iv 14) (k 2).toNat g)) (.inl none) (pz_u1 (pz_u1 (pz_u1 (pz_u1 (pz_u1 (pz_u1 iv 2 (pz_up (pz_up (pz_up (iv 2) 7 0) 8 0) 9 0)) 10 (pz_up (iv 10) 0 (k 2 + 1))) 11 (pz_up (iv 11) (k 2).toNat f)) 12 (pz_up (iv 12) (k 2).toNat t)) 13 (pz_up (iv 13) (k 2).toNat l)) 14 (pz_up (iv 14) (k 2).toNat g)) := pz_R_mem (s_X10_forget) (by rw [pz_u1_in (r := 2) (q := 14) (by decide)]; rw [pz_u1_in (r := 2) (q := 13) (by decide)]; rw [pz_u1_in (r := 2) (q := 12) (by decide)]; rw [pz_u1_in (r := 2) (q := 11) (by decide)]; rw [pz_u1_in (r := 2) (q := 10) (by decide)]; rw [pz_u1_top (r := 2)]; rfl)
                                                    refine w_callv hc38 rfl (pz_cokI is_2 rfl) ?_
                                                    refine w_loc rfl ?_
                                                    refine w_ret rfl ?_
                                                    first | exact lf_i (by first | rfl | omega) (by rfl) | (exfalso; omega)))))))
                      · first
                        | (exfalso; first | omega | contradiction)
                        | (have hc39 : pz_R (pz_Sh L) 172 [.inl (pz_bi (l ≤ g ∧ g ≤ 200))] (pz_u1 (pz_u1 (pz_u1 (pz_u1 (pz_u1 (pz_u1 iv 2 (iv 2)) 10 (iv 10)) 11 (iv 11)) 12 (iv 12)) 13 (iv 13)) 14 (iv 14)) (.inr 1) (pz_u1 (pz_u1 (pz_u1 (pz_u1 (pz_u1 (pz_u1 iv 2 (iv 2)) 10 (iv 10)) 11 (iv 11)) 12 (iv 12)) 13 (iv 13)) 14 (iv 14)) := s_X10_needRange_n (pz_bi (l ≤ g ∧ g ≤ 200)) (by show (pz_bi (l ≤ g ∧ g ≤ 200)) = 0; exact pz_bi_0 h12)
                           refine w_calle hc39 rfl rfl rfl ?_
                           first | exact lf_e (by rfl) | (exfalso; omega)))
                 · first
                   | (exfalso; first | omega | contradiction)
                   | (have hc40 : pz_R (pz_Sh L) 172 [.inl (pz_bi (1 ≤ l ∧ l ≤ 200))] (pz_u1 (pz_u1 (pz_u1 (pz_u1 (pz_u1 (pz_u1 iv 2 (iv 2)) 10 (iv 10)) 11 (iv 11)) 12 (iv 12)) 13 (iv 13)) 14 (iv 14)) (.inr 1) (pz_u1 (pz_u1 (pz_u1 (pz_u1 (pz_u1 (pz_u1 iv 2 (iv 2)) 10 (iv 10)) 11 (iv 11)) 12 (iv 12)) 13 (iv 13)) 14 (iv 14)) := s_X10_needRange_n (pz_bi (1 ≤ l ∧ l ≤ 200)) (by show (pz_bi (1 ≤ l ∧ l ≤ 200)) = 0; exact pz_bi_0 h9)
                      refine w_calle hc40 rfl rfl rfl ?_
                      first | exact lf_e (by rfl) | (exfalso; omega))))
       · first
         | (exfalso; first | omega | contradiction)
         | (have hc41 : pz_R (pz_Sh L) 170 [.inr (.inl 2), .inl t] (pz_u1 (pz_u1 (pz_u1 (pz_u1 (pz_u1 (pz_u1 iv 2 (iv 2)) 10 (iv 10)) 11 (iv 11)) 12 (iv 12)) 13 (iv 13)) 14 (iv 14)) (.inr 2) (pz_u1 (pz_u1 (pz_u1 (pz_u1 (pz_u1 (pz_u1 iv 2 (iv 2)) 10 (iv 10)) 11 (iv 11)) 12 (iv 12)) 13 (iv 13)) 14 (iv 14)) := s_X10_needEvent_n t (by show q_cE k (iv 3); exact hE) (by show ¬ (0 ≤ t ∧ t < k 0); exact h3)
            refine w_calle hc41 rfl (pz_cokI is_2 rfl) rfl ?_
            first | exact lf_e (by rfl) | (exfalso; omega)))
  · first
    | (exfalso; first | omega | contradiction)
    | (have hc42 : pz_R (pz_Sh L) 170 [.inr (.inl 2), .inl f] (pz_u1 (pz_u1 (pz_u1 (pz_u1 (pz_u1 (pz_u1 iv 2 (iv 2)) 10 (iv 10)) 11 (iv 11)) 12 (iv 12)) 13 (iv 13)) 14 (iv 14)) (.inr 2) (pz_u1 (pz_u1 (pz_u1 (pz_u1 (pz_u1 (pz_u1 iv 2 (iv 2)) 10 (iv 10)) 11 (iv 11)) 12 (iv 12)) 13 (iv 13)) 14 (iv 14)) := s_X10_needEvent_n f (by show q_cE k (iv 3); exact hE) (by show ¬ (0 ≤ f ∧ f < k 0); exact h1)
       refine w_calle hc42 rfl (pz_cokI is_2 rfl) rfl ?_
       first | exact lf_e (by rfl) | (exfalso; omega))

theorem s_X10_observe_1 {L : Nat} {iv : Nat → Nat → Int} (l : Int) (z : Int) {k : Nat → Int} (hk : q_KR k) (hE : q_cE k (iv 3)) (hB : q_cB k (iv 4) (iv 5) (iv 6) (iv 7) (iv 8) (iv 9)) (hS : q_cS k (iv 10) (iv 11) (iv 12) (iv 13) (iv 14)) (hC : q_cC k (iv 15) (iv 16)) (hA : q_cA k (iv 17) (iv 18) (iv 19) (iv 20)) (hO : q_cO k (iv 22) (iv 23) (iv 24)) (hL : q_cL k (iv 25)) (hP : q_cP k (iv 27)) (hcase0 : ¬ (1 ≤ l ∧ l ≤ 4)) : pz_R (pz_Sh L) 127 [.inr (.inl 2), .inl l, .inl z] iv (.inr 1) iv := by
  intro dv cc ss
  have hk0 := hk.r0
  have hE0 := hE
  have hB0 := hB.1
  have hS0 := hS.1
  have hC0 := hC.1
  have hA0 := hA.1
  show pz_G 127 0 [some (.inr (.inl 2)), some (.inl l), some (.inl z)] [] (pz_Sh L, iv, dv, cc, ss) (pz_P (pz_Sh L) (.inr 1) iv dv cc ss)
  refine pz_G_of pz_b127_0 ?_
  refine w_loc rfl ?_
  refine w_pure rfl ?_
  refine w_pure rfl ?_
  have hc1 : pz_R (pz_Sh L) 185 [.inl l, .inl 1, .inl 4] (iv) (.inl (some (.inl (pz_bi (1 ≤ l ∧ l ≤ 4))))) (iv) := s_X10_isWithin l 1 4
  refine w_call hc1 rfl rfl ?_
  by_cases h2 : 1 ≤ l ∧ l ≤ 4
  · first
    | (exfalso; first | omega | contradiction)
    | (have hc3 : pz_R (pz_Sh L) 172 [.inl (pz_bi (1 ≤ l ∧ l ≤ 4))] (iv) (.inl none) (iv) := s_X10_needRange_y (pz_bi (1 ≤ l ∧ l ≤ 4)) (by exact pz_bi_p1 h2)
       refine w_callv hc3 rfl rfl ?_
       refine w_loc rfl ?_
       refine w_getR (q := 3) is_2 rf_2_0 ?_
       refine w_loc rfl ?_
       have hc4 : pz_R (pz_Sh L) 68 [.inr (.inl 3), .inl l] (iv) (.inl (some (.inl (pz_bi (q_obs k l))))) (iv) := s_X6_isObserved l (by first | exact hk | exact q_KR_obs hk (by omega) (by omega) (by omega)) (by first | exact hL | exact q_cL_obs hL (by omega)) (by omega)
       refine w_call hc4 rfl (pz_cokI is_3 rfl) ?_
       refine w_bne (fun h5 => ?_) (fun h5 => ?_)
       · first
         | (exfalso; first | omega | contradiction)
         | (refine pz_G_of pz_b127_24 ?_
            refine w_pure rfl ?_
            refine w_nil ?_
            refine pz_G_of pz_b127_25 ?_
            have hc6 : pz_R (pz_Sh L) 173 [.inl 0] (iv) (.inr 0) (iv) := s_X10_needState_n 0 (by omega)
            refine w_calle hc6 rfl rfl rfl ?_
            first | exact lf_e (by rfl) | (exfalso; omega))
       · first
         | (exfalso; first | omega | contradiction)
         | (refine w_pure rfl ?_
            refine w_goto ?_
            refine pz_G_of pz_b127_25 ?_
            have hc7 : pz_R (pz_Sh L) 173 [.inl 1] (iv) (.inl none) (iv) := s_X10_needState_y 1 (by omega)
            refine w_callv hc7 rfl rfl ?_
            refine w_loc rfl ?_
            refine w_getR (q := 3) is_2 rf_2_0 ?_
            refine w_loc rfl ?_
            refine w_loc rfl ?_
            refine w_zeq (fun h8 => ?_) (fun h8 => ?_)
            · first
              | (exfalso; first | omega | contradiction)
              | (refine pz_G_of pz_b127_42 ?_
                 refine w_pure rfl ?_
                 refine w_nil ?_
                 refine pz_G_of pz_b127_44 ?_
                 have hc9 : pz_R (pz_Sh L) 67 [.inr (.inl 3), .inl l, .inl 102] (iv) (.inl none) (pz_u1 iv 25 (pz_up (iv 25) l.toNat 102)) := pz_R_mem (s_X6_setLabel l 102 (by omega) (by omega)) (by rw [pz_u1_top (r := 25)]; rfl)
                 refine w_callv hc9 rfl (pz_cokI is_3 rfl) ?_
                 refine w_loc rfl ?_
                 have hc10 : pz_R (pz_Sh L) 178 [.inr (.inl 2)] (pz_u1 iv 25 (pz_up (iv 25) l.toNat 102)) (.inl none) (pz_u1 (pz_u1 iv 2 (pz_up (pz_up (pz_up (iv 2) 7 0) 8 0) 9 0)) 25 (pz_up (iv 25) l.toNat 102)) := pz_R_mem (s_X10_forget) (by rw [pz_u1_in (r := 2) (q := 25) (by decide)]; rw [pz_u1_top (r := 2)]; rfl)
                 refine w_callv hc10 rfl (pz_cokI is_2 rfl) ?_
                 refine w_loc rfl ?_
                 refine w_getR (q := 3) is_2 rf_2_0 ?_
                 have hc11 : pz_R (pz_Sh L) 72 [.inr (.inl 3)] (pz_u1 (pz_u1 iv 2 (pz_up (pz_up (pz_up (iv 2) 7 0) 8 0) 9 0)) 25 (pz_up (iv 25) l.toNat 102)) (.inl (some (.inl (q_held k)))) (pz_u1 (pz_u1 iv 2 (pz_up (pz_up (pz_up (iv 2) 7 0) 8 0) 9 0)) 25 (pz_up (iv 25) l.toNat 102)) := s_X6_countHolding (by show q_KR k; first | exact hk | exact q_KR_obs hk (by omega) (by omega) (by omega)) (by show q_cB k (iv 4) (iv 5) (iv 6) (iv 7) (iv 8) (iv 9); first | exact hB | exact q_cB_ag hB (by omega) (pz_up_ne (by omega)) (fun j g1 g2 => pz_up_ne (by omega))) (by show q_cL k (pz_up (iv 25) l.toNat 102); first | exact hL | exact q_cL_obs hL (by omega))
                 refine w_call hc11 rfl (pz_cokI is_3 rfl) ?_
                 refine w_ret rfl ?_
                 first | exact lf_i (by first | rfl | omega) (by rfl) | (exfalso; omega))
            · first
              | (exfalso; first | omega | contradiction)
              | (refine w_pure rfl ?_
                 refine w_goto ?_
                 refine pz_G_of pz_b127_44 ?_
                 have hc12 : pz_R (pz_Sh L) 67 [.inr (.inl 3), .inl l, .inl 116] (iv) (.inl none) (pz_u1 iv 25 (pz_up (iv 25) l.toNat 116)) := pz_R_mem (s_X6_setLabel l 116 (by omega) (by omega)) (by rw [pz_u1_top (r := 25)]; rfl)
                 refine w_callv hc12 rfl (pz_cokI is_3 rfl) ?_
                 refine w_loc rfl ?_
                 have hc13 : pz_R (pz_Sh L) 178 [.inr (.inl 2)] (pz_u1 iv 25 (pz_up (iv 25) l.toNat 116)) (.inl none) (pz_u1 (pz_u1 iv 2 (pz_up (pz_up (pz_up (iv 2) 7 0) 8 0) 9 0)) 25 (pz_up (iv 25) l.toNat 116)) := pz_R_mem (s_X10_forget) (by rw [pz_u1_in (r := 2) (q := 25) (by decide)]; rw [pz_u1_top (r := 2)]; rfl)
                 refine w_callv hc13 rfl (pz_cokI is_2 rfl) ?_
                 refine w_loc rfl ?_
                 refine w_getR (q := 3) is_2 rf_2_0 ?_
                 have hc14 : pz_R (pz_Sh L) 72 [.inr (.inl 3)] (pz_u1 (pz_u1 iv 2 (pz_up (pz_up (pz_up (iv 2) 7 0) 8 0) 9 0)) 25 (pz_up (iv 25) l.toNat 116)) (.inl (some (.inl (q_held k)))) (pz_u1 (pz_u1 iv 2 (pz_up (pz_up (pz_up (iv 2) 7 0) 8 0) 9 0)) 25 (pz_up (iv 25) l.toNat 116)) := s_X6_countHolding (by show q_KR k; first | exact hk | exact q_KR_obs hk (by omega) (by omega) (by omega)) (by show q_cB k (iv 4) (iv 5) (iv 6) (iv 7) (iv 8) (iv 9); first | exact hB | exact q_cB_ag hB (by omega) (pz_up_ne (by omega)) (fun j g1 g2 => pz_up_ne (by omega))) (by show q_cL k (pz_up (iv 25) l.toNat 116); first | exact hL | exact q_cL_obs hL (by omega))
                 refine w_call hc14 rfl (pz_cokI is_3 rfl) ?_
                 refine w_ret rfl ?_
                 first | exact lf_i (by first | rfl | omega) (by rfl) | (exfalso; omega))))
  · first
    | (exfalso; first | omega | contradiction)
    | (have hc15 : pz_R (pz_Sh L) 172 [.inl (pz_bi (1 ≤ l ∧ l ≤ 4))] (iv) (.inr 1) (iv) := s_X10_needRange_n (pz_bi (1 ≤ l ∧ l ≤ 4)) (by exact pz_bi_0 h2)
       refine w_calle hc15 rfl rfl rfl ?_
       first | exact lf_e (by rfl) | (exfalso; omega))

theorem s_X10_observe_2 {L : Nat} {iv : Nat → Nat → Int} (l : Int) (z : Int) {k : Nat → Int} (hk : q_KR k) (hE : q_cE k (iv 3)) (hB : q_cB k (iv 4) (iv 5) (iv 6) (iv 7) (iv 8) (iv 9)) (hS : q_cS k (iv 10) (iv 11) (iv 12) (iv 13) (iv 14)) (hC : q_cC k (iv 15) (iv 16)) (hA : q_cA k (iv 17) (iv 18) (iv 19) (iv 20)) (hO : q_cO k (iv 22) (iv 23) (iv 24)) (hL : q_cL k (iv 25)) (hP : q_cP k (iv 27)) (hcase0 : 1 ≤ l ∧ l ≤ 4) (hcase1 : q_obs k l) : pz_R (pz_Sh L) 127 [.inr (.inl 2), .inl l, .inl z] iv (.inr 0) iv := by
  intro dv cc ss
  have hk0 := hk.r0
  have hE0 := hE
  have hB0 := hB.1
  have hS0 := hS.1
  have hC0 := hC.1
  have hA0 := hA.1
  show pz_G 127 0 [some (.inr (.inl 2)), some (.inl l), some (.inl z)] [] (pz_Sh L, iv, dv, cc, ss) (pz_P (pz_Sh L) (.inr 0) iv dv cc ss)
  refine pz_G_of pz_b127_0 ?_
  refine w_loc rfl ?_
  refine w_pure rfl ?_
  refine w_pure rfl ?_
  have hc1 : pz_R (pz_Sh L) 185 [.inl l, .inl 1, .inl 4] (iv) (.inl (some (.inl (pz_bi (1 ≤ l ∧ l ≤ 4))))) (iv) := s_X10_isWithin l 1 4
  refine w_call hc1 rfl rfl ?_
  by_cases h2 : 1 ≤ l ∧ l ≤ 4
  · first
    | (exfalso; first | omega | contradiction)
    | (have hc3 : pz_R (pz_Sh L) 172 [.inl (pz_bi (1 ≤ l ∧ l ≤ 4))] (iv) (.inl none) (iv) := s_X10_needRange_y (pz_bi (1 ≤ l ∧ l ≤ 4)) (by exact pz_bi_p1 h2)
       refine w_callv hc3 rfl rfl ?_
       refine w_loc rfl ?_
       refine w_getR (q := 3) is_2 rf_2_0 ?_
       refine w_loc rfl ?_
       have hc4 : pz_R (pz_Sh L) 68 [.inr (.inl 3), .inl l] (iv) (.inl (some (.inl (pz_bi (q_obs k l))))) (iv) := s_X6_isObserved l (by first | exact hk | exact q_KR_obs hk (by omega) (by omega) (by omega)) (by first | exact hL | exact q_cL_obs hL (by omega)) (by omega)
       refine w_call hc4 rfl (pz_cokI is_3 rfl) ?_
       refine w_bne (fun h5 => ?_) (fun h5 => ?_)
       · first
         | (exfalso; first | omega | contradiction)
         | (refine pz_G_of pz_b127_24 ?_
            refine w_pure rfl ?_
            refine w_nil ?_
            refine pz_G_of pz_b127_25 ?_
            have hc6 : pz_R (pz_Sh L) 173 [.inl 0] (iv) (.inr 0) (iv) := s_X10_needState_n 0 (by omega)
            refine w_calle hc6 rfl rfl rfl ?_
            first | exact lf_e (by rfl) | (exfalso; omega))
       · first
         | (exfalso; first | omega | contradiction)
         | (refine w_pure rfl ?_
            refine w_goto ?_
            refine pz_G_of pz_b127_25 ?_
            have hc7 : pz_R (pz_Sh L) 173 [.inl 1] (iv) (.inl none) (iv) := s_X10_needState_y 1 (by omega)
            refine w_callv hc7 rfl rfl ?_
            refine w_loc rfl ?_
            refine w_getR (q := 3) is_2 rf_2_0 ?_
            refine w_loc rfl ?_
            refine w_loc rfl ?_
            refine w_zeq (fun h8 => ?_) (fun h8 => ?_)
            · first
              | (exfalso; first | omega | contradiction)
              | (refine pz_G_of pz_b127_42 ?_
                 refine w_pure rfl ?_
                 refine w_nil ?_
                 refine pz_G_of pz_b127_44 ?_
                 have hc9 : pz_R (pz_Sh L) 67 [.inr (.inl 3), .inl l, .inl 102] (iv) (.inl none) (pz_u1 iv 25 (pz_up (iv 25) l.toNat 102)) := pz_R_mem (s_X6_setLabel l 102 (by omega) (by omega)) (by rw [pz_u1_top (r := 25)]; rfl)
                 refine w_callv hc9 rfl (pz_cokI is_3 rfl) ?_
                 refine w_loc rfl ?_
                 have hc10 : pz_R (pz_Sh L) 178 [.inr (.inl 2)] (pz_u1 iv 25 (pz_up (iv 25) l.toNat 102)) (.inl none) (pz_u1 (pz_u1 iv 2 (pz_up (pz_up (pz_up (iv 2) 7 0) 8 0) 9 0)) 25 (pz_up (iv 25) l.toNat 102)) := pz_R_mem (s_X10_forget) (by rw [pz_u1_in (r := 2) (q := 25) (by decide)]; rw [pz_u1_top (r := 2)]; rfl)
                 refine w_callv hc10 rfl (pz_cokI is_2 rfl) ?_
                 refine w_loc rfl ?_
                 refine w_getR (q := 3) is_2 rf_2_0 ?_
                 have hc11 : pz_R (pz_Sh L) 72 [.inr (.inl 3)] (pz_u1 (pz_u1 iv 2 (pz_up (pz_up (pz_up (iv 2) 7 0) 8 0) 9 0)) 25 (pz_up (iv 25) l.toNat 102)) (.inl (some (.inl (q_held k)))) (pz_u1 (pz_u1 iv 2 (pz_up (pz_up (pz_up (iv 2) 7 0) 8 0) 9 0)) 25 (pz_up (iv 25) l.toNat 102)) := s_X6_countHolding (by show q_KR k; first | exact hk | exact q_KR_obs hk (by omega) (by omega) (by omega)) (by show q_cB k (iv 4) (iv 5) (iv 6) (iv 7) (iv 8) (iv 9); first | exact hB | exact q_cB_ag hB (by omega) (pz_up_ne (by omega)) (fun j g1 g2 => pz_up_ne (by omega))) (by show q_cL k (pz_up (iv 25) l.toNat 102); first | exact hL | exact q_cL_obs hL (by omega))
                 refine w_call hc11 rfl (pz_cokI is_3 rfl) ?_
                 refine w_ret rfl ?_
                 first | exact lf_i (by first | rfl | omega) (by rfl) | (exfalso; omega))
            · first
              | (exfalso; first | omega | contradiction)
              | (refine w_pure rfl ?_
                 refine w_goto ?_
                 refine pz_G_of pz_b127_44 ?_
                 have hc12 : pz_R (pz_Sh L) 67 [.inr (.inl 3), .inl l, .inl 116] (iv) (.inl none) (pz_u1 iv 25 (pz_up (iv 25) l.toNat 116)) := pz_R_mem (s_X6_setLabel l 116 (by omega) (by omega)) (by rw [pz_u1_top (r := 25)]; rfl)
                 refine w_callv hc12 rfl (pz_cokI is_3 rfl) ?_
                 refine w_loc rfl ?_
                 have hc13 : pz_R (pz_Sh L) 178 [.inr (.inl 2)] (pz_u1 iv 25 (pz_up (iv 25) l.toNat 116)) (.inl none) (pz_u1 (pz_u1 iv 2 (pz_up (pz_up (pz_up (iv 2) 7 0) 8 0) 9 0)) 25 (pz_up (iv 25) l.toNat 116)) := pz_R_mem (s_X10_forget) (by rw [pz_u1_in (r := 2) (q := 25) (by decide)]; rw [pz_u1_top (r := 2)]; rfl)
                 refine w_callv hc13 rfl (pz_cokI is_2 rfl) ?_
                 refine w_loc rfl ?_
                 refine w_getR (q := 3) is_2 rf_2_0 ?_
                 have hc14 : pz_R (pz_Sh L) 72 [.inr (.inl 3)] (pz_u1 (pz_u1 iv 2 (pz_up (pz_up (pz_up (iv 2) 7 0) 8 0) 9 0)) 25 (pz_up (iv 25) l.toNat 116)) (.inl (some (.inl (q_held k)))) (pz_u1 (pz_u1 iv 2 (pz_up (pz_up (pz_up (iv 2) 7 0) 8 0) 9 0)) 25 (pz_up (iv 25) l.toNat 116)) := s_X6_countHolding (by show q_KR k; first | exact hk | exact q_KR_obs hk (by omega) (by omega) (by omega)) (by show q_cB k (iv 4) (iv 5) (iv 6) (iv 7) (iv 8) (iv 9); first | exact hB | exact q_cB_ag hB (by omega) (pz_up_ne (by omega)) (fun j g1 g2 => pz_up_ne (by omega))) (by show q_cL k (pz_up (iv 25) l.toNat 116); first | exact hL | exact q_cL_obs hL (by omega))
                 refine w_call hc14 rfl (pz_cokI is_3 rfl) ?_
                 refine w_ret rfl ?_
                 first | exact lf_i (by first | rfl | omega) (by rfl) | (exfalso; omega))))
  · first
    | (exfalso; first | omega | contradiction)
    | (have hc15 : pz_R (pz_Sh L) 172 [.inl (pz_bi (1 ≤ l ∧ l ≤ 4))] (iv) (.inr 1) (iv) := s_X10_needRange_n (pz_bi (1 ≤ l ∧ l ≤ 4)) (by exact pz_bi_0 h2)
       refine w_calle hc15 rfl rfl rfl ?_
       first | exact lf_e (by rfl) | (exfalso; omega))

theorem s_X10_observe_0t {L : Nat} {iv : Nat → Nat → Int} (l : Int) (z : Int) {k : Nat → Int} (hk : q_KR k) (hE : q_cE k (iv 3)) (hB : q_cB k (iv 4) (iv 5) (iv 6) (iv 7) (iv 8) (iv 9)) (hS : q_cS k (iv 10) (iv 11) (iv 12) (iv 13) (iv 14)) (hC : q_cC k (iv 15) (iv 16)) (hA : q_cA k (iv 17) (iv 18) (iv 19) (iv 20)) (hO : q_cO k (iv 22) (iv 23) (iv 24)) (hL : q_cL k (iv 25)) (hP : q_cP k (iv 27)) (hcase0 : z ≠ 0) (hcase1 : 1 ≤ l ∧ l ≤ 4) (hcase2 : ¬ q_obs k l) : pz_R (pz_Sh L) 127 [.inr (.inl 2), .inl l, .inl z] iv (.inl (some (.inl (q_held (pz_up k (46 + l).toNat 116))))) (pz_u1 (pz_u1 iv 2 (pz_up (pz_up (pz_up (iv 2) 7 0) 8 0) 9 0)) 25 (pz_up (iv 25) l.toNat 116)) := by
  intro dv cc ss
  have hk0 := hk.r0
  have hE0 := hE
  have hB0 := hB.1
  have hS0 := hS.1
  have hC0 := hC.1
  have hA0 := hA.1
  refine pz_G_mem (iv2 := pz_u1 (pz_u1 iv 2 (iv 2)) 25 (iv 25)) (by exact ((pz_u1_self iv 2).symm).trans (pz_u1_self (pz_u1 iv 2 (iv 2)) 25).symm) ?_
  show pz_G 127 0 [some (.inr (.inl 2)), some (.inl l), some (.inl z)] [] (pz_Sh L, pz_u1 (pz_u1 iv 2 (iv 2)) 25 (iv 25), dv, cc, ss) (pz_P (pz_Sh L) (.inl (some (.inl (q_held (pz_up k (46 + l).toNat 116))))) (pz_u1 (pz_u1 iv 2 (pz_up (pz_up (pz_up (iv 2) 7 0) 8 0) 9 0)) 25 (pz_up (iv 25) l.toNat 116)) dv cc ss)
  refine pz_G_of pz_b127_0 ?_
  refine w_loc rfl ?_
  refine w_pure rfl ?_
  refine w_pure rfl ?_
  have hc1 : pz_R (pz_Sh L) 185 [.inl l, .inl 1, .inl 4] (pz_u1 (pz_u1 iv 2 (iv 2)) 25 (iv 25)) (.inl (some (.inl (pz_bi (1 ≤ l ∧ l ≤ 4))))) (pz_u1 (pz_u1 iv 2 (iv 2)) 25 (iv 25)) := s_X10_isWithin l 1 4
  refine w_call hc1 rfl rfl ?_
  by_cases h2 : 1 ≤ l ∧ l ≤ 4
  · first
    | (exfalso; first | omega | contradiction)
    | (have hc3 : pz_R (pz_Sh L) 172 [.inl (pz_bi (1 ≤ l ∧ l ≤ 4))] (pz_u1 (pz_u1 iv 2 (iv 2)) 25 (iv 25)) (.inl none) (pz_u1 (pz_u1 iv 2 (iv 2)) 25 (iv 25)) := s_X10_needRange_y (pz_bi (1 ≤ l ∧ l ≤ 4)) (by show (pz_bi (1 ≤ l ∧ l ≤ 4)) ≠ 0; exact pz_bi_p1 h2)
       refine w_callv hc3 rfl rfl ?_
       refine w_loc rfl ?_
       refine w_getR (q := 3) is_2 rf_2_0 ?_
       refine w_loc rfl ?_
       have hc4 : pz_R (pz_Sh L) 68 [.inr (.inl 3), .inl l] (pz_u1 (pz_u1 iv 2 (iv 2)) 25 (iv 25)) (.inl (some (.inl (pz_bi (q_obs k l))))) (pz_u1 (pz_u1 iv 2 (iv 2)) 25 (iv 25)) := s_X6_isObserved l (by show q_KR k; first | exact hk | exact q_KR_obs hk (by omega) (by omega) (by omega)) (by show q_cL k (iv 25); first | exact hL | exact q_cL_obs hL (by omega)) (by show 1 ≤ l ∧ l ≤ 4; omega)
       refine w_call hc4 rfl (pz_cokI is_3 rfl) ?_
       refine w_bne (fun h5 => ?_) (fun h5 => ?_)
       · first
         | (exfalso; first | omega | contradiction)
         | (refine pz_G_of pz_b127_24 ?_
            refine w_pure rfl ?_
            refine w_nil ?_
            refine pz_G_of pz_b127_25 ?_
            have hc6 : pz_R (pz_Sh L) 173 [.inl 0] (pz_u1 (pz_u1 iv 2 (iv 2)) 25 (iv 25)) (.inr 0) (pz_u1 (pz_u1 iv 2 (iv 2)) 25 (iv 25)) := s_X10_needState_n 0 (by show 0 = 0; omega)
            refine w_calle hc6 rfl rfl rfl ?_
            first | exact lf_e (by rfl) | (exfalso; omega))
       · first
         | (exfalso; first | omega | contradiction)
         | (refine w_pure rfl ?_
            refine w_goto ?_
            refine pz_G_of pz_b127_25 ?_
            have hc7 : pz_R (pz_Sh L) 173 [.inl 1] (pz_u1 (pz_u1 iv 2 (iv 2)) 25 (iv 25)) (.inl none) (pz_u1 (pz_u1 iv 2 (iv 2)) 25 (iv 25)) := s_X10_needState_y 1 (by show 1 ≠ 0; omega)
            refine w_callv hc7 rfl rfl ?_
            refine w_loc rfl ?_
            refine w_getR (q := 3) is_2 rf_2_0 ?_
            refine w_loc rfl ?_
            refine w_loc rfl ?_
            refine w_zeq (fun h8 => ?_) (fun h8 => ?_)
            · first
              | (exfalso; first | omega | contradiction)
              | (refine pz_G_of pz_b127_42 ?_
                 refine w_pure rfl ?_
                 refine w_nil ?_
                 refine pz_G_of pz_b127_44 ?_
                 have hc9 : pz_R (pz_Sh L) 67 [.inr (.inl 3), .inl l, .inl 102] (pz_u1 (pz_u1 iv 2 (iv 2)) 25 (iv 25)) (.inl none) (pz_u1 (pz_u1 iv 2 (iv 2)) 25 (pz_up (iv 25) l.toNat 102)) := pz_R_mem (s_X6_setLabel l 102 (by show 1 ≤ l ∧ l ≤ 4; omega) (by show 0 ≤ 102 ∧ 102 ≤ 65535; omega)) (by rw [pz_u1_top (r := 25)]; rfl)
                 refine w_callv hc9 rfl (pz_cokI is_3 rfl) ?_
                 refine w_loc rfl ?_
                 have hc10 : pz_R (pz_Sh L) 178 [.inr (.inl 2)] (pz_u1 (pz_u1 iv 2 (iv 2)) 25 (pz_up (iv 25) l.toNat 102)) (.inl none) (pz_u1 (pz_u1 iv 2 (pz_up (pz_up (pz_up (iv 2) 7 0) 8 0) 9 0)) 25 (pz_up (iv 25) l.toNat 102)) := pz_R_mem (s_X10_forget) (by rw [pz_u1_in (r := 2) (q := 25) (by decide)]; rw [pz_u1_top (r := 2)]; rfl)
                 refine w_callv hc10 rfl (pz_cokI is_2 rfl) ?_
                 refine w_loc rfl ?_
                 refine w_getR (q := 3) is_2 rf_2_0 ?_
                 have hc11 : pz_R (pz_Sh L) 72 [.inr (.inl 3)] (pz_u1 (pz_u1 iv 2 (pz_up (pz_up (pz_up (iv 2) 7 0) 8 0) 9 0)) 25 (pz_up (iv 25) l.toNat 102)) (.inl (some (.inl (q_held (pz_up k (46 + l).toNat 116))))) (pz_u1 (pz_u1 iv 2 (pz_up (pz_up (pz_up (iv 2) 7 0) 8 0) 9 0)) 25 (pz_up (iv 25) l.toNat 102)) := s_X6_countHolding (by show q_KR (pz_up k (46 + l).toNat 116); first | exact hk | exact q_KR_obs hk (by omega) (by omega) (by omega)) (by show q_cB (pz_up k (46 + l).toNat 116) (iv 4) (iv 5) (iv 6) (iv 7) (iv 8) (iv 9); first | exact hB | exact q_cB_ag hB (by omega) (pz_up_ne (by omega)) (fun j g1 g2 => pz_up_ne (by omega))) (by show q_cL (pz_up k (46 + l).toNat 116) (pz_up (iv 25) l.toNat 102); first | exact hL | exact q_cL_obs hL (by omega))
                 refine w_call hc11 rfl (pz_cokI is_3 rfl) ?_
                 refine w_ret rfl ?_
                 first | exact lf_i (by first | rfl | omega) (by rfl) | (exfalso; omega))
            · first
              | (exfalso; first | omega | contradiction)
              | (refine w_pure rfl ?_
                 refine w_goto ?_
                 refine pz_G_of pz_b127_44 ?_
                 have hc12 : pz_R (pz_Sh L) 67 [.inr (.inl 3), .inl l, .inl 116] (pz_u1 (pz_u1 iv 2 (iv 2)) 25 (iv 25)) (.inl none) (pz_u1 (pz_u1 iv 2 (iv 2)) 25 (pz_up (iv 25) l.toNat 116)) := pz_R_mem (s_X6_setLabel l 116 (by show 1 ≤ l ∧ l ≤ 4; omega) (by show 0 ≤ 116 ∧ 116 ≤ 65535; omega)) (by rw [pz_u1_top (r := 25)]; rfl)
                 refine w_callv hc12 rfl (pz_cokI is_3 rfl) ?_
                 refine w_loc rfl ?_
                 have hc13 : pz_R (pz_Sh L) 178 [.inr (.inl 2)] (pz_u1 (pz_u1 iv 2 (iv 2)) 25 (pz_up (iv 25) l.toNat 116)) (.inl none) (pz_u1 (pz_u1 iv 2 (pz_up (pz_up (pz_up (iv 2) 7 0) 8 0) 9 0)) 25 (pz_up (iv 25) l.toNat 116)) := pz_R_mem (s_X10_forget) (by rw [pz_u1_in (r := 2) (q := 25) (by decide)]; rw [pz_u1_top (r := 2)]; rfl)
                 refine w_callv hc13 rfl (pz_cokI is_2 rfl) ?_
                 refine w_loc rfl ?_
                 refine w_getR (q := 3) is_2 rf_2_0 ?_
                 have hc14 : pz_R (pz_Sh L) 72 [.inr (.inl 3)] (pz_u1 (pz_u1 iv 2 (pz_up (pz_up (pz_up (iv 2) 7 0) 8 0) 9 0)) 25 (pz_up (iv 25) l.toNat 116)) (.inl (some (.inl (q_held (pz_up k (46 + l).toNat 116))))) (pz_u1 (pz_u1 iv 2 (pz_up (pz_up (pz_up (iv 2) 7 0) 8 0) 9 0)) 25 (pz_up (iv 25) l.toNat 116)) := s_X6_countHolding (by show q_KR (pz_up k (46 + l).toNat 116); first | exact hk | exact q_KR_obs hk (by omega) (by omega) (by omega)) (by show q_cB (pz_up k (46 + l).toNat 116) (iv 4) (iv 5) (iv 6) (iv 7) (iv 8) (iv 9); first | exact hB | exact q_cB_ag hB (by omega) (pz_up_ne (by omega)) (fun j g1 g2 => pz_up_ne (by omega))) (by show q_cL (pz_up k (46 + l).toNat 116) (pz_up (iv 25) l.toNat 116); first | exact hL | exact q_cL_obs hL (by omega))
                 refine w_call hc14 rfl (pz_cokI is_3 rfl) ?_
                 refine w_ret rfl ?_
                 first | exact lf_i (by first | rfl | omega) (by rfl) | (exfalso; omega))))
  · first
    | (exfalso; first | omega | contradiction)
    | (have hc15 : pz_R (pz_Sh L) 172 [.inl (pz_bi (1 ≤ l ∧ l ≤ 4))] (pz_u1 (pz_u1 iv 2 (iv 2)) 25 (iv 25)) (.inr 1) (pz_u1 (pz_u1 iv 2 (iv 2)) 25 (iv 25)) := s_X10_needRange_n (pz_bi (1 ≤ l ∧ l ≤ 4)) (by show (pz_bi (1 ≤ l ∧ l ≤ 4)) = 0; exact pz_bi_0 h2)
       refine w_calle hc15 rfl rfl rfl ?_
       first | exact lf_e (by rfl) | (exfalso; omega))

theorem s_X10_observe_0f {L : Nat} {iv : Nat → Nat → Int} (l : Int) (z : Int) {k : Nat → Int} (hk : q_KR k) (hE : q_cE k (iv 3)) (hB : q_cB k (iv 4) (iv 5) (iv 6) (iv 7) (iv 8) (iv 9)) (hS : q_cS k (iv 10) (iv 11) (iv 12) (iv 13) (iv 14)) (hC : q_cC k (iv 15) (iv 16)) (hA : q_cA k (iv 17) (iv 18) (iv 19) (iv 20)) (hO : q_cO k (iv 22) (iv 23) (iv 24)) (hL : q_cL k (iv 25)) (hP : q_cP k (iv 27)) (hcase0 : z = 0) (hcase1 : 1 ≤ l ∧ l ≤ 4) (hcase2 : ¬ q_obs k l) : pz_R (pz_Sh L) 127 [.inr (.inl 2), .inl l, .inl z] iv (.inl (some (.inl (q_held (pz_up k (46 + l).toNat 102))))) (pz_u1 (pz_u1 iv 2 (pz_up (pz_up (pz_up (iv 2) 7 0) 8 0) 9 0)) 25 (pz_up (iv 25) l.toNat 102)) := by
  intro dv cc ss
  have hk0 := hk.r0
  have hE0 := hE
  have hB0 := hB.1
  have hS0 := hS.1
  have hC0 := hC.1
  have hA0 := hA.1
  refine pz_G_mem (iv2 := pz_u1 (pz_u1 iv 2 (iv 2)) 25 (iv 25)) (by exact ((pz_u1_self iv 2).symm).trans (pz_u1_self (pz_u1 iv 2 (iv 2)) 25).symm) ?_
  show pz_G 127 0 [some (.inr (.inl 2)), some (.inl l), some (.inl z)] [] (pz_Sh L, pz_u1 (pz_u1 iv 2 (iv 2)) 25 (iv 25), dv, cc, ss) (pz_P (pz_Sh L) (.inl (some (.inl (q_held (pz_up k (46 + l).toNat 102))))) (pz_u1 (pz_u1 iv 2 (pz_up (pz_up (pz_up (iv 2) 7 0) 8 0) 9 0)) 25 (pz_up (iv 25) l.toNat 102)) dv cc ss)
  refine pz_G_of pz_b127_0 ?_
  refine w_loc rfl ?_
  refine w_pure rfl ?_
  refine w_pure rfl ?_
  have hc1 : pz_R (pz_Sh L) 185 [.inl l, .inl 1, .inl 4] (pz_u1 (pz_u1 iv 2 (iv 2)) 25 (iv 25)) (.inl (some (.inl (pz_bi (1 ≤ l ∧ l ≤ 4))))) (pz_u1 (pz_u1 iv 2 (iv 2)) 25 (iv 25)) := s_X10_isWithin l 1 4
  refine w_call hc1 rfl rfl ?_
  by_cases h2 : 1 ≤ l ∧ l ≤ 4
  · first
    | (exfalso; first | omega | contradiction)
    | (have hc3 : pz_R (pz_Sh L) 172 [.inl (pz_bi (1 ≤ l ∧ l ≤ 4))] (pz_u1 (pz_u1 iv 2 (iv 2)) 25 (iv 25)) (.inl none) (pz_u1 (pz_u1 iv 2 (iv 2)) 25 (iv 25)) := s_X10_needRange_y (pz_bi (1 ≤ l ∧ l ≤ 4)) (by show (pz_bi (1 ≤ l ∧ l ≤ 4)) ≠ 0; exact pz_bi_p1 h2)
       refine w_callv hc3 rfl rfl ?_
       refine w_loc rfl ?_
       refine w_getR (q := 3) is_2 rf_2_0 ?_
       refine w_loc rfl ?_
       have hc4 : pz_R (pz_Sh L) 68 [.inr (.inl 3), .inl l] (pz_u1 (pz_u1 iv 2 (iv 2)) 25 (iv 25)) (.inl (some (.inl (pz_bi (q_obs k l))))) (pz_u1 (pz_u1 iv 2 (iv 2)) 25 (iv 25)) := s_X6_isObserved l (by show q_KR k; first | exact hk | exact q_KR_obs hk (by omega) (by omega) (by omega)) (by show q_cL k (iv 25); first | exact hL | exact q_cL_obs hL (by omega)) (by show 1 ≤ l ∧ l ≤ 4; omega)
       refine w_call hc4 rfl (pz_cokI is_3 rfl) ?_
       refine w_bne (fun h5 => ?_) (fun h5 => ?_)
       · first
         | (exfalso; first | omega | contradiction)
         | (refine pz_G_of pz_b127_24 ?_
            refine w_pure rfl ?_
            refine w_nil ?_
            refine pz_G_of pz_b127_25 ?_
            have hc6 : pz_R (pz_Sh L) 173 [.inl 0] (pz_u1 (pz_u1 iv 2 (iv 2)) 25 (iv 25)) (.inr 0) (pz_u1 (pz_u1 iv 2 (iv 2)) 25 (iv 25)) := s_X10_needState_n 0 (by show 0 = 0; omega)
            refine w_calle hc6 rfl rfl rfl ?_
            first | exact lf_e (by rfl) | (exfalso; omega))
       · first
         | (exfalso; first | omega | contradiction)
         | (refine w_pure rfl ?_
            refine w_goto ?_
            refine pz_G_of pz_b127_25 ?_
            have hc7 : pz_R (pz_Sh L) 173 [.inl 1] (pz_u1 (pz_u1 iv 2 (iv 2)) 25 (iv 25)) (.inl none) (pz_u1 (pz_u1 iv 2 (iv 2)) 25 (iv 25)) := s_X10_needState_y 1 (by show 1 ≠ 0; omega)
            refine w_callv hc7 rfl rfl ?_
            refine w_loc rfl ?_
            refine w_getR (q := 3) is_2 rf_2_0 ?_
            refine w_loc rfl ?_
            refine w_loc rfl ?_
            refine w_zeq (fun h8 => ?_) (fun h8 => ?_)
            · first
              | (exfalso; first | omega | contradiction)
              | (refine pz_G_of pz_b127_42 ?_
                 refine w_pure rfl ?_
                 refine w_nil ?_
                 refine pz_G_of pz_b127_44 ?_
                 have hc9 : pz_R (pz_Sh L) 67 [.inr (.inl 3), .inl l, .inl 102] (pz_u1 (pz_u1 iv 2 (iv 2)) 25 (iv 25)) (.inl none) (pz_u1 (pz_u1 iv 2 (iv 2)) 25 (pz_up (iv 25) l.toNat 102)) := pz_R_mem (s_X6_setLabel l 102 (by show 1 ≤ l ∧ l ≤ 4; omega) (by show 0 ≤ 102 ∧ 102 ≤ 65535; omega)) (by rw [pz_u1_top (r := 25)]; rfl)
                 refine w_callv hc9 rfl (pz_cokI is_3 rfl) ?_
                 refine w_loc rfl ?_
                 have hc10 : pz_R (pz_Sh L) 178 [.inr (.inl 2)] (pz_u1 (pz_u1 iv 2 (iv 2)) 25 (pz_up (iv 25) l.toNat 102)) (.inl none) (pz_u1 (pz_u1 iv 2 (pz_up (pz_up (pz_up (iv 2) 7 0) 8 0) 9 0)) 25 (pz_up (iv 25) l.toNat 102)) := pz_R_mem (s_X10_forget) (by rw [pz_u1_in (r := 2) (q := 25) (by decide)]; rw [pz_u1_top (r := 2)]; rfl)
                 refine w_callv hc10 rfl (pz_cokI is_2 rfl) ?_
                 refine w_loc rfl ?_
                 refine w_getR (q := 3) is_2 rf_2_0 ?_
                 have hc11 : pz_R (pz_Sh L) 72 [.inr (.inl 3)] (pz_u1 (pz_u1 iv 2 (pz_up (pz_up (pz_up (iv 2) 7 0) 8 0) 9 0)) 25 (pz_up (iv 25) l.toNat 102)) (.inl (some (.inl (q_held (pz_up k (46 + l).toNat 102))))) (pz_u1 (pz_u1 iv 2 (pz_up (pz_up (pz_up (iv 2) 7 0) 8 0) 9 0)) 25 (pz_up (iv 25) l.toNat 102)) := s_X6_countHolding (by show q_KR (pz_up k (46 + l).toNat 102); first | exact hk | exact q_KR_obs hk (by omega) (by omega) (by omega)) (by show q_cB (pz_up k (46 + l).toNat 102) (iv 4) (iv 5) (iv 6) (iv 7) (iv 8) (iv 9); first | exact hB | exact q_cB_ag hB (by omega) (pz_up_ne (by omega)) (fun j g1 g2 => pz_up_ne (by omega))) (by show q_cL (pz_up k (46 + l).toNat 102) (pz_up (iv 25) l.toNat 102); first | exact hL | exact q_cL_obs hL (by omega))
                 refine w_call hc11 rfl (pz_cokI is_3 rfl) ?_
                 refine w_ret rfl ?_
                 first | exact lf_i (by first | rfl | omega) (by rfl) | (exfalso; omega))
            · first
              | (exfalso; first | omega | contradiction)
              | (refine w_pure rfl ?_
                 refine w_goto ?_
                 refine pz_G_of pz_b127_44 ?_
                 have hc12 : pz_R (pz_Sh L) 67 [.inr (.inl 3), .inl l, .inl 116] (pz_u1 (pz_u1 iv 2 (iv 2)) 25 (iv 25)) (.inl none) (pz_u1 (pz_u1 iv 2 (iv 2)) 25 (pz_up (iv 25) l.toNat 116)) := pz_R_mem (s_X6_setLabel l 116 (by show 1 ≤ l ∧ l ≤ 4; omega) (by show 0 ≤ 116 ∧ 116 ≤ 65535; omega)) (by rw [pz_u1_top (r := 25)]; rfl)
                 refine w_callv hc12 rfl (pz_cokI is_3 rfl) ?_
                 refine w_loc rfl ?_
                 have hc13 : pz_R (pz_Sh L) 178 [.inr (.inl 2)] (pz_u1 (pz_u1 iv 2 (iv 2)) 25 (pz_up (iv 25) l.toNat 116)) (.inl none) (pz_u1 (pz_u1 iv 2 (pz_up (pz_up (pz_up (iv 2) 7 0) 8 0) 9 0)) 25 (pz_up (iv 25) l.toNat 116)) := pz_R_mem (s_X10_forget) (by rw [pz_u1_in (r := 2) (q := 25) (by decide)]; rw [pz_u1_top (r := 2)]; rfl)
                 refine w_callv hc13 rfl (pz_cokI is_2 rfl) ?_
                 refine w_loc rfl ?_
                 refine w_getR (q := 3) is_2 rf_2_0 ?_
                 have hc14 : pz_R (pz_Sh L) 72 [.inr (.inl 3)] (pz_u1 (pz_u1 iv 2 (pz_up (pz_up (pz_up (iv 2) 7 0) 8 0) 9 0)) 25 (pz_up (iv 25) l.toNat 116)) (.inl (some (.inl (q_held (pz_up k (46 + l).toNat 102))))) (pz_u1 (pz_u1 iv 2 (pz_up (pz_up (pz_up (iv 2) 7 0) 8 0) 9 0)) 25 (pz_up (iv 25) l.toNat 116)) := s_X6_countHolding (by show q_KR (pz_up k (46 + l).toNat 102); first | exact hk | exact q_KR_obs hk (by omega) (by omega) (by omega)) (by show q_cB (pz_up k (46 + l).toNat 102) (iv 4) (iv 5) (iv 6) (iv 7) (iv 8) (iv 9); first | exact hB | exact q_cB_ag hB (by omega) (pz_up_ne (by omega)) (fun j g1 g2 => pz_up_ne (by omega))) (by show q_cL (pz_up k (46 + l).toNat 102) (pz_up (iv 25) l.toNat 116); first | exact hL | exact q_cL_obs hL (by omega))
                 refine w_call hc14 rfl (pz_cokI is_3 rfl) ?_
                 refine w_ret rfl ?_
                 first | exact lf_i (by first | rfl | omega) (by rfl) | (exfalso; omega))))
  · first
    | (exfalso; first | omega | contradiction)
    | (have hc15 : pz_R (pz_Sh L) 172 [.inl (pz_bi (1 ≤ l ∧ l ≤ 4))] (pz_u1 (pz_u1 iv 2 (iv 2)) 25 (iv 25)) (.inr 1) (pz_u1 (pz_u1 iv 2 (iv 2)) 25 (iv 25)) := s_X10_needRange_n (pz_bi (1 ≤ l ∧ l ≤ 4)) (by show (pz_bi (1 ≤ l ∧ l ≤ 4)) = 0; exact pz_bi_0 h2)
       refine w_calle hc15 rfl rfl rfl ?_
       first | exact lf_e (by rfl) | (exfalso; omega))

theorem s_X10_labelOf_1 {L : Nat} {iv : Nat → Nat → Int} (l : Int) {k : Nat → Int} (hk : q_KR k) (hE : q_cE k (iv 3)) (hB : q_cB k (iv 4) (iv 5) (iv 6) (iv 7) (iv 8) (iv 9)) (hS : q_cS k (iv 10) (iv 11) (iv 12) (iv 13) (iv 14)) (hC : q_cC k (iv 15) (iv 16)) (hA : q_cA k (iv 17) (iv 18) (iv 19) (iv 20)) (hO : q_cO k (iv 22) (iv 23) (iv 24)) (hL : q_cL k (iv 25)) (hP : q_cP k (iv 27)) (hcase0 : ¬ (1 ≤ l ∧ l ≤ 4)) : pz_R (pz_Sh L) 129 [.inr (.inl 2), .inl l] iv (.inr 1) iv := by
  intro dv cc ss
  have hk0 := hk.r0
  have hE0 := hE
  have hB0 := hB.1
  have hS0 := hS.1
  have hC0 := hC.1
  have hA0 := hA.1
  have hlb := fun h1 h2 => hk.lb (l := l) h1 h2
  show pz_G 129 0 [some (.inr (.inl 2)), some (.inl l)] [] (pz_Sh L, iv, dv, cc, ss) (pz_P (pz_Sh L) (.inr 1) iv dv cc ss)
  refine pz_G_of pz_b129_0 ?_
  refine w_loc rfl ?_
  refine w_pure rfl ?_
  refine w_pure rfl ?_
  have hc1 : pz_R (pz_Sh L) 185 [.inl l, .inl 1, .inl 4] (iv) (.inl (some (.inl (pz_bi (1 ≤ l ∧ l ≤ 4))))) (iv) := s_X10_isWithin l 1 4
  refine w_call hc1 rfl rfl ?_
  by_cases h2 : 1 ≤ l ∧ l ≤ 4
  · first
    | (exfalso; first | omega | contradiction)
    | (have hc3 : pz_R (pz_Sh L) 172 [.inl (pz_bi (1 ≤ l ∧ l ≤ 4))] (iv) (.inl none) (iv) := s_X10_needRange_y (pz_bi (1 ≤ l ∧ l ≤ 4)) (by exact pz_bi_p1 h2)
       refine w_callv hc3 rfl rfl ?_
       refine w_loc rfl ?_
       refine w_getR (q := 3) is_2 rf_2_0 ?_
       refine w_loc rfl ?_
       have hc4 : pz_R (pz_Sh L) 66 [.inr (.inl 3), .inl l] (iv) (.inl (some (.inl (k (46 + l).toNat)))) (iv) := s_X6_letterOf l (by exact hk) (by exact hL) (by omega)
       refine w_call hc4 rfl (pz_cokI is_3 rfl) ?_
       refine w_ret (pz_rok2 (by omega)) ?_
       first | exact lf_i (by first | rfl | omega) (by rfl) | (exfalso; omega))
  · first
    | (exfalso; first | omega | contradiction)
    | (have hc5 : pz_R (pz_Sh L) 172 [.inl (pz_bi (1 ≤ l ∧ l ≤ 4))] (iv) (.inr 1) (iv) := s_X10_needRange_n (pz_bi (1 ≤ l ∧ l ≤ 4)) (by exact pz_bi_0 h2)
       refine w_calle hc5 rfl rfl rfl ?_
       first | exact lf_e (by rfl) | (exfalso; omega))

theorem s_X10_labelOf_0 {L : Nat} {iv : Nat → Nat → Int} (l : Int) {k : Nat → Int} (hk : q_KR k) (hE : q_cE k (iv 3)) (hB : q_cB k (iv 4) (iv 5) (iv 6) (iv 7) (iv 8) (iv 9)) (hS : q_cS k (iv 10) (iv 11) (iv 12) (iv 13) (iv 14)) (hC : q_cC k (iv 15) (iv 16)) (hA : q_cA k (iv 17) (iv 18) (iv 19) (iv 20)) (hO : q_cO k (iv 22) (iv 23) (iv 24)) (hL : q_cL k (iv 25)) (hP : q_cP k (iv 27)) (hcase0 : 1 ≤ l ∧ l ≤ 4) : pz_R (pz_Sh L) 129 [.inr (.inl 2), .inl l] iv (.inl (some (.inl (k (46 + l).toNat)))) iv := by
  intro dv cc ss
  have hk0 := hk.r0
  have hE0 := hE
  have hB0 := hB.1
  have hS0 := hS.1
  have hC0 := hC.1
  have hA0 := hA.1
  have hlb := fun h1 h2 => hk.lb (l := l) h1 h2
  show pz_G 129 0 [some (.inr (.inl 2)), some (.inl l)] [] (pz_Sh L, iv, dv, cc, ss) (pz_P (pz_Sh L) (.inl (some (.inl (k (46 + l).toNat)))) iv dv cc ss)
  refine pz_G_of pz_b129_0 ?_
  refine w_loc rfl ?_
  refine w_pure rfl ?_
  refine w_pure rfl ?_
  have hc1 : pz_R (pz_Sh L) 185 [.inl l, .inl 1, .inl 4] (iv) (.inl (some (.inl (pz_bi (1 ≤ l ∧ l ≤ 4))))) (iv) := s_X10_isWithin l 1 4
  refine w_call hc1 rfl rfl ?_
  by_cases h2 : 1 ≤ l ∧ l ≤ 4
  · first
    | (exfalso; first | omega | contradiction)
    | (have hc3 : pz_R (pz_Sh L) 172 [.inl (pz_bi (1 ≤ l ∧ l ≤ 4))] (iv) (.inl none) (iv) := s_X10_needRange_y (pz_bi (1 ≤ l ∧ l ≤ 4)) (by exact pz_bi_p1 h2)
       refine w_callv hc3 rfl rfl ?_
       refine w_loc rfl ?_
       refine w_getR (q := 3) is_2 rf_2_0 ?_
       refine w_loc rfl ?_
       have hc4 : pz_R (pz_Sh L) 66 [.inr (.inl 3), .inl l] (iv) (.inl (some (.inl (k (46 + l).toNat)))) (iv) := s_X6_letterOf l (by exact hk) (by exact hL) (by omega)
       refine w_call hc4 rfl (pz_cokI is_3 rfl) ?_
       refine w_ret (pz_rok2 (by omega)) ?_
       first | exact lf_i (by first | rfl | omega) (by rfl) | (exfalso; omega))
  · first
    | (exfalso; first | omega | contradiction)
    | (have hc5 : pz_R (pz_Sh L) 172 [.inl (pz_bi (1 ≤ l ∧ l ≤ 4))] (iv) (.inr 1) (iv) := s_X10_needRange_n (pz_bi (1 ≤ l ∧ l ≤ 4)) (by exact pz_bi_0 h2)
       refine w_calle hc5 rfl rfl rfl ?_
       first | exact lf_e (by rfl) | (exfalso; omega))

theorem s_X10_now_0 {L : Nat} {iv : Nat → Nat → Int} {k : Nat → Int} (hk : q_KR k) (hE : q_cE k (iv 3)) (hB : q_cB k (iv 4) (iv 5) (iv 6) (iv 7) (iv 8) (iv 9)) (hS : q_cS k (iv 10) (iv 11) (iv 12) (iv 13) (iv 14)) (hC : q_cC k (iv 15) (iv 16)) (hA : q_cA k (iv 17) (iv 18) (iv 19) (iv 20)) (hO : q_cO k (iv 22) (iv 23) (iv 24)) (hL : q_cL k (iv 25)) (hP : q_cP k (iv 27)) : pz_R (pz_Sh L) 153 [.inr (.inl 2)] iv (.inl (some (.inl (k 4)))) iv := by
  intro dv cc ss
  have hk0 := hk.r0
  have hE0 := hE
  have hB0 := hB.1
  have hS0 := hS.1
  have hC0 := hC.1
  have hA0 := hA.1
  show pz_G 153 0 [some (.inr (.inl 2))] [] (pz_Sh L, iv, dv, cc, ss) (pz_P (pz_Sh L) (.inl (some (.inl (k 4)))) iv dv cc ss)
  refine pz_G_of pz_b153_0 ?_
  refine w_loc rfl ?_
  refine w_getR (q := 3) is_2 rf_2_0 ?_
  refine w_getR (q := 15) is_3 rf_3_3 ?_
  refine w_getI (v := (iv 15) 0) is_15 (by decide) rfl ?_
  refine w_ret rfl ?_
  first | exact lf_i (by first | rfl | omega) (by rfl) | (exfalso; omega)

theorem s_X10_startedAt_1 {L : Nat} {iv : Nat → Nat → Int} (e : Int) {k : Nat → Int} (hk : q_KR k) (hE : q_cE k (iv 3)) (hB : q_cB k (iv 4) (iv 5) (iv 6) (iv 7) (iv 8) (iv 9)) (hS : q_cS k (iv 10) (iv 11) (iv 12) (iv 13) (iv 14)) (hC : q_cC k (iv 15) (iv 16)) (hA : q_cA k (iv 17) (iv 18) (iv 19) (iv 20)) (hO : q_cO k (iv 22) (iv 23) (iv 24)) (hL : q_cL k (iv 25)) (hP : q_cP k (iv 27)) (hcase0 : ¬ (0 ≤ e ∧ e ≤ k 0 - 1)) : pz_R (pz_Sh L) 154 [.inr (.inl 2), .inl e] iv (.inr 2) iv := by
  intro dv cc ss
  have hk0 := hk.r0
  have hE0 := hE
  have hB0 := hB.1
  have hS0 := hS.1
  have hC0 := hC.1
  have hA0 := hA.1
  show pz_G 154 0 [some (.inr (.inl 2)), some (.inl e)] [] (pz_Sh L, iv, dv, cc, ss) (pz_P (pz_Sh L) (.inr 2) iv dv cc ss)
  refine pz_G_of pz_b154_0 ?_
  refine w_loc rfl ?_
  refine w_loc rfl ?_
  by_cases h1 : 0 ≤ e ∧ e < k 0
  · first
    | (exfalso; first | omega | contradiction)
    | (have hc2 : pz_R (pz_Sh L) 170 [.inr (.inl 2), .inl e] (iv) (.inl none) (iv) := s_X10_needEvent_y e (by exact hE) (by exact h1)
       refine w_callv hc2 rfl (pz_cokI is_2 rfl) ?_
       refine w_loc rfl ?_
       refine w_getR (q := 3) is_2 rf_2_0 ?_
       refine w_getR (q := 15) is_3 rf_3_3 ?_
       refine w_loc rfl ?_
       have hc3 : pz_R (pz_Sh L) 26 [.inr (.inl 15), .inl e] (iv) (.inl (some (.inl (pz_bi (q_sta k e))))) (iv) := s_X2_hasStarted_15 e (by exact hk) (by exact hC) (by omega)
       refine w_call hc3 rfl (pz_cokI is_15 rfl) ?_
       by_cases h4 : q_sta k e
       · first
         | (exfalso; first | omega | contradiction)
         | (have hc5 : pz_R (pz_Sh L) 173 [.inl (pz_bi (q_sta k e))] (iv) (.inl none) (iv) := s_X10_needState_y (pz_bi (q_sta k e)) (by exact pz_bi_p1 h4)
            refine w_callv hc5 rfl rfl ?_
            refine w_loc rfl ?_
            refine w_getR (q := 3) is_2 rf_2_0 ?_
            refine w_getR (q := 15) is_3 rf_3_3 ?_
            refine w_loc rfl ?_
            have hc6 : pz_R (pz_Sh L) 25 [.inr (.inl 15), .inl e] (iv) (.inl (some (.inl (k (6 + e).toNat)))) (iv) := s_X2_startOf_15 e (by exact hk) (by exact hC) (by omega)
            refine w_call hc6 rfl (pz_cokI is_15 rfl) ?_
            refine w_ret rfl ?_
            first | exact lf_i (by first | rfl | omega) (by rfl) | (exfalso; omega))
       · first
         | (exfalso; first | omega | contradiction)
         | (have hc7 : pz_R (pz_Sh L) 173 [.inl (pz_bi (q_sta k e))] (iv) (.inr 0) (iv) := s_X10_needState_n (pz_bi (q_sta k e)) (by exact pz_bi_0 h4)
            refine w_calle hc7 rfl rfl rfl ?_
            first | exact lf_e (by rfl) | (exfalso; omega)))
  · first
    | (exfalso; first | omega | contradiction)
    | (have hc8 : pz_R (pz_Sh L) 170 [.inr (.inl 2), .inl e] (iv) (.inr 2) (iv) := s_X10_needEvent_n e (by exact hE) (by exact h1)
       refine w_calle hc8 rfl (pz_cokI is_2 rfl) rfl ?_
       first | exact lf_e (by rfl) | (exfalso; omega))

theorem s_X10_startedAt_2 {L : Nat} {iv : Nat → Nat → Int} (e : Int) {k : Nat → Int} (hk : q_KR k) (hE : q_cE k (iv 3)) (hB : q_cB k (iv 4) (iv 5) (iv 6) (iv 7) (iv 8) (iv 9)) (hS : q_cS k (iv 10) (iv 11) (iv 12) (iv 13) (iv 14)) (hC : q_cC k (iv 15) (iv 16)) (hA : q_cA k (iv 17) (iv 18) (iv 19) (iv 20)) (hO : q_cO k (iv 22) (iv 23) (iv 24)) (hL : q_cL k (iv 25)) (hP : q_cP k (iv 27)) (hcase0 : 0 ≤ e ∧ e ≤ k 0 - 1) (hcase1 : ¬ q_sta k e) : pz_R (pz_Sh L) 154 [.inr (.inl 2), .inl e] iv (.inr 0) iv := by
  intro dv cc ss
  have hk0 := hk.r0
  have hE0 := hE
  have hB0 := hB.1
  have hS0 := hS.1
  have hC0 := hC.1
  have hA0 := hA.1
  show pz_G 154 0 [some (.inr (.inl 2)), some (.inl e)] [] (pz_Sh L, iv, dv, cc, ss) (pz_P (pz_Sh L) (.inr 0) iv dv cc ss)
  refine pz_G_of pz_b154_0 ?_
  refine w_loc rfl ?_
  refine w_loc rfl ?_
  by_cases h1 : 0 ≤ e ∧ e < k 0
  · first
    | (exfalso; first | omega | contradiction)
    | (have hc2 : pz_R (pz_Sh L) 170 [.inr (.inl 2), .inl e] (iv) (.inl none) (iv) := s_X10_needEvent_y e (by exact hE) (by exact h1)
       refine w_callv hc2 rfl (pz_cokI is_2 rfl) ?_
       refine w_loc rfl ?_
       refine w_getR (q := 3) is_2 rf_2_0 ?_
       refine w_getR (q := 15) is_3 rf_3_3 ?_
       refine w_loc rfl ?_
       have hc3 : pz_R (pz_Sh L) 26 [.inr (.inl 15), .inl e] (iv) (.inl (some (.inl (pz_bi (q_sta k e))))) (iv) := s_X2_hasStarted_15 e (by exact hk) (by exact hC) (by omega)
       refine w_call hc3 rfl (pz_cokI is_15 rfl) ?_
       by_cases h4 : q_sta k e
       · first
         | (exfalso; first | omega | contradiction)
         | (have hc5 : pz_R (pz_Sh L) 173 [.inl (pz_bi (q_sta k e))] (iv) (.inl none) (iv) := s_X10_needState_y (pz_bi (q_sta k e)) (by exact pz_bi_p1 h4)
            refine w_callv hc5 rfl rfl ?_
            refine w_loc rfl ?_
            refine w_getR (q := 3) is_2 rf_2_0 ?_
            refine w_getR (q := 15) is_3 rf_3_3 ?_
            refine w_loc rfl ?_
            have hc6 : pz_R (pz_Sh L) 25 [.inr (.inl 15), .inl e] (iv) (.inl (some (.inl (k (6 + e).toNat)))) (iv) := s_X2_startOf_15 e (by exact hk) (by exact hC) (by omega)
            refine w_call hc6 rfl (pz_cokI is_15 rfl) ?_
            refine w_ret rfl ?_
            first | exact lf_i (by first | rfl | omega) (by rfl) | (exfalso; omega))
       · first
         | (exfalso; first | omega | contradiction)
         | (have hc7 : pz_R (pz_Sh L) 173 [.inl (pz_bi (q_sta k e))] (iv) (.inr 0) (iv) := s_X10_needState_n (pz_bi (q_sta k e)) (by exact pz_bi_0 h4)
            refine w_calle hc7 rfl rfl rfl ?_
            first | exact lf_e (by rfl) | (exfalso; omega)))
  · first
    | (exfalso; first | omega | contradiction)
    | (have hc8 : pz_R (pz_Sh L) 170 [.inr (.inl 2), .inl e] (iv) (.inr 2) (iv) := s_X10_needEvent_n e (by exact hE) (by exact h1)
       refine w_calle hc8 rfl (pz_cokI is_2 rfl) rfl ?_
       first | exact lf_e (by rfl) | (exfalso; omega))

theorem s_X10_startedAt_0 {L : Nat} {iv : Nat → Nat → Int} (e : Int) {k : Nat → Int} (hk : q_KR k) (hE : q_cE k (iv 3)) (hB : q_cB k (iv 4) (iv 5) (iv 6) (iv 7) (iv 8) (iv 9)) (hS : q_cS k (iv 10) (iv 11) (iv 12) (iv 13) (iv 14)) (hC : q_cC k (iv 15) (iv 16)) (hA : q_cA k (iv 17) (iv 18) (iv 19) (iv 20)) (hO : q_cO k (iv 22) (iv 23) (iv 24)) (hL : q_cL k (iv 25)) (hP : q_cP k (iv 27)) (hcase0 : 0 ≤ e ∧ e ≤ k 0 - 1) (hcase1 : q_sta k e) : pz_R (pz_Sh L) 154 [.inr (.inl 2), .inl e] iv (.inl (some (.inl (k (6 + e).toNat)))) iv := by
  intro dv cc ss
  have hk0 := hk.r0
  have hE0 := hE
  have hB0 := hB.1
  have hS0 := hS.1
  have hC0 := hC.1
  have hA0 := hA.1
  show pz_G 154 0 [some (.inr (.inl 2)), some (.inl e)] [] (pz_Sh L, iv, dv, cc, ss) (pz_P (pz_Sh L) (.inl (some (.inl (k (6 + e).toNat)))) iv dv cc ss)
  refine pz_G_of pz_b154_0 ?_
  refine w_loc rfl ?_
  refine w_loc rfl ?_
  by_cases h1 : 0 ≤ e ∧ e < k 0
  · first
    | (exfalso; first | omega | contradiction)
    | (have hc2 : pz_R (pz_Sh L) 170 [.inr (.inl 2), .inl e] (iv) (.inl none) (iv) := s_X10_needEvent_y e (by exact hE) (by exact h1)
       refine w_callv hc2 rfl (pz_cokI is_2 rfl) ?_
       refine w_loc rfl ?_
       refine w_getR (q := 3) is_2 rf_2_0 ?_
       refine w_getR (q := 15) is_3 rf_3_3 ?_
       refine w_loc rfl ?_
       have hc3 : pz_R (pz_Sh L) 26 [.inr (.inl 15), .inl e] (iv) (.inl (some (.inl (pz_bi (q_sta k e))))) (iv) := s_X2_hasStarted_15 e (by exact hk) (by exact hC) (by omega)
       refine w_call hc3 rfl (pz_cokI is_15 rfl) ?_
       by_cases h4 : q_sta k e
       · first
         | (exfalso; first | omega | contradiction)
         | (have hc5 : pz_R (pz_Sh L) 173 [.inl (pz_bi (q_sta k e))] (iv) (.inl none) (iv) := s_X10_needState_y (pz_bi (q_sta k e)) (by exact pz_bi_p1 h4)
            refine w_callv hc5 rfl rfl ?_
            refine w_loc rfl ?_
            refine w_getR (q := 3) is_2 rf_2_0 ?_
            refine w_getR (q := 15) is_3 rf_3_3 ?_
            refine w_loc rfl ?_
            have hc6 : pz_R (pz_Sh L) 25 [.inr (.inl 15), .inl e] (iv) (.inl (some (.inl (k (6 + e).toNat)))) (iv) := s_X2_startOf_15 e (by exact hk) (by exact hC) (by omega)
            refine w_call hc6 rfl (pz_cokI is_15 rfl) ?_
            refine w_ret rfl ?_
            first | exact lf_i (by first | rfl | omega) (by rfl) | (exfalso; omega))
       · first
         | (exfalso; first | omega | contradiction)
         | (have hc7 : pz_R (pz_Sh L) 173 [.inl (pz_bi (q_sta k e))] (iv) (.inr 0) (iv) := s_X10_needState_n (pz_bi (q_sta k e)) (by exact pz_bi_0 h4)
            refine w_calle hc7 rfl rfl rfl ?_
            first | exact lf_e (by rfl) | (exfalso; omega)))
  · first
    | (exfalso; first | omega | contradiction)
    | (have hc8 : pz_R (pz_Sh L) 170 [.inr (.inl 2), .inl e] (iv) (.inr 2) (iv) := s_X10_needEvent_n e (by exact hE) (by exact h1)
       refine w_calle hc8 rfl (pz_cokI is_2 rfl) rfl ?_
       first | exact lf_e (by rfl) | (exfalso; omega))

theorem s_X10_playedAt_1 {L : Nat} {iv : Nat → Nat → Int} (e : Int) {k : Nat → Int} (hk : q_KR k) (hE : q_cE k (iv 3)) (hB : q_cB k (iv 4) (iv 5) (iv 6) (iv 7) (iv 8) (iv 9)) (hS : q_cS k (iv 10) (iv 11) (iv 12) (iv 13) (iv 14)) (hC : q_cC k (iv 15) (iv 16)) (hA : q_cA k (iv 17) (iv 18) (iv 19) (iv 20)) (hO : q_cO k (iv 22) (iv 23) (iv 24)) (hL : q_cL k (iv 25)) (hP : q_cP k (iv 27)) (hcase0 : ¬ (0 ≤ e ∧ e ≤ k 0 - 1)) : pz_R (pz_Sh L) 145 [.inr (.inl 2), .inl e] iv (.inr 2) iv := by
  intro dv cc ss
  have hk0 := hk.r0
  have hE0 := hE
  have hB0 := hB.1
  have hS0 := hS.1
  have hC0 := hC.1
  have hA0 := hA.1
  show pz_G 145 0 [some (.inr (.inl 2)), some (.inl e)] [] (pz_Sh L, iv, dv, cc, ss) (pz_P (pz_Sh L) (.inr 2) iv dv cc ss)
  refine pz_G_of pz_b145_0 ?_
  refine w_loc rfl ?_
  refine w_loc rfl ?_
  by_cases h1 : 0 ≤ e ∧ e < k 0
  · first
    | (exfalso; first | omega | contradiction)
    | (have hc2 : pz_R (pz_Sh L) 170 [.inr (.inl 2), .inl e] (iv) (.inl none) (iv) := s_X10_needEvent_y e (by exact hE) (by exact h1)
       refine w_callv hc2 rfl (pz_cokI is_2 rfl) ?_
       refine w_loc rfl ?_
       refine w_loc rfl ?_
       refine w_getR (q := 3) is_2 rf_2_0 ?_
       refine w_getI (v := (iv 3) 7) is_3 (by decide) rfl ?_
       refine w_ige (fun h3 => ?_) (fun h3 => ?_)
       · first
         | (exfalso; first | omega | contradiction)
         | (refine pz_G_of pz_b145_20 ?_
            refine w_pure rfl ?_
            refine w_nil ?_
            refine pz_G_of pz_b145_21 ?_
            have hc4 : pz_R (pz_Sh L) 173 [.inl 0] (iv) (.inr 0) (iv) := s_X10_needState_n 0 (by omega)
            refine w_calle hc4 rfl rfl rfl ?_
            first | exact lf_e (by rfl) | (exfalso; omega))
       · first
         | (exfalso; first | omega | contradiction)
         | (refine w_pure rfl ?_
            refine w_goto ?_
            refine pz_G_of pz_b145_21 ?_
            have hc5 : pz_R (pz_Sh L) 173 [.inl 1] (iv) (.inl none) (iv) := s_X10_needState_y 1 (by omega)
            refine w_callv hc5 rfl rfl ?_
            refine w_loc rfl ?_
            refine w_getR (q := 3) is_2 rf_2_0 ?_
            refine w_loc rfl ?_
            have hc6 : pz_R (pz_Sh L) 74 [.inr (.inl 3), .inl e] (iv) (.inl (some (.inl (k (241 + e).toNat)))) (iv) := s_X6_playedStart e (by exact hk) (by exact hP) (by omega)
            refine w_call hc6 rfl (pz_cokI is_3 rfl) ?_
            refine w_ret rfl ?_
            first | exact lf_i (by first | rfl | omega) (by rfl) | (exfalso; omega)))
  · first
    | (exfalso; first | omega | contradiction)
    | (have hc7 : pz_R (pz_Sh L) 170 [.inr (.inl 2), .inl e] (iv) (.inr 2) (iv) := s_X10_needEvent_n e (by exact hE) (by exact h1)
       refine w_calle hc7 rfl (pz_cokI is_2 rfl) rfl ?_
       first | exact lf_e (by rfl) | (exfalso; omega))

theorem s_X10_playedAt_2 {L : Nat} {iv : Nat → Nat → Int} (e : Int) {k : Nat → Int} (hk : q_KR k) (hE : q_cE k (iv 3)) (hB : q_cB k (iv 4) (iv 5) (iv 6) (iv 7) (iv 8) (iv 9)) (hS : q_cS k (iv 10) (iv 11) (iv 12) (iv 13) (iv 14)) (hC : q_cC k (iv 15) (iv 16)) (hA : q_cA k (iv 17) (iv 18) (iv 19) (iv 20)) (hO : q_cO k (iv 22) (iv 23) (iv 24)) (hL : q_cL k (iv 25)) (hP : q_cP k (iv 27)) (hcase0 : 0 ≤ e ∧ e ≤ k 0 - 1) (hcase1 : k 240 ≤ e) : pz_R (pz_Sh L) 145 [.inr (.inl 2), .inl e] iv (.inr 0) iv := by
  intro dv cc ss
  have hk0 := hk.r0
  have hE0 := hE
  have hB0 := hB.1
  have hS0 := hS.1
  have hC0 := hC.1
  have hA0 := hA.1
  show pz_G 145 0 [some (.inr (.inl 2)), some (.inl e)] [] (pz_Sh L, iv, dv, cc, ss) (pz_P (pz_Sh L) (.inr 0) iv dv cc ss)
  refine pz_G_of pz_b145_0 ?_
  refine w_loc rfl ?_
  refine w_loc rfl ?_
  by_cases h1 : 0 ≤ e ∧ e < k 0
  · first
    | (exfalso; first | omega | contradiction)
    | (have hc2 : pz_R (pz_Sh L) 170 [.inr (.inl 2), .inl e] (iv) (.inl none) (iv) := s_X10_needEvent_y e (by exact hE) (by exact h1)
       refine w_callv hc2 rfl (pz_cokI is_2 rfl) ?_
       refine w_loc rfl ?_
       refine w_loc rfl ?_
       refine w_getR (q := 3) is_2 rf_2_0 ?_
       refine w_getI (v := (iv 3) 7) is_3 (by decide) rfl ?_
       refine w_ige (fun h3 => ?_) (fun h3 => ?_)
       · first
         | (exfalso; first | omega | contradiction)
         | (refine pz_G_of pz_b145_20 ?_
            refine w_pure rfl ?_
            refine w_nil ?_
            refine pz_G_of pz_b145_21 ?_
            have hc4 : pz_R (pz_Sh L) 173 [.inl 0] (iv) (.inr 0) (iv) := s_X10_needState_n 0 (by omega)
            refine w_calle hc4 rfl rfl rfl ?_
            first | exact lf_e (by rfl) | (exfalso; omega))
       · first
         | (exfalso; first | omega | contradiction)
         | (refine w_pure rfl ?_
            refine w_goto ?_
            refine pz_G_of pz_b145_21 ?_
            have hc5 : pz_R (pz_Sh L) 173 [.inl 1] (iv) (.inl none) (iv) := s_X10_needState_y 1 (by omega)
            refine w_callv hc5 rfl rfl ?_
            refine w_loc rfl ?_
            refine w_getR (q := 3) is_2 rf_2_0 ?_
            refine w_loc rfl ?_
            have hc6 : pz_R (pz_Sh L) 74 [.inr (.inl 3), .inl e] (iv) (.inl (some (.inl (k (241 + e).toNat)))) (iv) := s_X6_playedStart e (by exact hk) (by exact hP) (by omega)
            refine w_call hc6 rfl (pz_cokI is_3 rfl) ?_
            refine w_ret rfl ?_
            first | exact lf_i (by first | rfl | omega) (by rfl) | (exfalso; omega)))
  · first
    | (exfalso; first | omega | contradiction)
    | (have hc7 : pz_R (pz_Sh L) 170 [.inr (.inl 2), .inl e] (iv) (.inr 2) (iv) := s_X10_needEvent_n e (by exact hE) (by exact h1)
       refine w_calle hc7 rfl (pz_cokI is_2 rfl) rfl ?_
       first | exact lf_e (by rfl) | (exfalso; omega))

theorem s_X10_playedAt_0 {L : Nat} {iv : Nat → Nat → Int} (e : Int) {k : Nat → Int} (hk : q_KR k) (hE : q_cE k (iv 3)) (hB : q_cB k (iv 4) (iv 5) (iv 6) (iv 7) (iv 8) (iv 9)) (hS : q_cS k (iv 10) (iv 11) (iv 12) (iv 13) (iv 14)) (hC : q_cC k (iv 15) (iv 16)) (hA : q_cA k (iv 17) (iv 18) (iv 19) (iv 20)) (hO : q_cO k (iv 22) (iv 23) (iv 24)) (hL : q_cL k (iv 25)) (hP : q_cP k (iv 27)) (hcase0 : 0 ≤ e ∧ e ≤ k 0 - 1) (hcase1 : e < k 240) : pz_R (pz_Sh L) 145 [.inr (.inl 2), .inl e] iv (.inl (some (.inl (k (241 + e).toNat)))) iv := by
  intro dv cc ss
  have hk0 := hk.r0
  have hE0 := hE
  have hB0 := hB.1
  have hS0 := hS.1
  have hC0 := hC.1
  have hA0 := hA.1
  show pz_G 145 0 [some (.inr (.inl 2)), some (.inl e)] [] (pz_Sh L, iv, dv, cc, ss) (pz_P (pz_Sh L) (.inl (some (.inl (k (241 + e).toNat)))) iv dv cc ss)
  refine pz_G_of pz_b145_0 ?_
  refine w_loc rfl ?_
  refine w_loc rfl ?_
  by_cases h1 : 0 ≤ e ∧ e < k 0
  · first
    | (exfalso; first | omega | contradiction)
    | (have hc2 : pz_R (pz_Sh L) 170 [.inr (.inl 2), .inl e] (iv) (.inl none) (iv) := s_X10_needEvent_y e (by exact hE) (by exact h1)
       refine w_callv hc2 rfl (pz_cokI is_2 rfl) ?_
       refine w_loc rfl ?_
       refine w_loc rfl ?_
       refine w_getR (q := 3) is_2 rf_2_0 ?_
       refine w_getI (v := (iv 3) 7) is_3 (by decide) rfl ?_
       refine w_ige (fun h3 => ?_) (fun h3 => ?_)
       · first
         | (exfalso; first | omega | contradiction)
         | (refine pz_G_of pz_b145_20 ?_
            refine w_pure rfl ?_
            refine w_nil ?_
            refine pz_G_of pz_b145_21 ?_
            have hc4 : pz_R (pz_Sh L) 173 [.inl 0] (iv) (.inr 0) (iv) := s_X10_needState_n 0 (by omega)
            refine w_calle hc4 rfl rfl rfl ?_
            first | exact lf_e (by rfl) | (exfalso; omega))
       · first
         | (exfalso; first | omega | contradiction)
         | (refine w_pure rfl ?_
            refine w_goto ?_
            refine pz_G_of pz_b145_21 ?_
            have hc5 : pz_R (pz_Sh L) 173 [.inl 1] (iv) (.inl none) (iv) := s_X10_needState_y 1 (by omega)
            refine w_callv hc5 rfl rfl ?_
            refine w_loc rfl ?_
            refine w_getR (q := 3) is_2 rf_2_0 ?_
            refine w_loc rfl ?_
            have hc6 : pz_R (pz_Sh L) 74 [.inr (.inl 3), .inl e] (iv) (.inl (some (.inl (k (241 + e).toNat)))) (iv) := s_X6_playedStart e (by exact hk) (by exact hP) (by omega)
            refine w_call hc6 rfl (pz_cokI is_3 rfl) ?_
            refine w_ret rfl ?_
            first | exact lf_i (by first | rfl | omega) (by rfl) | (exfalso; omega)))
  · first
    | (exfalso; first | omega | contradiction)
    | (have hc7 : pz_R (pz_Sh L) 170 [.inr (.inl 2), .inl e] (iv) (.inr 2) (iv) := s_X10_needEvent_n e (by exact hE) (by exact h1)
       refine w_calle hc7 rfl (pz_cokI is_2 rfl) rfl ?_
       first | exact lf_e (by rfl) | (exfalso; omega))

theorem s_X0_add {L : Nat} {iv : Nat → Nat → Int} (f : Int) (t : Int) (d : Int) {k : Nat → Int} (hk : q_KR k) (hA : q_cA k (iv 17) (iv 18) (iv 19) (iv 20)) (hn : k 3 < 5) : pz_R (pz_Sh L) 4 [.inr (.inl 17), .inl f, .inl t, .inl d] iv (.inl (some (.inl (k 3)))) (pz_u1 (pz_u1 (pz_u1 (pz_u1 iv 17 (pz_up (iv 17) 0 (k 3 + 1))) 18 (pz_up (iv 18) (k 3).toNat f)) 19 (pz_up (iv 19) (k 3).toNat t)) 20 (pz_up (iv 20) (k 3).toNat d)) := by
  intro dv cc ss
  have hk0 := hk.r0
  have hA0 := hA.1
  refine pz_G_mem (iv2 := pz_u1 (pz_u1 (pz_u1 (pz_u1 iv 17 (iv 17)) 18 (iv 18)) 19 (iv 19)) 20 (iv 20)) (by exact ((((pz_u1_self iv 17).symm).trans (pz_u1_self (pz_u1 iv 17 (iv 17)) 18).symm).trans (pz_u1_self (pz_u1 (pz_u1 iv 17 (iv 17)) 18 (iv 18)) 19).symm).trans (pz_u1_self (pz_u1 (pz_u1 (pz_u1 iv 17 (iv 17)) 18 (iv 18)) 19 (iv 19)) 20).symm) ?_
  show pz_G 4 0 [some (.inr (.inl 17)), some (.inl f), some (.inl t), some (.inl d), none] [] (pz_Sh L, pz_u1 (pz_u1 (pz_u1 (pz_u1 iv 17 (iv 17)) 18 (iv 18)) 19 (iv 19)) 20 (iv 20), dv, cc, ss) (pz_P (pz_Sh L) (.inl (some (.inl (k 3)))) (pz_u1 (pz_u1 (pz_u1 (pz_u1 iv 17 (pz_up (iv 17) 0 (k 3 + 1))) 18 (pz_up (iv 18) (k 3).toNat f)) 19 (pz_up (iv 19) (k 3).toNat t)) 20 (pz_up (iv 20) (k 3).toNat d)) dv cc ss)
  refine pz_G_of pz_b4_0 ?_
  refine w_loc rfl ?_
  refine w_getI (v := (iv 17) 0) is_17 (by decide) rfl ?_
  refine w_pure rfl ?_
  refine w_ilt (fun h1 => ?_) (fun h1 => ?_)
  · refine pz_G_of pz_b4_10 ?_
    refine w_loc rfl ?_
    refine w_getI (v := (iv 17) 0) is_17 (by decide) rfl ?_
    refine w_loc (ls' := [some (.inr (.inl 17)), some (.inl f), some (.inl t), some (.inl d), some (.inl ((iv 17) 0))]) (st' := []) rfl ?_
    refine w_loc rfl ?_
    refine w_getR (q := 18) is_17 rf_17_2 ?_
    refine w_loc rfl ?_
    refine w_loc rfl ?_
    refine w_iastm (iv2 := pz_u1 (pz_u1 (pz_u1 (pz_u1 iv 17 (iv 17)) 18 (pz_up (iv 18) ((iv 17) 0).toNat f)) 19 (iv 19)) 20 (iv 20)) is_18 ln_18 ⟨by omega, by omega⟩ (by rw [pz_u2_in (r := 18) (q := 20) (by decide)]; rw [pz_u2_in (r := 18) (q := 19) (by decide)]; rw [pz_u2_top] <;> rfl) ?_
    refine w_loc rfl ?_
    refine w_getR (q := 19) is_17 rf_17_3 ?_
    refine w_loc rfl ?_
    refine w_loc rfl ?_
    refine w_iastm (iv2 := pz_u1 (pz_u1 (pz_u1 (pz_u1 iv 17 (iv 17)) 18 (pz_up (iv 18) ((iv 17) 0).toNat f)) 19 (pz_up (iv 19) ((iv 17) 0).toNat t)) 20 (iv 20)) is_19 ln_19 ⟨by omega, by omega⟩ (by rw [pz_u2_in (r := 19) (q := 20) (by decide)]; rw [pz_u2_top] <;> rfl) ?_
    refine w_loc rfl ?_
    refine w_getR (q := 20) is_17 rf_17_4 ?_
    refine w_loc rfl ?_
    refine w_loc rfl ?_
    refine w_iastm (iv2 := pz_u1 (pz_u1 (pz_u1 (pz_u1 iv 17 (iv 17)) 18 (pz_up (iv 18) ((iv 17) 0).toNat f)) 19 (pz_up (iv 19) ((iv 17) 0).toNat t)) 20 (pz_up (iv 20) ((iv 17) 0).toNat d)) is_20 ln_20 ⟨by omega, by omega⟩ (by exact pz_u2_top _ _ _ _ _) ?_
    refine w_loc rfl ?_
    refine w_loc rfl ?_
    refine w_pure rfl ?_
    refine w_iadd (by omega) ?_
    refine w_putIm (iv2 := pz_u1 (pz_u1 (pz_u1 (pz_u1 iv 17 (pz_up (iv 17) 0 (((iv 17) 0) + 1))) 18 (pz_up (iv 18) ((iv 17) 0).toNat f)) 19 (pz_up (iv 19) ((iv 17) 0).toNat t)) 20 (pz_up (iv 20) ((iv 17) 0).toNat d)) is_17 pz_fit0 (by rw [pz_u2_in (r := 17) (q := 20) (by decide)]; rw [pz_u2_in (r := 17) (q := 19) (by decide)]; rw [pz_u2_in (r := 17) (q := 18) (by decide)]; rw [pz_u2_top] <;> rfl) ?_
    refine w_loc rfl ?_
    refine w_ret rfl ?_
    first | exact lf_i (by rw [hA0.1]) (by rw [hA0.1]) | (exfalso; omega)
  · refine w_pure rfl ?_
    refine w_ret rfl ?_
    first | exact lf_i (by rw [hA0.1]) (by rw [hA0.1]) | (exfalso; omega)

theorem s_X10_addActivity_1 {L : Nat} {iv : Nat → Nat → Int} (f : Int) (t : Int) (d : Int) {k : Nat → Int} (hk : q_KR k) (hE : q_cE k (iv 3)) (hB : q_cB k (iv 4) (iv 5) (iv 6) (iv 7) (iv 8) (iv 9)) (hS : q_cS k (iv 10) (iv 11) (iv 12) (iv 13) (iv 14)) (hC : q_cC k (iv 15) (iv 16)) (hA : q_cA k (iv 17) (iv 18) (iv 19) (iv 20)) (hO : q_cO k (iv 22) (iv 23) (iv 24)) (hL : q_cL k (iv 25)) (hP : q_cP k (iv 27)) (hcase0 : ¬ (0 ≤ f ∧ f ≤ k 0 - 1 ∧ 0 ≤ t ∧ t ≤ k 0 - 1)) : pz_R (pz_Sh L) 155 [.inr (.inl 2), .inl f, .inl t, .inl d] iv (.inr 2) iv := by
  intro dv cc ss
  have hk0 := hk.r0
  have hE0 := hE
  have hB0 := hB.1
  have hS0 := hS.1
  have hC0 := hC.1
  have hA0 := hA.1
  show pz_G 155 0 [some (.inr (.inl 2)), some (.inl f), some (.inl t), some (.inl d)] [] (pz_Sh L, iv, dv, cc, ss) (pz_P (pz_Sh L) (.inr 2) iv dv cc ss)
  refine pz_G_of pz_b155_0 ?_
  refine w_loc rfl ?_
  refine w_loc rfl ?_
  by_cases h1 : 0 ≤ f ∧ f < k 0
  · first
    | (exfalso; first | omega | contradiction)
    | (have hc2 : pz_R (pz_Sh L) 170 [.inr (.inl 2), .inl f] (iv) (.inl none) (iv) := s_X10_needEvent_y f (by exact hE) (by exact h1)
       refine w_callv hc2 rfl (pz_cokI is_2 rfl) ?_
       refine w_loc rfl ?_
       refine w_loc rfl ?_
       by_cases h3 : 0 ≤ t ∧ t < k 0
       · first
         | (exfalso; first | omega | contradiction)
         | (have hc4 : pz_R (pz_Sh L) 170 [.inr (.inl 2), .inl t] (iv) (.inl none) (iv) := s_X10_needEvent_y t (by exact hE) (by exact h3)
            refine w_callv hc4 rfl (pz_cokI is_2 rfl) ?_
            refine w_loc rfl ?_
            refine w_loc rfl ?_
            refine w_ieq (fun h5 => ?_) (fun h5 => ?_)
            · first
              | (exfalso; first | omega | contradiction)
              | (refine pz_G_of pz_b155_19 ?_
                 refine w_pure rfl ?_
                 refine w_nil ?_
                 refine pz_G_of pz_b155_20 ?_
                 have hc6 : pz_R (pz_Sh L) 172 [.inl 0] (iv) (.inr 1) (iv) := s_X10_needRange_n 0 (by omega)
                 refine w_calle hc6 rfl rfl rfl ?_
                 first | exact lf_e (by rfl) | (exfalso; omega))
            · first
              | (exfalso; first | omega | contradiction)
              | (refine w_pure rfl ?_
                 refine w_goto ?_
                 refine pz_G_of pz_b155_20 ?_
                 have hc7 : pz_R (pz_Sh L) 172 [.inl 1] (iv) (.inl none) (iv) := s_X10_needRange_y 1 (by omega)
                 refine w_callv hc7 rfl rfl ?_
                 refine w_loc rfl ?_
                 refine w_pure rfl ?_
                 refine w_pure rfl ?_
                 have hc8 : pz_R (pz_Sh L) 185 [.inl d, .inl 1, .inl 9] (iv) (.inl (some (.inl (pz_bi (1 ≤ d ∧ d ≤ 9))))) (iv) := s_X10_isWithin d 1 9
                 refine w_call hc8 rfl rfl ?_
                 by_cases h9 : 1 ≤ d ∧ d ≤ 9
                 · first
                   | (exfalso; first | omega | contradiction)
                   | (have hc10 : pz_R (pz_Sh L) 172 [.inl (pz_bi (1 ≤ d ∧ d ≤ 9))] (iv) (.inl none) (iv) := s_X10_needRange_y (pz_bi (1 ≤ d ∧ d ≤ 9)) (by exact pz_bi_p1 h9)
                      refine w_callv hc10 rfl rfl ?_
                      refine w_loc rfl ?_
                      refine w_getR (q := 3) is_2 rf_2_0 ?_
                      refine w_getR (q := 17) is_3 rf_3_4 ?_
                      refine w_getI (v := (iv 17) 0) is_17 (by decide) rfl ?_
                      refine w_pure rfl ?_
                      refine w_ige (fun h11 => ?_) (fun h11 => ?_)
                      · first
                        | (exfalso; first | omega | contradiction)
                        | (refine pz_G_of pz_b155_51 ?_
                           refine w_pure rfl ?_
                           refine w_nil ?_
                           refine pz_G_of pz_b155_52 ?_
                           have hc12 : pz_R (pz_Sh L) 173 [.inl 0] (iv) (.inr 0) (iv) := s_X10_needState_n 0 (by omega)
                           refine w_calle hc12 rfl rfl rfl ?_
                           first | exact lf_e (by rfl) | (exfalso; omega))
                      · first
                        | (exfalso; first | omega | contradiction)
                        | (refine w_pure rfl ?_
                           refine w_goto ?_
                           refine pz_G_of pz_b155_52 ?_
                           have hc13 : pz_R (pz_Sh L) 173 [.inl 1] (iv) (.inl none) (iv) := s_X10_needState_y 1 (by omega)
                           refine w_callv hc13 rfl rfl ?_
                           refine w_loc rfl ?_
                           refine w_getR (q := 3) is_2 rf_2_0 ?_
                           refine w_getR (q := 17) is_3 rf_3_4 ?_
                           refine w_loc rfl ?_
                           refine w_loc rfl ?_
                           refine w_loc rfl ?_
                           have hc14 : pz_R (pz_Sh L) 4 [.inr (.inl 17), .inl f, .inl t, .inl d] (iv) (.inl (some (.inl (k 3)))) (pz_u1 (pz_u1 (pz_u1 (pz_u1 iv 17 (pz_up (iv 17) 0 (k 3 + 1))) 18 (pz_up (iv 18) (k 3).toNat f)) 19 (pz_up (iv 19) (k 3).toNat t)) 20 (pz_up (iv 20) (k 3).toNat d)) := pz_R_mem (s_X0_add f t d (by exact hk) (by exact hA) (by omega)) (by rw [pz_u1_top (r := 17)]; rw [pz_u1_top (r := 18)]; rw [pz_u1_top (r := 19)]; rw [pz_u1_top (r := 20)]; rfl)
                           refine w_call hc14 rfl (pz_cokI is_17 rfl) ?_
                           refine w_ret rfl ?_
                           first | exact lf_i (by first | rfl | omega) (by rfl) | (exfalso; omega)))
                 · first
                   | (exfalso; first | omega | contradiction)
                   | (have hc15 : pz_R (pz_Sh L) 172 [.inl (pz_bi (1 ≤ d ∧ d ≤ 9))] (iv) (.inr 1) (iv) := s_X10_needRange_n (pz_bi (1 ≤ d ∧ d ≤ 9)) (by exact pz_bi_0 h9)
                      refine w_calle hc15 rfl rfl rfl ?_
                      first | exact lf_e (by rfl) | (exfalso; omega))))
       · first
         | (exfalso; first | omega | contradiction)
         | (have hc16 : pz_R (pz_Sh L) 170 [.inr (.inl 2), .inl t] (iv) (.inr 2) (iv) := s_X10_needEvent_n t (by exact hE) (by exact h3)
            refine w_calle hc16 rfl (pz_cokI is_2 rfl) rfl ?_
            first | exact lf_e (by rfl) | (exfalso; omega)))
  · first
    | (exfalso; first | omega | contradiction)
    | (have hc17 : pz_R (pz_Sh L) 170 [.inr (.inl 2), .inl f] (iv) (.inr 2) (iv) := s_X10_needEvent_n f (by exact hE) (by exact h1)
       refine w_calle hc17 rfl (pz_cokI is_2 rfl) rfl ?_
       first | exact lf_e (by rfl) | (exfalso; omega))

theorem s_X10_addActivity_2 {L : Nat} {iv : Nat → Nat → Int} (f : Int) (t : Int) (d : Int) {k : Nat → Int} (hk : q_KR k) (hE : q_cE k (iv 3)) (hB : q_cB k (iv 4) (iv 5) (iv 6) (iv 7) (iv 8) (iv 9)) (hS : q_cS k (iv 10) (iv 11) (iv 12) (iv 13) (iv 14)) (hC : q_cC k (iv 15) (iv 16)) (hA : q_cA k (iv 17) (iv 18) (iv 19) (iv 20)) (hO : q_cO k (iv 22) (iv 23) (iv 24)) (hL : q_cL k (iv 25)) (hP : q_cP k (iv 27)) (hcase0 : 0 ≤ f ∧ f ≤ k 0 - 1 ∧ 0 ≤ t ∧ t ≤ k 0 - 1) (hcase1 : ¬ (f ≠ t ∧ 1 ≤ d ∧ d ≤ 9)) : pz_R (pz_Sh L) 155 [.inr (.inl 2), .inl f, .inl t, .inl d] iv (.inr 1) iv := by
  intro dv cc ss
  have hk0 := hk.r0
  have hE0 := hE
  have hB0 := hB.1
  have hS0 := hS.1
  have hC0 := hC.1
  have hA0 := hA.1
  show pz_G 155 0 [some (.inr (.inl 2)), some (.inl f), some (.inl t), some (.inl d)] [] (pz_Sh L, iv, dv, cc, ss) (pz_P (pz_Sh L) (.inr 1) iv dv cc ss)
  refine pz_G_of pz_b155_0 ?_
  refine w_loc rfl ?_
  refine w_loc rfl ?_
  by_cases h1 : 0 ≤ f ∧ f < k 0
  · first
    | (exfalso; first | omega | contradiction)
    | (have hc2 : pz_R (pz_Sh L) 170 [.inr (.inl 2), .inl f] (iv) (.inl none) (iv) := s_X10_needEvent_y f (by exact hE) (by exact h1)
       refine w_callv hc2 rfl (pz_cokI is_2 rfl) ?_
       refine w_loc rfl ?_
       refine w_loc rfl ?_
       by_cases h3 : 0 ≤ t ∧ t < k 0
       · first
         | (exfalso; first | omega | contradiction)
         | (have hc4 : pz_R (pz_Sh L) 170 [.inr (.inl 2), .inl t] (iv) (.inl none) (iv) := s_X10_needEvent_y t (by exact hE) (by exact h3)
            refine w_callv hc4 rfl (pz_cokI is_2 rfl) ?_
            refine w_loc rfl ?_
            refine w_loc rfl ?_
            refine w_ieq (fun h5 => ?_) (fun h5 => ?_)
            · first
              | (exfalso; first | omega | contradiction)
              | (refine pz_G_of pz_b155_19 ?_
                 refine w_pure rfl ?_
                 refine w_nil ?_
                 refine pz_G_of pz_b155_20 ?_
                 have hc6 : pz_R (pz_Sh L) 172 [.inl 0] (iv) (.inr 1) (iv) := s_X10_needRange_n 0 (by omega)
                 refine w_calle hc6 rfl rfl rfl ?_
                 first | exact lf_e (by rfl) | (exfalso; omega))
            · first
              | (exfalso; first | omega | contradiction)
              | (refine w_pure rfl ?_
                 refine w_goto ?_
                 refine pz_G_of pz_b155_20 ?_
                 have hc7 : pz_R (pz_Sh L) 172 [.inl 1] (iv) (.inl none) (iv) := s_X10_needRange_y 1 (by omega)
                 refine w_callv hc7 rfl rfl ?_
                 refine w_loc rfl ?_
                 refine w_pure rfl ?_
                 refine w_pure rfl ?_
                 have hc8 : pz_R (pz_Sh L) 185 [.inl d, .inl 1, .inl 9] (iv) (.inl (some (.inl (pz_bi (1 ≤ d ∧ d ≤ 9))))) (iv) := s_X10_isWithin d 1 9
                 refine w_call hc8 rfl rfl ?_
                 by_cases h9 : 1 ≤ d ∧ d ≤ 9
                 · first
                   | (exfalso; first | omega | contradiction)
                   | (have hc10 : pz_R (pz_Sh L) 172 [.inl (pz_bi (1 ≤ d ∧ d ≤ 9))] (iv) (.inl none) (iv) := s_X10_needRange_y (pz_bi (1 ≤ d ∧ d ≤ 9)) (by exact pz_bi_p1 h9)
                      refine w_callv hc10 rfl rfl ?_
                      refine w_loc rfl ?_
                      refine w_getR (q := 3) is_2 rf_2_0 ?_
                      refine w_getR (q := 17) is_3 rf_3_4 ?_
                      refine w_getI (v := (iv 17) 0) is_17 (by decide) rfl ?_
                      refine w_pure rfl ?_
                      refine w_ige (fun h11 => ?_) (fun h11 => ?_)
                      · first
                        | (exfalso; first | omega | contradiction)
                        | (refine pz_G_of pz_b155_51 ?_
                           refine w_pure rfl ?_
                           refine w_nil ?_
                           refine pz_G_of pz_b155_52 ?_
                           have hc12 : pz_R (pz_Sh L) 173 [.inl 0] (iv) (.inr 0) (iv) := s_X10_needState_n 0 (by omega)
                           refine w_calle hc12 rfl rfl rfl ?_
                           first | exact lf_e (by rfl) | (exfalso; omega))
                      · first
                        | (exfalso; first | omega | contradiction)
                        | (refine w_pure rfl ?_
                           refine w_goto ?_
                           refine pz_G_of pz_b155_52 ?_
                           have hc13 : pz_R (pz_Sh L) 173 [.inl 1] (iv) (.inl none) (iv) := s_X10_needState_y 1 (by omega)
                           refine w_callv hc13 rfl rfl ?_
                           refine w_loc rfl ?_
                           refine w_getR (q := 3) is_2 rf_2_0 ?_
                           refine w_getR (q := 17) is_3 rf_3_4 ?_
                           refine w_loc rfl ?_
                           refine w_loc rfl ?_
                           refine w_loc rfl ?_
                           have hc14 : pz_R (pz_Sh L) 4 [.inr (.inl 17), .inl f, .inl t, .inl d] (iv) (.inl (some (.inl (k 3)))) (pz_u1 (pz_u1 (pz_u1 (pz_u1 iv 17 (pz_up (iv 17) 0 (k 3 + 1))) 18 (pz_up (iv 18) (k 3).toNat f)) 19 (pz_up (iv 19) (k 3).toNat t)) 20 (pz_up (iv 20) (k 3).toNat d)) := pz_R_mem (s_X0_add f t d (by exact hk) (by exact hA) (by omega)) (by rw [pz_u1_top (r := 17)]; rw [pz_u1_top (r := 18)]; rw [pz_u1_top (r := 19)]; rw [pz_u1_top (r := 20)]; rfl)
                           refine w_call hc14 rfl (pz_cokI is_17 rfl) ?_
                           refine w_ret rfl ?_
                           first | exact lf_i (by first | rfl | omega) (by rfl) | (exfalso; omega)))
                 · first
                   | (exfalso; first | omega | contradiction)
                   | (have hc15 : pz_R (pz_Sh L) 172 [.inl (pz_bi (1 ≤ d ∧ d ≤ 9))] (iv) (.inr 1) (iv) := s_X10_needRange_n (pz_bi (1 ≤ d ∧ d ≤ 9)) (by exact pz_bi_0 h9)
                      refine w_calle hc15 rfl rfl rfl ?_
                      first | exact lf_e (by rfl) | (exfalso; omega))))
       · first
         | (exfalso; first | omega | contradiction)
         | (have hc16 : pz_R (pz_Sh L) 170 [.inr (.inl 2), .inl t] (iv) (.inr 2) (iv) := s_X10_needEvent_n t (by exact hE) (by exact h3)
            refine w_calle hc16 rfl (pz_cokI is_2 rfl) rfl ?_
            first | exact lf_e (by rfl) | (exfalso; omega)))
  · first
    | (exfalso; first | omega | contradiction)
    | (have hc17 : pz_R (pz_Sh L) 170 [.inr (.inl 2), .inl f] (iv) (.inr 2) (iv) := s_X10_needEvent_n f (by exact hE) (by exact h1)
       refine w_calle hc17 rfl (pz_cokI is_2 rfl) rfl ?_
       first | exact lf_e (by rfl) | (exfalso; omega))

theorem s_X10_addActivity_3 {L : Nat} {iv : Nat → Nat → Int} (f : Int) (t : Int) (d : Int) {k : Nat → Int} (hk : q_KR k) (hE : q_cE k (iv 3)) (hB : q_cB k (iv 4) (iv 5) (iv 6) (iv 7) (iv 8) (iv 9)) (hS : q_cS k (iv 10) (iv 11) (iv 12) (iv 13) (iv 14)) (hC : q_cC k (iv 15) (iv 16)) (hA : q_cA k (iv 17) (iv 18) (iv 19) (iv 20)) (hO : q_cO k (iv 22) (iv 23) (iv 24)) (hL : q_cL k (iv 25)) (hP : q_cP k (iv 27)) (hcase0 : 0 ≤ f ∧ f ≤ k 0 - 1 ∧ 0 ≤ t ∧ t ≤ k 0 - 1) (hcase1 : f ≠ t ∧ 1 ≤ d ∧ d ≤ 9) (hcase2 : k 3 = 5) : pz_R (pz_Sh L) 155 [.inr (.inl 2), .inl f, .inl t, .inl d] iv (.inr 0) iv := by
  intro dv cc ss
  have hk0 := hk.r0
  have hE0 := hE
  have hB0 := hB.1
  have hS0 := hS.1
  have hC0 := hC.1
  have hA0 := hA.1
  show pz_G 155 0 [some (.inr (.inl 2)), some (.inl f), some (.inl t), some (.inl d)] [] (pz_Sh L, iv, dv, cc, ss) (pz_P (pz_Sh L) (.inr 0) iv dv cc ss)
  refine pz_G_of pz_b155_0 ?_
  refine w_loc rfl ?_
  refine w_loc rfl ?_
  by_cases h1 : 0 ≤ f ∧ f < k 0
  · first
    | (exfalso; first | omega | contradiction)
    | (have hc2 : pz_R (pz_Sh L) 170 [.inr (.inl 2), .inl f] (iv) (.inl none) (iv) := s_X10_needEvent_y f (by exact hE) (by exact h1)
       refine w_callv hc2 rfl (pz_cokI is_2 rfl) ?_
       refine w_loc rfl ?_
       refine w_loc rfl ?_
       by_cases h3 : 0 ≤ t ∧ t < k 0
       · first
         | (exfalso; first | omega | contradiction)
         | (have hc4 : pz_R (pz_Sh L) 170 [.inr (.inl 2), .inl t] (iv) (.inl none) (iv) := s_X10_needEvent_y t (by exact hE) (by exact h3)
            refine w_callv hc4 rfl (pz_cokI is_2 rfl) ?_
            refine w_loc rfl ?_
            refine w_loc rfl ?_
            refine w_ieq (fun h5 => ?_) (fun h5 => ?_)
            · first
              | (exfalso; first | omega | contradiction)
              | (refine pz_G_of pz_b155_19 ?_
                 refine w_pure rfl ?_
                 refine w_nil ?_
                 refine pz_G_of pz_b155_20 ?_
                 have hc6 : pz_R (pz_Sh L) 172 [.inl 0] (iv) (.inr 1) (iv) := s_X10_needRange_n 0 (by omega)
                 refine w_calle hc6 rfl rfl rfl ?_
                 first | exact lf_e (by rfl) | (exfalso; omega))
            · first
              | (exfalso; first | omega | contradiction)
              | (refine w_pure rfl ?_
                 refine w_goto ?_
                 refine pz_G_of pz_b155_20 ?_
                 have hc7 : pz_R (pz_Sh L) 172 [.inl 1] (iv) (.inl none) (iv) := s_X10_needRange_y 1 (by omega)
                 refine w_callv hc7 rfl rfl ?_
                 refine w_loc rfl ?_
                 refine w_pure rfl ?_
                 refine w_pure rfl ?_
                 have hc8 : pz_R (pz_Sh L) 185 [.inl d, .inl 1, .inl 9] (iv) (.inl (some (.inl (pz_bi (1 ≤ d ∧ d ≤ 9))))) (iv) := s_X10_isWithin d 1 9
                 refine w_call hc8 rfl rfl ?_
                 by_cases h9 : 1 ≤ d ∧ d ≤ 9
                 · first
                   | (exfalso; first | omega | contradiction)
                   | (have hc10 : pz_R (pz_Sh L) 172 [.inl (pz_bi (1 ≤ d ∧ d ≤ 9))] (iv) (.inl none) (iv) := s_X10_needRange_y (pz_bi (1 ≤ d ∧ d ≤ 9)) (by exact pz_bi_p1 h9)
                      refine w_callv hc10 rfl rfl ?_
                      refine w_loc rfl ?_
                      refine w_getR (q := 3) is_2 rf_2_0 ?_
                      refine w_getR (q := 17) is_3 rf_3_4 ?_
                      refine w_getI (v := (iv 17) 0) is_17 (by decide) rfl ?_
                      refine w_pure rfl ?_
                      refine w_ige (fun h11 => ?_) (fun h11 => ?_)
                      · first
                        | (exfalso; first | omega | contradiction)
                        | (refine pz_G_of pz_b155_51 ?_
                           refine w_pure rfl ?_
                           refine w_nil ?_
                           refine pz_G_of pz_b155_52 ?_
                           have hc12 : pz_R (pz_Sh L) 173 [.inl 0] (iv) (.inr 0) (iv) := s_X10_needState_n 0 (by omega)
                           refine w_calle hc12 rfl rfl rfl ?_
                           first | exact lf_e (by rfl) | (exfalso; omega))
                      · first
                        | (exfalso; first | omega | contradiction)
                        | (refine w_pure rfl ?_
                           refine w_goto ?_
                           refine pz_G_of pz_b155_52 ?_
                           have hc13 : pz_R (pz_Sh L) 173 [.inl 1] (iv) (.inl none) (iv) := s_X10_needState_y 1 (by omega)
                           refine w_callv hc13 rfl rfl ?_
                           refine w_loc rfl ?_
                           refine w_getR (q := 3) is_2 rf_2_0 ?_
                           refine w_getR (q := 17) is_3 rf_3_4 ?_
                           refine w_loc rfl ?_
                           refine w_loc rfl ?_
                           refine w_loc rfl ?_
                           have hc14 : pz_R (pz_Sh L) 4 [.inr (.inl 17), .inl f, .inl t, .inl d] (iv) (.inl (some (.inl (k 3)))) (pz_u1 (pz_u1 (pz_u1 (pz_u1 iv 17 (pz_up (iv 17) 0 (k 3 + 1))) 18 (pz_up (iv 18) (k 3).toNat f)) 19 (pz_up (iv 19) (k 3).toNat t)) 20 (pz_up (iv 20) (k 3).toNat d)) := pz_R_mem (s_X0_add f t d (by exact hk) (by exact hA) (by omega)) (by rw [pz_u1_top (r := 17)]; rw [pz_u1_top (r := 18)]; rw [pz_u1_top (r := 19)]; rw [pz_u1_top (r := 20)]; rfl)
                           refine w_call hc14 rfl (pz_cokI is_17 rfl) ?_
                           refine w_ret rfl ?_
                           first | exact lf_i (by first | rfl | omega) (by rfl) | (exfalso; omega)))
                 · first
                   | (exfalso; first | omega | contradiction)
                   | (have hc15 : pz_R (pz_Sh L) 172 [.inl (pz_bi (1 ≤ d ∧ d ≤ 9))] (iv) (.inr 1) (iv) := s_X10_needRange_n (pz_bi (1 ≤ d ∧ d ≤ 9)) (by exact pz_bi_0 h9)
                      refine w_calle hc15 rfl rfl rfl ?_
                      first | exact lf_e (by rfl) | (exfalso; omega))))
       · first
         | (exfalso; first | omega | contradiction)
         | (have hc16 : pz_R (pz_Sh L) 170 [.inr (.inl 2), .inl t] (iv) (.inr 2) (iv) := s_X10_needEvent_n t (by exact hE) (by exact h3)
            refine w_calle hc16 rfl (pz_cokI is_2 rfl) rfl ?_
            first | exact lf_e (by rfl) | (exfalso; omega)))
  · first
    | (exfalso; first | omega | contradiction)
    | (have hc17 : pz_R (pz_Sh L) 170 [.inr (.inl 2), .inl f] (iv) (.inr 2) (iv) := s_X10_needEvent_n f (by exact hE) (by exact h1)
       refine w_calle hc17 rfl (pz_cokI is_2 rfl) rfl ?_
       first | exact lf_e (by rfl) | (exfalso; omega))

theorem s_X10_addActivity_0 {L : Nat} {iv : Nat → Nat → Int} (f : Int) (t : Int) (d : Int) {k : Nat → Int} (hk : q_KR k) (hE : q_cE k (iv 3)) (hB : q_cB k (iv 4) (iv 5) (iv 6) (iv 7) (iv 8) (iv 9)) (hS : q_cS k (iv 10) (iv 11) (iv 12) (iv 13) (iv 14)) (hC : q_cC k (iv 15) (iv 16)) (hA : q_cA k (iv 17) (iv 18) (iv 19) (iv 20)) (hO : q_cO k (iv 22) (iv 23) (iv 24)) (hL : q_cL k (iv 25)) (hP : q_cP k (iv 27)) (hcase0 : 0 ≤ f ∧ f ≤ k 0 - 1 ∧ 0 ≤ t ∧ t ≤ k 0 - 1) (hcase1 : f ≠ t ∧ 1 ≤ d ∧ d ≤ 9) (hcase2 : k 3 ≠ 5) : pz_R (pz_Sh L) 155 [.inr (.inl 2), .inl f, .inl t, .inl d] iv (.inl (some (.inl (k 3)))) (pz_u1 (pz_u1 (pz_u1 (pz_u1 iv 17 (pz_up (iv 17) 0 (k 3 + 1))) 18 (pz_up (iv 18) (k 3).toNat f)) 19 (pz_up (iv 19) (k 3).toNat t)) 20 (pz_up (iv 20) (k 3).toNat d)) := by
  intro dv cc ss
  have hk0 := hk.r0
  have hE0 := hE
  have hB0 := hB.1
  have hS0 := hS.1
  have hC0 := hC.1
  have hA0 := hA.1
  refine pz_G_mem (iv2 := pz_u1 (pz_u1 (pz_u1 (pz_u1 iv 17 (iv 17)) 18 (iv 18)) 19 (iv 19)) 20 (iv 20)) (by exact ((((pz_u1_self iv 17).symm).trans (pz_u1_self (pz_u1 iv 17 (iv 17)) 18).symm).trans (pz_u1_self (pz_u1 (pz_u1 iv 17 (iv 17)) 18 (iv 18)) 19).symm).trans (pz_u1_self (pz_u1 (pz_u1 (pz_u1 iv 17 (iv 17)) 18 (iv 18)) 19 (iv 19)) 20).symm) ?_
  show pz_G 155 0 [some (.inr (.inl 2)), some (.inl f), some (.inl t), some (.inl d)] [] (pz_Sh L, pz_u1 (pz_u1 (pz_u1 (pz_u1 iv 17 (iv 17)) 18 (iv 18)) 19 (iv 19)) 20 (iv 20), dv, cc, ss) (pz_P (pz_Sh L) (.inl (some (.inl (k 3)))) (pz_u1 (pz_u1 (pz_u1 (pz_u1 iv 17 (pz_up (iv 17) 0 (k 3 + 1))) 18 (pz_up (iv 18) (k 3).toNat f)) 19 (pz_up (iv 19) (k 3).toNat t)) 20 (pz_up (iv 20) (k 3).toNat d)) dv cc ss)
  refine pz_G_of pz_b155_0 ?_
  refine w_loc rfl ?_
  refine w_loc rfl ?_
  by_cases h1 : 0 ≤ f ∧ f < k 0
  · first
    | (exfalso; first | omega | contradiction)
    | (have hc2 : pz_R (pz_Sh L) 170 [.inr (.inl 2), .inl f] (pz_u1 (pz_u1 (pz_u1 (pz_u1 iv 17 (iv 17)) 18 (iv 18)) 19 (iv 19)) 20 (iv 20)) (.inl none) (pz_u1 (pz_u1 (pz_u1 (pz_u1 iv 17 (iv 17)) 18 (iv 18)) 19 (iv 19)) 20 (iv 20)) := s_X10_needEvent_y f (by show q_cE k (iv 3); exact hE) (by show 0 ≤ f ∧ f < k 0; exact h1)
       refine w_callv hc2 rfl (pz_cokI is_2 rfl) ?_
       refine w_loc rfl ?_
       refine w_loc rfl ?_
       by_cases h3 : 0 ≤ t ∧ t < k 0
       · first
         | (exfalso; first | omega | contradiction)
         | (have hc4 : pz_R (pz_Sh L) 170 [.inr (.inl 2), .inl t] (pz_u1 (pz_u1 (pz_u1 (pz_u1 iv 17 (iv 17)) 18 (iv 18)) 19 (iv 19)) 20 (iv 20)) (.inl none) (pz_u1 (pz_u1 (pz_u1 (pz_u1 iv 17 (iv 17)) 18 (iv 18)) 19 (iv 19)) 20 (iv 20)) := s_X10_needEvent_y t (by show q_cE k (iv 3); exact hE) (by show 0 ≤ t ∧ t < k 0; exact h3)
            refine w_callv hc4 rfl (pz_cokI is_2 rfl) ?_
            refine w_loc rfl ?_
            refine w_loc rfl ?_
            refine w_ieq (fun h5 => ?_) (fun h5 => ?_)
            · first
              | (exfalso; first | omega | contradiction)
              | (refine pz_G_of pz_b155_19 ?_
                 refine w_pure rfl ?_
                 refine w_nil ?_
                 refine pz_G_of pz_b155_20 ?_
                 have hc6 : pz_R (pz_Sh L) 172 [.inl 0] (pz_u1 (pz_u1 (pz_u1 (pz_u1 iv 17 (iv 17)) 18 (iv 18)) 19 (iv 19)) 20 (iv 20)) (.inr 1) (pz_u1 (pz_u1 (pz_u1 (pz_u1 iv 17 (iv 17)) 18 (iv 18)) 19 (iv 19)) 20 (iv 20)) := s_X10_needRange_n 0 (by show 0 = 0; omega)
                 refine w_calle hc6 rfl rfl rfl ?_
                 first | exact lf_e (by rfl) | (exfalso; omega))
            · first
              | (exfalso; first | omega | contradiction)
              | (refine w_pure rfl ?_
                 refine w_goto ?_
                 refine pz_G_of pz_b155_20 ?_
                 have hc7 : pz_R (pz_Sh L) 172 [.inl 1] (pz_u1 (pz_u1 (pz_u1 (pz_u1 iv 17 (iv 17)) 18 (iv 18)) 19 (iv 19)) 20 (iv 20)) (.inl none) (pz_u1 (pz_u1 (pz_u1 (pz_u1 iv 17 (iv 17)) 18 (iv 18)) 19 (iv 19)) 20 (iv 20)) := s_X10_needRange_y 1 (by show 1 ≠ 0; omega)
                 refine w_callv hc7 rfl rfl ?_
                 refine w_loc rfl ?_
                 refine w_pure rfl ?_
                 refine w_pure rfl ?_
                 have hc8 : pz_R (pz_Sh L) 185 [.inl d, .inl 1, .inl 9] (pz_u1 (pz_u1 (pz_u1 (pz_u1 iv 17 (iv 17)) 18 (iv 18)) 19 (iv 19)) 20 (iv 20)) (.inl (some (.inl (pz_bi (1 ≤ d ∧ d ≤ 9))))) (pz_u1 (pz_u1 (pz_u1 (pz_u1 iv 17 (iv 17)) 18 (iv 18)) 19 (iv 19)) 20 (iv 20)) := s_X10_isWithin d 1 9
                 refine w_call hc8 rfl rfl ?_
                 by_cases h9 : 1 ≤ d ∧ d ≤ 9
                 · first
                   | (exfalso; first | omega | contradiction)
                   | (have hc10 : pz_R (pz_Sh L) 172 [.inl (pz_bi (1 ≤ d ∧ d ≤ 9))] (pz_u1 (pz_u1 (pz_u1 (pz_u1 iv 17 (iv 17)) 18 (iv 18)) 19 (iv 19)) 20 (iv 20)) (.inl none) (pz_u1 (pz_u1 (pz_u1 (pz_u1 iv 17 (iv 17)) 18 (iv 18)) 19 (iv 19)) 20 (iv 20)) := s_X10_needRange_y (pz_bi (1 ≤ d ∧ d ≤ 9)) (by show (pz_bi (1 ≤ d ∧ d ≤ 9)) ≠ 0; exact pz_bi_p1 h9)
                      refine w_callv hc10 rfl rfl ?_
                      refine w_loc rfl ?_
                      refine w_getR (q := 3) is_2 rf_2_0 ?_
                      refine w_getR (q := 17) is_3 rf_3_4 ?_
                      refine w_getI (v := (iv 17) 0) is_17 (by decide) rfl ?_
                      refine w_pure rfl ?_
                      refine w_ige (fun h11 => ?_) (fun h11 => ?_)
                      · first
                        | (exfalso; first | omega | contradiction)
                        | (refine pz_G_of pz_b155_51 ?_
                           refine w_pure rfl ?_
                           refine w_nil ?_
                           refine pz_G_of pz_b155_52 ?_
                           have hc12 : pz_R (pz_Sh L) 173 [.inl 0] (pz_u1 (pz_u1 (pz_u1 (pz_u1 iv 17 (iv 17)) 18 (iv 18)) 19 (iv 19)) 20 (iv 20)) (.inr 0) (pz_u1 (pz_u1 (pz_u1 (pz_u1 iv 17 (iv 17)) 18 (iv 18)) 19 (iv 19)) 20 (iv 20)) := s_X10_needState_n 0 (by show 0 = 0; omega)
                           refine w_calle hc12 rfl rfl rfl ?_
                           first | exact lf_e (by rfl) | (exfalso; omega))
                      · first
                        | (exfalso; first | omega | contradiction)
                        | (refine w_pure rfl ?_
                           refine w_goto ?_
                           refine pz_G_of pz_b155_52 ?_
                           have hc13 : pz_R (pz_Sh L) 173 [.inl 1] (pz_u1 (pz_u1 (pz_u1 (pz_u1 iv 17 (iv 17)) 18 (iv 18)) 19 (iv 19)) 20 (iv 20)) (.inl none) (pz_u1 (pz_u1 (pz_u1 (pz_u1 iv 17 (iv 17)) 18 (iv 18)) 19 (iv 19)) 20 (iv 20)) := s_X10_needState_y 1 (by show 1 ≠ 0; omega)
                           refine w_callv hc13 rfl rfl ?_
                           refine w_loc rfl ?_
                           refine w_getR (q := 3) is_2 rf_2_0 ?_
                           refine w_getR (q := 17) is_3 rf_3_4 ?_
                           refine w_loc rfl ?_
                           refine w_loc rfl ?_
                           refine w_loc rfl ?_
                           have hc14 : pz_R (pz_Sh L) 4 [.inr (.inl 17), .inl f, .inl t, .inl d] (pz_u1 (pz_u1 (pz_u1 (pz_u1 iv 17 (iv 17)) 18 (iv 18)) 19 (iv 19)) 20 (iv 20)) (.inl (some (.inl (k 3)))) (pz_u1 (pz_u1 (pz_u1 (pz_u1 iv 17 (pz_up (iv 17) 0 (k 3 + 1))) 18 (pz_up (iv 18) (k 3).toNat f)) 19 (pz_up (iv 19) (k 3).toNat t)) 20 (pz_up (iv 20) (k 3).toNat d)) := pz_R_mem (s_X0_add f t d (by show q_KR k; exact hk) (by show q_cA k (iv 17) (iv 18) (iv 19) (iv 20); exact hA) (by show k 3 < 5; omega)) (by rw [pz_u1_in (r := 17) (q := 20) (by decide)]; rw [pz_u1_in (r := 17) (q := 19) (by decide)]; rw [pz_u1_in (r := 17) (q := 18) (by decide)]; rw [pz_u1_top (r := 17)]; rw [pz_u1_in (r := 18) (q := 20) (by decide)]; rw [pz_u1_in (r := 18) (q := 19) (by decide)]; rw [pz_u1_top (r := 18)]; rw [pz_u1_in (r := 19) (q := 20) (by decide)]; rw [pz_u1_top (r := 19)]; rw [pz_u1_top (r := 20)]; rfl)
                           refine w_call hc14 rfl (pz_cokI is_17 rfl) ?_
                           refine w_ret rfl ?_
                           first | exact lf_i (by first | rfl | omega) (by rfl) | (exfalso; omega)))
                 · first
                   | (exfalso; first | omega | contradiction)
                   | (have hc15 : pz_R (pz_Sh L) 172 [.inl (pz_bi (1 ≤ d ∧ d ≤ 9))] (pz_u1 (pz_u1 (pz_u1 (pz_u1 iv 17 (iv 17)) 18 (iv 18)) 19 (iv 19)) 20 (iv 20)) (.inr 1) (pz_u1 (pz_u1 (pz_u1 (pz_u1 iv 17 (iv 17)) 18 (iv 18)) 19 (iv 19)) 20 (iv 20)) := s_X10_needRange_n (pz_bi (1 ≤ d ∧ d ≤ 9)) (by show (pz_bi (1 ≤ d ∧ d ≤ 9)) = 0; exact pz_bi_0 h9)
                      refine w_calle hc15 rfl rfl rfl ?_
                      first | exact lf_e (by rfl) | (exfalso; omega))))
       · first
         | (exfalso; first | omega | contradiction)
         | (have hc16 : pz_R (pz_Sh L) 170 [.inr (.inl 2), .inl t] (pz_u1 (pz_u1 (pz_u1 (pz_u1 iv 17 (iv 17)) 18 (iv 18)) 19 (iv 19)) 20 (iv 20)) (.inr 2) (pz_u1 (pz_u1 (pz_u1 (pz_u1 iv 17 (iv 17)) 18 (iv 18)) 19 (iv 19)) 20 (iv 20)) := s_X10_needEvent_n t (by show q_cE k (iv 3); exact hE) (by show ¬ (0 ≤ t ∧ t < k 0); exact h3)
            refine w_calle hc16 rfl (pz_cokI is_2 rfl) rfl ?_
            first | exact lf_e (by rfl) | (exfalso; omega)))
  · first
    | (exfalso; first | omega | contradiction)
    | (have hc17 : pz_R (pz_Sh L) 170 [.inr (.inl 2), .inl f] (pz_u1 (pz_u1 (pz_u1 (pz_u1 iv 17 (iv 17)) 18 (iv 18)) 19 (iv 19)) 20 (iv 20)) (.inr 2) (pz_u1 (pz_u1 (pz_u1 (pz_u1 iv 17 (iv 17)) 18 (iv 18)) 19 (iv 19)) 20 (iv 20)) := s_X10_needEvent_n f (by show q_cE k (iv 3); exact hE) (by show ¬ (0 ≤ f ∧ f < k 0); exact h1)
       refine w_calle hc17 rfl (pz_cokI is_2 rfl) rfl ?_
       first | exact lf_e (by rfl) | (exfalso; omega))

theorem s_X10_setCapacity_1 {L : Nat} {iv : Nat → Nat → Int} (c : Int) {k : Nat → Int} (hk : q_KR k) (hE : q_cE k (iv 3)) (hB : q_cB k (iv 4) (iv 5) (iv 6) (iv 7) (iv 8) (iv 9)) (hS : q_cS k (iv 10) (iv 11) (iv 12) (iv 13) (iv 14)) (hC : q_cC k (iv 15) (iv 16)) (hA : q_cA k (iv 17) (iv 18) (iv 19) (iv 20)) (hO : q_cO k (iv 22) (iv 23) (iv 24)) (hL : q_cL k (iv 25)) (hP : q_cP k (iv 27)) (hcase0 : ¬ (0 ≤ c ∧ c ≤ 40)) : pz_R (pz_Sh L) 156 [.inr (.inl 2), .inl c] iv (.inr 1) iv := by
  intro dv cc ss
  have hk0 := hk.r0
  have hE0 := hE
  have hB0 := hB.1
  have hS0 := hS.1
  have hC0 := hC.1
  have hA0 := hA.1
  show pz_G 156 0 [some (.inr (.inl 2)), some (.inl c), none] [] (pz_Sh L, iv, dv, cc, ss) (pz_P (pz_Sh L) (.inr 1) iv dv cc ss)
  refine pz_G_of pz_b156_0 ?_
  refine w_loc rfl ?_
  refine w_pure rfl ?_
  refine w_pure rfl ?_
  have hc1 : pz_R (pz_Sh L) 185 [.inl c, .inl 0, .inl 40] (iv) (.inl (some (.inl (pz_bi (0 ≤ c ∧ c ≤ 40))))) (iv) := s_X10_isWithin c 0 40
  refine w_call hc1 rfl rfl ?_
  by_cases h2 : 0 ≤ c ∧ c ≤ 40
  · exfalso; first | omega | contradiction
  · first
    | (exfalso; first | omega | contradiction)
    | (have hc4 : pz_R (pz_Sh L) 172 [.inl (pz_bi (0 ≤ c ∧ c ≤ 40))] (iv) (.inr 1) (iv) := s_X10_needRange_n (pz_bi (0 ≤ c ∧ c ≤ 40)) (by exact pz_bi_0 h2)
       refine w_calle hc4 rfl rfl rfl ?_
       first | exact lf_e (by rfl) | (exfalso; omega))

theorem s_X10_setCapacity_0 {L : Nat} {iv : Nat → Nat → Int} (c : Int) {k : Nat → Int} (hk : q_KR k) (hE : q_cE k (iv 3)) (hB : q_cB k (iv 4) (iv 5) (iv 6) (iv 7) (iv 8) (iv 9)) (hS : q_cS k (iv 10) (iv 11) (iv 12) (iv 13) (iv 14)) (hC : q_cC k (iv 15) (iv 16)) (hA : q_cA k (iv 17) (iv 18) (iv 19) (iv 20)) (hO : q_cO k (iv 22) (iv 23) (iv 24)) (hL : q_cL k (iv 25)) (hP : q_cP k (iv 27)) (hcase0 : 0 ≤ c ∧ c ≤ 40) : pz_R (pz_Sh L) 156 [.inr (.inl 2), .inl c] iv (.inl (some (.inl (k 5)))) (pz_u1 iv 17 (pz_up (iv 17) 1 c)) := by
  intro dv cc ss
  have hk0 := hk.r0
  have hE0 := hE
  have hB0 := hB.1
  have hS0 := hS.1
  have hC0 := hC.1
  have hA0 := hA.1
  refine pz_G_mem (iv2 := pz_u1 iv 17 (iv 17)) (by exact (pz_u1_self iv 17).symm) ?_
  show pz_G 156 0 [some (.inr (.inl 2)), some (.inl c), none] [] (pz_Sh L, pz_u1 iv 17 (iv 17), dv, cc, ss) (pz_P (pz_Sh L) (.inl (some (.inl (k 5)))) (pz_u1 iv 17 (pz_up (iv 17) 1 c)) dv cc ss)
  refine pz_G_of pz_b156_0 ?_
  refine w_loc rfl ?_
  refine w_pure rfl ?_
  refine w_pure rfl ?_
  have hc1 : pz_R (pz_Sh L) 185 [.inl c, .inl 0, .inl 40] (pz_u1 iv 17 (iv 17)) (.inl (some (.inl (pz_bi (0 ≤ c ∧ c ≤ 40))))) (pz_u1 iv 17 (iv 17)) := s_X10_isWithin c 0 40
  refine w_call hc1 rfl rfl ?_
  by_cases h2 : 0 ≤ c ∧ c ≤ 40
  · first
    | (exfalso; first | omega | contradiction)
    | (have hc3 : pz_R (pz_Sh L) 172 [.inl (pz_bi (0 ≤ c ∧ c ≤ 40))] (pz_u1 iv 17 (iv 17)) (.inl none) (pz_u1 iv 17 (iv 17)) := s_X10_needRange_y (pz_bi (0 ≤ c ∧ c ≤ 40)) (by show (pz_bi (0 ≤ c ∧ c ≤ 40)) ≠ 0; exact pz_bi_p1 h2)
       refine w_callv hc3 rfl rfl ?_
       refine w_loc rfl ?_
       refine w_getR (q := 3) is_2 rf_2_0 ?_
       refine w_getR (q := 17) is_3 rf_3_4 ?_
       refine w_getI (v := (iv 17) 1) is_17 (by decide) rfl ?_
       refine w_loc (ls' := [some (.inr (.inl 2)), some (.inl c), some (.inl ((iv 17) 1))]) (st' := []) rfl ?_
       refine w_loc rfl ?_
       refine w_getR (q := 3) is_2 rf_2_0 ?_
       refine w_getR (q := 17) is_3 rf_3_4 ?_
       refine w_loc rfl ?_
       refine w_putIm (iv2 := pz_u1 iv 17 (pz_up (iv 17) 1 c)) is_17 pz_fit0 (by exact pz_u2_top _ _ _ _ _) ?_
       refine w_loc rfl ?_
       refine w_ret rfl ?_
       first | exact lf_i (by first | rfl | omega) (by rfl) | (exfalso; omega))
  · first
    | (exfalso; first | omega | contradiction)
    | (have hc4 : pz_R (pz_Sh L) 172 [.inl (pz_bi (0 ≤ c ∧ c ≤ 40))] (pz_u1 iv 17 (iv 17)) (.inr 1) (pz_u1 iv 17 (iv 17)) := s_X10_needRange_n (pz_bi (0 ≤ c ∧ c ≤ 40)) (by show (pz_bi (0 ≤ c ∧ c ≤ 40)) = 0; exact pz_bi_0 h2)
       refine w_calle hc4 rfl rfl rfl ?_
       first | exact lf_e (by rfl) | (exfalso; omega))

theorem s_X10_setCost_1 {L : Nat} {iv : Nat → Nat → Int} (e : Int) (d : Int) (y : Int) (z : Int) {k : Nat → Int} (hk : q_KR k) (hE : q_cE k (iv 3)) (hB : q_cB k (iv 4) (iv 5) (iv 6) (iv 7) (iv 8) (iv 9)) (hS : q_cS k (iv 10) (iv 11) (iv 12) (iv 13) (iv 14)) (hC : q_cC k (iv 15) (iv 16)) (hA : q_cA k (iv 17) (iv 18) (iv 19) (iv 20)) (hO : q_cO k (iv 22) (iv 23) (iv 24)) (hL : q_cL k (iv 25)) (hP : q_cP k (iv 27)) (hcase0 : ¬ (0 ≤ e ∧ e ≤ k 0 - 1)) : pz_R (pz_Sh L) 163 [.inr (.inl 2), .inl e, .inl d, .inl y, .inl z] iv (.inr 2) iv := by
  intro dv cc ss
  have hk0 := hk.r0
  have hE0 := hE
  have hB0 := hB.1
  have hS0 := hS.1
  have hC0 := hC.1
  have hA0 := hA.1
  show pz_G 163 0 [some (.inr (.inl 2)), some (.inl e), some (.inl d), some (.inl y), some (.inl z)] [] (pz_Sh L, iv, dv, cc, ss) (pz_P (pz_Sh L) (.inr 2) iv dv cc ss)
  refine pz_G_of pz_b163_0 ?_
  refine w_loc rfl ?_
  refine w_loc rfl ?_
  by_cases h1 : 0 ≤ e ∧ e < k 0
  · first
    | (exfalso; first | omega | contradiction)
    | (have hc2 : pz_R (pz_Sh L) 170 [.inr (.inl 2), .inl e] (iv) (.inl none) (iv) := s_X10_needEvent_y e (by exact hE) (by exact h1)
       refine w_callv hc2 rfl (pz_cokI is_2 rfl) ?_
       refine w_loc rfl ?_
       refine w_pure rfl ?_
       refine w_pure rfl ?_
       have hc3 : pz_R (pz_Sh L) 185 [.inl d, .inl 0, .inl 999] (iv) (.inl (some (.inl (pz_bi (0 ≤ d ∧ d ≤ 999))))) (iv) := s_X10_isWithin d 0 999
       refine w_call hc3 rfl rfl ?_
       by_cases h4 : 0 ≤ d ∧ d ≤ 999
       · first
         | (exfalso; first | omega | contradiction)
         | (have hc5 : pz_R (pz_Sh L) 172 [.inl (pz_bi (0 ≤ d ∧ d ≤ 999))] (iv) (.inl none) (iv) := s_X10_needRange_y (pz_bi (0 ≤ d ∧ d ≤ 999)) (by exact pz_bi_p1 h4)
            refine w_callv hc5 rfl rfl ?_
            refine w_loc rfl ?_
            refine w_pure rfl ?_
            refine w_pure rfl ?_
            have hc6 : pz_R (pz_Sh L) 185 [.inl y, .inl 0, .inl 99] (iv) (.inl (some (.inl (pz_bi (0 ≤ y ∧ y ≤ 99))))) (iv) := s_X10_isWithin y 0 99
            refine w_call hc6 rfl rfl ?_
            by_cases h7 : 0 ≤ y ∧ y ≤ 99
            · first
              | (exfalso; first | omega | contradiction)
              | (have hc8 : pz_R (pz_Sh L) 172 [.inl (pz_bi (0 ≤ y ∧ y ≤ 99))] (iv) (.inl none) (iv) := s_X10_needRange_y (pz_bi (0 ≤ y ∧ y ≤ 99)) (by exact pz_bi_p1 h7)
                 refine w_callv hc8 rfl rfl ?_
                 refine w_loc rfl ?_
                 refine w_pure rfl ?_
                 refine w_pure rfl ?_
                 have hc9 : pz_R (pz_Sh L) 185 [.inl z, .inl 0, .inl 99] (iv) (.inl (some (.inl (pz_bi (0 ≤ z ∧ z ≤ 99))))) (iv) := s_X10_isWithin z 0 99
                 refine w_call hc9 rfl rfl ?_
                 by_cases h10 : 0 ≤ z ∧ z ≤ 99
                 · first
                   | (exfalso; first | omega | contradiction)
                   | (have hc11 : pz_R (pz_Sh L) 172 [.inl (pz_bi (0 ≤ z ∧ z ≤ 99))] (iv) (.inl none) (iv) := s_X10_needRange_y (pz_bi (0 ≤ z ∧ z ≤ 99)) (by exact pz_bi_p1 h10)
                      refine w_callv hc11 rfl rfl ?_
                      refine w_loc rfl ?_
                      refine w_getR (q := 3) is_2 rf_2_0 ?_
                      refine w_getR (q := 21) is_3 rf_3_5 ?_
                      refine w_loc rfl ?_
                      refine w_loc rfl ?_
                      refine w_loc rfl ?_
                      refine w_loc rfl ?_
                      have hc12 : pz_R (pz_Sh L) 31 [.inr (.inl 21), .inl e, .inl d, .inl y, .inl z] (iv) (.inl (some (.inl (k (16 + e).toNat)))) (pz_u1 (pz_u1 (pz_u1 iv 22 (pz_up (iv 22) e.toNat d)) 23 (pz_up (iv 23) e.toNat y)) 24 (pz_up (iv 24) e.toNat z)) := pz_R_mem (s_X3_put e d y z (by exact hO) (by omega)) (by rw [pz_u1_top (r := 22)]; rw [pz_u1_top (r := 23)]; rw [pz_u1_top (r := 24)]; rfl)
                      refine w_call hc12 rfl (pz_cokI is_21 rfl) ?_
                      refine w_ret rfl ?_
                      first | exact lf_i (by first | rfl | omega) (by rfl) | (exfalso; omega))
                 · first
                   | (exfalso; first | omega | contradiction)
                   | (have hc13 : pz_R (pz_Sh L) 172 [.inl (pz_bi (0 ≤ z ∧ z ≤ 99))] (iv) (.inr 1) (iv) := s_X10_needRange_n (pz_bi (0 ≤ z ∧ z ≤ 99)) (by exact pz_bi_0 h10)
                      refine w_calle hc13 rfl rfl rfl ?_
                      first | exact lf_e (by rfl) | (exfalso; omega)))
            · first
              | (exfalso; first | omega | contradiction)
              | (have hc14 : pz_R (pz_Sh L) 172 [.inl (pz_bi (0 ≤ y ∧ y ≤ 99))] (iv) (.inr 1) (iv) := s_X10_needRange_n (pz_bi (0 ≤ y ∧ y ≤ 99)) (by exact pz_bi_0 h7)
                 refine w_calle hc14 rfl rfl rfl ?_
                 first | exact lf_e (by rfl) | (exfalso; omega)))
       · first
         | (exfalso; first | omega | contradiction)
         | (have hc15 : pz_R (pz_Sh L) 172 [.inl (pz_bi (0 ≤ d ∧ d ≤ 999))] (iv) (.inr 1) (iv) := s_X10_needRange_n (pz_bi (0 ≤ d ∧ d ≤ 999)) (by exact pz_bi_0 h4)
            refine w_calle hc15 rfl rfl rfl ?_
            first | exact lf_e (by rfl) | (exfalso; omega)))
  · first
    | (exfalso; first | omega | contradiction)
    | (have hc16 : pz_R (pz_Sh L) 170 [.inr (.inl 2), .inl e] (iv) (.inr 2) (iv) := s_X10_needEvent_n e (by exact hE) (by exact h1)
       refine w_calle hc16 rfl (pz_cokI is_2 rfl) rfl ?_
       first | exact lf_e (by rfl) | (exfalso; omega))

theorem s_X10_setCost_2 {L : Nat} {iv : Nat → Nat → Int} (e : Int) (d : Int) (y : Int) (z : Int) {k : Nat → Int} (hk : q_KR k) (hE : q_cE k (iv 3)) (hB : q_cB k (iv 4) (iv 5) (iv 6) (iv 7) (iv 8) (iv 9)) (hS : q_cS k (iv 10) (iv 11) (iv 12) (iv 13) (iv 14)) (hC : q_cC k (iv 15) (iv 16)) (hA : q_cA k (iv 17) (iv 18) (iv 19) (iv 20)) (hO : q_cO k (iv 22) (iv 23) (iv 24)) (hL : q_cL k (iv 25)) (hP : q_cP k (iv 27)) (hcase0 : 0 ≤ e ∧ e ≤ k 0 - 1) (hcase1 : ¬ (0 ≤ d ∧ d ≤ 999 ∧ 0 ≤ y ∧ y ≤ 99 ∧ 0 ≤ z ∧ z ≤ 99)) : pz_R (pz_Sh L) 163 [.inr (.inl 2), .inl e, .inl d, .inl y, .inl z] iv (.inr 1) iv := by
  intro dv cc ss
  have hk0 := hk.r0
  have hE0 := hE
  have hB0 := hB.1
  have hS0 := hS.1
  have hC0 := hC.1
  have hA0 := hA.1
  show pz_G 163 0 [some (.inr (.inl 2)), some (.inl e), some (.inl d), some (.inl y), some (.inl z)] [] (pz_Sh L, iv, dv, cc, ss) (pz_P (pz_Sh L) (.inr 1) iv dv cc ss)
  refine pz_G_of pz_b163_0 ?_
  refine w_loc rfl ?_
  refine w_loc rfl ?_
  by_cases h1 : 0 ≤ e ∧ e < k 0
  · first
    | (exfalso; first | omega | contradiction)
    | (have hc2 : pz_R (pz_Sh L) 170 [.inr (.inl 2), .inl e] (iv) (.inl none) (iv) := s_X10_needEvent_y e (by exact hE) (by exact h1)
       refine w_callv hc2 rfl (pz_cokI is_2 rfl) ?_
       refine w_loc rfl ?_
       refine w_pure rfl ?_
       refine w_pure rfl ?_
       have hc3 : pz_R (pz_Sh L) 185 [.inl d, .inl 0, .inl 999] (iv) (.inl (some (.inl (pz_bi (0 ≤ d ∧ d ≤ 999))))) (iv) := s_X10_isWithin d 0 999
       refine w_call hc3 rfl rfl ?_
       by_cases h4 : 0 ≤ d ∧ d ≤ 999
       · first
         | (exfalso; first | omega | contradiction)
         | (have hc5 : pz_R (pz_Sh L) 172 [.inl (pz_bi (0 ≤ d ∧ d ≤ 999))] (iv) (.inl none) (iv) := s_X10_needRange_y (pz_bi (0 ≤ d ∧ d ≤ 999)) (by exact pz_bi_p1 h4)
            refine w_callv hc5 rfl rfl ?_
            refine w_loc rfl ?_
            refine w_pure rfl ?_
            refine w_pure rfl ?_
            have hc6 : pz_R (pz_Sh L) 185 [.inl y, .inl 0, .inl 99] (iv) (.inl (some (.inl (pz_bi (0 ≤ y ∧ y ≤ 99))))) (iv) := s_X10_isWithin y 0 99
            refine w_call hc6 rfl rfl ?_
            by_cases h7 : 0 ≤ y ∧ y ≤ 99
            · first
              | (exfalso; first | omega | contradiction)
              | (have hc8 : pz_R (pz_Sh L) 172 [.inl (pz_bi (0 ≤ y ∧ y ≤ 99))] (iv) (.inl none) (iv) := s_X10_needRange_y (pz_bi (0 ≤ y ∧ y ≤ 99)) (by exact pz_bi_p1 h7)
                 refine w_callv hc8 rfl rfl ?_
                 refine w_loc rfl ?_
                 refine w_pure rfl ?_
                 refine w_pure rfl ?_
                 have hc9 : pz_R (pz_Sh L) 185 [.inl z, .inl 0, .inl 99] (iv) (.inl (some (.inl (pz_bi (0 ≤ z ∧ z ≤ 99))))) (iv) := s_X10_isWithin z 0 99
                 refine w_call hc9 rfl rfl ?_
                 by_cases h10 : 0 ≤ z ∧ z ≤ 99
                 · first
                   | (exfalso; first | omega | contradiction)
                   | (have hc11 : pz_R (pz_Sh L) 172 [.inl (pz_bi (0 ≤ z ∧ z ≤ 99))] (iv) (.inl none) (iv) := s_X10_needRange_y (pz_bi (0 ≤ z ∧ z ≤ 99)) (by exact pz_bi_p1 h10)
                      refine w_callv hc11 rfl rfl ?_
                      refine w_loc rfl ?_
                      refine w_getR (q := 3) is_2 rf_2_0 ?_
                      refine w_getR (q := 21) is_3 rf_3_5 ?_
                      refine w_loc rfl ?_
                      refine w_loc rfl ?_
                      refine w_loc rfl ?_
                      refine w_loc rfl ?_
                      have hc12 : pz_R (pz_Sh L) 31 [.inr (.inl 21), .inl e, .inl d, .inl y, .inl z] (iv) (.inl (some (.inl (k (16 + e).toNat)))) (pz_u1 (pz_u1 (pz_u1 iv 22 (pz_up (iv 22) e.toNat d)) 23 (pz_up (iv 23) e.toNat y)) 24 (pz_up (iv 24) e.toNat z)) := pz_R_mem (s_X3_put e d y z (by exact hO) (by omega)) (by rw [pz_u1_top (r := 22)]; rw [pz_u1_top (r := 23)]; rw [pz_u1_top (r := 24)]; rfl)
                      refine w_call hc12 rfl (pz_cokI is_21 rfl) ?_
                      refine w_ret rfl ?_
                      first | exact lf_i (by first | rfl | omega) (by rfl) | (exfalso; omega))
                 · first
                   | (exfalso; first | omega | contradiction)
                   | (have hc13 : pz_R (pz_Sh L) 172 [.inl (pz_bi (0 ≤ z ∧ z ≤ 99))] (iv) (.inr 1) (iv) := s_X10_needRange_n (pz_bi (0 ≤ z ∧ z ≤ 99)) (by exact pz_bi_0 h10)
                      refine w_calle hc13 rfl rfl rfl ?_
                      first | exact lf_e (by rfl) | (exfalso; omega)))
            · first
              | (exfalso; first | omega | contradiction)
              | (have hc14 : pz_R (pz_Sh L) 172 [.inl (pz_bi (0 ≤ y ∧ y ≤ 99))] (iv) (.inr 1) (iv) := s_X10_needRange_n (pz_bi (0 ≤ y ∧ y ≤ 99)) (by exact pz_bi_0 h7)
                 refine w_calle hc14 rfl rfl rfl ?_
                 first | exact lf_e (by rfl) | (exfalso; omega)))
       · first
         | (exfalso; first | omega | contradiction)
         | (have hc15 : pz_R (pz_Sh L) 172 [.inl (pz_bi (0 ≤ d ∧ d ≤ 999))] (iv) (.inr 1) (iv) := s_X10_needRange_n (pz_bi (0 ≤ d ∧ d ≤ 999)) (by exact pz_bi_0 h4)
            refine w_calle hc15 rfl rfl rfl ?_
            first | exact lf_e (by rfl) | (exfalso; omega)))
  · first
    | (exfalso; first | omega | contradiction)
    | (have hc16 : pz_R (pz_Sh L) 170 [.inr (.inl 2), .inl e] (iv) (.inr 2) (iv) := s_X10_needEvent_n e (by exact hE) (by exact h1)
       refine w_calle hc16 rfl (pz_cokI is_2 rfl) rfl ?_
       first | exact lf_e (by rfl) | (exfalso; omega))

theorem s_X10_setCost_0 {L : Nat} {iv : Nat → Nat → Int} (e : Int) (d : Int) (y : Int) (z : Int) {k : Nat → Int} (hk : q_KR k) (hE : q_cE k (iv 3)) (hB : q_cB k (iv 4) (iv 5) (iv 6) (iv 7) (iv 8) (iv 9)) (hS : q_cS k (iv 10) (iv 11) (iv 12) (iv 13) (iv 14)) (hC : q_cC k (iv 15) (iv 16)) (hA : q_cA k (iv 17) (iv 18) (iv 19) (iv 20)) (hO : q_cO k (iv 22) (iv 23) (iv 24)) (hL : q_cL k (iv 25)) (hP : q_cP k (iv 27)) (hcase0 : 0 ≤ e ∧ e ≤ k 0 - 1) (hcase1 : 0 ≤ d ∧ d ≤ 999 ∧ 0 ≤ y ∧ y ≤ 99 ∧ 0 ≤ z ∧ z ≤ 99) : pz_R (pz_Sh L) 163 [.inr (.inl 2), .inl e, .inl d, .inl y, .inl z] iv (.inl (some (.inl (k (16 + e).toNat)))) (pz_u1 (pz_u1 (pz_u1 iv 22 (pz_up (iv 22) e.toNat d)) 23 (pz_up (iv 23) e.toNat y)) 24 (pz_up (iv 24) e.toNat z)) := by
  intro dv cc ss
  have hk0 := hk.r0
  have hE0 := hE
  have hB0 := hB.1
  have hS0 := hS.1
  have hC0 := hC.1
  have hA0 := hA.1
  refine pz_G_mem (iv2 := pz_u1 (pz_u1 (pz_u1 iv 22 (iv 22)) 23 (iv 23)) 24 (iv 24)) (by exact (((pz_u1_self iv 22).symm).trans (pz_u1_self (pz_u1 iv 22 (iv 22)) 23).symm).trans (pz_u1_self (pz_u1 (pz_u1 iv 22 (iv 22)) 23 (iv 23)) 24).symm) ?_
  show pz_G 163 0 [some (.inr (.inl 2)), some (.inl e), some (.inl d), some (.inl y), some (.inl z)] [] (pz_Sh L, pz_u1 (pz_u1 (pz_u1 iv 22 (iv 22)) 23 (iv 23)) 24 (iv 24), dv, cc, ss) (pz_P (pz_Sh L) (.inl (some (.inl (k (16 + e).toNat)))) (pz_u1 (pz_u1 (pz_u1 iv 22 (pz_up (iv 22) e.toNat d)) 23 (pz_up (iv 23) e.toNat y)) 24 (pz_up (iv 24) e.toNat z)) dv cc ss)
  refine pz_G_of pz_b163_0 ?_
  refine w_loc rfl ?_
  refine w_loc rfl ?_
  by_cases h1 : 0 ≤ e ∧ e < k 0
  · first
    | (exfalso; first | omega | contradiction)
    | (have hc2 : pz_R (pz_Sh L) 170 [.inr (.inl 2), .inl e] (pz_u1 (pz_u1 (pz_u1 iv 22 (iv 22)) 23 (iv 23)) 24 (iv 24)) (.inl none) (pz_u1 (pz_u1 (pz_u1 iv 22 (iv 22)) 23 (iv 23)) 24 (iv 24)) := s_X10_needEvent_y e (by show q_cE k (iv 3); exact hE) (by show 0 ≤ e ∧ e < k 0; exact h1)
       refine w_callv hc2 rfl (pz_cokI is_2 rfl) ?_
       refine w_loc rfl ?_
       refine w_pure rfl ?_
       refine w_pure rfl ?_
       have hc3 : pz_R (pz_Sh L) 185 [.inl d, .inl 0, .inl 999] (pz_u1 (pz_u1 (pz_u1 iv 22 (iv 22)) 23 (iv 23)) 24 (iv 24)) (.inl (some (.inl (pz_bi (0 ≤ d ∧ d ≤ 999))))) (pz_u1 (pz_u1 (pz_u1 iv 22 (iv 22)) 23 (iv 23)) 24 (iv 24)) := s_X10_isWithin d 0 999
       refine w_call hc3 rfl rfl ?_
       by_cases h4 : 0 ≤ d ∧ d ≤ 999
       · first
         | (exfalso; first | omega | contradiction)
         | (have hc5 : pz_R (pz_Sh L) 172 [.inl (pz_bi (0 ≤ d ∧ d ≤ 999))] (pz_u1 (pz_u1 (pz_u1 iv 22 (iv 22)) 23 (iv 23)) 24 (iv 24)) (.inl none) (pz_u1 (pz_u1 (pz_u1 iv 22 (iv 22)) 23 (iv 23)) 24 (iv 24)) := s_X10_needRange_y (pz_bi (0 ≤ d ∧ d ≤ 999)) (by show (pz_bi (0 ≤ d ∧ d ≤ 999)) ≠ 0; exact pz_bi_p1 h4)
            refine w_callv hc5 rfl rfl ?_
            refine w_loc rfl ?_
            refine w_pure rfl ?_
            refine w_pure rfl ?_
            have hc6 : pz_R (pz_Sh L) 185 [.inl y, .inl 0, .inl 99] (pz_u1 (pz_u1 (pz_u1 iv 22 (iv 22)) 23 (iv 23)) 24 (iv 24)) (.inl (some (.inl (pz_bi (0 ≤ y ∧ y ≤ 99))))) (pz_u1 (pz_u1 (pz_u1 iv 22 (iv 22)) 23 (iv 23)) 24 (iv 24)) := s_X10_isWithin y 0 99
            refine w_call hc6 rfl rfl ?_
            by_cases h7 : 0 ≤ y ∧ y ≤ 99
            · first
              | (exfalso; first | omega | contradiction)
              | (have hc8 : pz_R (pz_Sh L) 172 [.inl (pz_bi (0 ≤ y ∧ y ≤ 99))] (pz_u1 (pz_u1 (pz_u1 iv 22 (iv 22)) 23 (iv 23)) 24 (iv 24)) (.inl none) (pz_u1 (pz_u1 (pz_u1 iv 22 (iv 22)) 23 (iv 23)) 24 (iv 24)) := s_X10_needRange_y (pz_bi (0 ≤ y ∧ y ≤ 99)) (by show (pz_bi (0 ≤ y ∧ y ≤ 99)) ≠ 0; exact pz_bi_p1 h7)
                 refine w_callv hc8 rfl rfl ?_
                 refine w_loc rfl ?_
                 refine w_pure rfl ?_
                 refine w_pure rfl ?_
                 have hc9 : pz_R (pz_Sh L) 185 [.inl z, .inl 0, .inl 99] (pz_u1 (pz_u1 (pz_u1 iv 22 (iv 22)) 23 (iv 23)) 24 (iv 24)) (.inl (some (.inl (pz_bi (0 ≤ z ∧ z ≤ 99))))) (pz_u1 (pz_u1 (pz_u1 iv 22 (iv 22)) 23 (iv 23)) 24 (iv 24)) := s_X10_isWithin z 0 99
                 refine w_call hc9 rfl rfl ?_
                 by_cases h10 : 0 ≤ z ∧ z ≤ 99
                 · first
                   | (exfalso; first | omega | contradiction)
                   | (have hc11 : pz_R (pz_Sh L) 172 [.inl (pz_bi (0 ≤ z ∧ z ≤ 99))] (pz_u1 (pz_u1 (pz_u1 iv 22 (iv 22)) 23 (iv 23)) 24 (iv 24)) (.inl none) (pz_u1 (pz_u1 (pz_u1 iv 22 (iv 22)) 23 (iv 23)) 24 (iv 24)) := s_X10_needRange_y (pz_bi (0 ≤ z ∧ z ≤ 99)) (by show (pz_bi (0 ≤ z ∧ z ≤ 99)) ≠ 0; exact pz_bi_p1 h10)
                      refine w_callv hc11 rfl rfl ?_
                      refine w_loc rfl ?_
                      refine w_getR (q := 3) is_2 rf_2_0 ?_
                      refine w_getR (q := 21) is_3 rf_3_5 ?_
                      refine w_loc rfl ?_
                      refine w_loc rfl ?_
                      refine w_loc rfl ?_
                      refine w_loc rfl ?_
                      have hc12 : pz_R (pz_Sh L) 31 [.inr (.inl 21), .inl e, .inl d, .inl y, .inl z] (pz_u1 (pz_u1 (pz_u1 iv 22 (iv 22)) 23 (iv 23)) 24 (iv 24)) (.inl (some (.inl (k (16 + e).toNat)))) (pz_u1 (pz_u1 (pz_u1 iv 22 (pz_up (iv 22) e.toNat d)) 23 (pz_up (iv 23) e.toNat y)) 24 (pz_up (iv 24) e.toNat z)) := pz_R_mem (s_X3_put e d y z (by show q_cO k (iv 22) (iv 23) (iv 24); exact hO) (by show 0 ≤ e ∧ e ≤ 9; omega)) (by rw [pz_u1_in (r := 22) (q := 24) (by decide)]; rw [pz_u1_in (r := 22) (q := 23) (by decide)]; rw [pz_u1_top (r := 22)]; rw [pz_u1_in (r := 23) (q := 24) (by decide)]; rw [pz_u1_top (r := 23)]; rw [pz_u1_top (r := 24)]; rfl)
                      refine w_call hc12 rfl (pz_cokI is_21 rfl) ?_
                      refine w_ret rfl ?_
                      first | exact lf_i (by first | rfl | omega) (by rfl) | (exfalso; omega))
                 · first
                   | (exfalso; first | omega | contradiction)
                   | (have hc13 : pz_R (pz_Sh L) 172 [.inl (pz_bi (0 ≤ z ∧ z ≤ 99))] (pz_u1 (pz_u1 (pz_u1 iv 22 (iv 22)) 23 (iv 23)) 24 (iv 24)) (.inr 1) (pz_u1 (pz_u1 (pz_u1 iv 22 (iv 22)) 23 (iv 23)) 24 (iv 24)) := s_X10_needRange_n (pz_bi (0 ≤ z ∧ z ≤ 99)) (by show (pz_bi (0 ≤ z ∧ z ≤ 99)) = 0; exact pz_bi_0 h10)
                      refine w_calle hc13 rfl rfl rfl ?_
                      first | exact lf_e (by rfl) | (exfalso; omega)))
            · first
              | (exfalso; first | omega | contradiction)
              | (have hc14 : pz_R (pz_Sh L) 172 [.inl (pz_bi (0 ≤ y ∧ y ≤ 99))] (pz_u1 (pz_u1 (pz_u1 iv 22 (iv 22)) 23 (iv 23)) 24 (iv 24)) (.inr 1) (pz_u1 (pz_u1 (pz_u1 iv 22 (iv 22)) 23 (iv 23)) 24 (iv 24)) := s_X10_needRange_n (pz_bi (0 ≤ y ∧ y ≤ 99)) (by show (pz_bi (0 ≤ y ∧ y ≤ 99)) = 0; exact pz_bi_0 h7)
                 refine w_calle hc14 rfl rfl rfl ?_
                 first | exact lf_e (by rfl) | (exfalso; omega)))
       · first
         | (exfalso; first | omega | contradiction)
         | (have hc15 : pz_R (pz_Sh L) 172 [.inl (pz_bi (0 ≤ d ∧ d ≤ 999))] (pz_u1 (pz_u1 (pz_u1 iv 22 (iv 22)) 23 (iv 23)) 24 (iv 24)) (.inr 1) (pz_u1 (pz_u1 (pz_u1 iv 22 (iv 22)) 23 (iv 23)) 24 (iv 24)) := s_X10_needRange_n (pz_bi (0 ≤ d ∧ d ≤ 999)) (by show (pz_bi (0 ≤ d ∧ d ≤ 999)) = 0; exact pz_bi_0 h4)
            refine w_calle hc15 rfl rfl rfl ?_
            first | exact lf_e (by rfl) | (exfalso; omega)))
  · first
    | (exfalso; first | omega | contradiction)
    | (have hc16 : pz_R (pz_Sh L) 170 [.inr (.inl 2), .inl e] (pz_u1 (pz_u1 (pz_u1 iv 22 (iv 22)) 23 (iv 23)) 24 (iv 24)) (.inr 2) (pz_u1 (pz_u1 (pz_u1 iv 22 (iv 22)) 23 (iv 23)) 24 (iv 24)) := s_X10_needEvent_n e (by show q_cE k (iv 3); exact hE) (by show ¬ (0 ≤ e ∧ e < k 0); exact h1)
       refine w_calle hc16 rfl (pz_cokI is_2 rfl) rfl ?_
       first | exact lf_e (by rfl) | (exfalso; omega))

theorem s_X10_costOf_1 {L : Nat} {iv : Nat → Nat → Int} (e : Int) (m : Int) {k : Nat → Int} (hk : q_KR k) (hE : q_cE k (iv 3)) (hB : q_cB k (iv 4) (iv 5) (iv 6) (iv 7) (iv 8) (iv 9)) (hS : q_cS k (iv 10) (iv 11) (iv 12) (iv 13) (iv 14)) (hC : q_cC k (iv 15) (iv 16)) (hA : q_cA k (iv 17) (iv 18) (iv 19) (iv 20)) (hO : q_cO k (iv 22) (iv 23) (iv 24)) (hL : q_cL k (iv 25)) (hP : q_cP k (iv 27)) (hcase0 : ¬ (0 ≤ e ∧ e ≤ k 0 - 1)) : pz_R (pz_Sh L) 164 [.inr (.inl 2), .inl e, .inl m] iv (.inr 2) iv := by
  intro dv cc ss
  have hk0 := hk.r0
  have hE0 := hE
  have hB0 := hB.1
  have hS0 := hS.1
  have hC0 := hC.1
  have hA0 := hA.1
  show pz_G 164 0 [some (.inr (.inl 2)), some (.inl e), some (.inl m)] [] (pz_Sh L, iv, dv, cc, ss) (pz_P (pz_Sh L) (.inr 2) iv dv cc ss)
  refine pz_G_of pz_b164_0 ?_
  refine w_loc rfl ?_
  refine w_loc rfl ?_
  by_cases h1 : 0 ≤ e ∧ e < k 0
  · first
    | (exfalso; first | omega | contradiction)
    | (have hc2 : pz_R (pz_Sh L) 170 [.inr (.inl 2), .inl e] (iv) (.inl none) (iv) := s_X10_needEvent_y e (by exact hE) (by exact h1)
       refine w_callv hc2 rfl (pz_cokI is_2 rfl) ?_
       refine w_loc rfl ?_
       refine w_pure rfl ?_
       refine w_pure rfl ?_
       have hc3 : pz_R (pz_Sh L) 185 [.inl m, .inl 0, .inl 999] (iv) (.inl (some (.inl (pz_bi (0 ≤ m ∧ m ≤ 999))))) (iv) := s_X10_isWithin m 0 999
       refine w_call hc3 rfl rfl ?_
       by_cases h4 : 0 ≤ m ∧ m ≤ 999
       · first
         | (exfalso; first | omega | contradiction)
         | (have hc5 : pz_R (pz_Sh L) 172 [.inl (pz_bi (0 ≤ m ∧ m ≤ 999))] (iv) (.inl none) (iv) := s_X10_needRange_y (pz_bi (0 ≤ m ∧ m ≤ 999)) (by exact pz_bi_p1 h4)
            refine w_callv hc5 rfl rfl ?_
            refine w_loc rfl ?_
            refine w_getR (q := 3) is_2 rf_2_0 ?_
            refine w_getR (q := 21) is_3 rf_3_5 ?_
            refine w_loc rfl ?_
            refine w_loc rfl ?_
            have hc6 : pz_R (pz_Sh L) 32 [.inr (.inl 21), .inl e, .inl m] (iv) (.inl (some (.inl (q_cst k e m)))) (iv) := s_X3_at e m (by exact hk) (by exact hO) (by omega) (by omega)
            refine w_call hc6 rfl (pz_cokI is_21 rfl) ?_
            refine w_ret rfl ?_
            first | exact lf_i (by first | rfl | omega) (by rfl) | (exfalso; omega))
       · first
         | (exfalso; first | omega | contradiction)
         | (have hc7 : pz_R (pz_Sh L) 172 [.inl (pz_bi (0 ≤ m ∧ m ≤ 999))] (iv) (.inr 1) (iv) := s_X10_needRange_n (pz_bi (0 ≤ m ∧ m ≤ 999)) (by exact pz_bi_0 h4)
            refine w_calle hc7 rfl rfl rfl ?_
            first | exact lf_e (by rfl) | (exfalso; omega)))
  · first
    | (exfalso; first | omega | contradiction)
    | (have hc8 : pz_R (pz_Sh L) 170 [.inr (.inl 2), .inl e] (iv) (.inr 2) (iv) := s_X10_needEvent_n e (by exact hE) (by exact h1)
       refine w_calle hc8 rfl (pz_cokI is_2 rfl) rfl ?_
       first | exact lf_e (by rfl) | (exfalso; omega))

theorem s_X10_costOf_2 {L : Nat} {iv : Nat → Nat → Int} (e : Int) (m : Int) {k : Nat → Int} (hk : q_KR k) (hE : q_cE k (iv 3)) (hB : q_cB k (iv 4) (iv 5) (iv 6) (iv 7) (iv 8) (iv 9)) (hS : q_cS k (iv 10) (iv 11) (iv 12) (iv 13) (iv 14)) (hC : q_cC k (iv 15) (iv 16)) (hA : q_cA k (iv 17) (iv 18) (iv 19) (iv 20)) (hO : q_cO k (iv 22) (iv 23) (iv 24)) (hL : q_cL k (iv 25)) (hP : q_cP k (iv 27)) (hcase0 : 0 ≤ e ∧ e ≤ k 0 - 1) (hcase1 : ¬ (0 ≤ m ∧ m ≤ 999)) : pz_R (pz_Sh L) 164 [.inr (.inl 2), .inl e, .inl m] iv (.inr 1) iv := by
  intro dv cc ss
  have hk0 := hk.r0
  have hE0 := hE
  have hB0 := hB.1
  have hS0 := hS.1
  have hC0 := hC.1
  have hA0 := hA.1
  show pz_G 164 0 [some (.inr (.inl 2)), some (.inl e), some (.inl m)] [] (pz_Sh L, iv, dv, cc, ss) (pz_P (pz_Sh L) (.inr 1) iv dv cc ss)
  refine pz_G_of pz_b164_0 ?_
  refine w_loc rfl ?_
  refine w_loc rfl ?_
  by_cases h1 : 0 ≤ e ∧ e < k 0
  · first
    | (exfalso; first | omega | contradiction)
    | (have hc2 : pz_R (pz_Sh L) 170 [.inr (.inl 2), .inl e] (iv) (.inl none) (iv) := s_X10_needEvent_y e (by exact hE) (by exact h1)
       refine w_callv hc2 rfl (pz_cokI is_2 rfl) ?_
       refine w_loc rfl ?_
       refine w_pure rfl ?_
       refine w_pure rfl ?_
       have hc3 : pz_R (pz_Sh L) 185 [.inl m, .inl 0, .inl 999] (iv) (.inl (some (.inl (pz_bi (0 ≤ m ∧ m ≤ 999))))) (iv) := s_X10_isWithin m 0 999
       refine w_call hc3 rfl rfl ?_
       by_cases h4 : 0 ≤ m ∧ m ≤ 999
       · first
         | (exfalso; first | omega | contradiction)
         | (have hc5 : pz_R (pz_Sh L) 172 [.inl (pz_bi (0 ≤ m ∧ m ≤ 999))] (iv) (.inl none) (iv) := s_X10_needRange_y (pz_bi (0 ≤ m ∧ m ≤ 999)) (by exact pz_bi_p1 h4)
            refine w_callv hc5 rfl rfl ?_
            refine w_loc rfl ?_
            refine w_getR (q := 3) is_2 rf_2_0 ?_
            refine w_getR (q := 21) is_3 rf_3_5 ?_
            refine w_loc rfl ?_
            refine w_loc rfl ?_
            have hc6 : pz_R (pz_Sh L) 32 [.inr (.inl 21), .inl e, .inl m] (iv) (.inl (some (.inl (q_cst k e m)))) (iv) := s_X3_at e m (by exact hk) (by exact hO) (by omega) (by omega)
            refine w_call hc6 rfl (pz_cokI is_21 rfl) ?_
            refine w_ret rfl ?_
            first | exact lf_i (by first | rfl | omega) (by rfl) | (exfalso; omega))
       · first
         | (exfalso; first | omega | contradiction)
         | (have hc7 : pz_R (pz_Sh L) 172 [.inl (pz_bi (0 ≤ m ∧ m ≤ 999))] (iv) (.inr 1) (iv) := s_X10_needRange_n (pz_bi (0 ≤ m ∧ m ≤ 999)) (by exact pz_bi_0 h4)
            refine w_calle hc7 rfl rfl rfl ?_
            first | exact lf_e (by rfl) | (exfalso; omega)))
  · first
    | (exfalso; first | omega | contradiction)
    | (have hc8 : pz_R (pz_Sh L) 170 [.inr (.inl 2), .inl e] (iv) (.inr 2) (iv) := s_X10_needEvent_n e (by exact hE) (by exact h1)
       refine w_calle hc8 rfl (pz_cokI is_2 rfl) rfl ?_
       first | exact lf_e (by rfl) | (exfalso; omega))

theorem s_X10_costOf_0 {L : Nat} {iv : Nat → Nat → Int} (e : Int) (m : Int) {k : Nat → Int} (hk : q_KR k) (hE : q_cE k (iv 3)) (hB : q_cB k (iv 4) (iv 5) (iv 6) (iv 7) (iv 8) (iv 9)) (hS : q_cS k (iv 10) (iv 11) (iv 12) (iv 13) (iv 14)) (hC : q_cC k (iv 15) (iv 16)) (hA : q_cA k (iv 17) (iv 18) (iv 19) (iv 20)) (hO : q_cO k (iv 22) (iv 23) (iv 24)) (hL : q_cL k (iv 25)) (hP : q_cP k (iv 27)) (hcase0 : 0 ≤ e ∧ e ≤ k 0 - 1) (hcase1 : 0 ≤ m ∧ m ≤ 999) : pz_R (pz_Sh L) 164 [.inr (.inl 2), .inl e, .inl m] iv (.inl (some (.inl (q_cst k e m)))) iv := by
  intro dv cc ss
  have hk0 := hk.r0
  have hE0 := hE
  have hB0 := hB.1
  have hS0 := hS.1
  have hC0 := hC.1
  have hA0 := hA.1
  show pz_G 164 0 [some (.inr (.inl 2)), some (.inl e), some (.inl m)] [] (pz_Sh L, iv, dv, cc, ss) (pz_P (pz_Sh L) (.inl (some (.inl (q_cst k e m)))) iv dv cc ss)
  refine pz_G_of pz_b164_0 ?_
  refine w_loc rfl ?_
  refine w_loc rfl ?_
  by_cases h1 : 0 ≤ e ∧ e < k 0
  · first
    | (exfalso; first | omega | contradiction)
    | (have hc2 : pz_R (pz_Sh L) 170 [.inr (.inl 2), .inl e] (iv) (.inl none) (iv) := s_X10_needEvent_y e (by exact hE) (by exact h1)
       refine w_callv hc2 rfl (pz_cokI is_2 rfl) ?_
       refine w_loc rfl ?_
       refine w_pure rfl ?_
       refine w_pure rfl ?_
       have hc3 : pz_R (pz_Sh L) 185 [.inl m, .inl 0, .inl 999] (iv) (.inl (some (.inl (pz_bi (0 ≤ m ∧ m ≤ 999))))) (iv) := s_X10_isWithin m 0 999
       refine w_call hc3 rfl rfl ?_
       by_cases h4 : 0 ≤ m ∧ m ≤ 999
       · first
         | (exfalso; first | omega | contradiction)
         | (have hc5 : pz_R (pz_Sh L) 172 [.inl (pz_bi (0 ≤ m ∧ m ≤ 999))] (iv) (.inl none) (iv) := s_X10_needRange_y (pz_bi (0 ≤ m ∧ m ≤ 999)) (by exact pz_bi_p1 h4)
            refine w_callv hc5 rfl rfl ?_
            refine w_loc rfl ?_
            refine w_getR (q := 3) is_2 rf_2_0 ?_
            refine w_getR (q := 21) is_3 rf_3_5 ?_
            refine w_loc rfl ?_
            refine w_loc rfl ?_
            have hc6 : pz_R (pz_Sh L) 32 [.inr (.inl 21), .inl e, .inl m] (iv) (.inl (some (.inl (q_cst k e m)))) (iv) := s_X3_at e m (by exact hk) (by exact hO) (by omega) (by omega)
            refine w_call hc6 rfl (pz_cokI is_21 rfl) ?_
            refine w_ret rfl ?_
            first | exact lf_i (by first | rfl | omega) (by rfl) | (exfalso; omega))
       · first
         | (exfalso; first | omega | contradiction)
         | (have hc7 : pz_R (pz_Sh L) 172 [.inl (pz_bi (0 ≤ m ∧ m ≤ 999))] (iv) (.inr 1) (iv) := s_X10_needRange_n (pz_bi (0 ≤ m ∧ m ≤ 999)) (by exact pz_bi_0 h4)
            refine w_calle hc7 rfl rfl rfl ?_
            first | exact lf_e (by rfl) | (exfalso; omega)))
  · first
    | (exfalso; first | omega | contradiction)
    | (have hc8 : pz_R (pz_Sh L) 170 [.inr (.inl 2), .inl e] (iv) (.inr 2) (iv) := s_X10_needEvent_n e (by exact hE) (by exact h1)
       refine w_calle hc8 rfl (pz_cokI is_2 rfl) rfl ?_
       first | exact lf_e (by rfl) | (exfalso; omega))

theorem s_X10_end_1 {L : Nat} {iv : Nat → Nat → Int} (s : Int) {k : Nat → Int} (hk : q_KR k) (hE : q_cE k (iv 3)) (hB : q_cB k (iv 4) (iv 5) (iv 6) (iv 7) (iv 8) (iv 9)) (hS : q_cS k (iv 10) (iv 11) (iv 12) (iv 13) (iv 14)) (hC : q_cC k (iv 15) (iv 16)) (hA : q_cA k (iv 17) (iv 18) (iv 19) (iv 20)) (hO : q_cO k (iv 22) (iv 23) (iv 24)) (hL : q_cL k (iv 25)) (hP : q_cP k (iv 27)) (hcase0 : ¬ (0 ≤ s ∧ s ≤ k 2 - 1)) : pz_R (pz_Sh L) 151 [.inr (.inl 2), .inl s] iv (.inr 2) iv := by
  intro dv cc ss
  have hk0 := hk.r0
  have hE0 := hE
  have hB0 := hB.1
  have hS0 := hS.1
  have hC0 := hC.1
  have hA0 := hA.1
  have hsp := fun h1 h2 => hk.sp (s := s) h1 h2
  have hs6 := fun h1 h2 => hk.st (e := k (212 + 4 * s).toNat) h1 h2
  show pz_G 151 0 [some (.inr (.inl 2)), some (.inl s), none] [] (pz_Sh L, iv, dv, cc, ss) (pz_P (pz_Sh L) (.inr 2) iv dv cc ss)
  refine pz_G_of pz_b151_0 ?_
  refine w_loc rfl ?_
  refine w_loc rfl ?_
  refine w_getR (q := 3) is_2 rf_2_0 ?_
  refine w_getR (q := 10) is_3 rf_3_2 ?_
  refine w_getI (v := (iv 10) 0) is_10 (by decide) rfl ?_
  by_cases h1 : 0 ≤ s ∧ s < ((iv 10) 0)
  · first
    | (exfalso; first | omega | contradiction)
    | (have hc2 : pz_R (pz_Sh L) 171 [.inl s, .inl ((iv 10) 0)] (iv) (.inl none) (iv) := s_X10_needItem_y s ((iv 10) 0) (by exact h1)
       refine w_callv hc2 rfl rfl ?_
       refine w_loc rfl ?_
       refine w_getR (q := 3) is_2 rf_2_0 ?_
       refine w_getR (q := 10) is_3 rf_3_2 ?_
       refine w_loc rfl ?_
       refine w_loc rfl ?_
       refine w_getR (q := 3) is_2 rf_2_0 ?_
       refine w_getR (q := 15) is_3 rf_3_3 ?_
       have hc3 : pz_R (pz_Sh L) 117 [.inr (.inl 10), .inl s, .inr (.inl 15)] (iv) (.inl (some (.inl (pz_bi ((q_sta k (k (212 + 4 * s).toNat)) ∧ ¬ (q_sta k (k (212 + 4 * s + 1).toNat))))))) (iv) := s_X9_isRunning_15 s (by exact hk) (by exact hS) (by exact hC) (by omega)
       refine w_call hc3 rfl (pz_cokI is_10 rfl) ?_
       by_cases h4 : (q_sta k (k (212 + 4 * s).toNat)) ∧ ¬ (q_sta k (k (212 + 4 * s + 1).toNat))
       · first
         | (exfalso; first | omega | contradiction)
         | (have hc5 : pz_R (pz_Sh L) 173 [.inl (pz_bi ((q_sta k (k (212 + 4 * s).toNat)) ∧ ¬ (q_sta k (k (212 + 4 * s + 1).toNat))))] (iv) (.inl none) (iv) := s_X10_needState_y (pz_bi ((q_sta k (k (212 + 4 * s).toNat)) ∧ ¬ (q_sta k (k (212 + 4 * s + 1).toNat)))) (by exact pz_bi_p1 h4)
            refine w_callv hc5 rfl rfl ?_
            refine w_loc rfl ?_
            refine w_getR (q := 3) is_2 rf_2_0 ?_
            refine w_getR (q := 10) is_3 rf_3_2 ?_
            refine w_loc rfl ?_
            refine w_loc rfl ?_
            refine w_getR (q := 3) is_2 rf_2_0 ?_
            refine w_getR (q := 15) is_3 rf_3_3 ?_
            have hc6 : pz_R (pz_Sh L) 118 [.inr (.inl 10), .inl s, .inr (.inl 15)] (iv) (.inl (some (.inl (k 4 - k (6 + k (212 + 4 * s).toNat).toNat)))) (iv) := s_X9_minutesGone_15 s (by exact hk) (by exact hS) (by exact hC) (by omega)
            refine w_call hc6 rfl (pz_cokI is_10 rfl) ?_
            refine w_loc (ls' := [some (.inr (.inl 2)), some (.inl s), some (.inl (k 4 - k (6 + k (212 + 4 * s).toNat).toNat))]) (st' := []) rfl ?_
            refine w_loc rfl ?_
            refine w_getR (q := 3) is_2 rf_2_0 ?_
            refine w_getR (q := 10) is_3 rf_3_2 ?_
            refine w_loc rfl ?_
            refine w_loc rfl ?_
            have hc7 : pz_R (pz_Sh L) 119 [.inr (.inl 10), .inl s, .inl (k 4 - k (6 + k (212 + 4 * s).toNat).toNat)] (iv) (.inl (some (.inl (pz_bi (k (212 + 4 * s + 2).toNat ≤ (k 4 - k (6 + k (212 + 4 * s).toNat).toNat) ∧ (k 4 - k (6 + k (212 + 4 * s).toNat).toNat) ≤ k (212 + 4 * s + 3).toNat))))) (iv) := s_X9_canLast s (k 4 - k (6 + k (212 + 4 * s).toNat).toNat) (by exact hk) (by exact hS) (by omega)
            refine w_call hc7 rfl (pz_cokI is_10 rfl) ?_
            refine w_bne (fun h8 => ?_) (fun h8 => ?_)
            · first
              | (exfalso; first | omega | contradiction)
              | (refine pz_G_of pz_b151_80 ?_
                 refine w_loc rfl ?_
                 refine w_getR (q := 3) is_2 rf_2_0 ?_
                 refine w_getR (q := 15) is_3 rf_3_3 ?_
                 refine w_loc rfl ?_
                 refine w_getR (q := 3) is_2 rf_2_0 ?_
                 refine w_getR (q := 10) is_3 rf_3_2 ?_
                 refine w_loc rfl ?_
                 have hc9 : pz_R (pz_Sh L) 111 [.inr (.inl 10), .inl s] (iv) (.inl (some (.inl (k (212 + 4 * s + 1).toNat)))) (iv) := s_X9_endOf s (by exact hk) (by exact hS) (by omega)
                 refine w_call hc9 rfl (pz_cokI is_10 rfl) ?_
                 have hc10 : pz_R (pz_Sh L) 28 [.inr (.inl 15), .inl (k (212 + 4 * s + 1).toNat)] (iv) (.inl none) (pz_u1 iv 16 (pz_up (iv 16) (k (212 + 4 * s + 1).toNat).toNat (k 4))) := pz_R_mem (s_X2_begin_15 (k (212 + 4 * s + 1).toNat) (by exact hC) (by omega)) (by rw [pz_u1_top (r := 16)]; rfl)
                 refine w_callv hc10 rfl (pz_cokI is_15 rfl) ?_
                 refine w_loc rfl ?_
                 have hc11 : pz_R (pz_Sh L) 178 [.inr (.inl 2)] (pz_u1 iv 16 (pz_up (iv 16) (k (212 + 4 * s + 1).toNat).toNat (k 4))) (.inl none) (pz_u1 (pz_u1 iv 2 (pz_up (pz_up (pz_up (iv 2) 7 0) 8 0) 9 0)) 16 (pz_up (iv 16) (k (212 + 4 * s + 1).toNat).toNat (k 4))) := pz_R_mem (s_X10_forget) (by rw [pz_u1_in (r := 2) (q := 16) (by decide)]; rw [pz_u1_top (r := 2)]; rfl)
                 refine w_callv hc11 rfl (pz_cokI is_2 rfl) ?_
                 refine w_loc rfl ?_
                 refine w_ret rfl ?_
                 first | exact lf_i (by first | rfl | omega) (by rfl) | (exfalso; omega))
            · first
              | (exfalso; first | omega | contradiction)
              | (refine w_thr (by decide) ?_
                 first | exact lf_e (by rfl) | (exfalso; omega)))
       · first
         | (exfalso; first | omega | contradiction)
         | (have hc12 : pz_R (pz_Sh L) 173 [.inl (pz_bi ((q_sta k (k (212 + 4 * s).toNat)) ∧ ¬ (q_sta k (k (212 + 4 * s + 1).toNat))))] (iv) (.inr 0) (iv) := s_X10_needState_n (pz_bi ((q_sta k (k (212 + 4 * s).toNat)) ∧ ¬ (q_sta k (k (212 + 4 * s + 1).toNat)))) (by exact pz_bi_0 h4)
            refine w_calle hc12 rfl rfl rfl ?_
            first | exact lf_e (by rfl) | (exfalso; omega)))
  · first
    | (exfalso; first | omega | contradiction)
    | (have hc13 : pz_R (pz_Sh L) 171 [.inl s, .inl ((iv 10) 0)] (iv) (.inr 2) (iv) := s_X10_needItem_n s ((iv 10) 0) (by exact h1)
       refine w_calle hc13 rfl rfl rfl ?_
       first | exact lf_e (by rfl) | (exfalso; omega))

theorem s_X10_end_2 {L : Nat} {iv : Nat → Nat → Int} (s : Int) {k : Nat → Int} (hk : q_KR k) (hE : q_cE k (iv 3)) (hB : q_cB k (iv 4) (iv 5) (iv 6) (iv 7) (iv 8) (iv 9)) (hS : q_cS k (iv 10) (iv 11) (iv 12) (iv 13) (iv 14)) (hC : q_cC k (iv 15) (iv 16)) (hA : q_cA k (iv 17) (iv 18) (iv 19) (iv 20)) (hO : q_cO k (iv 22) (iv 23) (iv 24)) (hL : q_cL k (iv 25)) (hP : q_cP k (iv 27)) (hcase0 : 0 ≤ s ∧ s ≤ k 2 - 1) (hcase1 : ¬ (q_sta k (k (212 + 4 * s).toNat) ∧ ¬ q_sta k (k (212 + 4 * s + 1).toNat))) : pz_R (pz_Sh L) 151 [.inr (.inl 2), .inl s] iv (.inr 0) iv := by
  intro dv cc ss
  have hk0 := hk.r0
  have hE0 := hE
  have hB0 := hB.1
  have hS0 := hS.1
  have hC0 := hC.1
  have hA0 := hA.1
  have hsp := fun h1 h2 => hk.sp (s := s) h1 h2
  have hs6 := fun h1 h2 => hk.st (e := k (212 + 4 * s).toNat) h1 h2
  show pz_G 151 0 [some (.inr (.inl 2)), some (.inl s), none] [] (pz_Sh L, iv, dv, cc, ss) (pz_P (pz_Sh L) (.inr 0) iv dv cc ss)
  refine pz_G_of pz_b151_0 ?_
  refine w_loc rfl ?_
  refine w_loc rfl ?_
  refine w_getR (q := 3) is_2 rf_2_0 ?_
  refine w_getR (q := 10) is_3 rf_3_2 ?_
  refine w_getI (v := (iv 10) 0) is_10 (by decide) rfl ?_
  by_cases h1 : 0 ≤ s ∧ s < ((iv 10) 0)
  · first
    | (exfalso; first | omega | contradiction)
    | (have hc2 : pz_R (pz_Sh L) 171 [.inl s, .inl ((iv 10) 0)] (iv) (.inl none) (iv) := s_X10_needItem_y s ((iv 10) 0) (by exact h1)
       refine w_callv hc2 rfl rfl ?_
       refine w_loc rfl ?_
       refine w_getR (q := 3) is_2 rf_2_0 ?_
       refine w_getR (q := 10) is_3 rf_3_2 ?_
       refine w_loc rfl ?_
       refine w_loc rfl ?_
       refine w_getR (q := 3) is_2 rf_2_0 ?_
       refine w_getR (q := 15) is_3 rf_3_3 ?_
       have hc3 : pz_R (pz_Sh L) 117 [.inr (.inl 10), .inl s, .inr (.inl 15)] (iv) (.inl (some (.inl (pz_bi ((q_sta k (k (212 + 4 * s).toNat)) ∧ ¬ (q_sta k (k (212 + 4 * s + 1).toNat))))))) (iv) := s_X9_isRunning_15 s (by exact hk) (by exact hS) (by exact hC) (by omega)
       refine w_call hc3 rfl (pz_cokI is_10 rfl) ?_
       by_cases h4 : (q_sta k (k (212 + 4 * s).toNat)) ∧ ¬ (q_sta k (k (212 + 4 * s + 1).toNat))
       · first
         | (exfalso; first | omega | contradiction)
         | (have hc5 : pz_R (pz_Sh L) 173 [.inl (pz_bi ((q_sta k (k (212 + 4 * s).toNat)) ∧ ¬ (q_sta k (k (212 + 4 * s + 1).toNat))))] (iv) (.inl none) (iv) := s_X10_needState_y (pz_bi ((q_sta k (k (212 + 4 * s).toNat)) ∧ ¬ (q_sta k (k (212 + 4 * s + 1).toNat)))) (by exact pz_bi_p1 h4)
            refine w_callv hc5 rfl rfl ?_
            refine w_loc rfl ?_
            refine w_getR (q := 3) is_2 rf_2_0 ?_
            refine w_getR (q := 10) is_3 rf_3_2 ?_
            refine w_loc rfl ?_
            refine w_loc rfl ?_
            refine w_getR (q := 3) is_2 rf_2_0 ?_
            refine w_getR (q := 15) is_3 rf_3_3 ?_
            have hc6 : pz_R (pz_Sh L) 118 [.inr (.inl 10), .inl s, .inr (.inl 15)] (iv) (.inl (some (.inl (k 4 - k (6 + k (212 + 4 * s).toNat).toNat)))) (iv) := s_X9_minutesGone_15 s (by exact hk) (by exact hS) (by exact hC) (by omega)
            refine w_call hc6 rfl (pz_cokI is_10 rfl) ?_
            refine w_loc (ls' := [some (.inr (.inl 2)), some (.inl s), some (.inl (k 4 - k (6 + k (212 + 4 * s).toNat).toNat))]) (st' := []) rfl ?_
            refine w_loc rfl ?_
            refine w_getR (q := 3) is_2 rf_2_0 ?_
            refine w_getR (q := 10) is_3 rf_3_2 ?_
            refine w_loc rfl ?_
            refine w_loc rfl ?_
            have hc7 : pz_R (pz_Sh L) 119 [.inr (.inl 10), .inl s, .inl (k 4 - k (6 + k (212 + 4 * s).toNat).toNat)] (iv) (.inl (some (.inl (pz_bi (k (212 + 4 * s + 2).toNat ≤ (k 4 - k (6 + k (212 + 4 * s).toNat).toNat) ∧ (k 4 - k (6 + k (212 + 4 * s).toNat).toNat) ≤ k (212 + 4 * s + 3).toNat))))) (iv) := s_X9_canLast s (k 4 - k (6 + k (212 + 4 * s).toNat).toNat) (by exact hk) (by exact hS) (by omega)
            refine w_call hc7 rfl (pz_cokI is_10 rfl) ?_
            refine w_bne (fun h8 => ?_) (fun h8 => ?_)
            · first
              | (exfalso; first | omega | contradiction)
              | (refine pz_G_of pz_b151_80 ?_
                 refine w_loc rfl ?_
                 refine w_getR (q := 3) is_2 rf_2_0 ?_
                 refine w_getR (q := 15) is_3 rf_3_3 ?_
                 refine w_loc rfl ?_
                 refine w_getR (q := 3) is_2 rf_2_0 ?_
                 refine w_getR (q := 10) is_3 rf_3_2 ?_
                 refine w_loc rfl ?_
                 have hc9 : pz_R (pz_Sh L) 111 [.inr (.inl 10), .inl s] (iv) (.inl (some (.inl (k (212 + 4 * s + 1).toNat)))) (iv) := s_X9_endOf s (by exact hk) (by exact hS) (by omega)
                 refine w_call hc9 rfl (pz_cokI is_10 rfl) ?_
                 have hc10 : pz_R (pz_Sh L) 28 [.inr (.inl 15), .inl (k (212 + 4 * s + 1).toNat)] (iv) (.inl none) (pz_u1 iv 16 (pz_up (iv 16) (k (212 + 4 * s + 1).toNat).toNat (k 4))) := pz_R_mem (s_X2_begin_15 (k (212 + 4 * s + 1).toNat) (by exact hC) (by omega)) (by rw [pz_u1_top (r := 16)]; rfl)
                 refine w_callv hc10 rfl (pz_cokI is_15 rfl) ?_
                 refine w_loc rfl ?_
                 have hc11 : pz_R (pz_Sh L) 178 [.inr (.inl 2)] (pz_u1 iv 16 (pz_up (iv 16) (k (212 + 4 * s + 1).toNat).toNat (k 4))) (.inl none) (pz_u1 (pz_u1 iv 2 (pz_up (pz_up (pz_up (iv 2) 7 0) 8 0) 9 0)) 16 (pz_up (iv 16) (k (212 + 4 * s + 1).toNat).toNat (k 4))) := pz_R_mem (s_X10_forget) (by rw [pz_u1_in (r := 2) (q := 16) (by decide)]; rw [pz_u1_top (r := 2)]; rfl)
                 refine w_callv hc11 rfl (pz_cokI is_2 rfl) ?_
                 refine w_loc rfl ?_
                 refine w_ret rfl ?_
                 first | exact lf_i (by first | rfl | omega) (by rfl) | (exfalso; omega))
            · first
              | (exfalso; first | omega | contradiction)
              | (refine w_thr (by decide) ?_
                 first | exact lf_e (by rfl) | (exfalso; omega)))
       · first
         | (exfalso; first | omega | contradiction)
         | (have hc12 : pz_R (pz_Sh L) 173 [.inl (pz_bi ((q_sta k (k (212 + 4 * s).toNat)) ∧ ¬ (q_sta k (k (212 + 4 * s + 1).toNat))))] (iv) (.inr 0) (iv) := s_X10_needState_n (pz_bi ((q_sta k (k (212 + 4 * s).toNat)) ∧ ¬ (q_sta k (k (212 + 4 * s + 1).toNat)))) (by exact pz_bi_0 h4)
            refine w_calle hc12 rfl rfl rfl ?_
            first | exact lf_e (by rfl) | (exfalso; omega)))
  · first
    | (exfalso; first | omega | contradiction)
    | (have hc13 : pz_R (pz_Sh L) 171 [.inl s, .inl ((iv 10) 0)] (iv) (.inr 2) (iv) := s_X10_needItem_n s ((iv 10) 0) (by exact h1)
       refine w_calle hc13 rfl rfl rfl ?_
       first | exact lf_e (by rfl) | (exfalso; omega))

theorem s_X10_end_3 {L : Nat} {iv : Nat → Nat → Int} (s : Int) {k : Nat → Int} (hk : q_KR k) (hE : q_cE k (iv 3)) (hB : q_cB k (iv 4) (iv 5) (iv 6) (iv 7) (iv 8) (iv 9)) (hS : q_cS k (iv 10) (iv 11) (iv 12) (iv 13) (iv 14)) (hC : q_cC k (iv 15) (iv 16)) (hA : q_cA k (iv 17) (iv 18) (iv 19) (iv 20)) (hO : q_cO k (iv 22) (iv 23) (iv 24)) (hL : q_cL k (iv 25)) (hP : q_cP k (iv 27)) (hcase0 : 0 ≤ s ∧ s ≤ k 2 - 1) (hcase1 : q_sta k (k (212 + 4 * s).toNat) ∧ ¬ q_sta k (k (212 + 4 * s + 1).toNat)) (hcase2 : ¬ (k (212 + 4 * s + 2).toNat ≤ k 4 - k (6 + k (212 + 4 * s).toNat).toNat ∧ k 4 - k (6 + k (212 + 4 * s).toNat).toNat ≤ k (212 + 4 * s + 3).toNat)) : pz_R (pz_Sh L) 151 [.inr (.inl 2), .inl s] iv (.inr 3) iv := by
  intro dv cc ss
  have hk0 := hk.r0
  have hE0 := hE
  have hB0 := hB.1
  have hS0 := hS.1
  have hC0 := hC.1
  have hA0 := hA.1
  have hsp := fun h1 h2 => hk.sp (s := s) h1 h2
  have hs6 := fun h1 h2 => hk.st (e := k (212 + 4 * s).toNat) h1 h2
  show pz_G 151 0 [some (.inr (.inl 2)), some (.inl s), none] [] (pz_Sh L, iv, dv, cc, ss) (pz_P (pz_Sh L) (.inr 3) iv dv cc ss)
  refine pz_G_of pz_b151_0 ?_
  refine w_loc rfl ?_
  refine w_loc rfl ?_
  refine w_getR (q := 3) is_2 rf_2_0 ?_
  refine w_getR (q := 10) is_3 rf_3_2 ?_
  refine w_getI (v := (iv 10) 0) is_10 (by decide) rfl ?_
  by_cases h1 : 0 ≤ s ∧ s < ((iv 10) 0)
  · first
    | (exfalso; first | omega | contradiction)
    | (have hc2 : pz_R (pz_Sh L) 171 [.inl s, .inl ((iv 10) 0)] (iv) (.inl none) (iv) := s_X10_needItem_y s ((iv 10) 0) (by exact h1)
       refine w_callv hc2 rfl rfl ?_
       refine w_loc rfl ?_
       refine w_getR (q := 3) is_2 rf_2_0 ?_
       refine w_getR (q := 10) is_3 rf_3_2 ?_
       refine w_loc rfl ?_
       refine w_loc rfl ?_
       refine w_getR (q := 3) is_2 rf_2_0 ?_
       refine w_getR (q := 15) is_3 rf_3_3 ?_
       have hc3 : pz_R (pz_Sh L) 117 [.inr (.inl 10), .inl s, .inr (.inl 15)] (iv) (.inl (some (.inl (pz_bi ((q_sta k (k (212 + 4 * s).toNat)) ∧ ¬ (q_sta k (k (212 + 4 * s + 1).toNat))))))) (iv) := s_X9_isRunning_15 s (by exact hk) (by exact hS) (by exact hC) (by omega)
       refine w_call hc3 rfl (pz_cokI is_10 rfl) ?_
       by_cases h4 : (q_sta k (k (212 + 4 * s).toNat)) ∧ ¬ (q_sta k (k (212 + 4 * s + 1).toNat))
       · first
         | (exfalso; first | omega | contradiction)
         | (have hc5 : pz_R (pz_Sh L) 173 [.inl (pz_bi ((q_sta k (k (212 + 4 * s).toNat)) ∧ ¬ (q_sta k (k (212 + 4 * s + 1).toNat))))] (iv) (.inl none) (iv) := s_X10_needState_y (pz_bi ((q_sta k (k (212 + 4 * s).toNat)) ∧ ¬ (q_sta k (k (212 + 4 * s + 1).toNat)))) (by exact pz_bi_p1 h4)
            refine w_callv hc5 rfl rfl ?_
            refine w_loc rfl ?_
            refine w_getR (q := 3) is_2 rf_2_0 ?_
            refine w_getR (q := 10) is_3 rf_3_2 ?_
            refine w_loc rfl ?_
            refine w_loc rfl ?_
            refine w_getR (q := 3) is_2 rf_2_0 ?_
            refine w_getR (q := 15) is_3 rf_3_3 ?_
            have hc6 : pz_R (pz_Sh L) 118 [.inr (.inl 10), .inl s, .inr (.inl 15)] (iv) (.inl (some (.inl (k 4 - k (6 + k (212 + 4 * s).toNat).toNat)))) (iv) := s_X9_minutesGone_15 s (by exact hk) (by exact hS) (by exact hC) (by omega)
            refine w_call hc6 rfl (pz_cokI is_10 rfl) ?_
            refine w_loc (ls' := [some (.inr (.inl 2)), some (.inl s), some (.inl (k 4 - k (6 + k (212 + 4 * s).toNat).toNat))]) (st' := []) rfl ?_
            refine w_loc rfl ?_
            refine w_getR (q := 3) is_2 rf_2_0 ?_
            refine w_getR (q := 10) is_3 rf_3_2 ?_
            refine w_loc rfl ?_
            refine w_loc rfl ?_
            have hc7 : pz_R (pz_Sh L) 119 [.inr (.inl 10), .inl s, .inl (k 4 - k (6 + k (212 + 4 * s).toNat).toNat)] (iv) (.inl (some (.inl (pz_bi (k (212 + 4 * s + 2).toNat ≤ (k 4 - k (6 + k (212 + 4 * s).toNat).toNat) ∧ (k 4 - k (6 + k (212 + 4 * s).toNat).toNat) ≤ k (212 + 4 * s + 3).toNat))))) (iv) := s_X9_canLast s (k 4 - k (6 + k (212 + 4 * s).toNat).toNat) (by exact hk) (by exact hS) (by omega)
            refine w_call hc7 rfl (pz_cokI is_10 rfl) ?_
            refine w_bne (fun h8 => ?_) (fun h8 => ?_)
            · first
              | (exfalso; first | omega | contradiction)
              | (refine pz_G_of pz_b151_80 ?_
                 refine w_loc rfl ?_
                 refine w_getR (q := 3) is_2 rf_2_0 ?_
                 refine w_getR (q := 15) is_3 rf_3_3 ?_
                 refine w_loc rfl ?_
                 refine w_getR (q := 3) is_2 rf_2_0 ?_
                 refine w_getR (q := 10) is_3 rf_3_2 ?_
                 refine w_loc rfl ?_
                 have hc9 : pz_R (pz_Sh L) 111 [.inr (.inl 10), .inl s] (iv) (.inl (some (.inl (k (212 + 4 * s + 1).toNat)))) (iv) := s_X9_endOf s (by exact hk) (by exact hS) (by omega)
                 refine w_call hc9 rfl (pz_cokI is_10 rfl) ?_
                 have hc10 : pz_R (pz_Sh L) 28 [.inr (.inl 15), .inl (k (212 + 4 * s + 1).toNat)] (iv) (.inl none) (pz_u1 iv 16 (pz_up (iv 16) (k (212 + 4 * s + 1).toNat).toNat (k 4))) := pz_R_mem (s_X2_begin_15 (k (212 + 4 * s + 1).toNat) (by exact hC) (by omega)) (by rw [pz_u1_top (r := 16)]; rfl)
                 refine w_callv hc10 rfl (pz_cokI is_15 rfl) ?_
                 refine w_loc rfl ?_
                 have hc11 : pz_R (pz_Sh L) 178 [.inr (.inl 2)] (pz_u1 iv 16 (pz_up (iv 16) (k (212 + 4 * s + 1).toNat).toNat (k 4))) (.inl none) (pz_u1 (pz_u1 iv 2 (pz_up (pz_up (pz_up (iv 2) 7 0) 8 0) 9 0)) 16 (pz_up (iv 16) (k (212 + 4 * s + 1).toNat).toNat (k 4))) := pz_R_mem (s_X10_forget) (by rw [pz_u1_in (r := 2) (q := 16) (by decide)]; rw [pz_u1_top (r := 2)]; rfl)
                 refine w_callv hc11 rfl (pz_cokI is_2 rfl) ?_
                 refine w_loc rfl ?_
                 refine w_ret rfl ?_
                 first | exact lf_i (by first | rfl | omega) (by rfl) | (exfalso; omega))
            · first
              | (exfalso; first | omega | contradiction)
              | (refine w_thr (by decide) ?_
                 first | exact lf_e (by rfl) | (exfalso; omega)))
       · first
         | (exfalso; first | omega | contradiction)
         | (have hc12 : pz_R (pz_Sh L) 173 [.inl (pz_bi ((q_sta k (k (212 + 4 * s).toNat)) ∧ ¬ (q_sta k (k (212 + 4 * s + 1).toNat))))] (iv) (.inr 0) (iv) := s_X10_needState_n (pz_bi ((q_sta k (k (212 + 4 * s).toNat)) ∧ ¬ (q_sta k (k (212 + 4 * s + 1).toNat)))) (by exact pz_bi_0 h4)
            refine w_calle hc12 rfl rfl rfl ?_
            first | exact lf_e (by rfl) | (exfalso; omega)))
  · first
    | (exfalso; first | omega | contradiction)
    | (have hc13 : pz_R (pz_Sh L) 171 [.inl s, .inl ((iv 10) 0)] (iv) (.inr 2) (iv) := s_X10_needItem_n s ((iv 10) 0) (by exact h1)
       refine w_calle hc13 rfl rfl rfl ?_
       first | exact lf_e (by rfl) | (exfalso; omega))

theorem s_X10_end_0 {L : Nat} {iv : Nat → Nat → Int} (s : Int) {k : Nat → Int} (hk : q_KR k) (hE : q_cE k (iv 3)) (hB : q_cB k (iv 4) (iv 5) (iv 6) (iv 7) (iv 8) (iv 9)) (hS : q_cS k (iv 10) (iv 11) (iv 12) (iv 13) (iv 14)) (hC : q_cC k (iv 15) (iv 16)) (hA : q_cA k (iv 17) (iv 18) (iv 19) (iv 20)) (hO : q_cO k (iv 22) (iv 23) (iv 24)) (hL : q_cL k (iv 25)) (hP : q_cP k (iv 27)) (hcase0 : 0 ≤ s ∧ s ≤ k 2 - 1) (hcase1 : q_sta k (k (212 + 4 * s).toNat) ∧ ¬ q_sta k (k (212 + 4 * s + 1).toNat)) (hcase2 : k (212 + 4 * s + 2).toNat ≤ k 4 - k (6 + k (212 + 4 * s).toNat).toNat ∧ k 4 - k (6 + k (212 + 4 * s).toNat).toNat ≤ k (212 + 4 * s + 3).toNat) : pz_R (pz_Sh L) 151 [.inr (.inl 2), .inl s] iv (.inl (some (.inl (k 4 - k (6 + k (212 + 4 * s).toNat).toNat)))) (pz_u1 (pz_u1 iv 2 (pz_up (pz_up (pz_up (iv 2) 7 0) 8 0) 9 0)) 16 (pz_up (iv 16) (k (212 + 4 * s + 1).toNat).toNat (k 4))) := by
  intro dv cc ss
  have hk0 := hk.r0
  have hE0 := hE
  have hB0 := hB.1
  have hS0 := hS.1
  have hC0 := hC.1
  have hA0 := hA.1
  have hsp := fun h1 h2 => hk.sp (s := s) h1 h2
  have hs6 := fun h1 h2 => hk.st (e := k (212 + 4 * s).toNat) h1 h2
  refine pz_G_mem (iv2 := pz_u1 (pz_u1 iv 2 (iv 2)) 16 (iv 16)) (by exact ((pz_u1_self iv 2).symm).trans (pz_u1_self (pz_u1 iv 2 (iv 2)) 16).symm) ?_
  show pz_G 151 0 [some (.inr (.inl 2)), some (.inl s), none] [] (pz_Sh L, pz_u1 (pz_u1 iv 2 (iv 2)) 16 (iv 16), dv, cc, ss) (pz_P (pz_Sh L) (.inl (some (.inl (k 4 - k (6 + k (212 + 4 * s).toNat).toNat)))) (pz_u1 (pz_u1 iv 2 (pz_up (pz_up (pz_up (iv 2) 7 0) 8 0) 9 0)) 16 (pz_up (iv 16) (k (212 + 4 * s + 1).toNat).toNat (k 4))) dv cc ss)
  refine pz_G_of pz_b151_0 ?_
  refine w_loc rfl ?_
  refine w_loc rfl ?_
  refine w_getR (q := 3) is_2 rf_2_0 ?_
  refine w_getR (q := 10) is_3 rf_3_2 ?_
  refine w_getI (v := (iv 10) 0) is_10 (by decide) rfl ?_
  by_cases h1 : 0 ≤ s ∧ s < ((iv 10) 0)
  · first
    | (exfalso; first | omega | contradiction)
    | (have hc2 : pz_R (pz_Sh L) 171 [.inl s, .inl ((iv 10) 0)] (pz_u1 (pz_u1 iv 2 (iv 2)) 16 (iv 16)) (.inl none) (pz_u1 (pz_u1 iv 2 (iv 2)) 16 (iv 16)) := s_X10_needItem_y s ((iv 10) 0) (by show 0 ≤ s ∧ s < ((iv 10) 0); exact h1)
       refine w_callv hc2 rfl rfl ?_
       refine w_loc rfl ?_
       refine w_getR (q := 3) is_2 rf_2_0 ?_
       refine w_getR (q := 10) is_3 rf_3_2 ?_
       refine w_loc rfl ?_
       refine w_loc rfl ?_
       refine w_getR (q := 3) is_2 rf_2_0 ?_
       refine w_getR (q := 15) is_3 rf_3_3 ?_
       have hc3 : pz_R (pz_Sh L) 117 [.inr (.inl 10), .inl s, .inr (.inl 15)] (pz_u1 (pz_u1 iv 2 (iv 2)) 16 (iv 16)) (.inl (some (.inl (pz_bi ((q_sta k (k (212 + 4 * s).toNat)) ∧ ¬ (q_sta k (k (212 + 4 * s + 1).toNat))))))) (pz_u1 (pz_u1 iv 2 (iv 2)) 16 (iv 16)) := s_X9_isRunning_15 s (by show q_KR k; exact hk) (by show q_cS k (iv 10) (iv 11) (iv 12) (iv 13) (iv 14); exact hS) (by show q_cC k (iv 15) (iv 16); exact hC) (by show 0 ≤ s ∧ s < k 2; omega)
       refine w_call hc3 rfl (pz_cokI is_10 rfl) ?_
       by_cases h4 : (q_sta k (k (212 + 4 * s).toNat)) ∧ ¬ (q_sta k (k (212 + 4 * s + 1).toNat))
       · first
         | (exfalso; first | omega | contradiction)
         | (have hc5 : pz_R (pz_Sh L) 173 [.inl (pz_bi ((q_sta k (k (212 + 4 * s).toNat)) ∧ ¬ (q_sta k (k (212 + 4 * s + 1).toNat))))] (pz_u1 (pz_u1 iv 2 (iv 2)) 16 (iv 16)) (.inl none) (pz_u1 (pz_u1 iv 2 (iv 2)) 16 (iv 16)) := s_X10_needState_y (pz_bi ((q_sta k (k (212 + 4 * s).toNat)) ∧ ¬ (q_sta k (k (212 + 4 * s + 1).toNat)))) (by show (pz_bi ((q_sta k (k (212 + 4 * s).toNat)) ∧ ¬ (q_sta k (k (212 + 4 * s + 1).toNat)))) ≠ 0; exact pz_bi_p1 h4)
            refine w_callv hc5 rfl rfl ?_
            refine w_loc rfl ?_
            refine w_getR (q := 3) is_2 rf_2_0 ?_
            refine w_getR (q := 10) is_3 rf_3_2 ?_
            refine w_loc rfl ?_
            refine w_loc rfl ?_
            refine w_getR (q := 3) is_2 rf_2_0 ?_
            refine w_getR (q := 15) is_3 rf_3_3 ?_
            have hc6 : pz_R (pz_Sh L) 118 [.inr (.inl 10), .inl s, .inr (.inl 15)] (pz_u1 (pz_u1 iv 2 (iv 2)) 16 (iv 16)) (.inl (some (.inl (k 4 - k (6 + k (212 + 4 * s).toNat).toNat)))) (pz_u1 (pz_u1 iv 2 (iv 2)) 16 (iv 16)) := s_X9_minutesGone_15 s (by show q_KR k; exact hk) (by show q_cS k (iv 10) (iv 11) (iv 12) (iv 13) (iv 14); exact hS) (by show q_cC k (iv 15) (iv 16); exact hC) (by show 0 ≤ s ∧ s < k 2; omega)
            refine w_call hc6 rfl (pz_cokI is_10 rfl) ?_
            refine w_loc (ls' := [some (.inr (.inl 2)), some (.inl s), some (.inl (k 4 - k (6 + k (212 + 4 * s).toNat).toNat))]) (st' := []) rfl ?_
            refine w_loc rfl ?_
            refine w_getR (q := 3) is_2 rf_2_0 ?_
            refine w_getR (q := 10) is_3 rf_3_2 ?_
            refine w_loc rfl ?_
            refine w_loc rfl ?_
            have hc7 : pz_R (pz_Sh L) 119 [.inr (.inl 10), .inl s, .inl (k 4 - k (6 + k (212 + 4 * s).toNat).toNat)] (pz_u1 (pz_u1 iv 2 (iv 2)) 16 (iv 16)) (.inl (some (.inl (pz_bi (k (212 + 4 * s + 2).toNat ≤ (k 4 - k (6 + k (212 + 4 * s).toNat).toNat) ∧ (k 4 - k (6 + k (212 + 4 * s).toNat).toNat) ≤ k (212 + 4 * s + 3).toNat))))) (pz_u1 (pz_u1 iv 2 (iv 2)) 16 (iv 16)) := s_X9_canLast s (k 4 - k (6 + k (212 + 4 * s).toNat).toNat) (by show q_KR k; exact hk) (by show q_cS k (iv 10) (iv 11) (iv 12) (iv 13) (iv 14); exact hS) (by show 0 ≤ s ∧ s < k 2; omega)
            refine w_call hc7 rfl (pz_cokI is_10 rfl) ?_
            refine w_bne (fun h8 => ?_) (fun h8 => ?_)
            · first
              | (exfalso; first | omega | contradiction)
              | (refine pz_G_of pz_b151_80 ?_
                 refine w_loc rfl ?_
                 refine w_getR (q := 3) is_2 rf_2_0 ?_
                 refine w_getR (q := 15) is_3 rf_3_3 ?_
                 refine w_loc rfl ?_
                 refine w_getR (q := 3) is_2 rf_2_0 ?_
                 refine w_getR (q := 10) is_3 rf_3_2 ?_
                 refine w_loc rfl ?_
                 have hc9 : pz_R (pz_Sh L) 111 [.inr (.inl 10), .inl s] (pz_u1 (pz_u1 iv 2 (iv 2)) 16 (iv 16)) (.inl (some (.inl (k (212 + 4 * s + 1).toNat)))) (pz_u1 (pz_u1 iv 2 (iv 2)) 16 (iv 16)) := s_X9_endOf s (by show q_KR k; exact hk) (by show q_cS k (iv 10) (iv 11) (iv 12) (iv 13) (iv 14); exact hS) (by show 0 ≤ s ∧ s < k 2; omega)
                 refine w_call hc9 rfl (pz_cokI is_10 rfl) ?_
                 have hc10 : pz_R (pz_Sh L) 28 [.inr (.inl 15), .inl (k (212 + 4 * s + 1).toNat)] (pz_u1 (pz_u1 iv 2 (iv 2)) 16 (iv 16)) (.inl none) (pz_u1 (pz_u1 iv 2 (iv 2)) 16 (pz_up (iv 16) (k (212 + 4 * s + 1).toNat).toNat (k 4))) := pz_R_mem (s_X2_begin_15 (k (212 + 4 * s + 1).toNat) (by show q_cC k (iv 15) (iv 16); exact hC) (by show 0 ≤ (k (212 + 4 * s + 1).toNat) ∧ (k (212 + 4 * s + 1).toNat) ≤ 9; omega)) (by rw [pz_u1_top (r := 16)]; rfl)
                 refine w_callv hc10 rfl (pz_cokI is_15 rfl) ?_
                 refine w_loc rfl ?_
                 have hc11 : pz_R (pz_Sh L) 178 [.inr (.inl 2)] (pz_u1 (pz_u1 iv 2 (iv 2)) 16 (pz_up (iv 16) (k (212 + 4 * s + 1).toNat).toNat (k 4))) (.inl none) (pz_u1 (pz_u1 iv 2 (pz_up (pz_up (pz_up (iv 2) 7 0) 8 0) 9 0)) 16 (pz_up (iv 16) (k (212 + 4 * s + 1).toNat).toNat (k 4))) := pz_R_mem (s_X10_forget) (by rw [pz_u1_in (r := 2) (q := 16) (by decide)]; rw [pz_u1_top (r := 2)]; rfl)
                 refine w_callv hc11 rfl (pz_cokI is_2 rfl) ?_
                 refine w_loc rfl ?_
                 refine w_ret rfl ?_
                 first | exact lf_i (by first | rfl | omega) (by rfl) | (exfalso; omega))
            · first
              | (exfalso; first | omega | contradiction)
              | (refine w_thr (by decide) ?_
                 first | exact lf_e (by rfl) | (exfalso; omega)))
       · first
         | (exfalso; first | omega | contradiction)
         | (have hc12 : pz_R (pz_Sh L) 173 [.inl (pz_bi ((q_sta k (k (212 + 4 * s).toNat)) ∧ ¬ (q_sta k (k (212 + 4 * s + 1).toNat))))] (pz_u1 (pz_u1 iv 2 (iv 2)) 16 (iv 16)) (.inr 0) (pz_u1 (pz_u1 iv 2 (iv 2)) 16 (iv 16)) := s_X10_needState_n (pz_bi ((q_sta k (k (212 + 4 * s).toNat)) ∧ ¬ (q_sta k (k (212 + 4 * s + 1).toNat)))) (by show (pz_bi ((q_sta k (k (212 + 4 * s).toNat)) ∧ ¬ (q_sta k (k (212 + 4 * s + 1).toNat)))) = 0; exact pz_bi_0 h4)
            refine w_calle hc12 rfl rfl rfl ?_
            first | exact lf_e (by rfl) | (exfalso; omega)))
  · first
    | (exfalso; first | omega | contradiction)
    | (have hc13 : pz_R (pz_Sh L) 171 [.inl s, .inl ((iv 10) 0)] (pz_u1 (pz_u1 iv 2 (iv 2)) 16 (iv 16)) (.inr 2) (pz_u1 (pz_u1 iv 2 (iv 2)) 16 (iv 16)) := s_X10_needItem_n s ((iv 10) 0) (by show ¬ (0 ≤ s ∧ s < ((iv 10) 0)); exact h1)
       refine w_calle hc13 rfl rfl rfl ?_
       first | exact lf_e (by rfl) | (exfalso; omega))

theorem s_X10_pass_1 {L : Nat} {iv : Nat → Nat → Int} (m : Int) {k : Nat → Int} (hk : q_KR k) (hE : q_cE k (iv 3)) (hB : q_cB k (iv 4) (iv 5) (iv 6) (iv 7) (iv 8) (iv 9)) (hS : q_cS k (iv 10) (iv 11) (iv 12) (iv 13) (iv 14)) (hC : q_cC k (iv 15) (iv 16)) (hA : q_cA k (iv 17) (iv 18) (iv 19) (iv 20)) (hO : q_cO k (iv 22) (iv 23) (iv 24)) (hL : q_cL k (iv 25)) (hP : q_cP k (iv 27)) (hcase0 : ¬ (1 ≤ m ∧ m ≤ 200)) : pz_R (pz_Sh L) 152 [.inr (.inl 2), .inl m] iv (.inr 1) iv := by
  intro dv cc ss
  have hk0 := hk.r0
  have hE0 := hE
  have hB0 := hB.1
  have hS0 := hS.1
  have hC0 := hC.1
  have hA0 := hA.1
  show pz_G 152 0 [some (.inr (.inl 2)), some (.inl m)] [] (pz_Sh L, iv, dv, cc, ss) (pz_P (pz_Sh L) (.inr 1) iv dv cc ss)
  refine pz_G_of pz_b152_0 ?_
  refine w_loc rfl ?_
  refine w_pure rfl ?_
  refine w_pure rfl ?_
  have hc1 : pz_R (pz_Sh L) 185 [.inl m, .inl 1, .inl 200] (iv) (.inl (some (.inl (pz_bi (1 ≤ m ∧ m ≤ 200))))) (iv) := s_X10_isWithin m 1 200
  refine w_call hc1 rfl rfl ?_
  by_cases h2 : 1 ≤ m ∧ m ≤ 200
  · first
    | (exfalso; first | omega | contradiction)
    | (have hc3 : pz_R (pz_Sh L) 172 [.inl (pz_bi (1 ≤ m ∧ m ≤ 200))] (iv) (.inl none) (iv) := s_X10_needRange_y (pz_bi (1 ≤ m ∧ m ≤ 200)) (by exact pz_bi_p1 h2)
       refine w_callv hc3 rfl rfl ?_
       refine w_loc rfl ?_
       refine w_getR (q := 3) is_2 rf_2_0 ?_
       refine w_getR (q := 10) is_3 rf_3_2 ?_
       refine w_loc rfl ?_
       refine w_loc rfl ?_
       refine w_getR (q := 3) is_2 rf_2_0 ?_
       refine w_getR (q := 15) is_3 rf_3_3 ?_
       have hc4 : pz_R (pz_Sh L) 120 [.inr (.inl 10), .inl m, .inr (.inl 15)] (iv) (.inl (some (.inl (pz_bi (q_exi (q_ovr k m) (k 2)))))) (iv) := s_X9_wouldOverrun m (by exact hk) (by exact hS) (by exact hC) (by omega)
       refine w_call hc4 rfl (pz_cokI is_10 rfl) ?_
       refine w_beq (fun h5 => ?_) (fun h5 => ?_)
       · first
         | (exfalso; first | omega | contradiction)
         | (refine pz_G_of pz_b152_43 ?_
            refine w_loc rfl ?_
            refine w_getR (q := 3) is_2 rf_2_0 ?_
            refine w_getR (q := 15) is_3 rf_3_3 ?_
            refine w_getI (v := (iv 15) 0) is_15 (by decide) rfl ?_
            refine w_loc rfl ?_
            refine w_iadd (by omega) ?_
            refine w_pure rfl ?_
            refine w_igt (fun h6 => ?_) (fun h6 => ?_)
            · first
              | (exfalso; first | omega | contradiction)
              | (refine pz_G_of pz_b152_65 ?_
                 refine w_pure rfl ?_
                 refine w_nil ?_
                 refine pz_G_of pz_b152_66 ?_
                 have hc7 : pz_R (pz_Sh L) 173 [.inl 0] (iv) (.inr 0) (iv) := s_X10_needState_n 0 (by omega)
                 refine w_calle hc7 rfl rfl rfl ?_
                 first | first | exact lf_e (by rfl) | exact lf_i (by show iv 15 0 + m = _; rw [hC.1]) (by rw [hC.1]) | (exfalso; omega))
            · exfalso; first | omega | contradiction)
       · first
         | (exfalso; first | omega | contradiction)
         | (refine w_thr (by decide) ?_
            first | first | exact lf_e (by rfl) | exact lf_i (by show iv 15 0 + m = _; rw [hC.1]) (by rw [hC.1]) | (exfalso; omega)))
  · first
    | (exfalso; first | omega | contradiction)
    | (have hc9 : pz_R (pz_Sh L) 172 [.inl (pz_bi (1 ≤ m ∧ m ≤ 200))] (iv) (.inr 1) (iv) := s_X10_needRange_n (pz_bi (1 ≤ m ∧ m ≤ 200)) (by exact pz_bi_0 h2)
       refine w_calle hc9 rfl rfl rfl ?_
       first | first | exact lf_e (by rfl) | exact lf_i (by show iv 15 0 + m = _; rw [hC.1]) (by rw [hC.1]) | (exfalso; omega))

theorem s_X10_pass_2 {L : Nat} {iv : Nat → Nat → Int} (m : Int) {k : Nat → Int} (hk : q_KR k) (hE : q_cE k (iv 3)) (hB : q_cB k (iv 4) (iv 5) (iv 6) (iv 7) (iv 8) (iv 9)) (hS : q_cS k (iv 10) (iv 11) (iv 12) (iv 13) (iv 14)) (hC : q_cC k (iv 15) (iv 16)) (hA : q_cA k (iv 17) (iv 18) (iv 19) (iv 20)) (hO : q_cO k (iv 22) (iv 23) (iv 24)) (hL : q_cL k (iv 25)) (hP : q_cP k (iv 27)) (hcase0 : 1 ≤ m ∧ m ≤ 200) (hcase1 : q_exi (q_ovr k m) (k 2)) : pz_R (pz_Sh L) 152 [.inr (.inl 2), .inl m] iv (.inr 3) iv := by
  intro dv cc ss
  have hk0 := hk.r0
  have hE0 := hE
  have hB0 := hB.1
  have hS0 := hS.1
  have hC0 := hC.1
  have hA0 := hA.1
  show pz_G 152 0 [some (.inr (.inl 2)), some (.inl m)] [] (pz_Sh L, iv, dv, cc, ss) (pz_P (pz_Sh L) (.inr 3) iv dv cc ss)
  refine pz_G_of pz_b152_0 ?_
  refine w_loc rfl ?_
  refine w_pure rfl ?_
  refine w_pure rfl ?_
  have hc1 : pz_R (pz_Sh L) 185 [.inl m, .inl 1, .inl 200] (iv) (.inl (some (.inl (pz_bi (1 ≤ m ∧ m ≤ 200))))) (iv) := s_X10_isWithin m 1 200
  refine w_call hc1 rfl rfl ?_
  by_cases h2 : 1 ≤ m ∧ m ≤ 200
  · first
    | (exfalso; first | omega | contradiction)
    | (have hc3 : pz_R (pz_Sh L) 172 [.inl (pz_bi (1 ≤ m ∧ m ≤ 200))] (iv) (.inl none) (iv) := s_X10_needRange_y (pz_bi (1 ≤ m ∧ m ≤ 200)) (by exact pz_bi_p1 h2)
       refine w_callv hc3 rfl rfl ?_
       refine w_loc rfl ?_
       refine w_getR (q := 3) is_2 rf_2_0 ?_
       refine w_getR (q := 10) is_3 rf_3_2 ?_
       refine w_loc rfl ?_
       refine w_loc rfl ?_
       refine w_getR (q := 3) is_2 rf_2_0 ?_
       refine w_getR (q := 15) is_3 rf_3_3 ?_
       have hc4 : pz_R (pz_Sh L) 120 [.inr (.inl 10), .inl m, .inr (.inl 15)] (iv) (.inl (some (.inl (pz_bi (q_exi (q_ovr k m) (k 2)))))) (iv) := s_X9_wouldOverrun m (by exact hk) (by exact hS) (by exact hC) (by omega)
       refine w_call hc4 rfl (pz_cokI is_10 rfl) ?_
       refine w_beq (fun h5 => ?_) (fun h5 => ?_)
       · first
         | (exfalso; first | omega | contradiction)
         | (refine pz_G_of pz_b152_43 ?_
            refine w_loc rfl ?_
            refine w_getR (q := 3) is_2 rf_2_0 ?_
            refine w_getR (q := 15) is_3 rf_3_3 ?_
            refine w_getI (v := (iv 15) 0) is_15 (by decide) rfl ?_
            refine w_loc rfl ?_
            refine w_iadd (by omega) ?_
            refine w_pure rfl ?_
            refine w_igt (fun h6 => ?_) (fun h6 => ?_)
            · first
              | (exfalso; first | omega | contradiction)
              | (refine pz_G_of pz_b152_65 ?_
                 refine w_pure rfl ?_
                 refine w_nil ?_
                 refine pz_G_of pz_b152_66 ?_
                 have hc7 : pz_R (pz_Sh L) 173 [.inl 0] (iv) (.inr 0) (iv) := s_X10_needState_n 0 (by omega)
                 refine w_calle hc7 rfl rfl rfl ?_
                 first | first | exact lf_e (by rfl) | exact lf_i (by show iv 15 0 + m = _; rw [hC.1]) (by rw [hC.1]) | (exfalso; omega))
            · exfalso; first | omega | contradiction)
       · first
         | (exfalso; first | omega | contradiction)
         | (refine w_thr (by decide) ?_
            first | first | exact lf_e (by rfl) | exact lf_i (by show iv 15 0 + m = _; rw [hC.1]) (by rw [hC.1]) | (exfalso; omega)))
  · first
    | (exfalso; first | omega | contradiction)
    | (have hc9 : pz_R (pz_Sh L) 172 [.inl (pz_bi (1 ≤ m ∧ m ≤ 200))] (iv) (.inr 1) (iv) := s_X10_needRange_n (pz_bi (1 ≤ m ∧ m ≤ 200)) (by exact pz_bi_0 h2)
       refine w_calle hc9 rfl rfl rfl ?_
       first | first | exact lf_e (by rfl) | exact lf_i (by show iv 15 0 + m = _; rw [hC.1]) (by rw [hC.1]) | (exfalso; omega))

theorem s_X10_pass_3 {L : Nat} {iv : Nat → Nat → Int} (m : Int) {k : Nat → Int} (hk : q_KR k) (hE : q_cE k (iv 3)) (hB : q_cB k (iv 4) (iv 5) (iv 6) (iv 7) (iv 8) (iv 9)) (hS : q_cS k (iv 10) (iv 11) (iv 12) (iv 13) (iv 14)) (hC : q_cC k (iv 15) (iv 16)) (hA : q_cA k (iv 17) (iv 18) (iv 19) (iv 20)) (hO : q_cO k (iv 22) (iv 23) (iv 24)) (hL : q_cL k (iv 25)) (hP : q_cP k (iv 27)) (hcase0 : 1 ≤ m ∧ m ≤ 200) (hcase1 : ¬ q_exi (q_ovr k m) (k 2)) (hcase2 : 600 < k 4 + m) : pz_R (pz_Sh L) 152 [.inr (.inl 2), .inl m] iv (.inr 0) iv := by
  intro dv cc ss
  have hk0 := hk.r0
  have hE0 := hE
  have hB0 := hB.1
  have hS0 := hS.1
  have hC0 := hC.1
  have hA0 := hA.1
  show pz_G 152 0 [some (.inr (.inl 2)), some (.inl m)] [] (pz_Sh L, iv, dv, cc, ss) (pz_P (pz_Sh L) (.inr 0) iv dv cc ss)
  refine pz_G_of pz_b152_0 ?_
  refine w_loc rfl ?_
  refine w_pure rfl ?_
  refine w_pure rfl ?_
  have hc1 : pz_R (pz_Sh L) 185 [.inl m, .inl 1, .inl 200] (iv) (.inl (some (.inl (pz_bi (1 ≤ m ∧ m ≤ 200))))) (iv) := s_X10_isWithin m 1 200
  refine w_call hc1 rfl rfl ?_
  by_cases h2 : 1 ≤ m ∧ m ≤ 200
  · first
    | (exfalso; first | omega | contradiction)
    | (have hc3 : pz_R (pz_Sh L) 172 [.inl (pz_bi (1 ≤ m ∧ m ≤ 200))] (iv) (.inl none) (iv) := s_X10_needRange_y (pz_bi (1 ≤ m ∧ m ≤ 200)) (by exact pz_bi_p1 h2)
       refine w_callv hc3 rfl rfl ?_
       refine w_loc rfl ?_
       refine w_getR (q := 3) is_2 rf_2_0 ?_
       refine w_getR (q := 10) is_3 rf_3_2 ?_
       refine w_loc rfl ?_
       refine w_loc rfl ?_
       refine w_getR (q := 3) is_2 rf_2_0 ?_
       refine w_getR (q := 15) is_3 rf_3_3 ?_
       have hc4 : pz_R (pz_Sh L) 120 [.inr (.inl 10), .inl m, .inr (.inl 15)] (iv) (.inl (some (.inl (pz_bi (q_exi (q_ovr k m) (k 2)))))) (iv) := s_X9_wouldOverrun m (by exact hk) (by exact hS) (by exact hC) (by omega)
       refine w_call hc4 rfl (pz_cokI is_10 rfl) ?_
       refine w_beq (fun h5 => ?_) (fun h5 => ?_)
       · first
         | (exfalso; first | omega | contradiction)
         | (refine pz_G_of pz_b152_43 ?_
            refine w_loc rfl ?_
            refine w_getR (q := 3) is_2 rf_2_0 ?_
            refine w_getR (q := 15) is_3 rf_3_3 ?_
            refine w_getI (v := (iv 15) 0) is_15 (by decide) rfl ?_
            refine w_loc rfl ?_
            refine w_iadd (by omega) ?_
            refine w_pure rfl ?_
            refine w_igt (fun h6 => ?_) (fun h6 => ?_)
            · first
              | (exfalso; first | omega | contradiction)
              | (refine pz_G_of pz_b152_65 ?_
                 refine w_pure rfl ?_
                 refine w_nil ?_
                 refine pz_G_of pz_b152_66 ?_
                 have hc7 : pz_R (pz_Sh L) 173 [.inl 0] (iv) (.inr 0) (iv) := s_X10_needState_n 0 (by omega)
                 refine w_calle hc7 rfl rfl rfl ?_
                 first | first | exact lf_e (by rfl) | exact lf_i (by show iv 15 0 + m = _; rw [hC.1]) (by rw [hC.1]) | (exfalso; omega))
            · exfalso; first | omega | contradiction)
       · first
         | (exfalso; first | omega | contradiction)
         | (refine w_thr (by decide) ?_
            first | first | exact lf_e (by rfl) | exact lf_i (by show iv 15 0 + m = _; rw [hC.1]) (by rw [hC.1]) | (exfalso; omega)))
  · first
    | (exfalso; first | omega | contradiction)
    | (have hc9 : pz_R (pz_Sh L) 172 [.inl (pz_bi (1 ≤ m ∧ m ≤ 200))] (iv) (.inr 1) (iv) := s_X10_needRange_n (pz_bi (1 ≤ m ∧ m ≤ 200)) (by exact pz_bi_0 h2)
       refine w_calle hc9 rfl rfl rfl ?_
       first | first | exact lf_e (by rfl) | exact lf_i (by show iv 15 0 + m = _; rw [hC.1]) (by rw [hC.1]) | (exfalso; omega))

theorem s_X10_pass_0 {L : Nat} {iv : Nat → Nat → Int} (m : Int) {k : Nat → Int} (hk : q_KR k) (hE : q_cE k (iv 3)) (hB : q_cB k (iv 4) (iv 5) (iv 6) (iv 7) (iv 8) (iv 9)) (hS : q_cS k (iv 10) (iv 11) (iv 12) (iv 13) (iv 14)) (hC : q_cC k (iv 15) (iv 16)) (hA : q_cA k (iv 17) (iv 18) (iv 19) (iv 20)) (hO : q_cO k (iv 22) (iv 23) (iv 24)) (hL : q_cL k (iv 25)) (hP : q_cP k (iv 27)) (hcase0 : 1 ≤ m ∧ m ≤ 200) (hcase1 : ¬ q_exi (q_ovr k m) (k 2)) (hcase2 : k 4 + m ≤ 600) : pz_R (pz_Sh L) 152 [.inr (.inl 2), .inl m] iv (.inl (some (.inl (k 4 + m)))) (pz_u1 iv 15 (pz_up (iv 15) 0 (k 4 + m))) := by
  intro dv cc ss
  have hk0 := hk.r0
  have hE0 := hE
  have hB0 := hB.1
  have hS0 := hS.1
  have hC0 := hC.1
  have hA0 := hA.1
  refine pz_G_mem (iv2 := pz_u1 iv 15 (iv 15)) (by exact (pz_u1_self iv 15).symm) ?_
  show pz_G 152 0 [some (.inr (.inl 2)), some (.inl m)] [] (pz_Sh L, pz_u1 iv 15 (iv 15), dv, cc, ss) (pz_P (pz_Sh L) (.inl (some (.inl (k 4 + m)))) (pz_u1 iv 15 (pz_up (iv 15) 0 (k 4 + m))) dv cc ss)
  refine pz_G_of pz_b152_0 ?_
  refine w_loc rfl ?_
  refine w_pure rfl ?_
  refine w_pure rfl ?_
  have hc1 : pz_R (pz_Sh L) 185 [.inl m, .inl 1, .inl 200] (pz_u1 iv 15 (iv 15)) (.inl (some (.inl (pz_bi (1 ≤ m ∧ m ≤ 200))))) (pz_u1 iv 15 (iv 15)) := s_X10_isWithin m 1 200
  refine w_call hc1 rfl rfl ?_
  by_cases h2 : 1 ≤ m ∧ m ≤ 200
  · first
    | (exfalso; first | omega | contradiction)
    | (have hc3 : pz_R (pz_Sh L) 172 [.inl (pz_bi (1 ≤ m ∧ m ≤ 200))] (pz_u1 iv 15 (iv 15)) (.inl none) (pz_u1 iv 15 (iv 15)) := s_X10_needRange_y (pz_bi (1 ≤ m ∧ m ≤ 200)) (by show (pz_bi (1 ≤ m ∧ m ≤ 200)) ≠ 0; exact pz_bi_p1 h2)
       refine w_callv hc3 rfl rfl ?_
       refine w_loc rfl ?_
       refine w_getR (q := 3) is_2 rf_2_0 ?_
       refine w_getR (q := 10) is_3 rf_3_2 ?_
       refine w_loc rfl ?_
       refine w_loc rfl ?_
       refine w_getR (q := 3) is_2 rf_2_0 ?_
       refine w_getR (q := 15) is_3 rf_3_3 ?_
       have hc4 : pz_R (pz_Sh L) 120 [.inr (.inl 10), .inl m, .inr (.inl 15)] (pz_u1 iv 15 (iv 15)) (.inl (some (.inl (pz_bi (q_exi (q_ovr k m) (k 2)))))) (pz_u1 iv 15 (iv 15)) := s_X9_wouldOverrun m (by show q_KR k; exact hk) (by show q_cS k (iv 10) (iv 11) (iv 12) (iv 13) (iv 14); exact hS) (by show q_cC k (iv 15) (iv 16); exact hC) (by show 0 ≤ m ∧ m ≤ 200; omega)
       refine w_call hc4 rfl (pz_cokI is_10 rfl) ?_
       refine w_beq (fun h5 => ?_) (fun h5 => ?_)
       · first
         | (exfalso; first | omega | contradiction)
         | (refine pz_G_of pz_b152_43 ?_
            refine w_loc rfl ?_
            refine w_getR (q := 3) is_2 rf_2_0 ?_
            refine w_getR (q := 15) is_3 rf_3_3 ?_
            refine w_getI (v := (iv 15) 0) is_15 (by decide) rfl ?_
            refine w_loc rfl ?_
            refine w_iadd (by omega) ?_
            refine w_pure rfl ?_
            refine w_igt (fun h6 => ?_) (fun h6 => ?_)
            · first
              | (exfalso; first | omega | contradiction)
              | (refine pz_G_of pz_b152_65 ?_
                 refine w_pure rfl ?_
                 refine w_nil ?_
                 refine pz_G_of pz_b152_66 ?_
                 have hc7 : pz_R (pz_Sh L) 173 [.inl 0] (pz_u1 iv 15 (iv 15)) (.inr 0) (pz_u1 iv 15 (iv 15)) := s_X10_needState_n 0 (by show 0 = 0; omega)
                 refine w_calle hc7 rfl rfl rfl ?_
                 first | first | exact lf_e (by rfl) | exact lf_i (by show iv 15 0 + m = _; rw [hC.1]) (by rw [hC.1]) | (exfalso; omega))
            · first
              | (exfalso; first | omega | contradiction)
              | (refine w_pure rfl ?_
                 refine w_goto ?_
                 refine pz_G_of pz_b152_66 ?_
                 have hc8 : pz_R (pz_Sh L) 173 [.inl 1] (pz_u1 iv 15 (iv 15)) (.inl none) (pz_u1 iv 15 (iv 15)) := s_X10_needState_y 1 (by show 1 ≠ 0; omega)
                 refine w_callv hc8 rfl rfl ?_
                 refine w_loc rfl ?_
                 refine w_getR (q := 3) is_2 rf_2_0 ?_
                 refine w_getR (q := 15) is_3 rf_3_3 ?_
                 refine w_pure rfl ?_
                 refine w_getI (v := (iv 15) 0) is_15 (by decide) rfl ?_
                 refine w_loc rfl ?_
                 refine w_iadd (by omega) ?_
                 refine w_putIm (iv2 := pz_u1 iv 15 (pz_up (iv 15) 0 (((iv 15) 0) + m))) is_15 pz_fit0 (by exact pz_u2_top _ _ _ _ _) ?_
                 refine w_loc rfl ?_
                 refine w_getR (q := 3) is_2 rf_2_0 ?_
                 refine w_getR (q := 15) is_3 rf_3_3 ?_
                 refine w_getI (v := ((iv 15) 0) + m) is_15 (by decide) rfl ?_
                 refine w_ret rfl ?_
                 first | first | exact lf_e (by rfl) | exact lf_i (by show iv 15 0 + m = _; rw [hC.1]) (by rw [hC.1]) | (exfalso; omega)))
       · first
         | (exfalso; first | omega | contradiction)
         | (refine w_thr (by decide) ?_
            first | first | exact lf_e (by rfl) | exact lf_i (by show iv 15 0 + m = _; rw [hC.1]) (by rw [hC.1]) | (exfalso; omega)))
  · first
    | (exfalso; first | omega | contradiction)
    | (have hc9 : pz_R (pz_Sh L) 172 [.inl (pz_bi (1 ≤ m ∧ m ≤ 200))] (pz_u1 iv 15 (iv 15)) (.inr 1) (pz_u1 iv 15 (iv 15)) := s_X10_needRange_n (pz_bi (1 ≤ m ∧ m ≤ 200)) (by show (pz_bi (1 ≤ m ∧ m ≤ 200)) = 0; exact pz_bi_0 h2)
       refine w_calle hc9 rfl rfl rfl ?_
       first | first | exact lf_e (by rfl) | exact lf_i (by show iv 15 0 + m = _; rw [hC.1]) (by rw [hC.1]) | (exfalso; omega))
