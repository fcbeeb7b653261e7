
theorem s_X10_needPlayable_1 {L : Nat} {iv : Nat → Nat → Int} (p : Int) {k : Nat → Int} (hk : q_KR k) (hE : q_cE k (iv 3)) (hB : q_cB k (iv 4) (iv 5) (iv 6) (iv 7) (iv 8) (iv 9)) (hS : q_cS k (iv 10) (iv 11) (iv 12) (iv 13) (iv 14)) (hC : q_cC k (iv 15) (iv 16)) (hA : q_cA k (iv 17) (iv 18) (iv 19) (iv 20)) (hO : q_cO k (iv 22) (iv 23) (iv 24)) (hL : q_cL k (iv 25)) (hP : q_cP k (iv 27)) (hci : q_CI k (iv 2) (iv 138) (iv 139) (iv 140) (iv 142) (iv 143) (iv 145) (iv 129) (iv 135)) (hcase0 : ¬ (0 ≤ p ∧ p ≤ q_p2 (k 2) - 1)) : pz_R (pz_Sh L) 174 [.inr (.inl 2), .inl p] iv (.inr 1) iv := by
  intro dv cc ss
  have hk0 := hk.r0
  have hE0 := hE
  have hB0 := hB.1
  have hS0 := hS.1
  have hC0 := hC.1
  have hA0 := hA.1
  have hsh := q_shl_p2 (a := k 2) (by omega) (by omega)
  have hp2 := q_p2_r (a := k 2) (by omega) (by omega)
  have hp3 := q_p2_le (a := k 2) (b := 3) (by omega) (by omega)
  have hp8 : q_p2 3 = 8 := rfl
  have hsc : pz_shl 1 (iv 10 0) = q_p2 (k 2) := by
    rw [hS.1]; exact hsh
  show pz_G 174 0 [some (.inr (.inl 2)), some (.inl p)] [] (pz_Sh L, iv, dv, cc, ss) (pz_P (pz_Sh L) (.inr 1) iv dv cc ss)
  refine pz_G_of pz_b174_0 ?_
  refine w_loc rfl ?_
  refine w_pure rfl ?_
  refine w_loc rfl ?_
  refine w_getR (q := 3) is_2 rf_2_0 ?_
  refine w_getR (q := 10) is_3 rf_3_2 ?_
  refine w_getI (v := (iv 10) 0) is_10 (by decide) rfl ?_
  have hc1 : pz_R (pz_Sh L) 186 [.inl ((iv 10) 0)] (iv) (.inl (some (.inl (pz_shl 1 ((iv 10) 0))))) (iv) := s_X10_bit ((iv 10) 0)
  refine w_call hc1 rfl rfl ?_
  refine w_pure rfl ?_
  refine w_isub (by omega) ?_
  have hc2 : pz_R (pz_Sh L) 185 [.inl p, .inl 0, .inl ((pz_shl 1 ((iv 10) 0)) - 1)] (iv) (.inl (some (.inl (pz_bi (0 ≤ p ∧ p ≤ ((pz_shl 1 ((iv 10) 0)) - 1)))))) (iv) := s_X10_isWithin p 0 ((pz_shl 1 ((iv 10) 0)) - 1)
  refine w_call hc2 rfl rfl ?_
  by_cases h3 : 0 ≤ p ∧ p ≤ ((pz_shl 1 ((iv 10) 0)) - 1)
  · first
    | (exfalso; first | omega | contradiction)
    | (have hc4 : pz_R (pz_Sh L) 172 [.inl (pz_bi (0 ≤ p ∧ p ≤ ((pz_shl 1 ((iv 10) 0)) - 1)))] (iv) (.inl none) (iv) := s_X10_needRange_y (pz_bi (0 ≤ p ∧ p ≤ ((pz_shl 1 ((iv 10) 0)) - 1))) (by exact pz_bi_p1 h3)
       refine w_callv hc4 rfl rfl ?_
       refine w_loc rfl ?_
       refine w_getR (q := 3) is_2 rf_2_0 ?_
       refine w_getR (q := 15) is_3 rf_3_3 ?_
       have hc5 : pz_R (pz_Sh L) 27 [.inr (.inl 15)] (iv) (.inl (some (.inl (pz_bi (q_exi (fun i => 1 ≤ i ∧ q_sta k i) (k 0)))))) (iv) := s_X2_hasStartedAny (by exact hk) (by exact hC)
       refine w_call hc5 rfl (pz_cokI is_15 rfl) ?_
       refine w_bne (fun h6 => ?_) (fun h6 => ?_)
       · first
         | (exfalso; first | omega | contradiction)
         | (refine pz_G_of pz_b174_40 ?_
            refine w_pure rfl ?_
            refine w_nil ?_
            refine pz_G_of pz_b174_41 ?_
            have hc7 : pz_R (pz_Sh L) 173 [.inl 0] (iv) (.inr 0) (iv) := s_X10_needState_n 0 (by omega)
            refine w_calle hc7 rfl rfl rfl ?_
            first | exact lf_e (by rfl) | (exfalso; omega))
       · first
         | (exfalso; first | omega | contradiction)
         | (refine w_pure rfl ?_
            refine w_goto ?_
            refine pz_G_of pz_b174_41 ?_
            have hc8 : pz_R (pz_Sh L) 173 [.inl 1] (iv) (.inl none) (iv) := s_X10_needState_y 1 (by omega)
            refine w_callv hc8 rfl rfl ?_
            refine w_loc rfl ?_
            have hc9 : pz_RE (pz_Sh L) 181 [.inr (.inl 2)] (iv) (.inl (some (.inr (.inl 142)))) _ := s_X10_knownReductions (L := L) (iv := iv) (by exact hk) (by exact hE) (by exact hB) (by exact hS) (by exact hC) (by exact hL) (by exact hci)
            refine w_callE hc9 rfl (pz_cokI is_2 rfl) (fun iv9 h9 => ?_)
            obtain ⟨o9_10, l9_11, n9_12, w9_13, d9_14, m9_15, V9_16, W9_17, U9_18, Y9_19, p9_20, q9_21, r9_22, h9e, hci, hRK, ho2⟩ := h9
            have h9x : iv9 = pz_u1 (pz_u1 (pz_u1 (pz_u1 (pz_u1 (pz_u1 (pz_u1 (pz_u1 (pz_u1 (pz_u1 (pz_u1 (pz_u1 (pz_u1 iv 2 o9_10) 134 l9_11) 138 n9_12) 139 w9_13) 140 d9_14) 142 m9_15) 143 V9_16) 144 W9_17) 145 U9_18) 146 Y9_19) 147 p9_20) 148 q9_21) 149 r9_22 := h9e.trans (by rw [pz_u1_top (r := 2)]; rw [pz_u1_top (r := 134)]; rw [pz_u1_top (r := 138)]; rw [pz_u1_top (r := 139)]; rw [pz_u1_top (r := 140)]; rw [pz_u1_top (r := 142)]; rw [pz_u1_top (r := 143)]; rw [pz_u1_top (r := 144)]; rw [pz_u1_top (r := 145)]; rw [pz_u1_top (r := 146)]; rw [pz_u1_top (r := 147)]; rw [pz_u1_top (r := 148)]; rw [pz_u1_top (r := 149)] <;> rfl)
            subst h9x
            clear h9e hc9
            replace hci : q_CI k o9_10 n9_12 w9_13 d9_14 m9_15 V9_16 U9_18 (iv 129) (iv 135) := hci
            replace hRK : q_RK k m9_15 V9_16 U9_18 := hRK
            replace ho2 : o9_10 2 = (iv 2) 2 := ho2
            refine w_getI (v := m9_15 1) is_142 (by decide) rfl ?_
            by_cases h23 : (m9_15 1) ≠ 0
            · first
              | (exfalso; first | omega | contradiction)
              | (have hc24 : pz_R (pz_Sh L) 173 [.inl (m9_15 1)] (pz_u1 (pz_u1 (pz_u1 (pz_u1 (pz_u1 (pz_u1 (pz_u1 (pz_u1 (pz_u1 (pz_u1 (pz_u1 (pz_u1 (pz_u1 iv 2 o9_10) 134 l9_11) 138 n9_12) 139 w9_13) 140 d9_14) 142 m9_15) 143 V9_16) 144 W9_17) 145 U9_18) 146 Y9_19) 147 p9_20) 148 q9_21) 149 r9_22) (.inl none) (pz_u1 (pz_u1 (pz_u1 (pz_u1 (pz_u1 (pz_u1 (pz_u1 (pz_u1 (pz_u1 (pz_u1 (pz_u1 (pz_u1 (pz_u1 iv 2 o9_10) 134 l9_11) 138 n9_12) 139 w9_13) 140 d9_14) 142 m9_15) 143 V9_16) 144 W9_17) 145 U9_18) 146 Y9_19) 147 p9_20) 148 q9_21) 149 r9_22) := s_X10_needState_y (m9_15 1) (by show (m9_15 1) ≠ 0; exact h23)
                 refine w_callv hc24 rfl rfl ?_
                 refine w_vret ?_
                 first | exact lf_v (by rfl) | (exfalso; omega))
            · first
              | (exfalso; first | omega | contradiction)
              | (have hc25 : pz_R (pz_Sh L) 173 [.inl (m9_15 1)] (pz_u1 (pz_u1 (pz_u1 (pz_u1 (pz_u1 (pz_u1 (pz_u1 (pz_u1 (pz_u1 (pz_u1 (pz_u1 (pz_u1 (pz_u1 iv 2 o9_10) 134 l9_11) 138 n9_12) 139 w9_13) 140 d9_14) 142 m9_15) 143 V9_16) 144 W9_17) 145 U9_18) 146 Y9_19) 147 p9_20) 148 q9_21) 149 r9_22) (.inr 0) (pz_u1 (pz_u1 (pz_u1 (pz_u1 (pz_u1 (pz_u1 (pz_u1 (pz_u1 (pz_u1 (pz_u1 (pz_u1 (pz_u1 (pz_u1 iv 2 o9_10) 134 l9_11) 138 n9_12) 139 w9_13) 140 d9_14) 142 m9_15) 143 V9_16) 144 W9_17) 145 U9_18) 146 Y9_19) 147 p9_20) 148 q9_21) 149 r9_22) := s_X10_needState_n (m9_15 1) (by show (m9_15 1) = 0; exact Classical.not_not.mp h23)
                 refine w_calle hc25 rfl rfl rfl ?_
                 first | exact lf_e (by rfl) | (exfalso; omega))))
  · first
    | (exfalso; first | omega | contradiction)
    | (have hc26 : pz_R (pz_Sh L) 172 [.inl (pz_bi (0 ≤ p ∧ p ≤ ((pz_shl 1 ((iv 10) 0)) - 1)))] (iv) (.inr 1) (iv) := s_X10_needRange_n (pz_bi (0 ≤ p ∧ p ≤ ((pz_shl 1 ((iv 10) 0)) - 1))) (by exact pz_bi_0 h3)
       refine w_calle hc26 rfl rfl rfl ?_
       first | exact lf_e (by rfl) | (exfalso; omega))

theorem s_X10_needPlayable_2a {L : Nat} {iv : Nat → Nat → Int} (p : Int) {k : Nat → Int} (hk : q_KR k) (hE : q_cE k (iv 3)) (hB : q_cB k (iv 4) (iv 5) (iv 6) (iv 7) (iv 8) (iv 9)) (hS : q_cS k (iv 10) (iv 11) (iv 12) (iv 13) (iv 14)) (hC : q_cC k (iv 15) (iv 16)) (hA : q_cA k (iv 17) (iv 18) (iv 19) (iv 20)) (hO : q_cO k (iv 22) (iv 23) (iv 24)) (hL : q_cL k (iv 25)) (hP : q_cP k (iv 27)) (hci : q_CI k (iv 2) (iv 138) (iv 139) (iv 140) (iv 142) (iv 143) (iv 145) (iv 129) (iv 135)) (hcase0 : 0 ≤ p ∧ p ≤ q_p2 (k 2) - 1) (hcase1 : q_exi (fun i => 1 ≤ i ∧ q_sta k i) (k 0)) : pz_R (pz_Sh L) 174 [.inr (.inl 2), .inl p] iv (.inr 0) iv := by
  intro dv cc ss
  have hk0 := hk.r0
  have hE0 := hE
  have hB0 := hB.1
  have hS0 := hS.1
  have hC0 := hC.1
  have hA0 := hA.1
  have hsh := q_shl_p2 (a := k 2) (by omega) (by omega)
  have hp2 := q_p2_r (a := k 2) (by omega) (by omega)
  have hp3 := q_p2_le (a := k 2) (b := 3) (by omega) (by omega)
  have hp8 : q_p2 3 = 8 := rfl
  have hsc : pz_shl 1 (iv 10 0) = q_p2 (k 2) := by
    rw [hS.1]; exact hsh
  show pz_G 174 0 [some (.inr (.inl 2)), some (.inl p)] [] (pz_Sh L, iv, dv, cc, ss) (pz_P (pz_Sh L) (.inr 0) iv dv cc ss)
  refine pz_G_of pz_b174_0 ?_
  refine w_loc rfl ?_
  refine w_pure rfl ?_
  refine w_loc rfl ?_
  refine w_getR (q := 3) is_2 rf_2_0 ?_
  refine w_getR (q := 10) is_3 rf_3_2 ?_
  refine w_getI (v := (iv 10) 0) is_10 (by decide) rfl ?_
  have hc1 : pz_R (pz_Sh L) 186 [.inl ((iv 10) 0)] (iv) (.inl (some (.inl (pz_shl 1 ((iv 10) 0))))) (iv) := s_X10_bit ((iv 10) 0)
  refine w_call hc1 rfl rfl ?_
  refine w_pure rfl ?_
  refine w_isub (by omega) ?_
  have hc2 : pz_R (pz_Sh L) 185 [.inl p, .inl 0, .inl ((pz_shl 1 ((iv 10) 0)) - 1)] (iv) (.inl (some (.inl (pz_bi (0 ≤ p ∧ p ≤ ((pz_shl 1 ((iv 10) 0)) - 1)))))) (iv) := s_X10_isWithin p 0 ((pz_shl 1 ((iv 10) 0)) - 1)
  refine w_call hc2 rfl rfl ?_
  by_cases h3 : 0 ≤ p ∧ p ≤ ((pz_shl 1 ((iv 10) 0)) - 1)
  · first
    | (exfalso; first | omega | contradiction)
    | (have hc4 : pz_R (pz_Sh L) 172 [.inl (pz_bi (0 ≤ p ∧ p ≤ ((pz_shl 1 ((iv 10) 0)) - 1)))] (iv) (.inl none) (iv) := s_X10_needRange_y (pz_bi (0 ≤ p ∧ p ≤ ((pz_shl 1 ((iv 10) 0)) - 1))) (by exact pz_bi_p1 h3)
       refine w_callv hc4 rfl rfl ?_
       refine w_loc rfl ?_
       refine w_getR (q := 3) is_2 rf_2_0 ?_
       refine w_getR (q := 15) is_3 rf_3_3 ?_
       have hc5 : pz_R (pz_Sh L) 27 [.inr (.inl 15)] (iv) (.inl (some (.inl (pz_bi (q_exi (fun i => 1 ≤ i ∧ q_sta k i) (k 0)))))) (iv) := s_X2_hasStartedAny (by exact hk) (by exact hC)
       refine w_call hc5 rfl (pz_cokI is_15 rfl) ?_
       refine w_bne (fun h6 => ?_) (fun h6 => ?_)
       · first
         | (exfalso; first | omega | contradiction)
         | (refine pz_G_of pz_b174_40 ?_
            refine w_pure rfl ?_
            refine w_nil ?_
            refine pz_G_of pz_b174_41 ?_
            have hc7 : pz_R (pz_Sh L) 173 [.inl 0] (iv) (.inr 0) (iv) := s_X10_needState_n 0 (by omega)
            refine w_calle hc7 rfl rfl rfl ?_
            first | exact lf_e (by rfl) | (exfalso; omega))
       · first
         | (exfalso; first | omega | contradiction)
         | (refine w_pure rfl ?_
            refine w_goto ?_
            refine pz_G_of pz_b174_41 ?_
            have hc8 : pz_R (pz_Sh L) 173 [.inl 1] (iv) (.inl none) (iv) := s_X10_needState_y 1 (by omega)
            refine w_callv hc8 rfl rfl ?_
            refine w_loc rfl ?_
            have hc9 : pz_RE (pz_Sh L) 181 [.inr (.inl 2)] (iv) (.inl (some (.inr (.inl 142)))) _ := s_X10_knownReductions (L := L) (iv := iv) (by exact hk) (by exact hE) (by exact hB) (by exact hS) (by exact hC) (by exact hL) (by exact hci)
            refine w_callE hc9 rfl (pz_cokI is_2 rfl) (fun iv9 h9 => ?_)
            obtain ⟨o9_10, l9_11, n9_12, w9_13, d9_14, m9_15, V9_16, W9_17, U9_18, Y9_19, p9_20, q9_21, r9_22, h9e, hci, hRK, ho2⟩ := h9
            have h9x : iv9 = pz_u1 (pz_u1 (pz_u1 (pz_u1 (pz_u1 (pz_u1 (pz_u1 (pz_u1 (pz_u1 (pz_u1 (pz_u1 (pz_u1 (pz_u1 iv 2 o9_10) 134 l9_11) 138 n9_12) 139 w9_13) 140 d9_14) 142 m9_15) 143 V9_16) 144 W9_17) 145 U9_18) 146 Y9_19) 147 p9_20) 148 q9_21) 149 r9_22 := h9e.trans (by rw [pz_u1_top (r := 2)]; rw [pz_u1_top (r := 134)]; rw [pz_u1_top (r := 138)]; rw [pz_u1_top (r := 139)]; rw [pz_u1_top (r := 140)]; rw [pz_u1_top (r := 142)]; rw [pz_u1_top (r := 143)]; rw [pz_u1_top (r := 144)]; rw [pz_u1_top (r := 145)]; rw [pz_u1_top (r := 146)]; rw [pz_u1_top (r := 147)]; rw [pz_u1_top (r := 148)]; rw [pz_u1_top (r := 149)] <;> rfl)
            subst h9x
            clear h9e hc9
            replace hci : q_CI k o9_10 n9_12 w9_13 d9_14 m9_15 V9_16 U9_18 (iv 129) (iv 135) := hci
            replace hRK : q_RK k m9_15 V9_16 U9_18 := hRK
            replace ho2 : o9_10 2 = (iv 2) 2 := ho2
            refine w_getI (v := m9_15 1) is_142 (by decide) rfl ?_
            by_cases h23 : (m9_15 1) ≠ 0
            · first
              | (exfalso; first | omega | contradiction)
              | (have hc24 : pz_R (pz_Sh L) 173 [.inl (m9_15 1)] (pz_u1 (pz_u1 (pz_u1 (pz_u1 (pz_u1 (pz_u1 (pz_u1 (pz_u1 (pz_u1 (pz_u1 (pz_u1 (pz_u1 (pz_u1 iv 2 o9_10) 134 l9_11) 138 n9_12) 139 w9_13) 140 d9_14) 142 m9_15) 143 V9_16) 144 W9_17) 145 U9_18) 146 Y9_19) 147 p9_20) 148 q9_21) 149 r9_22) (.inl none) (pz_u1 (pz_u1 (pz_u1 (pz_u1 (pz_u1 (pz_u1 (pz_u1 (pz_u1 (pz_u1 (pz_u1 (pz_u1 (pz_u1 (pz_u1 iv 2 o9_10) 134 l9_11) 138 n9_12) 139 w9_13) 140 d9_14) 142 m9_15) 143 V9_16) 144 W9_17) 145 U9_18) 146 Y9_19) 147 p9_20) 148 q9_21) 149 r9_22) := s_X10_needState_y (m9_15 1) (by show (m9_15 1) ≠ 0; exact h23)
                 refine w_callv hc24 rfl rfl ?_
                 refine w_vret ?_
                 first | exact lf_v (by rfl) | (exfalso; omega))
            · first
              | (exfalso; first | omega | contradiction)
              | (have hc25 : pz_R (pz_Sh L) 173 [.inl (m9_15 1)] (pz_u1 (pz_u1 (pz_u1 (pz_u1 (pz_u1 (pz_u1 (pz_u1 (pz_u1 (pz_u1 (pz_u1 (pz_u1 (pz_u1 (pz_u1 iv 2 o9_10) 134 l9_11) 138 n9_12) 139 w9_13) 140 d9_14) 142 m9_15) 143 V9_16) 144 W9_17) 145 U9_18) 146 Y9_19) 147 p9_20) 148 q9_21) 149 r9_22) (.inr 0) (pz_u1 (pz_u1 (pz_u1 (pz_u1 (pz_u1 (pz_u1 (pz_u1 (pz_u1 (pz_u1 (pz_u1 (pz_u1 (pz_u1 (pz_u1 iv 2 o9_10) 134 l9_11) 138 n9_12) 139 w9_13) 140 d9_14) 142 m9_15) 143 V9_16) 144 W9_17) 145 U9_18) 146 Y9_19) 147 p9_20) 148 q9_21) 149 r9_22) := s_X10_needState_n (m9_15 1) (by show (m9_15 1) = 0; exact Classical.not_not.mp h23)
                 refine w_calle hc25 rfl rfl rfl ?_
                 first | exact lf_e (by rfl) | (exfalso; omega))))
  · first
    | (exfalso; first | omega | contradiction)
    | (have hc26 : pz_R (pz_Sh L) 172 [.inl (pz_bi (0 ≤ p ∧ p ≤ ((pz_shl 1 ((iv 10) 0)) - 1)))] (iv) (.inr 1) (iv) := s_X10_needRange_n (pz_bi (0 ≤ p ∧ p ≤ ((pz_shl 1 ((iv 10) 0)) - 1))) (by exact pz_bi_0 h3)
       refine w_calle hc26 rfl rfl rfl ?_
       first | exact lf_e (by rfl) | (exfalso; omega))

theorem s_X10_needPlayable_2b {L : Nat} {iv : Nat → Nat → Int} (p : Int) {k : Nat → Int} (hk : q_KR k) (hE : q_cE k (iv 3)) (hB : q_cB k (iv 4) (iv 5) (iv 6) (iv 7) (iv 8) (iv 9)) (hS : q_cS k (iv 10) (iv 11) (iv 12) (iv 13) (iv 14)) (hC : q_cC k (iv 15) (iv 16)) (hA : q_cA k (iv 17) (iv 18) (iv 19) (iv 20)) (hO : q_cO k (iv 22) (iv 23) (iv 24)) (hL : q_cL k (iv 25)) (hP : q_cP k (iv 27)) (hci : q_CI k (iv 2) (iv 138) (iv 139) (iv 140) (iv 142) (iv 143) (iv 145) (iv 129) (iv 135)) (hcase0 : 0 ≤ p ∧ p ≤ q_p2 (k 2) - 1) (hcase1 : ¬ q_exi (fun i => 1 ≤ i ∧ q_sta k i) (k 0)) (hcase2 : ¬ q_sen k) : pz_RE (pz_Sh L) 174 [.inr (.inl 2), .inl p] iv (.inr 0) (fun iv9 => ∃ (o9 : Nat → Int) (l9 : Nat → Int) (n9 : Nat → Int) (w9 : Nat → Int) (d9 : Nat → Int) (m9 : Nat → Int) (V9 : Nat → Int) (W9 : Nat → Int) (U9 : Nat → Int) (Y9 : Nat → Int) (p9 : Nat → Int) (q9 : Nat → Int) (r9 : Nat → Int), iv9 = pz_u1 (pz_u1 (pz_u1 (pz_u1 (pz_u1 (pz_u1 (pz_u1 (pz_u1 (pz_u1 (pz_u1 (pz_u1 (pz_u1 (pz_u1 iv 2 o9) 134 l9) 138 n9) 139 w9) 140 d9) 142 m9) 143 V9) 144 W9) 145 U9) 146 Y9) 147 p9) 148 q9) 149 r9 ∧ (q_CI k o9 n9 w9 d9 m9 V9 U9 (iv 129) (iv 135)) ∧ (o9 2 = (iv 2) 2)) := by
  intro dv cc ss
  have hk0 := hk.r0
  have hE0 := hE
  have hB0 := hB.1
  have hS0 := hS.1
  have hC0 := hC.1
  have hA0 := hA.1
  have hsh := q_shl_p2 (a := k 2) (by omega) (by omega)
  have hp2 := q_p2_r (a := k 2) (by omega) (by omega)
  have hp3 := q_p2_le (a := k 2) (b := 3) (by omega) (by omega)
  have hp8 : q_p2 3 = 8 := rfl
  have hsc : pz_shl 1 (iv 10 0) = q_p2 (k 2) := by
    rw [hS.1]; exact hsh
  refine pz_G_mem (iv2 := pz_u1 (pz_u1 (pz_u1 (pz_u1 (pz_u1 (pz_u1 (pz_u1 (pz_u1 (pz_u1 (pz_u1 (pz_u1 (pz_u1 (pz_u1 iv 2 (iv 2)) 134 (iv 134)) 138 (iv 138)) 139 (iv 139)) 140 (iv 140)) 142 (iv 142)) 143 (iv 143)) 144 (iv 144)) 145 (iv 145)) 146 (iv 146)) 147 (iv 147)) 148 (iv 148)) 149 (iv 149)) (by exact (((((((((((((pz_u1_self iv 2).symm).trans (pz_u1_self (pz_u1 iv 2 (iv 2)) 134).symm).trans (pz_u1_self (pz_u1 (pz_u1 iv 2 (iv 2)) 134 (iv 134)) 138).symm).trans (pz_u1_self (pz_u1 (pz_u1 (pz_u1 iv 2 (iv 2)) 134 (iv 134)) 138 (iv 138)) 139).symm).trans (pz_u1_self (pz_u1 (pz_u1 (pz_u1 (pz_u1 iv 2 (iv 2)) 134 (iv 134)) 138 (iv 138)) 139 (iv 139)) 140).symm).trans (pz_u1_self (pz_u1 (pz_u1 (pz_u1 (pz_u1 (pz_u1 iv 2 (iv 2)) 134 (iv 134)) 138 (iv 138)) 139 (iv 139)) 140 (iv 140)) 142).symm).trans (pz_u1_self (pz_u1 (pz_u1 (pz_u1 (pz_u1 (pz_u1 (pz_u1 iv 2 (iv 2)) 134 (iv 134)) 138 (iv 138)) 139 (iv 139)) 140 (iv 140)) 142 (iv 142)) 143).symm).trans (pz_u1_self (pz_u1 (pz_u1 (pz_u1 (pz_u1 (pz_u1 (pz_u1 (pz_u1 iv 2 (iv 2)) 134 (iv 134)) 138 (iv 138)) 139 (iv 139)) 140 (iv 140)) 142 (iv 142)) 143 (iv 143)) 144).symm).trans (pz_u1_self (pz_u1 (pz_u1 (pz_u1 (pz_u1 (pz_u1 (pz_u1 (pz_u1 (pz_u1 iv 2 (iv 2)) 134 (iv 134)) 138 (iv 138)) 139 (iv 139)) 140 (iv 140)) 142 (iv 142)) 143 (iv 143)) 144 (iv 144)) 145).symm).trans (pz_u1_self (pz_u1 (pz_u1 (pz_u1 (pz_u1 (pz_u1 (pz_u1 (pz_u1 (pz_u1 (pz_u1 iv 2 (iv 2)) 134 (iv 134)) 138 (iv 138)) 139 (iv 139)) 140 (iv 140)) 142 (iv 142)) 143 (iv 143)) 144 (iv 144)) 145 (iv 145)) 146).symm).trans (pz_u1_self (pz_u1 (pz_u1 (pz_u1 (pz_u1 (pz_u1 (pz_u1 (pz_u1 (pz_u1 (pz_u1 (pz_u1 iv 2 (iv 2)) 134 (iv 134)) 138 (iv 138)) 139 (iv 139)) 140 (iv 140)) 142 (iv 142)) 143 (iv 143)) 144 (iv 144)) 145 (iv 145)) 146 (iv 146)) 147).symm).trans (pz_u1_self (pz_u1 (pz_u1 (pz_u1 (pz_u1 (pz_u1 (pz_u1 (pz_u1 (pz_u1 (pz_u1 (pz_u1 (pz_u1 iv 2 (iv 2)) 134 (iv 134)) 138 (iv 138)) 139 (iv 139)) 140 (iv 140)) 142 (iv 142)) 143 (iv 143)) 144 (iv 144)) 145 (iv 145)) 146 (iv 146)) 147 (iv 147)) 148).symm).trans (pz_u1_self (pz_u1 (pz_u1 (pz_u1 (pz_u1 (pz_u1 (pz_u1 (pz_u1 (pz_u1 (pz_u1 (pz_u1 (pz_u1 (pz_u1 iv 2 (iv 2)) 134 (iv 134)) 138 (iv 138)) 139 (iv 139)) 140 (iv 140)) 142 (iv 142)) 143 (iv 143)) 144 (iv 144)) 145 (iv 145)) 146 (iv 146)) 147 (iv 147)) 148 (iv 148)) 149).symm) ?_
  show pz_G 174 0 [some (.inr (.inl 2)), some (.inl p)] [] (pz_Sh L, pz_u1 (pz_u1 (pz_u1 (pz_u1 (pz_u1 (pz_u1 (pz_u1 (pz_u1 (pz_u1 (pz_u1 (pz_u1 (pz_u1 (pz_u1 iv 2 (iv 2)) 134 (iv 134)) 138 (iv 138)) 139 (iv 139)) 140 (iv 140)) 142 (iv 142)) 143 (iv 143)) 144 (iv 144)) 145 (iv 145)) 146 (iv 146)) 147 (iv 147)) 148 (iv 148)) 149 (iv 149), dv, cc, ss) (pz_PE (pz_Sh L) (.inr 0) (fun iv9 => ∃ (o9 : Nat → Int) (l9 : Nat → Int) (n9 : Nat → Int) (w9 : Nat → Int) (d9 : Nat → Int) (m9 : Nat → Int) (V9 : Nat → Int) (W9 : Nat → Int) (U9 : Nat → Int) (Y9 : Nat → Int) (p9 : Nat → Int) (q9 : Nat → Int) (r9 : Nat → Int), iv9 = pz_u1 (pz_u1 (pz_u1 (pz_u1 (pz_u1 (pz_u1 (pz_u1 (pz_u1 (pz_u1 (pz_u1 (pz_u1 (pz_u1 (pz_u1 iv 2 o9) 134 l9) 138 n9) 139 w9) 140 d9) 142 m9) 143 V9) 144 W9) 145 U9) 146 Y9) 147 p9) 148 q9) 149 r9 ∧ (q_CI k o9 n9 w9 d9 m9 V9 U9 (iv 129) (iv 135)) ∧ (o9 2 = (iv 2) 2)) dv cc ss)
  refine pz_G_of pz_b174_0 ?_
  refine w_loc rfl ?_
  refine w_pure rfl ?_
  refine w_loc rfl ?_
  refine w_getR (q := 3) is_2 rf_2_0 ?_
  refine w_getR (q := 10) is_3 rf_3_2 ?_
  refine w_getI (v := (iv 10) 0) is_10 (by decide) rfl ?_
  have hc1 : pz_R (pz_Sh L) 186 [.inl ((iv 10) 0)] (pz_u1 (pz_u1 (pz_u1 (pz_u1 (pz_u1 (pz_u1 (pz_u1 (pz_u1 (pz_u1 (pz_u1 (pz_u1 (pz_u1 (pz_u1 iv 2 (iv 2)) 134 (iv 134)) 138 (iv 138)) 139 (iv 139)) 140 (iv 140)) 142 (iv 142)) 143 (iv 143)) 144 (iv 144)) 145 (iv 145)) 146 (iv 146)) 147 (iv 147)) 148 (iv 148)) 149 (iv 149)) (.inl (some (.inl (pz_shl 1 ((iv 10) 0))))) (pz_u1 (pz_u1 (pz_u1 (pz_u1 (pz_u1 (pz_u1 (pz_u1 (pz_u1 (pz_u1 (pz_u1 (pz_u1 (pz_u1 (pz_u1 iv 2 (iv 2)) 134 (iv 134)) 138 (iv 138)) 139 (iv 139)) 140 (iv 140)) 142 (iv 142)) 143 (iv 143)) 144 (iv 144)) 145 (iv 145)) 146 (iv 146)) 147 (iv 147)) 148 (iv 148)) 149 (iv 149)) := s_X10_bit ((iv 10) 0)
  refine w_call hc1 rfl rfl ?_
  refine w_pure rfl ?_
  refine w_isub (by omega) ?_
  have hc2 : pz_R (pz_Sh L) 185 [.inl p, .inl 0, .inl ((pz_shl 1 ((iv 10) 0)) - 1)] (pz_u1 (pz_u1 (pz_u1 (pz_u1 (pz_u1 (pz_u1 (pz_u1 (pz_u1 (pz_u1 (pz_u1 (pz_u1 (pz_u1 (pz_u1 iv 2 (iv 2)) 134 (iv 134)) 138 (iv 138)) 139 (iv 139)) 140 (iv 140)) 142 (iv 142)) 143 (iv 143)) 144 (iv 144)) 145 (iv 145)) 146 (iv 146)) 147 (iv 147)) 148 (iv 148)) 149 (iv 149)) (.inl (some (.inl (pz_bi (0 ≤ p ∧ p ≤ ((pz_shl 1 ((iv 10) 0)) - 1)))))) (pz_u1 (pz_u1 (pz_u1 (pz_u1 (pz_u1 (pz_u1 (pz_u1 (pz_u1 (pz_u1 (pz_u1 (pz_u1 (pz_u1 (pz_u1 iv 2 (iv 2)) 134 (iv 134)) 138 (iv 138)) 139 (iv 139)) 140 (iv 140)) 142 (iv 142)) 143 (iv 143)) 144 (iv 144)) 145 (iv 145)) 146 (iv 146)) 147 (iv 147)) 148 (iv 148)) 149 (iv 149)) := s_X10_isWithin p 0 ((pz_shl 1 ((iv 10) 0)) - 1)
  refine w_call hc2 rfl rfl ?_
  by_cases h3 : 0 ≤ p ∧ p ≤ ((pz_shl 1 ((iv 10) 0)) - 1)
  · first
    | (exfalso; first | omega | contradiction)
    | (have hc4 : pz_R (pz_Sh L) 172 [.inl (pz_bi (0 ≤ p ∧ p ≤ ((pz_shl 1 ((iv 10) 0)) - 1)))] (pz_u1 (pz_u1 (pz_u1 (pz_u1 (pz_u1 (pz_u1 (pz_u1 (pz_u1 (pz_u1 (pz_u1 (pz_u1 (pz_u1 (pz_u1 iv 2 (iv 2)) 134 (iv 134)) 138 (iv 138)) 139 (iv 139)) 140 (iv 140)) 142 (iv 142)) 143 (iv 143)) 144 (iv 144)) 145 (iv 145)) 146 (iv 146)) 147 (iv 147)) 148 (iv 148)) 149 (iv 149)) (.inl none) (pz_u1 (pz_u1 (pz_u1 (pz_u1 (pz_u1 (pz_u1 (pz_u1 (pz_u1 (pz_u1 (pz_u1 (pz_u1 (pz_u1 (pz_u1 iv 2 (iv 2)) 134 (iv 134)) 138 (iv 138)) 139 (iv 139)) 140 (iv 140)) 142 (iv 142)) 143 (iv 143)) 144 (iv 144)) 145 (iv 145)) 146 (iv 146)) 147 (iv 147)) 148 (iv 148)) 149 (iv 149)) := s_X10_needRange_y (pz_bi (0 ≤ p ∧ p ≤ ((pz_shl 1 ((iv 10) 0)) - 1))) (by show (pz_bi (0 ≤ p ∧ p ≤ ((pz_shl 1 ((iv 10) 0)) - 1))) ≠ 0; exact pz_bi_p1 h3)
       refine w_callv hc4 rfl rfl ?_
       refine w_loc rfl ?_
       refine w_getR (q := 3) is_2 rf_2_0 ?_
       refine w_getR (q := 15) is_3 rf_3_3 ?_
       have hc5 : pz_R (pz_Sh L) 27 [.inr (.inl 15)] (pz_u1 (pz_u1 (pz_u1 (pz_u1 (pz_u1 (pz_u1 (pz_u1 (pz_u1 (pz_u1 (pz_u1 (pz_u1 (pz_u1 (pz_u1 iv 2 (iv 2)) 134 (iv 134)) 138 (iv 138)) 139 (iv 139)) 140 (iv 140)) 142 (iv 142)) 143 (iv 143)) 144 (iv 144)) 145 (iv 145)) 146 (iv 146)) 147 (iv 147)) 148 (iv 148)) 149 (iv 149)) (.inl (some (.inl (pz_bi (q_exi (fun i => 1 ≤ i ∧ q_sta k i) (k 0)))))) (pz_u1 (pz_u1 (pz_u1 (pz_u1 (pz_u1 (pz_u1 (pz_u1 (pz_u1 (pz_u1 (pz_u1 (pz_u1 (pz_u1 (pz_u1 iv 2 (iv 2)) 134 (iv 134)) 138 (iv 138)) 139 (iv 139)) 140 (iv 140)) 142 (iv 142)) 143 (iv 143)) 144 (iv 144)) 145 (iv 145)) 146 (iv 146)) 147 (iv 147)) 148 (iv 148)) 149 (iv 149)) := s_X2_hasStartedAny (by show q_KR k; exact hk) (by show q_cC k (iv 15) (iv 16); exact hC)
       refine w_call hc5 rfl (pz_cokI is_15 rfl) ?_
       refine w_bne (fun h6 => ?_) (fun h6 => ?_)
       · first
         | (exfalso; first | omega | contradiction)
         | (refine pz_G_of pz_b174_40 ?_
            refine w_pure rfl ?_
            refine w_nil ?_
            refine pz_G_of pz_b174_41 ?_
            have hc7 : pz_R (pz_Sh L) 173 [.inl 0] (pz_u1 (pz_u1 (pz_u1 (pz_u1 (pz_u1 (pz_u1 (pz_u1 (pz_u1 (pz_u1 (pz_u1 (pz_u1 (pz_u1 (pz_u1 iv 2 (iv 2)) 134 (iv 134)) 138 (iv 138)) 139 (iv 139)) 140 (iv 140)) 142 (iv 142)) 143 (iv 143)) 144 (iv 144)) 145 (iv 145)) 146 (iv 146)) 147 (iv 147)) 148 (iv 148)) 149 (iv 149)) (.inr 0) (pz_u1 (pz_u1 (pz_u1 (pz_u1 (pz_u1 (pz_u1 (pz_u1 (pz_u1 (pz_u1 (pz_u1 (pz_u1 (pz_u1 (pz_u1 iv 2 (iv 2)) 134 (iv 134)) 138 (iv 138)) 139 (iv 139)) 140 (iv 140)) 142 (iv 142)) 143 (iv 143)) 144 (iv 144)) 145 (iv 145)) 146 (iv 146)) 147 (iv 147)) 148 (iv 148)) 149 (iv 149)) := s_X10_needState_n 0 (by show 0 = 0; omega)
            refine w_calle hc7 rfl rfl rfl ?_
            first | exact ⟨pz_u1 (pz_u1 (pz_u1 (pz_u1 (pz_u1 (pz_u1 (pz_u1 (pz_u1 (pz_u1 (pz_u1 (pz_u1 (pz_u1 (pz_u1 iv 2 (iv 2)) 134 (iv 134)) 138 (iv 138)) 139 (iv 139)) 140 (iv 140)) 142 (iv 142)) 143 (iv 143)) 144 (iv 144)) 145 (iv 145)) 146 (iv 146)) 147 (iv 147)) 148 (iv 148)) 149 (iv 149), ⟨(iv 2), (iv 134), (iv 138), (iv 139), (iv 140), (iv 142), (iv 143), (iv 144), (iv 145), (iv 146), (iv 147), (iv 148), (iv 149), by rfl, by exact hci, by exact ho2⟩, lf_e (by rfl)⟩ | (exfalso; omega))
       · first
         | (exfalso; first | omega | contradiction)
         | (refine w_pure rfl ?_
            refine w_goto ?_
            refine pz_G_of pz_b174_41 ?_
            have hc8 : pz_R (pz_Sh L) 173 [.inl 1] (pz_u1 (pz_u1 (pz_u1 (pz_u1 (pz_u1 (pz_u1 (pz_u1 (pz_u1 (pz_u1 (pz_u1 (pz_u1 (pz_u1 (pz_u1 iv 2 (iv 2)) 134 (iv 134)) 138 (iv 138)) 139 (iv 139)) 140 (iv 140)) 142 (iv 142)) 143 (iv 143)) 144 (iv 144)) 145 (iv 145)) 146 (iv 146)) 147 (iv 147)) 148 (iv 148)) 149 (iv 149)) (.inl none) (pz_u1 (pz_u1 (pz_u1 (pz_u1 (pz_u1 (pz_u1 (pz_u1 (pz_u1 (pz_u1 (pz_u1 (pz_u1 (pz_u1 (pz_u1 iv 2 (iv 2)) 134 (iv 134)) 138 (iv 138)) 139 (iv 139)) 140 (iv 140)) 142 (iv 142)) 143 (iv 143)) 144 (iv 144)) 145 (iv 145)) 146 (iv 146)) 147 (iv 147)) 148 (iv 148)) 149 (iv 149)) := s_X10_needState_y 1 (by show 1 ≠ 0; omega)
            refine w_callv hc8 rfl rfl ?_
            refine w_loc rfl ?_
            have hc9 : pz_RE (pz_Sh L) 181 [.inr (.inl 2)] (pz_u1 (pz_u1 (pz_u1 (pz_u1 (pz_u1 (pz_u1 (pz_u1 (pz_u1 (pz_u1 (pz_u1 (pz_u1 (pz_u1 (pz_u1 iv 2 (iv 2)) 134 (iv 134)) 138 (iv 138)) 139 (iv 139)) 140 (iv 140)) 142 (iv 142)) 143 (iv 143)) 144 (iv 144)) 145 (iv 145)) 146 (iv 146)) 147 (iv 147)) 148 (iv 148)) 149 (iv 149)) (.inl (some (.inr (.inl 142)))) _ := s_X10_knownReductions (L := L) (iv := pz_u1 (pz_u1 (pz_u1 (pz_u1 (pz_u1 (pz_u1 (pz_u1 (pz_u1 (pz_u1 (pz_u1 (pz_u1 (pz_u1 (pz_u1 iv 2 (iv 2)) 134 (iv 134)) 138 (iv 138)) 139 (iv 139)) 140 (iv 140)) 142 (iv 142)) 143 (iv 143)) 144 (iv 144)) 145 (iv 145)) 146 (iv 146)) 147 (iv 147)) 148 (iv 148)) 149 (iv 149)) (by show q_KR k; exact hk) (by show q_cE k (iv 3); exact hE) (by show q_cB k (iv 4) (iv 5) (iv 6) (iv 7) (iv 8) (iv 9); exact hB) (by show q_cS k (iv 10) (iv 11) (iv 12) (iv 13) (iv 14); exact hS) (by show q_cC k (iv 15) (iv 16); exact hC) (by show q_cL k (iv 25); exact hL) (by show q_CI k (iv 2) (iv 138) (iv 139) (iv 140) (iv 142) (iv 143) (iv 145) (iv 129) (iv 135); exact hci)
            refine w_callE hc9 rfl (pz_cokI is_2 rfl) (fun iv9 h9 => ?_)
            obtain ⟨o9_10, l9_11, n9_12, w9_13, d9_14, m9_15, V9_16, W9_17, U9_18, Y9_19, p9_20, q9_21, r9_22, h9e, hci, hRK, ho2⟩ := h9
            have h9x : iv9 = pz_u1 (pz_u1 (pz_u1 (pz_u1 (pz_u1 (pz_u1 (pz_u1 (pz_u1 (pz_u1 (pz_u1 (pz_u1 (pz_u1 (pz_u1 iv 2 o9_10) 134 l9_11) 138 n9_12) 139 w9_13) 140 d9_14) 142 m9_15) 143 V9_16) 144 W9_17) 145 U9_18) 146 Y9_19) 147 p9_20) 148 q9_21) 149 r9_22 := h9e.trans (by rw [pz_u1_in (r := 2) (q := 149) (by decide)]; rw [pz_u1_in (r := 2) (q := 148) (by decide)]; rw [pz_u1_in (r := 2) (q := 147) (by decide)]; rw [pz_u1_in (r := 2) (q := 146) (by decide)]; rw [pz_u1_in (r := 2) (q := 145) (by decide)]; rw [pz_u1_in (r := 2) (q := 144) (by decide)]; rw [pz_u1_in (r := 2) (q := 143) (by decide)]; rw [pz_u1_in (r := 2) (q := 142) (by decide)]; rw [pz_u1_in (r := 2) (q := 140) (by decide)]; rw [pz_u1_in (r := 2) (q := 139) (by decide)]; rw [pz_u1_in (r := 2) (q := 138) (by decide)]; rw [pz_u1_in (r := 2) (q := 134) (by decide)]; rw [pz_u1_top (r := 2)]; rw [pz_u1_in (r := 134) (q := 149) (by decide)]; rw [pz_u1_in (r := 134) (q := 148) (by decide)]; rw [pz_u1_in (r := 134) (q := 147) (by decide)]; rw [pz_u1_in (r := 134) (q := 146) (by decide)]; rw [pz_u1_in (r := 134) (q := 145) (by decide)]; rw [pz_u1_in (r := 134) (q := 144) (by decide)]; rw [pz_u1_in (r := 134) (q := 143) (by decide)]; rw [pz_u1_in (r := 134) (q := 142) (by decide)]; rw [pz_u1_in (r := 134) (q := 140) (by decide)]; rw [pz_u1_in (r := 134) (q := 139) (by decide)]; rw [pz_u1_in (r := 134) (q := 138) (by decide)]; rw [pz_u1_top (r := 134)]; rw [pz_u1_in (r := 138) (q := 149) (by decide)]; rw [pz_u1_in (r := 138) (q := 148) (by decide)]; rw [pz_u1_in (r := 138) (q := 147) (by decide)]; rw [pz_u1_in (r := 138) (q := 146) (by decide)]; rw [pz_u1_in (r := 138) (q := 145) (by decide)]; rw [pz_u1_in (r := 138) (q := 144) (by decide)]; rw [pz_u1_in (r := 138) (q := 143) (by decide)]; rw [pz_u1_in (r := 138) (q := 142) (by decide)]; rw [pz_u1_in (r := 138) (q := 140) (by decide)]; rw [pz_u1_in (r := 138) (q := 139) (by decide)]; rw [pz_u1_top (r := 138)]; rw [pz_u1_in (r := 139) (q := 149) (by decide)]; rw [pz_u1_in (r := 139) (q := 148) (by decide)]; rw [pz_u1_in (r := 139) (q := 147) (by decide)]; rw [pz_u1_in (r := 139) (q := 146) (by decide)]; rw [pz_u1_in (r := 139) (q := 145) (by decide)]; rw [pz_u1_in (r := 139) (q := 144) (by decide)]; rw [pz_u1_in (r := 139) (q := 143) (by decide)]; rw [pz_u1_in (r := 139) (q := 142) (by decide)]; rw [pz_u1_in (r := 139) (q := 140) (by decide)]; rw [pz_u1_top (r := 139)]; rw [pz_u1_in (r := 140) (q := 149) (by decide)]; rw [pz_u1_in (r := 140) (q := 148) (by decide)]; rw [pz_u1_in (r := 140) (q := 147) (by decide)]; rw [pz_u1_in (r := 140) (q := 146) (by decide)]; rw [pz_u1_in (r := 140) (q := 145) (by decide)]; rw [pz_u1_in (r := 140) (q := 144) (by decide)]; rw [pz_u1_in (r := 140) (q := 143) (by decide)]; rw [pz_u1_in (r := 140) (q := 142) (by decide)]; rw [pz_u1_top (r := 140)]; rw [pz_u1_in (r := 142) (q := 149) (by decide)]; rw [pz_u1_in (r := 142) (q := 148) (by decide)]; rw [pz_u1_in (r := 142) (q := 147) (by decide)]; rw [pz_u1_in (r := 142) (q := 146) (by decide)]; rw [pz_u1_in (r := 142) (q := 145) (by decide)]; rw [pz_u1_in (r := 142) (q := 144) (by decide)]; rw [pz_u1_in (r := 142) (q := 143) (by decide)]; rw [pz_u1_top (r := 142)]; rw [pz_u1_in (r := 143) (q := 149) (by decide)]; rw [pz_u1_in (r := 143) (q := 148) (by decide)]; rw [pz_u1_in (r := 143) (q := 147) (by decide)]; rw [pz_u1_in (r := 143) (q := 146) (by decide)]; rw [pz_u1_in (r := 143) (q := 145) (by decide)]; rw [pz_u1_in (r := 143) (q := 144) (by decide)]; rw [pz_u1_top (r := 143)]; rw [pz_u1_in (r := 144) (q := 149) (by decide)]; rw [pz_u1_in (r := 144) (q := 148) (by decide)]; rw [pz_u1_in (r := 144) (q := 147) (by decide)]; rw [pz_u1_in (r := 144) (q := 146) (by decide)]; rw [pz_u1_in (r := 144) (q := 145) (by decide)]; rw [pz_u1_top (r := 144)]; rw [pz_u1_in (r := 145) (q := 149) (by decide)]; rw [pz_u1_in (r := 145) (q := 148) (by decide)]; rw [pz_u1_in (r := 145) (q := 147) (by decide)]; rw [pz_u1_in (r := 145) (q := 146) (by decide)]; rw [pz_u1_top (r := 145)]; rw [pz_u1_in (r := 146) (q := 149) (by decide)]; rw [pz_u1_in (r := 146) (q := 148) (by decide)]; rw [pz_u1_in (r := 146) (q := 147) (by decide)]; rw [pz_u1_top (r := 146)]; rw [pz_u1_in (r := 147) (q := 149) (by decide)]; rw [pz_u1_in (r := 147) (q := 148) (by decide)]; rw [pz_u1_top (r := 147)]; rw [pz_u1_in (r := 148) (q := 149) (by decide)]; rw [pz_u1_top (r := 148)]; rw [pz_u1_top (r := 149)] <;> rfl)
            subst h9x
            clear h9e hc9
            replace hci : q_CI k o9_10 n9_12 w9_13 d9_14 m9_15 V9_16 U9_18 (iv 129) (iv 135) := hci
            replace hRK : q_RK k m9_15 V9_16 U9_18 := hRK
            replace ho2 : o9_10 2 = (iv 2) 2 := ho2
            have hz1 := hRK.1
            rw [pz_bi_0 hcase2] at hz1
            refine w_getI (v := m9_15 1) is_142 (by decide) rfl ?_
            by_cases h23 : (m9_15 1) ≠ 0
            · first
              | (exfalso; first | omega | contradiction)
              | (have hc24 : pz_R (pz_Sh L) 173 [.inl (m9_15 1)] (pz_u1 (pz_u1 (pz_u1 (pz_u1 (pz_u1 (pz_u1 (pz_u1 (pz_u1 (pz_u1 (pz_u1 (pz_u1 (pz_u1 (pz_u1 iv 2 o9_10) 134 l9_11) 138 n9_12) 139 w9_13) 140 d9_14) 142 m9_15) 143 V9_16) 144 W9_17) 145 U9_18) 146 Y9_19) 147 p9_20) 148 q9_21) 149 r9_22) (.inl none) (pz_u1 (pz_u1 (pz_u1 (pz_u1 (pz_u1 (pz_u1 (pz_u1 (pz_u1 (pz_u1 (pz_u1 (pz_u1 (pz_u1 (pz_u1 iv 2 o9_10) 134 l9_11) 138 n9_12) 139 w9_13) 140 d9_14) 142 m9_15) 143 V9_16) 144 W9_17) 145 U9_18) 146 Y9_19) 147 p9_20) 148 q9_21) 149 r9_22) := s_X10_needState_y (m9_15 1) (by show (m9_15 1) ≠ 0; exact h23)
                 refine w_callv hc24 rfl rfl ?_
                 refine w_vret ?_
                 first | exact ⟨pz_u1 (pz_u1 (pz_u1 (pz_u1 (pz_u1 (pz_u1 (pz_u1 (pz_u1 (pz_u1 (pz_u1 (pz_u1 (pz_u1 (pz_u1 iv 2 o9_10) 134 l9_11) 138 n9_12) 139 w9_13) 140 d9_14) 142 m9_15) 143 V9_16) 144 W9_17) 145 U9_18) 146 Y9_19) 147 p9_20) 148 q9_21) 149 r9_22, ⟨o9_10, l9_11, n9_12, w9_13, d9_14, m9_15, V9_16, W9_17, U9_18, Y9_19, p9_20, q9_21, r9_22, by rfl, by exact hci, by exact ho2⟩, lf_v (by rfl)⟩ | (exfalso; omega))
            · first
              | (exfalso; first | omega | contradiction)
              | (have hc25 : pz_R (pz_Sh L) 173 [.inl (m9_15 1)] (pz_u1 (pz_u1 (pz_u1 (pz_u1 (pz_u1 (pz_u1 (pz_u1 (pz_u1 (pz_u1 (pz_u1 (pz_u1 (pz_u1 (pz_u1 iv 2 o9_10) 134 l9_11) 138 n9_12) 139 w9_13) 140 d9_14) 142 m9_15) 143 V9_16) 144 W9_17) 145 U9_18) 146 Y9_19) 147 p9_20) 148 q9_21) 149 r9_22) (.inr 0) (pz_u1 (pz_u1 (pz_u1 (pz_u1 (pz_u1 (pz_u1 (pz_u1 (pz_u1 (pz_u1 (pz_u1 (pz_u1 (pz_u1 (pz_u1 iv 2 o9_10) 134 l9_11) 138 n9_12) 139 w9_13) 140 d9_14) 142 m9_15) 143 V9_16) 144 W9_17) 145 U9_18) 146 Y9_19) 147 p9_20) 148 q9_21) 149 r9_22) := s_X10_needState_n (m9_15 1) (by show (m9_15 1) = 0; exact Classical.not_not.mp h23)
                 refine w_calle hc25 rfl rfl rfl ?_
                 first | exact ⟨pz_u1 (pz_u1 (pz_u1 (pz_u1 (pz_u1 (pz_u1 (pz_u1 (pz_u1 (pz_u1 (pz_u1 (pz_u1 (pz_u1 (pz_u1 iv 2 o9_10) 134 l9_11) 138 n9_12) 139 w9_13) 140 d9_14) 142 m9_15) 143 V9_16) 144 W9_17) 145 U9_18) 146 Y9_19) 147 p9_20) 148 q9_21) 149 r9_22, ⟨o9_10, l9_11, n9_12, w9_13, d9_14, m9_15, V9_16, W9_17, U9_18, Y9_19, p9_20, q9_21, r9_22, by rfl, by exact hci, by exact ho2⟩, lf_e (by rfl)⟩ | (exfalso; omega))))
  · first
    | (exfalso; first | omega | contradiction)
    | (have hc26 : pz_R (pz_Sh L) 172 [.inl (pz_bi (0 ≤ p ∧ p ≤ ((pz_shl 1 ((iv 10) 0)) - 1)))] (pz_u1 (pz_u1 (pz_u1 (pz_u1 (pz_u1 (pz_u1 (pz_u1 (pz_u1 (pz_u1 (pz_u1 (pz_u1 (pz_u1 (pz_u1 iv 2 (iv 2)) 134 (iv 134)) 138 (iv 138)) 139 (iv 139)) 140 (iv 140)) 142 (iv 142)) 143 (iv 143)) 144 (iv 144)) 145 (iv 145)) 146 (iv 146)) 147 (iv 147)) 148 (iv 148)) 149 (iv 149)) (.inr 1) (pz_u1 (pz_u1 (pz_u1 (pz_u1 (pz_u1 (pz_u1 (pz_u1 (pz_u1 (pz_u1 (pz_u1 (pz_u1 (pz_u1 (pz_u1 iv 2 (iv 2)) 134 (iv 134)) 138 (iv 138)) 139 (iv 139)) 140 (iv 140)) 142 (iv 142)) 143 (iv 143)) 144 (iv 144)) 145 (iv 145)) 146 (iv 146)) 147 (iv 147)) 148 (iv 148)) 149 (iv 149)) := s_X10_needRange_n (pz_bi (0 ≤ p ∧ p ≤ ((pz_shl 1 ((iv 10) 0)) - 1))) (by show (pz_bi (0 ≤ p ∧ p ≤ ((pz_shl 1 ((iv 10) 0)) - 1))) = 0; exact pz_bi_0 h3)
       refine w_calle hc26 rfl rfl rfl ?_
       first | exact ⟨pz_u1 (pz_u1 (pz_u1 (pz_u1 (pz_u1 (pz_u1 (pz_u1 (pz_u1 (pz_u1 (pz_u1 (pz_u1 (pz_u1 (pz_u1 iv 2 (iv 2)) 134 (iv 134)) 138 (iv 138)) 139 (iv 139)) 140 (iv 140)) 142 (iv 142)) 143 (iv 143)) 144 (iv 144)) 145 (iv 145)) 146 (iv 146)) 147 (iv 147)) 148 (iv 148)) 149 (iv 149), ⟨(iv 2), (iv 134), (iv 138), (iv 139), (iv 140), (iv 142), (iv 143), (iv 144), (iv 145), (iv 146), (iv 147), (iv 148), (iv 149), by rfl, by exact hci, by exact ho2⟩, lf_e (by rfl)⟩ | (exfalso; omega))

theorem s_X10_needPlayable_0 {L : Nat} {iv : Nat → Nat → Int} (p : Int) {k : Nat → Int} (hk : q_KR k) (hE : q_cE k (iv 3)) (hB : q_cB k (iv 4) (iv 5) (iv 6) (iv 7) (iv 8) (iv 9)) (hS : q_cS k (iv 10) (iv 11) (iv 12) (iv 13) (iv 14)) (hC : q_cC k (iv 15) (iv 16)) (hA : q_cA k (iv 17) (iv 18) (iv 19) (iv 20)) (hO : q_cO k (iv 22) (iv 23) (iv 24)) (hL : q_cL k (iv 25)) (hP : q_cP k (iv 27)) (hci : q_CI k (iv 2) (iv 138) (iv 139) (iv 140) (iv 142) (iv 143) (iv 145) (iv 129) (iv 135)) (hcase0 : 0 ≤ p ∧ p ≤ q_p2 (k 2) - 1) (hcase1 : ¬ q_exi (fun i => 1 ≤ i ∧ q_sta k i) (k 0)) (hcase2 : q_sen k) : pz_RE (pz_Sh L) 174 [.inr (.inl 2), .inl p] iv (.inl none) (fun iv9 => ∃ (o9 : Nat → Int) (l9 : Nat → Int) (n9 : Nat → Int) (w9 : Nat → Int) (d9 : Nat → Int) (m9 : Nat → Int) (V9 : Nat → Int) (W9 : Nat → Int) (U9 : Nat → Int) (Y9 : Nat → Int) (p9 : Nat → Int) (q9 : Nat → Int) (r9 : Nat → Int), iv9 = pz_u1 (pz_u1 (pz_u1 (pz_u1 (pz_u1 (pz_u1 (pz_u1 (pz_u1 (pz_u1 (pz_u1 (pz_u1 (pz_u1 (pz_u1 iv 2 o9) 134 l9) 138 n9) 139 w9) 140 d9) 142 m9) 143 V9) 144 W9) 145 U9) 146 Y9) 147 p9) 148 q9) 149 r9 ∧ (q_CI k o9 n9 w9 d9 m9 V9 U9 (iv 129) (iv 135)) ∧ (o9 2 = (iv 2) 2) ∧ (q_RK k m9 V9 U9)) := by
  intro dv cc ss
  have hk0 := hk.r0
  have hE0 := hE
  have hB0 := hB.1
  have hS0 := hS.1
  have hC0 := hC.1
  have hA0 := hA.1
  have hsh := q_shl_p2 (a := k 2) (by omega) (by omega)
  have hp2 := q_p2_r (a := k 2) (by omega) (by omega)
  have hp3 := q_p2_le (a := k 2) (b := 3) (by omega) (by omega)
  have hp8 : q_p2 3 = 8 := rfl
  have hsc : pz_shl 1 (iv 10 0) = q_p2 (k 2) := by
    rw [hS.1]; exact hsh
  refine pz_G_mem (iv2 := pz_u1 (pz_u1 (pz_u1 (pz_u1 (pz_u1 (pz_u1 (pz_u1 (pz_u1 (pz_u1 (pz_u1 (pz_u1 (pz_u1 (pz_u1 iv 2 (iv 2)) 134 (iv 134)) 138 (iv 138)) 139 (iv 139)) 140 (iv 140)) 142 (iv 142)) 143 (iv 143)) 144 (iv 144)) 145 (iv 145)) 146 (iv 146)) 147 (iv 147)) 148 (iv 148)) 149 (iv 149)) (by exact (((((((((((((pz_u1_self iv 2).symm).trans (pz_u1_self (pz_u1 iv 2 (iv 2)) 134).symm).trans (pz_u1_self (pz_u1 (pz_u1 iv 2 (iv 2)) 134 (iv 134)) 138).symm).trans (pz_u1_self (pz_u1 (pz_u1 (pz_u1 iv 2 (iv 2)) 134 (iv 134)) 138 (iv 138)) 139).symm).trans (pz_u1_self (pz_u1 (pz_u1 (pz_u1 (pz_u1 iv 2 (iv 2)) 134 (iv 134)) 138 (iv 138)) 139 (iv 139)) 140).symm).trans (pz_u1_self (pz_u1 (pz_u1 (pz_u1 (pz_u1 (pz_u1 iv 2 (iv 2)) 134 (iv 134)) 138 (iv 138)) 139 (iv 139)) 140 (iv 140)) 142).symm).trans (pz_u1_self (pz_u1 (pz_u1 (pz_u1 (pz_u1 (pz_u1 (pz_u1 iv 2 (iv 2)) 134 (iv 134)) 138 (iv 138)) 139 (iv 139)) 140 (iv 140)) 142 (iv 142)) 143).symm).trans (pz_u1_self (pz_u1 (pz_u1 (pz_u1 (pz_u1 (pz_u1 (pz_u1 (pz_u1 iv 2 (iv 2)) 134 (iv 134)) 138 (iv 138)) 139 (iv 139)) 140 (iv 140)) 142 (iv 142)) 143 (iv 143)) 144).symm).trans (pz_u1_self (pz_u1 (pz_u1 (pz_u1 (pz_u1 (pz_u1 (pz_u1 (pz_u1 (pz_u1 iv 2 (iv 2)) 134 (iv 134)) 138 (iv 138)) 139 (iv 139)) 140 (iv 140)) 142 (iv 142)) 143 (iv 143)) 144 (iv 144)) 145).symm).trans (pz_u1_self (pz_u1 (pz_u1 (pz_u1 (pz_u1 (pz_u1 (pz_u1 (pz_u1 (pz_u1 (pz_u1 iv 2 (iv 2)) 134 (iv 134)) 138 (iv 138)) 139 (iv 139)) 140 (iv 140)) 142 (iv 142)) 143 (iv 143)) 144 (iv 144)) 145 (iv 145)) 146).symm).trans (pz_u1_self (pz_u1 (pz_u1 (pz_u1 (pz_u1 (pz_u1 (pz_u1 (pz_u1 (pz_u1 (pz_u1 (pz_u1 iv 2 (iv 2)) 134 (iv 134)) 138 (iv 138)) 139 (iv 139)) 140 (iv 140)) 142 (iv 142)) 143 (iv 143)) 144 (iv 144)) 145 (iv 145)) 146 (iv 146)) 147).symm).trans (pz_u1_self (pz_u1 (pz_u1 (pz_u1 (pz_u1 (pz_u1 (pz_u1 (pz_u1 (pz_u1 (pz_u1 (pz_u1 (pz_u1 iv 2 (iv 2)) 134 (iv 134)) 138 (iv 138)) 139 (iv 139)) 140 (iv 140)) 142 (iv 142)) 143 (iv 143)) 144 (iv 144)) 145 (iv 145)) 146 (iv 146)) 147 (iv 147)) 148).symm).trans (pz_u1_self (pz_u1 (pz_u1 (pz_u1 (pz_u1 (pz_u1 (pz_u1 (pz_u1 (pz_u1 (pz_u1 (pz_u1 (pz_u1 (pz_u1 iv 2 (iv 2)) 134 (iv 134)) 138 (iv 138)) 139 (iv 139)) 140 (iv 140)) 142 (iv 142)) 143 (iv 143)) 144 (iv 144)) 145 (iv 145)) 146 (iv 146)) 147 (iv 147)) 148 (iv 148)) 149).symm) ?_
  show pz_G 174 0 [some (.inr (.inl 2)), some (.inl p)] [] (pz_Sh L, pz_u1 (pz_u1 (pz_u1 (pz_u1 (pz_u1 (pz_u1 (pz_u1 (pz_u1 (pz_u1 (pz_u1 (pz_u1 (pz_u1 (pz_u1 iv 2 (iv 2)) 134 (iv 134)) 138 (iv 138)) 139 (iv 139)) 140 (iv 140)) 142 (iv 142)) 143 (iv 143)) 144 (iv 144)) 145 (iv 145)) 146 (iv 146)) 147 (iv 147)) 148 (iv 148)) 149 (iv 149), dv, cc, ss) (pz_PE (pz_Sh L) (.inl none) (fun iv9 => ∃ (o9 : Nat → Int) (l9 : Nat → Int) (n9 : Nat → Int) (w9 : Nat → Int) (d9 : Nat → Int) (m9 : Nat → Int) (V9 : Nat → Int) (W9 : Nat → Int) (U9 : Nat → Int) (Y9 : Nat → Int) (p9 : Nat → Int) (q9 : Nat → Int) (r9 : Nat → Int), iv9 = pz_u1 (pz_u1 (pz_u1 (pz_u1 (pz_u1 (pz_u1 (pz_u1 (pz_u1 (pz_u1 (pz_u1 (pz_u1 (pz_u1 (pz_u1 iv 2 o9) 134 l9) 138 n9) 139 w9) 140 d9) 142 m9) 143 V9) 144 W9) 145 U9) 146 Y9) 147 p9) 148 q9) 149 r9 ∧ (q_CI k o9 n9 w9 d9 m9 V9 U9 (iv 129) (iv 135)) ∧ (o9 2 = (iv 2) 2) ∧ (q_RK k m9 V9 U9)) dv cc ss)
  refine pz_G_of pz_b174_0 ?_
  refine w_loc rfl ?_
  refine w_pure rfl ?_
  refine w_loc rfl ?_
  refine w_getR (q := 3) is_2 rf_2_0 ?_
  refine w_getR (q := 10) is_3 rf_3_2 ?_
  refine w_getI (v := (iv 10) 0) is_10 (by decide) rfl ?_
  have hc1 : pz_R (pz_Sh L) 186 [.inl ((iv 10) 0)] (pz_u1 (pz_u1 (pz_u1 (pz_u1 (pz_u1 (pz_u1 (pz_u1 (pz_u1 (pz_u1 (pz_u1 (pz_u1 (pz_u1 (pz_u1 iv 2 (iv 2)) 134 (iv 134)) 138 (iv 138)) 139 (iv 139)) 140 (iv 140)) 142 (iv 142)) 143 (iv 143)) 144 (iv 144)) 145 (iv 145)) 146 (iv 146)) 147 (iv 147)) 148 (iv 148)) 149 (iv 149)) (.inl (some (.inl (pz_shl 1 ((iv 10) 0))))) (pz_u1 (pz_u1 (pz_u1 (pz_u1 (pz_u1 (pz_u1 (pz_u1 (pz_u1 (pz_u1 (pz_u1 (pz_u1 (pz_u1 (pz_u1 iv 2 (iv 2)) 134 (iv 134)) 138 (iv 138)) 139 (iv 139)) 140 (iv 140)) 142 (iv 142)) 143 (iv 143)) 144 (iv 144)) 145 (iv 145)) 146 (iv 146)) 147 (iv 147)) 148 (iv 148)) 149 (iv 149)) := s_X10_bit ((iv 10) 0)
  refine w_call hc1 rfl rfl ?_
  refine w_pure rfl ?_
  refine w_isub (by omega) ?_
  have hc2 : pz_R (pz_Sh L) 185 [.inl p, .inl 0, .inl ((pz_shl 1 ((iv 10) 0)) - 1)] (pz_u1 (pz_u1 (pz_u1 (pz_u1 (pz_u1 (pz_u1 (pz_u1 (pz_u1 (pz_u1 (pz_u1 (pz_u1 (pz_u1 (pz_u1 iv 2 (iv 2)) 134 (iv 134)) 138 (iv 138)) 139 (iv 139)) 140 (iv 140)) 142 (iv 142)) 143 (iv 143)) 144 (iv 144)) 145 (iv 145)) 146 (iv 146)) 147 (iv 147)) 148 (iv 148)) 149 (iv 149)) (.inl (some (.inl (pz_bi (0 ≤ p ∧ p ≤ ((pz_shl 1 ((iv 10) 0)) - 1)))))) (pz_u1 (pz_u1 (pz_u1 (pz_u1 (pz_u1 (pz_u1 (pz_u1 (pz_u1 (pz_u1 (pz_u1 (pz_u1 (pz_u1 (pz_u1 iv 2 (iv 2)) 134 (iv 134)) 138 (iv 138)) 139 (iv 139)) 140 (iv 140)) 142 (iv 142)) 143 (iv 143)) 144 (iv 144)) 145 (iv 145)) 146 (iv 146)) 147 (iv 147)) 148 (iv 148)) 149 (iv 149)) := s_X10_isWithin p 0 ((pz_shl 1 ((iv 10) 0)) - 1)
  refine w_call hc2 rfl rfl ?_
  by_cases h3 : 0 ≤ p ∧ p ≤ ((pz_shl 1 ((iv 10) 0)) - 1)
  · first
    | (exfalso; first | omega | contradiction)
    | (have hc4 : pz_R (pz_Sh L) 172 [.inl (pz_bi (0 ≤ p ∧ p ≤ ((pz_shl 1 ((iv 10) 0)) - 1)))] (pz_u1 (pz_u1 (pz_u1 (pz_u1 (pz_u1 (pz_u1 (pz_u1 (pz_u1 (pz_u1 (pz_u1 (pz_u1 (pz_u1 (pz_u1 iv 2 (iv 2)) 134 (iv 134)) 138 (iv 138)) 139 (iv 139)) 140 (iv 140)) 142 (iv 142)) 143 (iv 143)) 144 (iv 144)) 145 (iv 145)) 146 (iv 146)) 147 (iv 147)) 148 (iv 148)) 149 (iv 149)) (.inl none) (pz_u1 (pz_u1 (pz_u1 (pz_u1 (pz_u1 (pz_u1 (pz_u1 (pz_u1 (pz_u1 (pz_u1 (pz_u1 (pz_u1 (pz_u1 iv 2 (iv 2)) 134 (iv 134)) 138 (iv 138)) 139 (iv 139)) 140 (iv 140)) 142 (iv 142)) 143 (iv 143)) 144 (iv 144)) 145 (iv 145)) 146 (iv 146)) 147 (iv 147)) 148 (iv 148)) 149 (iv 149)) := s_X10_needRange_y (pz_bi (0 ≤ p ∧ p ≤ ((pz_shl 1 ((iv 10) 0)) - 1))) (by show (pz_bi (0 ≤ p ∧ p ≤ ((pz_shl 1 ((iv 10) 0)) - 1))) ≠ 0; exact pz_bi_p1 h3)
       refine w_callv hc4 rfl rfl ?_
       refine w_loc rfl ?_
       refine w_getR (q := 3) is_2 rf_2_0 ?_
       refine w_getR (q := 15) is_3 rf_3_3 ?_
       have hc5 : pz_R (pz_Sh L) 27 [.inr (.inl 15)] (pz_u1 (pz_u1 (pz_u1 (pz_u1 (pz_u1 (pz_u1 (pz_u1 (pz_u1 (pz_u1 (pz_u1 (pz_u1 (pz_u1 (pz_u1 iv 2 (iv 2)) 134 (iv 134)) 138 (iv 138)) 139 (iv 139)) 140 (iv 140)) 142 (iv 142)) 143 (iv 143)) 144 (iv 144)) 145 (iv 145)) 146 (iv 146)) 147 (iv 147)) 148 (iv 148)) 149 (iv 149)) (.inl (some (.inl (pz_bi (q_exi (fun i => 1 ≤ i ∧ q_sta k i) (k 0)))))) (pz_u1 (pz_u1 (pz_u1 (pz_u1 (pz_u1 (pz_u1 (pz_u1 (pz_u1 (pz_u1 (pz_u1 (pz_u1 (pz_u1 (pz_u1 iv 2 (iv 2)) 134 (iv 134)) 138 (iv 138)) 139 (iv 139)) 140 (iv 140)) 142 (iv 142)) 143 (iv 143)) 144 (iv 144)) 145 (iv 145)) 146 (iv 146)) 147 (iv 147)) 148 (iv 148)) 149 (iv 149)) := s_X2_hasStartedAny (by show q_KR k; exact hk) (by show q_cC k (iv 15) (iv 16); exact hC)
       refine w_call hc5 rfl (pz_cokI is_15 rfl) ?_
       refine w_bne (fun h6 => ?_) (fun h6 => ?_)
       · first
         | (exfalso; first | omega | contradiction)
         | (refine pz_G_of pz_b174_40 ?_
            refine w_pure rfl ?_
            refine w_nil ?_
            refine pz_G_of pz_b174_41 ?_
            have hc7 : pz_R (pz_Sh L) 173 [.inl 0] (pz_u1 (pz_u1 (pz_u1 (pz_u1 (pz_u1 (pz_u1 (pz_u1 (pz_u1 (pz_u1 (pz_u1 (pz_u1 (pz_u1 (pz_u1 iv 2 (iv 2)) 134 (iv 134)) 138 (iv 138)) 139 (iv 139)) 140 (iv 140)) 142 (iv 142)) 143 (iv 143)) 144 (iv 144)) 145 (iv 145)) 146 (iv 146)) 147 (iv 147)) 148 (iv 148)) 149 (iv 149)) (.inr 0) (pz_u1 (pz_u1 (pz_u1 (pz_u1 (pz_u1 (pz_u1 (pz_u1 (pz_u1 (pz_u1 (pz_u1 (pz_u1 (pz_u1 (pz_u1 iv 2 (iv 2)) 134 (iv 134)) 138 (iv 138)) 139 (iv 139)) 140 (iv 140)) 142 (iv 142)) 143 (iv 143)) 144 (iv 144)) 145 (iv 145)) 146 (iv 146)) 147 (iv 147)) 148 (iv 148)) 149 (iv 149)) := s_X10_needState_n 0 (by show 0 = 0; omega)
            refine w_calle hc7 rfl rfl rfl ?_
            first | exact ⟨pz_u1 (pz_u1 (pz_u1 (pz_u1 (pz_u1 (pz_u1 (pz_u1 (pz_u1 (pz_u1 (pz_u1 (pz_u1 (pz_u1 (pz_u1 iv 2 (iv 2)) 134 (iv 134)) 138 (iv 138)) 139 (iv 139)) 140 (iv 140)) 142 (iv 142)) 143 (iv 143)) 144 (iv 144)) 145 (iv 145)) 146 (iv 146)) 147 (iv 147)) 148 (iv 148)) 149 (iv 149), ⟨(iv 2), (iv 134), (iv 138), (iv 139), (iv 140), (iv 142), (iv 143), (iv 144), (iv 145), (iv 146), (iv 147), (iv 148), (iv 149), by rfl, by exact hci, by exact ho2, by exact hRK⟩, lf_e (by rfl)⟩ | (exfalso; omega))
       · first
         | (exfalso; first | omega | contradiction)
         | (refine w_pure rfl ?_
            refine w_goto ?_
            refine pz_G_of pz_b174_41 ?_
            have hc8 : pz_R (pz_Sh L) 173 [.inl 1] (pz_u1 (pz_u1 (pz_u1 (pz_u1 (pz_u1 (pz_u1 (pz_u1 (pz_u1 (pz_u1 (pz_u1 (pz_u1 (pz_u1 (pz_u1 iv 2 (iv 2)) 134 (iv 134)) 138 (iv 138)) 139 (iv 139)) 140 (iv 140)) 142 (iv 142)) 143 (iv 143)) 144 (iv 144)) 145 (iv 145)) 146 (iv 146)) 147 (iv 147)) 148 (iv 148)) 149 (iv 149)) (.inl none) (pz_u1 (pz_u1 (pz_u1 (pz_u1 (pz_u1 (pz_u1 (pz_u1 (pz_u1 (pz_u1 (pz_u1 (pz_u1 (pz_u1 (pz_u1 iv 2 (iv 2)) 134 (iv 134)) 138 (iv 138)) 139 (iv 139)) 140 (iv 140)) 142 (iv 142)) 143 (iv 143)) 144 (iv 144)) 145 (iv 145)) 146 (iv 146)) 147 (iv 147)) 148 (iv 148)) 149 (iv 149)) := s_X10_needState_y 1 (by show 1 ≠ 0; omega)
            refine w_callv hc8 rfl rfl ?_
            refine w_loc rfl ?_
            have hc9 : pz_RE (pz_Sh L) 181 [.inr (.inl 2)] (pz_u1 (pz_u1 (pz_u1 (pz_u1 (pz_u1 (pz_u1 (pz_u1 (pz_u1 (pz_u1 (pz_u1 (pz_u1 (pz_u1 (pz_u1 iv 2 (iv 2)) 134 (iv 134)) 138 (iv 138)) 139 (iv 139)) 140 (iv 140)) 142 (iv 142)) 143 (iv 143)) 144 (iv 144)) 145 (iv 145)) 146 (iv 146)) 147 (iv 147)) 148 (iv 148)) 149 (iv 149)) (.inl (some (.inr (.inl 142)))) _ := s_X10_knownReductions (L := L) (iv := pz_u1 (pz_u1 (pz_u1 (pz_u1 (pz_u1 (pz_u1 (pz_u1 (pz_u1 (pz_u1 (pz_u1 (pz_u1 (pz_u1 (pz_u1 iv 2 (iv 2)) 134 (iv 134)) 138 (iv 138)) 139 (iv 139)) 140 (iv 140)) 142 (iv 142)) 143 (iv 143)) 144 (iv 144)) 145 (iv 145)) 146 (iv 146)) 147 (iv 147)) 148 (iv 148)) 149 (iv 149)) (by show q_KR k; exact hk) (by show q_cE k (iv 3); exact hE) (by show q_cB k (iv 4) (iv 5) (iv 6) (iv 7) (iv 8) (iv 9); exact hB) (by show q_cS k (iv 10) (iv 11) (iv 12) (iv 13) (iv 14); exact hS) (by show q_cC k (iv 15) (iv 16); exact hC) (by show q_cL k (iv 25); exact hL) (by show q_CI k (iv 2) (iv 138) (iv 139) (iv 140) (iv 142) (iv 143) (iv 145) (iv 129) (iv 135); exact hci)
            refine w_callE hc9 rfl (pz_cokI is_2 rfl) (fun iv9 h9 => ?_)
            obtain ⟨o9_10, l9_11, n9_12, w9_13, d9_14, m9_15, V9_16, W9_17, U9_18, Y9_19, p9_20, q9_21, r9_22, h9e, hci, hRK, ho2⟩ := h9
            have h9x : iv9 = pz_u1 (pz_u1 (pz_u1 (pz_u1 (pz_u1 (pz_u1 (pz_u1 (pz_u1 (pz_u1 (pz_u1 (pz_u1 (pz_u1 (pz_u1 iv 2 o9_10) 134 l9_11) 138 n9_12) 139 w9_13) 140 d9_14) 142 m9_15) 143 V9_16) 144 W9_17) 145 U9_18) 146 Y9_19) 147 p9_20) 148 q9_21) 149 r9_22 := h9e.trans (by rw [pz_u1_in (r := 2) (q := 149) (by decide)]; rw [pz_u1_in (r := 2) (q := 148) (by decide)]; rw [pz_u1_in (r := 2) (q := 147) (by decide)]; rw [pz_u1_in (r := 2) (q := 146) (by decide)]; rw [pz_u1_in (r := 2) (q := 145) (by decide)]; rw [pz_u1_in (r := 2) (q := 144) (by decide)]; rw [pz_u1_in (r := 2) (q := 143) (by decide)]; rw [pz_u1_in (r := 2) (q := 142) (by decide)]; rw [pz_u1_in (r := 2) (q := 140) (by decide)]; rw [pz_u1_in (r := 2) (q := 139) (by decide)]; rw [pz_u1_in (r := 2) (q := 138) (by decide)]; rw [pz_u1_in (r := 2) (q := 134) (by decide)]; rw [pz_u1_top (r := 2)]; rw [pz_u1_in (r := 134) (q := 149) (by decide)]; rw [pz_u1_in (r := 134) (q := 148) (by decide)]; rw [pz_u1_in (r := 134) (q := 147) (by decide)]; rw [pz_u1_in (r := 134) (q := 146) (by decide)]; rw [pz_u1_in (r := 134) (q := 145) (by decide)]; rw [pz_u1_in (r := 134) (q := 144) (by decide)]; rw [pz_u1_in (r := 134) (q := 143) (by decide)]; rw [pz_u1_in (r := 134) (q := 142) (by decide)]; rw [pz_u1_in (r := 134) (q := 140) (by decide)]; rw [pz_u1_in (r := 134) (q := 139) (by decide)]; rw [pz_u1_in (r := 134) (q := 138) (by decide)]; rw [pz_u1_top (r := 134)]; rw [pz_u1_in (r := 138) (q := 149) (by decide)]; rw [pz_u1_in (r := 138) (q := 148) (by decide)]; rw [pz_u1_in (r := 138) (q := 147) (by decide)]; rw [pz_u1_in (r := 138) (q := 146) (by decide)]; rw [pz_u1_in (r := 138) (q := 145) (by decide)]; rw [pz_u1_in (r := 138) (q := 144) (by decide)]; rw [pz_u1_in (r := 138) (q := 143) (by decide)]; rw [pz_u1_in (r := 138) (q := 142) (by decide)]; rw [pz_u1_in (r := 138) (q := 140) (by decide)]; rw [pz_u1_in (r := 138) (q := 139) (by decide)]; rw [pz_u1_top (r := 138)]; rw [pz_u1_in (r := 139) (q := 149) (by decide)]; rw [pz_u1_in (r := 139) (q := 148) (by decide)]; rw [pz_u1_in (r := 139) (q := 147) (by decide)]; rw [pz_u1_in (r := 139) (q := 146) (by decide)]; rw [pz_u1_in (r := 139) (q := 145) (by decide)]; rw [pz_u1_in (r := 139) (q := 144) (by decide)]; rw [pz_u1_in (r := 139) (q := 143) (by decide)]; rw [pz_u1_in (r := 139) (q := 142) (by decide)]; rw [pz_u1_in (r := 139) (q := 140) (by decide)]; rw [pz_u1_top (r := 139)]; rw [pz_u1_in (r := 140) (q := 149) (by decide)]; rw [pz_u1_in (r := 140) (q := 148) (by decide)]; rw [pz_u1_in (r := 140) (q := 147) (by decide)]; rw [pz_u1_in (r := 140) (q := 146) (by decide)]; rw [pz_u1_in (r := 140) (q := 145) (by decide)]; rw [pz_u1_in (r := 140) (q := 144) (by decide)]; rw [pz_u1_in (r := 140) (q := 143) (by decide)]; rw [pz_u1_in (r := 140) (q := 142) (by decide)]; rw [pz_u1_top (r := 140)]; rw [pz_u1_in (r := 142) (q := 149) (by decide)]; rw [pz_u1_in (r := 142) (q := 148) (by decide)]; rw [pz_u1_in (r := 142) (q := 147) (by decide)]; rw [pz_u1_in (r := 142) (q := 146) (by decide)]; rw [pz_u1_in (r := 142) (q := 145) (by decide)]; rw [pz_u1_in (r := 142) (q := 144) (by decide)]; rw [pz_u1_in (r := 142) (q := 143) (by decide)]; rw [pz_u1_top (r := 142)]; rw [pz_u1_in (r := 143) (q := 149) (by decide)]; rw [pz_u1_in (r := 143) (q := 148) (by decide)]; rw [pz_u1_in (r := 143) (q := 147) (by decide)]; rw [pz_u1_in (r := 143) (q := 146) (by decide)]; rw [pz_u1_in (r := 143) (q := 145) (by decide)]; rw [pz_u1_in (r := 143) (q := 144) (by decide)]; rw [pz_u1_top (r := 143)]; rw [pz_u1_in (r := 144) (q := 149) (by decide)]; rw [pz_u1_in (r := 144) (q := 148) (by decide)]; rw [pz_u1_in (r := 144) (q := 147) (by decide)]; rw [pz_u1_in (r := 144) (q := 146) (by decide)]; rw [pz_u1_in (r := 144) (q := 145) (by decide)]; rw [pz_u1_top (r := 144)]; rw [pz_u1_in (r := 145) (q := 149) (by decide)]; rw [pz_u1_in (r := 145) (q := 148) (by decide)]; rw [pz_u1_in (r := 145) (q := 147) (by decide)]; rw [pz_u1_in (r := 145) (q := 146) (by decide)]; rw [pz_u1_top (r := 145)]; rw [pz_u1_in (r := 146) (q := 149) (by decide)]; rw [pz_u1_in (r := 146) (q := 148) (by decide)]; rw [pz_u1_in (r := 146) (q := 147) (by decide)]; rw [pz_u1_top (r := 146)]; rw [pz_u1_in (r := 147) (q := 149) (by decide)]; rw [pz_u1_in (r := 147) (q := 148) (by decide)]; rw [pz_u1_top (r := 147)]; rw [pz_u1_in (r := 148) (q := 149) (by decide)]; rw [pz_u1_top (r := 148)]; rw [pz_u1_top (r := 149)] <;> rfl)
            subst h9x
            clear h9e hc9
            replace hci : q_CI k o9_10 n9_12 w9_13 d9_14 m9_15 V9_16 U9_18 (iv 129) (iv 135) := hci
            replace hRK : q_RK k m9_15 V9_16 U9_18 := hRK
            replace ho2 : o9_10 2 = (iv 2) 2 := ho2
            have hz1 := hRK.1
            rw [pz_bi_1 hcase2] at hz1
            refine w_getI (v := m9_15 1) is_142 (by decide) rfl ?_
            by_cases h23 : (m9_15 1) ≠ 0
            · first
              | (exfalso; first | omega | contradiction)
              | (have hc24 : pz_R (pz_Sh L) 173 [.inl (m9_15 1)] (pz_u1 (pz_u1 (pz_u1 (pz_u1 (pz_u1 (pz_u1 (pz_u1 (pz_u1 (pz_u1 (pz_u1 (pz_u1 (pz_u1 (pz_u1 iv 2 o9_10) 134 l9_11) 138 n9_12) 139 w9_13) 140 d9_14) 142 m9_15) 143 V9_16) 144 W9_17) 145 U9_18) 146 Y9_19) 147 p9_20) 148 q9_21) 149 r9_22) (.inl none) (pz_u1 (pz_u1 (pz_u1 (pz_u1 (pz_u1 (pz_u1 (pz_u1 (pz_u1 (pz_u1 (pz_u1 (pz_u1 (pz_u1 (pz_u1 iv 2 o9_10) 134 l9_11) 138 n9_12) 139 w9_13) 140 d9_14) 142 m9_15) 143 V9_16) 144 W9_17) 145 U9_18) 146 Y9_19) 147 p9_20) 148 q9_21) 149 r9_22) := s_X10_needState_y (m9_15 1) (by show (m9_15 1) ≠ 0; exact h23)
                 refine w_callv hc24 rfl rfl ?_
                 refine w_vret ?_
                 first | exact ⟨pz_u1 (pz_u1 (pz_u1 (pz_u1 (pz_u1 (pz_u1 (pz_u1 (pz_u1 (pz_u1 (pz_u1 (pz_u1 (pz_u1 (pz_u1 iv 2 o9_10) 134 l9_11) 138 n9_12) 139 w9_13) 140 d9_14) 142 m9_15) 143 V9_16) 144 W9_17) 145 U9_18) 146 Y9_19) 147 p9_20) 148 q9_21) 149 r9_22, ⟨o9_10, l9_11, n9_12, w9_13, d9_14, m9_15, V9_16, W9_17, U9_18, Y9_19, p9_20, q9_21, r9_22, by rfl, by exact hci, by exact ho2, by exact hRK⟩, lf_v (by rfl)⟩ | (exfalso; omega))
            · first
              | (exfalso; first | omega | contradiction)
              | (have hc25 : pz_R (pz_Sh L) 173 [.inl (m9_15 1)] (pz_u1 (pz_u1 (pz_u1 (pz_u1 (pz_u1 (pz_u1 (pz_u1 (pz_u1 (pz_u1 (pz_u1 (pz_u1 (pz_u1 (pz_u1 iv 2 o9_10) 134 l9_11) 138 n9_12) 139 w9_13) 140 d9_14) 142 m9_15) 143 V9_16) 144 W9_17) 145 U9_18) 146 Y9_19) 147 p9_20) 148 q9_21) 149 r9_22) (.inr 0) (pz_u1 (pz_u1 (pz_u1 (pz_u1 (pz_u1 (pz_u1 (pz_u1 (pz_u1 (pz_u1 (pz_u1 (pz_u1 (pz_u1 (pz_u1 iv 2 o9_10) 134 l9_11) 138 n9_12) 139 w9_13) 140 d9_14) 142 m9_15) 143 V9_16) 144 W9_17) 145 U9_18) 146 Y9_19) 147 p9_20) 148 q9_21) 149 r9_22) := s_X10_needState_n (m9_15 1) (by show (m9_15 1) = 0; exact Classical.not_not.mp h23)
                 refine w_calle hc25 rfl rfl rfl ?_
                 first | exact ⟨pz_u1 (pz_u1 (pz_u1 (pz_u1 (pz_u1 (pz_u1 (pz_u1 (pz_u1 (pz_u1 (pz_u1 (pz_u1 (pz_u1 (pz_u1 iv 2 o9_10) 134 l9_11) 138 n9_12) 139 w9_13) 140 d9_14) 142 m9_15) 143 V9_16) 144 W9_17) 145 U9_18) 146 Y9_19) 147 p9_20) 148 q9_21) 149 r9_22, ⟨o9_10, l9_11, n9_12, w9_13, d9_14, m9_15, V9_16, W9_17, U9_18, Y9_19, p9_20, q9_21, r9_22, by rfl, by exact hci, by exact ho2, by exact hRK⟩, lf_e (by rfl)⟩ | (exfalso; omega))))
  · first
    | (exfalso; first | omega | contradiction)
    | (have hc26 : pz_R (pz_Sh L) 172 [.inl (pz_bi (0 ≤ p ∧ p ≤ ((pz_shl 1 ((iv 10) 0)) - 1)))] (pz_u1 (pz_u1 (pz_u1 (pz_u1 (pz_u1 (pz_u1 (pz_u1 (pz_u1 (pz_u1 (pz_u1 (pz_u1 (pz_u1 (pz_u1 iv 2 (iv 2)) 134 (iv 134)) 138 (iv 138)) 139 (iv 139)) 140 (iv 140)) 142 (iv 142)) 143 (iv 143)) 144 (iv 144)) 145 (iv 145)) 146 (iv 146)) 147 (iv 147)) 148 (iv 148)) 149 (iv 149)) (.inr 1) (pz_u1 (pz_u1 (pz_u1 (pz_u1 (pz_u1 (pz_u1 (pz_u1 (pz_u1 (pz_u1 (pz_u1 (pz_u1 (pz_u1 (pz_u1 iv 2 (iv 2)) 134 (iv 134)) 138 (iv 138)) 139 (iv 139)) 140 (iv 140)) 142 (iv 142)) 143 (iv 143)) 144 (iv 144)) 145 (iv 145)) 146 (iv 146)) 147 (iv 147)) 148 (iv 148)) 149 (iv 149)) := s_X10_needRange_n (pz_bi (0 ≤ p ∧ p ≤ ((pz_shl 1 ((iv 10) 0)) - 1))) (by show (pz_bi (0 ≤ p ∧ p ≤ ((pz_shl 1 ((iv 10) 0)) - 1))) = 0; exact pz_bi_0 h3)
       refine w_calle hc26 rfl rfl rfl ?_
       first | exact ⟨pz_u1 (pz_u1 (pz_u1 (pz_u1 (pz_u1 (pz_u1 (pz_u1 (pz_u1 (pz_u1 (pz_u1 (pz_u1 (pz_u1 (pz_u1 iv 2 (iv 2)) 134 (iv 134)) 138 (iv 138)) 139 (iv 139)) 140 (iv 140)) 142 (iv 142)) 143 (iv 143)) 144 (iv 144)) 145 (iv 145)) 146 (iv 146)) 147 (iv 147)) 148 (iv 148)) 149 (iv 149), ⟨(iv 2), (iv 134), (iv 138), (iv 139), (iv 140), (iv 142), (iv 143), (iv 144), (iv 145), (iv 146), (iv 147), (iv 148), (iv 149), by rfl, by exact hci, by exact ho2, by exact hRK⟩, lf_e (by rfl)⟩ | (exfalso; omega))

theorem s_X10_failure_1 {L : Nat} {iv : Nat → Nat → Int} (p : Int) {k : Nat → Int} (hk : q_KR k) (hE : q_cE k (iv 3)) (hB : q_cB k (iv 4) (iv 5) (iv 6) (iv 7) (iv 8) (iv 9)) (hS : q_cS k (iv 10) (iv 11) (iv 12) (iv 13) (iv 14)) (hC : q_cC k (iv 15) (iv 16)) (hA : q_cA k (iv 17) (iv 18) (iv 19) (iv 20)) (hO : q_cO k (iv 22) (iv 23) (iv 24)) (hL : q_cL k (iv 25)) (hP : q_cP k (iv 27)) (hci : q_CI k (iv 2) (iv 138) (iv 139) (iv 140) (iv 142) (iv 143) (iv 145) (iv 129) (iv 135)) (hcase0 : ¬ (0 ≤ p ∧ p ≤ q_p2 (k 2) - 1)) : pz_R (pz_Sh L) 144 [.inr (.inl 2), .inl p] iv (.inr 1) iv := by
  intro dv cc ss
  have hk0 := hk.r0
  have hE0 := hE
  have hB0 := hB.1
  have hS0 := hS.1
  have hC0 := hC.1
  have hA0 := hA.1
  have hsh := q_shl_p2 (a := k 2) (by omega) (by omega)
  have hp2 := q_p2_r (a := k 2) (by omega) (by omega)
  have hp3 := q_p2_le (a := k 2) (b := 3) (by omega) (by omega)
  have hp8 : q_p2 3 = 8 := rfl
  have hsc : pz_shl 1 (iv 10 0) = q_p2 (k 2) := by
    rw [hS.1]; exact hsh
  have hfk := q_fl_k (a := iv 153) (p := p) hk
  have hfr := q_fl_r (v := q_val k) (k := k) (p := p) (a := iv 153)
  show pz_G 144 0 [some (.inr (.inl 2)), some (.inl p)] [] (pz_Sh L, iv, dv, cc, ss) (pz_P (pz_Sh L) (.inr 1) iv dv cc ss)
  refine pz_G_of pz_b144_0 ?_
  refine w_loc rfl ?_
  refine w_loc rfl ?_
  have hc1 : pz_R (pz_Sh L) 174 [.inr (.inl 2), .inl p] (iv) (.inr 1) (iv) := s_X10_needPlayable_1 p (by exact hk) (by exact hE) (by exact hB) (by exact hS) (by exact hC) (by exact hA) (by exact hO) (by exact hL) (by exact hP) (by exact hci) (by first | assumption | omega)
  refine w_calle hc1 rfl (pz_cokI is_2 rfl) rfl ?_
  first | exact lf_e (by rfl) | (exfalso; omega)

theorem s_X10_failure_2a {L : Nat} {iv : Nat → Nat → Int} (p : Int) {k : Nat → Int} (hk : q_KR k) (hE : q_cE k (iv 3)) (hB : q_cB k (iv 4) (iv 5) (iv 6) (iv 7) (iv 8) (iv 9)) (hS : q_cS k (iv 10) (iv 11) (iv 12) (iv 13) (iv 14)) (hC : q_cC k (iv 15) (iv 16)) (hA : q_cA k (iv 17) (iv 18) (iv 19) (iv 20)) (hO : q_cO k (iv 22) (iv 23) (iv 24)) (hL : q_cL k (iv 25)) (hP : q_cP k (iv 27)) (hci : q_CI k (iv 2) (iv 138) (iv 139) (iv 140) (iv 142) (iv 143) (iv 145) (iv 129) (iv 135)) (hcase0 : 0 ≤ p ∧ p ≤ q_p2 (k 2) - 1) (hcase1 : q_exi (fun i => 1 ≤ i ∧ q_sta k i) (k 0)) : pz_R (pz_Sh L) 144 [.inr (.inl 2), .inl p] iv (.inr 0) iv := by
  intro dv cc ss
  have hk0 := hk.r0
  have hE0 := hE
  have hB0 := hB.1
  have hS0 := hS.1
  have hC0 := hC.1
  have hA0 := hA.1
  have hsh := q_shl_p2 (a := k 2) (by omega) (by omega)
  have hp2 := q_p2_r (a := k 2) (by omega) (by omega)
  have hp3 := q_p2_le (a := k 2) (b := 3) (by omega) (by omega)
  have hp8 : q_p2 3 = 8 := rfl
  have hsc : pz_shl 1 (iv 10 0) = q_p2 (k 2) := by
    rw [hS.1]; exact hsh
  have hfk := q_fl_k (a := iv 153) (p := p) hk
  have hfr := q_fl_r (v := q_val k) (k := k) (p := p) (a := iv 153)
  show pz_G 144 0 [some (.inr (.inl 2)), some (.inl p)] [] (pz_Sh L, iv, dv, cc, ss) (pz_P (pz_Sh L) (.inr 0) iv dv cc ss)
  refine pz_G_of pz_b144_0 ?_
  refine w_loc rfl ?_
  refine w_loc rfl ?_
  have hc1 : pz_R (pz_Sh L) 174 [.inr (.inl 2), .inl p] (iv) (.inr 0) (iv) := s_X10_needPlayable_2a p (by exact hk) (by exact hE) (by exact hB) (by exact hS) (by exact hC) (by exact hA) (by exact hO) (by exact hL) (by exact hP) (by exact hci) (by first | assumption | omega) (by first | assumption | omega)
  refine w_calle hc1 rfl (pz_cokI is_2 rfl) rfl ?_
  first | exact lf_e (by rfl) | (exfalso; omega)

theorem s_X10_failure_2b {L : Nat} {iv : Nat → Nat → Int} (p : Int) {k : Nat → Int} (hk : q_KR k) (hE : q_cE k (iv 3)) (hB : q_cB k (iv 4) (iv 5) (iv 6) (iv 7) (iv 8) (iv 9)) (hS : q_cS k (iv 10) (iv 11) (iv 12) (iv 13) (iv 14)) (hC : q_cC k (iv 15) (iv 16)) (hA : q_cA k (iv 17) (iv 18) (iv 19) (iv 20)) (hO : q_cO k (iv 22) (iv 23) (iv 24)) (hL : q_cL k (iv 25)) (hP : q_cP k (iv 27)) (hci : q_CI k (iv 2) (iv 138) (iv 139) (iv 140) (iv 142) (iv 143) (iv 145) (iv 129) (iv 135)) (hcase0 : 0 ≤ p ∧ p ≤ q_p2 (k 2) - 1) (hcase1 : ¬ q_exi (fun i => 1 ≤ i ∧ q_sta k i) (k 0)) (hcase2 : ¬ q_sen k) : pz_RE (pz_Sh L) 144 [.inr (.inl 2), .inl p] iv (.inr 0) (fun iv9 => ∃ (o9 : Nat → Int) (l9 : Nat → Int) (n9 : Nat → Int) (w9 : Nat → Int) (d9 : Nat → Int) (m9 : Nat → Int) (V9 : Nat → Int) (W9 : Nat → Int) (U9 : Nat → Int) (Y9 : Nat → Int) (p9 : Nat → Int) (q9 : Nat → Int) (r9 : Nat → Int), iv9 = pz_u1 (pz_u1 (pz_u1 (pz_u1 (pz_u1 (pz_u1 (pz_u1 (pz_u1 (pz_u1 (pz_u1 (pz_u1 (pz_u1 (pz_u1 iv 2 o9) 134 l9) 138 n9) 139 w9) 140 d9) 142 m9) 143 V9) 144 W9) 145 U9) 146 Y9) 147 p9) 148 q9) 149 r9 ∧ (q_CI k o9 n9 w9 d9 m9 V9 U9 (iv 129) (iv 135)) ∧ (o9 2 = (iv 2) 2)) := by
  intro dv cc ss
  have hk0 := hk.r0
  have hE0 := hE
  have hB0 := hB.1
  have hS0 := hS.1
  have hC0 := hC.1
  have hA0 := hA.1
  have hsh := q_shl_p2 (a := k 2) (by omega) (by omega)
  have hp2 := q_p2_r (a := k 2) (by omega) (by omega)
  have hp3 := q_p2_le (a := k 2) (b := 3) (by omega) (by omega)
  have hp8 : q_p2 3 = 8 := rfl
  have hsc : pz_shl 1 (iv 10 0) = q_p2 (k 2) := by
    rw [hS.1]; exact hsh
  have hfk := q_fl_k (a := iv 153) (p := p) hk
  have hfr := q_fl_r (v := q_val k) (k := k) (p := p) (a := iv 153)
  refine pz_G_mem (iv2 := pz_u1 (pz_u1 (pz_u1 (pz_u1 (pz_u1 (pz_u1 (pz_u1 (pz_u1 (pz_u1 (pz_u1 (pz_u1 (pz_u1 (pz_u1 iv 2 (iv 2)) 134 (iv 134)) 138 (iv 138)) 139 (iv 139)) 140 (iv 140)) 142 (iv 142)) 143 (iv 143)) 144 (iv 144)) 145 (iv 145)) 146 (iv 146)) 147 (iv 147)) 148 (iv 148)) 149 (iv 149)) (by exact (((((((((((((pz_u1_self iv 2).symm).trans (pz_u1_self (pz_u1 iv 2 (iv 2)) 134).symm).trans (pz_u1_self (pz_u1 (pz_u1 iv 2 (iv 2)) 134 (iv 134)) 138).symm).trans (pz_u1_self (pz_u1 (pz_u1 (pz_u1 iv 2 (iv 2)) 134 (iv 134)) 138 (iv 138)) 139).symm).trans (pz_u1_self (pz_u1 (pz_u1 (pz_u1 (pz_u1 iv 2 (iv 2)) 134 (iv 134)) 138 (iv 138)) 139 (iv 139)) 140).symm).trans (pz_u1_self (pz_u1 (pz_u1 (pz_u1 (pz_u1 (pz_u1 iv 2 (iv 2)) 134 (iv 134)) 138 (iv 138)) 139 (iv 139)) 140 (iv 140)) 142).symm).trans (pz_u1_self (pz_u1 (pz_u1 (pz_u1 (pz_u1 (pz_u1 (pz_u1 iv 2 (iv 2)) 134 (iv 134)) 138 (iv 138)) 139 (iv 139)) 140 (iv 140)) 142 (iv 142)) 143).symm).trans (pz_u1_self (pz_u1 (pz_u1 (pz_u1 (pz_u1 (pz_u1 (pz_u1 (pz_u1 iv 2 (iv 2)) 134 (iv 134)) 138 (iv 138)) 139 (iv 139)) 140 (iv 140)) 142 (iv 142)) 143 (iv 143)) 144).symm).trans (pz_u1_self (pz_u1 (pz_u1 (pz_u1 (pz_u1 (pz_u1 (pz_u1 (pz_u1 (pz_u1 iv 2 (iv 2)) 134 (iv 134)) 138 (iv 138)) 139 (iv 139)) 140 (iv 140)) 142 (iv 142)) 143 (iv 143)) 144 (iv 144)) 145).symm).trans (pz_u1_self (pz_u1 (pz_u1 (pz_u1 (pz_u1 (pz_u1 (pz_u1 (pz_u1 (pz_u1 (pz_u1 iv 2 (iv 2)) 134 (iv 134)) 138 (iv 138)) 139 (iv 139)) 140 (iv 140)) 142 (iv 142)) 143 (iv 143)) 144 (iv 144)) 145 (iv 145)) 146).symm).trans (pz_u1_self (pz_u1 (pz_u1 (pz_u1 (pz_u1 (pz_u1 (pz_u1 (pz_u1 (pz_u1 (pz_u1 (pz_u1 iv 2 (iv 2)) 134 (iv 134)) 138 (iv 138)) 139 (iv 139)) 140 (iv 140)) 142 (iv 142)) 143 (iv 143)) 144 (iv 144)) 145 (iv 145)) 146 (iv 146)) 147).symm).trans (pz_u1_self (pz_u1 (pz_u1 (pz_u1 (pz_u1 (pz_u1 (pz_u1 (pz_u1 (pz_u1 (pz_u1 (pz_u1 (pz_u1 iv 2 (iv 2)) 134 (iv 134)) 138 (iv 138)) 139 (iv 139)) 140 (iv 140)) 142 (iv 142)) 143 (iv 143)) 144 (iv 144)) 145 (iv 145)) 146 (iv 146)) 147 (iv 147)) 148).symm).trans (pz_u1_self (pz_u1 (pz_u1 (pz_u1 (pz_u1 (pz_u1 (pz_u1 (pz_u1 (pz_u1 (pz_u1 (pz_u1 (pz_u1 (pz_u1 iv 2 (iv 2)) 134 (iv 134)) 138 (iv 138)) 139 (iv 139)) 140 (iv 140)) 142 (iv 142)) 143 (iv 143)) 144 (iv 144)) 145 (iv 145)) 146 (iv 146)) 147 (iv 147)) 148 (iv 148)) 149).symm) ?_
  show pz_G 144 0 [some (.inr (.inl 2)), some (.inl p)] [] (pz_Sh L, pz_u1 (pz_u1 (pz_u1 (pz_u1 (pz_u1 (pz_u1 (pz_u1 (pz_u1 (pz_u1 (pz_u1 (pz_u1 (pz_u1 (pz_u1 iv 2 (iv 2)) 134 (iv 134)) 138 (iv 138)) 139 (iv 139)) 140 (iv 140)) 142 (iv 142)) 143 (iv 143)) 144 (iv 144)) 145 (iv 145)) 146 (iv 146)) 147 (iv 147)) 148 (iv 148)) 149 (iv 149), dv, cc, ss) (pz_PE (pz_Sh L) (.inr 0) (fun iv9 => ∃ (o9 : Nat → Int) (l9 : Nat → Int) (n9 : Nat → Int) (w9 : Nat → Int) (d9 : Nat → Int) (m9 : Nat → Int) (V9 : Nat → Int) (W9 : Nat → Int) (U9 : Nat → Int) (Y9 : Nat → Int) (p9 : Nat → Int) (q9 : Nat → Int) (r9 : Nat → Int), iv9 = pz_u1 (pz_u1 (pz_u1 (pz_u1 (pz_u1 (pz_u1 (pz_u1 (pz_u1 (pz_u1 (pz_u1 (pz_u1 (pz_u1 (pz_u1 iv 2 o9) 134 l9) 138 n9) 139 w9) 140 d9) 142 m9) 143 V9) 144 W9) 145 U9) 146 Y9) 147 p9) 148 q9) 149 r9 ∧ (q_CI k o9 n9 w9 d9 m9 V9 U9 (iv 129) (iv 135)) ∧ (o9 2 = (iv 2) 2)) dv cc ss)
  refine pz_G_of pz_b144_0 ?_
  refine w_loc rfl ?_
  refine w_loc rfl ?_
  have hc1 : pz_RE (pz_Sh L) 174 [.inr (.inl 2), .inl p] (pz_u1 (pz_u1 (pz_u1 (pz_u1 (pz_u1 (pz_u1 (pz_u1 (pz_u1 (pz_u1 (pz_u1 (pz_u1 (pz_u1 (pz_u1 iv 2 (iv 2)) 134 (iv 134)) 138 (iv 138)) 139 (iv 139)) 140 (iv 140)) 142 (iv 142)) 143 (iv 143)) 144 (iv 144)) 145 (iv 145)) 146 (iv 146)) 147 (iv 147)) 148 (iv 148)) 149 (iv 149)) (.inr 0) _ := s_X10_needPlayable_2b (L := L) (iv := pz_u1 (pz_u1 (pz_u1 (pz_u1 (pz_u1 (pz_u1 (pz_u1 (pz_u1 (pz_u1 (pz_u1 (pz_u1 (pz_u1 (pz_u1 iv 2 (iv 2)) 134 (iv 134)) 138 (iv 138)) 139 (iv 139)) 140 (iv 140)) 142 (iv 142)) 143 (iv 143)) 144 (iv 144)) 145 (iv 145)) 146 (iv 146)) 147 (iv 147)) 148 (iv 148)) 149 (iv 149)) p (by show q_KR k; exact hk) (by show q_cE k (iv 3); exact hE) (by show q_cB k (iv 4) (iv 5) (iv 6) (iv 7) (iv 8) (iv 9); exact hB) (by show q_cS k (iv 10) (iv 11) (iv 12) (iv 13) (iv 14); exact hS) (by show q_cC k (iv 15) (iv 16); exact hC) (by show q_cA k (iv 17) (iv 18) (iv 19) (iv 20); exact hA) (by show q_cO k (iv 22) (iv 23) (iv 24); exact hO) (by show q_cL k (iv 25); exact hL) (by show q_cP k (iv 27); exact hP) (by show q_CI k (iv 2) (iv 138) (iv 139) (iv 140) (iv 142) (iv 143) (iv 145) (iv 129) (iv 135); exact hci) (by show 0 ≤ p ∧ p ≤ q_p2 (k 2) - 1; first | assumption | omega) (by show ¬ q_exi (fun i => 1 ≤ i ∧ q_sta k i) (k 0); first | assumption | omega) (by show ¬ q_sen k; first | assumption | omega)
  refine w_calleE hc1 rfl (pz_cokI is_2 rfl) rfl (fun iv9 h9 => ?_)
  obtain ⟨o9_2, l9_3, n9_4, w9_5, d9_6, m9_7, V9_8, W9_9, U9_10, Y9_11, p9_12, q9_13, r9_14, h9e, hci, ho2⟩ := h9
  have h9x : iv9 = pz_u1 (pz_u1 (pz_u1 (pz_u1 (pz_u1 (pz_u1 (pz_u1 (pz_u1 (pz_u1 (pz_u1 (pz_u1 (pz_u1 (pz_u1 iv 2 o9_2) 134 l9_3) 138 n9_4) 139 w9_5) 140 d9_6) 142 m9_7) 143 V9_8) 144 W9_9) 145 U9_10) 146 Y9_11) 147 p9_12) 148 q9_13) 149 r9_14 := h9e.trans (by rw [pz_u1_in (r := 2) (q := 149) (by decide)]; rw [pz_u1_in (r := 2) (q := 148) (by decide)]; rw [pz_u1_in (r := 2) (q := 147) (by decide)]; rw [pz_u1_in (r := 2) (q := 146) (by decide)]; rw [pz_u1_in (r := 2) (q := 145) (by decide)]; rw [pz_u1_in (r := 2) (q := 144) (by decide)]; rw [pz_u1_in (r := 2) (q := 143) (by decide)]; rw [pz_u1_in (r := 2) (q := 142) (by decide)]; rw [pz_u1_in (r := 2) (q := 140) (by decide)]; rw [pz_u1_in (r := 2) (q := 139) (by decide)]; rw [pz_u1_in (r := 2) (q := 138) (by decide)]; rw [pz_u1_in (r := 2) (q := 134) (by decide)]; rw [pz_u1_top (r := 2)]; rw [pz_u1_in (r := 134) (q := 149) (by decide)]; rw [pz_u1_in (r := 134) (q := 148) (by decide)]; rw [pz_u1_in (r := 134) (q := 147) (by decide)]; rw [pz_u1_in (r := 134) (q := 146) (by decide)]; rw [pz_u1_in (r := 134) (q := 145) (by decide)]; rw [pz_u1_in (r := 134) (q := 144) (by decide)]; rw [pz_u1_in (r := 134) (q := 143) (by decide)]; rw [pz_u1_in (r := 134) (q := 142) (by decide)]; rw [pz_u1_in (r := 134) (q := 140) (by decide)]; rw [pz_u1_in (r := 134) (q := 139) (by decide)]; rw [pz_u1_in (r := 134) (q := 138) (by decide)]; rw [pz_u1_top (r := 134)]; rw [pz_u1_in (r := 138) (q := 149) (by decide)]; rw [pz_u1_in (r := 138) (q := 148) (by decide)]; rw [pz_u1_in (r := 138) (q := 147) (by decide)]; rw [pz_u1_in (r := 138) (q := 146) (by decide)]; rw [pz_u1_in (r := 138) (q := 145) (by decide)]; rw [pz_u1_in (r := 138) (q := 144) (by decide)]; rw [pz_u1_in (r := 138) (q := 143) (by decide)]; rw [pz_u1_in (r := 138) (q := 142) (by decide)]; rw [pz_u1_in (r := 138) (q := 140) (by decide)]; rw [pz_u1_in (r := 138) (q := 139) (by decide)]; rw [pz_u1_top (r := 138)]; rw [pz_u1_in (r := 139) (q := 149) (by decide)]; rw [pz_u1_in (r := 139) (q := 148) (by decide)]; rw [pz_u1_in (r := 139) (q := 147) (by decide)]; rw [pz_u1_in (r := 139) (q := 146) (by decide)]; rw [pz_u1_in (r := 139) (q := 145) (by decide)]; rw [pz_u1_in (r := 139) (q := 144) (by decide)]; rw [pz_u1_in (r := 139) (q := 143) (by decide)]; rw [pz_u1_in (r := 139) (q := 142) (by decide)]; rw [pz_u1_in (r := 139) (q := 140) (by decide)]; rw [pz_u1_top (r := 139)]; rw [pz_u1_in (r := 140) (q := 149) (by decide)]; rw [pz_u1_in (r := 140) (q := 148) (by decide)]; rw [pz_u1_in (r := 140) (q := 147) (by decide)]; rw [pz_u1_in (r := 140) (q := 146) (by decide)]; rw [pz_u1_in (r := 140) (q := 145) (by decide)]; rw [pz_u1_in (r := 140) (q := 144) (by decide)]; rw [pz_u1_in (r := 140) (q := 143) (by decide)]; rw [pz_u1_in (r := 140) (q := 142) (by decide)]; rw [pz_u1_top (r := 140)]; rw [pz_u1_in (r := 142) (q := 149) (by decide)]; rw [pz_u1_in (r := 142) (q := 148) (by decide)]; rw [pz_u1_in (r := 142) (q := 147) (by decide)]; rw [pz_u1_in (r := 142) (q := 146) (by decide)]; rw [pz_u1_in (r := 142) (q := 145) (by decide)]; rw [pz_u1_in (r := 142) (q := 144) (by decide)]; rw [pz_u1_in (r := 142) (q := 143) (by decide)]; rw [pz_u1_top (r := 142)]; rw [pz_u1_in (r := 143) (q := 149) (by decide)]; rw [pz_u1_in (r := 143) (q := 148) (by decide)]; rw [pz_u1_in (r := 143) (q := 147) (by decide)]; rw [pz_u1_in (r := 143) (q := 146) (by decide)]; rw [pz_u1_in (r := 143) (q := 145) (by decide)]; rw [pz_u1_in (r := 143) (q := 144) (by decide)]; rw [pz_u1_top (r := 143)]; rw [pz_u1_in (r := 144) (q := 149) (by decide)]; rw [pz_u1_in (r := 144) (q := 148) (by decide)]; rw [pz_u1_in (r := 144) (q := 147) (by decide)]; rw [pz_u1_in (r := 144) (q := 146) (by decide)]; rw [pz_u1_in (r := 144) (q := 145) (by decide)]; rw [pz_u1_top (r := 144)]; rw [pz_u1_in (r := 145) (q := 149) (by decide)]; rw [pz_u1_in (r := 145) (q := 148) (by decide)]; rw [pz_u1_in (r := 145) (q := 147) (by decide)]; rw [pz_u1_in (r := 145) (q := 146) (by decide)]; rw [pz_u1_top (r := 145)]; rw [pz_u1_in (r := 146) (q := 149) (by decide)]; rw [pz_u1_in (r := 146) (q := 148) (by decide)]; rw [pz_u1_in (r := 146) (q := 147) (by decide)]; rw [pz_u1_top (r := 146)]; rw [pz_u1_in (r := 147) (q := 149) (by decide)]; rw [pz_u1_in (r := 147) (q := 148) (by decide)]; rw [pz_u1_top (r := 147)]; rw [pz_u1_in (r := 148) (q := 149) (by decide)]; rw [pz_u1_top (r := 148)]; rw [pz_u1_top (r := 149)] <;> rfl)
  subst h9x
  clear h9e hc1
  replace hci : q_CI k o9_2 n9_4 w9_5 d9_6 m9_7 V9_8 U9_10 (iv 129) (iv 135) := hci
  replace ho2 : o9_2 2 = (iv 2) 2 := ho2
  first | exact ⟨pz_u1 (pz_u1 (pz_u1 (pz_u1 (pz_u1 (pz_u1 (pz_u1 (pz_u1 (pz_u1 (pz_u1 (pz_u1 (pz_u1 (pz_u1 iv 2 o9_2) 134 l9_3) 138 n9_4) 139 w9_5) 140 d9_6) 142 m9_7) 143 V9_8) 144 W9_9) 145 U9_10) 146 Y9_11) 147 p9_12) 148 q9_13) 149 r9_14, ⟨o9_2, l9_3, n9_4, w9_5, d9_6, m9_7, V9_8, W9_9, U9_10, Y9_11, p9_12, q9_13, r9_14, by rfl, by exact hci, by exact ho2⟩, lf_e (by rfl)⟩ | (exfalso; omega)

theorem s_X10_failure_0 {L : Nat} {iv : Nat → Nat → Int} (p : Int) {k : Nat → Int} (hk : q_KR k) (hE : q_cE k (iv 3)) (hB : q_cB k (iv 4) (iv 5) (iv 6) (iv 7) (iv 8) (iv 9)) (hS : q_cS k (iv 10) (iv 11) (iv 12) (iv 13) (iv 14)) (hC : q_cC k (iv 15) (iv 16)) (hA : q_cA k (iv 17) (iv 18) (iv 19) (iv 20)) (hO : q_cO k (iv 22) (iv 23) (iv 24)) (hL : q_cL k (iv 25)) (hP : q_cP k (iv 27)) (hci : q_CI k (iv 2) (iv 138) (iv 139) (iv 140) (iv 142) (iv 143) (iv 145) (iv 129) (iv 135)) (hcase0 : 0 ≤ p ∧ p ≤ q_p2 (k 2) - 1) (hcase1 : ¬ q_exi (fun i => 1 ≤ i ∧ q_sta k i) (k 0)) (hcase2 : q_sen k) : pz_RE (pz_Sh L) 144 [.inr (.inl 2), .inl p] iv (.inl (some (.inl (q_flk k p)))) (fun iv9 => ∃ (o9 : Nat → Int) (l9 : Nat → Int) (n9 : Nat → Int) (w9 : Nat → Int) (d9 : Nat → Int) (m9 : Nat → Int) (V9 : Nat → Int) (W9 : Nat → Int) (U9 : Nat → Int) (Y9 : Nat → Int) (p9 : Nat → Int) (q9 : Nat → Int) (r9 : Nat → Int) (x9 : Nat → Int) (y9 : Nat → Int), iv9 = pz_u1 (pz_u1 (pz_u1 (pz_u1 (pz_u1 (pz_u1 (pz_u1 (pz_u1 (pz_u1 (pz_u1 (pz_u1 (pz_u1 (pz_u1 (pz_u1 (pz_u1 iv 2 o9) 134 l9) 138 n9) 139 w9) 140 d9) 142 m9) 143 V9) 144 W9) 145 U9) 146 Y9) 147 p9) 148 q9) 149 r9) 152 x9) 153 y9 ∧ (q_CI k o9 n9 w9 d9 m9 V9 U9 (iv 129) (iv 135)) ∧ (o9 2 = (iv 2) 2)) := by
  intro dv cc ss
  have hk0 := hk.r0
  have hE0 := hE
  have hB0 := hB.1
  have hS0 := hS.1
  have hC0 := hC.1
  have hA0 := hA.1
  have hsh := q_shl_p2 (a := k 2) (by omega) (by omega)
  have hp2 := q_p2_r (a := k 2) (by omega) (by omega)
  have hp3 := q_p2_le (a := k 2) (b := 3) (by omega) (by omega)
  have hp8 : q_p2 3 = 8 := rfl
  have hsc : pz_shl 1 (iv 10 0) = q_p2 (k 2) := by
    rw [hS.1]; exact hsh
  have hfk := q_fl_k (a := iv 153) (p := p) hk
  have hfr := q_fl_r (v := q_val k) (k := k) (p := p) (a := iv 153)
  refine pz_G_mem (iv2 := pz_u1 (pz_u1 (pz_u1 (pz_u1 (pz_u1 (pz_u1 (pz_u1 (pz_u1 (pz_u1 (pz_u1 (pz_u1 (pz_u1 (pz_u1 (pz_u1 (pz_u1 iv 2 (iv 2)) 134 (iv 134)) 138 (iv 138)) 139 (iv 139)) 140 (iv 140)) 142 (iv 142)) 143 (iv 143)) 144 (iv 144)) 145 (iv 145)) 146 (iv 146)) 147 (iv 147)) 148 (iv 148)) 149 (iv 149)) 152 (iv 152)) 153 (iv 153)) (by exact (((((((((((((((pz_u1_self iv 2).symm).trans (pz_u1_self (pz_u1 iv 2 (iv 2)) 134).symm).trans (pz_u1_self (pz_u1 (pz_u1 iv 2 (iv 2)) 134 (iv 134)) 138).symm).trans (pz_u1_self (pz_u1 (pz_u1 (pz_u1 iv 2 (iv 2)) 134 (iv 134)) 138 (iv 138)) 139).symm).trans (pz_u1_self (pz_u1 (pz_u1 (pz_u1 (pz_u1 iv 2 (iv 2)) 134 (iv 134)) 138 (iv 138)) 139 (iv 139)) 140).symm).trans (pz_u1_self (pz_u1 (pz_u1 (pz_u1 (pz_u1 (pz_u1 iv 2 (iv 2)) 134 (iv 134)) 138 (iv 138)) 139 (iv 139)) 140 (iv 140)) 142).symm).trans (pz_u1_self (pz_u1 (pz_u1 (pz_u1 (pz_u1 (pz_u1 (pz_u1 iv 2 (iv 2)) 134 (iv 134)) 138 (iv 138)) 139 (iv 139)) 140 (iv 140)) 142 (iv 142)) 143).symm).trans (pz_u1_self (pz_u1 (pz_u1 (pz_u1 (pz_u1 (pz_u1 (pz_u1 (pz_u1 iv 2 (iv 2)) 134 (iv 134)) 138 (iv 138)) 139 (iv 139)) 140 (iv 140)) 142 (iv 142)) 143 (iv 143)) 144).symm).trans (pz_u1_self (pz_u1 (pz_u1 (pz_u1 (pz_u1 (pz_u1 (pz_u1 (pz_u1 (pz_u1 iv 2 (iv 2)) 134 (iv 134)) 138 (iv 138)) 139 (iv 139)) 140 (iv 140)) 142 (iv 142)) 143 (iv 143)) 144 (iv 144)) 145).symm).trans (pz_u1_self (pz_u1 (pz_u1 (pz_u1 (pz_u1 (pz_u1 (pz_u1 (pz_u1 (pz_u1 (pz_u1 iv 2 (iv 2)) 134 (iv 134)) 138 (iv 138)) 139 (iv 139)) 140 (iv 140)) 142 (iv 142)) 143 (iv 143)) 144 (iv 144)) 145 (iv 145)) 146).symm).trans (pz_u1_self (pz_u1 (pz_u1 (pz_u1 (pz_u1 (pz_u1 (pz_u1 (pz_u1 (pz_u1 (pz_u1 (pz_u1 iv 2 (iv 2)) 134 (iv 134)) 138 (iv 138)) 139 (iv 139)) 140 (iv 140)) 142 (iv 142)) 143 (iv 143)) 144 (iv 144)) 145 (iv 145)) 146 (iv 146)) 147).symm).trans (pz_u1_self (pz_u1 (pz_u1 (pz_u1 (pz_u1 (pz_u1 (pz_u1 (pz_u1 (pz_u1 (pz_u1 (pz_u1 (pz_u1 iv 2 (iv 2)) 134 (iv 134)) 138 (iv 138)) 139 (iv 139)) 140 (iv 140)) 142 (iv 142)) 143 (iv 143)) 144 (iv 144)) 145 (iv 145)) 146 (iv 146)) 147 (iv 147)) 148).symm).trans (pz_u1_self (pz_u1 (pz_u1 (pz_u1 (pz_u1 (pz_u1 (pz_u1 (pz_u1 (pz_u1 (pz_u1 (pz_u1 (pz_u1 (pz_u1 iv 2 (iv 2)) 134 (iv 134)) 138 (iv 138)) 139 (iv 139)) 140 (iv 140)) 142 (iv 142)) 143 (iv 143)) 144 (iv 144)) 145 (iv 145)) 146 (iv 146)) 147 (iv 147)) 148 (iv 148)) 149).symm).trans (pz_u1_self (pz_u1 (pz_u1 (pz_u1 (pz_u1 (pz_u1 (pz_u1 (pz_u1 (pz_u1 (pz_u1 (pz_u1 (pz_u1 (pz_u1 (pz_u1 iv 2 (iv 2)) 134 (iv 134)) 138 (iv 138)) 139 (iv 139)) 140 (iv 140)) 142 (iv 142)) 143 (iv 143)) 144 (iv 144)) 145 (iv 145)) 146 (iv 146)) 147 (iv 147)) 148 (iv 148)) 149 (iv 149)) 152).symm).trans (pz_u1_self (pz_u1 (pz_u1 (pz_u1 (pz_u1 (pz_u1 (pz_u1 (pz_u1 (pz_u1 (pz_u1 (pz_u1 (pz_u1 (pz_u1 (pz_u1 (pz_u1 iv 2 (iv 2)) 134 (iv 134)) 138 (iv 138)) 139 (iv 139)) 140 (iv 140)) 142 (iv 142)) 143 (iv 143)) 144 (iv 144)) 145 (iv 145)) 146 (iv 146)) 147 (iv 147)) 148 (iv 148)) 149 (iv 149)) 152 (iv 152)) 153).symm) ?_
  show pz_G 144 0 [some (.inr (.inl 2)), some (.inl p)] [] (pz_Sh L, pz_u1 (pz_u1 (pz_u1 (pz_u1 (pz_u1 (pz_u1 (pz_u1 (pz_u1 (pz_u1 (pz_u1 (pz_u1 (pz_u1 (pz_u1 (pz_u1 (pz_u1 iv 2 (iv 2)) 134 (iv 134)) 138 (iv 138)) 139 (iv 139)) 140 (iv 140)) 142 (iv 142)) 143 (iv 143)) 144 (iv 144)) 145 (iv 145)) 146 (iv 146)) 147 (iv 147)) 148 (iv 148)) 149 (iv 149)) 152 (iv 152)) 153 (iv 153), dv, cc, ss) (pz_PE (pz_Sh L) (.inl (some (.inl (q_flk k p)))) (fun iv9 => ∃ (o9 : Nat → Int) (l9 : Nat → Int) (n9 : Nat → Int) (w9 : Nat → Int) (d9 : Nat → Int) (m9 : Nat → Int) (V9 : Nat → Int) (W9 : Nat → Int) (U9 : Nat → Int) (Y9 : Nat → Int) (p9 : Nat → Int) (q9 : Nat → Int) (r9 : Nat → Int) (x9 : Nat → Int) (y9 : Nat → Int), iv9 = pz_u1 (pz_u1 (pz_u1 (pz_u1 (pz_u1 (pz_u1 (pz_u1 (pz_u1 (pz_u1 (pz_u1 (pz_u1 (pz_u1 (pz_u1 (pz_u1 (pz_u1 iv 2 o9) 134 l9) 138 n9) 139 w9) 140 d9) 142 m9) 143 V9) 144 W9) 145 U9) 146 Y9) 147 p9) 148 q9) 149 r9) 152 x9) 153 y9 ∧ (q_CI k o9 n9 w9 d9 m9 V9 U9 (iv 129) (iv 135)) ∧ (o9 2 = (iv 2) 2)) dv cc ss)
  refine pz_G_of pz_b144_0 ?_
  refine w_loc rfl ?_
  refine w_loc rfl ?_
  have hc1 : pz_RE (pz_Sh L) 174 [.inr (.inl 2), .inl p] (pz_u1 (pz_u1 (pz_u1 (pz_u1 (pz_u1 (pz_u1 (pz_u1 (pz_u1 (pz_u1 (pz_u1 (pz_u1 (pz_u1 (pz_u1 (pz_u1 (pz_u1 iv 2 (iv 2)) 134 (iv 134)) 138 (iv 138)) 139 (iv 139)) 140 (iv 140)) 142 (iv 142)) 143 (iv 143)) 144 (iv 144)) 145 (iv 145)) 146 (iv 146)) 147 (iv 147)) 148 (iv 148)) 149 (iv 149)) 152 (iv 152)) 153 (iv 153)) (.inl none) _ := s_X10_needPlayable_0 (L := L) (iv := pz_u1 (pz_u1 (pz_u1 (pz_u1 (pz_u1 (pz_u1 (pz_u1 (pz_u1 (pz_u1 (pz_u1 (pz_u1 (pz_u1 (pz_u1 (pz_u1 (pz_u1 iv 2 (iv 2)) 134 (iv 134)) 138 (iv 138)) 139 (iv 139)) 140 (iv 140)) 142 (iv 142)) 143 (iv 143)) 144 (iv 144)) 145 (iv 145)) 146 (iv 146)) 147 (iv 147)) 148 (iv 148)) 149 (iv 149)) 152 (iv 152)) 153 (iv 153)) p (by show q_KR k; exact hk) (by show q_cE k (iv 3); exact hE) (by show q_cB k (iv 4) (iv 5) (iv 6) (iv 7) (iv 8) (iv 9); exact hB) (by show q_cS k (iv 10) (iv 11) (iv 12) (iv 13) (iv 14); exact hS) (by show q_cC k (iv 15) (iv 16); exact hC) (by show q_cA k (iv 17) (iv 18) (iv 19) (iv 20); exact hA) (by show q_cO k (iv 22) (iv 23) (iv 24); exact hO) (by show q_cL k (iv 25); exact hL) (by show q_cP k (iv 27); exact hP) (by show q_CI k (iv 2) (iv 138) (iv 139) (iv 140) (iv 142) (iv 143) (iv 145) (iv 129) (iv 135); exact hci) (by show 0 ≤ p ∧ p ≤ q_p2 (k 2) - 1; first | assumption | omega) (by show ¬ q_exi (fun i => 1 ≤ i ∧ q_sta k i) (k 0); first | assumption | omega) (by show q_sen k; first | assumption | omega)
  refine w_callvE hc1 rfl (pz_cokI is_2 rfl) (fun iv9 h9 => ?_)
  obtain ⟨o9_2, l9_3, n9_4, w9_5, d9_6, m9_7, V9_8, W9_9, U9_10, Y9_11, p9_12, q9_13, r9_14, h9e, hci, ho2, hRK⟩ := h9
  have h9x : iv9 = pz_u1 (pz_u1 (pz_u1 (pz_u1 (pz_u1 (pz_u1 (pz_u1 (pz_u1 (pz_u1 (pz_u1 (pz_u1 (pz_u1 (pz_u1 (pz_u1 (pz_u1 iv 2 o9_2) 134 l9_3) 138 n9_4) 139 w9_5) 140 d9_6) 142 m9_7) 143 V9_8) 144 W9_9) 145 U9_10) 146 Y9_11) 147 p9_12) 148 q9_13) 149 r9_14) 152 (iv 152)) 153 (iv 153) := h9e.trans (by rw [pz_u1_in (r := 2) (q := 153) (by decide)]; rw [pz_u1_in (r := 2) (q := 152) (by decide)]; rw [pz_u1_in (r := 2) (q := 149) (by decide)]; rw [pz_u1_in (r := 2) (q := 148) (by decide)]; rw [pz_u1_in (r := 2) (q := 147) (by decide)]; rw [pz_u1_in (r := 2) (q := 146) (by decide)]; rw [pz_u1_in (r := 2) (q := 145) (by decide)]; rw [pz_u1_in (r := 2) (q := 144) (by decide)]; rw [pz_u1_in (r := 2) (q := 143) (by decide)]; rw [pz_u1_in (r := 2) (q := 142) (by decide)]; rw [pz_u1_in (r := 2) (q := 140) (by decide)]; rw [pz_u1_in (r := 2) (q := 139) (by decide)]; rw [pz_u1_in (r := 2) (q := 138) (by decide)]; rw [pz_u1_in (r := 2) (q := 134) (by decide)]; rw [pz_u1_top (r := 2)]; rw [pz_u1_in (r := 134) (q := 153) (by decide)]; rw [pz_u1_in (r := 134) (q := 152) (by decide)]; rw [pz_u1_in (r := 134) (q := 149) (by decide)]; rw [pz_u1_in (r := 134) (q := 148) (by decide)]; rw [pz_u1_in (r := 134) (q := 147) (by decide)]; rw [pz_u1_in (r := 134) (q := 146) (by decide)]; rw [pz_u1_in (r := 134) (q := 145) (by decide)]; rw [pz_u1_in (r := 134) (q := 144) (by decide)]; rw [pz_u1_in (r := 134) (q := 143) (by decide)]; rw [pz_u1_in (r := 134) (q := 142) (by decide)]; rw [pz_u1_in (r := 134) (q := 140) (by decide)]; rw [pz_u1_in (r := 134) (q := 139) (by decide)]; rw [pz_u1_in (r := 134) (q := 138) (by decide)]; rw [pz_u1_top (r := 134)]; rw [pz_u1_in (r := 138) (q := 153) (by decide)]; rw [pz_u1_in (r := 138) (q := 152) (by decide)]; rw [pz_u1_in (r := 138) (q := 149) (by decide)]; rw [pz_u1_in (r := 138) (q := 148) (by decide)]; rw [pz_u1_in (r := 138) (q := 147) (by decide)]; rw [pz_u1_in (r := 138) (q := 146) (by decide)]; rw [pz_u1_in (r := 138) (q := 145) (by decide)]; rw [pz_u1_in (r := 138) (q := 144) (by decide)]; rw [pz_u1_in (r := 138) (q := 143) (by decide)]; rw [pz_u1_in (r := 138) (q := 142) (by decide)]; rw [pz_u1_in (r := 138) (q := 140) (by decide)]; rw [pz_u1_in (r := 138) (q := 139) (by decide)]; rw [pz_u1_top (r := 138)]; rw [pz_u1_in (r := 139) (q := 153) (by decide)]; rw [pz_u1_in (r := 139) (q := 152) (by decide)]; rw [pz_u1_in (r := 139) (q := 149) (by decide)]; rw [pz_u1_in (r := 139) (q := 148) (by decide)]; rw [pz_u1_in (r := 139) (q := 147) (by decide)]; rw [pz_u1_in (r := 139) (q := 146) (by decide)]; rw [pz_u1_in (r := 139) (q := 145) (by decide)]; rw [pz_u1_in (r := 139) (q := 144) (by decide)]; rw [pz_u1_in (r := 139) (q := 143) (by decide)]; rw [pz_u1_in (r := 139) (q := 142) (by decide)]; rw [pz_u1_in (r := 139) (q := 140) (by decide)]; rw [pz_u1_top (r := 139)]; rw [pz_u1_in (r := 140) (q := 153) (by decide)]; rw [pz_u1_in (r := 140) (q := 152) (by decide)]; rw [pz_u1_in (r := 140) (q := 149) (by decide)]; rw [pz_u1_in (r := 140) (q := 148) (by decide)]; rw [pz_u1_in (r := 140) (q := 147) (by decide)]; rw [pz_u1_in (r := 140) (q := 146) (by decide)]; rw [pz_u1_in (r := 140) (q := 145) (by decide)]; rw [pz_u1_in (r := 140) (q := 144) (by decide)]; rw [pz_u1_in (r := 140) (q := 143) (by decide)]; rw [pz_u1_in (r := 140) (q := 142) (by decide)]; rw [pz_u1_top (r := 140)]; rw [pz_u1_in (r := 142) (q := 153) (by decide)]; rw [pz_u1_in (r := 142) (q := 152) (by decide)]; rw [pz_u1_in (r := 142) (q := 149) (by decide)]; rw [pz_u1_in (r := 142) (q := 148) (by decide)]; rw [pz_u1_in (r := 142) (q := 147) (by decide)]; rw [pz_u1_in (r := 142) (q := 146) (by decide)]; rw [pz_u1_in (r := 142) (q := 145) (by decide)]; rw [pz_u1_in (r := 142) (q := 144) (by decide)]; rw [pz_u1_in (r := 142) (q := 143) (by decide)]; rw [pz_u1_top (r := 142)]; rw [pz_u1_in (r := 143) (q := 153) (by decide)]; rw [pz_u1_in (r := 143) (q := 152) (by decide)]; rw [pz_u1_in (r := 143) (q := 149) (by decide)]; rw [pz_u1_in (r := 143) (q := 148) (by decide)]; rw [pz_u1_in (r := 143) (q := 147) (by decide)]; rw [pz_u1_in (r := 143) (q := 146) (by decide)]; rw [pz_u1_in (r := 143) (q := 145) (by decide)]; rw [pz_u1_in (r := 143) (q := 144) (by decide)]; rw [pz_u1_top (r := 143)]; rw [pz_u1_in (r := 144) (q := 153) (by decide)]; rw [pz_u1_in (r := 144) (q := 152) (by decide)]; rw [pz_u1_in (r := 144) (q := 149) (by decide)]; rw [pz_u1_in (r := 144) (q := 148) (by decide)]; rw [pz_u1_in (r := 144) (q := 147) (by decide)]; rw [pz_u1_in (r := 144) (q := 146) (by decide)]; rw [pz_u1_in (r := 144) (q := 145) (by decide)]; rw [pz_u1_top (r := 144)]; rw [pz_u1_in (r := 145) (q := 153) (by decide)]; rw [pz_u1_in (r := 145) (q := 152) (by decide)]; rw [pz_u1_in (r := 145) (q := 149) (by decide)]; rw [pz_u1_in (r := 145) (q := 148) (by decide)]; rw [pz_u1_in (r := 145) (q := 147) (by decide)]; rw [pz_u1_in (r := 145) (q := 146) (by decide)]; rw [pz_u1_top (r := 145)]; rw [pz_u1_in (r := 146) (q := 153) (by decide)]; rw [pz_u1_in (r := 146) (q := 152) (by decide)]; rw [pz_u1_in (r := 146) (q := 149) (by decide)]; rw [pz_u1_in (r := 146) (q := 148) (by decide)]; rw [pz_u1_in (r := 146) (q := 147) (by decide)]; rw [pz_u1_top (r := 146)]; rw [pz_u1_in (r := 147) (q := 153) (by decide)]; rw [pz_u1_in (r := 147) (q := 152) (by decide)]; rw [pz_u1_in (r := 147) (q := 149) (by decide)]; rw [pz_u1_in (r := 147) (q := 148) (by decide)]; rw [pz_u1_top (r := 147)]; rw [pz_u1_in (r := 148) (q := 153) (by decide)]; rw [pz_u1_in (r := 148) (q := 152) (by decide)]; rw [pz_u1_in (r := 148) (q := 149) (by decide)]; rw [pz_u1_top (r := 148)]; rw [pz_u1_in (r := 149) (q := 153) (by decide)]; rw [pz_u1_in (r := 149) (q := 152) (by decide)]; rw [pz_u1_top (r := 149)] <;> rfl)
  subst h9x
  clear h9e hc1
  replace hci : q_CI k o9_2 n9_4 w9_5 d9_6 m9_7 V9_8 U9_10 (iv 129) (iv 135) := hci
  replace ho2 : o9_2 2 = (iv 2) 2 := ho2
  replace hRK : q_RK k m9_7 V9_8 U9_10 := hRK
  refine w_loc rfl ?_
  refine w_getR (q := 151) is_2 rf_2_6 ?_
  refine w_loc rfl ?_
  have hc15 : pz_RE (pz_Sh L) 76 [.inr (.inl 151), .inl p] (pz_u1 (pz_u1 (pz_u1 (pz_u1 (pz_u1 (pz_u1 (pz_u1 (pz_u1 (pz_u1 (pz_u1 (pz_u1 (pz_u1 (pz_u1 (pz_u1 (pz_u1 iv 2 o9_2) 134 l9_3) 138 n9_4) 139 w9_5) 140 d9_6) 142 m9_7) 143 V9_8) 144 W9_9) 145 U9_10) 146 Y9_11) 147 p9_12) 148 q9_13) 149 r9_14) 152 (iv 152)) 153 (iv 153)) (.inl (some (.inl (q_fl (q_val k) k p (iv 153))))) _ := s_X7_failureOf (L := L) (iv := pz_u1 (pz_u1 (pz_u1 (pz_u1 (pz_u1 (pz_u1 (pz_u1 (pz_u1 (pz_u1 (pz_u1 (pz_u1 (pz_u1 (pz_u1 (pz_u1 (pz_u1 iv 2 o9_2) 134 l9_3) 138 n9_4) 139 w9_5) 140 d9_6) 142 m9_7) 143 V9_8) 144 W9_9) 145 U9_10) 146 Y9_11) 147 p9_12) 148 q9_13) 149 r9_14) 152 (iv 152)) 153 (iv 153)) p (by show q_KR k; exact hk) (by show q_cE k (iv 3); exact hE) (by show q_cB k (iv 4) (iv 5) (iv 6) (iv 7) (iv 8) (iv 9); exact hB) (by show q_cS k (iv 10) (iv 11) (iv 12) (iv 13) (iv 14); exact hS) (by show q_cL k (iv 25); exact hL) (by show 0 ≤ p ∧ p ≤ 15; omega) (by show q_VU k (q_val k) V9_8 U9_10; exact hRK.2.2 (by assumption)) (by show q_vb (q_val k); exact q_vb_val hk (by assumption))
  refine w_callE hc15 rfl (pz_cokI is_151 rfl) (fun iv9 h9 => ?_)
  obtain ⟨x9_16, h9e, hx9⟩ := h9
  have h9x : iv9 = pz_u1 (pz_u1 (pz_u1 (pz_u1 (pz_u1 (pz_u1 (pz_u1 (pz_u1 (pz_u1 (pz_u1 (pz_u1 (pz_u1 (pz_u1 (pz_u1 (pz_u1 iv 2 o9_2) 134 l9_3) 138 n9_4) 139 w9_5) 140 d9_6) 142 m9_7) 143 V9_8) 144 W9_9) 145 U9_10) 146 Y9_11) 147 p9_12) 148 q9_13) 149 r9_14) 152 x9_16) 153 (q_pl (q_val k) k p (iv 153)) := h9e.trans (by rw [pz_u1_in (r := 152) (q := 153) (by decide)]; rw [pz_u1_top (r := 152)]; rw [pz_u1_top (r := 153)] <;> rfl)
  subst h9x
  clear h9e hc15
  replace hx9 : 0 ≤ x9_16 0 ∧ x9_16 0 ≤ 601 := hx9
  refine w_ret (pz_rok2 (by omega)) ?_
  first | exact ⟨pz_u1 (pz_u1 (pz_u1 (pz_u1 (pz_u1 (pz_u1 (pz_u1 (pz_u1 (pz_u1 (pz_u1 (pz_u1 (pz_u1 (pz_u1 (pz_u1 (pz_u1 iv 2 o9_2) 134 l9_3) 138 n9_4) 139 w9_5) 140 d9_6) 142 m9_7) 143 V9_8) 144 W9_9) 145 U9_10) 146 Y9_11) 147 p9_12) 148 q9_13) 149 r9_14) 152 x9_16) 153 (q_pl (q_val k) k p (iv 153)), ⟨o9_2, l9_3, n9_4, w9_5, d9_6, m9_7, V9_8, W9_9, U9_10, Y9_11, p9_12, q9_13, r9_14, x9_16, (q_pl (q_val k) k p (iv 153)), by rfl, by exact hci, by exact ho2⟩, lf_i (by exact hfk) (by rfl)⟩ | (exfalso; omega)

theorem s_X10_play_1 {L : Nat} {iv : Nat → Nat → Int} (p : Int) {k : Nat → Int} (hk : q_KR k) (hE : q_cE k (iv 3)) (hB : q_cB k (iv 4) (iv 5) (iv 6) (iv 7) (iv 8) (iv 9)) (hS : q_cS k (iv 10) (iv 11) (iv 12) (iv 13) (iv 14)) (hC : q_cC k (iv 15) (iv 16)) (hA : q_cA k (iv 17) (iv 18) (iv 19) (iv 20)) (hO : q_cO k (iv 22) (iv 23) (iv 24)) (hL : q_cL k (iv 25)) (hP : q_cP k (iv 27)) (hci : q_CI k (iv 2) (iv 138) (iv 139) (iv 140) (iv 142) (iv 143) (iv 145) (iv 129) (iv 135)) (hcase0 : ¬ (0 ≤ p ∧ p ≤ q_p2 (k 2) - 1)) : pz_R (pz_Sh L) 143 [.inr (.inl 2), .inl p] iv (.inr 1) iv := by
  intro dv cc ss
  have hk0 := hk.r0
  have hE0 := hE
  have hB0 := hB.1
  have hS0 := hS.1
  have hC0 := hC.1
  have hA0 := hA.1
  have hsh := q_shl_p2 (a := k 2) (by omega) (by omega)
  have hp2 := q_p2_r (a := k 2) (by omega) (by omega)
  have hp3 := q_p2_le (a := k 2) (b := 3) (by omega) (by omega)
  have hp8 : q_p2 3 = 8 := rfl
  have hsc : pz_shl 1 (iv 10 0) = q_p2 (k 2) := by
    rw [hS.1]; exact hsh
  have hfk := q_fl_k (a := iv 153) (p := p) hk
  have hfr := q_fl_r (v := q_val k) (k := k) (p := p) (a := iv 153)
  show pz_G 143 0 [some (.inr (.inl 2)), some (.inl p)] [] (pz_Sh L, iv, dv, cc, ss) (pz_P (pz_Sh L) (.inr 1) iv dv cc ss)
  refine pz_G_of pz_b143_0 ?_
  refine w_loc rfl ?_
  refine w_loc rfl ?_
  have hc1 : pz_R (pz_Sh L) 174 [.inr (.inl 2), .inl p] (iv) (.inr 1) (iv) := s_X10_needPlayable_1 p (by exact hk) (by first | exact hE | exact ⟨hE.1, rfl⟩) (by exact hB) (by exact hS) (by exact hC) (by exact hA) (by exact hO) (by exact hL) (by exact hP) (by exact hci) (by first | assumption | omega)
  refine w_calle hc1 rfl (pz_cokI is_2 rfl) rfl ?_
  first | exact lf_e (by rfl) | (exfalso; omega)

theorem s_X10_play_2a {L : Nat} {iv : Nat → Nat → Int} (p : Int) {k : Nat → Int} (hk : q_KR k) (hE : q_cE k (iv 3)) (hB : q_cB k (iv 4) (iv 5) (iv 6) (iv 7) (iv 8) (iv 9)) (hS : q_cS k (iv 10) (iv 11) (iv 12) (iv 13) (iv 14)) (hC : q_cC k (iv 15) (iv 16)) (hA : q_cA k (iv 17) (iv 18) (iv 19) (iv 20)) (hO : q_cO k (iv 22) (iv 23) (iv 24)) (hL : q_cL k (iv 25)) (hP : q_cP k (iv 27)) (hci : q_CI k (iv 2) (iv 138) (iv 139) (iv 140) (iv 142) (iv 143) (iv 145) (iv 129) (iv 135)) (hcase0 : 0 ≤ p ∧ p ≤ q_p2 (k 2) - 1) (hcase1 : q_exi (fun i => 1 ≤ i ∧ q_sta k i) (k 0)) : pz_R (pz_Sh L) 143 [.inr (.inl 2), .inl p] iv (.inr 0) iv := by
  intro dv cc ss
  have hk0 := hk.r0
  have hE0 := hE
  have hB0 := hB.1
  have hS0 := hS.1
  have hC0 := hC.1
  have hA0 := hA.1
  have hsh := q_shl_p2 (a := k 2) (by omega) (by omega)
  have hp2 := q_p2_r (a := k 2) (by omega) (by omega)
  have hp3 := q_p2_le (a := k 2) (b := 3) (by omega) (by omega)
  have hp8 : q_p2 3 = 8 := rfl
  have hsc : pz_shl 1 (iv 10 0) = q_p2 (k 2) := by
    rw [hS.1]; exact hsh
  have hfk := q_fl_k (a := iv 153) (p := p) hk
  have hfr := q_fl_r (v := q_val k) (k := k) (p := p) (a := iv 153)
  show pz_G 143 0 [some (.inr (.inl 2)), some (.inl p)] [] (pz_Sh L, iv, dv, cc, ss) (pz_P (pz_Sh L) (.inr 0) iv dv cc ss)
  refine pz_G_of pz_b143_0 ?_
  refine w_loc rfl ?_
  refine w_loc rfl ?_
  have hc1 : pz_R (pz_Sh L) 174 [.inr (.inl 2), .inl p] (iv) (.inr 0) (iv) := s_X10_needPlayable_2a p (by exact hk) (by first | exact hE | exact ⟨hE.1, rfl⟩) (by exact hB) (by exact hS) (by exact hC) (by exact hA) (by exact hO) (by exact hL) (by exact hP) (by exact hci) (by first | assumption | omega) (by first | assumption | omega)
  refine w_calle hc1 rfl (pz_cokI is_2 rfl) rfl ?_
  first | exact lf_e (by rfl) | (exfalso; omega)

theorem s_X10_play_2b {L : Nat} {iv : Nat → Nat → Int} (p : Int) {k : Nat → Int} (hk : q_KR k) (hE : q_cE k (iv 3)) (hB : q_cB k (iv 4) (iv 5) (iv 6) (iv 7) (iv 8) (iv 9)) (hS : q_cS k (iv 10) (iv 11) (iv 12) (iv 13) (iv 14)) (hC : q_cC k (iv 15) (iv 16)) (hA : q_cA k (iv 17) (iv 18) (iv 19) (iv 20)) (hO : q_cO k (iv 22) (iv 23) (iv 24)) (hL : q_cL k (iv 25)) (hP : q_cP k (iv 27)) (hci : q_CI k (iv 2) (iv 138) (iv 139) (iv 140) (iv 142) (iv 143) (iv 145) (iv 129) (iv 135)) (hcase0 : 0 ≤ p ∧ p ≤ q_p2 (k 2) - 1) (hcase1 : ¬ q_exi (fun i => 1 ≤ i ∧ q_sta k i) (k 0)) (hcase2 : ¬ q_sen k) : pz_RE (pz_Sh L) 143 [.inr (.inl 2), .inl p] iv (.inr 0) (fun iv9 => ∃ (o9 : Nat → Int) (l9 : Nat → Int) (n9 : Nat → Int) (w9 : Nat → Int) (d9 : Nat → Int) (m9 : Nat → Int) (V9 : Nat → Int) (W9 : Nat → Int) (U9 : Nat → Int) (Y9 : Nat → Int) (p9 : Nat → Int) (q9 : Nat → Int) (r9 : Nat → Int), iv9 = pz_u1 (pz_u1 (pz_u1 (pz_u1 (pz_u1 (pz_u1 (pz_u1 (pz_u1 (pz_u1 (pz_u1 (pz_u1 (pz_u1 (pz_u1 iv 2 o9) 134 l9) 138 n9) 139 w9) 140 d9) 142 m9) 143 V9) 144 W9) 145 U9) 146 Y9) 147 p9) 148 q9) 149 r9 ∧ (q_CI k o9 n9 w9 d9 m9 V9 U9 (iv 129) (iv 135)) ∧ (o9 2 = (iv 2) 2)) := by
  intro dv cc ss
  have hk0 := hk.r0
  have hE0 := hE
  have hB0 := hB.1
  have hS0 := hS.1
  have hC0 := hC.1
  have hA0 := hA.1
  have hsh := q_shl_p2 (a := k 2) (by omega) (by omega)
  have hp2 := q_p2_r (a := k 2) (by omega) (by omega)
  have hp3 := q_p2_le (a := k 2) (b := 3) (by omega) (by omega)
  have hp8 : q_p2 3 = 8 := rfl
  have hsc : pz_shl 1 (iv 10 0) = q_p2 (k 2) := by
    rw [hS.1]; exact hsh
  have hfk := q_fl_k (a := iv 153) (p := p) hk
  have hfr := q_fl_r (v := q_val k) (k := k) (p := p) (a := iv 153)
  refine pz_G_mem (iv2 := pz_u1 (pz_u1 (pz_u1 (pz_u1 (pz_u1 (pz_u1 (pz_u1 (pz_u1 (pz_u1 (pz_u1 (pz_u1 (pz_u1 (pz_u1 iv 2 (iv 2)) 134 (iv 134)) 138 (iv 138)) 139 (iv 139)) 140 (iv 140)) 142 (iv 142)) 143 (iv 143)) 144 (iv 144)) 145 (iv 145)) 146 (iv 146)) 147 (iv 147)) 148 (iv 148)) 149 (iv 149)) (by exact (((((((((((((pz_u1_self iv 2).symm).trans (pz_u1_self (pz_u1 iv 2 (iv 2)) 134).symm).trans (pz_u1_self (pz_u1 (pz_u1 iv 2 (iv 2)) 134 (iv 134)) 138).symm).trans (pz_u1_self (pz_u1 (pz_u1 (pz_u1 iv 2 (iv 2)) 134 (iv 134)) 138 (iv 138)) 139).symm).trans (pz_u1_self (pz_u1 (pz_u1 (pz_u1 (pz_u1 iv 2 (iv 2)) 134 (iv 134)) 138 (iv 138)) 139 (iv 139)) 140).symm).trans (pz_u1_self (pz_u1 (pz_u1 (pz_u1 (pz_u1 (pz_u1 iv 2 (iv 2)) 134 (iv 134)) 138 (iv 138)) 139 (iv 139)) 140 (iv 140)) 142).symm).trans (pz_u1_self (pz_u1 (pz_u1 (pz_u1 (pz_u1 (pz_u1 (pz_u1 iv 2 (iv 2)) 134 (iv 134)) 138 (iv 138)) 139 (iv 139)) 140 (iv 140)) 142 (iv 142)) 143).symm).trans (pz_u1_self (pz_u1 (pz_u1 (pz_u1 (pz_u1 (pz_u1 (pz_u1 (pz_u1 iv 2 (iv 2)) 134 (iv 134)) 138 (iv 138)) 139 (iv 139)) 140 (iv 140)) 142 (iv 142)) 143 (iv 143)) 144).symm).trans (pz_u1_self (pz_u1 (pz_u1 (pz_u1 (pz_u1 (pz_u1 (pz_u1 (pz_u1 (pz_u1 iv 2 (iv 2)) 134 (iv 134)) 138 (iv 138)) 139 (iv 139)) 140 (iv 140)) 142 (iv 142)) 143 (iv 143)) 144 (iv 144)) 145).symm).trans (pz_u1_self (pz_u1 (pz_u1 (pz_u1 (pz_u1 (pz_u1 (pz_u1 (pz_u1 (pz_u1 (pz_u1 iv 2 (iv 2)) 134 (iv 134)) 138 (iv 138)) 139 (iv 139)) 140 (iv 140)) 142 (iv 142)) 143 (iv 143)) 144 (iv 144)) 145 (iv 145)) 146).symm).trans (pz_u1_self (pz_u1 (pz_u1 (pz_u1 (pz_u1 (pz_u1 (pz_u1 (pz_u1 (pz_u1 (pz_u1 (pz_u1 iv 2 (iv 2)) 134 (iv 134)) 138 (iv 138)) 139 (iv 139)) 140 (iv 140)) 142 (iv 142)) 143 (iv 143)) 144 (iv 144)) 145 (iv 145)) 146 (iv 146)) 147).symm).trans (pz_u1_self (pz_u1 (pz_u1 (pz_u1 (pz_u1 (pz_u1 (pz_u1 (pz_u1 (pz_u1 (pz_u1 (pz_u1 (pz_u1 iv 2 (iv 2)) 134 (iv 134)) 138 (iv 138)) 139 (iv 139)) 140 (iv 140)) 142 (iv 142)) 143 (iv 143)) 144 (iv 144)) 145 (iv 145)) 146 (iv 146)) 147 (iv 147)) 148).symm).trans (pz_u1_self (pz_u1 (pz_u1 (pz_u1 (pz_u1 (pz_u1 (pz_u1 (pz_u1 (pz_u1 (pz_u1 (pz_u1 (pz_u1 (pz_u1 iv 2 (iv 2)) 134 (iv 134)) 138 (iv 138)) 139 (iv 139)) 140 (iv 140)) 142 (iv 142)) 143 (iv 143)) 144 (iv 144)) 145 (iv 145)) 146 (iv 146)) 147 (iv 147)) 148 (iv 148)) 149).symm) ?_
  show pz_G 143 0 [some (.inr (.inl 2)), some (.inl p)] [] (pz_Sh L, pz_u1 (pz_u1 (pz_u1 (pz_u1 (pz_u1 (pz_u1 (pz_u1 (pz_u1 (pz_u1 (pz_u1 (pz_u1 (pz_u1 (pz_u1 iv 2 (iv 2)) 134 (iv 134)) 138 (iv 138)) 139 (iv 139)) 140 (iv 140)) 142 (iv 142)) 143 (iv 143)) 144 (iv 144)) 145 (iv 145)) 146 (iv 146)) 147 (iv 147)) 148 (iv 148)) 149 (iv 149), dv, cc, ss) (pz_PE (pz_Sh L) (.inr 0) (fun iv9 => ∃ (o9 : Nat → Int) (l9 : Nat → Int) (n9 : Nat → Int) (w9 : Nat → Int) (d9 : Nat → Int) (m9 : Nat → Int) (V9 : Nat → Int) (W9 : Nat → Int) (U9 : Nat → Int) (Y9 : Nat → Int) (p9 : Nat → Int) (q9 : Nat → Int) (r9 : Nat → Int), iv9 = pz_u1 (pz_u1 (pz_u1 (pz_u1 (pz_u1 (pz_u1 (pz_u1 (pz_u1 (pz_u1 (pz_u1 (pz_u1 (pz_u1 (pz_u1 iv 2 o9) 134 l9) 138 n9) 139 w9) 140 d9) 142 m9) 143 V9) 144 W9) 145 U9) 146 Y9) 147 p9) 148 q9) 149 r9 ∧ (q_CI k o9 n9 w9 d9 m9 V9 U9 (iv 129) (iv 135)) ∧ (o9 2 = (iv 2) 2)) dv cc ss)
  refine pz_G_of pz_b143_0 ?_
  refine w_loc rfl ?_
  refine w_loc rfl ?_
  have hc1 : pz_RE (pz_Sh L) 174 [.inr (.inl 2), .inl p] (pz_u1 (pz_u1 (pz_u1 (pz_u1 (pz_u1 (pz_u1 (pz_u1 (pz_u1 (pz_u1 (pz_u1 (pz_u1 (pz_u1 (pz_u1 iv 2 (iv 2)) 134 (iv 134)) 138 (iv 138)) 139 (iv 139)) 140 (iv 140)) 142 (iv 142)) 143 (iv 143)) 144 (iv 144)) 145 (iv 145)) 146 (iv 146)) 147 (iv 147)) 148 (iv 148)) 149 (iv 149)) (.inr 0) _ := s_X10_needPlayable_2b (L := L) (iv := pz_u1 (pz_u1 (pz_u1 (pz_u1 (pz_u1 (pz_u1 (pz_u1 (pz_u1 (pz_u1 (pz_u1 (pz_u1 (pz_u1 (pz_u1 iv 2 (iv 2)) 134 (iv 134)) 138 (iv 138)) 139 (iv 139)) 140 (iv 140)) 142 (iv 142)) 143 (iv 143)) 144 (iv 144)) 145 (iv 145)) 146 (iv 146)) 147 (iv 147)) 148 (iv 148)) 149 (iv 149)) p (by show q_KR k; exact hk) (by show q_cE k (iv 3); first | exact hE | exact ⟨hE.1, rfl⟩) (by show q_cB k (iv 4) (iv 5) (iv 6) (iv 7) (iv 8) (iv 9); exact hB) (by show q_cS k (iv 10) (iv 11) (iv 12) (iv 13) (iv 14); exact hS) (by show q_cC k (iv 15) (iv 16); exact hC) (by show q_cA k (iv 17) (iv 18) (iv 19) (iv 20); exact hA) (by show q_cO k (iv 22) (iv 23) (iv 24); exact hO) (by show q_cL k (iv 25); exact hL) (by show q_cP k (iv 27); exact hP) (by show q_CI k (iv 2) (iv 138) (iv 139) (iv 140) (iv 142) (iv 143) (iv 145) (iv 129) (iv 135); exact hci) (by show 0 ≤ p ∧ p ≤ q_p2 (k 2) - 1; first | assumption | omega) (by show ¬ q_exi (fun i => 1 ≤ i ∧ q_sta k i) (k 0); first | assumption | omega) (by show ¬ q_sen k; first | assumption | omega)
  refine w_calleE hc1 rfl (pz_cokI is_2 rfl) rfl (fun iv9 h9 => ?_)
  obtain ⟨o9_2, l9_3, n9_4, w9_5, d9_6, m9_7, V9_8, W9_9, U9_10, Y9_11, p9_12, q9_13, r9_14, h9e, hci, ho2⟩ := h9
  have h9x : iv9 = pz_u1 (pz_u1 (pz_u1 (pz_u1 (pz_u1 (pz_u1 (pz_u1 (pz_u1 (pz_u1 (pz_u1 (pz_u1 (pz_u1 (pz_u1 iv 2 o9_2) 134 l9_3) 138 n9_4) 139 w9_5) 140 d9_6) 142 m9_7) 143 V9_8) 144 W9_9) 145 U9_10) 146 Y9_11) 147 p9_12) 148 q9_13) 149 r9_14 := h9e.trans (by rw [pz_u1_in (r := 2) (q := 149) (by decide)]; rw [pz_u1_in (r := 2) (q := 148) (by decide)]; rw [pz_u1_in (r := 2) (q := 147) (by decide)]; rw [pz_u1_in (r := 2) (q := 146) (by decide)]; rw [pz_u1_in (r := 2) (q := 145) (by decide)]; rw [pz_u1_in (r := 2) (q := 144) (by decide)]; rw [pz_u1_in (r := 2) (q := 143) (by decide)]; rw [pz_u1_in (r := 2) (q := 142) (by decide)]; rw [pz_u1_in (r := 2) (q := 140) (by decide)]; rw [pz_u1_in (r := 2) (q := 139) (by decide)]; rw [pz_u1_in (r := 2) (q := 138) (by decide)]; rw [pz_u1_in (r := 2) (q := 134) (by decide)]; rw [pz_u1_top (r := 2)]; rw [pz_u1_in (r := 134) (q := 149) (by decide)]; rw [pz_u1_in (r := 134) (q := 148) (by decide)]; rw [pz_u1_in (r := 134) (q := 147) (by decide)]; rw [pz_u1_in (r := 134) (q := 146) (by decide)]; rw [pz_u1_in (r := 134) (q := 145) (by decide)]; rw [pz_u1_in (r := 134) (q := 144) (by decide)]; rw [pz_u1_in (r := 134) (q := 143) (by decide)]; rw [pz_u1_in (r := 134) (q := 142) (by decide)]; rw [pz_u1_in (r := 134) (q := 140) (by decide)]; rw [pz_u1_in (r := 134) (q := 139) (by decide)]; rw [pz_u1_in (r := 134) (q := 138) (by decide)]; rw [pz_u1_top (r := 134)]; rw [pz_u1_in (r := 138) (q := 149) (by decide)]; rw [pz_u1_in (r := 138) (q := 148) (by decide)]; rw [pz_u1_in (r := 138) (q := 147) (by decide)]; rw [pz_u1_in (r := 138) (q := 146) (by decide)]; rw [pz_u1_in (r := 138) (q := 145) (by decide)]; rw [pz_u1_in (r := 138) (q := 144) (by decide)]; rw [pz_u1_in (r := 138) (q := 143) (by decide)]; rw [pz_u1_in (r := 138) (q := 142) (by decide)]; rw [pz_u1_in (r := 138) (q := 140) (by decide)]; rw [pz_u1_in (r := 138) (q := 139) (by decide)]; rw [pz_u1_top (r := 138)]; rw [pz_u1_in (r := 139) (q := 149) (by decide)]; rw [pz_u1_in (r := 139) (q := 148) (by decide)]; rw [pz_u1_in (r := 139) (q := 147) (by decide)]; rw [pz_u1_in (r := 139) (q := 146) (by decide)]; rw [pz_u1_in (r := 139) (q := 145) (by decide)]; rw [pz_u1_in (r := 139) (q := 144) (by decide)]; rw [pz_u1_in (r := 139) (q := 143) (by decide)]; rw [pz_u1_in (r := 139) (q := 142) (by decide)]; rw [pz_u1_in (r := 139) (q := 140) (by decide)]; rw [pz_u1_top (r := 139)]; rw [pz_u1_in (r := 140) (q := 149) (by decide)]; rw [pz_u1_in (r := 140) (q := 148) (by decide)]; rw [pz_u1_in (r := 140) (q := 147) (by decide)]; rw [pz_u1_in (r := 140) (q := 146) (by decide)]; rw [pz_u1_in (r := 140) (q := 145) (by decide)]; rw [pz_u1_in (r := 140) (q := 144) (by decide)]; rw [pz_u1_in (r := 140) (q := 143) (by decide)]; rw [pz_u1_in (r := 140) (q := 142) (by decide)]; rw [pz_u1_top (r := 140)]; rw [pz_u1_in (r := 142) (q := 149) (by decide)]; rw [pz_u1_in (r := 142) (q := 148) (by decide)]; rw [pz_u1_in (r := 142) (q := 147) (by decide)]; rw [pz_u1_in (r := 142) (q := 146) (by decide)]; rw [pz_u1_in (r := 142) (q := 145) (by decide)]; rw [pz_u1_in (r := 142) (q := 144) (by decide)]; rw [pz_u1_in (r := 142) (q := 143) (by decide)]; rw [pz_u1_top (r := 142)]; rw [pz_u1_in (r := 143) (q := 149) (by decide)]; rw [pz_u1_in (r := 143) (q := 148) (by decide)]; rw [pz_u1_in (r := 143) (q := 147) (by decide)]; rw [pz_u1_in (r := 143) (q := 146) (by decide)]; rw [pz_u1_in (r := 143) (q := 145) (by decide)]; rw [pz_u1_in (r := 143) (q := 144) (by decide)]; rw [pz_u1_top (r := 143)]; rw [pz_u1_in (r := 144) (q := 149) (by decide)]; rw [pz_u1_in (r := 144) (q := 148) (by decide)]; rw [pz_u1_in (r := 144) (q := 147) (by decide)]; rw [pz_u1_in (r := 144) (q := 146) (by decide)]; rw [pz_u1_in (r := 144) (q := 145) (by decide)]; rw [pz_u1_top (r := 144)]; rw [pz_u1_in (r := 145) (q := 149) (by decide)]; rw [pz_u1_in (r := 145) (q := 148) (by decide)]; rw [pz_u1_in (r := 145) (q := 147) (by decide)]; rw [pz_u1_in (r := 145) (q := 146) (by decide)]; rw [pz_u1_top (r := 145)]; rw [pz_u1_in (r := 146) (q := 149) (by decide)]; rw [pz_u1_in (r := 146) (q := 148) (by decide)]; rw [pz_u1_in (r := 146) (q := 147) (by decide)]; rw [pz_u1_top (r := 146)]; rw [pz_u1_in (r := 147) (q := 149) (by decide)]; rw [pz_u1_in (r := 147) (q := 148) (by decide)]; rw [pz_u1_top (r := 147)]; rw [pz_u1_in (r := 148) (q := 149) (by decide)]; rw [pz_u1_top (r := 148)]; rw [pz_u1_top (r := 149)] <;> rfl)
  subst h9x
  clear h9e hc1
  replace hci : q_CI k o9_2 n9_4 w9_5 d9_6 m9_7 V9_8 U9_10 (iv 129) (iv 135) := hci
  replace ho2 : o9_2 2 = (iv 2) 2 := ho2
  first | exact ⟨pz_u1 (pz_u1 (pz_u1 (pz_u1 (pz_u1 (pz_u1 (pz_u1 (pz_u1 (pz_u1 (pz_u1 (pz_u1 (pz_u1 (pz_u1 iv 2 o9_2) 134 l9_3) 138 n9_4) 139 w9_5) 140 d9_6) 142 m9_7) 143 V9_8) 144 W9_9) 145 U9_10) 146 Y9_11) 147 p9_12) 148 q9_13) 149 r9_14, ⟨o9_2, l9_3, n9_4, w9_5, d9_6, m9_7, V9_8, W9_9, U9_10, Y9_11, p9_12, q9_13, r9_14, by rfl, by exact hci, by exact ho2⟩, lf_e (by rfl)⟩ | (exfalso; omega)

theorem s_X10_play_3 {L : Nat} {iv : Nat → Nat → Int} (p : Int) {k : Nat → Int} (hk : q_KR k) (hE : q_cE k (iv 3)) (hB : q_cB k (iv 4) (iv 5) (iv 6) (iv 7) (iv 8) (iv 9)) (hS : q_cS k (iv 10) (iv 11) (iv 12) (iv 13) (iv 14)) (hC : q_cC k (iv 15) (iv 16)) (hA : q_cA k (iv 17) (iv 18) (iv 19) (iv 20)) (hO : q_cO k (iv 22) (iv 23) (iv 24)) (hL : q_cL k (iv 25)) (hP : q_cP k (iv 27)) (hci : q_CI k (iv 2) (iv 138) (iv 139) (iv 140) (iv 142) (iv 143) (iv 145) (iv 129) (iv 135)) (hcase0 : 0 ≤ p ∧ p ≤ q_p2 (k 2) - 1) (hcase1 : ¬ q_exi (fun i => 1 ≤ i ∧ q_sta k i) (k 0)) (hcase2 : q_sen k) (hcase3 : q_flk k p ≠ 45) : pz_RE (pz_Sh L) 143 [.inr (.inl 2), .inl p] iv (.inr 3) (fun iv9 => ∃ (o9 : Nat → Int) (l9 : Nat → Int) (n9 : Nat → Int) (w9 : Nat → Int) (d9 : Nat → Int) (m9 : Nat → Int) (V9 : Nat → Int) (W9 : Nat → Int) (U9 : Nat → Int) (Y9 : Nat → Int) (p9 : Nat → Int) (q9 : Nat → Int) (r9 : Nat → Int) (x9 : Nat → Int) (y9 : Nat → Int), iv9 = pz_u1 (pz_u1 (pz_u1 (pz_u1 (pz_u1 (pz_u1 (pz_u1 (pz_u1 (pz_u1 (pz_u1 (pz_u1 (pz_u1 (pz_u1 (pz_u1 (pz_u1 iv 2 o9) 134 l9) 138 n9) 139 w9) 140 d9) 142 m9) 143 V9) 144 W9) 145 U9) 146 Y9) 147 p9) 148 q9) 149 r9) 152 x9) 153 y9 ∧ (q_CI k o9 n9 w9 d9 m9 V9 U9 (iv 129) (iv 135)) ∧ (o9 2 = (iv 2) 2)) := by
  intro dv cc ss
  have hk0 := hk.r0
  have hE0 := hE
  have hB0 := hB.1
  have hS0 := hS.1
  have hC0 := hC.1
  have hA0 := hA.1
  have hsh := q_shl_p2 (a := k 2) (by omega) (by omega)
  have hp2 := q_p2_r (a := k 2) (by omega) (by omega)
  have hp3 := q_p2_le (a := k 2) (b := 3) (by omega) (by omega)
  have hp8 : q_p2 3 = 8 := rfl
  have hsc : pz_shl 1 (iv 10 0) = q_p2 (k 2) := by
    rw [hS.1]; exact hsh
  have hfk := q_fl_k (a := iv 153) (p := p) hk
  have hfr := q_fl_r (v := q_val k) (k := k) (p := p) (a := iv 153)
  refine pz_G_mem (iv2 := pz_u1 (pz_u1 (pz_u1 (pz_u1 (pz_u1 (pz_u1 (pz_u1 (pz_u1 (pz_u1 (pz_u1 (pz_u1 (pz_u1 (pz_u1 (pz_u1 (pz_u1 iv 2 (iv 2)) 134 (iv 134)) 138 (iv 138)) 139 (iv 139)) 140 (iv 140)) 142 (iv 142)) 143 (iv 143)) 144 (iv 144)) 145 (iv 145)) 146 (iv 146)) 147 (iv 147)) 148 (iv 148)) 149 (iv 149)) 152 (iv 152)) 153 (iv 153)) (by exact (((((((((((((((pz_u1_self iv 2).symm).trans (pz_u1_self (pz_u1 iv 2 (iv 2)) 134).symm).trans (pz_u1_self (pz_u1 (pz_u1 iv 2 (iv 2)) 134 (iv 134)) 138).symm).trans (pz_u1_self (pz_u1 (pz_u1 (pz_u1 iv 2 (iv 2)) 134 (iv 134)) 138 (iv 138)) 139).symm).trans (pz_u1_self (pz_u1 (pz_u1 (pz_u1 (pz_u1 iv 2 (iv 2)) 134 (iv 134)) 138 (iv 138)) 139 (iv 139)) 140).symm).trans (pz_u1_self (pz_u1 (pz_u1 (pz_u1 (pz_u1 (pz_u1 iv 2 (iv 2)) 134 (iv 134)) 138 (iv 138)) 139 (iv 139)) 140 (iv 140)) 142).symm).trans (pz_u1_self (pz_u1 (pz_u1 (pz_u1 (pz_u1 (pz_u1 (pz_u1 iv 2 (iv 2)) 134 (iv 134)) 138 (iv 138)) 139 (iv 139)) 140 (iv 140)) 142 (iv 142)) 143).symm).trans (pz_u1_self (pz_u1 (pz_u1 (pz_u1 (pz_u1 (pz_u1 (pz_u1 (pz_u1 iv 2 (iv 2)) 134 (iv 134)) 138 (iv 138)) 139 (iv 139)) 140 (iv 140)) 142 (iv 142)) 143 (iv 143)) 144).symm).trans (pz_u1_self (pz_u1 (pz_u1 (pz_u1 (pz_u1 (pz_u1 (pz_u1 (pz_u1 (pz_u1 iv 2 (iv 2)) 134 (iv 134)) 138 (iv 138)) 139 (iv 139)) 140 (iv 140)) 142 (iv 142)) 143 (iv 143)) 144 (iv 144)) 145).symm).trans (pz_u1_self (pz_u1 (pz_u1 (pz_u1 (pz_u1 (pz_u1 (pz_u1 (pz_u1 (pz_u1 (pz_u1 iv 2 (iv 2)) 134 (iv 134)) 138 (iv 138)) 139 (iv 139)) 140 (iv 140)) 142 (iv 142)) 143 (iv 143)) 144 (iv 144)) 145 (iv 145)) 146).symm).trans (pz_u1_self (pz_u1 (pz_u1 (pz_u1 (pz_u1 (pz_u1 (pz_u1 (pz_u1 (pz_u1 (pz_u1 (pz_u1 iv 2 (iv 2)) 134 (iv 134)) 138 (iv 138)) 139 (iv 139)) 140 (iv 140)) 142 (iv 142)) 143 (iv 143)) 144 (iv 144)) 145 (iv 145)) 146 (iv 146)) 147).symm).trans (pz_u1_self (pz_u1 (pz_u1 (pz_u1 (pz_u1 (pz_u1 (pz_u1 (pz_u1 (pz_u1 (pz_u1 (pz_u1 (pz_u1 iv 2 (iv 2)) 134 (iv 134)) 138 (iv 138)) 139 (iv 139)) 140 (iv 140)) 142 (iv 142)) 143 (iv 143)) 144 (iv 144)) 145 (iv 145)) 146 (iv 146)) 147 (iv 147)) 148).symm).trans (pz_u1_self (pz_u1 (pz_u1 (pz_u1 (pz_u1 (pz_u1 (pz_u1 (pz_u1 (pz_u1 (pz_u1 (pz_u1 (pz_u1 (pz_u1 iv 2 (iv 2)) 134 (iv 134)) 138 (iv 138)) 139 (iv 139)) 140 (iv 140)) 142 (iv 142)) 143 (iv 143)) 144 (iv 144)) 145 (iv 145)) 146 (iv 146)) 147 (iv 147)) 148 (iv 148)) 149).symm).trans (pz_u1_self (pz_u1 (pz_u1 (pz_u1 (pz_u1 (pz_u1 (pz_u1 (pz_u1 (pz_u1 (pz_u1 (pz_u1 (pz_u1 (pz_u1 (pz_u1 iv 2 (iv 2)) 134 (iv 134)) 138 (iv 138)) 139 (iv 139)) 140 (iv 140)) 142 (iv 142)) 143 (iv 143)) 144 (iv 144)) 145 (iv 145)) 146 (iv 146)) 147 (iv 147)) 148 (iv 148)) 149 (iv 149)) 152).symm).trans (pz_u1_self (pz_u1 (pz_u1 (pz_u1 (pz_u1 (pz_u1 (pz_u1 (pz_u1 (pz_u1 (pz_u1 (pz_u1 (pz_u1 (pz_u1 (pz_u1 (pz_u1 iv 2 (iv 2)) 134 (iv 134)) 138 (iv 138)) 139 (iv 139)) 140 (iv 140)) 142 (iv 142)) 143 (iv 143)) 144 (iv 144)) 145 (iv 145)) 146 (iv 146)) 147 (iv 147)) 148 (iv 148)) 149 (iv 149)) 152 (iv 152)) 153).symm) ?_
  show pz_G 143 0 [some (.inr (.inl 2)), some (.inl p)] [] (pz_Sh L, pz_u1 (pz_u1 (pz_u1 (pz_u1 (pz_u1 (pz_u1 (pz_u1 (pz_u1 (pz_u1 (pz_u1 (pz_u1 (pz_u1 (pz_u1 (pz_u1 (pz_u1 iv 2 (iv 2)) 134 (iv 134)) 138 (iv 138)) 139 (iv 139)) 140 (iv 140)) 142 (iv 142)) 143 (iv 143)) 144 (iv 144)) 145 (iv 145)) 146 (iv 146)) 147 (iv 147)) 148 (iv 148)) 149 (iv 149)) 152 (iv 152)) 153 (iv 153), dv, cc, ss) (pz_PE (pz_Sh L) (.inr 3) (fun iv9 => ∃ (o9 : Nat → Int) (l9 : Nat → Int) (n9 : Nat → Int) (w9 : Nat → Int) (d9 : Nat → Int) (m9 : Nat → Int) (V9 : Nat → Int) (W9 : Nat → Int) (U9 : Nat → Int) (Y9 : Nat → Int) (p9 : Nat → Int) (q9 : Nat → Int) (r9 : Nat → Int) (x9 : Nat → Int) (y9 : Nat → Int), iv9 = pz_u1 (pz_u1 (pz_u1 (pz_u1 (pz_u1 (pz_u1 (pz_u1 (pz_u1 (pz_u1 (pz_u1 (pz_u1 (pz_u1 (pz_u1 (pz_u1 (pz_u1 iv 2 o9) 134 l9) 138 n9) 139 w9) 140 d9) 142 m9) 143 V9) 144 W9) 145 U9) 146 Y9) 147 p9) 148 q9) 149 r9) 152 x9) 153 y9 ∧ (q_CI k o9 n9 w9 d9 m9 V9 U9 (iv 129) (iv 135)) ∧ (o9 2 = (iv 2) 2)) dv cc ss)
  refine pz_G_of pz_b143_0 ?_
  refine w_loc rfl ?_
  refine w_loc rfl ?_
  have hc1 : pz_RE (pz_Sh L) 174 [.inr (.inl 2), .inl p] (pz_u1 (pz_u1 (pz_u1 (pz_u1 (pz_u1 (pz_u1 (pz_u1 (pz_u1 (pz_u1 (pz_u1 (pz_u1 (pz_u1 (pz_u1 (pz_u1 (pz_u1 iv 2 (iv 2)) 134 (iv 134)) 138 (iv 138)) 139 (iv 139)) 140 (iv 140)) 142 (iv 142)) 143 (iv 143)) 144 (iv 144)) 145 (iv 145)) 146 (iv 146)) 147 (iv 147)) 148 (iv 148)) 149 (iv 149)) 152 (iv 152)) 153 (iv 153)) (.inl none) _ := s_X10_needPlayable_0 (L := L) (iv := pz_u1 (pz_u1 (pz_u1 (pz_u1 (pz_u1 (pz_u1 (pz_u1 (pz_u1 (pz_u1 (pz_u1 (pz_u1 (pz_u1 (pz_u1 (pz_u1 (pz_u1 iv 2 (iv 2)) 134 (iv 134)) 138 (iv 138)) 139 (iv 139)) 140 (iv 140)) 142 (iv 142)) 143 (iv 143)) 144 (iv 144)) 145 (iv 145)) 146 (iv 146)) 147 (iv 147)) 148 (iv 148)) 149 (iv 149)) 152 (iv 152)) 153 (iv 153)) p (by show q_KR k; exact hk) (by show q_cE k (iv 3); first | exact hE | exact ⟨hE.1, rfl⟩) (by show q_cB k (iv 4) (iv 5) (iv 6) (iv 7) (iv 8) (iv 9); exact hB) (by show q_cS k (iv 10) (iv 11) (iv 12) (iv 13) (iv 14); exact hS) (by show q_cC k (iv 15) (iv 16); exact hC) (by show q_cA k (iv 17) (iv 18) (iv 19) (iv 20); exact hA) (by show q_cO k (iv 22) (iv 23) (iv 24); exact hO) (by show q_cL k (iv 25); exact hL) (by show q_cP k (iv 27); exact hP) (by show q_CI k (iv 2) (iv 138) (iv 139) (iv 140) (iv 142) (iv 143) (iv 145) (iv 129) (iv 135); exact hci) (by show 0 ≤ p ∧ p ≤ q_p2 (k 2) - 1; first | assumption | omega) (by show ¬ q_exi (fun i => 1 ≤ i ∧ q_sta k i) (k 0); first | assumption | omega) (by show q_sen k; first | assumption | omega)
  refine w_callvE hc1 rfl (pz_cokI is_2 rfl) (fun iv9 h9 => ?_)
  obtain ⟨o9_2, l9_3, n9_4, w9_5, d9_6, m9_7, V9_8, W9_9, U9_10, Y9_11, p9_12, q9_13, r9_14, h9e, hci, ho2, hRK⟩ := h9
  have h9x : iv9 = pz_u1 (pz_u1 (pz_u1 (pz_u1 (pz_u1 (pz_u1 (pz_u1 (pz_u1 (pz_u1 (pz_u1 (pz_u1 (pz_u1 (pz_u1 (pz_u1 (pz_u1 iv 2 o9_2) 134 l9_3) 138 n9_4) 139 w9_5) 140 d9_6) 142 m9_7) 143 V9_8) 144 W9_9) 145 U9_10) 146 Y9_11) 147 p9_12) 148 q9_13) 149 r9_14) 152 (iv 152)) 153 (iv 153) := h9e.trans (by rw [pz_u1_in (r := 2) (q := 153) (by decide)]; rw [pz_u1_in (r := 2) (q := 152) (by decide)]; rw [pz_u1_in (r := 2) (q := 149) (by decide)]; rw [pz_u1_in (r := 2) (q := 148) (by decide)]; rw [pz_u1_in (r := 2) (q := 147) (by decide)]; rw [pz_u1_in (r := 2) (q := 146) (by decide)]; rw [pz_u1_in (r := 2) (q := 145) (by decide)]; rw [pz_u1_in (r := 2) (q := 144) (by decide)]; rw [pz_u1_in (r := 2) (q := 143) (by decide)]; rw [pz_u1_in (r := 2) (q := 142) (by decide)]; rw [pz_u1_in (r := 2) (q := 140) (by decide)]; rw [pz_u1_in (r := 2) (q := 139) (by decide)]; rw [pz_u1_in (r := 2) (q := 138) (by decide)]; rw [pz_u1_in (r := 2) (q := 134) (by decide)]; rw [pz_u1_top (r := 2)]; rw [pz_u1_in (r := 134) (q := 153) (by decide)]; rw [pz_u1_in (r := 134) (q := 152) (by decide)]; rw [pz_u1_in (r := 134) (q := 149) (by decide)]; rw [pz_u1_in (r := 134) (q := 148) (by decide)]; rw [pz_u1_in (r := 134) (q := 147) (by decide)]; rw [pz_u1_in (r := 134) (q := 146) (by decide)]; rw [pz_u1_in (r := 134) (q := 145) (by decide)]; rw [pz_u1_in (r := 134) (q := 144) (by decide)]; rw [pz_u1_in (r := 134) (q := 143) (by decide)]; rw [pz_u1_in (r := 134) (q := 142) (by decide)]; rw [pz_u1_in (r := 134) (q := 140) (by decide)]; rw [pz_u1_in (r := 134) (q := 139) (by decide)]; rw [pz_u1_in (r := 134) (q := 138) (by decide)]; rw [pz_u1_top (r := 134)]; rw [pz_u1_in (r := 138) (q := 153) (by decide)]; rw [pz_u1_in (r := 138) (q := 152) (by decide)]; rw [pz_u1_in (r := 138) (q := 149) (by decide)]; rw [pz_u1_in (r := 138) (q := 148) (by decide)]; rw [pz_u1_in (r := 138) (q := 147) (by decide)]; rw [pz_u1_in (r := 138) (q := 146) (by decide)]; rw [pz_u1_in (r := 138) (q := 145) (by decide)]; rw [pz_u1_in (r := 138) (q := 144) (by decide)]; rw [pz_u1_in (r := 138) (q := 143) (by decide)]; rw [pz_u1_in (r := 138) (q := 142) (by decide)]; rw [pz_u1_in (r := 138) (q := 140) (by decide)]; rw [pz_u1_in (r := 138) (q := 139) (by decide)]; rw [pz_u1_top (r := 138)]; rw [pz_u1_in (r := 139) (q := 153) (by decide)]; rw [pz_u1_in (r := 139) (q := 152) (by decide)]; rw [pz_u1_in (r := 139) (q := 149) (by decide)]; rw [pz_u1_in (r := 139) (q := 148) (by decide)]; rw [pz_u1_in (r := 139) (q := 147) (by decide)]; rw [pz_u1_in (r := 139) (q := 146) (by decide)]; rw [pz_u1_in (r := 139) (q := 145) (by decide)]; rw [pz_u1_in (r := 139) (q := 144) (by decide)]; rw [pz_u1_in (r := 139) (q := 143) (by decide)]; rw [pz_u1_in (r := 139) (q := 142) (by decide)]; rw [pz_u1_in (r := 139) (q := 140) (by decide)]; rw [pz_u1_top (r := 139)]; rw [pz_u1_in (r := 140) (q := 153) (by decide)]; rw [pz_u1_in (r := 140) (q := 152) (by decide)]; rw [pz_u1_in (r := 140) (q := 149) (by decide)]; rw [pz_u1_in (r := 140) (q := 148) (by decide)]; rw [pz_u1_in (r := 140) (q := 147) (by decide)]; rw [pz_u1_in (r := 140) (q := 146) (by decide)]; rw [pz_u1_in (r := 140) (q := 145) (by decide)]; rw [pz_u1_in (r := 140) (q := 144) (by decide)]; rw [pz_u1_in (r := 140) (q := 143) (by decide)]; rw [pz_u1_in (r := 140) (q := 142) (by decide)]; rw [pz_u1_top (r := 140)]; rw [pz_u1_in (r := 142) (q := 153) (by decide)]; rw [pz_u1_in (r := 142) (q := 152) (by decide)]; rw [pz_u1_in (r := 142) (q := 149) (by decide)]; rw [pz_u1_in (r := 142) (q := 148) (by decide)]; rw [pz_u1_in (r := 142) (q := 147) (by decide)]; rw [pz_u1_in (r := 142) (q := 146) (by decide)]; rw [pz_u1_in (r := 142) (q := 145) (by decide)]; rw [pz_u1_in (r := 142) (q := 144) (by decide)]; rw [pz_u1_in (r := 142) (q := 143) (by decide)]; rw [pz_u1_top (r := 142)]; rw [pz_u1_in (r := 143) (q := 153) (by decide)]; rw [pz_u1_in (r := 143) (q := 152) (by decide)]; rw [pz_u1_in (r := 143) (q := 149) (by decide)]; rw [pz_u1_in (r := 143) (q := 148) (by decide)]; rw [pz_u1_in (r := 143) (q := 147) (by decide)]; rw [pz_u1_in (r := 143) (q := 146) (by decide)]; rw [pz_u1_in (r := 143) (q := 145) (by decide)]; rw [pz_u1_in (r := 143) (q := 144) (by decide)]; rw [pz_u1_top (r := 143)]; rw [pz_u1_in (r := 144) (q := 153) (by decide)]; rw [pz_u1_in (r := 144) (q := 152) (by decide)]; rw [pz_u1_in (r := 144) (q := 149) (by decide)]; rw [pz_u1_in (r := 144) (q := 148) (by decide)]; rw [pz_u1_in (r := 144) (q := 147) (by decide)]; rw [pz_u1_in (r := 144) (q := 146) (by decide)]; rw [pz_u1_in (r := 144) (q := 145) (by decide)]; rw [pz_u1_top (r := 144)]; rw [pz_u1_in (r := 145) (q := 153) (by decide)]; rw [pz_u1_in (r := 145) (q := 152) (by decide)]; rw [pz_u1_in (r := 145) (q := 149) (by decide)]; rw [pz_u1_in (r := 145) (q := 148) (by decide)]; rw [pz_u1_in (r := 145) (q := 147) (by decide)]; rw [pz_u1_in (r := 145) (q := 146) (by decide)]; rw [pz_u1_top (r := 145)]; rw [pz_u1_in (r := 146) (q := 153) (by decide)]; rw [pz_u1_in (r := 146) (q := 152) (by decide)]; rw [pz_u1_in (r := 146) (q := 149) (by decide)]; rw [pz_u1_in (r := 146) (q := 148) (by decide)]; rw [pz_u1_in (r := 146) (q := 147) (by decide)]; rw [pz_u1_top (r := 146)]; rw [pz_u1_in (r := 147) (q := 153) (by decide)]; rw [pz_u1_in (r := 147) (q := 152) (by decide)]; rw [pz_u1_in (r := 147) (q := 149) (by decide)]; rw [pz_u1_in (r := 147) (q := 148) (by decide)]; rw [pz_u1_top (r := 147)]; rw [pz_u1_in (r := 148) (q := 153) (by decide)]; rw [pz_u1_in (r := 148) (q := 152) (by decide)]; rw [pz_u1_in (r := 148) (q := 149) (by decide)]; rw [pz_u1_top (r := 148)]; rw [pz_u1_in (r := 149) (q := 153) (by decide)]; rw [pz_u1_in (r := 149) (q := 152) (by decide)]; rw [pz_u1_top (r := 149)] <;> rfl)
  subst h9x
  clear h9e hc1
  replace hci : q_CI k o9_2 n9_4 w9_5 d9_6 m9_7 V9_8 U9_10 (iv 129) (iv 135) := hci
  replace ho2 : o9_2 2 = (iv 2) 2 := ho2
  replace hRK : q_RK k m9_7 V9_8 U9_10 := hRK
  refine w_loc rfl ?_
  refine w_getR (q := 151) is_2 rf_2_6 ?_
  refine w_loc rfl ?_
  have hc15 : pz_RE (pz_Sh L) 76 [.inr (.inl 151), .inl p] (pz_u1 (pz_u1 (pz_u1 (pz_u1 (pz_u1 (pz_u1 (pz_u1 (pz_u1 (pz_u1 (pz_u1 (pz_u1 (pz_u1 (pz_u1 (pz_u1 (pz_u1 iv 2 o9_2) 134 l9_3) 138 n9_4) 139 w9_5) 140 d9_6) 142 m9_7) 143 V9_8) 144 W9_9) 145 U9_10) 146 Y9_11) 147 p9_12) 148 q9_13) 149 r9_14) 152 (iv 152)) 153 (iv 153)) (.inl (some (.inl (q_fl (q_val k) k p (iv 153))))) _ := s_X7_failureOf (L := L) (iv := pz_u1 (pz_u1 (pz_u1 (pz_u1 (pz_u1 (pz_u1 (pz_u1 (pz_u1 (pz_u1 (pz_u1 (pz_u1 (pz_u1 (pz_u1 (pz_u1 (pz_u1 iv 2 o9_2) 134 l9_3) 138 n9_4) 139 w9_5) 140 d9_6) 142 m9_7) 143 V9_8) 144 W9_9) 145 U9_10) 146 Y9_11) 147 p9_12) 148 q9_13) 149 r9_14) 152 (iv 152)) 153 (iv 153)) p (by show q_KR k; exact hk) (by show q_cE k (iv 3); first | exact hE | exact ⟨hE.1, rfl⟩) (by show q_cB k (iv 4) (iv 5) (iv 6) (iv 7) (iv 8) (iv 9); exact hB) (by show q_cS k (iv 10) (iv 11) (iv 12) (iv 13) (iv 14); exact hS) (by show q_cL k (iv 25); exact hL) (by show 0 ≤ p ∧ p ≤ 15; omega) (by show q_VU k (q_val k) V9_8 U9_10; exact hRK.2.2 (by assumption)) (by show q_vb (q_val k); exact q_vb_val hk (by assumption))
  refine w_callE hc15 rfl (pz_cokI is_151 rfl) (fun iv9 h9 => ?_)
  obtain ⟨x9_16, h9e, hx9⟩ := h9
  have h9x : iv9 = pz_u1 (pz_u1 (pz_u1 (pz_u1 (pz_u1 (pz_u1 (pz_u1 (pz_u1 (pz_u1 (pz_u1 (pz_u1 (pz_u1 (pz_u1 (pz_u1 (pz_u1 iv 2 o9_2) 134 l9_3) 138 n9_4) 139 w9_5) 140 d9_6) 142 m9_7) 143 V9_8) 144 W9_9) 145 U9_10) 146 Y9_11) 147 p9_12) 148 q9_13) 149 r9_14) 152 x9_16) 153 (q_pl (q_val k) k p (iv 153)) := h9e.trans (by rw [pz_u1_in (r := 152) (q := 153) (by decide)]; rw [pz_u1_top (r := 152)]; rw [pz_u1_top (r := 153)] <;> rfl)
  subst h9x
  clear h9e hc15
  replace hx9 : 0 ≤ x9_16 0 ∧ x9_16 0 ≤ 601 := hx9
  refine w_pure rfl ?_
  refine w_ieq (fun h17 => ?_) (fun h17 => ?_)
  · first
    | (exfalso; omega)
    | (refine pz_G_of pz_b143_28 ?_
       refine w_loc rfl ?_
       refine w_getR (q := 3) is_2 rf_2_0 ?_
       refine w_loc rfl ?_
       refine w_getR (q := 151) is_2 rf_2_6 ?_
       refine w_getR (q := 152) is_151 rf_151_2 ?_
       have hc18 : pz_R (pz_Sh L) 73 [.inr (.inl 3), .inr (.inl 152)] (pz_u1 (pz_u1 (pz_u1 (pz_u1 (pz_u1 (pz_u1 (pz_u1 (pz_u1 (pz_u1 (pz_u1 (pz_u1 (pz_u1 (pz_u1 (pz_u1 (pz_u1 iv 2 o9_2) 134 l9_3) 138 n9_4) 139 w9_5) 140 d9_6) 142 m9_7) 143 V9_8) 144 W9_9) 145 U9_10) 146 Y9_11) 147 p9_12) 148 q9_13) 149 r9_14) 152 x9_16) 153 (q_pl (q_val k) k p (iv 153))) (.inl none) (pz_u1 (pz_u1 (pz_u1 (pz_u1 (pz_u1 (pz_u1 (pz_u1 (pz_u1 (pz_u1 (pz_u1 (pz_u1 (pz_u1 (pz_u1 (pz_u1 (pz_u1 (pz_u1 (pz_u1 (pz_u1 iv 2 o9_2) 3 (pz_up (iv 3) 7 (k 0))) 26 (pz_up (iv 26) 0 (x9_16 0))) 27 (q_cp 10 (q_pl (q_val k) k p (iv 153)) (iv 27))) 134 l9_3) 138 n9_4) 139 w9_5) 140 d9_6) 142 m9_7) 143 V9_8) 144 W9_9) 145 U9_10) 146 Y9_11) 147 p9_12) 148 q9_13) 149 r9_14) 152 x9_16) 153 (q_pl (q_val k) k p (iv 153))) := pz_R_mem (s_X6_keepPlayed (by show q_cE k (iv 3); first | exact hE | exact ⟨hE.1, rfl⟩)) (by rw [pz_u1_in (r := 3) (q := 153) (by decide)]; rw [pz_u1_in (r := 3) (q := 152) (by decide)]; rw [pz_u1_in (r := 3) (q := 149) (by decide)]; rw [pz_u1_in (r := 3) (q := 148) (by decide)]; rw [pz_u1_in (r := 3) (q := 147) (by decide)]; rw [pz_u1_in (r := 3) (q := 146) (by decide)]; rw [pz_u1_in (r := 3) (q := 145) (by decide)]; rw [pz_u1_in (r := 3) (q := 144) (by decide)]; rw [pz_u1_in (r := 3) (q := 143) (by decide)]; rw [pz_u1_in (r := 3) (q := 142) (by decide)]; rw [pz_u1_in (r := 3) (q := 140) (by decide)]; rw [pz_u1_in (r := 3) (q := 139) (by decide)]; rw [pz_u1_in (r := 3) (q := 138) (by decide)]; rw [pz_u1_in (r := 3) (q := 134) (by decide)]; rw [pz_u1_top (r := 3)]; rw [pz_u1_in (r := 26) (q := 153) (by decide)]; rw [pz_u1_in (r := 26) (q := 152) (by decide)]; rw [pz_u1_in (r := 26) (q := 149) (by decide)]; rw [pz_u1_in (r := 26) (q := 148) (by decide)]; rw [pz_u1_in (r := 26) (q := 147) (by decide)]; rw [pz_u1_in (r := 26) (q := 146) (by decide)]; rw [pz_u1_in (r := 26) (q := 145) (by decide)]; rw [pz_u1_in (r := 26) (q := 144) (by decide)]; rw [pz_u1_in (r := 26) (q := 143) (by decide)]; rw [pz_u1_in (r := 26) (q := 142) (by decide)]; rw [pz_u1_in (r := 26) (q := 140) (by decide)]; rw [pz_u1_in (r := 26) (q := 139) (by decide)]; rw [pz_u1_in (r := 26) (q := 138) (by decide)]; rw [pz_u1_in (r := 26) (q := 134) (by decide)]; rw [pz_u1_top (r := 26)]; rw [pz_u1_in (r := 27) (q := 153) (by decide)]; rw [pz_u1_in (r := 27) (q := 152) (by decide)]; rw [pz_u1_in (r := 27) (q := 149) (by decide)]; rw [pz_u1_in (r := 27) (q := 148) (by decide)]; rw [pz_u1_in (r := 27) (q := 147) (by decide)]; rw [pz_u1_in (r := 27) (q := 146) (by decide)]; rw [pz_u1_in (r := 27) (q := 145) (by decide)]; rw [pz_u1_in (r := 27) (q := 144) (by decide)]; rw [pz_u1_in (r := 27) (q := 143) (by decide)]; rw [pz_u1_in (r := 27) (q := 142) (by decide)]; rw [pz_u1_in (r := 27) (q := 140) (by decide)]; rw [pz_u1_in (r := 27) (q := 139) (by decide)]; rw [pz_u1_in (r := 27) (q := 138) (by decide)]; rw [pz_u1_in (r := 27) (q := 134) (by decide)]; rw [pz_u1_top (r := 27)]; rfl)
       refine w_callv hc18 rfl (pz_cokI is_3 rfl) ?_
       refine w_loc rfl ?_
       refine w_getR (q := 151) is_2 rf_2_6 ?_
       have hc19 : pz_R (pz_Sh L) 86 [.inr (.inl 151)] (pz_u1 (pz_u1 (pz_u1 (pz_u1 (pz_u1 (pz_u1 (pz_u1 (pz_u1 (pz_u1 (pz_u1 (pz_u1 (pz_u1 (pz_u1 (pz_u1 (pz_u1 (pz_u1 (pz_u1 (pz_u1 iv 2 o9_2) 3 (pz_up (iv 3) 7 (k 0))) 26 (pz_up (iv 26) 0 (x9_16 0))) 27 (q_cp 10 (q_pl (q_val k) k p (iv 153)) (iv 27))) 134 l9_3) 138 n9_4) 139 w9_5) 140 d9_6) 142 m9_7) 143 V9_8) 144 W9_9) 145 U9_10) 146 Y9_11) 147 p9_12) 148 q9_13) 149 r9_14) 152 x9_16) 153 (q_pl (q_val k) k p (iv 153))) (.inl (some (.inl (q_la (q_pl (q_val k) k p (iv 153)) (k 0))))) (pz_u1 (pz_u1 (pz_u1 (pz_u1 (pz_u1 (pz_u1 (pz_u1 (pz_u1 (pz_u1 (pz_u1 (pz_u1 (pz_u1 (pz_u1 (pz_u1 (pz_u1 (pz_u1 (pz_u1 (pz_u1 iv 2 o9_2) 3 (pz_up (iv 3) 7 (k 0))) 26 (pz_up (iv 26) 0 (x9_16 0))) 27 (q_cp 10 (q_pl (q_val k) k p (iv 153)) (iv 27))) 134 l9_3) 138 n9_4) 139 w9_5) 140 d9_6) 142 m9_7) 143 V9_8) 144 W9_9) 145 U9_10) 146 Y9_11) 147 p9_12) 148 q9_13) 149 r9_14) 152 x9_16) 153 (q_pl (q_val k) k p (iv 153))) := s_X7_lastStart (by show q_KR k; exact hk) (by show (pz_up (iv 3) 7 (k 0)) 0 = k 0; exact hE.1)
       refine w_call hc19 rfl (pz_cokI is_151 rfl) ?_
       refine w_ret rfl ?_
       first | exact ⟨pz_u1 (pz_u1 (pz_u1 (pz_u1 (pz_u1 (pz_u1 (pz_u1 (pz_u1 (pz_u1 (pz_u1 (pz_u1 (pz_u1 (pz_u1 (pz_u1 (pz_u1 (pz_u1 (pz_u1 (pz_u1 iv 2 o9_2) 3 (pz_up (iv 3) 7 (k 0))) 26 (pz_up (iv 26) 0 (x9_16 0))) 27 (q_cp 10 (q_pl (q_val k) k p (iv 153)) (iv 27))) 134 l9_3) 138 n9_4) 139 w9_5) 140 d9_6) 142 m9_7) 143 V9_8) 144 W9_9) 145 U9_10) 146 Y9_11) 147 p9_12) 148 q9_13) 149 r9_14) 152 x9_16) 153 (q_pl (q_val k) k p (iv 153)), ⟨o9_2, l9_3, n9_4, w9_5, d9_6, m9_7, V9_8, W9_9, U9_10, Y9_11, p9_12, q9_13, r9_14, x9_16, (q_pl (q_val k) k p (iv 153)), by rfl, by exact hci, by exact ho2⟩, lf_i (by exact q_la_congr (fun e9 g1 g2 => q_pl_ind hk e9 g1 (by omega))) (by rfl)⟩ | (exfalso; omega))
  · first
    | (exfalso; omega)
    | (refine w_thr (by decide) ?_
       first | exact ⟨pz_u1 (pz_u1 (pz_u1 (pz_u1 (pz_u1 (pz_u1 (pz_u1 (pz_u1 (pz_u1 (pz_u1 (pz_u1 (pz_u1 (pz_u1 (pz_u1 (pz_u1 iv 2 o9_2) 134 l9_3) 138 n9_4) 139 w9_5) 140 d9_6) 142 m9_7) 143 V9_8) 144 W9_9) 145 U9_10) 146 Y9_11) 147 p9_12) 148 q9_13) 149 r9_14) 152 x9_16) 153 (q_pl (q_val k) k p (iv 153)), ⟨o9_2, l9_3, n9_4, w9_5, d9_6, m9_7, V9_8, W9_9, U9_10, Y9_11, p9_12, q9_13, r9_14, x9_16, (q_pl (q_val k) k p (iv 153)), by rfl, by exact hci, by exact ho2⟩, lf_e (by rfl)⟩ | (exfalso; omega))

theorem s_X10_play_0 {L : Nat} {iv : Nat → Nat → Int} (p : Int) {k : Nat → Int} (hk : q_KR k) (hE : q_cE k (iv 3)) (hB : q_cB k (iv 4) (iv 5) (iv 6) (iv 7) (iv 8) (iv 9)) (hS : q_cS k (iv 10) (iv 11) (iv 12) (iv 13) (iv 14)) (hC : q_cC k (iv 15) (iv 16)) (hA : q_cA k (iv 17) (iv 18) (iv 19) (iv 20)) (hO : q_cO k (iv 22) (iv 23) (iv 24)) (hL : q_cL k (iv 25)) (hP : q_cP k (iv 27)) (hci : q_CI k (iv 2) (iv 138) (iv 139) (iv 140) (iv 142) (iv 143) (iv 145) (iv 129) (iv 135)) (hcase0 : 0 ≤ p ∧ p ≤ q_p2 (k 2) - 1) (hcase1 : ¬ q_exi (fun i => 1 ≤ i ∧ q_sta k i) (k 0)) (hcase2 : q_sen k) (hcase3 : q_flk k p = 45) : pz_RE (pz_Sh L) 143 [.inr (.inl 2), .inl p] iv (.inl (some (.inl (q_la (q_plk k p) (k 0))))) (fun iv9 => ∃ (o9 : Nat → Int) (z9 : Nat → Int) (l9 : Nat → Int) (n9 : Nat → Int) (w9 : Nat → Int) (d9 : Nat → Int) (m9 : Nat → Int) (V9 : Nat → Int) (W9 : Nat → Int) (U9 : Nat → Int) (Y9 : Nat → Int) (p9 : Nat → Int) (q9 : Nat → Int) (r9 : Nat → Int) (x9 : Nat → Int) (y9 : Nat → Int), iv9 = pz_u1 (pz_u1 (pz_u1 (pz_u1 (pz_u1 (pz_u1 (pz_u1 (pz_u1 (pz_u1 (pz_u1 (pz_u1 (pz_u1 (pz_u1 (pz_u1 (pz_u1 (pz_u1 (pz_u1 (pz_u1 iv 2 o9) 3 (pz_up (iv 3) 7 (k 0))) 26 z9) 27 (q_cp 10 (q_pl (q_val k) k p (iv 153)) (iv 27))) 134 l9) 138 n9) 139 w9) 140 d9) 142 m9) 143 V9) 144 W9) 145 U9) 146 Y9) 147 p9) 148 q9) 149 r9) 152 x9) 153 y9 ∧ (q_CI k o9 n9 w9 d9 m9 V9 U9 (iv 129) (iv 135)) ∧ (o9 2 = (iv 2) 2)) := by
  intro dv cc ss
  have hk0 := hk.r0
  have hE0 := hE
  have hB0 := hB.1
  have hS0 := hS.1
  have hC0 := hC.1
  have hA0 := hA.1
  have hsh := q_shl_p2 (a := k 2) (by omega) (by omega)
  have hp2 := q_p2_r (a := k 2) (by omega) (by omega)
  have hp3 := q_p2_le (a := k 2) (b := 3) (by omega) (by omega)
  have hp8 : q_p2 3 = 8 := rfl
  have hsc : pz_shl 1 (iv 10 0) = q_p2 (k 2) := by
    rw [hS.1]; exact hsh
  have hfk := q_fl_k (a := iv 153) (p := p) hk
  have hfr := q_fl_r (v := q_val k) (k := k) (p := p) (a := iv 153)
  refine pz_G_mem (iv2 := pz_u1 (pz_u1 (pz_u1 (pz_u1 (pz_u1 (pz_u1 (pz_u1 (pz_u1 (pz_u1 (pz_u1 (pz_u1 (pz_u1 (pz_u1 (pz_u1 (pz_u1 (pz_u1 (pz_u1 (pz_u1 iv 2 (iv 2)) 3 (iv 3)) 26 (iv 26)) 27 (iv 27)) 134 (iv 134)) 138 (iv 138)) 139 (iv 139)) 140 (iv 140)) 142 (iv 142)) 143 (iv 143)) 144 (iv 144)) 145 (iv 145)) 146 (iv 146)) 147 (iv 147)) 148 (iv 148)) 149 (iv 149)) 152 (iv 152)) 153 (iv 153)) (by exact ((((((((((((((((((pz_u1_self iv 2).symm).trans (pz_u1_self (pz_u1 iv 2 (iv 2)) 3).symm).trans (pz_u1_self (pz_u1 (pz_u1 iv 2 (iv 2)) 3 (iv 3)) 26).symm).trans (pz_u1_self (pz_u1 (pz_u1 (pz_u1 iv 2 (iv 2)) 3 (iv 3)) 26 (iv 26)) 27).symm).trans (pz_u1_self (pz_u1 (pz_u1 (pz_u1 (pz_u1 iv 2 (iv 2)) 3 (iv 3)) 26 (iv 26)) 27 (iv 27)) 134).symm).trans (pz_u1_self (pz_u1 (pz_u1 (pz_u1 (pz_u1 (pz_u1 iv 2 (iv 2)) 3 (iv 3)) 26 (iv 26)) 27 (iv 27)) 134 (iv 134)) 138).symm).trans (pz_u1_self (pz_u1 (pz_u1 (pz_u1 (pz_u1 (pz_u1 (pz_u1 iv 2 (iv 2)) 3 (iv 3)) 26 (iv 26)) 27 (iv 27)) 134 (iv 134)) 138 (iv 138)) 139).symm).trans (pz_u1_self (pz_u1 (pz_u1 (pz_u1 (pz_u1 (pz_u1 (pz_u1 (pz_u1 iv 2 (iv 2)) 3 (iv 3)) 26 (iv 26)) 27 (iv 27)) 134 (iv 134)) 138 (iv 138)) 139 (iv 139)) 140).symm).trans (pz_u1_self (pz_u1 (pz_u1 (pz_u1 (pz_u1 (pz_u1 (pz_u1 (pz_u1 (pz_u1 iv 2 (iv 2)) 3 (iv 3)) 26 (iv 26)) 27 (iv 27)) 134 (iv 134)) 138 (iv 138)) 139 (iv 139)) 140 (iv 140)) 142).symm).trans (pz_u1_self (pz_u1 (pz_u1 (pz_u1 (pz_u1 (pz_u1 (pz_u1 (pz_u1 (pz_u1 (pz_u1 iv 2 (iv 2)) 3 (iv 3)) 26 (iv 26)) 27 (iv 27)) 134 (iv 134)) 138 (iv 138)) 139 (iv 139)) 140 (iv 140)) 142 (iv 142)) 143).symm).trans (pz_u1_self (pz_u1 (pz_u1 (pz_u1 (pz_u1 (pz_u1 (pz_u1 (pz_u1 (pz_u1 (pz_u1 (pz_u1 iv 2 (iv 2)) 3 (iv 3)) 26 (iv 26)) 27 (iv 27)) 134 (iv 134)) 138 (iv 138)) 139 (iv 139)) 140 (iv 140)) 142 (iv 142)) 143 (iv 143)) 144).symm).trans (pz_u1_self (pz_u1 (pz_u1 (pz_u1 (pz_u1 (pz_u1 (pz_u1 (pz_u1 (pz_u1 (pz_u1 (pz_u1 (pz_u1 iv 2 (iv 2)) 3 (iv 3)) 26 (iv 26)) 27 (iv 27)) 134 (iv 134)) 138 (iv 138)) 139 (iv 139)) 140 (iv 140)) 142 (iv 142)) 143 (iv 143)) 144 (iv 144)) 145).symm).trans (pz_u1_self (pz_u1 (pz_u1 (pz_u1 (pz_u1 (pz_u1 (pz_u1 (pz_u1 (pz_u1 (pz_u1 (pz_u1 (pz_u1 (pz_u1 iv 2 (iv 2)) 3 (iv 3)) 26 (iv 26)) 27 (iv 27)) 134 (iv 134)) 138 (iv 138)) 139 (iv 139)) 140 (iv 140)) 142 (iv 142)) 143 (iv 143)) 144 (iv 144)) 145 (iv 145)) 146).symm).trans (pz_u1_self (pz_u1 (pz_u1 (pz_u1 (pz_u1 (pz_u1 (pz_u1 (pz_u1 (pz_u1 (pz_u1 (pz_u1 (pz_u1 (pz_u1 (pz_u1 iv 2 (iv 2)) 3 (iv 3)) 26 (iv 26)) 27 (iv 27)) 134 (iv 134)) 138 (iv 138)) 139 (iv 139)) 140 (iv 140)) 142 (iv 142)) 143 (iv 143)) 144 (iv 144)) 145 (iv 145)) 146 (iv 146)) 147).symm).trans (pz_u1_self (pz_u1 (pz_u1 (pz_u1 (pz_u1 (pz_u1 (pz_u1 (pz_u1 (pz_u1 (pz_u1 (pz_u1 (pz_u1 (pz_u1 (pz_u1 (pz_u1 iv 2 (iv 2)) 3 (iv 3)) 26 (iv 26)) 27 (iv 27)) 134 (iv 134)) 138 (iv 138)) 139 (iv 139)) 140 (iv 140)) 142 (iv 142)) 143 (iv 143)) 144 (iv 144)) 145 (iv 145)) 146 (iv 146)) 147 (iv 147)) 148).symm).trans (pz_u1_self (pz_u1 (pz_u1 (pz_u1 (pz_u1 (pz_u1 (pz_u1 (pz_u1 (pz_u1 (pz_u1 (pz_u1 (pz_u1 (pz_u1 (pz_u1 (pz_u1 (pz_u1 iv 2 (iv 2)) 3 (iv 3)) 26 (iv 26)) 27 (iv 27)) 134 (iv 134)) 138 (iv 138)) 139 (iv 139)) 140 (iv 140)) 142 (iv 142)) 143 (iv 143)) 144 (iv 144)) 145 (iv 145)) 146 (iv 146)) 147 (iv 147)) 148 (iv 148)) 149).symm).trans (pz_u1_self (pz_u1 (pz_u1 (pz_u1 (pz_u1 (pz_u1 (pz_u1 (pz_u1 (pz_u1 (pz_u1 (pz_u1 (pz_u1 (pz_u1 (pz_u1 (pz_u1 (pz_u1 (pz_u1 iv 2 (iv 2)) 3 (iv 3)) 26 (iv 26)) 27 (iv 27)) 134 (iv 134)) 138 (iv 138)) 139 (iv 139)) 140 (iv 140)) 142 (iv 142)) 143 (iv 143)) 144 (iv 144)) 145 (iv 145)) 146 (iv 146)) 147 (iv 147)) 148 (iv 148)) 149 (iv 149)) 152).symm).trans (pz_u1_self (pz_u1 (pz_u1 (pz_u1 (pz_u1 (pz_u1 (pz_u1 (pz_u1 (pz_u1 (pz_u1 (pz_u1 (pz_u1 (pz_u1 (pz_u1 (pz_u1 (pz_u1 (pz_u1 (pz_u1 iv 2 (iv 2)) 3 (iv 3)) 26 (iv 26)) 27 (iv 27)) 134 (iv 134)) 138 (iv 138)) 139 (iv 139)) 140 (iv 140)) 142 (iv 142)) 143 (iv 143)) 144 (iv 144)) 145 (iv 145)) 146 (iv 146)) 147 (iv 147)) 148 (iv 148)) 149 (iv 149)) 152 (iv 152)) 153).symm) ?_
  show pz_G 143 0 [some (.inr (.inl 2)), some (.inl p)] [] (pz_Sh L, pz_u1 (pz_u1 (pz_u1 (pz_u1 (pz_u1 (pz_u1 (pz_u1 (pz_u1 (pz_u1 (pz_u1 (pz_u1 (pz_u1 (pz_u1 (pz_u1 (pz_u1 (pz_u1 (pz_u1 (pz_u1 iv 2 (iv 2)) 3 (iv 3)) 26 (iv 26)) 27 (iv 27)) 134 (iv 134)) 138 (iv 138)) 139 (iv 139)) 140 (iv 140)) 142 (iv 142)) 143 (iv 143)) 144 (iv 144)) 145 (iv 145)) 146 (iv 146)) 147 (iv 147)) 148 (iv 148)) 149 (iv 149)) 152 (iv 152)) 153 (iv 153), dv, cc, ss) (pz_PE (pz_Sh L) (.inl (some (.inl (q_la (q_plk k p) (k 0))))) (fun iv9 => ∃ (o9 : Nat → Int) (z9 : Nat → Int) (l9 : Nat → Int) (n9 : Nat → Int) (w9 : Nat → Int) (d9 : Nat → Int) (m9 : Nat → Int) (V9 : Nat → Int) (W9 : Nat → Int) (U9 : Nat → Int) (Y9 : Nat → Int) (p9 : Nat → Int) (q9 : Nat → Int) (r9 : Nat → Int) (x9 : Nat → Int) (y9 : Nat → Int), iv9 = pz_u1 (pz_u1 (pz_u1 (pz_u1 (pz_u1 (pz_u1 (pz_u1 (pz_u1 (pz_u1 (pz_u1 (pz_u1 (pz_u1 (pz_u1 (pz_u1 (pz_u1 (pz_u1 (pz_u1 (pz_u1 iv 2 o9) 3 (pz_up (iv 3) 7 (k 0))) 26 z9) 27 (q_cp 10 (q_pl (q_val k) k p (iv 153)) (iv 27))) 134 l9) 138 n9) 139 w9) 140 d9) 142 m9) 143 V9) 144 W9) 145 U9) 146 Y9) 147 p9) 148 q9) 149 r9) 152 x9) 153 y9 ∧ (q_CI k o9 n9 w9 d9 m9 V9 U9 (iv 129) (iv 135)) ∧ (o9 2 = (iv 2) 2)) dv cc ss)
  refine pz_G_of pz_b143_0 ?_
  refine w_loc rfl ?_
  refine w_loc rfl ?_
  have hc1 : pz_RE (pz_Sh L) 174 [.inr (.inl 2), .inl p] (pz_u1 (pz_u1 (pz_u1 (pz_u1 (pz_u1 (pz_u1 (pz_u1 (pz_u1 (pz_u1 (pz_u1 (pz_u1 (pz_u1 (pz_u1 (pz_u1 (pz_u1 (pz_u1 (pz_u1 (pz_u1 iv 2 (iv 2)) 3 (iv 3)) 26 (iv 26)) 27 (iv 27)) 134 (iv 134)) 138 (iv 138)) 139 (iv 139)) 140 (iv 140)) 142 (iv 142)) 143 (iv 143)) 144 (iv 144)) 145 (iv 145)) 146 (iv 146)) 147 (iv 147)) 148 (iv 148)) 149 (iv 149)) 152 (iv 152)) 153 (iv 153)) (.inl none) _ := s_X10_needPlayable_0 (L := L) (iv := pz_u1 (pz_u1 (pz_u1 (pz_u1 (pz_u1 (pz_u1 (pz_u1 (pz_u1 (pz_u1 (pz_u1 (pz_u1 (pz_u1 (pz_u1 (pz_u1 (pz_u1 (pz_u1 (pz_u1 (pz_u1 iv 2 (iv 2)) 3 (iv 3)) 26 (iv 26)) 27 (iv 27)) 134 (iv 134)) 138 (iv 138)) 139 (iv 139)) 140 (iv 140)) 142 (iv 142)) 143 (iv 143)) 144 (iv 144)) 145 (iv 145)) 146 (iv 146)) 147 (iv 147)) 148 (iv 148)) 149 (iv 149)) 152 (iv 152)) 153 (iv 153)) p (by show q_KR k; exact hk) (by show q_cE k (iv 3); first | exact hE | exact ⟨hE.1, rfl⟩) (by show q_cB k (iv 4) (iv 5) (iv 6) (iv 7) (iv 8) (iv 9); exact hB) (by show q_cS k (iv 10) (iv 11) (iv 12) (iv 13) (iv 14); exact hS) (by show q_cC k (iv 15) (iv 16); exact hC) (by show q_cA k (iv 17) (iv 18) (iv 19) (iv 20); exact hA) (by show q_cO k (iv 22) (iv 23) (iv 24); exact hO) (by show q_cL k (iv 25); exact hL) (by show q_cP k (iv 27); exact hP) (by show q_CI k (iv 2) (iv 138) (iv 139) (iv 140) (iv 142) (iv 143) (iv 145) (iv 129) (iv 135); exact hci) (by show 0 ≤ p ∧ p ≤ q_p2 (k 2) - 1; first | assumption | omega) (by show ¬ q_exi (fun i => 1 ≤ i ∧ q_sta k i) (k 0); first | assumption | omega) (by show q_sen k; first | assumption | omega)
  refine w_callvE hc1 rfl (pz_cokI is_2 rfl) (fun iv9 h9 => ?_)
  obtain ⟨o9_2, l9_3, n9_4, w9_5, d9_6, m9_7, V9_8, W9_9, U9_10, Y9_11, p9_12, q9_13, r9_14, h9e, hci, ho2, hRK⟩ := h9
  have h9x : iv9 = pz_u1 (pz_u1 (pz_u1 (pz_u1 (pz_u1 (pz_u1 (pz_u1 (pz_u1 (pz_u1 (pz_u1 (pz_u1 (pz_u1 (pz_u1 (pz_u1 (pz_u1 (pz_u1 (pz_u1 (pz_u1 iv 2 o9_2) 3 (iv 3)) 26 (iv 26)) 27 (iv 27)) 134 l9_3) 138 n9_4) 139 w9_5) 140 d9_6) 142 m9_7) 143 V9_8) 144 W9_9) 145 U9_10) 146 Y9_11) 147 p9_12) 148 q9_13) 149 r9_14) 152 (iv 152)) 153 (iv 153) := h9e.trans (by rw [pz_u1_in (r := 2) (q := 153) (by decide)]; rw [pz_u1_in (r := 2) (q := 152) (by decide)]; rw [pz_u1_in (r := 2) (q := 149) (by decide)]; rw [pz_u1_in (r := 2) (q := 148) (by decide)]; rw [pz_u1_in (r := 2) (q := 147) (by decide)]; rw [pz_u1_in (r := 2) (q := 146) (by decide)]; rw [pz_u1_in (r := 2) (q := 145) (by decide)]; rw [pz_u1_in (r := 2) (q := 144) (by decide)]; rw [pz_u1_in (r := 2) (q := 143) (by decide)]; rw [pz_u1_in (r := 2) (q := 142) (by decide)]; rw [pz_u1_in (r := 2) (q := 140) (by decide)]; rw [pz_u1_in (r := 2) (q := 139) (by decide)]; rw [pz_u1_in (r := 2) (q := 138) (by decide)]; rw [pz_u1_in (r := 2) (q := 134) (by decide)]; rw [pz_u1_in (r := 2) (q := 27) (by decide)]; rw [pz_u1_in (r := 2) (q := 26) (by decide)]; rw [pz_u1_in (r := 2) (q := 3) (by decide)]; rw [pz_u1_top (r := 2)]; rw [pz_u1_in (r := 134) (q := 153) (by decide)]; rw [pz_u1_in (r := 134) (q := 152) (by decide)]; rw [pz_u1_in (r := 134) (q := 149) (by decide)]; rw [pz_u1_in (r := 134) (q := 148) (by decide)]; rw [pz_u1_in (r := 134) (q := 147) (by decide)]; rw [pz_u1_in (r := 134) (q := 146) (by decide)]; rw [pz_u1_in (r := 134) (q := 145) (by decide)]; rw [pz_u1_in (r := 134) (q := 144) (by decide)]; rw [pz_u1_in (r := 134) (q := 143) (by decide)]; rw [pz_u1_in (r := 134) (q := 142) (by decide)]; rw [pz_u1_in (r := 134) (q := 140) (by decide)]; rw [pz_u1_in (r := 134) (q := 139) (by decide)]; rw [pz_u1_in (r := 134) (q := 138) (by decide)]; rw [pz_u1_top (r := 134)]; rw [pz_u1_in (r := 138) (q := 153) (by decide)]; rw [pz_u1_in (r := 138) (q := 152) (by decide)]; rw [pz_u1_in (r := 138) (q := 149) (by decide)]; rw [pz_u1_in (r := 138) (q := 148) (by decide)]; rw [pz_u1_in (r := 138) (q := 147) (by decide)]; rw [pz_u1_in (r := 138) (q := 146) (by decide)]; rw [pz_u1_in (r := 138) (q := 145) (by decide)]; rw [pz_u1_in (r := 138) (q := 144) (by decide)]; rw [pz_u1_in (r := 138) (q := 143) (by decide)]; rw [pz_u1_in (r := 138) (q := 142) (by decide)]; rw [pz_u1_in (r := 138) (q := 140) (by decide)]; rw [pz_u1_in (r := 138) (q := 139) (by decide)]; rw [pz_u1_top (r := 138)]; rw [pz_u1_in (r := 139) (q := 153) (by decide)]; rw [pz_u1_in (r := 139) (q := 152) (by decide)]; rw [pz_u1_in (r := 139) (q := 149) (by decide)]; rw [pz_u1_in (r := 139) (q := 148) (by decide)]; rw [pz_u1_in (r := 139) (q := 147) (by decide)]; rw [pz_u1_in (r := 139) (q := 146) (by decide)]; rw [pz_u1_in (r := 139) (q := 145) (by decide)]; rw [pz_u1_in (r := 139) (q := 144) (by decide)]; rw [pz_u1_in (r := 139) (q := 143) (by decide)]; rw [pz_u1_in (r := 139) (q := 142) (by decide)]; rw [pz_u1_in (r := 139) (q := 140) (by decide)]; rw [pz_u1_top (r := 139)]; rw [pz_u1_in (r := 140) (q := 153) (by decide)]; rw [pz_u1_in (r := 140) (q := 152) (by decide)]; rw [pz_u1_in (r := 140) (q := 149) (by decide)]; rw [pz_u1_in (r := 140) (q := 148) (by decide)]; rw [pz_u1_in (r := 140) (q := 147) (by decide)]; rw [pz_u1_in (r := 140) (q := 146) (by decide)]; rw [pz_u1_in (r := 140) (q := 145) (by decide)]; rw [pz_u1_in (r := 140) (q := 144) (by decide)]; rw [pz_u1_in (r := 140) (q := 143) (by decide)]; rw [pz_u1_in (r := 140) (q := 142) (by decide)]; rw [pz_u1_top (r := 140)]; rw [pz_u1_in (r := 142) (q := 153) (by decide)]; rw [pz_u1_in (r := 142) (q := 152) (by decide)]; rw [pz_u1_in (r := 142) (q := 149) (by decide)]; rw [pz_u1_in (r := 142) (q := 148) (by decide)]; rw [pz_u1_in (r := 142) (q := 147) (by decide)]; rw [pz_u1_in (r := 142) (q := 146) (by decide)]; rw [pz_u1_in (r := 142) (q := 145) (by decide)]; rw [pz_u1_in (r := 142) (q := 144) (by decide)]; rw [pz_u1_in (r := 142) (q := 143) (by decide)]; rw [pz_u1_top (r := 142)]; rw [pz_u1_in (r := 143) (q := 153) (by decide)]; rw [pz_u1_in (r := 143) (q := 152) (by decide)]; rw [pz_u1_in (r := 143) (q := 149) (by decide)]; rw [pz_u1_in (r := 143) (q := 148) (by decide)]; rw [pz_u1_in (r := 143) (q := 147) (by decide)]; rw [pz_u1_in (r := 143) (q := 146) (by decide)]; rw [pz_u1_in (r := 143) (q := 145) (by decide)]; rw [pz_u1_in (r := 143) (q := 144) (by decide)]; rw [pz_u1_top (r := 143)]; rw [pz_u1_in (r := 144) (q := 153) (by decide)]; rw [pz_u1_in (r := 144) (q := 152) (by decide)]; rw [pz_u1_in (r := 144) (q := 149) (by decide)]; rw [pz_u1_in (r := 144) (q := 148) (by decide)]; rw [pz_u1_in (r := 144) (q := 147) (by decide)]; rw [pz_u1_in (r := 144) (q := 146) (by decide)]; rw [pz_u1_in (r := 144) (q := 145) (by decide)]; rw [pz_u1_top (r := 144)]; rw [pz_u1_in (r := 145) (q := 153) (by decide)]; rw [pz_u1_in (r := 145) (q := 152) (by decide)]; rw [pz_u1_in (r := 145) (q := 149) (by decide)]; rw [pz_u1_in (r := 145) (q := 148) (by decide)]; rw [pz_u1_in (r := 145) (q := 147) (by decide)]; rw [pz_u1_in (r := 145) (q := 146) (by decide)]; rw [pz_u1_top (r := 145)]; rw [pz_u1_in (r := 146) (q := 153) (by decide)]; rw [pz_u1_in (r := 146) (q := 152) (by decide)]; rw [pz_u1_in (r := 146) (q := 149) (by decide)]; rw [pz_u1_in (r := 146) (q := 148) (by decide)]; rw [pz_u1_in (r := 146) (q := 147) (by decide)]; rw [pz_u1_top (r := 146)]; rw [pz_u1_in (r := 147) (q := 153) (by decide)]; rw [pz_u1_in (r := 147) (q := 152) (by decide)]; rw [pz_u1_in (r := 147) (q := 149) (by decide)]; rw [pz_u1_in (r := 147) (q := 148) (by decide)]; rw [pz_u1_top (r := 147)]; rw [pz_u1_in (r := 148) (q := 153) (by decide)]; rw [pz_u1_in (r := 148) (q := 152) (by decide)]; rw [pz_u1_in (r := 148) (q := 149) (by decide)]; rw [pz_u1_top (r := 148)]; rw [pz_u1_in (r := 149) (q := 153) (by decide)]; rw [pz_u1_in (r := 149) (q := 152) (by decide)]; rw [pz_u1_top (r := 149)] <;> rfl)
  subst h9x
  clear h9e hc1
  replace hci : q_CI k o9_2 n9_4 w9_5 d9_6 m9_7 V9_8 U9_10 (iv 129) (iv 135) := hci
  replace ho2 : o9_2 2 = (iv 2) 2 := ho2
  replace hRK : q_RK k m9_7 V9_8 U9_10 := hRK
  refine w_loc rfl ?_
  refine w_getR (q := 151) is_2 rf_2_6 ?_
  refine w_loc rfl ?_
  have hc15 : pz_RE (pz_Sh L) 76 [.inr (.inl 151), .inl p] (pz_u1 (pz_u1 (pz_u1 (pz_u1 (pz_u1 (pz_u1 (pz_u1 (pz_u1 (pz_u1 (pz_u1 (pz_u1 (pz_u1 (pz_u1 (pz_u1 (pz_u1 (pz_u1 (pz_u1 (pz_u1 iv 2 o9_2) 3 (iv 3)) 26 (iv 26)) 27 (iv 27)) 134 l9_3) 138 n9_4) 139 w9_5) 140 d9_6) 142 m9_7) 143 V9_8) 144 W9_9) 145 U9_10) 146 Y9_11) 147 p9_12) 148 q9_13) 149 r9_14) 152 (iv 152)) 153 (iv 153)) (.inl (some (.inl (q_fl (q_val k) k p (iv 153))))) _ := s_X7_failureOf (L := L) (iv := pz_u1 (pz_u1 (pz_u1 (pz_u1 (pz_u1 (pz_u1 (pz_u1 (pz_u1 (pz_u1 (pz_u1 (pz_u1 (pz_u1 (pz_u1 (pz_u1 (pz_u1 (pz_u1 (pz_u1 (pz_u1 iv 2 o9_2) 3 (iv 3)) 26 (iv 26)) 27 (iv 27)) 134 l9_3) 138 n9_4) 139 w9_5) 140 d9_6) 142 m9_7) 143 V9_8) 144 W9_9) 145 U9_10) 146 Y9_11) 147 p9_12) 148 q9_13) 149 r9_14) 152 (iv 152)) 153 (iv 153)) p (by show q_KR k; exact hk) (by show q_cE k (iv 3); first | exact hE | exact ⟨hE.1, rfl⟩) (by show q_cB k (iv 4) (iv 5) (iv 6) (iv 7) (iv 8) (iv 9); exact hB) (by show q_cS k (iv 10) (iv 11) (iv 12) (iv 13) (iv 14); exact hS) (by show q_cL k (iv 25); exact hL) (by show 0 ≤ p ∧ p ≤ 15; omega) (by show q_VU k (q_val k) V9_8 U9_10; exact hRK.2.2 (by assumption)) (by show q_vb (q_val k); exact q_vb_val hk (by assumption))
  refine w_callE hc15 rfl (pz_cokI is_151 rfl) (fun iv9 h9 => ?_)
  obtain ⟨x9_16, h9e, hx9⟩ := h9
  have h9x : iv9 = pz_u1 (pz_u1 (pz_u1 (pz_u1 (pz_u1 (pz_u1 (pz_u1 (pz_u1 (pz_u1 (pz_u1 (pz_u1 (pz_u1 (pz_u1 (pz_u1 (pz_u1 (pz_u1 (pz_u1 (pz_u1 iv 2 o9_2) 3 (iv 3)) 26 (iv 26)) 27 (iv 27)) 134 l9_3) 138 n9_4) 139 w9_5) 140 d9_6) 142 m9_7) 143 V9_8) 144 W9_9) 145 U9_10) 146 Y9_11) 147 p9_12) 148 q9_13) 149 r9_14) 152 x9_16) 153 (q_pl (q_val k) k p (iv 153)) := h9e.trans (by rw [pz_u1_in (r := 152) (q := 153) (by decide)]; rw [pz_u1_top (r := 152)]; rw [pz_u1_top (r := 153)] <;> rfl)
  subst h9x
  clear h9e hc15
  replace hx9 : 0 ≤ x9_16 0 ∧ x9_16 0 ≤ 601 := hx9
  refine w_pure rfl ?_
  refine w_ieq (fun h17 => ?_) (fun h17 => ?_)
  · first
    | (exfalso; omega)
    | (refine pz_G_of pz_b143_28 ?_
       refine w_loc rfl ?_
       refine w_getR (q := 3) is_2 rf_2_0 ?_
       refine w_loc rfl ?_
       refine w_getR (q := 151) is_2 rf_2_6 ?_
       refine w_getR (q := 152) is_151 rf_151_2 ?_
       have hc18 : pz_R (pz_Sh L) 73 [.inr (.inl 3), .inr (.inl 152)] (pz_u1 (pz_u1 (pz_u1 (pz_u1 (pz_u1 (pz_u1 (pz_u1 (pz_u1 (pz_u1 (pz_u1 (pz_u1 (pz_u1 (pz_u1 (pz_u1 (pz_u1 (pz_u1 (pz_u1 (pz_u1 iv 2 o9_2) 3 (iv 3)) 26 (iv 26)) 27 (iv 27)) 134 l9_3) 138 n9_4) 139 w9_5) 140 d9_6) 142 m9_7) 143 V9_8) 144 W9_9) 145 U9_10) 146 Y9_11) 147 p9_12) 148 q9_13) 149 r9_14) 152 x9_16) 153 (q_pl (q_val k) k p (iv 153))) (.inl none) (pz_u1 (pz_u1 (pz_u1 (pz_u1 (pz_u1 (pz_u1 (pz_u1 (pz_u1 (pz_u1 (pz_u1 (pz_u1 (pz_u1 (pz_u1 (pz_u1 (pz_u1 (pz_u1 (pz_u1 (pz_u1 iv 2 o9_2) 3 (pz_up (iv 3) 7 (k 0))) 26 (pz_up (iv 26) 0 (x9_16 0))) 27 (q_cp 10 (q_pl (q_val k) k p (iv 153)) (iv 27))) 134 l9_3) 138 n9_4) 139 w9_5) 140 d9_6) 142 m9_7) 143 V9_8) 144 W9_9) 145 U9_10) 146 Y9_11) 147 p9_12) 148 q9_13) 149 r9_14) 152 x9_16) 153 (q_pl (q_val k) k p (iv 153))) := pz_R_mem (s_X6_keepPlayed (by show q_cE k (iv 3); first | exact hE | exact ⟨hE.1, rfl⟩)) (by rw [pz_u1_in (r := 3) (q := 153) (by decide)]; rw [pz_u1_in (r := 3) (q := 152) (by decide)]; rw [pz_u1_in (r := 3) (q := 149) (by decide)]; rw [pz_u1_in (r := 3) (q := 148) (by decide)]; rw [pz_u1_in (r := 3) (q := 147) (by decide)]; rw [pz_u1_in (r := 3) (q := 146) (by decide)]; rw [pz_u1_in (r := 3) (q := 145) (by decide)]; rw [pz_u1_in (r := 3) (q := 144) (by decide)]; rw [pz_u1_in (r := 3) (q := 143) (by decide)]; rw [pz_u1_in (r := 3) (q := 142) (by decide)]; rw [pz_u1_in (r := 3) (q := 140) (by decide)]; rw [pz_u1_in (r := 3) (q := 139) (by decide)]; rw [pz_u1_in (r := 3) (q := 138) (by decide)]; rw [pz_u1_in (r := 3) (q := 134) (by decide)]; rw [pz_u1_in (r := 3) (q := 27) (by decide)]; rw [pz_u1_in (r := 3) (q := 26) (by decide)]; rw [pz_u1_top (r := 3)]; rw [pz_u1_in (r := 26) (q := 153) (by decide)]; rw [pz_u1_in (r := 26) (q := 152) (by decide)]; rw [pz_u1_in (r := 26) (q := 149) (by decide)]; rw [pz_u1_in (r := 26) (q := 148) (by decide)]; rw [pz_u1_in (r := 26) (q := 147) (by decide)]; rw [pz_u1_in (r := 26) (q := 146) (by decide)]; rw [pz_u1_in (r := 26) (q := 145) (by decide)]; rw [pz_u1_in (r := 26) (q := 144) (by decide)]; rw [pz_u1_in (r := 26) (q := 143) (by decide)]; rw [pz_u1_in (r := 26) (q := 142) (by decide)]; rw [pz_u1_in (r := 26) (q := 140) (by decide)]; rw [pz_u1_in (r := 26) (q := 139) (by decide)]; rw [pz_u1_in (r := 26) (q := 138) (by decide)]; rw [pz_u1_in (r := 26) (q := 134) (by decide)]; rw [pz_u1_in (r := 26) (q := 27) (by decide)]; rw [pz_u1_top (r := 26)]; rw [pz_u1_in (r := 27) (q := 153) (by decide)]; rw [pz_u1_in (r := 27) (q := 152) (by decide)]; rw [pz_u1_in (r := 27) (q := 149) (by decide)]; rw [pz_u1_in (r := 27) (q := 148) (by decide)]; rw [pz_u1_in (r := 27) (q := 147) (by decide)]; rw [pz_u1_in (r := 27) (q := 146) (by decide)]; rw [pz_u1_in (r := 27) (q := 145) (by decide)]; rw [pz_u1_in (r := 27) (q := 144) (by decide)]; rw [pz_u1_in (r := 27) (q := 143) (by decide)]; rw [pz_u1_in (r := 27) (q := 142) (by decide)]; rw [pz_u1_in (r := 27) (q := 140) (by decide)]; rw [pz_u1_in (r := 27) (q := 139) (by decide)]; rw [pz_u1_in (r := 27) (q := 138) (by decide)]; rw [pz_u1_in (r := 27) (q := 134) (by decide)]; rw [pz_u1_top (r := 27)]; rfl)
       refine w_callv hc18 rfl (pz_cokI is_3 rfl) ?_
       refine w_loc rfl ?_
       refine w_getR (q := 151) is_2 rf_2_6 ?_
       have hc19 : pz_R (pz_Sh L) 86 [.inr (.inl 151)] (pz_u1 (pz_u1 (pz_u1 (pz_u1 (pz_u1 (pz_u1 (pz_u1 (pz_u1 (pz_u1 (pz_u1 (pz_u1 (pz_u1 (pz_u1 (pz_u1 (pz_u1 (pz_u1 (pz_u1 (pz_u1 iv 2 o9_2) 3 (pz_up (iv 3) 7 (k 0))) 26 (pz_up (iv 26) 0 (x9_16 0))) 27 (q_cp 10 (q_pl (q_val k) k p (iv 153)) (iv 27))) 134 l9_3) 138 n9_4) 139 w9_5) 140 d9_6) 142 m9_7) 143 V9_8) 144 W9_9) 145 U9_10) 146 Y9_11) 147 p9_12) 148 q9_13) 149 r9_14) 152 x9_16) 153 (q_pl (q_val k) k p (iv 153))) (.inl (some (.inl (q_la (q_pl (q_val k) k p (iv 153)) (k 0))))) (pz_u1 (pz_u1 (pz_u1 (pz_u1 (pz_u1 (pz_u1 (pz_u1 (pz_u1 (pz_u1 (pz_u1 (pz_u1 (pz_u1 (pz_u1 (pz_u1 (pz_u1 (pz_u1 (pz_u1 (pz_u1 iv 2 o9_2) 3 (pz_up (iv 3) 7 (k 0))) 26 (pz_up (iv 26) 0 (x9_16 0))) 27 (q_cp 10 (q_pl (q_val k) k p (iv 153)) (iv 27))) 134 l9_3) 138 n9_4) 139 w9_5) 140 d9_6) 142 m9_7) 143 V9_8) 144 W9_9) 145 U9_10) 146 Y9_11) 147 p9_12) 148 q9_13) 149 r9_14) 152 x9_16) 153 (q_pl (q_val k) k p (iv 153))) := s_X7_lastStart (by show q_KR k; exact hk) (by show (pz_up (iv 3) 7 (k 0)) 0 = k 0; exact hE.1)
       refine w_call hc19 rfl (pz_cokI is_151 rfl) ?_
       refine w_ret rfl ?_
       first | exact ⟨pz_u1 (pz_u1 (pz_u1 (pz_u1 (pz_u1 (pz_u1 (pz_u1 (pz_u1 (pz_u1 (pz_u1 (pz_u1 (pz_u1 (pz_u1 (pz_u1 (pz_u1 (pz_u1 (pz_u1 (pz_u1 iv 2 o9_2) 3 (pz_up (iv 3) 7 (k 0))) 26 (pz_up (iv 26) 0 (x9_16 0))) 27 (q_cp 10 (q_pl (q_val k) k p (iv 153)) (iv 27))) 134 l9_3) 138 n9_4) 139 w9_5) 140 d9_6) 142 m9_7) 143 V9_8) 144 W9_9) 145 U9_10) 146 Y9_11) 147 p9_12) 148 q9_13) 149 r9_14) 152 x9_16) 153 (q_pl (q_val k) k p (iv 153)), ⟨o9_2, (pz_up (iv 26) 0 (x9_16 0)), l9_3, n9_4, w9_5, d9_6, m9_7, V9_8, W9_9, U9_10, Y9_11, p9_12, q9_13, r9_14, x9_16, (q_pl (q_val k) k p (iv 153)), by rfl, by exact hci, by exact ho2⟩, lf_i (by exact q_la_congr (fun e9 g1 g2 => q_pl_ind hk e9 g1 (by omega))) (by rfl)⟩ | (exfalso; omega))
  · first
    | (exfalso; omega)
    | (refine w_thr (by decide) ?_
       first | exact ⟨pz_u1 (pz_u1 (pz_u1 (pz_u1 (pz_u1 (pz_u1 (pz_u1 (pz_u1 (pz_u1 (pz_u1 (pz_u1 (pz_u1 (pz_u1 (pz_u1 (pz_u1 (pz_u1 (pz_u1 (pz_u1 iv 2 o9_2) 3 (iv 3)) 26 (iv 26)) 27 (iv 27)) 134 l9_3) 138 n9_4) 139 w9_5) 140 d9_6) 142 m9_7) 143 V9_8) 144 W9_9) 145 U9_10) 146 Y9_11) 147 p9_12) 148 q9_13) 149 r9_14) 152 x9_16) 153 (q_pl (q_val k) k p (iv 153)), ⟨o9_2, (iv 26), l9_3, n9_4, w9_5, d9_6, m9_7, V9_8, W9_9, U9_10, Y9_11, p9_12, q9_13, r9_14, x9_16, (q_pl (q_val k) k p (iv 153)), by rfl, by exact hci, by exact ho2⟩, lf_e (by rfl)⟩ | (exfalso; omega))

theorem s_X10_isKept_2a {L : Nat} {iv : Nat → Nat → Int} {k : Nat → Int} (hk : q_KR k) (hE : q_cE k (iv 3)) (hB : q_cB k (iv 4) (iv 5) (iv 6) (iv 7) (iv 8) (iv 9)) (hS : q_cS k (iv 10) (iv 11) (iv 12) (iv 13) (iv 14)) (hC : q_cC k (iv 15) (iv 16)) (hA : q_cA k (iv 17) (iv 18) (iv 19) (iv 20)) (hO : q_cO k (iv 22) (iv 23) (iv 24)) (hL : q_cL k (iv 25)) (hP : q_cP k (iv 27)) (hci : q_CI k (iv 2) (iv 138) (iv 139) (iv 140) (iv 142) (iv 143) (iv 145) (iv 129) (iv 135)) (hcase0 : q_exi (fun i => 1 ≤ i ∧ q_sta k i) (k 0)) : pz_R (pz_Sh L) 146 [.inr (.inl 2)] iv (.inr 0) iv := by
  intro dv cc ss
  have hk0 := hk.r0
  have hE0 := hE
  have hB0 := hB.1
  have hS0 := hS.1
  have hC0 := hC.1
  have hA0 := hA.1
  have hsh := q_shl_p2 (a := k 2) (by omega) (by omega)
  have hp2 := q_p2_r (a := k 2) (by omega) (by omega)
  have hp3 := q_p2_le (a := k 2) (b := 3) (by omega) (by omega)
  have hp8 : q_p2 3 = 8 := rfl
  have hsc : pz_shl 1 (iv 10 0) = q_p2 (k 2) := by
    rw [hS.1]; exact hsh
  show pz_G 146 0 [some (.inr (.inl 2)), none] [] (pz_Sh L, iv, dv, cc, ss) (pz_P (pz_Sh L) (.inr 0) iv dv cc ss)
  refine pz_G_of pz_b146_0 ?_
  refine w_loc rfl ?_
  refine w_pure rfl ?_
  have hc1 : pz_R (pz_Sh L) 174 [.inr (.inl 2), .inl 0] (iv) (.inr 0) (iv) := s_X10_needPlayable_2a 0 (by exact hk) (by exact hE) (by exact hB) (by exact hS) (by exact hC) (by exact hA) (by exact hO) (by exact hL) (by exact hP) (by exact hci) (by first | assumption | omega) (by assumption)
  refine w_calle hc1 rfl (pz_cokI is_2 rfl) rfl ?_
  first | exact lf_e (by rfl) | (exfalso; omega)

theorem s_X10_isKept_2b {L : Nat} {iv : Nat → Nat → Int} {k : Nat → Int} (hk : q_KR k) (hE : q_cE k (iv 3)) (hB : q_cB k (iv 4) (iv 5) (iv 6) (iv 7) (iv 8) (iv 9)) (hS : q_cS k (iv 10) (iv 11) (iv 12) (iv 13) (iv 14)) (hC : q_cC k (iv 15) (iv 16)) (hA : q_cA k (iv 17) (iv 18) (iv 19) (iv 20)) (hO : q_cO k (iv 22) (iv 23) (iv 24)) (hL : q_cL k (iv 25)) (hP : q_cP k (iv 27)) (hci : q_CI k (iv 2) (iv 138) (iv 139) (iv 140) (iv 142) (iv 143) (iv 145) (iv 129) (iv 135)) (hcase0 : ¬ q_exi (fun i => 1 ≤ i ∧ q_sta k i) (k 0)) (hcase1 : ¬ q_sen k) : pz_RE (pz_Sh L) 146 [.inr (.inl 2)] iv (.inr 0) (fun iv9 => ∃ (o9 : Nat → Int) (l9 : Nat → Int) (n9 : Nat → Int) (w9 : Nat → Int) (d9 : Nat → Int) (m9 : Nat → Int) (V9 : Nat → Int) (W9 : Nat → Int) (U9 : Nat → Int) (Y9 : Nat → Int) (p9 : Nat → Int) (q9 : Nat → Int) (r9 : Nat → Int), iv9 = pz_u1 (pz_u1 (pz_u1 (pz_u1 (pz_u1 (pz_u1 (pz_u1 (pz_u1 (pz_u1 (pz_u1 (pz_u1 (pz_u1 (pz_u1 iv 2 o9) 134 l9) 138 n9) 139 w9) 140 d9) 142 m9) 143 V9) 144 W9) 145 U9) 146 Y9) 147 p9) 148 q9) 149 r9 ∧ (q_CI k o9 n9 w9 d9 m9 V9 U9 (iv 129) (iv 135)) ∧ (o9 2 = (iv 2) 2)) := by
  intro dv cc ss
  have hk0 := hk.r0
  have hE0 := hE
  have hB0 := hB.1
  have hS0 := hS.1
  have hC0 := hC.1
  have hA0 := hA.1
  have hsh := q_shl_p2 (a := k 2) (by omega) (by omega)
  have hp2 := q_p2_r (a := k 2) (by omega) (by omega)
  have hp3 := q_p2_le (a := k 2) (b := 3) (by omega) (by omega)
  have hp8 : q_p2 3 = 8 := rfl
  have hsc : pz_shl 1 (iv 10 0) = q_p2 (k 2) := by
    rw [hS.1]; exact hsh
  refine pz_G_mem (iv2 := pz_u1 (pz_u1 (pz_u1 (pz_u1 (pz_u1 (pz_u1 (pz_u1 (pz_u1 (pz_u1 (pz_u1 (pz_u1 (pz_u1 (pz_u1 iv 2 (iv 2)) 134 (iv 134)) 138 (iv 138)) 139 (iv 139)) 140 (iv 140)) 142 (iv 142)) 143 (iv 143)) 144 (iv 144)) 145 (iv 145)) 146 (iv 146)) 147 (iv 147)) 148 (iv 148)) 149 (iv 149)) (by exact (((((((((((((pz_u1_self iv 2).symm).trans (pz_u1_self (pz_u1 iv 2 (iv 2)) 134).symm).trans (pz_u1_self (pz_u1 (pz_u1 iv 2 (iv 2)) 134 (iv 134)) 138).symm).trans (pz_u1_self (pz_u1 (pz_u1 (pz_u1 iv 2 (iv 2)) 134 (iv 134)) 138 (iv 138)) 139).symm).trans (pz_u1_self (pz_u1 (pz_u1 (pz_u1 (pz_u1 iv 2 (iv 2)) 134 (iv 134)) 138 (iv 138)) 139 (iv 139)) 140).symm).trans (pz_u1_self (pz_u1 (pz_u1 (pz_u1 (pz_u1 (pz_u1 iv 2 (iv 2)) 134 (iv 134)) 138 (iv 138)) 139 (iv 139)) 140 (iv 140)) 142).symm).trans (pz_u1_self (pz_u1 (pz_u1 (pz_u1 (pz_u1 (pz_u1 (pz_u1 iv 2 (iv 2)) 134 (iv 134)) 138 (iv 138)) 139 (iv 139)) 140 (iv 140)) 142 (iv 142)) 143).symm).trans (pz_u1_self (pz_u1 (pz_u1 (pz_u1 (pz_u1 (pz_u1 (pz_u1 (pz_u1 iv 2 (iv 2)) 134 (iv 134)) 138 (iv 138)) 139 (iv 139)) 140 (iv 140)) 142 (iv 142)) 143 (iv 143)) 144).symm).trans (pz_u1_self (pz_u1 (pz_u1 (pz_u1 (pz_u1 (pz_u1 (pz_u1 (pz_u1 (pz_u1 iv 2 (iv 2)) 134 (iv 134)) 138 (iv 138)) 139 (iv 139)) 140 (iv 140)) 142 (iv 142)) 143 (iv 143)) 144 (iv 144)) 145).symm).trans (pz_u1_self (pz_u1 (pz_u1 (pz_u1 (pz_u1 (pz_u1 (pz_u1 (pz_u1 (pz_u1 (pz_u1 iv 2 (iv 2)) 134 (iv 134)) 138 (iv 138)) 139 (iv 139)) 140 (iv 140)) 142 (iv 142)) 143 (iv 143)) 144 (iv 144)) 145 (iv 145)) 146).symm).trans (pz_u1_self (pz_u1 (pz_u1 (pz_u1 (pz_u1 (pz_u1 (pz_u1 (pz_u1 (pz_u1 (pz_u1 (pz_u1 iv 2 (iv 2)) 134 (iv 134)) 138 (iv 138)) 139 (iv 139)) 140 (iv 140)) 142 (iv 142)) 143 (iv 143)) 144 (iv 144)) 145 (iv 145)) 146 (iv 146)) 147).symm).trans (pz_u1_self (pz_u1 (pz_u1 (pz_u1 (pz_u1 (pz_u1 (pz_u1 (pz_u1 (pz_u1 (pz_u1 (pz_u1 (pz_u1 iv 2 (iv 2)) 134 (iv 134)) 138 (iv 138)) 139 (iv 139)) 140 (iv 140)) 142 (iv 142)) 143 (iv 143)) 144 (iv 144)) 145 (iv 145)) 146 (iv 146)) 147 (iv 147)) 148).symm).trans (pz_u1_self (pz_u1 (pz_u1 (pz_u1 (pz_u1 (pz_u1 (pz_u1 (pz_u1 (pz_u1 (pz_u1 (pz_u1 (pz_u1 (pz_u1 iv 2 (iv 2)) 134 (iv 134)) 138 (iv 138)) 139 (iv 139)) 140 (iv 140)) 142 (iv 142)) 143 (iv 143)) 144 (iv 144)) 145 (iv 145)) 146 (iv 146)) 147 (iv 147)) 148 (iv 148)) 149).symm) ?_
  show pz_G 146 0 [some (.inr (.inl 2)), none] [] (pz_Sh L, pz_u1 (pz_u1 (pz_u1 (pz_u1 (pz_u1 (pz_u1 (pz_u1 (pz_u1 (pz_u1 (pz_u1 (pz_u1 (pz_u1 (pz_u1 iv 2 (iv 2)) 134 (iv 134)) 138 (iv 138)) 139 (iv 139)) 140 (iv 140)) 142 (iv 142)) 143 (iv 143)) 144 (iv 144)) 145 (iv 145)) 146 (iv 146)) 147 (iv 147)) 148 (iv 148)) 149 (iv 149), dv, cc, ss) (pz_PE (pz_Sh L) (.inr 0) (fun iv9 => ∃ (o9 : Nat → Int) (l9 : Nat → Int) (n9 : Nat → Int) (w9 : Nat → Int) (d9 : Nat → Int) (m9 : Nat → Int) (V9 : Nat → Int) (W9 : Nat → Int) (U9 : Nat → Int) (Y9 : Nat → Int) (p9 : Nat → Int) (q9 : Nat → Int) (r9 : Nat → Int), iv9 = pz_u1 (pz_u1 (pz_u1 (pz_u1 (pz_u1 (pz_u1 (pz_u1 (pz_u1 (pz_u1 (pz_u1 (pz_u1 (pz_u1 (pz_u1 iv 2 o9) 134 l9) 138 n9) 139 w9) 140 d9) 142 m9) 143 V9) 144 W9) 145 U9) 146 Y9) 147 p9) 148 q9) 149 r9 ∧ (q_CI k o9 n9 w9 d9 m9 V9 U9 (iv 129) (iv 135)) ∧ (o9 2 = (iv 2) 2)) dv cc ss)
  refine pz_G_of pz_b146_0 ?_
  refine w_loc rfl ?_
  refine w_pure rfl ?_
  have hc1 : pz_RE (pz_Sh L) 174 [.inr (.inl 2), .inl 0] (pz_u1 (pz_u1 (pz_u1 (pz_u1 (pz_u1 (pz_u1 (pz_u1 (pz_u1 (pz_u1 (pz_u1 (pz_u1 (pz_u1 (pz_u1 iv 2 (iv 2)) 134 (iv 134)) 138 (iv 138)) 139 (iv 139)) 140 (iv 140)) 142 (iv 142)) 143 (iv 143)) 144 (iv 144)) 145 (iv 145)) 146 (iv 146)) 147 (iv 147)) 148 (iv 148)) 149 (iv 149)) (.inr 0) _ := s_X10_needPlayable_2b (L := L) (iv := pz_u1 (pz_u1 (pz_u1 (pz_u1 (pz_u1 (pz_u1 (pz_u1 (pz_u1 (pz_u1 (pz_u1 (pz_u1 (pz_u1 (pz_u1 iv 2 (iv 2)) 134 (iv 134)) 138 (iv 138)) 139 (iv 139)) 140 (iv 140)) 142 (iv 142)) 143 (iv 143)) 144 (iv 144)) 145 (iv 145)) 146 (iv 146)) 147 (iv 147)) 148 (iv 148)) 149 (iv 149)) 0 (by show q_KR k; exact hk) (by show q_cE k (iv 3); exact hE) (by show q_cB k (iv 4) (iv 5) (iv 6) (iv 7) (iv 8) (iv 9); exact hB) (by show q_cS k (iv 10) (iv 11) (iv 12) (iv 13) (iv 14); exact hS) (by show q_cC k (iv 15) (iv 16); exact hC) (by show q_cA k (iv 17) (iv 18) (iv 19) (iv 20); exact hA) (by show q_cO k (iv 22) (iv 23) (iv 24); exact hO) (by show q_cL k (iv 25); exact hL) (by show q_cP k (iv 27); exact hP) (by show q_CI k (iv 2) (iv 138) (iv 139) (iv 140) (iv 142) (iv 143) (iv 145) (iv 129) (iv 135); exact hci) (by show 0 ≤ (0 : Int) ∧ (0 : Int) ≤ q_p2 (k 2) - 1; first | assumption | omega) (by show ¬ q_exi (fun i => 1 ≤ i ∧ q_sta k i) (k 0); assumption) (by show ¬ q_sen k; assumption)
  refine w_calleE hc1 rfl (pz_cokI is_2 rfl) rfl (fun iv9 h9 => ?_)
  obtain ⟨o9_2, l9_3, n9_4, w9_5, d9_6, m9_7, V9_8, W9_9, U9_10, Y9_11, p9_12, q9_13, r9_14, h9e, hci, ho2⟩ := h9
  have h9x : iv9 = pz_u1 (pz_u1 (pz_u1 (pz_u1 (pz_u1 (pz_u1 (pz_u1 (pz_u1 (pz_u1 (pz_u1 (pz_u1 (pz_u1 (pz_u1 iv 2 o9_2) 134 l9_3) 138 n9_4) 139 w9_5) 140 d9_6) 142 m9_7) 143 V9_8) 144 W9_9) 145 U9_10) 146 Y9_11) 147 p9_12) 148 q9_13) 149 r9_14 := h9e.trans (by rw [pz_u1_in (r := 2) (q := 149) (by decide)]; rw [pz_u1_in (r := 2) (q := 148) (by decide)]; rw [pz_u1_in (r := 2) (q := 147) (by decide)]; rw [pz_u1_in (r := 2) (q := 146) (by decide)]; rw [pz_u1_in (r := 2) (q := 145) (by decide)]; rw [pz_u1_in (r := 2) (q := 144) (by decide)]; rw [pz_u1_in (r := 2) (q := 143) (by decide)]; rw [pz_u1_in (r := 2) (q := 142) (by decide)]; rw [pz_u1_in (r := 2) (q := 140) (by decide)]; rw [pz_u1_in (r := 2) (q := 139) (by decide)]; rw [pz_u1_in (r := 2) (q := 138) (by decide)]; rw [pz_u1_in (r := 2) (q := 134) (by decide)]; rw [pz_u1_top (r := 2)]; rw [pz_u1_in (r := 134) (q := 149) (by decide)]; rw [pz_u1_in (r := 134) (q := 148) (by decide)]; rw [pz_u1_in (r := 134) (q := 147) (by decide)]; rw [pz_u1_in (r := 134) (q := 146) (by decide)]; rw [pz_u1_in (r := 134) (q := 145) (by decide)]; rw [pz_u1_in (r := 134) (q := 144) (by decide)]; rw [pz_u1_in (r := 134) (q := 143) (by decide)]; rw [pz_u1_in (r := 134) (q := 142) (by decide)]; rw [pz_u1_in (r := 134) (q := 140) (by decide)]; rw [pz_u1_in (r := 134) (q := 139) (by decide)]; rw [pz_u1_in (r := 134) (q := 138) (by decide)]; rw [pz_u1_top (r := 134)]; rw [pz_u1_in (r := 138) (q := 149) (by decide)]; rw [pz_u1_in (r := 138) (q := 148) (by decide)]; rw [pz_u1_in (r := 138) (q := 147) (by decide)]; rw [pz_u1_in (r := 138) (q := 146) (by decide)]; rw [pz_u1_in (r := 138) (q := 145) (by decide)]; rw [pz_u1_in (r := 138) (q := 144) (by decide)]; rw [pz_u1_in (r := 138) (q := 143) (by decide)]; rw [pz_u1_in (r := 138) (q := 142) (by decide)]; rw [pz_u1_in (r := 138) (q := 140) (by decide)]; rw [pz_u1_in (r := 138) (q := 139) (by decide)]; rw [pz_u1_top (r := 138)]; rw [pz_u1_in (r := 139) (q := 149) (by decide)]; rw [pz_u1_in (r := 139) (q := 148) (by decide)]; rw [pz_u1_in (r := 139) (q := 147) (by decide)]; rw [pz_u1_in (r := 139) (q := 146) (by decide)]; rw [pz_u1_in (r := 139) (q := 145) (by decide)]; rw [pz_u1_in (r := 139) (q := 144) (by decide)]; rw [pz_u1_in (r := 139) (q := 143) (by decide)]; rw [pz_u1_in (r := 139) (q := 142) (by decide)]; rw [pz_u1_in (r := 139) (q := 140) (by decide)]; rw [pz_u1_top (r := 139)]; rw [pz_u1_in (r := 140) (q := 149) (by decide)]; rw [pz_u1_in (r := 140) (q := 148) (by decide)]; rw [pz_u1_in (r := 140) (q := 147) (by decide)]; rw [pz_u1_in (r := 140) (q := 146) (by decide)]; rw [pz_u1_in (r := 140) (q := 145) (by decide)]; rw [pz_u1_in (r := 140) (q := 144) (by decide)]; rw [pz_u1_in (r := 140) (q := 143) (by decide)]; rw [pz_u1_in (r := 140) (q := 142) (by decide)]; rw [pz_u1_top (r := 140)]; rw [pz_u1_in (r := 142) (q := 149) (by decide)]; rw [pz_u1_in (r := 142) (q := 148) (by decide)]; rw [pz_u1_in (r := 142) (q := 147) (by decide)]; rw [pz_u1_in (r := 142) (q := 146) (by decide)]; rw [pz_u1_in (r := 142) (q := 145) (by decide)]; rw [pz_u1_in (r := 142) (q := 144) (by decide)]; rw [pz_u1_in (r := 142) (q := 143) (by decide)]; rw [pz_u1_top (r := 142)]; rw [pz_u1_in (r := 143) (q := 149) (by decide)]; rw [pz_u1_in (r := 143) (q := 148) (by decide)]; rw [pz_u1_in (r := 143) (q := 147) (by decide)]; rw [pz_u1_in (r := 143) (q := 146) (by decide)]; rw [pz_u1_in (r := 143) (q := 145) (by decide)]; rw [pz_u1_in (r := 143) (q := 144) (by decide)]; rw [pz_u1_top (r := 143)]; rw [pz_u1_in (r := 144) (q := 149) (by decide)]; rw [pz_u1_in (r := 144) (q := 148) (by decide)]; rw [pz_u1_in (r := 144) (q := 147) (by decide)]; rw [pz_u1_in (r := 144) (q := 146) (by decide)]; rw [pz_u1_in (r := 144) (q := 145) (by decide)]; rw [pz_u1_top (r := 144)]; rw [pz_u1_in (r := 145) (q := 149) (by decide)]; rw [pz_u1_in (r := 145) (q := 148) (by decide)]; rw [pz_u1_in (r := 145) (q := 147) (by decide)]; rw [pz_u1_in (r := 145) (q := 146) (by decide)]; rw [pz_u1_top (r := 145)]; rw [pz_u1_in (r := 146) (q := 149) (by decide)]; rw [pz_u1_in (r := 146) (q := 148) (by decide)]; rw [pz_u1_in (r := 146) (q := 147) (by decide)]; rw [pz_u1_top (r := 146)]; rw [pz_u1_in (r := 147) (q := 149) (by decide)]; rw [pz_u1_in (r := 147) (q := 148) (by decide)]; rw [pz_u1_top (r := 147)]; rw [pz_u1_in (r := 148) (q := 149) (by decide)]; rw [pz_u1_top (r := 148)]; rw [pz_u1_top (r := 149)] <;> rfl)
  subst h9x
  clear h9e hc1
  replace hci : q_CI k o9_2 n9_4 w9_5 d9_6 m9_7 V9_8 U9_10 (iv 129) (iv 135) := hci
  replace ho2 : o9_2 2 = (iv 2) 2 := ho2
  first | exact ⟨pz_u1 (pz_u1 (pz_u1 (pz_u1 (pz_u1 (pz_u1 (pz_u1 (pz_u1 (pz_u1 (pz_u1 (pz_u1 (pz_u1 (pz_u1 iv 2 o9_2) 134 l9_3) 138 n9_4) 139 w9_5) 140 d9_6) 142 m9_7) 143 V9_8) 144 W9_9) 145 U9_10) 146 Y9_11) 147 p9_12) 148 q9_13) 149 r9_14, ⟨o9_2, l9_3, n9_4, w9_5, d9_6, m9_7, V9_8, W9_9, U9_10, Y9_11, p9_12, q9_13, r9_14, by rfl, by exact hci, by exact ho2⟩, lf_e (by rfl)⟩ | (exfalso; omega)

theorem s_X10_isKept_0 {L : Nat} {iv : Nat → Nat → Int} {k : Nat → Int} (hk : q_KR k) (hE : q_cE k (iv 3)) (hB : q_cB k (iv 4) (iv 5) (iv 6) (iv 7) (iv 8) (iv 9)) (hS : q_cS k (iv 10) (iv 11) (iv 12) (iv 13) (iv 14)) (hC : q_cC k (iv 15) (iv 16)) (hA : q_cA k (iv 17) (iv 18) (iv 19) (iv 20)) (hO : q_cO k (iv 22) (iv 23) (iv 24)) (hL : q_cL k (iv 25)) (hP : q_cP k (iv 27)) (hci : q_CI k (iv 2) (iv 138) (iv 139) (iv 140) (iv 142) (iv 143) (iv 145) (iv 129) (iv 135)) (hcase0 : ¬ q_exi (fun i => 1 ≤ i ∧ q_sta k i) (k 0)) (hcase1 : q_sen k) : pz_RE (pz_Sh L) 146 [.inr (.inl 2)] iv (.inl (some (.inl (pz_bi (q_all (fun p => q_flk k p = 45) (q_p2 (k 2))))))) (fun iv9 => ∃ (o9 : Nat → Int) (l9 : Nat → Int) (n9 : Nat → Int) (w9 : Nat → Int) (d9 : Nat → Int) (m9 : Nat → Int) (V9 : Nat → Int) (W9 : Nat → Int) (U9 : Nat → Int) (Y9 : Nat → Int) (p9 : Nat → Int) (q9 : Nat → Int) (r9 : Nat → Int) (x9 : Nat → Int) (y9 : Nat → Int), iv9 = pz_u1 (pz_u1 (pz_u1 (pz_u1 (pz_u1 (pz_u1 (pz_u1 (pz_u1 (pz_u1 (pz_u1 (pz_u1 (pz_u1 (pz_u1 (pz_u1 (pz_u1 iv 2 o9) 134 l9) 138 n9) 139 w9) 140 d9) 142 m9) 143 V9) 144 W9) 145 U9) 146 Y9) 147 p9) 148 q9) 149 r9) 152 x9) 153 y9 ∧ (q_CI k o9 n9 w9 d9 m9 V9 U9 (iv 129) (iv 135)) ∧ (o9 2 = (iv 2) 2)) := by
  intro dv cc ss
  have hk0 := hk.r0
  have hE0 := hE
  have hB0 := hB.1
  have hS0 := hS.1
  have hC0 := hC.1
  have hA0 := hA.1
  have hsh := q_shl_p2 (a := k 2) (by omega) (by omega)
  have hp2 := q_p2_r (a := k 2) (by omega) (by omega)
  have hp3 := q_p2_le (a := k 2) (b := 3) (by omega) (by omega)
  have hp8 : q_p2 3 = 8 := rfl
  have hsc : pz_shl 1 (iv 10 0) = q_p2 (k 2) := by
    rw [hS.1]; exact hsh
  refine pz_G_mem (iv2 := pz_u1 (pz_u1 (pz_u1 (pz_u1 (pz_u1 (pz_u1 (pz_u1 (pz_u1 (pz_u1 (pz_u1 (pz_u1 (pz_u1 (pz_u1 (pz_u1 (pz_u1 iv 2 (iv 2)) 134 (iv 134)) 138 (iv 138)) 139 (iv 139)) 140 (iv 140)) 142 (iv 142)) 143 (iv 143)) 144 (iv 144)) 145 (iv 145)) 146 (iv 146)) 147 (iv 147)) 148 (iv 148)) 149 (iv 149)) 152 (iv 152)) 153 (iv 153)) (by exact (((((((((((((((pz_u1_self iv 2).symm).trans (pz_u1_self (pz_u1 iv 2 (iv 2)) 134).symm).trans (pz_u1_self (pz_u1 (pz_u1 iv 2 (iv 2)) 134 (iv 134)) 138).symm).trans (pz_u1_self (pz_u1 (pz_u1 (pz_u1 iv 2 (iv 2)) 134 (iv 134)) 138 (iv 138)) 139).symm).trans (pz_u1_self (pz_u1 (pz_u1 (pz_u1 (pz_u1 iv 2 (iv 2)) 134 (iv 134)) 138 (iv 138)) 139 (iv 139)) 140).symm).trans (pz_u1_self (pz_u1 (pz_u1 (pz_u1 (pz_u1 (pz_u1 iv 2 (iv 2)) 134 (iv 134)) 138 (iv 138)) 139 (iv 139)) 140 (iv 140)) 142).symm).trans (pz_u1_self (pz_u1 (pz_u1 (pz_u1 (pz_u1 (pz_u1 (pz_u1 iv 2 (iv 2)) 134 (iv 134)) 138 (iv 138)) 139 (iv 139)) 140 (iv 140)) 142 (iv 142)) 143).symm).trans (pz_u1_self (pz_u1 (pz_u1 (pz_u1 (pz_u1 (pz_u1 (pz_u1 (pz_u1 iv 2 (iv 2)) 134 (iv 134)) 138 (iv 138)) 139 (iv 139)) 140 (iv 140)) 142 (iv 142)) 143 (iv 143)) 144).symm).trans (pz_u1_self (pz_u1 (pz_u1 (pz_u1 (pz_u1 (pz_u1 (pz_u1 (pz_u1 (pz_u1 iv 2 (iv 2)) 134 (iv 134)) 138 (iv 138)) 139 (iv 139)) 140 (iv 140)) 142 (iv 142)) 143 (iv 143)) 144 (iv 144)) 145).symm).trans (pz_u1_self (pz_u1 (pz_u1 (pz_u1 (pz_u1 (pz_u1 (pz_u1 (pz_u1 (pz_u1 (pz_u1 iv 2 (iv 2)) 134 (iv 134)) 138 (iv 138)) 139 (iv 139)) 140 (iv 140)) 142 (iv 142)) 143 (iv 143)) 144 (iv 144)) 145 (iv 145)) 146).symm).trans (pz_u1_self (pz_u1 (pz_u1 (pz_u1 (pz_u1 (pz_u1 (pz_u1 (pz_u1 (pz_u1 (pz_u1 (pz_u1 iv 2 (iv 2)) 134 (iv 134)) 138 (iv 138)) 139 (iv 139)) 140 (iv 140)) 142 (iv 142)) 143 (iv 143)) 144 (iv 144)) 145 (iv 145)) 146 (iv 146)) 147).symm).trans (pz_u1_self (pz_u1 (pz_u1 (pz_u1 (pz_u1 (pz_u1 (pz_u1 (pz_u1 (pz_u1 (pz_u1 (pz_u1 (pz_u1 iv 2 (iv 2)) 134 (iv 134)) 138 (iv 138)) 139 (iv 139)) 140 (iv 140)) 142 (iv 142)) 143 (iv 143)) 144 (iv 144)) 145 (iv 145)) 146 (iv 146)) 147 (iv 147)) 148).symm).trans (pz_u1_self (pz_u1 (pz_u1 (pz_u1 (pz_u1 (pz_u1 (pz_u1 (pz_u1 (pz_u1 (pz_u1 (pz_u1 (pz_u1 (pz_u1 iv 2 (iv 2)) 134 (iv 134)) 138 (iv 138)) 139 (iv 139)) 140 (iv 140)) 142 (iv 142)) 143 (iv 143)) 144 (iv 144)) 145 (iv 145)) 146 (iv 146)) 147 (iv 147)) 148 (iv 148)) 149).symm).trans (pz_u1_self (pz_u1 (pz_u1 (pz_u1 (pz_u1 (pz_u1 (pz_u1 (pz_u1 (pz_u1 (pz_u1 (pz_u1 (pz_u1 (pz_u1 (pz_u1 iv 2 (iv 2)) 134 (iv 134)) 138 (iv 138)) 139 (iv 139)) 140 (iv 140)) 142 (iv 142)) 143 (iv 143)) 144 (iv 144)) 145 (iv 145)) 146 (iv 146)) 147 (iv 147)) 148 (iv 148)) 149 (iv 149)) 152).symm).trans (pz_u1_self (pz_u1 (pz_u1 (pz_u1 (pz_u1 (pz_u1 (pz_u1 (pz_u1 (pz_u1 (pz_u1 (pz_u1 (pz_u1 (pz_u1 (pz_u1 (pz_u1 iv 2 (iv 2)) 134 (iv 134)) 138 (iv 138)) 139 (iv 139)) 140 (iv 140)) 142 (iv 142)) 143 (iv 143)) 144 (iv 144)) 145 (iv 145)) 146 (iv 146)) 147 (iv 147)) 148 (iv 148)) 149 (iv 149)) 152 (iv 152)) 153).symm) ?_
  show pz_G 146 0 [some (.inr (.inl 2)), none] [] (pz_Sh L, pz_u1 (pz_u1 (pz_u1 (pz_u1 (pz_u1 (pz_u1 (pz_u1 (pz_u1 (pz_u1 (pz_u1 (pz_u1 (pz_u1 (pz_u1 (pz_u1 (pz_u1 iv 2 (iv 2)) 134 (iv 134)) 138 (iv 138)) 139 (iv 139)) 140 (iv 140)) 142 (iv 142)) 143 (iv 143)) 144 (iv 144)) 145 (iv 145)) 146 (iv 146)) 147 (iv 147)) 148 (iv 148)) 149 (iv 149)) 152 (iv 152)) 153 (iv 153), dv, cc, ss) (pz_PE (pz_Sh L) (.inl (some (.inl (pz_bi (q_all (fun p => q_flk k p = 45) (q_p2 (k 2))))))) (fun iv9 => ∃ (o9 : Nat → Int) (l9 : Nat → Int) (n9 : Nat → Int) (w9 : Nat → Int) (d9 : Nat → Int) (m9 : Nat → Int) (V9 : Nat → Int) (W9 : Nat → Int) (U9 : Nat → Int) (Y9 : Nat → Int) (p9 : Nat → Int) (q9 : Nat → Int) (r9 : Nat → Int) (x9 : Nat → Int) (y9 : Nat → Int), iv9 = pz_u1 (pz_u1 (pz_u1 (pz_u1 (pz_u1 (pz_u1 (pz_u1 (pz_u1 (pz_u1 (pz_u1 (pz_u1 (pz_u1 (pz_u1 (pz_u1 (pz_u1 iv 2 o9) 134 l9) 138 n9) 139 w9) 140 d9) 142 m9) 143 V9) 144 W9) 145 U9) 146 Y9) 147 p9) 148 q9) 149 r9) 152 x9) 153 y9 ∧ (q_CI k o9 n9 w9 d9 m9 V9 U9 (iv 129) (iv 135)) ∧ (o9 2 = (iv 2) 2)) dv cc ss)
  refine pz_G_of pz_b146_0 ?_
  refine w_loc rfl ?_
  refine w_pure rfl ?_
  have hc1 : pz_RE (pz_Sh L) 174 [.inr (.inl 2), .inl 0] (pz_u1 (pz_u1 (pz_u1 (pz_u1 (pz_u1 (pz_u1 (pz_u1 (pz_u1 (pz_u1 (pz_u1 (pz_u1 (pz_u1 (pz_u1 (pz_u1 (pz_u1 iv 2 (iv 2)) 134 (iv 134)) 138 (iv 138)) 139 (iv 139)) 140 (iv 140)) 142 (iv 142)) 143 (iv 143)) 144 (iv 144)) 145 (iv 145)) 146 (iv 146)) 147 (iv 147)) 148 (iv 148)) 149 (iv 149)) 152 (iv 152)) 153 (iv 153)) (.inl none) _ := s_X10_needPlayable_0 (L := L) (iv := pz_u1 (pz_u1 (pz_u1 (pz_u1 (pz_u1 (pz_u1 (pz_u1 (pz_u1 (pz_u1 (pz_u1 (pz_u1 (pz_u1 (pz_u1 (pz_u1 (pz_u1 iv 2 (iv 2)) 134 (iv 134)) 138 (iv 138)) 139 (iv 139)) 140 (iv 140)) 142 (iv 142)) 143 (iv 143)) 144 (iv 144)) 145 (iv 145)) 146 (iv 146)) 147 (iv 147)) 148 (iv 148)) 149 (iv 149)) 152 (iv 152)) 153 (iv 153)) 0 (by show q_KR k; exact hk) (by show q_cE k (iv 3); exact hE) (by show q_cB k (iv 4) (iv 5) (iv 6) (iv 7) (iv 8) (iv 9); exact hB) (by show q_cS k (iv 10) (iv 11) (iv 12) (iv 13) (iv 14); exact hS) (by show q_cC k (iv 15) (iv 16); exact hC) (by show q_cA k (iv 17) (iv 18) (iv 19) (iv 20); exact hA) (by show q_cO k (iv 22) (iv 23) (iv 24); exact hO) (by show q_cL k (iv 25); exact hL) (by show q_cP k (iv 27); exact hP) (by show q_CI k (iv 2) (iv 138) (iv 139) (iv 140) (iv 142) (iv 143) (iv 145) (iv 129) (iv 135); exact hci) (by show 0 ≤ (0 : Int) ∧ (0 : Int) ≤ q_p2 (k 2) - 1; first | assumption | omega) (by show ¬ q_exi (fun i => 1 ≤ i ∧ q_sta k i) (k 0); assumption) (by show q_sen k; assumption)
  refine w_callvE hc1 rfl (pz_cokI is_2 rfl) (fun iv9 h9 => ?_)
  obtain ⟨o9_2, l9_3, n9_4, w9_5, d9_6, m9_7, V9_8, W9_9, U9_10, Y9_11, p9_12, q9_13, r9_14, h9e, hci, ho2, hRK⟩ := h9
  have h9x : iv9 = pz_u1 (pz_u1 (pz_u1 (pz_u1 (pz_u1 (pz_u1 (pz_u1 (pz_u1 (pz_u1 (pz_u1 (pz_u1 (pz_u1 (pz_u1 (pz_u1 (pz_u1 iv 2 o9_2) 134 l9_3) 138 n9_4) 139 w9_5) 140 d9_6) 142 m9_7) 143 V9_8) 144 W9_9) 145 U9_10) 146 Y9_11) 147 p9_12) 148 q9_13) 149 r9_14) 152 (iv 152)) 153 (iv 153) := h9e.trans (by rw [pz_u1_in (r := 2) (q := 153) (by decide)]; rw [pz_u1_in (r := 2) (q := 152) (by decide)]; rw [pz_u1_in (r := 2) (q := 149) (by decide)]; rw [pz_u1_in (r := 2) (q := 148) (by decide)]; rw [pz_u1_in (r := 2) (q := 147) (by decide)]; rw [pz_u1_in (r := 2) (q := 146) (by decide)]; rw [pz_u1_in (r := 2) (q := 145) (by decide)]; rw [pz_u1_in (r := 2) (q := 144) (by decide)]; rw [pz_u1_in (r := 2) (q := 143) (by decide)]; rw [pz_u1_in (r := 2) (q := 142) (by decide)]; rw [pz_u1_in (r := 2) (q := 140) (by decide)]; rw [pz_u1_in (r := 2) (q := 139) (by decide)]; rw [pz_u1_in (r := 2) (q := 138) (by decide)]; rw [pz_u1_in (r := 2) (q := 134) (by decide)]; rw [pz_u1_top (r := 2)]; rw [pz_u1_in (r := 134) (q := 153) (by decide)]; rw [pz_u1_in (r := 134) (q := 152) (by decide)]; rw [pz_u1_in (r := 134) (q := 149) (by decide)]; rw [pz_u1_in (r := 134) (q := 148) (by decide)]; rw [pz_u1_in (r := 134) (q := 147) (by decide)]; rw [pz_u1_in (r := 134) (q := 146) (by decide)]; rw [pz_u1_in (r := 134) (q := 145) (by decide)]; rw [pz_u1_in (r := 134) (q := 144) (by decide)]; rw [pz_u1_in (r := 134) (q := 143) (by decide)]; rw [pz_u1_in (r := 134) (q := 142) (by decide)]; rw [pz_u1_in (r := 134) (q := 140) (by decide)]; rw [pz_u1_in (r := 134) (q := 139) (by decide)]; rw [pz_u1_in (r := 134) (q := 138) (by decide)]; rw [pz_u1_top (r := 134)]; rw [pz_u1_in (r := 138) (q := 153) (by decide)]; rw [pz_u1_in (r := 138) (q := 152) (by decide)]; rw [pz_u1_in (r := 138) (q := 149) (by decide)]; rw [pz_u1_in (r := 138) (q := 148) (by decide)]; rw [pz_u1_in (r := 138) (q := 147) (by decide)]; rw [pz_u1_in (r := 138) (q := 146) (by decide)]; rw [pz_u1_in (r := 138) (q := 145) (by decide)]; rw [pz_u1_in (r := 138) (q := 144) (by decide)]; rw [pz_u1_in (r := 138) (q := 143) (by decide)]; rw [pz_u1_in (r := 138) (q := 142) (by decide)]; rw [pz_u1_in (r := 138) (q := 140) (by decide)]; rw [pz_u1_in (r := 138) (q := 139) (by decide)]; rw [pz_u1_top (r := 138)]; rw [pz_u1_in (r := 139) (q := 153) (by decide)]; rw [pz_u1_in (r := 139) (q := 152) (by decide)]; rw [pz_u1_in (r := 139) (q := 149) (by decide)]; rw [pz_u1_in (r := 139) (q := 148) (by decide)]; rw [pz_u1_in (r := 139) (q := 147) (by decide)]; rw [pz_u1_in (r := 139) (q := 146) (by decide)]; rw [pz_u1_in (r := 139) (q := 145) (by decide)]; rw [pz_u1_in (r := 139) (q := 144) (by decide)]; rw [pz_u1_in (r := 139) (q := 143) (by decide)]; rw [pz_u1_in (r := 139) (q := 142) (by decide)]; rw [pz_u1_in (r := 139) (q := 140) (by decide)]; rw [pz_u1_top (r := 139)]; rw [pz_u1_in (r := 140) (q := 153) (by decide)]; rw [pz_u1_in (r := 140) (q := 152) (by decide)]; rw [pz_u1_in (r := 140) (q := 149) (by decide)]; rw [pz_u1_in (r := 140) (q := 148) (by decide)]; rw [pz_u1_in (r := 140) (q := 147) (by decide)]; rw [pz_u1_in (r := 140) (q := 146) (by decide)]; rw [pz_u1_in (r := 140) (q := 145) (by decide)]; rw [pz_u1_in (r := 140) (q := 144) (by decide)]; rw [pz_u1_in (r := 140) (q := 143) (by decide)]; rw [pz_u1_in (r := 140) (q := 142) (by decide)]; rw [pz_u1_top (r := 140)]; rw [pz_u1_in (r := 142) (q := 153) (by decide)]; rw [pz_u1_in (r := 142) (q := 152) (by decide)]; rw [pz_u1_in (r := 142) (q := 149) (by decide)]; rw [pz_u1_in (r := 142) (q := 148) (by decide)]; rw [pz_u1_in (r := 142) (q := 147) (by decide)]; rw [pz_u1_in (r := 142) (q := 146) (by decide)]; rw [pz_u1_in (r := 142) (q := 145) (by decide)]; rw [pz_u1_in (r := 142) (q := 144) (by decide)]; rw [pz_u1_in (r := 142) (q := 143) (by decide)]; rw [pz_u1_top (r := 142)]; rw [pz_u1_in (r := 143) (q := 153) (by decide)]; rw [pz_u1_in (r := 143) (q := 152) (by decide)]; rw [pz_u1_in (r := 143) (q := 149) (by decide)]; rw [pz_u1_in (r := 143) (q := 148) (by decide)]; rw [pz_u1_in (r := 143) (q := 147) (by decide)]; rw [pz_u1_in (r := 143) (q := 146) (by decide)]; rw [pz_u1_in (r := 143) (q := 145) (by decide)]; rw [pz_u1_in (r := 143) (q := 144) (by decide)]; rw [pz_u1_top (r := 143)]; rw [pz_u1_in (r := 144) (q := 153) (by decide)]; rw [pz_u1_in (r := 144) (q := 152) (by decide)]; rw [pz_u1_in (r := 144) (q := 149) (by decide)]; rw [pz_u1_in (r := 144) (q := 148) (by decide)]; rw [pz_u1_in (r := 144) (q := 147) (by decide)]; rw [pz_u1_in (r := 144) (q := 146) (by decide)]; rw [pz_u1_in (r := 144) (q := 145) (by decide)]; rw [pz_u1_top (r := 144)]; rw [pz_u1_in (r := 145) (q := 153) (by decide)]; rw [pz_u1_in (r := 145) (q := 152) (by decide)]; rw [pz_u1_in (r := 145) (q := 149) (by decide)]; rw [pz_u1_in (r := 145) (q := 148) (by decide)]; rw [pz_u1_in (r := 145) (q := 147) (by decide)]; rw [pz_u1_in (r := 145) (q := 146) (by decide)]; rw [pz_u1_top (r := 145)]; rw [pz_u1_in (r := 146) (q := 153) (by decide)]; rw [pz_u1_in (r := 146) (q := 152) (by decide)]; rw [pz_u1_in (r := 146) (q := 149) (by decide)]; rw [pz_u1_in (r := 146) (q := 148) (by decide)]; rw [pz_u1_in (r := 146) (q := 147) (by decide)]; rw [pz_u1_top (r := 146)]; rw [pz_u1_in (r := 147) (q := 153) (by decide)]; rw [pz_u1_in (r := 147) (q := 152) (by decide)]; rw [pz_u1_in (r := 147) (q := 149) (by decide)]; rw [pz_u1_in (r := 147) (q := 148) (by decide)]; rw [pz_u1_top (r := 147)]; rw [pz_u1_in (r := 148) (q := 153) (by decide)]; rw [pz_u1_in (r := 148) (q := 152) (by decide)]; rw [pz_u1_in (r := 148) (q := 149) (by decide)]; rw [pz_u1_top (r := 148)]; rw [pz_u1_in (r := 149) (q := 153) (by decide)]; rw [pz_u1_in (r := 149) (q := 152) (by decide)]; rw [pz_u1_top (r := 149)] <;> rfl)
  subst h9x
  clear h9e hc1
  replace hci : q_CI k o9_2 n9_4 w9_5 d9_6 m9_7 V9_8 U9_10 (iv 129) (iv 135) := hci
  replace ho2 : o9_2 2 = (iv 2) 2 := ho2
  replace hRK : q_RK k m9_7 V9_8 U9_10 := hRK
  refine w_pure rfl ?_
  refine w_loc (ls' := [some (.inr (.inl 2)), some (.inl 0)]) (st' := []) rfl ?_
  refine w_nil ?_
  have lp7 : ∀ (dd : Nat) (p : Int) (x : Nat → Int) (y : Nat → Int) , (q_p2 (k 2) - p).toNat = dd → ∀ (hp : 0 ≤ p ∧ p ≤ q_p2 (k 2)), ∀ (hno : ∀ i : Int, 0 ≤ i → i < p → q_flk k i = 45),  pz_G 146 7 [some (.inr (.inl 2)), some (.inl p)] [] (pz_Sh L, pz_u1 (pz_u1 (pz_u1 (pz_u1 (pz_u1 (pz_u1 (pz_u1 (pz_u1 (pz_u1 (pz_u1 (pz_u1 (pz_u1 (pz_u1 (pz_u1 (pz_u1 iv 2 o9_2) 134 l9_3) 138 n9_4) 139 w9_5) 140 d9_6) 142 m9_7) 143 V9_8) 144 W9_9) 145 U9_10) 146 Y9_11) 147 p9_12) 148 q9_13) 149 r9_14) 152 x) 153 y, dv, cc, ss) (pz_PE (pz_Sh L) (.inl (some (.inl (pz_bi (q_all (fun p => q_flk k p = 45) (q_p2 (k 2))))))) (fun iv9 => ∃ (o9 : Nat → Int) (l9 : Nat → Int) (n9 : Nat → Int) (w9 : Nat → Int) (d9 : Nat → Int) (m9 : Nat → Int) (V9 : Nat → Int) (W9 : Nat → Int) (U9 : Nat → Int) (Y9 : Nat → Int) (p9 : Nat → Int) (q9 : Nat → Int) (r9 : Nat → Int) (x9 : Nat → Int) (y9 : Nat → Int), iv9 = pz_u1 (pz_u1 (pz_u1 (pz_u1 (pz_u1 (pz_u1 (pz_u1 (pz_u1 (pz_u1 (pz_u1 (pz_u1 (pz_u1 (pz_u1 (pz_u1 (pz_u1 iv 2 o9) 134 l9) 138 n9) 139 w9) 140 d9) 142 m9) 143 V9) 144 W9) 145 U9) 146 Y9) 147 p9) 148 q9) 149 r9) 152 x9) 153 y9 ∧ (q_CI k o9 n9 w9 d9 m9 V9 U9 (iv 129) (iv 135)) ∧ (o9 2 = (iv 2) 2)) dv cc ss) := by
    intro dd7
    induction dd7 using Nat.strongRecOn with
    | _ dd7 ih7 =>
    intro p x y  hd7 hp hno
    have hfk := q_fl_k (a := y) (p := p) hk
    refine pz_G_of pz_b146_7 ?_
    refine w_loc rfl ?_
    refine w_loc rfl ?_
    refine w_getR (q := 3) is_2 rf_2_0 ?_
    refine w_getR (q := 10) is_3 rf_3_2 ?_
    refine w_getI (v := (iv 10) 0) is_10 (by decide) rfl ?_
    have hc15 : pz_R (pz_Sh L) 186 [.inl ((iv 10) 0)] (pz_u1 (pz_u1 (pz_u1 (pz_u1 (pz_u1 (pz_u1 (pz_u1 (pz_u1 (pz_u1 (pz_u1 (pz_u1 (pz_u1 (pz_u1 (pz_u1 (pz_u1 iv 2 o9_2) 134 l9_3) 138 n9_4) 139 w9_5) 140 d9_6) 142 m9_7) 143 V9_8) 144 W9_9) 145 U9_10) 146 Y9_11) 147 p9_12) 148 q9_13) 149 r9_14) 152 x) 153 y) (.inl (some (.inl (pz_shl 1 ((iv 10) 0))))) (pz_u1 (pz_u1 (pz_u1 (pz_u1 (pz_u1 (pz_u1 (pz_u1 (pz_u1 (pz_u1 (pz_u1 (pz_u1 (pz_u1 (pz_u1 (pz_u1 (pz_u1 iv 2 o9_2) 134 l9_3) 138 n9_4) 139 w9_5) 140 d9_6) 142 m9_7) 143 V9_8) 144 W9_9) 145 U9_10) 146 Y9_11) 147 p9_12) 148 q9_13) 149 r9_14) 152 x) 153 y) := s_X10_bit ((iv 10) 0)
    refine w_call hc15 rfl rfl ?_
    refine w_ige (fun h16 => ?_) (fun h16 => ?_)
    · first
      | (exfalso; first | omega | contradiction)
      | (refine pz_G_of pz_b146_45 ?_
         refine w_pure rfl ?_
         refine w_ret (pz_rok1 (Or.inr rfl)) ?_
         first | exact ⟨pz_u1 (pz_u1 (pz_u1 (pz_u1 (pz_u1 (pz_u1 (pz_u1 (pz_u1 (pz_u1 (pz_u1 (pz_u1 (pz_u1 (pz_u1 (pz_u1 (pz_u1 iv 2 o9_2) 134 l9_3) 138 n9_4) 139 w9_5) 140 d9_6) 142 m9_7) 143 V9_8) 144 W9_9) 145 U9_10) 146 Y9_11) 147 p9_12) 148 q9_13) 149 r9_14) 152 x) 153 y, ⟨o9_2, l9_3, n9_4, w9_5, d9_6, m9_7, V9_8, W9_9, U9_10, Y9_11, p9_12, q9_13, r9_14, x, y, by rfl, by exact hci, by exact ho2⟩, (by first | exact lf_i (pz_bi_t (fun i g1 g2 => hno i g1 (by omega))) rfl | exact lf_i (pz_bi_f (fun q => absurd (q p hp.1 (by omega)) (by omega))) rfl)⟩ | (exfalso; omega))
    · first
      | (exfalso; first | omega | contradiction)
      | (refine w_loc rfl ?_
         refine w_getR (q := 151) is_2 rf_2_6 ?_
         refine w_loc rfl ?_
         have hc17 : pz_RE (pz_Sh L) 76 [.inr (.inl 151), .inl p] (pz_u1 (pz_u1 (pz_u1 (pz_u1 (pz_u1 (pz_u1 (pz_u1 (pz_u1 (pz_u1 (pz_u1 (pz_u1 (pz_u1 (pz_u1 (pz_u1 (pz_u1 iv 2 o9_2) 134 l9_3) 138 n9_4) 139 w9_5) 140 d9_6) 142 m9_7) 143 V9_8) 144 W9_9) 145 U9_10) 146 Y9_11) 147 p9_12) 148 q9_13) 149 r9_14) 152 x) 153 y) (.inl (some (.inl (q_fl (q_val k) k p y)))) _ := s_X7_failureOf (L := L) (iv := pz_u1 (pz_u1 (pz_u1 (pz_u1 (pz_u1 (pz_u1 (pz_u1 (pz_u1 (pz_u1 (pz_u1 (pz_u1 (pz_u1 (pz_u1 (pz_u1 (pz_u1 iv 2 o9_2) 134 l9_3) 138 n9_4) 139 w9_5) 140 d9_6) 142 m9_7) 143 V9_8) 144 W9_9) 145 U9_10) 146 Y9_11) 147 p9_12) 148 q9_13) 149 r9_14) 152 x) 153 y) p (by show q_KR k; exact hk) (by show q_cE k (iv 3); exact hE) (by show q_cB k (iv 4) (iv 5) (iv 6) (iv 7) (iv 8) (iv 9); exact hB) (by show q_cS k (iv 10) (iv 11) (iv 12) (iv 13) (iv 14); exact hS) (by show q_cL k (iv 25); exact hL) (by show 0 ≤ p ∧ p ≤ 15; omega) (by show q_VU k (q_val k) V9_8 U9_10; exact hRK.2.2 (by assumption)) (by show q_vb (q_val k); exact q_vb_val hk (by assumption))
         refine w_callE hc17 rfl (pz_cokI is_151 rfl) (fun iv9 h9 => ?_)
         obtain ⟨x9_18, h9e, hx9⟩ := h9
         have h9x : iv9 = pz_u1 (pz_u1 (pz_u1 (pz_u1 (pz_u1 (pz_u1 (pz_u1 (pz_u1 (pz_u1 (pz_u1 (pz_u1 (pz_u1 (pz_u1 (pz_u1 (pz_u1 iv 2 o9_2) 134 l9_3) 138 n9_4) 139 w9_5) 140 d9_6) 142 m9_7) 143 V9_8) 144 W9_9) 145 U9_10) 146 Y9_11) 147 p9_12) 148 q9_13) 149 r9_14) 152 x9_18) 153 (q_pl (q_val k) k p y) := h9e.trans (by rw [pz_u1_in (r := 152) (q := 153) (by decide)]; rw [pz_u1_top (r := 152)]; rw [pz_u1_top (r := 153)] <;> rfl)
         subst h9x
         clear h9e hc17
         replace hx9 : 0 ≤ x9_18 0 ∧ x9_18 0 ≤ 601 := hx9
         refine w_pure rfl ?_
         refine w_ieq (fun h19 => ?_) (fun h19 => ?_)
         · first
           | (exfalso; first | omega | contradiction)
           | (refine pz_G_of pz_b146_39 ?_
              refine w_iinc (ls' := [some (.inr (.inl 2)), some (.inl (p + 1))]) rfl rfl rfl (by omega) ?_
              refine w_goto ?_
              exact ih7 _ (by omega) (p + 1) x9_18 (q_pl (q_val k) k p y)  rfl (by omega) (by intro i g1 g2; by_cases g3 : i = p; (rw [g3]; omega); exact hno i g1 (by omega)))
         · first
           | (exfalso; first | omega | contradiction)
           | (refine w_pure rfl ?_
              refine w_ret (pz_rok1 (Or.inl rfl)) ?_
              first | exact ⟨pz_u1 (pz_u1 (pz_u1 (pz_u1 (pz_u1 (pz_u1 (pz_u1 (pz_u1 (pz_u1 (pz_u1 (pz_u1 (pz_u1 (pz_u1 (pz_u1 (pz_u1 iv 2 o9_2) 134 l9_3) 138 n9_4) 139 w9_5) 140 d9_6) 142 m9_7) 143 V9_8) 144 W9_9) 145 U9_10) 146 Y9_11) 147 p9_12) 148 q9_13) 149 r9_14) 152 x9_18) 153 (q_pl (q_val k) k p y), ⟨o9_2, l9_3, n9_4, w9_5, d9_6, m9_7, V9_8, W9_9, U9_10, Y9_11, p9_12, q9_13, r9_14, x9_18, (q_pl (q_val k) k p y), by rfl, by exact hci, by exact ho2⟩, (by first | exact lf_i (pz_bi_t (fun i g1 g2 => hno i g1 (by omega))) rfl | exact lf_i (pz_bi_f (fun q => absurd (q p hp.1 (by omega)) (by omega))) rfl)⟩ | (exfalso; omega)))
  exact lp7 _ 0 (iv 152) (iv 153)  rfl (by omega) (by intro i g1 g2; omega)

theorem s_J_bitCount {L : Nat} {iv : Nat → Nat → Int} (x : Int) (hx : 0 ≤ x ∧ x ≤ 15) : pz_R (pz_Sh L) 0 [.inl x] iv (.inl (some (.inl (q_bc x)))) iv := by
  have h : x = 0 ∨ x = 1 ∨ x = 2 ∨ x = 3 ∨ x = 4 ∨ x = 5 ∨ x = 6 ∨ x = 7 ∨ x = 8 ∨ x = 9 ∨ x = 10 ∨ x = 11 ∨ x = 12 ∨ x = 13 ∨ x = 14 ∨ x = 15 := by omega
  intro dv cc ss
  rcases h with rfl | rfl | rfl | rfl | rfl | rfl | rfl | rfl | rfl | rfl | rfl | rfl | rfl | rfl | rfl | rfl <;> exact ⟨1, _, _, rfl, rfl, rfl⟩

theorem s_X6_letterOf_w {L : Nat} {iv : Nat → Nat → Int} (l : Int) (hl : 1 ≤ l ∧ l ≤ 4) (hcr : 0 ≤ (iv 25) l.toNat ∧ (iv 25) l.toNat ≤ 65535) : pz_R (pz_Sh L) 66 [.inr (.inl 3), .inl l] iv (.inl (some (.inl ((iv 25) l.toNat)))) iv := by
  intro dv cc ss
  show pz_G 66 0 [some (.inr (.inl 3)), some (.inl l)] [] (pz_Sh L, iv, dv, cc, ss) (pz_P (pz_Sh L) (.inl (some (.inl ((iv 25) l.toNat)))) iv dv cc ss)
  refine pz_G_of pz_b66_0 ?_
  refine w_loc rfl ?_
  refine w_pure rfl ?_
  refine w_pure rfl ?_
  have hc1 : pz_R (pz_Sh L) 185 [.inl l, .inl 1, .inl 4] (iv) (.inl (some (.inl (pz_bi (1 ≤ l ∧ l ≤ 4))))) (iv) := s_X10_isWithin l 1 4
  refine w_call hc1 rfl rfl ?_
  refine w_beq (fun h2 => ?_) (fun h2 => ?_)
  · refine pz_G_of pz_b66_18 ?_
    refine w_pure rfl ?_
    refine w_nil ?_
    refine pz_G_of pz_b66_20 ?_
    refine w_ret (pz_rok2 (by omega)) ?_
    first | exact lf_i (by first | rfl | omega) (by rfl) | (exfalso; omega)
  · refine w_loc rfl ?_
    refine w_getR (q := 25) is_3 rf_3_6 ?_
    refine w_loc rfl ?_
    refine w_cald (v := (iv 25) l.toNat) is_25 ln_25 ⟨by omega, by omega⟩ rfl ?_
    refine w_goto ?_
    refine pz_G_of pz_b66_20 ?_
    refine w_ret (pz_rok2 (by omega)) ?_
    first | exact lf_i (by first | rfl | omega) (by rfl) | (exfalso; omega)

theorem s_X6_isObserved_w {L : Nat} {iv : Nat → Nat → Int} (l : Int) (hl : 1 ≤ l ∧ l ≤ 4) (hcr : 0 ≤ (iv 25) l.toNat ∧ (iv 25) l.toNat ≤ 65535) : pz_R (pz_Sh L) 68 [.inr (.inl 3), .inl l] iv (.inl (some (.inl (pz_bi ((iv 25) l.toNat = 116 ∨ (iv 25) l.toNat = 102))))) iv := by
  intro dv cc ss
  show pz_G 68 0 [some (.inr (.inl 3)), some (.inl l), none] [] (pz_Sh L, iv, dv, cc, ss) (pz_P (pz_Sh L) (.inl (some (.inl (pz_bi ((iv 25) l.toNat = 116 ∨ (iv 25) l.toNat = 102))))) iv dv cc ss)
  refine pz_G_of pz_b68_0 ?_
  refine w_loc rfl ?_
  refine w_loc rfl ?_
  have hc1 : pz_R (pz_Sh L) 66 [.inr (.inl 3), .inl l] (iv) (.inl (some (.inl ((iv 25) l.toNat)))) (iv) := s_X6_letterOf_w l (by omega) (by omega)
  refine w_call hc1 rfl (pz_cokI is_3 rfl) ?_
  refine w_loc (ls' := [some (.inr (.inl 3)), some (.inl l), some (.inl ((iv 25) l.toNat))]) (st' := []) rfl ?_
  refine w_loc rfl ?_
  refine w_pure rfl ?_
  refine w_ieq (fun h2 => ?_) (fun h2 => ?_)
  · refine pz_G_of pz_b68_18 ?_
    refine w_pure rfl ?_
    refine w_goto ?_
    refine pz_G_of pz_b68_23 ?_
    refine w_ret (pz_rok1 (Or.inr rfl)) ?_
    first | exact lf_i (pz_bi_t (by omega)) (by rfl) | (exfalso; omega)
  · refine w_loc rfl ?_
    refine w_pure rfl ?_
    refine w_ine (fun h3 => ?_) (fun h3 => ?_)
    · refine pz_G_of pz_b68_22 ?_
      refine w_pure rfl ?_
      refine w_nil ?_
      refine pz_G_of pz_b68_23 ?_
      refine w_ret (pz_rok1 (Or.inl rfl)) ?_
      first | exact lf_i (pz_bi_f (by omega)) (by rfl) | (exfalso; omega)
    · refine w_nil ?_
      refine pz_G_of pz_b68_18 ?_
      refine w_pure rfl ?_
      refine w_goto ?_
      refine pz_G_of pz_b68_23 ?_
      refine w_ret (pz_rok1 (Or.inr rfl)) ?_
      first | exact lf_i (pz_bi_t (by omega)) (by rfl) | (exfalso; omega)

theorem s_X10_choose_1 {L : Nat} {iv : Nat → Nat → Int} {k : Nat → Int} (hk : q_KR k) (hE : q_cE k (iv 3)) (hB : q_cB k (iv 4) (iv 5) (iv 6) (iv 7) (iv 8) (iv 9)) (hS : q_cS k (iv 10) (iv 11) (iv 12) (iv 13) (iv 14)) (hC : q_cC k (iv 15) (iv 16)) (hA : q_cA k (iv 17) (iv 18) (iv 19) (iv 20)) (hO : q_cO k (iv 22) (iv 23) (iv 24)) (hL : q_cL k (iv 25)) (hP : q_cP k (iv 27)) (hci : q_CI k (iv 2) (iv 138) (iv 139) (iv 140) (iv 142) (iv 143) (iv 145) (iv 129) (iv 135)) (hcase0 : q_fsw k = -1) : pz_RE (pz_Sh L) 128 [.inr (.inl 2)] iv (.inr 3) (fun iv9 => ∃ (n9 : Nat → Int) (w9 : Nat → Int) (d9 : Nat → Int) (l9 : Nat → Int), iv9 = pz_u1 (pz_u1 (pz_u1 (pz_u1 iv 130 n9) 131 w9) 132 d9) 134 l9) := by
  intro dv cc ss
  have hk0 := hk.r0
  have hE0 := hE
  have hB0 := hB.1
  have hS0 := hS.1
  have hC0 := hC.1
  have hA0 := hA.1
  have hfr := fun h => q_fsw_r (k := k) h
  refine pz_G_mem (iv2 := pz_u1 (pz_u1 (pz_u1 (pz_u1 iv 130 (iv 130)) 131 (iv 131)) 132 (iv 132)) 134 (iv 134)) (by exact ((((pz_u1_self iv 130).symm).trans (pz_u1_self (pz_u1 iv 130 (iv 130)) 131).symm).trans (pz_u1_self (pz_u1 (pz_u1 iv 130 (iv 130)) 131 (iv 131)) 132).symm).trans (pz_u1_self (pz_u1 (pz_u1 (pz_u1 iv 130 (iv 130)) 131 (iv 131)) 132 (iv 132)) 134).symm) ?_
  show pz_G 128 0 [some (.inr (.inl 2)), none, none] [] (pz_Sh L, pz_u1 (pz_u1 (pz_u1 (pz_u1 iv 130 (iv 130)) 131 (iv 131)) 132 (iv 132)) 134 (iv 134), dv, cc, ss) (pz_PE (pz_Sh L) (.inr 3) (fun iv9 => ∃ (n9 : Nat → Int) (w9 : Nat → Int) (d9 : Nat → Int) (l9 : Nat → Int), iv9 = pz_u1 (pz_u1 (pz_u1 (pz_u1 iv 130 n9) 131 w9) 132 d9) 134 l9) dv cc ss)
  refine pz_G_of pz_b128_0 ?_
  refine w_loc rfl ?_
  refine w_getR (q := 129) is_2 rf_2_3 ?_
  have hc1 : pz_RE (pz_Sh L) 42 [.inr (.inl 129)] (pz_u1 (pz_u1 (pz_u1 (pz_u1 iv 130 (iv 130)) 131 (iv 131)) 132 (iv 132)) 134 (iv 134)) (.inl (some (.inl (q_fsw k)))) _ := s_X4_firstSoundWay (L := L) (iv := pz_u1 (pz_u1 (pz_u1 (pz_u1 iv 130 (iv 130)) 131 (iv 131)) 132 (iv 132)) 134 (iv 134)) (by show q_KR k; exact hk) (by show q_cE k (iv 3); exact hE) (by show q_cB k (iv 4) (iv 5) (iv 6) (iv 7) (iv 8) (iv 9); exact hB) (by show q_cS k (iv 10) (iv 11) (iv 12) (iv 13) (iv 14); exact hS) (by show q_cC k (iv 15) (iv 16); exact hC) (by show q_cL k (iv 25); exact hL)
  refine w_callE hc1 rfl (pz_cokI is_129 rfl) (fun iv9 h9 => ?_)
  obtain ⟨n9_2, w9_3, d9_4, l9_5, h9e⟩ := h9
  have h9x : iv9 = pz_u1 (pz_u1 (pz_u1 (pz_u1 iv 130 n9_2) 131 w9_3) 132 d9_4) 134 l9_5 := h9e.trans (by rw [pz_u1_in (r := 130) (q := 134) (by decide)]; rw [pz_u1_in (r := 130) (q := 132) (by decide)]; rw [pz_u1_in (r := 130) (q := 131) (by decide)]; rw [pz_u1_top (r := 130)]; rw [pz_u1_in (r := 131) (q := 134) (by decide)]; rw [pz_u1_in (r := 131) (q := 132) (by decide)]; rw [pz_u1_top (r := 131)]; rw [pz_u1_in (r := 132) (q := 134) (by decide)]; rw [pz_u1_top (r := 132)]; rw [pz_u1_top (r := 134)] <;> rfl)
  subst h9x
  clear h9e hc1
  refine w_loc (ls' := [some (.inr (.inl 2)), some (.inl (q_fsw k)), none]) (st' := []) rfl ?_
  refine w_loc rfl ?_
  refine w_pure rfl ?_
  refine w_ine (fun h6 => ?_) (fun h6 => ?_)
  · first
    | (exfalso; first | omega | contradiction)
    | (refine pz_G_of pz_b128_23 ?_
       refine w_pure rfl ?_
       refine w_loc (ls' := [some (.inr (.inl 2)), some (.inl (q_fsw k)), some (.inl 1)]) (st' := []) rfl ?_
       refine w_nil ?_
       exfalso; first | omega | contradiction)
  · first
    | (exfalso; first | omega | contradiction)
    | (refine w_thr (by decide) ?_
       first | exact ⟨pz_u1 (pz_u1 (pz_u1 (pz_u1 iv 130 n9_2) 131 w9_3) 132 d9_4) 134 l9_5, ⟨n9_2, w9_3, d9_4, l9_5, by rfl⟩, lf_e (by rfl)⟩ | (exfalso; omega))

theorem s_X10_choose_0 {L : Nat} {iv : Nat → Nat → Int} {k : Nat → Int} (hk : q_KR k) (hE : q_cE k (iv 3)) (hB : q_cB k (iv 4) (iv 5) (iv 6) (iv 7) (iv 8) (iv 9)) (hS : q_cS k (iv 10) (iv 11) (iv 12) (iv 13) (iv 14)) (hC : q_cC k (iv 15) (iv 16)) (hA : q_cA k (iv 17) (iv 18) (iv 19) (iv 20)) (hO : q_cO k (iv 22) (iv 23) (iv 24)) (hL : q_cL k (iv 25)) (hP : q_cP k (iv 27)) (hci : q_CI k (iv 2) (iv 138) (iv 139) (iv 140) (iv 142) (iv 143) (iv 145) (iv 129) (iv 135)) (hcase0 : q_fsw k ≠ -1) : pz_RE (pz_Sh L) 128 [.inr (.inl 2)] iv (.inl (some (.inl (q_bc (q_fsw k))))) (fun iv9 => ∃ (y9 : Nat → Int) (n9 : Nat → Int) (w9 : Nat → Int) (d9 : Nat → Int) (l9 : Nat → Int), iv9 = pz_u1 (pz_u1 (pz_u1 (pz_u1 (pz_u1 (pz_u1 iv 2 (pz_up (pz_up (pz_up (iv 2) 7 0) 8 0) 9 0)) 25 y9) 130 n9) 131 w9) 132 d9) 134 l9 ∧ (q_cL (q_kw k (q_fsw k)) y9)) := by
  intro dv cc ss
  have hk0 := hk.r0
  have hE0 := hE
  have hB0 := hB.1
  have hS0 := hS.1
  have hC0 := hC.1
  have hA0 := hA.1
  have hfr := fun h => q_fsw_r (k := k) h
  refine pz_G_mem (iv2 := pz_u1 (pz_u1 (pz_u1 (pz_u1 (pz_u1 (pz_u1 iv 2 (iv 2)) 25 (iv 25)) 130 (iv 130)) 131 (iv 131)) 132 (iv 132)) 134 (iv 134)) (by exact ((((((pz_u1_self iv 2).symm).trans (pz_u1_self (pz_u1 iv 2 (iv 2)) 25).symm).trans (pz_u1_self (pz_u1 (pz_u1 iv 2 (iv 2)) 25 (iv 25)) 130).symm).trans (pz_u1_self (pz_u1 (pz_u1 (pz_u1 iv 2 (iv 2)) 25 (iv 25)) 130 (iv 130)) 131).symm).trans (pz_u1_self (pz_u1 (pz_u1 (pz_u1 (pz_u1 iv 2 (iv 2)) 25 (iv 25)) 130 (iv 130)) 131 (iv 131)) 132).symm).trans (pz_u1_self (pz_u1 (pz_u1 (pz_u1 (pz_u1 (pz_u1 iv 2 (iv 2)) 25 (iv 25)) 130 (iv 130)) 131 (iv 131)) 132 (iv 132)) 134).symm) ?_
  show pz_G 128 0 [some (.inr (.inl 2)), none, none] [] (pz_Sh L, pz_u1 (pz_u1 (pz_u1 (pz_u1 (pz_u1 (pz_u1 iv 2 (iv 2)) 25 (iv 25)) 130 (iv 130)) 131 (iv 131)) 132 (iv 132)) 134 (iv 134), dv, cc, ss) (pz_PE (pz_Sh L) (.inl (some (.inl (q_bc (q_fsw k))))) (fun iv9 => ∃ (y9 : Nat → Int) (n9 : Nat → Int) (w9 : Nat → Int) (d9 : Nat → Int) (l9 : Nat → Int), iv9 = pz_u1 (pz_u1 (pz_u1 (pz_u1 (pz_u1 (pz_u1 iv 2 (pz_up (pz_up (pz_up (iv 2) 7 0) 8 0) 9 0)) 25 y9) 130 n9) 131 w9) 132 d9) 134 l9 ∧ (q_cL (q_kw k (q_fsw k)) y9)) dv cc ss)
  refine pz_G_of pz_b128_0 ?_
  refine w_loc rfl ?_
  refine w_getR (q := 129) is_2 rf_2_3 ?_
  have hc1 : pz_RE (pz_Sh L) 42 [.inr (.inl 129)] (pz_u1 (pz_u1 (pz_u1 (pz_u1 (pz_u1 (pz_u1 iv 2 (iv 2)) 25 (iv 25)) 130 (iv 130)) 131 (iv 131)) 132 (iv 132)) 134 (iv 134)) (.inl (some (.inl (q_fsw k)))) _ := s_X4_firstSoundWay (L := L) (iv := pz_u1 (pz_u1 (pz_u1 (pz_u1 (pz_u1 (pz_u1 iv 2 (iv 2)) 25 (iv 25)) 130 (iv 130)) 131 (iv 131)) 132 (iv 132)) 134 (iv 134)) (by show q_KR k; exact hk) (by show q_cE k (iv 3); exact hE) (by show q_cB k (iv 4) (iv 5) (iv 6) (iv 7) (iv 8) (iv 9); exact hB) (by show q_cS k (iv 10) (iv 11) (iv 12) (iv 13) (iv 14); exact hS) (by show q_cC k (iv 15) (iv 16); exact hC) (by show q_cL k (iv 25); exact hL)
  refine w_callE hc1 rfl (pz_cokI is_129 rfl) (fun iv9 h9 => ?_)
  obtain ⟨n9_2, w9_3, d9_4, l9_5, h9e⟩ := h9
  have h9x : iv9 = pz_u1 (pz_u1 (pz_u1 (pz_u1 (pz_u1 (pz_u1 iv 2 (iv 2)) 25 (iv 25)) 130 n9_2) 131 w9_3) 132 d9_4) 134 l9_5 := h9e.trans (by rw [pz_u1_in (r := 130) (q := 134) (by decide)]; rw [pz_u1_in (r := 130) (q := 132) (by decide)]; rw [pz_u1_in (r := 130) (q := 131) (by decide)]; rw [pz_u1_top (r := 130)]; rw [pz_u1_in (r := 131) (q := 134) (by decide)]; rw [pz_u1_in (r := 131) (q := 132) (by decide)]; rw [pz_u1_top (r := 131)]; rw [pz_u1_in (r := 132) (q := 134) (by decide)]; rw [pz_u1_top (r := 132)]; rw [pz_u1_top (r := 134)] <;> rfl)
  subst h9x
  clear h9e hc1
  refine w_loc (ls' := [some (.inr (.inl 2)), some (.inl (q_fsw k)), none]) (st' := []) rfl ?_
  refine w_loc rfl ?_
  refine w_pure rfl ?_
  refine w_ine (fun h6 => ?_) (fun h6 => ?_)
  · first
    | (exfalso; first | omega | contradiction)
    | (refine pz_G_of pz_b128_23 ?_
       refine w_pure rfl ?_
       refine w_loc (ls' := [some (.inr (.inl 2)), some (.inl (q_fsw k)), some (.inl 1)]) (st' := []) rfl ?_
       refine w_nil ?_
       have lp25 : ∀ (dd : Nat) (l : Int) (f : Nat → Int) , (5 - l).toNat = dd → ∀ (hl : 1 ≤ l ∧ l ≤ 5), ∀ (hf : ∀ i : Int, 1 ≤ i → i ≤ 4 → f i.toNat = if i < l then q_kwL k (q_fsw k) i else iv 25 i.toNat),  pz_G 128 25 [some (.inr (.inl 2)), some (.inl (q_fsw k)), some (.inl l)] [] (pz_Sh L, pz_u1 (pz_u1 (pz_u1 (pz_u1 (pz_u1 (pz_u1 iv 2 (iv 2)) 25 f) 130 n9_2) 131 w9_3) 132 d9_4) 134 l9_5, dv, cc, ss) (pz_PE (pz_Sh L) (.inl (some (.inl (q_bc (q_fsw k))))) (fun iv9 => ∃ (y9 : Nat → Int) (n9 : Nat → Int) (w9 : Nat → Int) (d9 : Nat → Int) (l9 : Nat → Int), iv9 = pz_u1 (pz_u1 (pz_u1 (pz_u1 (pz_u1 (pz_u1 iv 2 (pz_up (pz_up (pz_up (iv 2) 7 0) 8 0) 9 0)) 25 y9) 130 n9) 131 w9) 132 d9) 134 l9 ∧ (q_cL (q_kw k (q_fsw k)) y9)) dv cc ss) := by
         intro dd25
         induction dd25 using Nat.strongRecOn with
         | _ dd25 ih25 =>
         intro l f  hd25 hl hf
         have hfl : l ≤ 4 → f l.toNat = k (46 + l).toNat := by
           intro h
           rw [hf l hl.1 h, if_neg (by omega)]; exact hL l hl.1 h
         have hlb := fun h => hk.lb (l := l) (by omega) h
         have hLl := fun h => hL l hl.1 h
         refine pz_G_of pz_b128_25 ?_
         refine w_loc rfl ?_
         refine w_pure rfl ?_
         refine w_igt (fun h7 => ?_) (fun h7 => ?_)
         · first
           | (exfalso; first | omega | contradiction)
           | (refine pz_G_of pz_b128_73 ?_
              refine w_loc rfl ?_
              have hc8 : pz_R (pz_Sh L) 178 [.inr (.inl 2)] (pz_u1 (pz_u1 (pz_u1 (pz_u1 (pz_u1 (pz_u1 iv 2 (iv 2)) 25 f) 130 n9_2) 131 w9_3) 132 d9_4) 134 l9_5) (.inl none) (pz_u1 (pz_u1 (pz_u1 (pz_u1 (pz_u1 (pz_u1 iv 2 (pz_up (pz_up (pz_up (iv 2) 7 0) 8 0) 9 0)) 25 f) 130 n9_2) 131 w9_3) 132 d9_4) 134 l9_5) := pz_R_mem (s_X10_forget) (by rw [pz_u1_in (r := 2) (q := 134) (by decide)]; rw [pz_u1_in (r := 2) (q := 132) (by decide)]; rw [pz_u1_in (r := 2) (q := 131) (by decide)]; rw [pz_u1_in (r := 2) (q := 130) (by decide)]; rw [pz_u1_in (r := 2) (q := 25) (by decide)]; rw [pz_u1_top (r := 2)]; rfl)
              refine w_callv hc8 rfl (pz_cokI is_2 rfl) ?_
              refine w_loc rfl ?_
              have hc9 : pz_R (pz_Sh L) 0 [.inl (q_fsw k)] (pz_u1 (pz_u1 (pz_u1 (pz_u1 (pz_u1 (pz_u1 iv 2 (pz_up (pz_up (pz_up (iv 2) 7 0) 8 0) 9 0)) 25 f) 130 n9_2) 131 w9_3) 132 d9_4) 134 l9_5) (.inl (some (.inl (q_bc (q_fsw k))))) (pz_u1 (pz_u1 (pz_u1 (pz_u1 (pz_u1 (pz_u1 iv 2 (pz_up (pz_up (pz_up (iv 2) 7 0) 8 0) 9 0)) 25 f) 130 n9_2) 131 w9_3) 132 d9_4) 134 l9_5) := s_J_bitCount (q_fsw k) (by show 0 ≤ (q_fsw k) ∧ (q_fsw k) ≤ 15; omega)
              refine w_call hc9 rfl rfl ?_
              refine w_ret rfl ?_
              first | exact ⟨pz_u1 (pz_u1 (pz_u1 (pz_u1 (pz_u1 (pz_u1 iv 2 (pz_up (pz_up (pz_up (iv 2) 7 0) 8 0) 9 0)) 25 f) 130 n9_2) 131 w9_3) 132 d9_4) 134 l9_5, ⟨f, n9_2, w9_3, d9_4, l9_5, by rfl, by exact q_cL_kw hL (by omega) hf⟩, lf_i (by first | rfl | omega) (by rfl)⟩ | (exfalso; omega))
         · first
           | (exfalso; first | omega | contradiction)
           | (refine w_loc rfl ?_
              refine w_getR (q := 3) is_2 rf_2_0 ?_
              refine w_loc rfl ?_
              have hc10 : pz_R (pz_Sh L) 68 [.inr (.inl 3), .inl l] (pz_u1 (pz_u1 (pz_u1 (pz_u1 (pz_u1 (pz_u1 iv 2 (iv 2)) 25 f) 130 n9_2) 131 w9_3) 132 d9_4) 134 l9_5) (.inl (some (.inl (pz_bi (f l.toNat = 116 ∨ f l.toNat = 102))))) (pz_u1 (pz_u1 (pz_u1 (pz_u1 (pz_u1 (pz_u1 iv 2 (iv 2)) 25 f) 130 n9_2) 131 w9_3) 132 d9_4) 134 l9_5) := s_X6_isObserved_w l (by show 1 ≤ l ∧ l ≤ 4; omega) (by show 0 ≤ f l.toNat ∧ f l.toNat ≤ 65535; omega)
              refine w_call hc10 rfl (pz_cokI is_3 rfl) ?_
              refine w_bne (fun h11 => ?_) (fun h11 => ?_)
              · first
                | (exfalso; first | omega | contradiction)
                | (refine pz_G_of pz_b128_67 ?_
                   refine w_iinc (ls' := [some (.inr (.inl 2)), some (.inl (q_fsw k)), some (.inl (l + 1))]) rfl rfl rfl (by omega) ?_
                   refine w_goto ?_
                   exact ih25 _ (by omega) (l + 1) f  rfl (by omega) (by first | exact q_chl_no hl.1 hf (by unfold q_kwL; rw [q_if_t (by omega)]; omega) | exact q_chl_up hl.1 hf (by unfold q_kwL; rw [q_if_f (by omega)]; first | rw [q_if_t (by assumption)] | rw [q_if_f (by omega)])))
              · first
                | (exfalso; first | omega | contradiction)
                | (refine w_loc rfl ?_
                   refine w_getR (q := 3) is_2 rf_2_0 ?_
                   refine w_loc rfl ?_
                   refine w_loc rfl ?_
                   refine w_loc rfl ?_
                   refine w_pure rfl ?_
                   refine w_isub (by omega) ?_
                   have hc12 : pz_R (pz_Sh L) 186 [.inl (l - 1)] (pz_u1 (pz_u1 (pz_u1 (pz_u1 (pz_u1 (pz_u1 iv 2 (iv 2)) 25 f) 130 n9_2) 131 w9_3) 132 d9_4) 134 l9_5) (.inl (some (.inl (pz_shl 1 (l - 1))))) (pz_u1 (pz_u1 (pz_u1 (pz_u1 (pz_u1 (pz_u1 iv 2 (iv 2)) 25 f) 130 n9_2) 131 w9_3) 132 d9_4) 134 l9_5) := s_X10_bit (l - 1)
                   refine w_call hc12 rfl rfl ?_
                   refine w_iand ?_
                   refine w_zeq (fun h13 => ?_) (fun h13 => ?_)
                   · first
                     | (exfalso; first | omega | contradiction)
                     | (refine pz_G_of pz_b128_62 ?_
                        refine w_pure rfl ?_
                        refine w_nil ?_
                        refine pz_G_of pz_b128_64 ?_
                        have hc14 : pz_R (pz_Sh L) 67 [.inr (.inl 3), .inl l, .inl 70] (pz_u1 (pz_u1 (pz_u1 (pz_u1 (pz_u1 (pz_u1 iv 2 (iv 2)) 25 f) 130 n9_2) 131 w9_3) 132 d9_4) 134 l9_5) (.inl none) (pz_u1 (pz_u1 (pz_u1 (pz_u1 (pz_u1 (pz_u1 iv 2 (iv 2)) 25 (pz_up f l.toNat 70)) 130 n9_2) 131 w9_3) 132 d9_4) 134 l9_5) := pz_R_mem (s_X6_setLabel l 70 (by show 1 ≤ l ∧ l ≤ 4; omega) (by show 0 ≤ 70 ∧ 70 ≤ 65535; omega)) (by rw [pz_u1_in (r := 25) (q := 134) (by decide)]; rw [pz_u1_in (r := 25) (q := 132) (by decide)]; rw [pz_u1_in (r := 25) (q := 131) (by decide)]; rw [pz_u1_in (r := 25) (q := 130) (by decide)]; rw [pz_u1_top (r := 25)]; rfl)
                        refine w_callv hc14 rfl (pz_cokI is_3 rfl) ?_
                        refine w_nil ?_
                        refine pz_G_of pz_b128_67 ?_
                        refine w_iinc (ls' := [some (.inr (.inl 2)), some (.inl (q_fsw k)), some (.inl (l + 1))]) rfl rfl rfl (by omega) ?_
                        refine w_goto ?_
                        exact ih25 _ (by omega) (l + 1) (pz_up f l.toNat 70)  rfl (by omega) (by first | exact q_chl_no hl.1 hf (by unfold q_kwL; rw [q_if_t (by omega)]; omega) | exact q_chl_up hl.1 hf (by unfold q_kwL; rw [q_if_f (by omega)]; first | rw [q_if_t (by assumption)] | rw [q_if_f (by omega)])))
                   · first
                     | (exfalso; first | omega | contradiction)
                     | (refine w_pure rfl ?_
                        refine w_goto ?_
                        refine pz_G_of pz_b128_64 ?_
                        have hc15 : pz_R (pz_Sh L) 67 [.inr (.inl 3), .inl l, .inl 84] (pz_u1 (pz_u1 (pz_u1 (pz_u1 (pz_u1 (pz_u1 iv 2 (iv 2)) 25 f) 130 n9_2) 131 w9_3) 132 d9_4) 134 l9_5) (.inl none) (pz_u1 (pz_u1 (pz_u1 (pz_u1 (pz_u1 (pz_u1 iv 2 (iv 2)) 25 (pz_up f l.toNat 84)) 130 n9_2) 131 w9_3) 132 d9_4) 134 l9_5) := pz_R_mem (s_X6_setLabel l 84 (by show 1 ≤ l ∧ l ≤ 4; omega) (by show 0 ≤ 84 ∧ 84 ≤ 65535; omega)) (by rw [pz_u1_in (r := 25) (q := 134) (by decide)]; rw [pz_u1_in (r := 25) (q := 132) (by decide)]; rw [pz_u1_in (r := 25) (q := 131) (by decide)]; rw [pz_u1_in (r := 25) (q := 130) (by decide)]; rw [pz_u1_top (r := 25)]; rfl)
                        refine w_callv hc15 rfl (pz_cokI is_3 rfl) ?_
                        refine w_nil ?_
                        refine pz_G_of pz_b128_67 ?_
                        refine w_iinc (ls' := [some (.inr (.inl 2)), some (.inl (q_fsw k)), some (.inl (l + 1))]) rfl rfl rfl (by omega) ?_
                        refine w_goto ?_
                        exact ih25 _ (by omega) (l + 1) (pz_up f l.toNat 84)  rfl (by omega) (by first | exact q_chl_no hl.1 hf (by unfold q_kwL; rw [q_if_t (by omega)]; omega) | exact q_chl_up hl.1 hf (by unfold q_kwL; rw [q_if_f (by omega)]; first | rw [q_if_t (by assumption)] | rw [q_if_f (by omega)])))))
       exact lp25 _ 1 (iv 25)  rfl (by omega) (by intro i g1 g2; rw [if_neg (by omega)]))
  · first
    | (exfalso; first | omega | contradiction)
    | (refine w_thr (by decide) ?_
       first | exact ⟨pz_u1 (pz_u1 (pz_u1 (pz_u1 (pz_u1 (pz_u1 iv 2 (iv 2)) 25 (iv 25)) 130 n9_2) 131 w9_3) 132 d9_4) 134 l9_5, ⟨(iv 25), n9_2, w9_3, d9_4, l9_5, by rfl, by exact q_cL_kw hL (by omega) hf⟩, lf_e (by rfl)⟩ | (exfalso; omega))
