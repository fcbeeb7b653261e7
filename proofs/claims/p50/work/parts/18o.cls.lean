
theorem s_X10_needItem_y {L : Nat} {iv : Nat → Nat → Int} (i : Int) (n : Int) (hsplit : 0 ≤ i ∧ i < n) : pz_R (pz_Sh L) 171 [.inl i, .inl n] iv (.inl none) iv := by
  intro dv cc ss
  show pz_G 171 0 [some (.inl i), some (.inl n)] [] (pz_Sh L, iv, dv, cc, ss) (pz_P (pz_Sh L) (.inl none) iv dv cc ss)
  refine pz_G_of pz_b171_0 ?_
  refine w_loc rfl ?_
  refine w_zlt (fun h1 => ?_) (fun h1 => ?_)
  · first
    | (exfalso; first | omega | contradiction)
    | (refine pz_G_of pz_b171_9 ?_
       refine w_thr (by decide) ?_
       first | exact lf_e (by rfl) | (exfalso; omega))
  · first
    | (exfalso; first | omega | contradiction)
    | (refine w_loc rfl ?_
       refine w_loc rfl ?_
       refine w_ilt (fun h2 => ?_) (fun h2 => ?_)
       · first
         | (exfalso; first | omega | contradiction)
         | (refine pz_G_of pz_b171_20 ?_
            refine w_vret ?_
            first | exact lf_v (by rfl) | (exfalso; omega))
       · first
         | (exfalso; first | omega | contradiction)
         | (refine w_nil ?_
            refine pz_G_of pz_b171_9 ?_
            refine w_thr (by decide) ?_
            first | exact lf_e (by rfl) | (exfalso; omega)))

theorem s_X10_needItem_n {L : Nat} {iv : Nat → Nat → Int} (i : Int) (n : Int) (hsplit : ¬ (0 ≤ i ∧ i < n)) : pz_R (pz_Sh L) 171 [.inl i, .inl n] iv (.inr 2) iv := by
  intro dv cc ss
  show pz_G 171 0 [some (.inl i), some (.inl n)] [] (pz_Sh L, iv, dv, cc, ss) (pz_P (pz_Sh L) (.inr 2) iv dv cc ss)
  refine pz_G_of pz_b171_0 ?_
  refine w_loc rfl ?_
  refine w_zlt (fun h1 => ?_) (fun h1 => ?_)
  · first
    | (exfalso; first | omega | contradiction)
    | (refine pz_G_of pz_b171_9 ?_
       refine w_thr (by decide) ?_
       first | exact lf_e (by rfl) | (exfalso; omega))
  · first
    | (exfalso; first | omega | contradiction)
    | (refine w_loc rfl ?_
       refine w_loc rfl ?_
       refine w_ilt (fun h2 => ?_) (fun h2 => ?_)
       · first
         | (exfalso; first | omega | contradiction)
         | (refine pz_G_of pz_b171_20 ?_
            refine w_vret ?_
            first | exact lf_v (by rfl) | (exfalso; omega))
       · first
         | (exfalso; first | omega | contradiction)
         | (refine w_nil ?_
            refine pz_G_of pz_b171_9 ?_
            refine w_thr (by decide) ?_
            first | exact lf_e (by rfl) | (exfalso; omega)))

theorem s_X10_needRange_y {L : Nat} {iv : Nat → Nat → Int} (z : Int) (hsplit : z ≠ 0) : pz_R (pz_Sh L) 172 [.inl z] iv (.inl none) iv := by
  intro dv cc ss
  show pz_G 172 0 [some (.inl z)] [] (pz_Sh L, iv, dv, cc, ss) (pz_P (pz_Sh L) (.inl none) iv dv cc ss)
  refine pz_G_of pz_b172_0 ?_
  refine w_loc rfl ?_
  refine w_zne (fun h1 => ?_) (fun h1 => ?_)
  · first
    | (exfalso; first | omega | contradiction)
    | (refine pz_G_of pz_b172_15 ?_
       refine w_vret ?_
       first | exact lf_v (by rfl) | (exfalso; omega))
  · first
    | (exfalso; first | omega | contradiction)
    | (refine w_thr (by decide) ?_
       first | exact lf_e (by rfl) | (exfalso; omega))

theorem s_X10_needRange_n {L : Nat} {iv : Nat → Nat → Int} (z : Int) (hsplit : z = 0) : pz_R (pz_Sh L) 172 [.inl z] iv (.inr 1) iv := by
  intro dv cc ss
  show pz_G 172 0 [some (.inl z)] [] (pz_Sh L, iv, dv, cc, ss) (pz_P (pz_Sh L) (.inr 1) iv dv cc ss)
  refine pz_G_of pz_b172_0 ?_
  refine w_loc rfl ?_
  refine w_zne (fun h1 => ?_) (fun h1 => ?_)
  · first
    | (exfalso; first | omega | contradiction)
    | (refine pz_G_of pz_b172_15 ?_
       refine w_vret ?_
       first | exact lf_v (by rfl) | (exfalso; omega))
  · first
    | (exfalso; first | omega | contradiction)
    | (refine w_thr (by decide) ?_
       first | exact lf_e (by rfl) | (exfalso; omega))

theorem s_X10_needState_y {L : Nat} {iv : Nat → Nat → Int} (z : Int) (hsplit : z ≠ 0) : pz_R (pz_Sh L) 173 [.inl z] iv (.inl none) iv := by
  intro dv cc ss
  show pz_G 173 0 [some (.inl z)] [] (pz_Sh L, iv, dv, cc, ss) (pz_P (pz_Sh L) (.inl none) iv dv cc ss)
  refine pz_G_of pz_b173_0 ?_
  refine w_loc rfl ?_
  refine w_zne (fun h1 => ?_) (fun h1 => ?_)
  · first
    | (exfalso; first | omega | contradiction)
    | (refine pz_G_of pz_b173_15 ?_
       refine w_vret ?_
       first | exact lf_v (by rfl) | (exfalso; omega))
  · first
    | (exfalso; first | omega | contradiction)
    | (refine w_thr (by decide) ?_
       first | exact lf_e (by rfl) | (exfalso; omega))

theorem s_X10_needState_n {L : Nat} {iv : Nat → Nat → Int} (z : Int) (hsplit : z = 0) : pz_R (pz_Sh L) 173 [.inl z] iv (.inr 0) iv := by
  intro dv cc ss
  show pz_G 173 0 [some (.inl z)] [] (pz_Sh L, iv, dv, cc, ss) (pz_P (pz_Sh L) (.inr 0) iv dv cc ss)
  refine pz_G_of pz_b173_0 ?_
  refine w_loc rfl ?_
  refine w_zne (fun h1 => ?_) (fun h1 => ?_)
  · first
    | (exfalso; first | omega | contradiction)
    | (refine pz_G_of pz_b173_15 ?_
       refine w_vret ?_
       first | exact lf_v (by rfl) | (exfalso; omega))
  · first
    | (exfalso; first | omega | contradiction)
    | (refine w_thr (by decide) ?_
       first | exact lf_e (by rfl) | (exfalso; omega))

theorem s_X10_needEvent_y {L : Nat} {iv : Nat → Nat → Int} (e : Int) {k : Nat → Int} (hE : q_cE k (iv 3)) (hsplit : 0 ≤ e ∧ e < k 0) : pz_R (pz_Sh L) 170 [.inr (.inl 2), .inl e] iv (.inl none) iv := by
  intro dv cc ss
  have hE0 := hE
  show pz_G 170 0 [some (.inr (.inl 2)), some (.inl e)] [] (pz_Sh L, iv, dv, cc, ss) (pz_P (pz_Sh L) (.inl none) iv dv cc ss)
  refine pz_G_of pz_b170_0 ?_
  refine w_loc rfl ?_
  refine w_loc rfl ?_
  refine w_getR (q := 3) is_2 rf_2_0 ?_
  refine w_getI (v := (iv 3) 0) is_3 (by decide) rfl ?_
  by_cases h1 : 0 ≤ e ∧ e < ((iv 3) 0)
  · first
    | (exfalso; first | omega | contradiction)
    | (have hc2 : pz_R (pz_Sh L) 171 [.inl e, .inl ((iv 3) 0)] (iv) (.inl none) (iv) := s_X10_needItem_y e ((iv 3) 0) (by exact h1)
       refine w_callv hc2 rfl rfl ?_
       refine w_vret ?_
       first | exact lf_v (by rfl) | (exfalso; omega))
  · first
    | (exfalso; first | omega | contradiction)
    | (have hc3 : pz_R (pz_Sh L) 171 [.inl e, .inl ((iv 3) 0)] (iv) (.inr 2) (iv) := s_X10_needItem_n e ((iv 3) 0) (by exact h1)
       refine w_calle hc3 rfl rfl rfl ?_
       first | exact lf_e (by rfl) | (exfalso; omega))

theorem s_X10_needEvent_n {L : Nat} {iv : Nat → Nat → Int} (e : Int) {k : Nat → Int} (hE : q_cE k (iv 3)) (hsplit : ¬ (0 ≤ e ∧ e < k 0)) : pz_R (pz_Sh L) 170 [.inr (.inl 2), .inl e] iv (.inr 2) iv := by
  intro dv cc ss
  have hE0 := hE
  show pz_G 170 0 [some (.inr (.inl 2)), some (.inl e)] [] (pz_Sh L, iv, dv, cc, ss) (pz_P (pz_Sh L) (.inr 2) iv dv cc ss)
  refine pz_G_of pz_b170_0 ?_
  refine w_loc rfl ?_
  refine w_loc rfl ?_
  refine w_getR (q := 3) is_2 rf_2_0 ?_
  refine w_getI (v := (iv 3) 0) is_3 (by decide) rfl ?_
  by_cases h1 : 0 ≤ e ∧ e < ((iv 3) 0)
  · first
    | (exfalso; first | omega | contradiction)
    | (have hc2 : pz_R (pz_Sh L) 171 [.inl e, .inl ((iv 3) 0)] (iv) (.inl none) (iv) := s_X10_needItem_y e ((iv 3) 0) (by exact h1)
       refine w_callv hc2 rfl rfl ?_
       refine w_vret ?_
       first | exact lf_v (by rfl) | (exfalso; omega))
  · first
    | (exfalso; first | omega | contradiction)
    | (have hc3 : pz_R (pz_Sh L) 171 [.inl e, .inl ((iv 3) 0)] (iv) (.inr 2) (iv) := s_X10_needItem_n e ((iv 3) 0) (by exact h1)
       refine w_calle hc3 rfl rfl rfl ?_
       first | exact lf_e (by rfl) | (exfalso; omega))

theorem s_X10_toldValue_y {L : Nat} {iv : Nat → Nat → Int} (x : Int) (hsplit : x ≠ 1000000000) : pz_R (pz_Sh L) 177 [.inl x] iv (.inl (some (.inl x))) iv := by
  intro dv cc ss
  show pz_G 177 0 [some (.inl x)] [] (pz_Sh L, iv, dv, cc, ss) (pz_P (pz_Sh L) (.inl (some (.inl x))) iv dv cc ss)
  refine pz_G_of pz_b177_0 ?_
  refine w_loc rfl ?_
  refine w_ldcv (v := 1000000000) rfl ?_
  refine w_ine (fun h1 => ?_) (fun h1 => ?_)
  · first
    | (exfalso; first | omega | contradiction)
    | (refine pz_G_of pz_b177_18 ?_
       refine w_loc rfl ?_
       refine w_ret rfl ?_
       first | exact lf_i (by first | rfl | omega) (by rfl) | (exfalso; omega))
  · first
    | (exfalso; first | omega | contradiction)
    | (refine w_thr (by decide) ?_
       first | exact lf_e (by rfl) | (exfalso; omega))

theorem s_X10_toldValue_n {L : Nat} {iv : Nat → Nat → Int} (x : Int) (hsplit : ¬ x ≠ 1000000000) : pz_R (pz_Sh L) 177 [.inl x] iv (.inr 3) iv := by
  intro dv cc ss
  show pz_G 177 0 [some (.inl x)] [] (pz_Sh L, iv, dv, cc, ss) (pz_P (pz_Sh L) (.inr 3) iv dv cc ss)
  refine pz_G_of pz_b177_0 ?_
  refine w_loc rfl ?_
  refine w_ldcv (v := 1000000000) rfl ?_
  refine w_ine (fun h1 => ?_) (fun h1 => ?_)
  · first
    | (exfalso; first | omega | contradiction)
    | (refine pz_G_of pz_b177_18 ?_
       refine w_loc rfl ?_
       refine w_ret rfl ?_
       first | exact lf_i (by first | rfl | omega) (by rfl) | (exfalso; omega))
  · first
    | (exfalso; first | omega | contradiction)
    | (refine w_thr (by decide) ?_
       first | exact lf_e (by rfl) | (exfalso; omega))

theorem s_X10_forget {L : Nat} {iv : Nat → Nat → Int} : pz_R (pz_Sh L) 178 [.inr (.inl 2)] iv (.inl none) (pz_u1 iv 2 (pz_up (pz_up (pz_up (iv 2) 7 0) 8 0) 9 0)) := by
  intro dv cc ss
  refine pz_G_mem (iv2 := pz_u1 iv 2 (iv 2)) (by exact (pz_u1_self iv 2).symm) ?_
  show pz_G 178 0 [some (.inr (.inl 2))] [] (pz_Sh L, pz_u1 iv 2 (iv 2), dv, cc, ss) (pz_P (pz_Sh L) (.inl none) (pz_u1 iv 2 (pz_up (pz_up (pz_up (iv 2) 7 0) 8 0) 9 0)) dv cc ss)
  refine pz_G_of pz_b178_0 ?_
  refine w_loc rfl ?_
  refine w_pure rfl ?_
  refine w_putIm (iv2 := pz_u1 iv 2 (pz_up (iv 2) 7 0)) is_2 (pz_fit1 (Or.inl rfl)) (by exact pz_u2_top _ _ _ _ _) ?_
  refine w_loc rfl ?_
  refine w_pure rfl ?_
  refine w_putIm (iv2 := pz_u1 iv 2 (pz_up (pz_up (iv 2) 7 0) 8 0)) is_2 (pz_fit1 (Or.inl rfl)) (by exact pz_u2_top _ _ _ _ _) ?_
  refine w_loc rfl ?_
  refine w_pure rfl ?_
  refine w_putIm (iv2 := pz_u1 iv 2 (pz_up (pz_up (pz_up (iv 2) 7 0) 8 0) 9 0)) is_2 (pz_fit1 (Or.inl rfl)) (by exact pz_u2_top _ _ _ _ _) ?_
  refine w_vret ?_
  first | exact lf_v (by rfl) | (exfalso; omega)

theorem s_X10_knownNet {L : Nat} {iv : Nat → Nat → Int} {k : Nat → Int} (hk : q_KR k) (hE : q_cE k (iv 3)) (hB : q_cB k (iv 4) (iv 5) (iv 6) (iv 7) (iv 8) (iv 9)) (hS : q_cS k (iv 10) (iv 11) (iv 12) (iv 13) (iv 14)) (hC : q_cC k (iv 15) (iv 16)) (hL : q_cL k (iv 25)) (hci : q_CI k (iv 2) (iv 138) (iv 139) (iv 140) (iv 142) (iv 143) (iv 145) (iv 129) (iv 135)) : pz_RE (pz_Sh L) 179 [.inr (.inl 2)] iv (.inl (some (.inr (.inl 138)))) (fun iv9 => ∃ (o9 : Nat → Int) (l9 : Nat → Int) (n9 : Nat → Int) (w9 : Nat → Int) (d9 : Nat → Int), iv9 = pz_u1 (pz_u1 (pz_u1 (pz_u1 (pz_u1 iv 2 o9) 134 l9) 138 n9) 139 w9) 140 d9 ∧ (q_CI k o9 n9 w9 d9 (iv 142) (iv 143) (iv 145) (iv 129) (iv 135)) ∧ (q_NK k n9 w9 d9) ∧ (o9 2 = (iv 2) 2)) := by
  intro dv cc ss
  have hk0 := hk.r0
  have hE0 := hE
  have hB0 := hB.1
  have hS0 := hS.1
  have hC0 := hC.1
  refine pz_G_mem (iv2 := pz_u1 (pz_u1 (pz_u1 (pz_u1 (pz_u1 iv 2 (iv 2)) 134 (iv 134)) 138 (iv 138)) 139 (iv 139)) 140 (iv 140)) (by exact (((((pz_u1_self iv 2).symm).trans (pz_u1_self (pz_u1 iv 2 (iv 2)) 134).symm).trans (pz_u1_self (pz_u1 (pz_u1 iv 2 (iv 2)) 134 (iv 134)) 138).symm).trans (pz_u1_self (pz_u1 (pz_u1 (pz_u1 iv 2 (iv 2)) 134 (iv 134)) 138 (iv 138)) 139).symm).trans (pz_u1_self (pz_u1 (pz_u1 (pz_u1 (pz_u1 iv 2 (iv 2)) 134 (iv 134)) 138 (iv 138)) 139 (iv 139)) 140).symm) ?_
  show pz_G 179 0 [some (.inr (.inl 2))] [] (pz_Sh L, pz_u1 (pz_u1 (pz_u1 (pz_u1 (pz_u1 iv 2 (iv 2)) 134 (iv 134)) 138 (iv 138)) 139 (iv 139)) 140 (iv 140), dv, cc, ss) (pz_PE (pz_Sh L) (.inl (some (.inr (.inl 138)))) (fun iv9 => ∃ (o9 : Nat → Int) (l9 : Nat → Int) (n9 : Nat → Int) (w9 : Nat → Int) (d9 : Nat → Int), iv9 = pz_u1 (pz_u1 (pz_u1 (pz_u1 (pz_u1 iv 2 o9) 134 l9) 138 n9) 139 w9) 140 d9 ∧ (q_CI k o9 n9 w9 d9 (iv 142) (iv 143) (iv 145) (iv 129) (iv 135)) ∧ (q_NK k n9 w9 d9) ∧ (o9 2 = (iv 2) 2)) dv cc ss)
  refine pz_G_of pz_b179_0 ?_
  refine w_loc rfl ?_
  refine w_getI (v := (iv 2) 7) is_2 (by decide) rfl ?_
  refine w_zne (fun h1 => ?_) (fun h1 => ?_)
  · refine pz_G_of pz_b179_37 ?_
    refine w_loc rfl ?_
    refine w_getR (q := 138) is_2 rf_2_4 ?_
    refine w_ret rfl ?_
    first | exact ⟨pz_u1 (pz_u1 (pz_u1 (pz_u1 (pz_u1 iv 2 (iv 2)) 134 (iv 134)) 138 (iv 138)) 139 (iv 139)) 140 (iv 140), ⟨(iv 2), (iv 134), (iv 138), (iv 139), (iv 140), by rfl, by first | exact hci | exact q_CI_nk hci (q_NK_mk hk), by first | exact q_CI_n hci (by assumption) | exact q_NK_mk hk, by rfl⟩, lf_r (by rfl) (by rfl)⟩ | (exfalso; omega)
  · refine w_loc rfl ?_
    refine w_getR (q := 129) is_2 rf_2_3 ?_
    have hc2 := s_X4_leaveHeld (L := L) (iv := pz_u1 (pz_u1 (pz_u1 (pz_u1 (pz_u1 iv 2 (iv 2)) 134 (iv 134)) 138 (iv 138)) 139 (iv 139)) 140 (iv 140)) (by show q_KR k; exact hk) (by show q_cB k (iv 4) (iv 5) (iv 6) (iv 7) (iv 8) (iv 9); exact hB) (by show q_cL k (iv 25); exact hL)
    refine w_callvE hc2 rfl (pz_cokI is_129 rfl) (fun iv9 h9 => ?_)
    obtain ⟨l9_3, h9e, hisl⟩ := h9
    have h9x : iv9 = pz_u1 (pz_u1 (pz_u1 (pz_u1 (pz_u1 iv 2 (iv 2)) 134 l9_3) 138 (iv 138)) 139 (iv 139)) 140 (iv 140) := h9e.trans (by rw [pz_u1_in (r := 134) (q := 140) (by decide)]; rw [pz_u1_in (r := 134) (q := 139) (by decide)]; rw [pz_u1_in (r := 134) (q := 138) (by decide)]; rw [pz_u1_top (r := 134)] <;> rfl)
    subst h9x
    replace hisl : q_isl k (fun _ => 0) l9_3 := hisl
    refine w_loc rfl ?_
    refine w_getR (q := 129) is_2 rf_2_3 ?_
    refine w_loc rfl ?_
    refine w_getR (q := 138) is_2 rf_2_4 ?_
    have hc4 : pz_R (pz_Sh L) 37 [.inr (.inl 129), .inr (.inl 138)] (pz_u1 (pz_u1 (pz_u1 (pz_u1 (pz_u1 iv 2 (iv 2)) 134 l9_3) 138 (iv 138)) 139 (iv 139)) 140 (iv 140)) (.inl none) (pz_u1 (pz_u1 (pz_u1 (pz_u1 (pz_u1 iv 2 (iv 2)) 134 l9_3) 138 (pz_up (iv 138) 0 (k 0))) 139 (q_lay k (fun _ => 0) (iv 139))) 140 (iv 140)) := pz_R_mem (s_X4_layLeft_138 (by show q_KR k; exact hk) (by show q_cE k (iv 3); exact hE) (by show q_cB k (iv 4) (iv 5) (iv 6) (iv 7) (iv 8) (iv 9); exact hB) (by show q_cS k (iv 10) (iv 11) (iv 12) (iv 13) (iv 14); exact hS) (by show q_cC k (iv 15) (iv 16); exact hC) (by show q_isl k (fun _ => 0) l9_3; exact hisl)) (by rw [pz_u1_in (r := 138) (q := 140) (by decide)]; rw [pz_u1_in (r := 138) (q := 139) (by decide)]; rw [pz_u1_top (r := 138)]; rw [pz_u1_in (r := 139) (q := 140) (by decide)]; rw [pz_u1_top (r := 139)]; rfl)
    refine w_callv hc4 rfl (pz_cokI is_129 rfl) ?_
    refine w_loc rfl ?_
    refine w_getR (q := 138) is_2 rf_2_4 ?_
    have hc5 : pz_R (pz_Sh L) 56 [.inr (.inl 138)] (pz_u1 (pz_u1 (pz_u1 (pz_u1 (pz_u1 iv 2 (iv 2)) 134 l9_3) 138 (pz_up (iv 138) 0 (k 0))) 139 (q_lay k (fun _ => 0) (iv 139))) 140 (iv 140)) (.inl none) (pz_u1 (pz_u1 (pz_u1 (pz_u1 (pz_u1 iv 2 (iv 2)) 134 l9_3) 138 (pz_up (pz_up (iv 138) 0 (k 0)) 1 (pz_bi (q_okc (k 0) (q_cI (k 0) (q_cz (k 0) (q_cp 100 (q_lay k (fun _ => 0) (iv 139)) (iv 140))) (q_cp 100 (q_lay k (fun _ => 0) (iv 139)) (iv 140))))))) 139 (q_lay k (fun _ => 0) (iv 139))) 140 (q_cI (k 0) (q_cz (k 0) (q_cp 100 (q_lay k (fun _ => 0) (iv 139)) (iv 140))) (q_cp 100 (q_lay k (fun _ => 0) (iv 139)) (iv 140)))) := pz_R_mem (s_X5_close_138 (by show (pz_up (iv 138) 0 (k 0)) 0 = (k 0) ∧ 1 ≤ (k 0) ∧ (k 0) ≤ 10; exact ⟨rfl, by omega, by omega⟩) (by show q_cw (k 0) (q_cp 100 (q_lay k (fun _ => 0) (iv 139)) (iv 140)); exact q_cw_lay hk)) (by rw [pz_u1_in (r := 138) (q := 140) (by decide)]; rw [pz_u1_in (r := 138) (q := 139) (by decide)]; rw [pz_u1_top (r := 138)]; rw [pz_u1_top (r := 140)]; rfl)
    refine w_callv hc5 rfl (pz_cokI is_138 rfl) ?_
    refine w_loc rfl ?_
    refine w_pure rfl ?_
    refine w_putIm (iv2 := pz_u1 (pz_u1 (pz_u1 (pz_u1 (pz_u1 iv 2 (pz_up (iv 2) 7 1)) 134 l9_3) 138 (pz_up (pz_up (iv 138) 0 (k 0)) 1 (pz_bi (q_okc (k 0) (q_cI (k 0) (q_cz (k 0) (q_cp 100 (q_lay k (fun _ => 0) (iv 139)) (iv 140))) (q_cp 100 (q_lay k (fun _ => 0) (iv 139)) (iv 140))))))) 139 (q_lay k (fun _ => 0) (iv 139))) 140 (q_cI (k 0) (q_cz (k 0) (q_cp 100 (q_lay k (fun _ => 0) (iv 139)) (iv 140))) (q_cp 100 (q_lay k (fun _ => 0) (iv 139)) (iv 140)))) is_2 (pz_fit1 (Or.inr rfl)) (by rw [pz_u2_in (r := 2) (q := 140) (by decide)]; rw [pz_u2_in (r := 2) (q := 139) (by decide)]; rw [pz_u2_in (r := 2) (q := 138) (by decide)]; rw [pz_u2_in (r := 2) (q := 134) (by decide)]; rw [pz_u2_top] <;> rfl) ?_
    refine w_nil ?_
    refine pz_G_of pz_b179_37 ?_
    refine w_loc rfl ?_
    refine w_getR (q := 138) is_2 rf_2_4 ?_
    refine w_ret rfl ?_
    first | exact ⟨pz_u1 (pz_u1 (pz_u1 (pz_u1 (pz_u1 iv 2 (pz_up (iv 2) 7 1)) 134 l9_3) 138 (pz_up (pz_up (iv 138) 0 (k 0)) 1 (pz_bi (q_okc (k 0) (q_cI (k 0) (q_cz (k 0) (q_cp 100 (q_lay k (fun _ => 0) (iv 139)) (iv 140))) (q_cp 100 (q_lay k (fun _ => 0) (iv 139)) (iv 140))))))) 139 (q_lay k (fun _ => 0) (iv 139))) 140 (q_cI (k 0) (q_cz (k 0) (q_cp 100 (q_lay k (fun _ => 0) (iv 139)) (iv 140))) (q_cp 100 (q_lay k (fun _ => 0) (iv 139)) (iv 140))), ⟨(pz_up (iv 2) 7 1), l9_3, (pz_up (pz_up (iv 138) 0 (k 0)) 1 (pz_bi (q_okc (k 0) (q_cI (k 0) (q_cz (k 0) (q_cp 100 (q_lay k (fun _ => 0) (iv 139)) (iv 140))) (q_cp 100 (q_lay k (fun _ => 0) (iv 139)) (iv 140)))))), (q_lay k (fun _ => 0) (iv 139)), (q_cI (k 0) (q_cz (k 0) (q_cp 100 (q_lay k (fun _ => 0) (iv 139)) (iv 140))) (q_cp 100 (q_lay k (fun _ => 0) (iv 139)) (iv 140))), by rfl, by first | exact hci | exact q_CI_nk hci (q_NK_mk hk), by first | exact q_CI_n hci (by assumption) | exact q_NK_mk hk, by rfl⟩, lf_r (by rfl) (by rfl)⟩ | (exfalso; omega)

theorem s_X10_soundNet_y {L : Nat} {iv : Nat → Nat → Int} {k : Nat → Int} (hk : q_KR k) (hE : q_cE k (iv 3)) (hB : q_cB k (iv 4) (iv 5) (iv 6) (iv 7) (iv 8) (iv 9)) (hS : q_cS k (iv 10) (iv 11) (iv 12) (iv 13) (iv 14)) (hC : q_cC k (iv 15) (iv 16)) (hL : q_cL k (iv 25)) (hci : q_CI k (iv 2) (iv 138) (iv 139) (iv 140) (iv 142) (iv 143) (iv 145) (iv 129) (iv 135)) (hsplit : q_con k (fun _ => 0)) : pz_RE (pz_Sh L) 180 [.inr (.inl 2)] iv (.inl (some (.inr (.inl 138)))) (fun iv9 => ∃ (o9 : Nat → Int) (l9 : Nat → Int) (n9 : Nat → Int) (w9 : Nat → Int) (d9 : Nat → Int), iv9 = pz_u1 (pz_u1 (pz_u1 (pz_u1 (pz_u1 iv 2 o9) 134 l9) 138 n9) 139 w9) 140 d9 ∧ (q_CI k o9 n9 w9 d9 (iv 142) (iv 143) (iv 145) (iv 129) (iv 135)) ∧ (q_NK k n9 w9 d9) ∧ (o9 2 = (iv 2) 2)) := by
  intro dv cc ss
  have hk0 := hk.r0
  have hE0 := hE
  have hB0 := hB.1
  have hS0 := hS.1
  have hC0 := hC.1
  refine pz_G_mem (iv2 := pz_u1 (pz_u1 (pz_u1 (pz_u1 (pz_u1 iv 2 (iv 2)) 134 (iv 134)) 138 (iv 138)) 139 (iv 139)) 140 (iv 140)) (by exact (((((pz_u1_self iv 2).symm).trans (pz_u1_self (pz_u1 iv 2 (iv 2)) 134).symm).trans (pz_u1_self (pz_u1 (pz_u1 iv 2 (iv 2)) 134 (iv 134)) 138).symm).trans (pz_u1_self (pz_u1 (pz_u1 (pz_u1 iv 2 (iv 2)) 134 (iv 134)) 138 (iv 138)) 139).symm).trans (pz_u1_self (pz_u1 (pz_u1 (pz_u1 (pz_u1 iv 2 (iv 2)) 134 (iv 134)) 138 (iv 138)) 139 (iv 139)) 140).symm) ?_
  show pz_G 180 0 [some (.inr (.inl 2))] [] (pz_Sh L, pz_u1 (pz_u1 (pz_u1 (pz_u1 (pz_u1 iv 2 (iv 2)) 134 (iv 134)) 138 (iv 138)) 139 (iv 139)) 140 (iv 140), dv, cc, ss) (pz_PE (pz_Sh L) (.inl (some (.inr (.inl 138)))) (fun iv9 => ∃ (o9 : Nat → Int) (l9 : Nat → Int) (n9 : Nat → Int) (w9 : Nat → Int) (d9 : Nat → Int), iv9 = pz_u1 (pz_u1 (pz_u1 (pz_u1 (pz_u1 iv 2 o9) 134 l9) 138 n9) 139 w9) 140 d9 ∧ (q_CI k o9 n9 w9 d9 (iv 142) (iv 143) (iv 145) (iv 129) (iv 135)) ∧ (q_NK k n9 w9 d9) ∧ (o9 2 = (iv 2) 2)) dv cc ss)
  refine pz_G_of pz_b180_0 ?_
  refine w_loc rfl ?_
  have hc1 := s_X10_knownNet (L := L) (iv := pz_u1 (pz_u1 (pz_u1 (pz_u1 (pz_u1 iv 2 (iv 2)) 134 (iv 134)) 138 (iv 138)) 139 (iv 139)) 140 (iv 140)) (by show q_KR k; exact hk) (by show q_cE k (iv 3); exact hE) (by show q_cB k (iv 4) (iv 5) (iv 6) (iv 7) (iv 8) (iv 9); exact hB) (by show q_cS k (iv 10) (iv 11) (iv 12) (iv 13) (iv 14); exact hS) (by show q_cC k (iv 15) (iv 16); exact hC) (by show q_cL k (iv 25); exact hL) (by show q_CI k (iv 2) (iv 138) (iv 139) (iv 140) (iv 142) (iv 143) (iv 145) (iv 129) (iv 135); exact hci)
  refine w_callE hc1 rfl (pz_cokI is_2 rfl) (fun iv9 h9 => ?_)
  obtain ⟨o9_2, l9_3, n9_4, w9_5, d9_6, h9e, hci, hNK, ho2⟩ := h9
  have h9x : iv9 = pz_u1 (pz_u1 (pz_u1 (pz_u1 (pz_u1 iv 2 o9_2) 134 l9_3) 138 n9_4) 139 w9_5) 140 d9_6 := h9e.trans (by rw [pz_u1_in (r := 2) (q := 140) (by decide)]; rw [pz_u1_in (r := 2) (q := 139) (by decide)]; rw [pz_u1_in (r := 2) (q := 138) (by decide)]; rw [pz_u1_in (r := 2) (q := 134) (by decide)]; rw [pz_u1_top (r := 2)]; rw [pz_u1_in (r := 134) (q := 140) (by decide)]; rw [pz_u1_in (r := 134) (q := 139) (by decide)]; rw [pz_u1_in (r := 134) (q := 138) (by decide)]; rw [pz_u1_top (r := 134)]; rw [pz_u1_in (r := 138) (q := 140) (by decide)]; rw [pz_u1_in (r := 138) (q := 139) (by decide)]; rw [pz_u1_top (r := 138)]; rw [pz_u1_in (r := 139) (q := 140) (by decide)]; rw [pz_u1_top (r := 139)]; rw [pz_u1_top (r := 140)] <;> rfl)
  subst h9x
  replace hci : q_CI k o9_2 n9_4 w9_5 d9_6 (iv 142) (iv 143) (iv 145) (iv 129) (iv 135) := hci
  replace hNK : q_NK k n9_4 w9_5 d9_6 := hNK
  replace ho2 : o9_2 2 = (iv 2) 2 := ho2
  have hz1 := hNK.2.1
  rw [pz_bi_1 hsplit] at hz1
  refine w_getI (v := n9_4 1) is_138 (by decide) rfl ?_
  by_cases h7 : (n9_4 1) ≠ 0
  · first
    | (exfalso; first | omega | contradiction)
    | (have hc8 : pz_R (pz_Sh L) 173 [.inl (n9_4 1)] (pz_u1 (pz_u1 (pz_u1 (pz_u1 (pz_u1 iv 2 o9_2) 134 l9_3) 138 n9_4) 139 w9_5) 140 d9_6) (.inl none) (pz_u1 (pz_u1 (pz_u1 (pz_u1 (pz_u1 iv 2 o9_2) 134 l9_3) 138 n9_4) 139 w9_5) 140 d9_6) := s_X10_needState_y (n9_4 1) (by show (n9_4 1) ≠ 0; exact h7)
       refine w_callv hc8 rfl rfl ?_
       refine w_loc rfl ?_
       refine w_getR (q := 138) is_2 rf_2_4 ?_
       refine w_ret rfl ?_
       first | exact ⟨pz_u1 (pz_u1 (pz_u1 (pz_u1 (pz_u1 iv 2 o9_2) 134 l9_3) 138 n9_4) 139 w9_5) 140 d9_6, ⟨o9_2, l9_3, n9_4, w9_5, d9_6, by rfl, by exact hci, by exact hNK, by exact ho2⟩, lf_r (by rfl) (by rfl)⟩ | (exfalso; omega))
  · first
    | (exfalso; first | omega | contradiction)
    | (have hc9 : pz_R (pz_Sh L) 173 [.inl (n9_4 1)] (pz_u1 (pz_u1 (pz_u1 (pz_u1 (pz_u1 iv 2 o9_2) 134 l9_3) 138 n9_4) 139 w9_5) 140 d9_6) (.inr 0) (pz_u1 (pz_u1 (pz_u1 (pz_u1 (pz_u1 iv 2 o9_2) 134 l9_3) 138 n9_4) 139 w9_5) 140 d9_6) := s_X10_needState_n (n9_4 1) (by show (n9_4 1) = 0; exact Classical.not_not.mp h7)
       refine w_calle hc9 rfl rfl rfl ?_
       first | exact ⟨pz_u1 (pz_u1 (pz_u1 (pz_u1 (pz_u1 iv 2 o9_2) 134 l9_3) 138 n9_4) 139 w9_5) 140 d9_6, ⟨o9_2, l9_3, n9_4, w9_5, d9_6, by rfl, by exact hci, by exact hNK, by exact ho2⟩, lf_e (by rfl)⟩ | (exfalso; omega))

theorem s_X10_soundNet_n {L : Nat} {iv : Nat → Nat → Int} {k : Nat → Int} (hk : q_KR k) (hE : q_cE k (iv 3)) (hB : q_cB k (iv 4) (iv 5) (iv 6) (iv 7) (iv 8) (iv 9)) (hS : q_cS k (iv 10) (iv 11) (iv 12) (iv 13) (iv 14)) (hC : q_cC k (iv 15) (iv 16)) (hL : q_cL k (iv 25)) (hci : q_CI k (iv 2) (iv 138) (iv 139) (iv 140) (iv 142) (iv 143) (iv 145) (iv 129) (iv 135)) (hsplit : ¬ q_con k (fun _ => 0)) : pz_RE (pz_Sh L) 180 [.inr (.inl 2)] iv (.inr 0) (fun iv9 => ∃ (o9 : Nat → Int) (l9 : Nat → Int) (n9 : Nat → Int) (w9 : Nat → Int) (d9 : Nat → Int), iv9 = pz_u1 (pz_u1 (pz_u1 (pz_u1 (pz_u1 iv 2 o9) 134 l9) 138 n9) 139 w9) 140 d9 ∧ (q_CI k o9 n9 w9 d9 (iv 142) (iv 143) (iv 145) (iv 129) (iv 135)) ∧ (o9 2 = (iv 2) 2)) := by
  intro dv cc ss
  have hk0 := hk.r0
  have hE0 := hE
  have hB0 := hB.1
  have hS0 := hS.1
  have hC0 := hC.1
  refine pz_G_mem (iv2 := pz_u1 (pz_u1 (pz_u1 (pz_u1 (pz_u1 iv 2 (iv 2)) 134 (iv 134)) 138 (iv 138)) 139 (iv 139)) 140 (iv 140)) (by exact (((((pz_u1_self iv 2).symm).trans (pz_u1_self (pz_u1 iv 2 (iv 2)) 134).symm).trans (pz_u1_self (pz_u1 (pz_u1 iv 2 (iv 2)) 134 (iv 134)) 138).symm).trans (pz_u1_self (pz_u1 (pz_u1 (pz_u1 iv 2 (iv 2)) 134 (iv 134)) 138 (iv 138)) 139).symm).trans (pz_u1_self (pz_u1 (pz_u1 (pz_u1 (pz_u1 iv 2 (iv 2)) 134 (iv 134)) 138 (iv 138)) 139 (iv 139)) 140).symm) ?_
  show pz_G 180 0 [some (.inr (.inl 2))] [] (pz_Sh L, pz_u1 (pz_u1 (pz_u1 (pz_u1 (pz_u1 iv 2 (iv 2)) 134 (iv 134)) 138 (iv 138)) 139 (iv 139)) 140 (iv 140), dv, cc, ss) (pz_PE (pz_Sh L) (.inr 0) (fun iv9 => ∃ (o9 : Nat → Int) (l9 : Nat → Int) (n9 : Nat → Int) (w9 : Nat → Int) (d9 : Nat → Int), iv9 = pz_u1 (pz_u1 (pz_u1 (pz_u1 (pz_u1 iv 2 o9) 134 l9) 138 n9) 139 w9) 140 d9 ∧ (q_CI k o9 n9 w9 d9 (iv 142) (iv 143) (iv 145) (iv 129) (iv 135)) ∧ (o9 2 = (iv 2) 2)) dv cc ss)
  refine pz_G_of pz_b180_0 ?_
  refine w_loc rfl ?_
  have hc1 := s_X10_knownNet (L := L) (iv := pz_u1 (pz_u1 (pz_u1 (pz_u1 (pz_u1 iv 2 (iv 2)) 134 (iv 134)) 138 (iv 138)) 139 (iv 139)) 140 (iv 140)) (by show q_KR k; exact hk) (by show q_cE k (iv 3); exact hE) (by show q_cB k (iv 4) (iv 5) (iv 6) (iv 7) (iv 8) (iv 9); exact hB) (by show q_cS k (iv 10) (iv 11) (iv 12) (iv 13) (iv 14); exact hS) (by show q_cC k (iv 15) (iv 16); exact hC) (by show q_cL k (iv 25); exact hL) (by show q_CI k (iv 2) (iv 138) (iv 139) (iv 140) (iv 142) (iv 143) (iv 145) (iv 129) (iv 135); exact hci)
  refine w_callE hc1 rfl (pz_cokI is_2 rfl) (fun iv9 h9 => ?_)
  obtain ⟨o9_2, l9_3, n9_4, w9_5, d9_6, h9e, hci, hNK, ho2⟩ := h9
  have h9x : iv9 = pz_u1 (pz_u1 (pz_u1 (pz_u1 (pz_u1 iv 2 o9_2) 134 l9_3) 138 n9_4) 139 w9_5) 140 d9_6 := h9e.trans (by rw [pz_u1_in (r := 2) (q := 140) (by decide)]; rw [pz_u1_in (r := 2) (q := 139) (by decide)]; rw [pz_u1_in (r := 2) (q := 138) (by decide)]; rw [pz_u1_in (r := 2) (q := 134) (by decide)]; rw [pz_u1_top (r := 2)]; rw [pz_u1_in (r := 134) (q := 140) (by decide)]; rw [pz_u1_in (r := 134) (q := 139) (by decide)]; rw [pz_u1_in (r := 134) (q := 138) (by decide)]; rw [pz_u1_top (r := 134)]; rw [pz_u1_in (r := 138) (q := 140) (by decide)]; rw [pz_u1_in (r := 138) (q := 139) (by decide)]; rw [pz_u1_top (r := 138)]; rw [pz_u1_in (r := 139) (q := 140) (by decide)]; rw [pz_u1_top (r := 139)]; rw [pz_u1_top (r := 140)] <;> rfl)
  subst h9x
  replace hci : q_CI k o9_2 n9_4 w9_5 d9_6 (iv 142) (iv 143) (iv 145) (iv 129) (iv 135) := hci
  replace hNK : q_NK k n9_4 w9_5 d9_6 := hNK
  replace ho2 : o9_2 2 = (iv 2) 2 := ho2
  have hz1 := hNK.2.1
  rw [pz_bi_0 hsplit] at hz1
  refine w_getI (v := n9_4 1) is_138 (by decide) rfl ?_
  by_cases h7 : (n9_4 1) ≠ 0
  · first
    | (exfalso; first | omega | contradiction)
    | (have hc8 : pz_R (pz_Sh L) 173 [.inl (n9_4 1)] (pz_u1 (pz_u1 (pz_u1 (pz_u1 (pz_u1 iv 2 o9_2) 134 l9_3) 138 n9_4) 139 w9_5) 140 d9_6) (.inl none) (pz_u1 (pz_u1 (pz_u1 (pz_u1 (pz_u1 iv 2 o9_2) 134 l9_3) 138 n9_4) 139 w9_5) 140 d9_6) := s_X10_needState_y (n9_4 1) (by show (n9_4 1) ≠ 0; exact h7)
       refine w_callv hc8 rfl rfl ?_
       refine w_loc rfl ?_
       refine w_getR (q := 138) is_2 rf_2_4 ?_
       refine w_ret rfl ?_
       first | exact ⟨pz_u1 (pz_u1 (pz_u1 (pz_u1 (pz_u1 iv 2 o9_2) 134 l9_3) 138 n9_4) 139 w9_5) 140 d9_6, ⟨o9_2, l9_3, n9_4, w9_5, d9_6, by rfl, by exact hci, by exact ho2⟩, lf_r (by rfl) (by rfl)⟩ | (exfalso; omega))
  · first
    | (exfalso; first | omega | contradiction)
    | (have hc9 : pz_R (pz_Sh L) 173 [.inl (n9_4 1)] (pz_u1 (pz_u1 (pz_u1 (pz_u1 (pz_u1 iv 2 o9_2) 134 l9_3) 138 n9_4) 139 w9_5) 140 d9_6) (.inr 0) (pz_u1 (pz_u1 (pz_u1 (pz_u1 (pz_u1 iv 2 o9_2) 134 l9_3) 138 n9_4) 139 w9_5) 140 d9_6) := s_X10_needState_n (n9_4 1) (by show (n9_4 1) = 0; exact Classical.not_not.mp h7)
       refine w_calle hc9 rfl rfl rfl ?_
       first | exact ⟨pz_u1 (pz_u1 (pz_u1 (pz_u1 (pz_u1 iv 2 o9_2) 134 l9_3) 138 n9_4) 139 w9_5) 140 d9_6, ⟨o9_2, l9_3, n9_4, w9_5, d9_6, by rfl, by exact hci, by exact ho2⟩, lf_e (by rfl)⟩ | (exfalso; omega))

theorem s_X10_knownReductions {L : Nat} {iv : Nat → Nat → Int} {k : Nat → Int} (hk : q_KR k) (hE : q_cE k (iv 3)) (hB : q_cB k (iv 4) (iv 5) (iv 6) (iv 7) (iv 8) (iv 9)) (hS : q_cS k (iv 10) (iv 11) (iv 12) (iv 13) (iv 14)) (hC : q_cC k (iv 15) (iv 16)) (hL : q_cL k (iv 25)) (hci : q_CI k (iv 2) (iv 138) (iv 139) (iv 140) (iv 142) (iv 143) (iv 145) (iv 129) (iv 135)) : pz_RE (pz_Sh L) 181 [.inr (.inl 2)] iv (.inl (some (.inr (.inl 142)))) (fun iv9 => ∃ (o9 : Nat → Int) (l9 : Nat → Int) (n9 : Nat → Int) (w9 : Nat → Int) (d9 : Nat → Int) (m9 : Nat → Int) (V9 : Nat → Int) (W9 : Nat → Int) (U9 : Nat → Int) (Y9 : Nat → Int) (p9 : Nat → Int) (q9 : Nat → Int) (r9 : Nat → Int), iv9 = pz_u1 (pz_u1 (pz_u1 (pz_u1 (pz_u1 (pz_u1 (pz_u1 (pz_u1 (pz_u1 (pz_u1 (pz_u1 (pz_u1 (pz_u1 iv 2 o9) 134 l9) 138 n9) 139 w9) 140 d9) 142 m9) 143 V9) 144 W9) 145 U9) 146 Y9) 147 p9) 148 q9) 149 r9 ∧ (q_CI k o9 n9 w9 d9 m9 V9 U9 (iv 129) (iv 135)) ∧ (q_RK k m9 V9 U9) ∧ (o9 2 = (iv 2) 2)) := by
  intro dv cc ss
  have hk0 := hk.r0
  have hE0 := hE
  have hB0 := hB.1
  have hS0 := hS.1
  have hC0 := hC.1
  refine pz_G_mem (iv2 := pz_u1 (pz_u1 (pz_u1 (pz_u1 (pz_u1 (pz_u1 (pz_u1 (pz_u1 (pz_u1 (pz_u1 (pz_u1 (pz_u1 (pz_u1 iv 2 (iv 2)) 134 (iv 134)) 138 (iv 138)) 139 (iv 139)) 140 (iv 140)) 142 (iv 142)) 143 (iv 143)) 144 (iv 144)) 145 (iv 145)) 146 (iv 146)) 147 (iv 147)) 148 (iv 148)) 149 (iv 149)) (by exact (((((((((((((pz_u1_self iv 2).symm).trans (pz_u1_self (pz_u1 iv 2 (iv 2)) 134).symm).trans (pz_u1_self (pz_u1 (pz_u1 iv 2 (iv 2)) 134 (iv 134)) 138).symm).trans (pz_u1_self (pz_u1 (pz_u1 (pz_u1 iv 2 (iv 2)) 134 (iv 134)) 138 (iv 138)) 139).symm).trans (pz_u1_self (pz_u1 (pz_u1 (pz_u1 (pz_u1 iv 2 (iv 2)) 134 (iv 134)) 138 (iv 138)) 139 (iv 139)) 140).symm).trans (pz_u1_self (pz_u1 (pz_u1 (pz_u1 (pz_u1 (pz_u1 iv 2 (iv 2)) 134 (iv 134)) 138 (iv 138)) 139 (iv 139)) 140 (iv 140)) 142).symm).trans (pz_u1_self (pz_u1 (pz_u1 (pz_u1 (pz_u1 (pz_u1 (pz_u1 iv 2 (iv 2)) 134 (iv 134)) 138 (iv 138)) 139 (iv 139)) 140 (iv 140)) 142 (iv 142)) 143).symm).trans (pz_u1_self (pz_u1 (pz_u1 (pz_u1 (pz_u1 (pz_u1 (pz_u1 (pz_u1 iv 2 (iv 2)) 134 (iv 134)) 138 (iv 138)) 139 (iv 139)) 140 (iv 140)) 142 (iv 142)) 143 (iv 143)) 144).symm).trans (pz_u1_self (pz_u1 (pz_u1 (pz_u1 (pz_u1 (pz_u1 (pz_u1 (pz_u1 (pz_u1 iv 2 (iv 2)) 134 (iv 134)) 138 (iv 138)) 139 (iv 139)) 140 (iv 140)) 142 (iv 142)) 143 (iv 143)) 144 (iv 144)) 145).symm).trans (pz_u1_self (pz_u1 (pz_u1 (pz_u1 (pz_u1 (pz_u1 (pz_u1 (pz_u1 (pz_u1 (pz_u1 iv 2 (iv 2)) 134 (iv 134)) 138 (iv 138)) 139 (iv 139)) 140 (iv 140)) 142 (iv 142)) 143 (iv 143)) 144 (iv 144)) 145 (iv 145)) 146).symm).trans (pz_u1_self (pz_u1 (pz_u1 (pz_u1 (pz_u1 (pz_u1 (pz_u1 (pz_u1 (pz_u1 (pz_u1 (pz_u1 iv 2 (iv 2)) 134 (iv 134)) 138 (iv 138)) 139 (iv 139)) 140 (iv 140)) 142 (iv 142)) 143 (iv 143)) 144 (iv 144)) 145 (iv 145)) 146 (iv 146)) 147).symm).trans (pz_u1_self (pz_u1 (pz_u1 (pz_u1 (pz_u1 (pz_u1 (pz_u1 (pz_u1 (pz_u1 (pz_u1 (pz_u1 (pz_u1 iv 2 (iv 2)) 134 (iv 134)) 138 (iv 138)) 139 (iv 139)) 140 (iv 140)) 142 (iv 142)) 143 (iv 143)) 144 (iv 144)) 145 (iv 145)) 146 (iv 146)) 147 (iv 147)) 148).symm).trans (pz_u1_self (pz_u1 (pz_u1 (pz_u1 (pz_u1 (pz_u1 (pz_u1 (pz_u1 (pz_u1 (pz_u1 (pz_u1 (pz_u1 (pz_u1 iv 2 (iv 2)) 134 (iv 134)) 138 (iv 138)) 139 (iv 139)) 140 (iv 140)) 142 (iv 142)) 143 (iv 143)) 144 (iv 144)) 145 (iv 145)) 146 (iv 146)) 147 (iv 147)) 148 (iv 148)) 149).symm) ?_
  show pz_G 181 0 [some (.inr (.inl 2))] [] (pz_Sh L, pz_u1 (pz_u1 (pz_u1 (pz_u1 (pz_u1 (pz_u1 (pz_u1 (pz_u1 (pz_u1 (pz_u1 (pz_u1 (pz_u1 (pz_u1 iv 2 (iv 2)) 134 (iv 134)) 138 (iv 138)) 139 (iv 139)) 140 (iv 140)) 142 (iv 142)) 143 (iv 143)) 144 (iv 144)) 145 (iv 145)) 146 (iv 146)) 147 (iv 147)) 148 (iv 148)) 149 (iv 149), dv, cc, ss) (pz_PE (pz_Sh L) (.inl (some (.inr (.inl 142)))) (fun iv9 => ∃ (o9 : Nat → Int) (l9 : Nat → Int) (n9 : Nat → Int) (w9 : Nat → Int) (d9 : Nat → Int) (m9 : Nat → Int) (V9 : Nat → Int) (W9 : Nat → Int) (U9 : Nat → Int) (Y9 : Nat → Int) (p9 : Nat → Int) (q9 : Nat → Int) (r9 : Nat → Int), iv9 = pz_u1 (pz_u1 (pz_u1 (pz_u1 (pz_u1 (pz_u1 (pz_u1 (pz_u1 (pz_u1 (pz_u1 (pz_u1 (pz_u1 (pz_u1 iv 2 o9) 134 l9) 138 n9) 139 w9) 140 d9) 142 m9) 143 V9) 144 W9) 145 U9) 146 Y9) 147 p9) 148 q9) 149 r9 ∧ (q_CI k o9 n9 w9 d9 m9 V9 U9 (iv 129) (iv 135)) ∧ (q_RK k m9 V9 U9) ∧ (o9 2 = (iv 2) 2)) dv cc ss)
  refine pz_G_of pz_b181_0 ?_
  refine w_loc rfl ?_
  refine w_getI (v := (iv 2) 8) is_2 (by decide) rfl ?_
  refine w_zne (fun h1 => ?_) (fun h1 => ?_)
  · refine pz_G_of pz_b181_23 ?_
    refine w_loc rfl ?_
    refine w_getR (q := 142) is_2 rf_2_5 ?_
    refine w_ret rfl ?_
    first | exact ⟨pz_u1 (pz_u1 (pz_u1 (pz_u1 (pz_u1 (pz_u1 (pz_u1 (pz_u1 (pz_u1 (pz_u1 (pz_u1 (pz_u1 (pz_u1 iv 2 (iv 2)) 134 (iv 134)) 138 (iv 138)) 139 (iv 139)) 140 (iv 140)) 142 (iv 142)) 143 (iv 143)) 144 (iv 144)) 145 (iv 145)) 146 (iv 146)) 147 (iv 147)) 148 (iv 148)) 149 (iv 149), ⟨(iv 2), (iv 134), (iv 138), (iv 139), (iv 140), (iv 142), (iv 143), (iv 144), (iv 145), (iv 146), (iv 147), (iv 148), (iv 149), by rfl, by first | exact hci | exact q_CI_rk hci hRK, by first | exact q_CI_r hci (by assumption) | exact hRK, by first | rfl | exact ho2⟩, lf_r (by rfl) (by rfl)⟩ | (exfalso; omega)
  · refine w_loc rfl ?_
    refine w_getR (q := 142) is_2 rf_2_5 ?_
    refine w_loc rfl ?_
    have hc2 := s_X10_knownNet (L := L) (iv := pz_u1 (pz_u1 (pz_u1 (pz_u1 (pz_u1 (pz_u1 (pz_u1 (pz_u1 (pz_u1 (pz_u1 (pz_u1 (pz_u1 (pz_u1 iv 2 (iv 2)) 134 (iv 134)) 138 (iv 138)) 139 (iv 139)) 140 (iv 140)) 142 (iv 142)) 143 (iv 143)) 144 (iv 144)) 145 (iv 145)) 146 (iv 146)) 147 (iv 147)) 148 (iv 148)) 149 (iv 149)) (by show q_KR k; exact hk) (by show q_cE k (iv 3); exact hE) (by show q_cB k (iv 4) (iv 5) (iv 6) (iv 7) (iv 8) (iv 9); exact hB) (by show q_cS k (iv 10) (iv 11) (iv 12) (iv 13) (iv 14); exact hS) (by show q_cC k (iv 15) (iv 16); exact hC) (by show q_cL k (iv 25); exact hL) (by show q_CI k (iv 2) (iv 138) (iv 139) (iv 140) (iv 142) (iv 143) (iv 145) (iv 129) (iv 135); exact hci)
    refine w_callE hc2 rfl (pz_cokI is_2 rfl) (fun iv9 h9 => ?_)
    obtain ⟨o9_3, l9_4, n9_5, w9_6, d9_7, h9e, hci, hNK, ho2⟩ := h9
    have h9x : iv9 = pz_u1 (pz_u1 (pz_u1 (pz_u1 (pz_u1 (pz_u1 (pz_u1 (pz_u1 (pz_u1 (pz_u1 (pz_u1 (pz_u1 (pz_u1 iv 2 o9_3) 134 l9_4) 138 n9_5) 139 w9_6) 140 d9_7) 142 (iv 142)) 143 (iv 143)) 144 (iv 144)) 145 (iv 145)) 146 (iv 146)) 147 (iv 147)) 148 (iv 148)) 149 (iv 149) := h9e.trans (by rw [pz_u1_in (r := 2) (q := 149) (by decide)]; rw [pz_u1_in (r := 2) (q := 148) (by decide)]; rw [pz_u1_in (r := 2) (q := 147) (by decide)]; rw [pz_u1_in (r := 2) (q := 146) (by decide)]; rw [pz_u1_in (r := 2) (q := 145) (by decide)]; rw [pz_u1_in (r := 2) (q := 144) (by decide)]; rw [pz_u1_in (r := 2) (q := 143) (by decide)]; rw [pz_u1_in (r := 2) (q := 142) (by decide)]; rw [pz_u1_in (r := 2) (q := 140) (by decide)]; rw [pz_u1_in (r := 2) (q := 139) (by decide)]; rw [pz_u1_in (r := 2) (q := 138) (by decide)]; rw [pz_u1_in (r := 2) (q := 134) (by decide)]; rw [pz_u1_top (r := 2)]; rw [pz_u1_in (r := 134) (q := 149) (by decide)]; rw [pz_u1_in (r := 134) (q := 148) (by decide)]; rw [pz_u1_in (r := 134) (q := 147) (by decide)]; rw [pz_u1_in (r := 134) (q := 146) (by decide)]; rw [pz_u1_in (r := 134) (q := 145) (by decide)]; rw [pz_u1_in (r := 134) (q := 144) (by decide)]; rw [pz_u1_in (r := 134) (q := 143) (by decide)]; rw [pz_u1_in (r := 134) (q := 142) (by decide)]; rw [pz_u1_in (r := 134) (q := 140) (by decide)]; rw [pz_u1_in (r := 134) (q := 139) (by decide)]; rw [pz_u1_in (r := 134) (q := 138) (by decide)]; rw [pz_u1_top (r := 134)]; rw [pz_u1_in (r := 138) (q := 149) (by decide)]; rw [pz_u1_in (r := 138) (q := 148) (by decide)]; rw [pz_u1_in (r := 138) (q := 147) (by decide)]; rw [pz_u1_in (r := 138) (q := 146) (by decide)]; rw [pz_u1_in (r := 138) (q := 145) (by decide)]; rw [pz_u1_in (r := 138) (q := 144) (by decide)]; rw [pz_u1_in (r := 138) (q := 143) (by decide)]; rw [pz_u1_in (r := 138) (q := 142) (by decide)]; rw [pz_u1_in (r := 138) (q := 140) (by decide)]; rw [pz_u1_in (r := 138) (q := 139) (by decide)]; rw [pz_u1_top (r := 138)]; rw [pz_u1_in (r := 139) (q := 149) (by decide)]; rw [pz_u1_in (r := 139) (q := 148) (by decide)]; rw [pz_u1_in (r := 139) (q := 147) (by decide)]; rw [pz_u1_in (r := 139) (q := 146) (by decide)]; rw [pz_u1_in (r := 139) (q := 145) (by decide)]; rw [pz_u1_in (r := 139) (q := 144) (by decide)]; rw [pz_u1_in (r := 139) (q := 143) (by decide)]; rw [pz_u1_in (r := 139) (q := 142) (by decide)]; rw [pz_u1_in (r := 139) (q := 140) (by decide)]; rw [pz_u1_top (r := 139)]; rw [pz_u1_in (r := 140) (q := 149) (by decide)]; rw [pz_u1_in (r := 140) (q := 148) (by decide)]; rw [pz_u1_in (r := 140) (q := 147) (by decide)]; rw [pz_u1_in (r := 140) (q := 146) (by decide)]; rw [pz_u1_in (r := 140) (q := 145) (by decide)]; rw [pz_u1_in (r := 140) (q := 144) (by decide)]; rw [pz_u1_in (r := 140) (q := 143) (by decide)]; rw [pz_u1_in (r := 140) (q := 142) (by decide)]; rw [pz_u1_top (r := 140)] <;> rfl)
    subst h9x
    replace hci : q_CI k o9_3 n9_5 w9_6 d9_7 (iv 142) (iv 143) (iv 145) (iv 129) (iv 135) := hci
    replace hNK : q_NK k n9_5 w9_6 d9_7 := hNK
    replace ho2 : o9_3 2 = (iv 2) 2 := ho2
    have hc8 := s_X8_run (L := L) (iv := pz_u1 (pz_u1 (pz_u1 (pz_u1 (pz_u1 (pz_u1 (pz_u1 (pz_u1 (pz_u1 (pz_u1 (pz_u1 (pz_u1 (pz_u1 iv 2 o9_3) 134 l9_4) 138 n9_5) 139 w9_6) 140 d9_7) 142 (iv 142)) 143 (iv 143)) 144 (iv 144)) 145 (iv 145)) 146 (iv 146)) 147 (iv 147)) 148 (iv 148)) 149 (iv 149)) (by show q_KR k; exact hk) (by show q_cE k (iv 3); exact hE) (by show q_cS k (iv 10) (iv 11) (iv 12) (iv 13) (iv 14); exact hS) (by show q_cC k (iv 15) (iv 16); exact hC) (by show q_NK k n9_5 w9_6 d9_7; exact hNK)
    refine w_callvE hc8 rfl (pz_cokI is_142 rfl) (fun iv9 h9 => ?_)
    obtain ⟨m9_9, V9_10, W9_11, U9_12, Y9_13, n9_14, w9_15, d9_16, h9e, hRK⟩ := h9
    have h9x : iv9 = pz_u1 (pz_u1 (pz_u1 (pz_u1 (pz_u1 (pz_u1 (pz_u1 (pz_u1 (pz_u1 (pz_u1 (pz_u1 (pz_u1 (pz_u1 iv 2 o9_3) 134 l9_4) 138 n9_5) 139 w9_6) 140 d9_7) 142 m9_9) 143 V9_10) 144 W9_11) 145 U9_12) 146 Y9_13) 147 n9_14) 148 w9_15) 149 d9_16 := h9e.trans (by rw [pz_u1_in (r := 142) (q := 149) (by decide)]; rw [pz_u1_in (r := 142) (q := 148) (by decide)]; rw [pz_u1_in (r := 142) (q := 147) (by decide)]; rw [pz_u1_in (r := 142) (q := 146) (by decide)]; rw [pz_u1_in (r := 142) (q := 145) (by decide)]; rw [pz_u1_in (r := 142) (q := 144) (by decide)]; rw [pz_u1_in (r := 142) (q := 143) (by decide)]; rw [pz_u1_top (r := 142)]; rw [pz_u1_in (r := 143) (q := 149) (by decide)]; rw [pz_u1_in (r := 143) (q := 148) (by decide)]; rw [pz_u1_in (r := 143) (q := 147) (by decide)]; rw [pz_u1_in (r := 143) (q := 146) (by decide)]; rw [pz_u1_in (r := 143) (q := 145) (by decide)]; rw [pz_u1_in (r := 143) (q := 144) (by decide)]; rw [pz_u1_top (r := 143)]; rw [pz_u1_in (r := 144) (q := 149) (by decide)]; rw [pz_u1_in (r := 144) (q := 148) (by decide)]; rw [pz_u1_in (r := 144) (q := 147) (by decide)]; rw [pz_u1_in (r := 144) (q := 146) (by decide)]; rw [pz_u1_in (r := 144) (q := 145) (by decide)]; rw [pz_u1_top (r := 144)]; rw [pz_u1_in (r := 145) (q := 149) (by decide)]; rw [pz_u1_in (r := 145) (q := 148) (by decide)]; rw [pz_u1_in (r := 145) (q := 147) (by decide)]; rw [pz_u1_in (r := 145) (q := 146) (by decide)]; rw [pz_u1_top (r := 145)]; rw [pz_u1_in (r := 146) (q := 149) (by decide)]; rw [pz_u1_in (r := 146) (q := 148) (by decide)]; rw [pz_u1_in (r := 146) (q := 147) (by decide)]; rw [pz_u1_top (r := 146)]; rw [pz_u1_in (r := 147) (q := 149) (by decide)]; rw [pz_u1_in (r := 147) (q := 148) (by decide)]; rw [pz_u1_top (r := 147)]; rw [pz_u1_in (r := 148) (q := 149) (by decide)]; rw [pz_u1_top (r := 148)]; rw [pz_u1_top (r := 149)] <;> rfl)
    subst h9x
    replace hRK : q_RK k m9_9 V9_10 U9_12 := hRK
    refine w_loc rfl ?_
    refine w_pure rfl ?_
    refine w_putIm (iv2 := pz_u1 (pz_u1 (pz_u1 (pz_u1 (pz_u1 (pz_u1 (pz_u1 (pz_u1 (pz_u1 (pz_u1 (pz_u1 (pz_u1 (pz_u1 iv 2 (pz_up o9_3 8 1)) 134 l9_4) 138 n9_5) 139 w9_6) 140 d9_7) 142 m9_9) 143 V9_10) 144 W9_11) 145 U9_12) 146 Y9_13) 147 n9_14) 148 w9_15) 149 d9_16) is_2 (pz_fit1 (Or.inr rfl)) (by rw [pz_u2_in (r := 2) (q := 149) (by decide)]; rw [pz_u2_in (r := 2) (q := 148) (by decide)]; rw [pz_u2_in (r := 2) (q := 147) (by decide)]; rw [pz_u2_in (r := 2) (q := 146) (by decide)]; rw [pz_u2_in (r := 2) (q := 145) (by decide)]; rw [pz_u2_in (r := 2) (q := 144) (by decide)]; rw [pz_u2_in (r := 2) (q := 143) (by decide)]; rw [pz_u2_in (r := 2) (q := 142) (by decide)]; rw [pz_u2_in (r := 2) (q := 140) (by decide)]; rw [pz_u2_in (r := 2) (q := 139) (by decide)]; rw [pz_u2_in (r := 2) (q := 138) (by decide)]; rw [pz_u2_in (r := 2) (q := 134) (by decide)]; rw [pz_u2_top] <;> rfl) ?_
    refine w_nil ?_
    refine pz_G_of pz_b181_23 ?_
    refine w_loc rfl ?_
    refine w_getR (q := 142) is_2 rf_2_5 ?_
    refine w_ret rfl ?_
    first | exact ⟨pz_u1 (pz_u1 (pz_u1 (pz_u1 (pz_u1 (pz_u1 (pz_u1 (pz_u1 (pz_u1 (pz_u1 (pz_u1 (pz_u1 (pz_u1 iv 2 (pz_up o9_3 8 1)) 134 l9_4) 138 n9_5) 139 w9_6) 140 d9_7) 142 m9_9) 143 V9_10) 144 W9_11) 145 U9_12) 146 Y9_13) 147 n9_14) 148 w9_15) 149 d9_16, ⟨(pz_up o9_3 8 1), l9_4, n9_5, w9_6, d9_7, m9_9, V9_10, W9_11, U9_12, Y9_13, n9_14, w9_15, d9_16, by rfl, by first | exact hci | exact q_CI_rk hci hRK, by first | exact q_CI_r hci (by assumption) | exact hRK, by first | rfl | exact ho2⟩, lf_r (by rfl) (by rfl)⟩ | (exfalso; omega)

theorem s_X10_goodReductions_y {L : Nat} {iv : Nat → Nat → Int} {k : Nat → Int} (hk : q_KR k) (hE : q_cE k (iv 3)) (hB : q_cB k (iv 4) (iv 5) (iv 6) (iv 7) (iv 8) (iv 9)) (hS : q_cS k (iv 10) (iv 11) (iv 12) (iv 13) (iv 14)) (hC : q_cC k (iv 15) (iv 16)) (hL : q_cL k (iv 25)) (hci : q_CI k (iv 2) (iv 138) (iv 139) (iv 140) (iv 142) (iv 143) (iv 145) (iv 129) (iv 135)) (hsplit : q_sen k) : pz_RE (pz_Sh L) 182 [.inr (.inl 2)] iv (.inl (some (.inr (.inl 142)))) (fun iv9 => ∃ (o9 : Nat → Int) (l9 : Nat → Int) (n9 : Nat → Int) (w9 : Nat → Int) (d9 : Nat → Int) (m9 : Nat → Int) (V9 : Nat → Int) (W9 : Nat → Int) (U9 : Nat → Int) (Y9 : Nat → Int) (p9 : Nat → Int) (q9 : Nat → Int) (r9 : Nat → Int), iv9 = pz_u1 (pz_u1 (pz_u1 (pz_u1 (pz_u1 (pz_u1 (pz_u1 (pz_u1 (pz_u1 (pz_u1 (pz_u1 (pz_u1 (pz_u1 iv 2 o9) 134 l9) 138 n9) 139 w9) 140 d9) 142 m9) 143 V9) 144 W9) 145 U9) 146 Y9) 147 p9) 148 q9) 149 r9 ∧ (q_CI k o9 n9 w9 d9 m9 V9 U9 (iv 129) (iv 135)) ∧ (q_RK k m9 V9 U9) ∧ (o9 2 = (iv 2) 2)) := by
  intro dv cc ss
  have hk0 := hk.r0
  have hE0 := hE
  have hB0 := hB.1
  have hS0 := hS.1
  have hC0 := hC.1
  refine pz_G_mem (iv2 := pz_u1 (pz_u1 (pz_u1 (pz_u1 (pz_u1 (pz_u1 (pz_u1 (pz_u1 (pz_u1 (pz_u1 (pz_u1 (pz_u1 (pz_u1 iv 2 (iv 2)) 134 (iv 134)) 138 (iv 138)) 139 (iv 139)) 140 (iv 140)) 142 (iv 142)) 143 (iv 143)) 144 (iv 144)) 145 (iv 145)) 146 (iv 146)) 147 (iv 147)) 148 (iv 148)) 149 (iv 149)) (by exact (((((((((((((pz_u1_self iv 2).symm).trans (pz_u1_self (pz_u1 iv 2 (iv 2)) 134).symm).trans (pz_u1_self (pz_u1 (pz_u1 iv 2 (iv 2)) 134 (iv 134)) 138).symm).trans (pz_u1_self (pz_u1 (pz_u1 (pz_u1 iv 2 (iv 2)) 134 (iv 134)) 138 (iv 138)) 139).symm).trans (pz_u1_self (pz_u1 (pz_u1 (pz_u1 (pz_u1 iv 2 (iv 2)) 134 (iv 134)) 138 (iv 138)) 139 (iv 139)) 140).symm).trans (pz_u1_self (pz_u1 (pz_u1 (pz_u1 (pz_u1 (pz_u1 iv 2 (iv 2)) 134 (iv 134)) 138 (iv 138)) 139 (iv 139)) 140 (iv 140)) 142).symm).trans (pz_u1_self (pz_u1 (pz_u1 (pz_u1 (pz_u1 (pz_u1 (pz_u1 iv 2 (iv 2)) 134 (iv 134)) 138 (iv 138)) 139 (iv 139)) 140 (iv 140)) 142 (iv 142)) 143).symm).trans (pz_u1_self (pz_u1 (pz_u1 (pz_u1 (pz_u1 (pz_u1 (pz_u1 (pz_u1 iv 2 (iv 2)) 134 (iv 134)) 138 (iv 138)) 139 (iv 139)) 140 (iv 140)) 142 (iv 142)) 143 (iv 143)) 144).symm).trans (pz_u1_self (pz_u1 (pz_u1 (pz_u1 (pz_u1 (pz_u1 (pz_u1 (pz_u1 (pz_u1 iv 2 (iv 2)) 134 (iv 134)) 138 (iv 138)) 139 (iv 139)) 140 (iv 140)) 142 (iv 142)) 143 (iv 143)) 144 (iv 144)) 145).symm).trans (pz_u1_self (pz_u1 (pz_u1 (pz_u1 (pz_u1 (pz_u1 (pz_u1 (pz_u1 (pz_u1 (pz_u1 iv 2 (iv 2)) 134 (iv 134)) 138 (iv 138)) 139 (iv 139)) 140 (iv 140)) 142 (iv 142)) 143 (iv 143)) 144 (iv 144)) 145 (iv 145)) 146).symm).trans (pz_u1_self (pz_u1 (pz_u1 (pz_u1 (pz_u1 (pz_u1 (pz_u1 (pz_u1 (pz_u1 (pz_u1 (pz_u1 iv 2 (iv 2)) 134 (iv 134)) 138 (iv 138)) 139 (iv 139)) 140 (iv 140)) 142 (iv 142)) 143 (iv 143)) 144 (iv 144)) 145 (iv 145)) 146 (iv 146)) 147).symm).trans (pz_u1_self (pz_u1 (pz_u1 (pz_u1 (pz_u1 (pz_u1 (pz_u1 (pz_u1 (pz_u1 (pz_u1 (pz_u1 (pz_u1 iv 2 (iv 2)) 134 (iv 134)) 138 (iv 138)) 139 (iv 139)) 140 (iv 140)) 142 (iv 142)) 143 (iv 143)) 144 (iv 144)) 145 (iv 145)) 146 (iv 146)) 147 (iv 147)) 148).symm).trans (pz_u1_self (pz_u1 (pz_u1 (pz_u1 (pz_u1 (pz_u1 (pz_u1 (pz_u1 (pz_u1 (pz_u1 (pz_u1 (pz_u1 (pz_u1 iv 2 (iv 2)) 134 (iv 134)) 138 (iv 138)) 139 (iv 139)) 140 (iv 140)) 142 (iv 142)) 143 (iv 143)) 144 (iv 144)) 145 (iv 145)) 146 (iv 146)) 147 (iv 147)) 148 (iv 148)) 149).symm) ?_
  show pz_G 182 0 [some (.inr (.inl 2))] [] (pz_Sh L, pz_u1 (pz_u1 (pz_u1 (pz_u1 (pz_u1 (pz_u1 (pz_u1 (pz_u1 (pz_u1 (pz_u1 (pz_u1 (pz_u1 (pz_u1 iv 2 (iv 2)) 134 (iv 134)) 138 (iv 138)) 139 (iv 139)) 140 (iv 140)) 142 (iv 142)) 143 (iv 143)) 144 (iv 144)) 145 (iv 145)) 146 (iv 146)) 147 (iv 147)) 148 (iv 148)) 149 (iv 149), dv, cc, ss) (pz_PE (pz_Sh L) (.inl (some (.inr (.inl 142)))) (fun iv9 => ∃ (o9 : Nat → Int) (l9 : Nat → Int) (n9 : Nat → Int) (w9 : Nat → Int) (d9 : Nat → Int) (m9 : Nat → Int) (V9 : Nat → Int) (W9 : Nat → Int) (U9 : Nat → Int) (Y9 : Nat → Int) (p9 : Nat → Int) (q9 : Nat → Int) (r9 : Nat → Int), iv9 = pz_u1 (pz_u1 (pz_u1 (pz_u1 (pz_u1 (pz_u1 (pz_u1 (pz_u1 (pz_u1 (pz_u1 (pz_u1 (pz_u1 (pz_u1 iv 2 o9) 134 l9) 138 n9) 139 w9) 140 d9) 142 m9) 143 V9) 144 W9) 145 U9) 146 Y9) 147 p9) 148 q9) 149 r9 ∧ (q_CI k o9 n9 w9 d9 m9 V9 U9 (iv 129) (iv 135)) ∧ (q_RK k m9 V9 U9) ∧ (o9 2 = (iv 2) 2)) dv cc ss)
  refine pz_G_of pz_b182_0 ?_
  refine w_loc rfl ?_
  have hc1 := s_X10_knownReductions (L := L) (iv := pz_u1 (pz_u1 (pz_u1 (pz_u1 (pz_u1 (pz_u1 (pz_u1 (pz_u1 (pz_u1 (pz_u1 (pz_u1 (pz_u1 (pz_u1 iv 2 (iv 2)) 134 (iv 134)) 138 (iv 138)) 139 (iv 139)) 140 (iv 140)) 142 (iv 142)) 143 (iv 143)) 144 (iv 144)) 145 (iv 145)) 146 (iv 146)) 147 (iv 147)) 148 (iv 148)) 149 (iv 149)) (by show q_KR k; exact hk) (by show q_cE k (iv 3); exact hE) (by show q_cB k (iv 4) (iv 5) (iv 6) (iv 7) (iv 8) (iv 9); exact hB) (by show q_cS k (iv 10) (iv 11) (iv 12) (iv 13) (iv 14); exact hS) (by show q_cC k (iv 15) (iv 16); exact hC) (by show q_cL k (iv 25); exact hL) (by show q_CI k (iv 2) (iv 138) (iv 139) (iv 140) (iv 142) (iv 143) (iv 145) (iv 129) (iv 135); exact hci)
  refine w_callE hc1 rfl (pz_cokI is_2 rfl) (fun iv9 h9 => ?_)
  obtain ⟨o9_2, l9_3, n9_4, w9_5, d9_6, m9_7, V9_8, W9_9, U9_10, Y9_11, p9_12, q9_13, r9_14, h9e, hci, hRK, ho2⟩ := h9
  have h9x : iv9 = pz_u1 (pz_u1 (pz_u1 (pz_u1 (pz_u1 (pz_u1 (pz_u1 (pz_u1 (pz_u1 (pz_u1 (pz_u1 (pz_u1 (pz_u1 iv 2 o9_2) 134 l9_3) 138 n9_4) 139 w9_5) 140 d9_6) 142 m9_7) 143 V9_8) 144 W9_9) 145 U9_10) 146 Y9_11) 147 p9_12) 148 q9_13) 149 r9_14 := h9e.trans (by rw [pz_u1_in (r := 2) (q := 149) (by decide)]; rw [pz_u1_in (r := 2) (q := 148) (by decide)]; rw [pz_u1_in (r := 2) (q := 147) (by decide)]; rw [pz_u1_in (r := 2) (q := 146) (by decide)]; rw [pz_u1_in (r := 2) (q := 145) (by decide)]; rw [pz_u1_in (r := 2) (q := 144) (by decide)]; rw [pz_u1_in (r := 2) (q := 143) (by decide)]; rw [pz_u1_in (r := 2) (q := 142) (by decide)]; rw [pz_u1_in (r := 2) (q := 140) (by decide)]; rw [pz_u1_in (r := 2) (q := 139) (by decide)]; rw [pz_u1_in (r := 2) (q := 138) (by decide)]; rw [pz_u1_in (r := 2) (q := 134) (by decide)]; rw [pz_u1_top (r := 2)]; rw [pz_u1_in (r := 134) (q := 149) (by decide)]; rw [pz_u1_in (r := 134) (q := 148) (by decide)]; rw [pz_u1_in (r := 134) (q := 147) (by decide)]; rw [pz_u1_in (r := 134) (q := 146) (by decide)]; rw [pz_u1_in (r := 134) (q := 145) (by decide)]; rw [pz_u1_in (r := 134) (q := 144) (by decide)]; rw [pz_u1_in (r := 134) (q := 143) (by decide)]; rw [pz_u1_in (r := 134) (q := 142) (by decide)]; rw [pz_u1_in (r := 134) (q := 140) (by decide)]; rw [pz_u1_in (r := 134) (q := 139) (by decide)]; rw [pz_u1_in (r := 134) (q := 138) (by decide)]; rw [pz_u1_top (r := 134)]; rw [pz_u1_in (r := 138) (q := 149) (by decide)]; rw [pz_u1_in (r := 138) (q := 148) (by decide)]; rw [pz_u1_in (r := 138) (q := 147) (by decide)]; rw [pz_u1_in (r := 138) (q := 146) (by decide)]; rw [pz_u1_in (r := 138) (q := 145) (by decide)]; rw [pz_u1_in (r := 138) (q := 144) (by decide)]; rw [pz_u1_in (r := 138) (q := 143) (by decide)]; rw [pz_u1_in (r := 138) (q := 142) (by decide)]; rw [pz_u1_in (r := 138) (q := 140) (by decide)]; rw [pz_u1_in (r := 138) (q := 139) (by decide)]; rw [pz_u1_top (r := 138)]; rw [pz_u1_in (r := 139) (q := 149) (by decide)]; rw [pz_u1_in (r := 139) (q := 148) (by decide)]; rw [pz_u1_in (r := 139) (q := 147) (by decide)]; rw [pz_u1_in (r := 139) (q := 146) (by decide)]; rw [pz_u1_in (r := 139) (q := 145) (by decide)]; rw [pz_u1_in (r := 139) (q := 144) (by decide)]; rw [pz_u1_in (r := 139) (q := 143) (by decide)]; rw [pz_u1_in (r := 139) (q := 142) (by decide)]; rw [pz_u1_in (r := 139) (q := 140) (by decide)]; rw [pz_u1_top (r := 139)]; rw [pz_u1_in (r := 140) (q := 149) (by decide)]; rw [pz_u1_in (r := 140) (q := 148) (by decide)]; rw [pz_u1_in (r := 140) (q := 147) (by decide)]; rw [pz_u1_in (r := 140) (q := 146) (by decide)]; rw [pz_u1_in (r := 140) (q := 145) (by decide)]; rw [pz_u1_in (r := 140) (q := 144) (by decide)]; rw [pz_u1_in (r := 140) (q := 143) (by decide)]; rw [pz_u1_in (r := 140) (q := 142) (by decide)]; rw [pz_u1_top (r := 140)]; rw [pz_u1_in (r := 142) (q := 149) (by decide)]; rw [pz_u1_in (r := 142) (q := 148) (by decide)]; rw [pz_u1_in (r := 142) (q := 147) (by decide)]; rw [pz_u1_in (r := 142) (q := 146) (by decide)]; rw [pz_u1_in (r := 142) (q := 145) (by decide)]; rw [pz_u1_in (r := 142) (q := 144) (by decide)]; rw [pz_u1_in (r := 142) (q := 143) (by decide)]; rw [pz_u1_top (r := 142)]; rw [pz_u1_in (r := 143) (q := 149) (by decide)]; rw [pz_u1_in (r := 143) (q := 148) (by decide)]; rw [pz_u1_in (r := 143) (q := 147) (by decide)]; rw [pz_u1_in (r := 143) (q := 146) (by decide)]; rw [pz_u1_in (r := 143) (q := 145) (by decide)]; rw [pz_u1_in (r := 143) (q := 144) (by decide)]; rw [pz_u1_top (r := 143)]; rw [pz_u1_in (r := 144) (q := 149) (by decide)]; rw [pz_u1_in (r := 144) (q := 148) (by decide)]; rw [pz_u1_in (r := 144) (q := 147) (by decide)]; rw [pz_u1_in (r := 144) (q := 146) (by decide)]; rw [pz_u1_in (r := 144) (q := 145) (by decide)]; rw [pz_u1_top (r := 144)]; rw [pz_u1_in (r := 145) (q := 149) (by decide)]; rw [pz_u1_in (r := 145) (q := 148) (by decide)]; rw [pz_u1_in (r := 145) (q := 147) (by decide)]; rw [pz_u1_in (r := 145) (q := 146) (by decide)]; rw [pz_u1_top (r := 145)]; rw [pz_u1_in (r := 146) (q := 149) (by decide)]; rw [pz_u1_in (r := 146) (q := 148) (by decide)]; rw [pz_u1_in (r := 146) (q := 147) (by decide)]; rw [pz_u1_top (r := 146)]; rw [pz_u1_in (r := 147) (q := 149) (by decide)]; rw [pz_u1_in (r := 147) (q := 148) (by decide)]; rw [pz_u1_top (r := 147)]; rw [pz_u1_in (r := 148) (q := 149) (by decide)]; rw [pz_u1_top (r := 148)]; rw [pz_u1_top (r := 149)] <;> rfl)
  subst h9x
  replace hci : q_CI k o9_2 n9_4 w9_5 d9_6 m9_7 V9_8 U9_10 (iv 129) (iv 135) := hci
  replace hRK : q_RK k m9_7 V9_8 U9_10 := hRK
  replace ho2 : o9_2 2 = (iv 2) 2 := ho2
  have hz1 := hRK.1
  rw [pz_bi_1 hsplit] at hz1
  refine w_getI (v := m9_7 1) is_142 (by decide) rfl ?_
  by_cases h15 : (m9_7 1) ≠ 0
  · first
    | (exfalso; first | omega | contradiction)
    | (have hc16 : pz_R (pz_Sh L) 173 [.inl (m9_7 1)] (pz_u1 (pz_u1 (pz_u1 (pz_u1 (pz_u1 (pz_u1 (pz_u1 (pz_u1 (pz_u1 (pz_u1 (pz_u1 (pz_u1 (pz_u1 iv 2 o9_2) 134 l9_3) 138 n9_4) 139 w9_5) 140 d9_6) 142 m9_7) 143 V9_8) 144 W9_9) 145 U9_10) 146 Y9_11) 147 p9_12) 148 q9_13) 149 r9_14) (.inl none) (pz_u1 (pz_u1 (pz_u1 (pz_u1 (pz_u1 (pz_u1 (pz_u1 (pz_u1 (pz_u1 (pz_u1 (pz_u1 (pz_u1 (pz_u1 iv 2 o9_2) 134 l9_3) 138 n9_4) 139 w9_5) 140 d9_6) 142 m9_7) 143 V9_8) 144 W9_9) 145 U9_10) 146 Y9_11) 147 p9_12) 148 q9_13) 149 r9_14) := s_X10_needState_y (m9_7 1) (by show (m9_7 1) ≠ 0; exact h15)
       refine w_callv hc16 rfl rfl ?_
       refine w_loc rfl ?_
       refine w_getR (q := 142) is_2 rf_2_5 ?_
       refine w_ret rfl ?_
       first | exact ⟨pz_u1 (pz_u1 (pz_u1 (pz_u1 (pz_u1 (pz_u1 (pz_u1 (pz_u1 (pz_u1 (pz_u1 (pz_u1 (pz_u1 (pz_u1 iv 2 o9_2) 134 l9_3) 138 n9_4) 139 w9_5) 140 d9_6) 142 m9_7) 143 V9_8) 144 W9_9) 145 U9_10) 146 Y9_11) 147 p9_12) 148 q9_13) 149 r9_14, ⟨o9_2, l9_3, n9_4, w9_5, d9_6, m9_7, V9_8, W9_9, U9_10, Y9_11, p9_12, q9_13, r9_14, by rfl, by exact hci, by exact hRK, by exact ho2⟩, lf_r (by rfl) (by rfl)⟩ | (exfalso; omega))
  · first
    | (exfalso; first | omega | contradiction)
    | (have hc17 : pz_R (pz_Sh L) 173 [.inl (m9_7 1)] (pz_u1 (pz_u1 (pz_u1 (pz_u1 (pz_u1 (pz_u1 (pz_u1 (pz_u1 (pz_u1 (pz_u1 (pz_u1 (pz_u1 (pz_u1 iv 2 o9_2) 134 l9_3) 138 n9_4) 139 w9_5) 140 d9_6) 142 m9_7) 143 V9_8) 144 W9_9) 145 U9_10) 146 Y9_11) 147 p9_12) 148 q9_13) 149 r9_14) (.inr 0) (pz_u1 (pz_u1 (pz_u1 (pz_u1 (pz_u1 (pz_u1 (pz_u1 (pz_u1 (pz_u1 (pz_u1 (pz_u1 (pz_u1 (pz_u1 iv 2 o9_2) 134 l9_3) 138 n9_4) 139 w9_5) 140 d9_6) 142 m9_7) 143 V9_8) 144 W9_9) 145 U9_10) 146 Y9_11) 147 p9_12) 148 q9_13) 149 r9_14) := s_X10_needState_n (m9_7 1) (by show (m9_7 1) = 0; exact Classical.not_not.mp h15)
       refine w_calle hc17 rfl rfl rfl ?_
       first | exact ⟨pz_u1 (pz_u1 (pz_u1 (pz_u1 (pz_u1 (pz_u1 (pz_u1 (pz_u1 (pz_u1 (pz_u1 (pz_u1 (pz_u1 (pz_u1 iv 2 o9_2) 134 l9_3) 138 n9_4) 139 w9_5) 140 d9_6) 142 m9_7) 143 V9_8) 144 W9_9) 145 U9_10) 146 Y9_11) 147 p9_12) 148 q9_13) 149 r9_14, ⟨o9_2, l9_3, n9_4, w9_5, d9_6, m9_7, V9_8, W9_9, U9_10, Y9_11, p9_12, q9_13, r9_14, by rfl, by exact hci, by exact hRK, by exact ho2⟩, lf_e (by rfl)⟩ | (exfalso; omega))

theorem s_X10_goodReductions_n {L : Nat} {iv : Nat → Nat → Int} {k : Nat → Int} (hk : q_KR k) (hE : q_cE k (iv 3)) (hB : q_cB k (iv 4) (iv 5) (iv 6) (iv 7) (iv 8) (iv 9)) (hS : q_cS k (iv 10) (iv 11) (iv 12) (iv 13) (iv 14)) (hC : q_cC k (iv 15) (iv 16)) (hL : q_cL k (iv 25)) (hci : q_CI k (iv 2) (iv 138) (iv 139) (iv 140) (iv 142) (iv 143) (iv 145) (iv 129) (iv 135)) (hsplit : ¬ q_sen k) : pz_RE (pz_Sh L) 182 [.inr (.inl 2)] iv (.inr 0) (fun iv9 => ∃ (o9 : Nat → Int) (l9 : Nat → Int) (n9 : Nat → Int) (w9 : Nat → Int) (d9 : Nat → Int) (m9 : Nat → Int) (V9 : Nat → Int) (W9 : Nat → Int) (U9 : Nat → Int) (Y9 : Nat → Int) (p9 : Nat → Int) (q9 : Nat → Int) (r9 : Nat → Int), iv9 = pz_u1 (pz_u1 (pz_u1 (pz_u1 (pz_u1 (pz_u1 (pz_u1 (pz_u1 (pz_u1 (pz_u1 (pz_u1 (pz_u1 (pz_u1 iv 2 o9) 134 l9) 138 n9) 139 w9) 140 d9) 142 m9) 143 V9) 144 W9) 145 U9) 146 Y9) 147 p9) 148 q9) 149 r9 ∧ (q_CI k o9 n9 w9 d9 m9 V9 U9 (iv 129) (iv 135)) ∧ (o9 2 = (iv 2) 2)) := by
  intro dv cc ss
  have hk0 := hk.r0
  have hE0 := hE
  have hB0 := hB.1
  have hS0 := hS.1
  have hC0 := hC.1
  refine pz_G_mem (iv2 := pz_u1 (pz_u1 (pz_u1 (pz_u1 (pz_u1 (pz_u1 (pz_u1 (pz_u1 (pz_u1 (pz_u1 (pz_u1 (pz_u1 (pz_u1 iv 2 (iv 2)) 134 (iv 134)) 138 (iv 138)) 139 (iv 139)) 140 (iv 140)) 142 (iv 142)) 143 (iv 143)) 144 (iv 144)) 145 (iv 145)) 146 (iv 146)) 147 (iv 147)) 148 (iv 148)) 149 (iv 149)) (by exact (((((((((((((pz_u1_self iv 2).symm).trans (pz_u1_self (pz_u1 iv 2 (iv 2)) 134).symm).trans (pz_u1_self (pz_u1 (pz_u1 iv 2 (iv 2)) 134 (iv 134)) 138).symm).trans (pz_u1_self (pz_u1 (pz_u1 (pz_u1 iv 2 (iv 2)) 134 (iv 134)) 138 (iv 138)) 139).symm).trans (pz_u1_self (pz_u1 (pz_u1 (pz_u1 (pz_u1 iv 2 (iv 2)) 134 (iv 134)) 138 (iv 138)) 139 (iv 139)) 140).symm).trans (pz_u1_self (pz_u1 (pz_u1 (pz_u1 (pz_u1 (pz_u1 iv 2 (iv 2)) 134 (iv 134)) 138 (iv 138)) 139 (iv 139)) 140 (iv 140)) 142).symm).trans (pz_u1_self (pz_u1 (pz_u1 (pz_u1 (pz_u1 (pz_u1 (pz_u1 iv 2 (iv 2)) 134 (iv 134)) 138 (iv 138)) 139 (iv 139)) 140 (iv 140)) 142 (iv 142)) 143).symm).trans (pz_u1_self (pz_u1 (pz_u1 (pz_u1 (pz_u1 (pz_u1 (pz_u1 (pz_u1 iv 2 (iv 2)) 134 (iv 134)) 138 (iv 138)) 139 (iv 139)) 140 (iv 140)) 142 (iv 142)) 143 (iv 143)) 144).symm).trans (pz_u1_self (pz_u1 (pz_u1 (pz_u1 (pz_u1 (pz_u1 (pz_u1 (pz_u1 (pz_u1 iv 2 (iv 2)) 134 (iv 134)) 138 (iv 138)) 139 (iv 139)) 140 (iv 140)) 142 (iv 142)) 143 (iv 143)) 144 (iv 144)) 145).symm).trans (pz_u1_self (pz_u1 (pz_u1 (pz_u1 (pz_u1 (pz_u1 (pz_u1 (pz_u1 (pz_u1 (pz_u1 iv 2 (iv 2)) 134 (iv 134)) 138 (iv 138)) 139 (iv 139)) 140 (iv 140)) 142 (iv 142)) 143 (iv 143)) 144 (iv 144)) 145 (iv 145)) 146).symm).trans (pz_u1_self (pz_u1 (pz_u1 (pz_u1 (pz_u1 (pz_u1 (pz_u1 (pz_u1 (pz_u1 (pz_u1 (pz_u1 iv 2 (iv 2)) 134 (iv 134)) 138 (iv 138)) 139 (iv 139)) 140 (iv 140)) 142 (iv 142)) 143 (iv 143)) 144 (iv 144)) 145 (iv 145)) 146 (iv 146)) 147).symm).trans (pz_u1_self (pz_u1 (pz_u1 (pz_u1 (pz_u1 (pz_u1 (pz_u1 (pz_u1 (pz_u1 (pz_u1 (pz_u1 (pz_u1 iv 2 (iv 2)) 134 (iv 134)) 138 (iv 138)) 139 (iv 139)) 140 (iv 140)) 142 (iv 142)) 143 (iv 143)) 144 (iv 144)) 145 (iv 145)) 146 (iv 146)) 147 (iv 147)) 148).symm).trans (pz_u1_self (pz_u1 (pz_u1 (pz_u1 (pz_u1 (pz_u1 (pz_u1 (pz_u1 (pz_u1 (pz_u1 (pz_u1 (pz_u1 (pz_u1 iv 2 (iv 2)) 134 (iv 134)) 138 (iv 138)) 139 (iv 139)) 140 (iv 140)) 142 (iv 142)) 143 (iv 143)) 144 (iv 144)) 145 (iv 145)) 146 (iv 146)) 147 (iv 147)) 148 (iv 148)) 149).symm) ?_
  show pz_G 182 0 [some (.inr (.inl 2))] [] (pz_Sh L, pz_u1 (pz_u1 (pz_u1 (pz_u1 (pz_u1 (pz_u1 (pz_u1 (pz_u1 (pz_u1 (pz_u1 (pz_u1 (pz_u1 (pz_u1 iv 2 (iv 2)) 134 (iv 134)) 138 (iv 138)) 139 (iv 139)) 140 (iv 140)) 142 (iv 142)) 143 (iv 143)) 144 (iv 144)) 145 (iv 145)) 146 (iv 146)) 147 (iv 147)) 148 (iv 148)) 149 (iv 149), dv, cc, ss) (pz_PE (pz_Sh L) (.inr 0) (fun iv9 => ∃ (o9 : Nat → Int) (l9 : Nat → Int) (n9 : Nat → Int) (w9 : Nat → Int) (d9 : Nat → Int) (m9 : Nat → Int) (V9 : Nat → Int) (W9 : Nat → Int) (U9 : Nat → Int) (Y9 : Nat → Int) (p9 : Nat → Int) (q9 : Nat → Int) (r9 : Nat → Int), iv9 = pz_u1 (pz_u1 (pz_u1 (pz_u1 (pz_u1 (pz_u1 (pz_u1 (pz_u1 (pz_u1 (pz_u1 (pz_u1 (pz_u1 (pz_u1 iv 2 o9) 134 l9) 138 n9) 139 w9) 140 d9) 142 m9) 143 V9) 144 W9) 145 U9) 146 Y9) 147 p9) 148 q9) 149 r9 ∧ (q_CI k o9 n9 w9 d9 m9 V9 U9 (iv 129) (iv 135)) ∧ (o9 2 = (iv 2) 2)) dv cc ss)
  refine pz_G_of pz_b182_0 ?_
  refine w_loc rfl ?_
  have hc1 := s_X10_knownReductions (L := L) (iv := pz_u1 (pz_u1 (pz_u1 (pz_u1 (pz_u1 (pz_u1 (pz_u1 (pz_u1 (pz_u1 (pz_u1 (pz_u1 (pz_u1 (pz_u1 iv 2 (iv 2)) 134 (iv 134)) 138 (iv 138)) 139 (iv 139)) 140 (iv 140)) 142 (iv 142)) 143 (iv 143)) 144 (iv 144)) 145 (iv 145)) 146 (iv 146)) 147 (iv 147)) 148 (iv 148)) 149 (iv 149)) (by show q_KR k; exact hk) (by show q_cE k (iv 3); exact hE) (by show q_cB k (iv 4) (iv 5) (iv 6) (iv 7) (iv 8) (iv 9); exact hB) (by show q_cS k (iv 10) (iv 11) (iv 12) (iv 13) (iv 14); exact hS) (by show q_cC k (iv 15) (iv 16); exact hC) (by show q_cL k (iv 25); exact hL) (by show q_CI k (iv 2) (iv 138) (iv 139) (iv 140) (iv 142) (iv 143) (iv 145) (iv 129) (iv 135); exact hci)
  refine w_callE hc1 rfl (pz_cokI is_2 rfl) (fun iv9 h9 => ?_)
  obtain ⟨o9_2, l9_3, n9_4, w9_5, d9_6, m9_7, V9_8, W9_9, U9_10, Y9_11, p9_12, q9_13, r9_14, h9e, hci, hRK, ho2⟩ := h9
  have h9x : iv9 = pz_u1 (pz_u1 (pz_u1 (pz_u1 (pz_u1 (pz_u1 (pz_u1 (pz_u1 (pz_u1 (pz_u1 (pz_u1 (pz_u1 (pz_u1 iv 2 o9_2) 134 l9_3) 138 n9_4) 139 w9_5) 140 d9_6) 142 m9_7) 143 V9_8) 144 W9_9) 145 U9_10) 146 Y9_11) 147 p9_12) 148 q9_13) 149 r9_14 := h9e.trans (by rw [pz_u1_in (r := 2) (q := 149) (by decide)]; rw [pz_u1_in (r := 2) (q := 148) (by decide)]; rw [pz_u1_in (r := 2) (q := 147) (by decide)]; rw [pz_u1_in (r := 2) (q := 146) (by decide)]; rw [pz_u1_in (r := 2) (q := 145) (by decide)]; rw [pz_u1_in (r := 2) (q := 144) (by decide)]; rw [pz_u1_in (r := 2) (q := 143) (by decide)]; rw [pz_u1_in (r := 2) (q := 142) (by decide)]; rw [pz_u1_in (r := 2) (q := 140) (by decide)]; rw [pz_u1_in (r := 2) (q := 139) (by decide)]; rw [pz_u1_in (r := 2) (q := 138) (by decide)]; rw [pz_u1_in (r := 2) (q := 134) (by decide)]; rw [pz_u1_top (r := 2)]; rw [pz_u1_in (r := 134) (q := 149) (by decide)]; rw [pz_u1_in (r := 134) (q := 148) (by decide)]; rw [pz_u1_in (r := 134) (q := 147) (by decide)]; rw [pz_u1_in (r := 134) (q := 146) (by decide)]; rw [pz_u1_in (r := 134) (q := 145) (by decide)]; rw [pz_u1_in (r := 134) (q := 144) (by decide)]; rw [pz_u1_in (r := 134) (q := 143) (by decide)]; rw [pz_u1_in (r := 134) (q := 142) (by decide)]; rw [pz_u1_in (r := 134) (q := 140) (by decide)]; rw [pz_u1_in (r := 134) (q := 139) (by decide)]; rw [pz_u1_in (r := 134) (q := 138) (by decide)]; rw [pz_u1_top (r := 134)]; rw [pz_u1_in (r := 138) (q := 149) (by decide)]; rw [pz_u1_in (r := 138) (q := 148) (by decide)]; rw [pz_u1_in (r := 138) (q := 147) (by decide)]; rw [pz_u1_in (r := 138) (q := 146) (by decide)]; rw [pz_u1_in (r := 138) (q := 145) (by decide)]; rw [pz_u1_in (r := 138) (q := 144) (by decide)]; rw [pz_u1_in (r := 138) (q := 143) (by decide)]; rw [pz_u1_in (r := 138) (q := 142) (by decide)]; rw [pz_u1_in (r := 138) (q := 140) (by decide)]; rw [pz_u1_in (r := 138) (q := 139) (by decide)]; rw [pz_u1_top (r := 138)]; rw [pz_u1_in (r := 139) (q := 149) (by decide)]; rw [pz_u1_in (r := 139) (q := 148) (by decide)]; rw [pz_u1_in (r := 139) (q := 147) (by decide)]; rw [pz_u1_in (r := 139) (q := 146) (by decide)]; rw [pz_u1_in (r := 139) (q := 145) (by decide)]; rw [pz_u1_in (r := 139) (q := 144) (by decide)]; rw [pz_u1_in (r := 139) (q := 143) (by decide)]; rw [pz_u1_in (r := 139) (q := 142) (by decide)]; rw [pz_u1_in (r := 139) (q := 140) (by decide)]; rw [pz_u1_top (r := 139)]; rw [pz_u1_in (r := 140) (q := 149) (by decide)]; rw [pz_u1_in (r := 140) (q := 148) (by decide)]; rw [pz_u1_in (r := 140) (q := 147) (by decide)]; rw [pz_u1_in (r := 140) (q := 146) (by decide)]; rw [pz_u1_in (r := 140) (q := 145) (by decide)]; rw [pz_u1_in (r := 140) (q := 144) (by decide)]; rw [pz_u1_in (r := 140) (q := 143) (by decide)]; rw [pz_u1_in (r := 140) (q := 142) (by decide)]; rw [pz_u1_top (r := 140)]; rw [pz_u1_in (r := 142) (q := 149) (by decide)]; rw [pz_u1_in (r := 142) (q := 148) (by decide)]; rw [pz_u1_in (r := 142) (q := 147) (by decide)]; rw [pz_u1_in (r := 142) (q := 146) (by decide)]; rw [pz_u1_in (r := 142) (q := 145) (by decide)]; rw [pz_u1_in (r := 142) (q := 144) (by decide)]; rw [pz_u1_in (r := 142) (q := 143) (by decide)]; rw [pz_u1_top (r := 142)]; rw [pz_u1_in (r := 143) (q := 149) (by decide)]; rw [pz_u1_in (r := 143) (q := 148) (by decide)]; rw [pz_u1_in (r := 143) (q := 147) (by decide)]; rw [pz_u1_in (r := 143) (q := 146) (by decide)]; rw [pz_u1_in (r := 143) (q := 145) (by decide)]; rw [pz_u1_in (r := 143) (q := 144) (by decide)]; rw [pz_u1_top (r := 143)]; rw [pz_u1_in (r := 144) (q := 149) (by decide)]; rw [pz_u1_in (r := 144) (q := 148) (by decide)]; rw [pz_u1_in (r := 144) (q := 147) (by decide)]; rw [pz_u1_in (r := 144) (q := 146) (by decide)]; rw [pz_u1_in (r := 144) (q := 145) (by decide)]; rw [pz_u1_top (r := 144)]; rw [pz_u1_in (r := 145) (q := 149) (by decide)]; rw [pz_u1_in (r := 145) (q := 148) (by decide)]; rw [pz_u1_in (r := 145) (q := 147) (by decide)]; rw [pz_u1_in (r := 145) (q := 146) (by decide)]; rw [pz_u1_top (r := 145)]; rw [pz_u1_in (r := 146) (q := 149) (by decide)]; rw [pz_u1_in (r := 146) (q := 148) (by decide)]; rw [pz_u1_in (r := 146) (q := 147) (by decide)]; rw [pz_u1_top (r := 146)]; rw [pz_u1_in (r := 147) (q := 149) (by decide)]; rw [pz_u1_in (r := 147) (q := 148) (by decide)]; rw [pz_u1_top (r := 147)]; rw [pz_u1_in (r := 148) (q := 149) (by decide)]; rw [pz_u1_top (r := 148)]; rw [pz_u1_top (r := 149)] <;> rfl)
  subst h9x
  replace hci : q_CI k o9_2 n9_4 w9_5 d9_6 m9_7 V9_8 U9_10 (iv 129) (iv 135) := hci
  replace hRK : q_RK k m9_7 V9_8 U9_10 := hRK
  replace ho2 : o9_2 2 = (iv 2) 2 := ho2
  have hz1 := hRK.1
  rw [pz_bi_0 hsplit] at hz1
  refine w_getI (v := m9_7 1) is_142 (by decide) rfl ?_
  by_cases h15 : (m9_7 1) ≠ 0
  · first
    | (exfalso; first | omega | contradiction)
    | (have hc16 : pz_R (pz_Sh L) 173 [.inl (m9_7 1)] (pz_u1 (pz_u1 (pz_u1 (pz_u1 (pz_u1 (pz_u1 (pz_u1 (pz_u1 (pz_u1 (pz_u1 (pz_u1 (pz_u1 (pz_u1 iv 2 o9_2) 134 l9_3) 138 n9_4) 139 w9_5) 140 d9_6) 142 m9_7) 143 V9_8) 144 W9_9) 145 U9_10) 146 Y9_11) 147 p9_12) 148 q9_13) 149 r9_14) (.inl none) (pz_u1 (pz_u1 (pz_u1 (pz_u1 (pz_u1 (pz_u1 (pz_u1 (pz_u1 (pz_u1 (pz_u1 (pz_u1 (pz_u1 (pz_u1 iv 2 o9_2) 134 l9_3) 138 n9_4) 139 w9_5) 140 d9_6) 142 m9_7) 143 V9_8) 144 W9_9) 145 U9_10) 146 Y9_11) 147 p9_12) 148 q9_13) 149 r9_14) := s_X10_needState_y (m9_7 1) (by show (m9_7 1) ≠ 0; exact h15)
       refine w_callv hc16 rfl rfl ?_
       refine w_loc rfl ?_
       refine w_getR (q := 142) is_2 rf_2_5 ?_
       refine w_ret rfl ?_
       first | exact ⟨pz_u1 (pz_u1 (pz_u1 (pz_u1 (pz_u1 (pz_u1 (pz_u1 (pz_u1 (pz_u1 (pz_u1 (pz_u1 (pz_u1 (pz_u1 iv 2 o9_2) 134 l9_3) 138 n9_4) 139 w9_5) 140 d9_6) 142 m9_7) 143 V9_8) 144 W9_9) 145 U9_10) 146 Y9_11) 147 p9_12) 148 q9_13) 149 r9_14, ⟨o9_2, l9_3, n9_4, w9_5, d9_6, m9_7, V9_8, W9_9, U9_10, Y9_11, p9_12, q9_13, r9_14, by rfl, by exact hci, by exact ho2⟩, lf_r (by rfl) (by rfl)⟩ | (exfalso; omega))
  · first
    | (exfalso; first | omega | contradiction)
    | (have hc17 : pz_R (pz_Sh L) 173 [.inl (m9_7 1)] (pz_u1 (pz_u1 (pz_u1 (pz_u1 (pz_u1 (pz_u1 (pz_u1 (pz_u1 (pz_u1 (pz_u1 (pz_u1 (pz_u1 (pz_u1 iv 2 o9_2) 134 l9_3) 138 n9_4) 139 w9_5) 140 d9_6) 142 m9_7) 143 V9_8) 144 W9_9) 145 U9_10) 146 Y9_11) 147 p9_12) 148 q9_13) 149 r9_14) (.inr 0) (pz_u1 (pz_u1 (pz_u1 (pz_u1 (pz_u1 (pz_u1 (pz_u1 (pz_u1 (pz_u1 (pz_u1 (pz_u1 (pz_u1 (pz_u1 iv 2 o9_2) 134 l9_3) 138 n9_4) 139 w9_5) 140 d9_6) 142 m9_7) 143 V9_8) 144 W9_9) 145 U9_10) 146 Y9_11) 147 p9_12) 148 q9_13) 149 r9_14) := s_X10_needState_n (m9_7 1) (by show (m9_7 1) = 0; exact Classical.not_not.mp h15)
       refine w_calle hc17 rfl rfl rfl ?_
       first | exact ⟨pz_u1 (pz_u1 (pz_u1 (pz_u1 (pz_u1 (pz_u1 (pz_u1 (pz_u1 (pz_u1 (pz_u1 (pz_u1 (pz_u1 (pz_u1 iv 2 o9_2) 134 l9_3) 138 n9_4) 139 w9_5) 140 d9_6) 142 m9_7) 143 V9_8) 144 W9_9) 145 U9_10) 146 Y9_11) 147 p9_12) 148 q9_13) 149 r9_14, ⟨o9_2, l9_3, n9_4, w9_5, d9_6, m9_7, V9_8, W9_9, U9_10, Y9_11, p9_12, q9_13, r9_14, by rfl, by exact hci, by exact ho2⟩, lf_e (by rfl)⟩ | (exfalso; omega))

theorem s_X10_needConflict_y {L : Nat} {iv : Nat → Nat → Int} {k : Nat → Int} (hk : q_KR k) (hE : q_cE k (iv 3)) (hB : q_cB k (iv 4) (iv 5) (iv 6) (iv 7) (iv 8) (iv 9)) (hS : q_cS k (iv 10) (iv 11) (iv 12) (iv 13) (iv 14)) (hC : q_cC k (iv 15) (iv 16)) (hL : q_cL k (iv 25)) (hci : q_CI k (iv 2) (iv 138) (iv 139) (iv 140) (iv 142) (iv 143) (iv 145) (iv 129) (iv 135)) (hsplit : ¬ q_con k (fun _ => 0)) : pz_RE (pz_Sh L) 175 [.inr (.inl 2)] iv (.inl none) (fun iv9 => ∃ (o9 : Nat → Int) (j9 : Nat → Int) (a9 : Nat → Int) (b9 : Nat → Int) (c9 : Nat → Int) (l9 : Nat → Int) (e9 : Nat → Int) (n9 : Nat → Int) (w9 : Nat → Int) (d9 : Nat → Int), iv9 = pz_u1 (pz_u1 (pz_u1 (pz_u1 (pz_u1 (pz_u1 (pz_u1 (pz_u1 (pz_u1 (pz_u1 iv 2 o9) 129 j9) 130 a9) 131 b9) 132 c9) 134 l9) 135 e9) 138 n9) 139 w9) 140 d9 ∧ (q_CI k o9 n9 w9 d9 (iv 142) (iv 143) (iv 145) j9 e9) ∧ (q_CK k j9 e9) ∧ (o9 2 = (iv 2) 2)) := by
  intro dv cc ss
  have hk0 := hk.r0
  have hE0 := hE
  have hB0 := hB.1
  have hS0 := hS.1
  have hC0 := hC.1
  refine pz_G_mem (iv2 := pz_u1 (pz_u1 (pz_u1 (pz_u1 (pz_u1 (pz_u1 (pz_u1 (pz_u1 (pz_u1 (pz_u1 iv 2 (iv 2)) 129 (iv 129)) 130 (iv 130)) 131 (iv 131)) 132 (iv 132)) 134 (iv 134)) 135 (iv 135)) 138 (iv 138)) 139 (iv 139)) 140 (iv 140)) (by exact ((((((((((pz_u1_self iv 2).symm).trans (pz_u1_self (pz_u1 iv 2 (iv 2)) 129).symm).trans (pz_u1_self (pz_u1 (pz_u1 iv 2 (iv 2)) 129 (iv 129)) 130).symm).trans (pz_u1_self (pz_u1 (pz_u1 (pz_u1 iv 2 (iv 2)) 129 (iv 129)) 130 (iv 130)) 131).symm).trans (pz_u1_self (pz_u1 (pz_u1 (pz_u1 (pz_u1 iv 2 (iv 2)) 129 (iv 129)) 130 (iv 130)) 131 (iv 131)) 132).symm).trans (pz_u1_self (pz_u1 (pz_u1 (pz_u1 (pz_u1 (pz_u1 iv 2 (iv 2)) 129 (iv 129)) 130 (iv 130)) 131 (iv 131)) 132 (iv 132)) 134).symm).trans (pz_u1_self (pz_u1 (pz_u1 (pz_u1 (pz_u1 (pz_u1 (pz_u1 iv 2 (iv 2)) 129 (iv 129)) 130 (iv 130)) 131 (iv 131)) 132 (iv 132)) 134 (iv 134)) 135).symm).trans (pz_u1_self (pz_u1 (pz_u1 (pz_u1 (pz_u1 (pz_u1 (pz_u1 (pz_u1 iv 2 (iv 2)) 129 (iv 129)) 130 (iv 130)) 131 (iv 131)) 132 (iv 132)) 134 (iv 134)) 135 (iv 135)) 138).symm).trans (pz_u1_self (pz_u1 (pz_u1 (pz_u1 (pz_u1 (pz_u1 (pz_u1 (pz_u1 (pz_u1 iv 2 (iv 2)) 129 (iv 129)) 130 (iv 130)) 131 (iv 131)) 132 (iv 132)) 134 (iv 134)) 135 (iv 135)) 138 (iv 138)) 139).symm).trans (pz_u1_self (pz_u1 (pz_u1 (pz_u1 (pz_u1 (pz_u1 (pz_u1 (pz_u1 (pz_u1 (pz_u1 iv 2 (iv 2)) 129 (iv 129)) 130 (iv 130)) 131 (iv 131)) 132 (iv 132)) 134 (iv 134)) 135 (iv 135)) 138 (iv 138)) 139 (iv 139)) 140).symm) ?_
  show pz_G 175 0 [some (.inr (.inl 2))] [] (pz_Sh L, pz_u1 (pz_u1 (pz_u1 (pz_u1 (pz_u1 (pz_u1 (pz_u1 (pz_u1 (pz_u1 (pz_u1 iv 2 (iv 2)) 129 (iv 129)) 130 (iv 130)) 131 (iv 131)) 132 (iv 132)) 134 (iv 134)) 135 (iv 135)) 138 (iv 138)) 139 (iv 139)) 140 (iv 140), dv, cc, ss) (pz_PE (pz_Sh L) (.inl none) (fun iv9 => ∃ (o9 : Nat → Int) (j9 : Nat → Int) (a9 : Nat → Int) (b9 : Nat → Int) (c9 : Nat → Int) (l9 : Nat → Int) (e9 : Nat → Int) (n9 : Nat → Int) (w9 : Nat → Int) (d9 : Nat → Int), iv9 = pz_u1 (pz_u1 (pz_u1 (pz_u1 (pz_u1 (pz_u1 (pz_u1 (pz_u1 (pz_u1 (pz_u1 iv 2 o9) 129 j9) 130 a9) 131 b9) 132 c9) 134 l9) 135 e9) 138 n9) 139 w9) 140 d9 ∧ (q_CI k o9 n9 w9 d9 (iv 142) (iv 143) (iv 145) j9 e9) ∧ (q_CK k j9 e9) ∧ (o9 2 = (iv 2) 2)) dv cc ss)
  refine pz_G_of pz_b175_0 ?_
  refine w_loc rfl ?_
  have hc1 := s_X10_knownNet (L := L) (iv := pz_u1 (pz_u1 (pz_u1 (pz_u1 (pz_u1 (pz_u1 (pz_u1 (pz_u1 (pz_u1 (pz_u1 iv 2 (iv 2)) 129 (iv 129)) 130 (iv 130)) 131 (iv 131)) 132 (iv 132)) 134 (iv 134)) 135 (iv 135)) 138 (iv 138)) 139 (iv 139)) 140 (iv 140)) (by show q_KR k; exact hk) (by show q_cE k (iv 3); exact hE) (by show q_cB k (iv 4) (iv 5) (iv 6) (iv 7) (iv 8) (iv 9); exact hB) (by show q_cS k (iv 10) (iv 11) (iv 12) (iv 13) (iv 14); exact hS) (by show q_cC k (iv 15) (iv 16); exact hC) (by show q_cL k (iv 25); exact hL) (by show q_CI k (iv 2) (iv 138) (iv 139) (iv 140) (iv 142) (iv 143) (iv 145) (iv 129) (iv 135); exact hci)
  refine w_callE hc1 rfl (pz_cokI is_2 rfl) (fun iv9 h9 => ?_)
  obtain ⟨o9_2, l9_3, n9_4, w9_5, d9_6, h9e, hci, hNK, ho2⟩ := h9
  have h9x : iv9 = pz_u1 (pz_u1 (pz_u1 (pz_u1 (pz_u1 (pz_u1 (pz_u1 (pz_u1 (pz_u1 (pz_u1 iv 2 o9_2) 129 (iv 129)) 130 (iv 130)) 131 (iv 131)) 132 (iv 132)) 134 l9_3) 135 (iv 135)) 138 n9_4) 139 w9_5) 140 d9_6 := h9e.trans (by rw [pz_u1_in (r := 2) (q := 140) (by decide)]; rw [pz_u1_in (r := 2) (q := 139) (by decide)]; rw [pz_u1_in (r := 2) (q := 138) (by decide)]; rw [pz_u1_in (r := 2) (q := 135) (by decide)]; rw [pz_u1_in (r := 2) (q := 134) (by decide)]; rw [pz_u1_in (r := 2) (q := 132) (by decide)]; rw [pz_u1_in (r := 2) (q := 131) (by decide)]; rw [pz_u1_in (r := 2) (q := 130) (by decide)]; rw [pz_u1_in (r := 2) (q := 129) (by decide)]; rw [pz_u1_top (r := 2)]; rw [pz_u1_in (r := 134) (q := 140) (by decide)]; rw [pz_u1_in (r := 134) (q := 139) (by decide)]; rw [pz_u1_in (r := 134) (q := 138) (by decide)]; rw [pz_u1_in (r := 134) (q := 135) (by decide)]; rw [pz_u1_top (r := 134)]; rw [pz_u1_in (r := 138) (q := 140) (by decide)]; rw [pz_u1_in (r := 138) (q := 139) (by decide)]; rw [pz_u1_top (r := 138)]; rw [pz_u1_in (r := 139) (q := 140) (by decide)]; rw [pz_u1_top (r := 139)]; rw [pz_u1_top (r := 140)] <;> rfl)
  subst h9x
  replace hci : q_CI k o9_2 n9_4 w9_5 d9_6 (iv 142) (iv 143) (iv 145) (iv 129) (iv 135) := hci
  replace hNK : q_NK k n9_4 w9_5 d9_6 := hNK
  replace ho2 : o9_2 2 = (iv 2) 2 := ho2
  have hz1 := hNK.2.1
  rw [pz_bi_0 hsplit] at hz1
  refine w_getI (v := n9_4 1) is_138 (by decide) rfl ?_
  refine w_zne (fun h7 => ?_) (fun h7 => ?_)
  · first
    | (exfalso; first | omega | contradiction)
    | (refine pz_G_of pz_b175_14 ?_
       refine w_pure rfl ?_
       refine w_nil ?_
       refine pz_G_of pz_b175_15 ?_
       have hc8 : pz_R (pz_Sh L) 173 [.inl 0] (pz_u1 (pz_u1 (pz_u1 (pz_u1 (pz_u1 (pz_u1 (pz_u1 (pz_u1 (pz_u1 (pz_u1 iv 2 o9_2) 129 (iv 129)) 130 (iv 130)) 131 (iv 131)) 132 (iv 132)) 134 l9_3) 135 (iv 135)) 138 n9_4) 139 w9_5) 140 d9_6) (.inr 0) (pz_u1 (pz_u1 (pz_u1 (pz_u1 (pz_u1 (pz_u1 (pz_u1 (pz_u1 (pz_u1 (pz_u1 iv 2 o9_2) 129 (iv 129)) 130 (iv 130)) 131 (iv 131)) 132 (iv 132)) 134 l9_3) 135 (iv 135)) 138 n9_4) 139 w9_5) 140 d9_6) := s_X10_needState_n 0 (by show 0 = 0; omega)
       refine w_calle hc8 rfl rfl rfl ?_
       first | exact ⟨pz_u1 (pz_u1 (pz_u1 (pz_u1 (pz_u1 (pz_u1 (pz_u1 (pz_u1 (pz_u1 (pz_u1 iv 2 o9_2) 129 (iv 129)) 130 (iv 130)) 131 (iv 131)) 132 (iv 132)) 134 l9_3) 135 (iv 135)) 138 n9_4) 139 w9_5) 140 d9_6, ⟨o9_2, (iv 129), (iv 130), (iv 131), (iv 132), l9_3, (iv 135), n9_4, w9_5, d9_6, by rfl, by first | exact hci | exact q_CI_ck hci ⟨hsplit, hcn, hcf⟩, by first | exact q_CI_c hci (by assumption) | exact ⟨hsplit, hcn, hcf⟩, by first | exact ho2⟩, lf_e (by rfl)⟩ | (exfalso; omega))
  · first
    | (exfalso; first | omega | contradiction)
    | (refine w_pure rfl ?_
       refine w_goto ?_
       refine pz_G_of pz_b175_15 ?_
       have hc9 : pz_R (pz_Sh L) 173 [.inl 1] (pz_u1 (pz_u1 (pz_u1 (pz_u1 (pz_u1 (pz_u1 (pz_u1 (pz_u1 (pz_u1 (pz_u1 iv 2 o9_2) 129 (iv 129)) 130 (iv 130)) 131 (iv 131)) 132 (iv 132)) 134 l9_3) 135 (iv 135)) 138 n9_4) 139 w9_5) 140 d9_6) (.inl none) (pz_u1 (pz_u1 (pz_u1 (pz_u1 (pz_u1 (pz_u1 (pz_u1 (pz_u1 (pz_u1 (pz_u1 iv 2 o9_2) 129 (iv 129)) 130 (iv 130)) 131 (iv 131)) 132 (iv 132)) 134 l9_3) 135 (iv 135)) 138 n9_4) 139 w9_5) 140 d9_6) := s_X10_needState_y 1 (by show 1 ≠ 0; omega)
       refine w_callv hc9 rfl rfl ?_
       refine w_loc rfl ?_
       refine w_getI (v := o9_2 9) is_2 (by decide) rfl ?_
       refine w_zne (fun h10 => ?_) (fun h10 => ?_)
       · first
         | (exfalso; first | omega | contradiction)
         | (refine pz_G_of pz_b175_37 ?_
            refine w_vret ?_
            first | exact ⟨pz_u1 (pz_u1 (pz_u1 (pz_u1 (pz_u1 (pz_u1 (pz_u1 (pz_u1 (pz_u1 (pz_u1 iv 2 o9_2) 129 (iv 129)) 130 (iv 130)) 131 (iv 131)) 132 (iv 132)) 134 l9_3) 135 (iv 135)) 138 n9_4) 139 w9_5) 140 d9_6, ⟨o9_2, (iv 129), (iv 130), (iv 131), (iv 132), l9_3, (iv 135), n9_4, w9_5, d9_6, by rfl, by first | exact hci | exact q_CI_ck hci ⟨hsplit, hcn, hcf⟩, by first | exact q_CI_c hci (by assumption) | exact ⟨hsplit, hcn, hcf⟩, by first | exact ho2⟩, lf_v (by rfl)⟩ | (exfalso; omega))
       · first
         | (exfalso; first | omega | contradiction)
         | (refine w_loc rfl ?_
            refine w_getR (q := 129) is_2 rf_2_3 ?_
            have hc11 := s_X4_findConflict (L := L) (iv := pz_u1 (pz_u1 (pz_u1 (pz_u1 (pz_u1 (pz_u1 (pz_u1 (pz_u1 (pz_u1 (pz_u1 iv 2 o9_2) 129 (iv 129)) 130 (iv 130)) 131 (iv 131)) 132 (iv 132)) 134 l9_3) 135 (iv 135)) 138 n9_4) 139 w9_5) 140 d9_6) (by show q_KR k; exact hk) (by show q_cE k (iv 3); exact hE) (by show q_cB k (iv 4) (iv 5) (iv 6) (iv 7) (iv 8) (iv 9); exact hB) (by show q_cS k (iv 10) (iv 11) (iv 12) (iv 13) (iv 14); exact hS) (by show q_cC k (iv 15) (iv 16); exact hC) (by show q_cL k (iv 25); exact hL)
            refine w_callvE hc11 rfl (pz_cokI is_129 rfl) (fun iv9 h9 => ?_)
            obtain ⟨j9_12, n9_13, w9_14, d9_15, l9_16, c9_17, h9e, hcn, hcf⟩ := h9
            have h9x : iv9 = pz_u1 (pz_u1 (pz_u1 (pz_u1 (pz_u1 (pz_u1 (pz_u1 (pz_u1 (pz_u1 (pz_u1 iv 2 o9_2) 129 j9_12) 130 n9_13) 131 w9_14) 132 d9_15) 134 l9_16) 135 c9_17) 138 n9_4) 139 w9_5) 140 d9_6 := h9e.trans (by rw [pz_u1_in (r := 129) (q := 140) (by decide)]; rw [pz_u1_in (r := 129) (q := 139) (by decide)]; rw [pz_u1_in (r := 129) (q := 138) (by decide)]; rw [pz_u1_in (r := 129) (q := 135) (by decide)]; rw [pz_u1_in (r := 129) (q := 134) (by decide)]; rw [pz_u1_in (r := 129) (q := 132) (by decide)]; rw [pz_u1_in (r := 129) (q := 131) (by decide)]; rw [pz_u1_in (r := 129) (q := 130) (by decide)]; rw [pz_u1_top (r := 129)]; rw [pz_u1_in (r := 130) (q := 140) (by decide)]; rw [pz_u1_in (r := 130) (q := 139) (by decide)]; rw [pz_u1_in (r := 130) (q := 138) (by decide)]; rw [pz_u1_in (r := 130) (q := 135) (by decide)]; rw [pz_u1_in (r := 130) (q := 134) (by decide)]; rw [pz_u1_in (r := 130) (q := 132) (by decide)]; rw [pz_u1_in (r := 130) (q := 131) (by decide)]; rw [pz_u1_top (r := 130)]; rw [pz_u1_in (r := 131) (q := 140) (by decide)]; rw [pz_u1_in (r := 131) (q := 139) (by decide)]; rw [pz_u1_in (r := 131) (q := 138) (by decide)]; rw [pz_u1_in (r := 131) (q := 135) (by decide)]; rw [pz_u1_in (r := 131) (q := 134) (by decide)]; rw [pz_u1_in (r := 131) (q := 132) (by decide)]; rw [pz_u1_top (r := 131)]; rw [pz_u1_in (r := 132) (q := 140) (by decide)]; rw [pz_u1_in (r := 132) (q := 139) (by decide)]; rw [pz_u1_in (r := 132) (q := 138) (by decide)]; rw [pz_u1_in (r := 132) (q := 135) (by decide)]; rw [pz_u1_in (r := 132) (q := 134) (by decide)]; rw [pz_u1_top (r := 132)]; rw [pz_u1_in (r := 134) (q := 140) (by decide)]; rw [pz_u1_in (r := 134) (q := 139) (by decide)]; rw [pz_u1_in (r := 134) (q := 138) (by decide)]; rw [pz_u1_in (r := 134) (q := 135) (by decide)]; rw [pz_u1_top (r := 134)]; rw [pz_u1_in (r := 135) (q := 140) (by decide)]; rw [pz_u1_in (r := 135) (q := 139) (by decide)]; rw [pz_u1_in (r := 135) (q := 138) (by decide)]; rw [pz_u1_top (r := 135)] <;> rfl)
            subst h9x
            replace hcn : j9_12 3 = q_cnt (q_kp k) (k 1) := hcn
            replace hcf : q_cfl k c9_17 (k 1) := hcf
            refine w_loc rfl ?_
            refine w_pure rfl ?_
            refine w_putIm (iv2 := pz_u1 (pz_u1 (pz_u1 (pz_u1 (pz_u1 (pz_u1 (pz_u1 (pz_u1 (pz_u1 (pz_u1 iv 2 (pz_up o9_2 9 1)) 129 j9_12) 130 n9_13) 131 w9_14) 132 d9_15) 134 l9_16) 135 c9_17) 138 n9_4) 139 w9_5) 140 d9_6) is_2 (pz_fit1 (Or.inr rfl)) (by rw [pz_u2_in (r := 2) (q := 140) (by decide)]; rw [pz_u2_in (r := 2) (q := 139) (by decide)]; rw [pz_u2_in (r := 2) (q := 138) (by decide)]; rw [pz_u2_in (r := 2) (q := 135) (by decide)]; rw [pz_u2_in (r := 2) (q := 134) (by decide)]; rw [pz_u2_in (r := 2) (q := 132) (by decide)]; rw [pz_u2_in (r := 2) (q := 131) (by decide)]; rw [pz_u2_in (r := 2) (q := 130) (by decide)]; rw [pz_u2_in (r := 2) (q := 129) (by decide)]; rw [pz_u2_top] <;> rfl) ?_
            refine w_nil ?_
            refine pz_G_of pz_b175_37 ?_
            refine w_vret ?_
            first | exact ⟨pz_u1 (pz_u1 (pz_u1 (pz_u1 (pz_u1 (pz_u1 (pz_u1 (pz_u1 (pz_u1 (pz_u1 iv 2 (pz_up o9_2 9 1)) 129 j9_12) 130 n9_13) 131 w9_14) 132 d9_15) 134 l9_16) 135 c9_17) 138 n9_4) 139 w9_5) 140 d9_6, ⟨(pz_up o9_2 9 1), j9_12, n9_13, w9_14, d9_15, l9_16, c9_17, n9_4, w9_5, d9_6, by rfl, by first | exact hci | exact q_CI_ck hci ⟨hsplit, hcn, hcf⟩, by first | exact q_CI_c hci (by assumption) | exact ⟨hsplit, hcn, hcf⟩, by first | exact ho2⟩, lf_v (by rfl)⟩ | (exfalso; omega)))

theorem s_X10_needConflict_n {L : Nat} {iv : Nat → Nat → Int} {k : Nat → Int} (hk : q_KR k) (hE : q_cE k (iv 3)) (hB : q_cB k (iv 4) (iv 5) (iv 6) (iv 7) (iv 8) (iv 9)) (hS : q_cS k (iv 10) (iv 11) (iv 12) (iv 13) (iv 14)) (hC : q_cC k (iv 15) (iv 16)) (hL : q_cL k (iv 25)) (hci : q_CI k (iv 2) (iv 138) (iv 139) (iv 140) (iv 142) (iv 143) (iv 145) (iv 129) (iv 135)) (hsplit : ¬ ¬ q_con k (fun _ => 0)) : pz_RE (pz_Sh L) 175 [.inr (.inl 2)] iv (.inr 0) (fun iv9 => ∃ (o9 : Nat → Int) (j9 : Nat → Int) (a9 : Nat → Int) (b9 : Nat → Int) (c9 : Nat → Int) (l9 : Nat → Int) (e9 : Nat → Int) (n9 : Nat → Int) (w9 : Nat → Int) (d9 : Nat → Int), iv9 = pz_u1 (pz_u1 (pz_u1 (pz_u1 (pz_u1 (pz_u1 (pz_u1 (pz_u1 (pz_u1 (pz_u1 iv 2 o9) 129 j9) 130 a9) 131 b9) 132 c9) 134 l9) 135 e9) 138 n9) 139 w9) 140 d9 ∧ (q_CI k o9 n9 w9 d9 (iv 142) (iv 143) (iv 145) j9 e9) ∧ (o9 2 = (iv 2) 2)) := by
  intro dv cc ss
  have hk0 := hk.r0
  have hE0 := hE
  have hB0 := hB.1
  have hS0 := hS.1
  have hC0 := hC.1
  replace hsplit := Classical.not_not.mp hsplit
  refine pz_G_mem (iv2 := pz_u1 (pz_u1 (pz_u1 (pz_u1 (pz_u1 (pz_u1 (pz_u1 (pz_u1 (pz_u1 (pz_u1 iv 2 (iv 2)) 129 (iv 129)) 130 (iv 130)) 131 (iv 131)) 132 (iv 132)) 134 (iv 134)) 135 (iv 135)) 138 (iv 138)) 139 (iv 139)) 140 (iv 140)) (by exact ((((((((((pz_u1_self iv 2).symm).trans (pz_u1_self (pz_u1 iv 2 (iv 2)) 129).symm).trans (pz_u1_self (pz_u1 (pz_u1 iv 2 (iv 2)) 129 (iv 129)) 130).symm).trans (pz_u1_self (pz_u1 (pz_u1 (pz_u1 iv 2 (iv 2)) 129 (iv 129)) 130 (iv 130)) 131).symm).trans (pz_u1_self (pz_u1 (pz_u1 (pz_u1 (pz_u1 iv 2 (iv 2)) 129 (iv 129)) 130 (iv 130)) 131 (iv 131)) 132).symm).trans (pz_u1_self (pz_u1 (pz_u1 (pz_u1 (pz_u1 (pz_u1 iv 2 (iv 2)) 129 (iv 129)) 130 (iv 130)) 131 (iv 131)) 132 (iv 132)) 134).symm).trans (pz_u1_self (pz_u1 (pz_u1 (pz_u1 (pz_u1 (pz_u1 (pz_u1 iv 2 (iv 2)) 129 (iv 129)) 130 (iv 130)) 131 (iv 131)) 132 (iv 132)) 134 (iv 134)) 135).symm).trans (pz_u1_self (pz_u1 (pz_u1 (pz_u1 (pz_u1 (pz_u1 (pz_u1 (pz_u1 iv 2 (iv 2)) 129 (iv 129)) 130 (iv 130)) 131 (iv 131)) 132 (iv 132)) 134 (iv 134)) 135 (iv 135)) 138).symm).trans (pz_u1_self (pz_u1 (pz_u1 (pz_u1 (pz_u1 (pz_u1 (pz_u1 (pz_u1 (pz_u1 iv 2 (iv 2)) 129 (iv 129)) 130 (iv 130)) 131 (iv 131)) 132 (iv 132)) 134 (iv 134)) 135 (iv 135)) 138 (iv 138)) 139).symm).trans (pz_u1_self (pz_u1 (pz_u1 (pz_u1 (pz_u1 (pz_u1 (pz_u1 (pz_u1 (pz_u1 (pz_u1 iv 2 (iv 2)) 129 (iv 129)) 130 (iv 130)) 131 (iv 131)) 132 (iv 132)) 134 (iv 134)) 135 (iv 135)) 138 (iv 138)) 139 (iv 139)) 140).symm) ?_
  show pz_G 175 0 [some (.inr (.inl 2))] [] (pz_Sh L, pz_u1 (pz_u1 (pz_u1 (pz_u1 (pz_u1 (pz_u1 (pz_u1 (pz_u1 (pz_u1 (pz_u1 iv 2 (iv 2)) 129 (iv 129)) 130 (iv 130)) 131 (iv 131)) 132 (iv 132)) 134 (iv 134)) 135 (iv 135)) 138 (iv 138)) 139 (iv 139)) 140 (iv 140), dv, cc, ss) (pz_PE (pz_Sh L) (.inr 0) (fun iv9 => ∃ (o9 : Nat → Int) (j9 : Nat → Int) (a9 : Nat → Int) (b9 : Nat → Int) (c9 : Nat → Int) (l9 : Nat → Int) (e9 : Nat → Int) (n9 : Nat → Int) (w9 : Nat → Int) (d9 : Nat → Int), iv9 = pz_u1 (pz_u1 (pz_u1 (pz_u1 (pz_u1 (pz_u1 (pz_u1 (pz_u1 (pz_u1 (pz_u1 iv 2 o9) 129 j9) 130 a9) 131 b9) 132 c9) 134 l9) 135 e9) 138 n9) 139 w9) 140 d9 ∧ (q_CI k o9 n9 w9 d9 (iv 142) (iv 143) (iv 145) j9 e9) ∧ (o9 2 = (iv 2) 2)) dv cc ss)
  refine pz_G_of pz_b175_0 ?_
  refine w_loc rfl ?_
  have hc1 := s_X10_knownNet (L := L) (iv := pz_u1 (pz_u1 (pz_u1 (pz_u1 (pz_u1 (pz_u1 (pz_u1 (pz_u1 (pz_u1 (pz_u1 iv 2 (iv 2)) 129 (iv 129)) 130 (iv 130)) 131 (iv 131)) 132 (iv 132)) 134 (iv 134)) 135 (iv 135)) 138 (iv 138)) 139 (iv 139)) 140 (iv 140)) (by show q_KR k; exact hk) (by show q_cE k (iv 3); exact hE) (by show q_cB k (iv 4) (iv 5) (iv 6) (iv 7) (iv 8) (iv 9); exact hB) (by show q_cS k (iv 10) (iv 11) (iv 12) (iv 13) (iv 14); exact hS) (by show q_cC k (iv 15) (iv 16); exact hC) (by show q_cL k (iv 25); exact hL) (by show q_CI k (iv 2) (iv 138) (iv 139) (iv 140) (iv 142) (iv 143) (iv 145) (iv 129) (iv 135); exact hci)
  refine w_callE hc1 rfl (pz_cokI is_2 rfl) (fun iv9 h9 => ?_)
  obtain ⟨o9_2, l9_3, n9_4, w9_5, d9_6, h9e, hci, hNK, ho2⟩ := h9
  have h9x : iv9 = pz_u1 (pz_u1 (pz_u1 (pz_u1 (pz_u1 (pz_u1 (pz_u1 (pz_u1 (pz_u1 (pz_u1 iv 2 o9_2) 129 (iv 129)) 130 (iv 130)) 131 (iv 131)) 132 (iv 132)) 134 l9_3) 135 (iv 135)) 138 n9_4) 139 w9_5) 140 d9_6 := h9e.trans (by rw [pz_u1_in (r := 2) (q := 140) (by decide)]; rw [pz_u1_in (r := 2) (q := 139) (by decide)]; rw [pz_u1_in (r := 2) (q := 138) (by decide)]; rw [pz_u1_in (r := 2) (q := 135) (by decide)]; rw [pz_u1_in (r := 2) (q := 134) (by decide)]; rw [pz_u1_in (r := 2) (q := 132) (by decide)]; rw [pz_u1_in (r := 2) (q := 131) (by decide)]; rw [pz_u1_in (r := 2) (q := 130) (by decide)]; rw [pz_u1_in (r := 2) (q := 129) (by decide)]; rw [pz_u1_top (r := 2)]; rw [pz_u1_in (r := 134) (q := 140) (by decide)]; rw [pz_u1_in (r := 134) (q := 139) (by decide)]; rw [pz_u1_in (r := 134) (q := 138) (by decide)]; rw [pz_u1_in (r := 134) (q := 135) (by decide)]; rw [pz_u1_top (r := 134)]; rw [pz_u1_in (r := 138) (q := 140) (by decide)]; rw [pz_u1_in (r := 138) (q := 139) (by decide)]; rw [pz_u1_top (r := 138)]; rw [pz_u1_in (r := 139) (q := 140) (by decide)]; rw [pz_u1_top (r := 139)]; rw [pz_u1_top (r := 140)] <;> rfl)
  subst h9x
  replace hci : q_CI k o9_2 n9_4 w9_5 d9_6 (iv 142) (iv 143) (iv 145) (iv 129) (iv 135) := hci
  replace hNK : q_NK k n9_4 w9_5 d9_6 := hNK
  replace ho2 : o9_2 2 = (iv 2) 2 := ho2
  have hz1 := hNK.2.1
  rw [pz_bi_1 hsplit] at hz1
  refine w_getI (v := n9_4 1) is_138 (by decide) rfl ?_
  refine w_zne (fun h7 => ?_) (fun h7 => ?_)
  · first
    | (exfalso; first | omega | contradiction)
    | (refine pz_G_of pz_b175_14 ?_
       refine w_pure rfl ?_
       refine w_nil ?_
       refine pz_G_of pz_b175_15 ?_
       have hc8 : pz_R (pz_Sh L) 173 [.inl 0] (pz_u1 (pz_u1 (pz_u1 (pz_u1 (pz_u1 (pz_u1 (pz_u1 (pz_u1 (pz_u1 (pz_u1 iv 2 o9_2) 129 (iv 129)) 130 (iv 130)) 131 (iv 131)) 132 (iv 132)) 134 l9_3) 135 (iv 135)) 138 n9_4) 139 w9_5) 140 d9_6) (.inr 0) (pz_u1 (pz_u1 (pz_u1 (pz_u1 (pz_u1 (pz_u1 (pz_u1 (pz_u1 (pz_u1 (pz_u1 iv 2 o9_2) 129 (iv 129)) 130 (iv 130)) 131 (iv 131)) 132 (iv 132)) 134 l9_3) 135 (iv 135)) 138 n9_4) 139 w9_5) 140 d9_6) := s_X10_needState_n 0 (by show 0 = 0; omega)
       refine w_calle hc8 rfl rfl rfl ?_
       first | exact ⟨pz_u1 (pz_u1 (pz_u1 (pz_u1 (pz_u1 (pz_u1 (pz_u1 (pz_u1 (pz_u1 (pz_u1 iv 2 o9_2) 129 (iv 129)) 130 (iv 130)) 131 (iv 131)) 132 (iv 132)) 134 l9_3) 135 (iv 135)) 138 n9_4) 139 w9_5) 140 d9_6, ⟨o9_2, (iv 129), (iv 130), (iv 131), (iv 132), l9_3, (iv 135), n9_4, w9_5, d9_6, by rfl, by exact hci, by exact ho2⟩, lf_e (by rfl)⟩ | (exfalso; omega))
  · first
    | (exfalso; first | omega | contradiction)
    | (refine w_pure rfl ?_
       refine w_goto ?_
       refine pz_G_of pz_b175_15 ?_
       have hc9 : pz_R (pz_Sh L) 173 [.inl 1] (pz_u1 (pz_u1 (pz_u1 (pz_u1 (pz_u1 (pz_u1 (pz_u1 (pz_u1 (pz_u1 (pz_u1 iv 2 o9_2) 129 (iv 129)) 130 (iv 130)) 131 (iv 131)) 132 (iv 132)) 134 l9_3) 135 (iv 135)) 138 n9_4) 139 w9_5) 140 d9_6) (.inl none) (pz_u1 (pz_u1 (pz_u1 (pz_u1 (pz_u1 (pz_u1 (pz_u1 (pz_u1 (pz_u1 (pz_u1 iv 2 o9_2) 129 (iv 129)) 130 (iv 130)) 131 (iv 131)) 132 (iv 132)) 134 l9_3) 135 (iv 135)) 138 n9_4) 139 w9_5) 140 d9_6) := s_X10_needState_y 1 (by show 1 ≠ 0; omega)
       refine w_callv hc9 rfl rfl ?_
       refine w_loc rfl ?_
       refine w_getI (v := o9_2 9) is_2 (by decide) rfl ?_
       refine w_zne (fun h10 => ?_) (fun h10 => ?_)
       · first
         | (exfalso; first | omega | contradiction)
         | (refine pz_G_of pz_b175_37 ?_
            refine w_vret ?_
            first | exact ⟨pz_u1 (pz_u1 (pz_u1 (pz_u1 (pz_u1 (pz_u1 (pz_u1 (pz_u1 (pz_u1 (pz_u1 iv 2 o9_2) 129 (iv 129)) 130 (iv 130)) 131 (iv 131)) 132 (iv 132)) 134 l9_3) 135 (iv 135)) 138 n9_4) 139 w9_5) 140 d9_6, ⟨o9_2, (iv 129), (iv 130), (iv 131), (iv 132), l9_3, (iv 135), n9_4, w9_5, d9_6, by rfl, by exact hci, by exact ho2⟩, lf_v (by rfl)⟩ | (exfalso; omega))
       · first
         | (exfalso; first | omega | contradiction)
         | (refine w_loc rfl ?_
            refine w_getR (q := 129) is_2 rf_2_3 ?_
            have hc11 := s_X4_findConflict (L := L) (iv := pz_u1 (pz_u1 (pz_u1 (pz_u1 (pz_u1 (pz_u1 (pz_u1 (pz_u1 (pz_u1 (pz_u1 iv 2 o9_2) 129 (iv 129)) 130 (iv 130)) 131 (iv 131)) 132 (iv 132)) 134 l9_3) 135 (iv 135)) 138 n9_4) 139 w9_5) 140 d9_6) (by show q_KR k; exact hk) (by show q_cE k (iv 3); exact hE) (by show q_cB k (iv 4) (iv 5) (iv 6) (iv 7) (iv 8) (iv 9); exact hB) (by show q_cS k (iv 10) (iv 11) (iv 12) (iv 13) (iv 14); exact hS) (by show q_cC k (iv 15) (iv 16); exact hC) (by show q_cL k (iv 25); exact hL)
            refine w_callvE hc11 rfl (pz_cokI is_129 rfl) (fun iv9 h9 => ?_)
            obtain ⟨j9_12, n9_13, w9_14, d9_15, l9_16, c9_17, h9e, hcn, hcf⟩ := h9
            have h9x : iv9 = pz_u1 (pz_u1 (pz_u1 (pz_u1 (pz_u1 (pz_u1 (pz_u1 (pz_u1 (pz_u1 (pz_u1 iv 2 o9_2) 129 j9_12) 130 n9_13) 131 w9_14) 132 d9_15) 134 l9_16) 135 c9_17) 138 n9_4) 139 w9_5) 140 d9_6 := h9e.trans (by rw [pz_u1_in (r := 129) (q := 140) (by decide)]; rw [pz_u1_in (r := 129) (q := 139) (by decide)]; rw [pz_u1_in (r := 129) (q := 138) (by decide)]; rw [pz_u1_in (r := 129) (q := 135) (by decide)]; rw [pz_u1_in (r := 129) (q := 134) (by decide)]; rw [pz_u1_in (r := 129) (q := 132) (by decide)]; rw [pz_u1_in (r := 129) (q := 131) (by decide)]; rw [pz_u1_in (r := 129) (q := 130) (by decide)]; rw [pz_u1_top (r := 129)]; rw [pz_u1_in (r := 130) (q := 140) (by decide)]; rw [pz_u1_in (r := 130) (q := 139) (by decide)]; rw [pz_u1_in (r := 130) (q := 138) (by decide)]; rw [pz_u1_in (r := 130) (q := 135) (by decide)]; rw [pz_u1_in (r := 130) (q := 134) (by decide)]; rw [pz_u1_in (r := 130) (q := 132) (by decide)]; rw [pz_u1_in (r := 130) (q := 131) (by decide)]; rw [pz_u1_top (r := 130)]; rw [pz_u1_in (r := 131) (q := 140) (by decide)]; rw [pz_u1_in (r := 131) (q := 139) (by decide)]; rw [pz_u1_in (r := 131) (q := 138) (by decide)]; rw [pz_u1_in (r := 131) (q := 135) (by decide)]; rw [pz_u1_in (r := 131) (q := 134) (by decide)]; rw [pz_u1_in (r := 131) (q := 132) (by decide)]; rw [pz_u1_top (r := 131)]; rw [pz_u1_in (r := 132) (q := 140) (by decide)]; rw [pz_u1_in (r := 132) (q := 139) (by decide)]; rw [pz_u1_in (r := 132) (q := 138) (by decide)]; rw [pz_u1_in (r := 132) (q := 135) (by decide)]; rw [pz_u1_in (r := 132) (q := 134) (by decide)]; rw [pz_u1_top (r := 132)]; rw [pz_u1_in (r := 134) (q := 140) (by decide)]; rw [pz_u1_in (r := 134) (q := 139) (by decide)]; rw [pz_u1_in (r := 134) (q := 138) (by decide)]; rw [pz_u1_in (r := 134) (q := 135) (by decide)]; rw [pz_u1_top (r := 134)]; rw [pz_u1_in (r := 135) (q := 140) (by decide)]; rw [pz_u1_in (r := 135) (q := 139) (by decide)]; rw [pz_u1_in (r := 135) (q := 138) (by decide)]; rw [pz_u1_top (r := 135)] <;> rfl)
            subst h9x
            replace hcn : j9_12 3 = q_cnt (q_kp k) (k 1) := hcn
            replace hcf : q_cfl k c9_17 (k 1) := hcf
            refine w_loc rfl ?_
            refine w_pure rfl ?_
            refine w_putIm (iv2 := pz_u1 (pz_u1 (pz_u1 (pz_u1 (pz_u1 (pz_u1 (pz_u1 (pz_u1 (pz_u1 (pz_u1 iv 2 (pz_up o9_2 9 1)) 129 j9_12) 130 n9_13) 131 w9_14) 132 d9_15) 134 l9_16) 135 c9_17) 138 n9_4) 139 w9_5) 140 d9_6) is_2 (pz_fit1 (Or.inr rfl)) (by rw [pz_u2_in (r := 2) (q := 140) (by decide)]; rw [pz_u2_in (r := 2) (q := 139) (by decide)]; rw [pz_u2_in (r := 2) (q := 138) (by decide)]; rw [pz_u2_in (r := 2) (q := 135) (by decide)]; rw [pz_u2_in (r := 2) (q := 134) (by decide)]; rw [pz_u2_in (r := 2) (q := 132) (by decide)]; rw [pz_u2_in (r := 2) (q := 131) (by decide)]; rw [pz_u2_in (r := 2) (q := 130) (by decide)]; rw [pz_u2_in (r := 2) (q := 129) (by decide)]; rw [pz_u2_top] <;> rfl) ?_
            refine w_nil ?_
            refine pz_G_of pz_b175_37 ?_
            refine w_vret ?_
            first | exact ⟨pz_u1 (pz_u1 (pz_u1 (pz_u1 (pz_u1 (pz_u1 (pz_u1 (pz_u1 (pz_u1 (pz_u1 iv 2 (pz_up o9_2 9 1)) 129 j9_12) 130 n9_13) 131 w9_14) 132 d9_15) 134 l9_16) 135 c9_17) 138 n9_4) 139 w9_5) 140 d9_6, ⟨(pz_up o9_2 9 1), j9_12, n9_13, w9_14, d9_15, l9_16, c9_17, n9_4, w9_5, d9_6, by rfl, by exact hci, by exact ho2⟩, lf_v (by rfl)⟩ | (exfalso; omega)))
