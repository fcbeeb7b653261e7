
theorem s_X10_tellBestOrder_n {L : Nat} {iv : Nat → Nat → Int} {k : Nat → Int} (hk : q_KR k) (hE : q_cE k (iv 3)) (hB : q_cB k (iv 4) (iv 5) (iv 6) (iv 7) (iv 8) (iv 9)) (hS : q_cS k (iv 10) (iv 11) (iv 12) (iv 13) (iv 14)) (hC : q_cC k (iv 15) (iv 16)) (hA : q_cA k (iv 17) (iv 18) (iv 19) (iv 20)) (hO : q_cO k (iv 22) (iv 23) (iv 24)) (hL : q_cL k (iv 25)) (hP : q_cP k (iv 27)) (hci : q_CI k (iv 2) (iv 138) (iv 139) (iv 140) (iv 142) (iv 143) (iv 145) (iv 129) (iv 135)) (hcon : q_con k (fun _ => 0)) (hsplit : ¬ q_lvTk k) : pz_RE (pz_Sh L) 183 [.inr (.inl 2)] iv (.inl (some (.inl 0))) (fun iv9 => ∃ (o9 : Nat → Int) (l9 : Nat → Int) (n9 : Nat → Int) (w9 : Nat → Int) (d9 : Nat → Int), iv9 = pz_u1 (pz_u1 (pz_u1 (pz_u1 (pz_u1 iv 2 o9) 134 l9) 138 n9) 139 w9) 140 d9 ∧ (q_CI k o9 n9 w9 d9 (iv 142) (iv 143) (iv 145) (iv 129) (iv 135)) ∧ (o9 2 = (iv 2) 2)) := by
  intro dv cc ss
  have hk0 := hk.r0
  have hE0 := hE
  have hB0 := hB.1
  have hS0 := hS.1
  have hC0 := hC.1
  have hA0 := hA.1
  have hbo : k 1 ≠ 40 → q_if (q_pk k (q_D k) = -1) (-1) (q_lv k (q_D k)) = -1 := by
    intro h
    by_cases h2 : q_pk k (q_D k) = -1
    · exact q_if_t h2
    · rw [q_if_f h2]; exact Classical.not_not.mp (fun h3 => hsplit ⟨h, h2, h3⟩)
  refine pz_G_mem (iv2 := pz_u1 (pz_u1 (pz_u1 (pz_u1 (pz_u1 iv 2 (iv 2)) 134 (iv 134)) 138 (iv 138)) 139 (iv 139)) 140 (iv 140)) (by exact (((((pz_u1_self iv 2).symm).trans (pz_u1_self (pz_u1 iv 2 (iv 2)) 134).symm).trans (pz_u1_self (pz_u1 (pz_u1 iv 2 (iv 2)) 134 (iv 134)) 138).symm).trans (pz_u1_self (pz_u1 (pz_u1 (pz_u1 iv 2 (iv 2)) 134 (iv 134)) 138 (iv 138)) 139).symm).trans (pz_u1_self (pz_u1 (pz_u1 (pz_u1 (pz_u1 iv 2 (iv 2)) 134 (iv 134)) 138 (iv 138)) 139 (iv 139)) 140).symm) ?_
  show pz_G 183 0 [some (.inr (.inl 2)), none, none, none, none] [] (pz_Sh L, pz_u1 (pz_u1 (pz_u1 (pz_u1 (pz_u1 iv 2 (iv 2)) 134 (iv 134)) 138 (iv 138)) 139 (iv 139)) 140 (iv 140), dv, cc, ss) (pz_PE (pz_Sh L) (.inl (some (.inl 0))) (fun iv9 => ∃ (o9 : Nat → Int) (l9 : Nat → Int) (n9 : Nat → Int) (w9 : Nat → Int) (d9 : Nat → Int), iv9 = pz_u1 (pz_u1 (pz_u1 (pz_u1 (pz_u1 iv 2 o9) 134 l9) 138 n9) 139 w9) 140 d9 ∧ (q_CI k o9 n9 w9 d9 (iv 142) (iv 143) (iv 145) (iv 129) (iv 135)) ∧ (o9 2 = (iv 2) 2)) dv cc ss)
  refine pz_G_of pz_b183_0 ?_
  refine w_loc rfl ?_
  refine w_getR (q := 3) is_2 rf_2_0 ?_
  refine w_getR (q := 4) is_3 rf_3_1 ?_
  refine w_getI (v := (iv 4) 0) is_4 (by decide) rfl ?_
  refine w_pure rfl ?_
  refine w_ilt (fun h1 => ?_) (fun h1 => ?_)
  · first
    | (exfalso; first | omega | contradiction)
    | (refine pz_G_of pz_b183_17 ?_
       refine w_loc rfl ?_
       refine w_getR (q := 3) is_2 rf_2_0 ?_
       refine w_getR (q := 17) is_3 rf_3_4 ?_
       refine w_loc (ls' := [some (.inr (.inl 2)), some (.inr (.inl 17)), none, none, none]) (st' := []) rfl ?_
       refine w_loc rfl ?_
       refine w_loc rfl ?_
       have hc2 : pz_RE (pz_Sh L) 179 [.inr (.inl 2)] (pz_u1 (pz_u1 (pz_u1 (pz_u1 (pz_u1 iv 2 (iv 2)) 134 (iv 134)) 138 (iv 138)) 139 (iv 139)) 140 (iv 140)) (.inl (some (.inr (.inl 138)))) _ := s_X10_knownNet (L := L) (iv := pz_u1 (pz_u1 (pz_u1 (pz_u1 (pz_u1 iv 2 (iv 2)) 134 (iv 134)) 138 (iv 138)) 139 (iv 139)) 140 (iv 140)) (by show q_KR k; exact hk) (by show q_cE k (iv 3); exact hE) (by show q_cB k (iv 4) (iv 5) (iv 6) (iv 7) (iv 8) (iv 9); exact hB) (by show q_cS k (iv 10) (iv 11) (iv 12) (iv 13) (iv 14); exact hS) (by show q_cC k (iv 15) (iv 16); exact hC) (by show q_cL k (iv 25); exact hL) (by show q_CI k (iv 2) (iv 138) (iv 139) (iv 140) (iv 142) (iv 143) (iv 145) (iv 129) (iv 135); exact hci)
       refine w_callE hc2 rfl (pz_cokI is_2 rfl) (fun iv9 h9 => ?_)
       obtain ⟨o9_3, l9_4, n9_5, w9_6, d9_7, h9e, hci, hNK, ho2⟩ := h9
       have h9x : iv9 = pz_u1 (pz_u1 (pz_u1 (pz_u1 (pz_u1 iv 2 o9_3) 134 l9_4) 138 n9_5) 139 w9_6) 140 d9_7 := h9e.trans (by rw [pz_u1_in (r := 2) (q := 140) (by decide)]; rw [pz_u1_in (r := 2) (q := 139) (by decide)]; rw [pz_u1_in (r := 2) (q := 138) (by decide)]; rw [pz_u1_in (r := 2) (q := 134) (by decide)]; rw [pz_u1_top (r := 2)]; rw [pz_u1_in (r := 134) (q := 140) (by decide)]; rw [pz_u1_in (r := 134) (q := 139) (by decide)]; rw [pz_u1_in (r := 134) (q := 138) (by decide)]; rw [pz_u1_top (r := 134)]; rw [pz_u1_in (r := 138) (q := 140) (by decide)]; rw [pz_u1_in (r := 138) (q := 139) (by decide)]; rw [pz_u1_top (r := 138)]; rw [pz_u1_in (r := 139) (q := 140) (by decide)]; rw [pz_u1_top (r := 139)]; rw [pz_u1_top (r := 140)] <;> rfl)
       subst h9x
       clear h9e hc2
       replace hci : q_CI k o9_3 n9_5 w9_6 d9_7 (iv 142) (iv 143) (iv 145) (iv 129) (iv 135) := hci
       replace hNK : q_NK k n9_5 w9_6 d9_7 := hNK
       replace ho2 : o9_3 2 = (iv 2) 2 := ho2
       have hc8 : pz_R (pz_Sh L) 13 [.inr (.inl 17), .inr (.inl 138)] (pz_u1 (pz_u1 (pz_u1 (pz_u1 (pz_u1 iv 2 o9_3) 134 l9_4) 138 n9_5) 139 w9_6) 140 d9_7) (.inl (some (.inl (q_if (q_pk k (q_D k) = -1) (-1) (q_lv k (q_D k)))))) (pz_u1 (pz_u1 (pz_u1 (pz_u1 (pz_u1 iv 2 o9_3) 134 l9_4) 138 n9_5) 139 w9_6) 140 d9_7) := s_X0_bestOrder (by show q_KR k; exact hk) (by show q_cA k (iv 17) (iv 18) (iv 19) (iv 20); exact hA) (by show q_nD k d9_7 (q_D k); exact q_NK_D hNK hcon) (by show q_dR (q_D k); exact q_dR_D hk hcon)
       refine w_call hc8 rfl (pz_cokI is_17 rfl) ?_
       refine w_loc (ls' := [some (.inr (.inl 2)), some (.inr (.inl 17)), some (.inl (q_if (q_pk k (q_D k) = -1) (-1) (q_lv k (q_D k)))), none, none]) (st' := []) rfl ?_
       refine w_loc rfl ?_
       refine w_pure rfl ?_
       refine w_ine (fun h9 => ?_) (fun h9 => ?_)
       · first
         | (exfalso; first | omega | contradiction)
         | (refine pz_G_of pz_b183_41 ?_
            refine w_loc rfl ?_
            refine w_pure rfl ?_
            refine w_idivp (by omega) ?_
            refine w_loc (ls' := [some (.inr (.inl 2)), some (.inr (.inl 17)), some (.inl (q_if (q_pk k (q_D k) = -1) (-1) (q_lv k (q_D k)))), some (.inl ((q_if (q_pk k (q_D k) = -1) (-1) (q_lv k (q_D k))) / 5)), none]) (st' := []) rfl ?_
            refine w_loc rfl ?_
            refine w_pure rfl ?_
            refine w_iremp (by omega) ?_
            refine w_loc (ls' := [some (.inr (.inl 2)), some (.inr (.inl 17)), some (.inl (q_if (q_pk k (q_D k) = -1) (-1) (q_lv k (q_D k)))), some (.inl ((q_if (q_pk k (q_D k) = -1) (-1) (q_lv k (q_D k))) / 5)), some (.inl ((q_if (q_pk k (q_D k) = -1) (-1) (q_lv k (q_D k))) % 5))]) (st' := []) rfl ?_
            refine w_loc rfl ?_
            refine w_getR (q := 3) is_2 rf_2_0 ?_
            refine w_getR (q := 4) is_3 rf_3_1 ?_
            refine w_loc rfl ?_
            refine w_loc rfl ?_
            have hc10 : pz_R (pz_Sh L) 5 [.inr (.inl 17), .inl ((q_if (q_pk k (q_D k) = -1) (-1) (q_lv k (q_D k))) % 5)] (pz_u1 (pz_u1 (pz_u1 (pz_u1 (pz_u1 iv 2 o9_3) 134 l9_4) 138 n9_5) 139 w9_6) 140 d9_7) (.inl (some (.inl (k (224 + 3 * ((q_if (q_pk k (q_D k) = -1) (-1) (q_lv k (q_D k))) % 5)).toNat)))) (pz_u1 (pz_u1 (pz_u1 (pz_u1 (pz_u1 iv 2 o9_3) 134 l9_4) 138 n9_5) 139 w9_6) 140 d9_7) := s_X0_firstOf ((q_if (q_pk k (q_D k) = -1) (-1) (q_lv k (q_D k))) % 5) (by show q_KR k; exact hk) (by show q_cA k (iv 17) (iv 18) (iv 19) (iv 20); exact hA) (by show 0 ≤ ((q_if (q_pk k (q_D k) = -1) (-1) (q_lv k (q_D k))) % 5) ∧ ((q_if (q_pk k (q_D k) = -1) (-1) (q_lv k (q_D k))) % 5) < k 3; omega)
            refine w_call hc10 rfl (pz_cokI is_17 rfl) ?_
            refine w_loc rfl ?_
            refine w_loc rfl ?_
            have hc11 : pz_R (pz_Sh L) 6 [.inr (.inl 17), .inl ((q_if (q_pk k (q_D k) = -1) (-1) (q_lv k (q_D k))) / 5)] (pz_u1 (pz_u1 (pz_u1 (pz_u1 (pz_u1 iv 2 o9_3) 134 l9_4) 138 n9_5) 139 w9_6) 140 d9_7) (.inl (some (.inl (k (224 + 3 * ((q_if (q_pk k (q_D k) = -1) (-1) (q_lv k (q_D k))) / 5) + 1).toNat)))) (pz_u1 (pz_u1 (pz_u1 (pz_u1 (pz_u1 iv 2 o9_3) 134 l9_4) 138 n9_5) 139 w9_6) 140 d9_7) := s_X0_endOf ((q_if (q_pk k (q_D k) = -1) (-1) (q_lv k (q_D k))) / 5) (by show q_KR k; exact hk) (by show q_cA k (iv 17) (iv 18) (iv 19) (iv 20); exact hA) (by show 0 ≤ ((q_if (q_pk k (q_D k) = -1) (-1) (q_lv k (q_D k))) / 5) ∧ ((q_if (q_pk k (q_D k) = -1) (-1) (q_lv k (q_D k))) / 5) < k 3; omega)
            refine w_call hc11 rfl (pz_cokI is_17 rfl) ?_
            refine w_pure rfl ?_
            refine w_pure rfl ?_
            have hc12 : pz_R (pz_Sh L) 16 [.inr (.inl 4), .inl (k (224 + 3 * ((q_if (q_pk k (q_D k) = -1) (-1) (q_lv k (q_D k))) % 5)).toNat), .inl (k (224 + 3 * ((q_if (q_pk k (q_D k) = -1) (-1) (q_lv k (q_D k))) / 5) + 1).toNat), .inl 0, .inl 0] (pz_u1 (pz_u1 (pz_u1 (pz_u1 (pz_u1 iv 2 o9_3) 134 l9_4) 138 n9_5) 139 w9_6) 140 d9_7) (.inl (some (.inl (k 1)))) (pz_u1 (pz_u1 (pz_u1 (pz_u1 (pz_u1 (pz_u1 (pz_u1 (pz_u1 (pz_u1 (pz_u1 (pz_u1 iv 2 o9_3) 4 (pz_up (iv 4) 0 (k 1 + 1))) 5 (pz_up (iv 5) (k 1).toNat (k (224 + 3 * ((q_if (q_pk k (q_D k) = -1) (-1) (q_lv k (q_D k))) % 5)).toNat))) 6 (pz_up (iv 6) (k 1).toNat (k (224 + 3 * ((q_if (q_pk k (q_D k) = -1) (-1) (q_lv k (q_D k))) / 5) + 1).toNat))) 7 (pz_up (iv 7) (k 1).toNat 0)) 8 (pz_up (iv 8) (k 1).toNat 0)) 9 (pz_up (iv 9) (k 1).toNat 0)) 134 l9_4) 138 n9_5) 139 w9_6) 140 d9_7) := pz_R_mem (s_X1_add (k (224 + 3 * ((q_if (q_pk k (q_D k) = -1) (-1) (q_lv k (q_D k))) % 5)).toNat) (k (224 + 3 * ((q_if (q_pk k (q_D k) = -1) (-1) (q_lv k (q_D k))) / 5) + 1).toNat) 0 0 (by show q_KR k; exact hk) (by show q_cB k (iv 4) (iv 5) (iv 6) (iv 7) (iv 8) (iv 9); exact hB) (by show k 1 < 40; omega)) (by rw [pz_u1_in (r := 4) (q := 140) (by decide)]; rw [pz_u1_in (r := 4) (q := 139) (by decide)]; rw [pz_u1_in (r := 4) (q := 138) (by decide)]; rw [pz_u1_in (r := 4) (q := 134) (by decide)]; rw [pz_u1_top (r := 4)]; rw [pz_u1_in (r := 5) (q := 140) (by decide)]; rw [pz_u1_in (r := 5) (q := 139) (by decide)]; rw [pz_u1_in (r := 5) (q := 138) (by decide)]; rw [pz_u1_in (r := 5) (q := 134) (by decide)]; rw [pz_u1_top (r := 5)]; rw [pz_u1_in (r := 6) (q := 140) (by decide)]; rw [pz_u1_in (r := 6) (q := 139) (by decide)]; rw [pz_u1_in (r := 6) (q := 138) (by decide)]; rw [pz_u1_in (r := 6) (q := 134) (by decide)]; rw [pz_u1_top (r := 6)]; rw [pz_u1_in (r := 7) (q := 140) (by decide)]; rw [pz_u1_in (r := 7) (q := 139) (by decide)]; rw [pz_u1_in (r := 7) (q := 138) (by decide)]; rw [pz_u1_in (r := 7) (q := 134) (by decide)]; rw [pz_u1_top (r := 7)]; rw [pz_u1_in (r := 8) (q := 140) (by decide)]; rw [pz_u1_in (r := 8) (q := 139) (by decide)]; rw [pz_u1_in (r := 8) (q := 138) (by decide)]; rw [pz_u1_in (r := 8) (q := 134) (by decide)]; rw [pz_u1_top (r := 8)]; rw [pz_u1_in (r := 9) (q := 140) (by decide)]; rw [pz_u1_in (r := 9) (q := 139) (by decide)]; rw [pz_u1_in (r := 9) (q := 138) (by decide)]; rw [pz_u1_in (r := 9) (q := 134) (by decide)]; rw [pz_u1_top (r := 9)]; rfl)
            refine w_call hc12 rfl (pz_cokI is_4 rfl) ?_
            refine w_pure rfl ?_
            refine w_loc rfl ?_
            have hc13 : pz_R (pz_Sh L) 178 [.inr (.inl 2)] (pz_u1 (pz_u1 (pz_u1 (pz_u1 (pz_u1 (pz_u1 (pz_u1 (pz_u1 (pz_u1 (pz_u1 (pz_u1 iv 2 o9_3) 4 (pz_up (iv 4) 0 (k 1 + 1))) 5 (pz_up (iv 5) (k 1).toNat (k (224 + 3 * ((q_if (q_pk k (q_D k) = -1) (-1) (q_lv k (q_D k))) % 5)).toNat))) 6 (pz_up (iv 6) (k 1).toNat (k (224 + 3 * ((q_if (q_pk k (q_D k) = -1) (-1) (q_lv k (q_D k))) / 5) + 1).toNat))) 7 (pz_up (iv 7) (k 1).toNat 0)) 8 (pz_up (iv 8) (k 1).toNat 0)) 9 (pz_up (iv 9) (k 1).toNat 0)) 134 l9_4) 138 n9_5) 139 w9_6) 140 d9_7) (.inl none) (pz_u1 (pz_u1 (pz_u1 (pz_u1 (pz_u1 (pz_u1 (pz_u1 (pz_u1 (pz_u1 (pz_u1 (pz_u1 iv 2 (pz_up (pz_up (pz_up o9_3 7 0) 8 0) 9 0)) 4 (pz_up (iv 4) 0 (k 1 + 1))) 5 (pz_up (iv 5) (k 1).toNat (k (224 + 3 * ((q_if (q_pk k (q_D k) = -1) (-1) (q_lv k (q_D k))) % 5)).toNat))) 6 (pz_up (iv 6) (k 1).toNat (k (224 + 3 * ((q_if (q_pk k (q_D k) = -1) (-1) (q_lv k (q_D k))) / 5) + 1).toNat))) 7 (pz_up (iv 7) (k 1).toNat 0)) 8 (pz_up (iv 8) (k 1).toNat 0)) 9 (pz_up (iv 9) (k 1).toNat 0)) 134 l9_4) 138 n9_5) 139 w9_6) 140 d9_7) := pz_R_mem (s_X10_forget) (by rw [pz_u1_in (r := 2) (q := 140) (by decide)]; rw [pz_u1_in (r := 2) (q := 139) (by decide)]; rw [pz_u1_in (r := 2) (q := 138) (by decide)]; rw [pz_u1_in (r := 2) (q := 134) (by decide)]; rw [pz_u1_in (r := 2) (q := 9) (by decide)]; rw [pz_u1_in (r := 2) (q := 8) (by decide)]; rw [pz_u1_in (r := 2) (q := 7) (by decide)]; rw [pz_u1_in (r := 2) (q := 6) (by decide)]; rw [pz_u1_in (r := 2) (q := 5) (by decide)]; rw [pz_u1_in (r := 2) (q := 4) (by decide)]; rw [pz_u1_top (r := 2)]; rfl)
            refine w_callv hc13 rfl (pz_cokI is_2 rfl) ?_
            refine w_pure rfl ?_
            refine w_ret (pz_rok1 (Or.inr rfl)) ?_
            first | exact ⟨pz_u1 (pz_u1 (pz_u1 (pz_u1 (pz_u1 (pz_u1 (pz_u1 (pz_u1 (pz_u1 (pz_u1 (pz_u1 iv 2 (pz_up (pz_up (pz_up o9_3 7 0) 8 0) 9 0)) 4 (pz_up (iv 4) 0 (k 1 + 1))) 5 (pz_up (iv 5) (k 1).toNat (k (224 + 3 * ((q_if (q_pk k (q_D k) = -1) (-1) (q_lv k (q_D k))) % 5)).toNat))) 6 (pz_up (iv 6) (k 1).toNat (k (224 + 3 * ((q_if (q_pk k (q_D k) = -1) (-1) (q_lv k (q_D k))) / 5) + 1).toNat))) 7 (pz_up (iv 7) (k 1).toNat 0)) 8 (pz_up (iv 8) (k 1).toNat 0)) 9 (pz_up (iv 9) (k 1).toNat 0)) 134 l9_4) 138 n9_5) 139 w9_6) 140 d9_7, ⟨(pz_up (pz_up (pz_up o9_3 7 0) 8 0) 9 0), l9_4, n9_5, w9_6, d9_7, by rfl, by exact hci, by first | rfl | exact ho2⟩, lf_i (by first | rfl | omega) (by rfl)⟩ | (exfalso; omega))
       · first
         | (exfalso; first | omega | contradiction)
         | (refine w_pure rfl ?_
            refine w_ret (pz_rok1 (Or.inl rfl)) ?_
            first | exact ⟨pz_u1 (pz_u1 (pz_u1 (pz_u1 (pz_u1 iv 2 o9_3) 134 l9_4) 138 n9_5) 139 w9_6) 140 d9_7, ⟨o9_3, l9_4, n9_5, w9_6, d9_7, by rfl, by exact hci, by first | rfl | exact ho2⟩, lf_i (by first | rfl | omega) (by rfl)⟩ | (exfalso; omega)))
  · first
    | (exfalso; first | omega | contradiction)
    | (refine w_pure rfl ?_
       refine w_ret (pz_rok1 (Or.inl rfl)) ?_
       first | exact ⟨pz_u1 (pz_u1 (pz_u1 (pz_u1 (pz_u1 iv 2 (iv 2)) 134 (iv 134)) 138 (iv 138)) 139 (iv 139)) 140 (iv 140), ⟨(iv 2), (iv 134), (iv 138), (iv 139), (iv 140), by rfl, by exact hci, by first | rfl | exact ho2⟩, lf_i (by first | rfl | omega) (by rfl)⟩ | (exfalso; omega))

theorem s_X10_tellBestOrder_y {L : Nat} {iv : Nat → Nat → Int} {k : Nat → Int} (hk : q_KR k) (hE : q_cE k (iv 3)) (hB : q_cB k (iv 4) (iv 5) (iv 6) (iv 7) (iv 8) (iv 9)) (hS : q_cS k (iv 10) (iv 11) (iv 12) (iv 13) (iv 14)) (hC : q_cC k (iv 15) (iv 16)) (hA : q_cA k (iv 17) (iv 18) (iv 19) (iv 20)) (hO : q_cO k (iv 22) (iv 23) (iv 24)) (hL : q_cL k (iv 25)) (hP : q_cP k (iv 27)) (hci : q_CI k (iv 2) (iv 138) (iv 139) (iv 140) (iv 142) (iv 143) (iv 145) (iv 129) (iv 135)) (hcon : q_con k (fun _ => 0)) (hsplit : q_lvTk k) : pz_RE (pz_Sh L) 183 [.inr (.inl 2)] iv (.inl (some (.inl 1))) (fun iv9 => ∃ (o9 : Nat → Int) (f4 : Nat → Int) (f5 : Nat → Int) (f6 : Nat → Int) (f7 : Nat → Int) (f8 : Nat → Int) (f9 : Nat → Int) (l9 : Nat → Int) (n9 : Nat → Int) (w9 : Nat → Int) (d9 : Nat → Int), iv9 = pz_u1 (pz_u1 (pz_u1 (pz_u1 (pz_u1 (pz_u1 (pz_u1 (pz_u1 (pz_u1 (pz_u1 (pz_u1 iv 2 o9) 4 f4) 5 f5) 6 f6) 7 f7) 8 f8) 9 f9) 134 l9) 138 n9) 139 w9) 140 d9 ∧ ((o9 7 = 0 ∧ o9 8 = 0 ∧ o9 9 = 0) ∧ o9 2 = (iv 2) 2) ∧ (q_cB (q_lvK k (q_D k)) f4 f5 f6 f7 f8 f9)) := by
  intro dv cc ss
  have hk0 := hk.r0
  have hE0 := hE
  have hB0 := hB.1
  have hS0 := hS.1
  have hC0 := hC.1
  have hA0 := hA.1
  have hbo : q_if (q_pk k (q_D k) = -1) (-1) (q_lv k (q_D k)) = q_lv k (q_D k) := q_if_f hsplit.2.1
  have hlr := q_lv_r (d := q_D k) hk
  have hl1 := hsplit.1
  have hl2 := hsplit.2.2
  refine pz_G_mem (iv2 := pz_u1 (pz_u1 (pz_u1 (pz_u1 (pz_u1 (pz_u1 (pz_u1 (pz_u1 (pz_u1 (pz_u1 (pz_u1 iv 2 (iv 2)) 4 (iv 4)) 5 (iv 5)) 6 (iv 6)) 7 (iv 7)) 8 (iv 8)) 9 (iv 9)) 134 (iv 134)) 138 (iv 138)) 139 (iv 139)) 140 (iv 140)) (by exact (((((((((((pz_u1_self iv 2).symm).trans (pz_u1_self (pz_u1 iv 2 (iv 2)) 4).symm).trans (pz_u1_self (pz_u1 (pz_u1 iv 2 (iv 2)) 4 (iv 4)) 5).symm).trans (pz_u1_self (pz_u1 (pz_u1 (pz_u1 iv 2 (iv 2)) 4 (iv 4)) 5 (iv 5)) 6).symm).trans (pz_u1_self (pz_u1 (pz_u1 (pz_u1 (pz_u1 iv 2 (iv 2)) 4 (iv 4)) 5 (iv 5)) 6 (iv 6)) 7).symm).trans (pz_u1_self (pz_u1 (pz_u1 (pz_u1 (pz_u1 (pz_u1 iv 2 (iv 2)) 4 (iv 4)) 5 (iv 5)) 6 (iv 6)) 7 (iv 7)) 8).symm).trans (pz_u1_self (pz_u1 (pz_u1 (pz_u1 (pz_u1 (pz_u1 (pz_u1 iv 2 (iv 2)) 4 (iv 4)) 5 (iv 5)) 6 (iv 6)) 7 (iv 7)) 8 (iv 8)) 9).symm).trans (pz_u1_self (pz_u1 (pz_u1 (pz_u1 (pz_u1 (pz_u1 (pz_u1 (pz_u1 iv 2 (iv 2)) 4 (iv 4)) 5 (iv 5)) 6 (iv 6)) 7 (iv 7)) 8 (iv 8)) 9 (iv 9)) 134).symm).trans (pz_u1_self (pz_u1 (pz_u1 (pz_u1 (pz_u1 (pz_u1 (pz_u1 (pz_u1 (pz_u1 iv 2 (iv 2)) 4 (iv 4)) 5 (iv 5)) 6 (iv 6)) 7 (iv 7)) 8 (iv 8)) 9 (iv 9)) 134 (iv 134)) 138).symm).trans (pz_u1_self (pz_u1 (pz_u1 (pz_u1 (pz_u1 (pz_u1 (pz_u1 (pz_u1 (pz_u1 (pz_u1 iv 2 (iv 2)) 4 (iv 4)) 5 (iv 5)) 6 (iv 6)) 7 (iv 7)) 8 (iv 8)) 9 (iv 9)) 134 (iv 134)) 138 (iv 138)) 139).symm).trans (pz_u1_self (pz_u1 (pz_u1 (pz_u1 (pz_u1 (pz_u1 (pz_u1 (pz_u1 (pz_u1 (pz_u1 (pz_u1 iv 2 (iv 2)) 4 (iv 4)) 5 (iv 5)) 6 (iv 6)) 7 (iv 7)) 8 (iv 8)) 9 (iv 9)) 134 (iv 134)) 138 (iv 138)) 139 (iv 139)) 140).symm) ?_
  show pz_G 183 0 [some (.inr (.inl 2)), none, none, none, none] [] (pz_Sh L, pz_u1 (pz_u1 (pz_u1 (pz_u1 (pz_u1 (pz_u1 (pz_u1 (pz_u1 (pz_u1 (pz_u1 (pz_u1 iv 2 (iv 2)) 4 (iv 4)) 5 (iv 5)) 6 (iv 6)) 7 (iv 7)) 8 (iv 8)) 9 (iv 9)) 134 (iv 134)) 138 (iv 138)) 139 (iv 139)) 140 (iv 140), dv, cc, ss) (pz_PE (pz_Sh L) (.inl (some (.inl 1))) (fun iv9 => ∃ (o9 : Nat → Int) (f4 : Nat → Int) (f5 : Nat → Int) (f6 : Nat → Int) (f7 : Nat → Int) (f8 : Nat → Int) (f9 : Nat → Int) (l9 : Nat → Int) (n9 : Nat → Int) (w9 : Nat → Int) (d9 : Nat → Int), iv9 = pz_u1 (pz_u1 (pz_u1 (pz_u1 (pz_u1 (pz_u1 (pz_u1 (pz_u1 (pz_u1 (pz_u1 (pz_u1 iv 2 o9) 4 f4) 5 f5) 6 f6) 7 f7) 8 f8) 9 f9) 134 l9) 138 n9) 139 w9) 140 d9 ∧ ((o9 7 = 0 ∧ o9 8 = 0 ∧ o9 9 = 0) ∧ o9 2 = (iv 2) 2) ∧ (q_cB (q_lvK k (q_D k)) f4 f5 f6 f7 f8 f9)) dv cc ss)
  refine pz_G_of pz_b183_0 ?_
  refine w_loc rfl ?_
  refine w_getR (q := 3) is_2 rf_2_0 ?_
  refine w_getR (q := 4) is_3 rf_3_1 ?_
  refine w_getI (v := (iv 4) 0) is_4 (by decide) rfl ?_
  refine w_pure rfl ?_
  refine w_ilt (fun h1 => ?_) (fun h1 => ?_)
  · first
    | (exfalso; first | omega | contradiction)
    | (refine pz_G_of pz_b183_17 ?_
       refine w_loc rfl ?_
       refine w_getR (q := 3) is_2 rf_2_0 ?_
       refine w_getR (q := 17) is_3 rf_3_4 ?_
       refine w_loc (ls' := [some (.inr (.inl 2)), some (.inr (.inl 17)), none, none, none]) (st' := []) rfl ?_
       refine w_loc rfl ?_
       refine w_loc rfl ?_
       have hc2 : pz_RE (pz_Sh L) 179 [.inr (.inl 2)] (pz_u1 (pz_u1 (pz_u1 (pz_u1 (pz_u1 (pz_u1 (pz_u1 (pz_u1 (pz_u1 (pz_u1 (pz_u1 iv 2 (iv 2)) 4 (iv 4)) 5 (iv 5)) 6 (iv 6)) 7 (iv 7)) 8 (iv 8)) 9 (iv 9)) 134 (iv 134)) 138 (iv 138)) 139 (iv 139)) 140 (iv 140)) (.inl (some (.inr (.inl 138)))) _ := s_X10_knownNet (L := L) (iv := pz_u1 (pz_u1 (pz_u1 (pz_u1 (pz_u1 (pz_u1 (pz_u1 (pz_u1 (pz_u1 (pz_u1 (pz_u1 iv 2 (iv 2)) 4 (iv 4)) 5 (iv 5)) 6 (iv 6)) 7 (iv 7)) 8 (iv 8)) 9 (iv 9)) 134 (iv 134)) 138 (iv 138)) 139 (iv 139)) 140 (iv 140)) (by show q_KR k; exact hk) (by show q_cE k (iv 3); exact hE) (by show q_cB k (iv 4) (iv 5) (iv 6) (iv 7) (iv 8) (iv 9); exact hB) (by show q_cS k (iv 10) (iv 11) (iv 12) (iv 13) (iv 14); exact hS) (by show q_cC k (iv 15) (iv 16); exact hC) (by show q_cL k (iv 25); exact hL) (by show q_CI k (iv 2) (iv 138) (iv 139) (iv 140) (iv 142) (iv 143) (iv 145) (iv 129) (iv 135); exact hci)
       refine w_callE hc2 rfl (pz_cokI is_2 rfl) (fun iv9 h9 => ?_)
       obtain ⟨o9_3, l9_4, n9_5, w9_6, d9_7, h9e, hci, hNK, ho2⟩ := h9
       have h9x : iv9 = pz_u1 (pz_u1 (pz_u1 (pz_u1 (pz_u1 (pz_u1 (pz_u1 (pz_u1 (pz_u1 (pz_u1 (pz_u1 iv 2 o9_3) 4 (iv 4)) 5 (iv 5)) 6 (iv 6)) 7 (iv 7)) 8 (iv 8)) 9 (iv 9)) 134 l9_4) 138 n9_5) 139 w9_6) 140 d9_7 := h9e.trans (by rw [pz_u1_in (r := 2) (q := 140) (by decide)]; rw [pz_u1_in (r := 2) (q := 139) (by decide)]; rw [pz_u1_in (r := 2) (q := 138) (by decide)]; rw [pz_u1_in (r := 2) (q := 134) (by decide)]; rw [pz_u1_in (r := 2) (q := 9) (by decide)]; rw [pz_u1_in (r := 2) (q := 8) (by decide)]; rw [pz_u1_in (r := 2) (q := 7) (by decide)]; rw [pz_u1_in (r := 2) (q := 6) (by decide)]; rw [pz_u1_in (r := 2) (q := 5) (by decide)]; rw [pz_u1_in (r := 2) (q := 4) (by decide)]; rw [pz_u1_top (r := 2)]; rw [pz_u1_in (r := 134) (q := 140) (by decide)]; rw [pz_u1_in (r := 134) (q := 139) (by decide)]; rw [pz_u1_in (r := 134) (q := 138) (by decide)]; rw [pz_u1_top (r := 134)]; rw [pz_u1_in (r := 138) (q := 140) (by decide)]; rw [pz_u1_in (r := 138) (q := 139) (by decide)]; rw [pz_u1_top (r := 138)]; rw [pz_u1_in (r := 139) (q := 140) (by decide)]; rw [pz_u1_top (r := 139)]; rw [pz_u1_top (r := 140)] <;> rfl)
       subst h9x
       clear h9e hc2
       replace hci : q_CI k o9_3 n9_5 w9_6 d9_7 (iv 142) (iv 143) (iv 145) (iv 129) (iv 135) := hci
       replace hNK : q_NK k n9_5 w9_6 d9_7 := hNK
       replace ho2 : o9_3 2 = (iv 2) 2 := ho2
       have hc8 : pz_R (pz_Sh L) 13 [.inr (.inl 17), .inr (.inl 138)] (pz_u1 (pz_u1 (pz_u1 (pz_u1 (pz_u1 (pz_u1 (pz_u1 (pz_u1 (pz_u1 (pz_u1 (pz_u1 iv 2 o9_3) 4 (iv 4)) 5 (iv 5)) 6 (iv 6)) 7 (iv 7)) 8 (iv 8)) 9 (iv 9)) 134 l9_4) 138 n9_5) 139 w9_6) 140 d9_7) (.inl (some (.inl (q_if (q_pk k (q_D k) = -1) (-1) (q_lv k (q_D k)))))) (pz_u1 (pz_u1 (pz_u1 (pz_u1 (pz_u1 (pz_u1 (pz_u1 (pz_u1 (pz_u1 (pz_u1 (pz_u1 iv 2 o9_3) 4 (iv 4)) 5 (iv 5)) 6 (iv 6)) 7 (iv 7)) 8 (iv 8)) 9 (iv 9)) 134 l9_4) 138 n9_5) 139 w9_6) 140 d9_7) := s_X0_bestOrder (by show q_KR k; exact hk) (by show q_cA k (iv 17) (iv 18) (iv 19) (iv 20); exact hA) (by show q_nD k d9_7 (q_D k); exact q_NK_D hNK hcon) (by show q_dR (q_D k); exact q_dR_D hk hcon)
       refine w_call hc8 rfl (pz_cokI is_17 rfl) ?_
       refine w_loc (ls' := [some (.inr (.inl 2)), some (.inr (.inl 17)), some (.inl (q_if (q_pk k (q_D k) = -1) (-1) (q_lv k (q_D k)))), none, none]) (st' := []) rfl ?_
       refine w_loc rfl ?_
       refine w_pure rfl ?_
       refine w_ine (fun h9 => ?_) (fun h9 => ?_)
       · first
         | (exfalso; first | omega | contradiction)
         | (refine pz_G_of pz_b183_41 ?_
            refine w_loc rfl ?_
            refine w_pure rfl ?_
            refine w_idivp (by omega) ?_
            refine w_loc (ls' := [some (.inr (.inl 2)), some (.inr (.inl 17)), some (.inl (q_if (q_pk k (q_D k) = -1) (-1) (q_lv k (q_D k)))), some (.inl ((q_if (q_pk k (q_D k) = -1) (-1) (q_lv k (q_D k))) / 5)), none]) (st' := []) rfl ?_
            refine w_loc rfl ?_
            refine w_pure rfl ?_
            refine w_iremp (by omega) ?_
            refine w_loc (ls' := [some (.inr (.inl 2)), some (.inr (.inl 17)), some (.inl (q_if (q_pk k (q_D k) = -1) (-1) (q_lv k (q_D k)))), some (.inl ((q_if (q_pk k (q_D k) = -1) (-1) (q_lv k (q_D k))) / 5)), some (.inl ((q_if (q_pk k (q_D k) = -1) (-1) (q_lv k (q_D k))) % 5))]) (st' := []) rfl ?_
            refine w_loc rfl ?_
            refine w_getR (q := 3) is_2 rf_2_0 ?_
            refine w_getR (q := 4) is_3 rf_3_1 ?_
            refine w_loc rfl ?_
            refine w_loc rfl ?_
            have hc10 : pz_R (pz_Sh L) 5 [.inr (.inl 17), .inl ((q_if (q_pk k (q_D k) = -1) (-1) (q_lv k (q_D k))) % 5)] (pz_u1 (pz_u1 (pz_u1 (pz_u1 (pz_u1 (pz_u1 (pz_u1 (pz_u1 (pz_u1 (pz_u1 (pz_u1 iv 2 o9_3) 4 (iv 4)) 5 (iv 5)) 6 (iv 6)) 7 (iv 7)) 8 (iv 8)) 9 (iv 9)) 134 l9_4) 138 n9_5) 139 w9_6) 140 d9_7) (.inl (some (.inl (k (224 + 3 * ((q_if (q_pk k (q_D k) = -1) (-1) (q_lv k (q_D k))) % 5)).toNat)))) (pz_u1 (pz_u1 (pz_u1 (pz_u1 (pz_u1 (pz_u1 (pz_u1 (pz_u1 (pz_u1 (pz_u1 (pz_u1 iv 2 o9_3) 4 (iv 4)) 5 (iv 5)) 6 (iv 6)) 7 (iv 7)) 8 (iv 8)) 9 (iv 9)) 134 l9_4) 138 n9_5) 139 w9_6) 140 d9_7) := s_X0_firstOf ((q_if (q_pk k (q_D k) = -1) (-1) (q_lv k (q_D k))) % 5) (by show q_KR k; exact hk) (by show q_cA k (iv 17) (iv 18) (iv 19) (iv 20); exact hA) (by show 0 ≤ ((q_if (q_pk k (q_D k) = -1) (-1) (q_lv k (q_D k))) % 5) ∧ ((q_if (q_pk k (q_D k) = -1) (-1) (q_lv k (q_D k))) % 5) < k 3; omega)
            refine w_call hc10 rfl (pz_cokI is_17 rfl) ?_
            refine w_loc rfl ?_
            refine w_loc rfl ?_
            have hc11 : pz_R (pz_Sh L) 6 [.inr (.inl 17), .inl ((q_if (q_pk k (q_D k) = -1) (-1) (q_lv k (q_D k))) / 5)] (pz_u1 (pz_u1 (pz_u1 (pz_u1 (pz_u1 (pz_u1 (pz_u1 (pz_u1 (pz_u1 (pz_u1 (pz_u1 iv 2 o9_3) 4 (iv 4)) 5 (iv 5)) 6 (iv 6)) 7 (iv 7)) 8 (iv 8)) 9 (iv 9)) 134 l9_4) 138 n9_5) 139 w9_6) 140 d9_7) (.inl (some (.inl (k (224 + 3 * ((q_if (q_pk k (q_D k) = -1) (-1) (q_lv k (q_D k))) / 5) + 1).toNat)))) (pz_u1 (pz_u1 (pz_u1 (pz_u1 (pz_u1 (pz_u1 (pz_u1 (pz_u1 (pz_u1 (pz_u1 (pz_u1 iv 2 o9_3) 4 (iv 4)) 5 (iv 5)) 6 (iv 6)) 7 (iv 7)) 8 (iv 8)) 9 (iv 9)) 134 l9_4) 138 n9_5) 139 w9_6) 140 d9_7) := s_X0_endOf ((q_if (q_pk k (q_D k) = -1) (-1) (q_lv k (q_D k))) / 5) (by show q_KR k; exact hk) (by show q_cA k (iv 17) (iv 18) (iv 19) (iv 20); exact hA) (by show 0 ≤ ((q_if (q_pk k (q_D k) = -1) (-1) (q_lv k (q_D k))) / 5) ∧ ((q_if (q_pk k (q_D k) = -1) (-1) (q_lv k (q_D k))) / 5) < k 3; omega)
            refine w_call hc11 rfl (pz_cokI is_17 rfl) ?_
            refine w_pure rfl ?_
            refine w_pure rfl ?_
            have hc12 : pz_R (pz_Sh L) 16 [.inr (.inl 4), .inl (k (224 + 3 * ((q_if (q_pk k (q_D k) = -1) (-1) (q_lv k (q_D k))) % 5)).toNat), .inl (k (224 + 3 * ((q_if (q_pk k (q_D k) = -1) (-1) (q_lv k (q_D k))) / 5) + 1).toNat), .inl 0, .inl 0] (pz_u1 (pz_u1 (pz_u1 (pz_u1 (pz_u1 (pz_u1 (pz_u1 (pz_u1 (pz_u1 (pz_u1 (pz_u1 iv 2 o9_3) 4 (iv 4)) 5 (iv 5)) 6 (iv 6)) 7 (iv 7)) 8 (iv 8)) 9 (iv 9)) 134 l9_4) 138 n9_5) 139 w9_6) 140 d9_7) (.inl (some (.inl (k 1)))) (pz_u1 (pz_u1 (pz_u1 (pz_u1 (pz_u1 (pz_u1 (pz_u1 (pz_u1 (pz_u1 (pz_u1 (pz_u1 iv 2 o9_3) 4 (pz_up (iv 4) 0 (k 1 + 1))) 5 (pz_up (iv 5) (k 1).toNat (k (224 + 3 * ((q_if (q_pk k (q_D k) = -1) (-1) (q_lv k (q_D k))) % 5)).toNat))) 6 (pz_up (iv 6) (k 1).toNat (k (224 + 3 * ((q_if (q_pk k (q_D k) = -1) (-1) (q_lv k (q_D k))) / 5) + 1).toNat))) 7 (pz_up (iv 7) (k 1).toNat 0)) 8 (pz_up (iv 8) (k 1).toNat 0)) 9 (pz_up (iv 9) (k 1).toNat 0)) 134 l9_4) 138 n9_5) 139 w9_6) 140 d9_7) := pz_R_mem (s_X1_add (k (224 + 3 * ((q_if (q_pk k (q_D k) = -1) (-1) (q_lv k (q_D k))) % 5)).toNat) (k (224 + 3 * ((q_if (q_pk k (q_D k) = -1) (-1) (q_lv k (q_D k))) / 5) + 1).toNat) 0 0 (by show q_KR k; exact hk) (by show q_cB k (iv 4) (iv 5) (iv 6) (iv 7) (iv 8) (iv 9); exact hB) (by show k 1 < 40; omega)) (by rw [pz_u1_in (r := 4) (q := 140) (by decide)]; rw [pz_u1_in (r := 4) (q := 139) (by decide)]; rw [pz_u1_in (r := 4) (q := 138) (by decide)]; rw [pz_u1_in (r := 4) (q := 134) (by decide)]; rw [pz_u1_in (r := 4) (q := 9) (by decide)]; rw [pz_u1_in (r := 4) (q := 8) (by decide)]; rw [pz_u1_in (r := 4) (q := 7) (by decide)]; rw [pz_u1_in (r := 4) (q := 6) (by decide)]; rw [pz_u1_in (r := 4) (q := 5) (by decide)]; rw [pz_u1_top (r := 4)]; rw [pz_u1_in (r := 5) (q := 140) (by decide)]; rw [pz_u1_in (r := 5) (q := 139) (by decide)]; rw [pz_u1_in (r := 5) (q := 138) (by decide)]; rw [pz_u1_in (r := 5) (q := 134) (by decide)]; rw [pz_u1_in (r := 5) (q := 9) (by decide)]; rw [pz_u1_in (r := 5) (q := 8) (by decide)]; rw [pz_u1_in (r := 5) (q := 7) (by decide)]; rw [pz_u1_in (r := 5) (q := 6) (by decide)]; rw [pz_u1_top (r := 5)]; rw [pz_u1_in (r := 6) (q := 140) (by decide)]; rw [pz_u1_in (r := 6) (q := 139) (by decide)]; rw [pz_u1_in (r := 6) (q := 138) (by decide)]; rw [pz_u1_in (r := 6) (q := 134) (by decide)]; rw [pz_u1_in (r := 6) (q := 9) (by decide)]; rw [pz_u1_in (r := 6) (q := 8) (by decide)]; rw [pz_u1_in (r := 6) (q := 7) (by decide)]; rw [pz_u1_top (r := 6)]; rw [pz_u1_in (r := 7) (q := 140) (by decide)]; rw [pz_u1_in (r := 7) (q := 139) (by decide)]; rw [pz_u1_in (r := 7) (q := 138) (by decide)]; rw [pz_u1_in (r := 7) (q := 134) (by decide)]; rw [pz_u1_in (r := 7) (q := 9) (by decide)]; rw [pz_u1_in (r := 7) (q := 8) (by decide)]; rw [pz_u1_top (r := 7)]; rw [pz_u1_in (r := 8) (q := 140) (by decide)]; rw [pz_u1_in (r := 8) (q := 139) (by decide)]; rw [pz_u1_in (r := 8) (q := 138) (by decide)]; rw [pz_u1_in (r := 8) (q := 134) (by decide)]; rw [pz_u1_in (r := 8) (q := 9) (by decide)]; rw [pz_u1_top (r := 8)]; rw [pz_u1_in (r := 9) (q := 140) (by decide)]; rw [pz_u1_in (r := 9) (q := 139) (by decide)]; rw [pz_u1_in (r := 9) (q := 138) (by decide)]; rw [pz_u1_in (r := 9) (q := 134) (by decide)]; rw [pz_u1_top (r := 9)]; rfl)
            refine w_call hc12 rfl (pz_cokI is_4 rfl) ?_
            refine w_pure rfl ?_
            refine w_loc rfl ?_
            have hc13 : pz_R (pz_Sh L) 178 [.inr (.inl 2)] (pz_u1 (pz_u1 (pz_u1 (pz_u1 (pz_u1 (pz_u1 (pz_u1 (pz_u1 (pz_u1 (pz_u1 (pz_u1 iv 2 o9_3) 4 (pz_up (iv 4) 0 (k 1 + 1))) 5 (pz_up (iv 5) (k 1).toNat (k (224 + 3 * ((q_if (q_pk k (q_D k) = -1) (-1) (q_lv k (q_D k))) % 5)).toNat))) 6 (pz_up (iv 6) (k 1).toNat (k (224 + 3 * ((q_if (q_pk k (q_D k) = -1) (-1) (q_lv k (q_D k))) / 5) + 1).toNat))) 7 (pz_up (iv 7) (k 1).toNat 0)) 8 (pz_up (iv 8) (k 1).toNat 0)) 9 (pz_up (iv 9) (k 1).toNat 0)) 134 l9_4) 138 n9_5) 139 w9_6) 140 d9_7) (.inl none) (pz_u1 (pz_u1 (pz_u1 (pz_u1 (pz_u1 (pz_u1 (pz_u1 (pz_u1 (pz_u1 (pz_u1 (pz_u1 iv 2 (pz_up (pz_up (pz_up o9_3 7 0) 8 0) 9 0)) 4 (pz_up (iv 4) 0 (k 1 + 1))) 5 (pz_up (iv 5) (k 1).toNat (k (224 + 3 * ((q_if (q_pk k (q_D k) = -1) (-1) (q_lv k (q_D k))) % 5)).toNat))) 6 (pz_up (iv 6) (k 1).toNat (k (224 + 3 * ((q_if (q_pk k (q_D k) = -1) (-1) (q_lv k (q_D k))) / 5) + 1).toNat))) 7 (pz_up (iv 7) (k 1).toNat 0)) 8 (pz_up (iv 8) (k 1).toNat 0)) 9 (pz_up (iv 9) (k 1).toNat 0)) 134 l9_4) 138 n9_5) 139 w9_6) 140 d9_7) := pz_R_mem (s_X10_forget) (by rw [pz_u1_in (r := 2) (q := 140) (by decide)]; rw [pz_u1_in (r := 2) (q := 139) (by decide)]; rw [pz_u1_in (r := 2) (q := 138) (by decide)]; rw [pz_u1_in (r := 2) (q := 134) (by decide)]; rw [pz_u1_in (r := 2) (q := 9) (by decide)]; rw [pz_u1_in (r := 2) (q := 8) (by decide)]; rw [pz_u1_in (r := 2) (q := 7) (by decide)]; rw [pz_u1_in (r := 2) (q := 6) (by decide)]; rw [pz_u1_in (r := 2) (q := 5) (by decide)]; rw [pz_u1_in (r := 2) (q := 4) (by decide)]; rw [pz_u1_top (r := 2)]; rfl)
            refine w_callv hc13 rfl (pz_cokI is_2 rfl) ?_
            refine w_pure rfl ?_
            refine w_ret (pz_rok1 (Or.inr rfl)) ?_
            first | exact ⟨pz_u1 (pz_u1 (pz_u1 (pz_u1 (pz_u1 (pz_u1 (pz_u1 (pz_u1 (pz_u1 (pz_u1 (pz_u1 iv 2 (pz_up (pz_up (pz_up o9_3 7 0) 8 0) 9 0)) 4 (pz_up (iv 4) 0 (k 1 + 1))) 5 (pz_up (iv 5) (k 1).toNat (k (224 + 3 * ((q_if (q_pk k (q_D k) = -1) (-1) (q_lv k (q_D k))) % 5)).toNat))) 6 (pz_up (iv 6) (k 1).toNat (k (224 + 3 * ((q_if (q_pk k (q_D k) = -1) (-1) (q_lv k (q_D k))) / 5) + 1).toNat))) 7 (pz_up (iv 7) (k 1).toNat 0)) 8 (pz_up (iv 8) (k 1).toNat 0)) 9 (pz_up (iv 9) (k 1).toNat 0)) 134 l9_4) 138 n9_5) 139 w9_6) 140 d9_7, ⟨(pz_up (pz_up (pz_up o9_3 7 0) 8 0) 9 0), (pz_up (iv 4) 0 (k 1 + 1)), (pz_up (iv 5) (k 1).toNat (k (224 + 3 * ((q_if (q_pk k (q_D k) = -1) (-1) (q_lv k (q_D k))) % 5)).toNat)), (pz_up (iv 6) (k 1).toNat (k (224 + 3 * ((q_if (q_pk k (q_D k) = -1) (-1) (q_lv k (q_D k))) / 5) + 1).toNat)), (pz_up (iv 7) (k 1).toNat 0), (pz_up (iv 8) (k 1).toNat 0), (pz_up (iv 9) (k 1).toNat 0), l9_4, n9_5, w9_6, d9_7, by rfl, by exact ⟨⟨rfl, rfl, rfl⟩, ho2⟩, by rw [hbo]; exact q_cB_tell hB (by omega) (by decide)⟩, lf_i (by first | rfl | omega) (by rfl)⟩ | (exfalso; omega))
       · first
         | (exfalso; first | omega | contradiction)
         | (refine w_pure rfl ?_
            refine w_ret (pz_rok1 (Or.inl rfl)) ?_
            first | exact ⟨pz_u1 (pz_u1 (pz_u1 (pz_u1 (pz_u1 (pz_u1 (pz_u1 (pz_u1 (pz_u1 (pz_u1 (pz_u1 iv 2 o9_3) 4 (iv 4)) 5 (iv 5)) 6 (iv 6)) 7 (iv 7)) 8 (iv 8)) 9 (iv 9)) 134 l9_4) 138 n9_5) 139 w9_6) 140 d9_7, ⟨o9_3, (iv 4), (iv 5), (iv 6), (iv 7), (iv 8), (iv 9), l9_4, n9_5, w9_6, d9_7, by rfl, by exact ⟨⟨rfl, rfl, rfl⟩, ho2⟩, by rw [hbo]; exact q_cB_tell hB (by omega) (by decide)⟩, lf_i (by first | rfl | omega) (by rfl)⟩ | (exfalso; omega)))
  · first
    | (exfalso; first | omega | contradiction)
    | (refine w_pure rfl ?_
       refine w_ret (pz_rok1 (Or.inl rfl)) ?_
       first | exact ⟨pz_u1 (pz_u1 (pz_u1 (pz_u1 (pz_u1 (pz_u1 (pz_u1 (pz_u1 (pz_u1 (pz_u1 (pz_u1 iv 2 (iv 2)) 4 (iv 4)) 5 (iv 5)) 6 (iv 6)) 7 (iv 7)) 8 (iv 8)) 9 (iv 9)) 134 (iv 134)) 138 (iv 138)) 139 (iv 139)) 140 (iv 140), ⟨(iv 2), (iv 4), (iv 5), (iv 6), (iv 7), (iv 8), (iv 9), (iv 134), (iv 138), (iv 139), (iv 140), by rfl, by exact ⟨⟨rfl, rfl, rfl⟩, ho2⟩, by rw [hbo]; exact q_cB_tell hB (by omega) (by decide)⟩, lf_i (by first | rfl | omega) (by rfl)⟩ | (exfalso; omega))

theorem s_X10_level_1 {L : Nat} {iv : Nat → Nat → Int} {k : Nat → Int} (hk : q_KR k) (hE : q_cE k (iv 3)) (hB : q_cB k (iv 4) (iv 5) (iv 6) (iv 7) (iv 8) (iv 9)) (hS : q_cS k (iv 10) (iv 11) (iv 12) (iv 13) (iv 14)) (hC : q_cC k (iv 15) (iv 16)) (hA : q_cA k (iv 17) (iv 18) (iv 19) (iv 20)) (hO : q_cO k (iv 22) (iv 23) (iv 24)) (hL : q_cL k (iv 25)) (hP : q_cP k (iv 27)) (hci : q_CI k (iv 2) (iv 138) (iv 139) (iv 140) (iv 142) (iv 143) (iv 145) (iv 129) (iv 135)) (hcase0 : ¬ q_con k (fun _ => 0)) : pz_RE (pz_Sh L) 162 [.inr (.inl 2)] iv (.inr 0) (fun iv9 => ∃ (o9 : Nat → Int) (l9 : Nat → Int) (n9 : Nat → Int) (w9 : Nat → Int) (d9 : Nat → Int), iv9 = pz_u1 (pz_u1 (pz_u1 (pz_u1 (pz_u1 iv 2 o9) 134 l9) 138 n9) 139 w9) 140 d9 ∧ (q_CI k o9 n9 w9 d9 (iv 142) (iv 143) (iv 145) (iv 129) (iv 135)) ∧ (o9 2 = (iv 2) 2)) := by
  intro dv cc ss
  have hk0 := hk.r0
  have hE0 := hE
  have hB0 := hB.1
  have hS0 := hS.1
  have hC0 := hC.1
  have hA0 := hA.1
  refine pz_G_mem (iv2 := pz_u1 (pz_u1 (pz_u1 (pz_u1 (pz_u1 iv 2 (iv 2)) 134 (iv 134)) 138 (iv 138)) 139 (iv 139)) 140 (iv 140)) (by exact (((((pz_u1_self iv 2).symm).trans (pz_u1_self (pz_u1 iv 2 (iv 2)) 134).symm).trans (pz_u1_self (pz_u1 (pz_u1 iv 2 (iv 2)) 134 (iv 134)) 138).symm).trans (pz_u1_self (pz_u1 (pz_u1 (pz_u1 iv 2 (iv 2)) 134 (iv 134)) 138 (iv 138)) 139).symm).trans (pz_u1_self (pz_u1 (pz_u1 (pz_u1 (pz_u1 iv 2 (iv 2)) 134 (iv 134)) 138 (iv 138)) 139 (iv 139)) 140).symm) ?_
  show pz_G 162 0 [some (.inr (.inl 2)), none] [] (pz_Sh L, pz_u1 (pz_u1 (pz_u1 (pz_u1 (pz_u1 iv 2 (iv 2)) 134 (iv 134)) 138 (iv 138)) 139 (iv 139)) 140 (iv 140), dv, cc, ss) (pz_PE (pz_Sh L) (.inr 0) (fun iv9 => ∃ (o9 : Nat → Int) (l9 : Nat → Int) (n9 : Nat → Int) (w9 : Nat → Int) (d9 : Nat → Int), iv9 = pz_u1 (pz_u1 (pz_u1 (pz_u1 (pz_u1 iv 2 o9) 134 l9) 138 n9) 139 w9) 140 d9 ∧ (q_CI k o9 n9 w9 d9 (iv 142) (iv 143) (iv 145) (iv 129) (iv 135)) ∧ (o9 2 = (iv 2) 2)) dv cc ss)
  refine pz_G_of pz_b162_0 ?_
  refine w_loc rfl ?_
  have hc1 : pz_RE (pz_Sh L) 179 [.inr (.inl 2)] (pz_u1 (pz_u1 (pz_u1 (pz_u1 (pz_u1 iv 2 (iv 2)) 134 (iv 134)) 138 (iv 138)) 139 (iv 139)) 140 (iv 140)) (.inl (some (.inr (.inl 138)))) _ := s_X10_knownNet (L := L) (iv := pz_u1 (pz_u1 (pz_u1 (pz_u1 (pz_u1 iv 2 (iv 2)) 134 (iv 134)) 138 (iv 138)) 139 (iv 139)) 140 (iv 140)) (by show q_KR k; exact hk) (by show q_cE k (iv 3); exact hE) (by show q_cB k (iv 4) (iv 5) (iv 6) (iv 7) (iv 8) (iv 9); exact hB) (by show q_cS k (iv 10) (iv 11) (iv 12) (iv 13) (iv 14); exact hS) (by show q_cC k (iv 15) (iv 16); exact hC) (by show q_cL k (iv 25); exact hL) (by show q_CI k (iv 2) (iv 138) (iv 139) (iv 140) (iv 142) (iv 143) (iv 145) (iv 129) (iv 135); exact hci)
  refine w_callE hc1 rfl (pz_cokI is_2 rfl) (fun iv9 h9 => ?_)
  obtain ⟨o9_2, l9_3, n9_4, w9_5, d9_6, h9e, hci, hNK, ho2⟩ := h9
  have h9x : iv9 = pz_u1 (pz_u1 (pz_u1 (pz_u1 (pz_u1 iv 2 o9_2) 134 l9_3) 138 n9_4) 139 w9_5) 140 d9_6 := h9e.trans (by rw [pz_u1_in (r := 2) (q := 140) (by decide)]; rw [pz_u1_in (r := 2) (q := 139) (by decide)]; rw [pz_u1_in (r := 2) (q := 138) (by decide)]; rw [pz_u1_in (r := 2) (q := 134) (by decide)]; rw [pz_u1_top (r := 2)]; rw [pz_u1_in (r := 134) (q := 140) (by decide)]; rw [pz_u1_in (r := 134) (q := 139) (by decide)]; rw [pz_u1_in (r := 134) (q := 138) (by decide)]; rw [pz_u1_top (r := 134)]; rw [pz_u1_in (r := 138) (q := 140) (by decide)]; rw [pz_u1_in (r := 138) (q := 139) (by decide)]; rw [pz_u1_top (r := 138)]; rw [pz_u1_in (r := 139) (q := 140) (by decide)]; rw [pz_u1_top (r := 139)]; rw [pz_u1_top (r := 140)] <;> rfl)
  subst h9x
  clear h9e hc1
  replace hci : q_CI k o9_2 n9_4 w9_5 d9_6 (iv 142) (iv 143) (iv 145) (iv 129) (iv 135) := hci
  replace hNK : q_NK k n9_4 w9_5 d9_6 := hNK
  replace ho2 : o9_2 2 = (iv 2) 2 := ho2
  have hz1 := hNK.2.1
  first | rw [pz_bi_1 hcase0] at hz1 | rw [pz_bi_0 hcase0] at hz1
  refine w_getI (v := n9_4 1) is_138 (by decide) rfl ?_
  by_cases h7 : (n9_4 1) ≠ 0
  · first
    | (exfalso; first | omega | contradiction)
    | (have hc8 : pz_R (pz_Sh L) 173 [.inl (n9_4 1)] (pz_u1 (pz_u1 (pz_u1 (pz_u1 (pz_u1 iv 2 o9_2) 134 l9_3) 138 n9_4) 139 w9_5) 140 d9_6) (.inl none) (pz_u1 (pz_u1 (pz_u1 (pz_u1 (pz_u1 iv 2 o9_2) 134 l9_3) 138 n9_4) 139 w9_5) 140 d9_6) := s_X10_needState_y (n9_4 1) (by show (n9_4 1) ≠ 0; exact h7)
       refine w_callv hc8 rfl rfl ?_
       refine w_pure rfl ?_
       refine w_loc (ls' := [some (.inr (.inl 2)), some (.inl 0)]) (st' := []) rfl ?_
       refine w_nil ?_
       exfalso; first | omega | contradiction)
  · first
    | (exfalso; first | omega | contradiction)
    | (have hc9 : pz_R (pz_Sh L) 173 [.inl (n9_4 1)] (pz_u1 (pz_u1 (pz_u1 (pz_u1 (pz_u1 iv 2 o9_2) 134 l9_3) 138 n9_4) 139 w9_5) 140 d9_6) (.inr 0) (pz_u1 (pz_u1 (pz_u1 (pz_u1 (pz_u1 iv 2 o9_2) 134 l9_3) 138 n9_4) 139 w9_5) 140 d9_6) := s_X10_needState_n (n9_4 1) (by show (n9_4 1) = 0; exact Classical.not_not.mp h7)
       refine w_calle hc9 rfl rfl rfl ?_
       first | exact ⟨pz_u1 (pz_u1 (pz_u1 (pz_u1 (pz_u1 iv 2 o9_2) 134 l9_3) 138 n9_4) 139 w9_5) 140 d9_6, ⟨o9_2, l9_3, n9_4, w9_5, d9_6, by rfl, by exact hci, by exact ho2⟩, lf_e (by rfl)⟩ | (exfalso; omega))

theorem s_X10_level_0 {L : Nat} {iv : Nat → Nat → Int} {k : Nat → Int} (hk : q_KR k) (hE : q_cE k (iv 3)) (hB : q_cB k (iv 4) (iv 5) (iv 6) (iv 7) (iv 8) (iv 9)) (hS : q_cS k (iv 10) (iv 11) (iv 12) (iv 13) (iv 14)) (hC : q_cC k (iv 15) (iv 16)) (hA : q_cA k (iv 17) (iv 18) (iv 19) (iv 20)) (hO : q_cO k (iv 22) (iv 23) (iv 24)) (hL : q_cL k (iv 25)) (hP : q_cP k (iv 27)) (hci : q_CI k (iv 2) (iv 138) (iv 139) (iv 140) (iv 142) (iv 143) (iv 145) (iv 129) (iv 135)) (hcase0 : q_con k (fun _ => 0)) : pz_RE (pz_Sh L) 162 [.inr (.inl 2)] iv (.inl (some (.inl (q_lvk 40 k 1 - k 1)))) (fun iv9 => ∃ (o9 : Nat → Int) (f4 : Nat → Int) (f5 : Nat → Int) (f6 : Nat → Int) (f7 : Nat → Int) (f8 : Nat → Int) (f9 : Nat → Int) (l9 : Nat → Int) (n9 : Nat → Int) (w9 : Nat → Int) (d9 : Nat → Int), iv9 = pz_u1 (pz_u1 (pz_u1 (pz_u1 (pz_u1 (pz_u1 (pz_u1 (pz_u1 (pz_u1 (pz_u1 (pz_u1 iv 2 o9) 4 f4) 5 f5) 6 f6) 7 f7) 8 f8) 9 f9) 134 l9) 138 n9) 139 w9) 140 d9 ∧ (q_CI (q_lvk 40 k) o9 n9 w9 d9 (iv 142) (iv 143) (iv 145) (iv 129) (iv 135)) ∧ (o9 2 = (iv 2) 2) ∧ (q_cB (q_lvk 40 k) f4 f5 f6 f7 f8 f9) ∧ (q_KR (q_lvk 40 k)) ∧ (q_ag k (q_lvk 40 k))) := by
  intro dv cc ss
  have hk0 := hk.r0
  have hE0 := hE
  have hB0 := hB.1
  have hS0 := hS.1
  have hC0 := hC.1
  have hA0 := hA.1
  refine pz_G_mem (iv2 := pz_u1 (pz_u1 (pz_u1 (pz_u1 (pz_u1 (pz_u1 (pz_u1 (pz_u1 (pz_u1 (pz_u1 (pz_u1 iv 2 (iv 2)) 4 (iv 4)) 5 (iv 5)) 6 (iv 6)) 7 (iv 7)) 8 (iv 8)) 9 (iv 9)) 134 (iv 134)) 138 (iv 138)) 139 (iv 139)) 140 (iv 140)) (by exact (((((((((((pz_u1_self iv 2).symm).trans (pz_u1_self (pz_u1 iv 2 (iv 2)) 4).symm).trans (pz_u1_self (pz_u1 (pz_u1 iv 2 (iv 2)) 4 (iv 4)) 5).symm).trans (pz_u1_self (pz_u1 (pz_u1 (pz_u1 iv 2 (iv 2)) 4 (iv 4)) 5 (iv 5)) 6).symm).trans (pz_u1_self (pz_u1 (pz_u1 (pz_u1 (pz_u1 iv 2 (iv 2)) 4 (iv 4)) 5 (iv 5)) 6 (iv 6)) 7).symm).trans (pz_u1_self (pz_u1 (pz_u1 (pz_u1 (pz_u1 (pz_u1 iv 2 (iv 2)) 4 (iv 4)) 5 (iv 5)) 6 (iv 6)) 7 (iv 7)) 8).symm).trans (pz_u1_self (pz_u1 (pz_u1 (pz_u1 (pz_u1 (pz_u1 (pz_u1 iv 2 (iv 2)) 4 (iv 4)) 5 (iv 5)) 6 (iv 6)) 7 (iv 7)) 8 (iv 8)) 9).symm).trans (pz_u1_self (pz_u1 (pz_u1 (pz_u1 (pz_u1 (pz_u1 (pz_u1 (pz_u1 iv 2 (iv 2)) 4 (iv 4)) 5 (iv 5)) 6 (iv 6)) 7 (iv 7)) 8 (iv 8)) 9 (iv 9)) 134).symm).trans (pz_u1_self (pz_u1 (pz_u1 (pz_u1 (pz_u1 (pz_u1 (pz_u1 (pz_u1 (pz_u1 iv 2 (iv 2)) 4 (iv 4)) 5 (iv 5)) 6 (iv 6)) 7 (iv 7)) 8 (iv 8)) 9 (iv 9)) 134 (iv 134)) 138).symm).trans (pz_u1_self (pz_u1 (pz_u1 (pz_u1 (pz_u1 (pz_u1 (pz_u1 (pz_u1 (pz_u1 (pz_u1 iv 2 (iv 2)) 4 (iv 4)) 5 (iv 5)) 6 (iv 6)) 7 (iv 7)) 8 (iv 8)) 9 (iv 9)) 134 (iv 134)) 138 (iv 138)) 139).symm).trans (pz_u1_self (pz_u1 (pz_u1 (pz_u1 (pz_u1 (pz_u1 (pz_u1 (pz_u1 (pz_u1 (pz_u1 (pz_u1 iv 2 (iv 2)) 4 (iv 4)) 5 (iv 5)) 6 (iv 6)) 7 (iv 7)) 8 (iv 8)) 9 (iv 9)) 134 (iv 134)) 138 (iv 138)) 139 (iv 139)) 140).symm) ?_
  show pz_G 162 0 [some (.inr (.inl 2)), none] [] (pz_Sh L, pz_u1 (pz_u1 (pz_u1 (pz_u1 (pz_u1 (pz_u1 (pz_u1 (pz_u1 (pz_u1 (pz_u1 (pz_u1 iv 2 (iv 2)) 4 (iv 4)) 5 (iv 5)) 6 (iv 6)) 7 (iv 7)) 8 (iv 8)) 9 (iv 9)) 134 (iv 134)) 138 (iv 138)) 139 (iv 139)) 140 (iv 140), dv, cc, ss) (pz_PE (pz_Sh L) (.inl (some (.inl (q_lvk 40 k 1 - k 1)))) (fun iv9 => ∃ (o9 : Nat → Int) (f4 : Nat → Int) (f5 : Nat → Int) (f6 : Nat → Int) (f7 : Nat → Int) (f8 : Nat → Int) (f9 : Nat → Int) (l9 : Nat → Int) (n9 : Nat → Int) (w9 : Nat → Int) (d9 : Nat → Int), iv9 = pz_u1 (pz_u1 (pz_u1 (pz_u1 (pz_u1 (pz_u1 (pz_u1 (pz_u1 (pz_u1 (pz_u1 (pz_u1 iv 2 o9) 4 f4) 5 f5) 6 f6) 7 f7) 8 f8) 9 f9) 134 l9) 138 n9) 139 w9) 140 d9 ∧ (q_CI (q_lvk 40 k) o9 n9 w9 d9 (iv 142) (iv 143) (iv 145) (iv 129) (iv 135)) ∧ (o9 2 = (iv 2) 2) ∧ (q_cB (q_lvk 40 k) f4 f5 f6 f7 f8 f9) ∧ (q_KR (q_lvk 40 k)) ∧ (q_ag k (q_lvk 40 k))) dv cc ss)
  refine pz_G_of pz_b162_0 ?_
  refine w_loc rfl ?_
  have hc1 : pz_RE (pz_Sh L) 179 [.inr (.inl 2)] (pz_u1 (pz_u1 (pz_u1 (pz_u1 (pz_u1 (pz_u1 (pz_u1 (pz_u1 (pz_u1 (pz_u1 (pz_u1 iv 2 (iv 2)) 4 (iv 4)) 5 (iv 5)) 6 (iv 6)) 7 (iv 7)) 8 (iv 8)) 9 (iv 9)) 134 (iv 134)) 138 (iv 138)) 139 (iv 139)) 140 (iv 140)) (.inl (some (.inr (.inl 138)))) _ := s_X10_knownNet (L := L) (iv := pz_u1 (pz_u1 (pz_u1 (pz_u1 (pz_u1 (pz_u1 (pz_u1 (pz_u1 (pz_u1 (pz_u1 (pz_u1 iv 2 (iv 2)) 4 (iv 4)) 5 (iv 5)) 6 (iv 6)) 7 (iv 7)) 8 (iv 8)) 9 (iv 9)) 134 (iv 134)) 138 (iv 138)) 139 (iv 139)) 140 (iv 140)) (by show q_KR k; first | exact hk | exact hkk) (by show q_cE k (iv 3); first | exact hE | exact q_cE_ag hE (hag 0 (by omega)) (hag 240 (by omega))) (by show q_cB k (iv 4) (iv 5) (iv 6) (iv 7) (iv 8) (iv 9); first | exact hB | exact hBk) (by show q_cS k (iv 10) (iv 11) (iv 12) (iv 13) (iv 14); first | exact hS | exact q_cS_ag hS (by omega) (hag 2 (by omega)) (fun j g1 g2 => hag j (by omega))) (by show q_cC k (iv 15) (iv 16); first | exact hC | exact q_cC_ag hC (hag 4 (by omega)) (fun j g1 g2 => hag j (by omega))) (by show q_cL k (iv 25); first | exact hL | exact q_cL_ag hL (fun j g1 g2 => hag j (by omega))) (by show q_CI k (iv 2) (iv 138) (iv 139) (iv 140) (iv 142) (iv 143) (iv 145) (iv 129) (iv 135); exact hci)
  refine w_callE hc1 rfl (pz_cokI is_2 rfl) (fun iv9 h9 => ?_)
  obtain ⟨o9_2, l9_3, n9_4, w9_5, d9_6, h9e, hci, hNK, ho2⟩ := h9
  have h9x : iv9 = pz_u1 (pz_u1 (pz_u1 (pz_u1 (pz_u1 (pz_u1 (pz_u1 (pz_u1 (pz_u1 (pz_u1 (pz_u1 iv 2 o9_2) 4 (iv 4)) 5 (iv 5)) 6 (iv 6)) 7 (iv 7)) 8 (iv 8)) 9 (iv 9)) 134 l9_3) 138 n9_4) 139 w9_5) 140 d9_6 := h9e.trans (by rw [pz_u1_in (r := 2) (q := 140) (by decide)]; rw [pz_u1_in (r := 2) (q := 139) (by decide)]; rw [pz_u1_in (r := 2) (q := 138) (by decide)]; rw [pz_u1_in (r := 2) (q := 134) (by decide)]; rw [pz_u1_in (r := 2) (q := 9) (by decide)]; rw [pz_u1_in (r := 2) (q := 8) (by decide)]; rw [pz_u1_in (r := 2) (q := 7) (by decide)]; rw [pz_u1_in (r := 2) (q := 6) (by decide)]; rw [pz_u1_in (r := 2) (q := 5) (by decide)]; rw [pz_u1_in (r := 2) (q := 4) (by decide)]; rw [pz_u1_top (r := 2)]; rw [pz_u1_in (r := 134) (q := 140) (by decide)]; rw [pz_u1_in (r := 134) (q := 139) (by decide)]; rw [pz_u1_in (r := 134) (q := 138) (by decide)]; rw [pz_u1_top (r := 134)]; rw [pz_u1_in (r := 138) (q := 140) (by decide)]; rw [pz_u1_in (r := 138) (q := 139) (by decide)]; rw [pz_u1_top (r := 138)]; rw [pz_u1_in (r := 139) (q := 140) (by decide)]; rw [pz_u1_top (r := 139)]; rw [pz_u1_top (r := 140)] <;> rfl)
  subst h9x
  clear h9e hc1
  replace hci : q_CI k o9_2 n9_4 w9_5 d9_6 (iv 142) (iv 143) (iv 145) (iv 129) (iv 135) := hci
  replace hNK : q_NK k n9_4 w9_5 d9_6 := hNK
  replace ho2 : o9_2 2 = (iv 2) 2 := ho2
  have hz1 := hNK.2.1
  first | rw [pz_bi_1 hcase0] at hz1 | rw [pz_bi_0 hcase0] at hz1
  refine w_getI (v := n9_4 1) is_138 (by decide) rfl ?_
  by_cases h7 : (n9_4 1) ≠ 0
  · first
    | (exfalso; first | omega | contradiction)
    | (have hc8 : pz_R (pz_Sh L) 173 [.inl (n9_4 1)] (pz_u1 (pz_u1 (pz_u1 (pz_u1 (pz_u1 (pz_u1 (pz_u1 (pz_u1 (pz_u1 (pz_u1 (pz_u1 iv 2 o9_2) 4 (iv 4)) 5 (iv 5)) 6 (iv 6)) 7 (iv 7)) 8 (iv 8)) 9 (iv 9)) 134 l9_3) 138 n9_4) 139 w9_5) 140 d9_6) (.inl none) (pz_u1 (pz_u1 (pz_u1 (pz_u1 (pz_u1 (pz_u1 (pz_u1 (pz_u1 (pz_u1 (pz_u1 (pz_u1 iv 2 o9_2) 4 (iv 4)) 5 (iv 5)) 6 (iv 6)) 7 (iv 7)) 8 (iv 8)) 9 (iv 9)) 134 l9_3) 138 n9_4) 139 w9_5) 140 d9_6) := s_X10_needState_y (n9_4 1) (by show (n9_4 1) ≠ 0; exact h7)
       refine w_callv hc8 rfl rfl ?_
       refine w_pure rfl ?_
       refine w_loc (ls' := [some (.inr (.inl 2)), some (.inl 0)]) (st' := []) rfl ?_
       refine w_nil ?_
       have lp12 : ∀ (dd : Nat) (n : Int) (kk : Nat → Int) (g2 : Nat → Int) (g4 : Nat → Int) (g5 : Nat → Int) (g6 : Nat → Int) (g7 : Nat → Int) (g8 : Nat → Int) (g9 : Nat → Int) (g134 : Nat → Int) (g138 : Nat → Int) (g139 : Nat → Int) (g140 : Nat → Int) , (40 - n).toNat = dd → ∀ (hn : (0 ≤ n ∧ n ≤ 40) ∧ kk 1 = k 1 + n), ∀ (hkk : q_KR kk), ∀ (hcc : q_con kk (fun _ => 0)), ∀ (hsk : kk = q_lvk n k), ∀ (hag : q_ag k kk), ∀ (hBk : q_cB kk g4 g5 g6 g7 g8 g9), ∀ (hci : q_CI kk g2 g138 g139 g140 (iv 142) (iv 143) (iv 145) (iv 129) (iv 135)), ∀ (ho2 : g2 2 = iv 2 2),  pz_G 162 12 [some (.inr (.inl 2)), some (.inl n)] [] (pz_Sh L, pz_u1 (pz_u1 (pz_u1 (pz_u1 (pz_u1 (pz_u1 (pz_u1 (pz_u1 (pz_u1 (pz_u1 (pz_u1 iv 2 g2) 4 g4) 5 g5) 6 g6) 7 g7) 8 g8) 9 g9) 134 g134) 138 g138) 139 g139) 140 g140, dv, cc, ss) (pz_PE (pz_Sh L) (.inl (some (.inl (q_lvk 40 k 1 - k 1)))) (fun iv9 => ∃ (o9 : Nat → Int) (f4 : Nat → Int) (f5 : Nat → Int) (f6 : Nat → Int) (f7 : Nat → Int) (f8 : Nat → Int) (f9 : Nat → Int) (l9 : Nat → Int) (n9 : Nat → Int) (w9 : Nat → Int) (d9 : Nat → Int), iv9 = pz_u1 (pz_u1 (pz_u1 (pz_u1 (pz_u1 (pz_u1 (pz_u1 (pz_u1 (pz_u1 (pz_u1 (pz_u1 iv 2 o9) 4 f4) 5 f5) 6 f6) 7 f7) 8 f8) 9 f9) 134 l9) 138 n9) 139 w9) 140 d9 ∧ (q_CI (q_lvk 40 k) o9 n9 w9 d9 (iv 142) (iv 143) (iv 145) (iv 129) (iv 135)) ∧ (o9 2 = (iv 2) 2) ∧ (q_cB (q_lvk 40 k) f4 f5 f6 f7 f8 f9) ∧ (q_KR (q_lvk 40 k)) ∧ (q_ag k (q_lvk 40 k))) dv cc ss) := by
         intro dd12
         induction dd12 using Nat.strongRecOn with
         | _ dd12 ih12 =>
         intro n kk g2 g4 g5 g6 g7 g8 g9 g134 g138 g139 g140  hd12 hn hkk hcc hsk hag hBk hci ho2
         have hkk0 := hkk.r0
         refine pz_G_of pz_b162_12 ?_
         refine w_loc rfl ?_
         refine w_pure rfl ?_
         refine w_ige (fun h9 => ?_) (fun h9 => ?_)
         · first
           | (exfalso; first | omega | contradiction)
           | (have h40 : kk = q_lvk 40 k := by
                first | exact q_lvk_e ⟨hn.1.1, by omega⟩ hsk (by assumption) | (rw [hsk, show n = 40 by omega])
              refine pz_G_of pz_b162_31 ?_
              refine w_loc rfl ?_
              refine w_ret rfl ?_
              first | exact ⟨pz_u1 (pz_u1 (pz_u1 (pz_u1 (pz_u1 (pz_u1 (pz_u1 (pz_u1 (pz_u1 (pz_u1 (pz_u1 iv 2 g2) 4 g4) 5 g5) 6 g6) 7 g7) 8 g8) 9 g9) 134 g134) 138 g138) 139 g139) 140 g140, ⟨g2, g4, g5, g6, g7, g8, g9, g134, g138, g139, g140, by rfl, by rw [← h40]; exact hci, by first | exact ho2 | (rw [ho2]; assumption), by rw [← h40]; exact hBk, by rw [← h40]; exact hkk, by rw [← h40]; exact hag⟩, lf_i (by rw [← h40]; omega) (by rfl)⟩ | (exfalso; omega))
         · first
           | (exfalso; first | omega | contradiction)
           | (refine w_loc rfl ?_
              by_cases h10 : q_lvTk kk
              · first
                | (exfalso; first | omega | contradiction)
                | (have hc11 : pz_RE (pz_Sh L) 183 [.inr (.inl 2)] (pz_u1 (pz_u1 (pz_u1 (pz_u1 (pz_u1 (pz_u1 (pz_u1 (pz_u1 (pz_u1 (pz_u1 (pz_u1 iv 2 g2) 4 g4) 5 g5) 6 g6) 7 g7) 8 g8) 9 g9) 134 g134) 138 g138) 139 g139) 140 g140) (.inl (some (.inl 1))) _ := s_X10_tellBestOrder_y (L := L) (iv := pz_u1 (pz_u1 (pz_u1 (pz_u1 (pz_u1 (pz_u1 (pz_u1 (pz_u1 (pz_u1 (pz_u1 (pz_u1 iv 2 g2) 4 g4) 5 g5) 6 g6) 7 g7) 8 g8) 9 g9) 134 g134) 138 g138) 139 g139) 140 g140) (by show q_KR kk; first | exact hk | exact hkk) (by show q_cE kk (iv 3); first | exact hE | exact q_cE_ag hE (hag 0 (by omega)) (hag 240 (by omega))) (by show q_cB kk g4 g5 g6 g7 g8 g9; first | exact hB | exact hBk) (by show q_cS kk (iv 10) (iv 11) (iv 12) (iv 13) (iv 14); first | exact hS | exact q_cS_ag hS (by omega) (hag 2 (by omega)) (fun j g1 g2 => hag j (by omega))) (by show q_cC kk (iv 15) (iv 16); first | exact hC | exact q_cC_ag hC (hag 4 (by omega)) (fun j g1 g2 => hag j (by omega))) (by show q_cA kk (iv 17) (iv 18) (iv 19) (iv 20); first | exact hA | exact q_cA_ag hA (by omega) (hag 3 (by omega)) (hag 5 (by omega)) (fun j g1 g2 => hag j (by omega))) (by show q_cO kk (iv 22) (iv 23) (iv 24); first | exact hO | exact q_cO_ag hO (fun j g1 g2 => hag j (by omega))) (by show q_cL kk (iv 25); first | exact hL | exact q_cL_ag hL (fun j g1 g2 => hag j (by omega))) (by show q_cP kk (iv 27); first | exact hP | exact q_cP_ag hP (by omega) (hag 240 (by omega)) (fun j g1 g2 => hag j (by omega))) (by show q_CI kk g2 g138 g139 g140 (iv 142) (iv 143) (iv 145) (iv 129) (iv 135); exact hci) (by show q_con kk (fun _ => 0); exact hcc) (by show q_lvTk kk; exact h10)
                   refine w_callE hc11 rfl (pz_cokI is_2 rfl) (fun iv9 h9 => ?_)
                   obtain ⟨o9_12, f4_13, f5_14, f6_15, f7_16, f8_17, f9_18, l9_19, n9_20, w9_21, d9_22, h9e, hof, hBk⟩ := h9
                   have h9x : iv9 = pz_u1 (pz_u1 (pz_u1 (pz_u1 (pz_u1 (pz_u1 (pz_u1 (pz_u1 (pz_u1 (pz_u1 (pz_u1 iv 2 o9_12) 4 f4_13) 5 f5_14) 6 f6_15) 7 f7_16) 8 f8_17) 9 f9_18) 134 l9_19) 138 n9_20) 139 w9_21) 140 d9_22 := h9e.trans (by rw [pz_u1_in (r := 2) (q := 140) (by decide)]; rw [pz_u1_in (r := 2) (q := 139) (by decide)]; rw [pz_u1_in (r := 2) (q := 138) (by decide)]; rw [pz_u1_in (r := 2) (q := 134) (by decide)]; rw [pz_u1_in (r := 2) (q := 9) (by decide)]; rw [pz_u1_in (r := 2) (q := 8) (by decide)]; rw [pz_u1_in (r := 2) (q := 7) (by decide)]; rw [pz_u1_in (r := 2) (q := 6) (by decide)]; rw [pz_u1_in (r := 2) (q := 5) (by decide)]; rw [pz_u1_in (r := 2) (q := 4) (by decide)]; rw [pz_u1_top (r := 2)]; rw [pz_u1_in (r := 4) (q := 140) (by decide)]; rw [pz_u1_in (r := 4) (q := 139) (by decide)]; rw [pz_u1_in (r := 4) (q := 138) (by decide)]; rw [pz_u1_in (r := 4) (q := 134) (by decide)]; rw [pz_u1_in (r := 4) (q := 9) (by decide)]; rw [pz_u1_in (r := 4) (q := 8) (by decide)]; rw [pz_u1_in (r := 4) (q := 7) (by decide)]; rw [pz_u1_in (r := 4) (q := 6) (by decide)]; rw [pz_u1_in (r := 4) (q := 5) (by decide)]; rw [pz_u1_top (r := 4)]; rw [pz_u1_in (r := 5) (q := 140) (by decide)]; rw [pz_u1_in (r := 5) (q := 139) (by decide)]; rw [pz_u1_in (r := 5) (q := 138) (by decide)]; rw [pz_u1_in (r := 5) (q := 134) (by decide)]; rw [pz_u1_in (r := 5) (q := 9) (by decide)]; rw [pz_u1_in (r := 5) (q := 8) (by decide)]; rw [pz_u1_in (r := 5) (q := 7) (by decide)]; rw [pz_u1_in (r := 5) (q := 6) (by decide)]; rw [pz_u1_top (r := 5)]; rw [pz_u1_in (r := 6) (q := 140) (by decide)]; rw [pz_u1_in (r := 6) (q := 139) (by decide)]; rw [pz_u1_in (r := 6) (q := 138) (by decide)]; rw [pz_u1_in (r := 6) (q := 134) (by decide)]; rw [pz_u1_in (r := 6) (q := 9) (by decide)]; rw [pz_u1_in (r := 6) (q := 8) (by decide)]; rw [pz_u1_in (r := 6) (q := 7) (by decide)]; rw [pz_u1_top (r := 6)]; rw [pz_u1_in (r := 7) (q := 140) (by decide)]; rw [pz_u1_in (r := 7) (q := 139) (by decide)]; rw [pz_u1_in (r := 7) (q := 138) (by decide)]; rw [pz_u1_in (r := 7) (q := 134) (by decide)]; rw [pz_u1_in (r := 7) (q := 9) (by decide)]; rw [pz_u1_in (r := 7) (q := 8) (by decide)]; rw [pz_u1_top (r := 7)]; rw [pz_u1_in (r := 8) (q := 140) (by decide)]; rw [pz_u1_in (r := 8) (q := 139) (by decide)]; rw [pz_u1_in (r := 8) (q := 138) (by decide)]; rw [pz_u1_in (r := 8) (q := 134) (by decide)]; rw [pz_u1_in (r := 8) (q := 9) (by decide)]; rw [pz_u1_top (r := 8)]; rw [pz_u1_in (r := 9) (q := 140) (by decide)]; rw [pz_u1_in (r := 9) (q := 139) (by decide)]; rw [pz_u1_in (r := 9) (q := 138) (by decide)]; rw [pz_u1_in (r := 9) (q := 134) (by decide)]; rw [pz_u1_top (r := 9)]; rw [pz_u1_in (r := 134) (q := 140) (by decide)]; rw [pz_u1_in (r := 134) (q := 139) (by decide)]; rw [pz_u1_in (r := 134) (q := 138) (by decide)]; rw [pz_u1_top (r := 134)]; rw [pz_u1_in (r := 138) (q := 140) (by decide)]; rw [pz_u1_in (r := 138) (q := 139) (by decide)]; rw [pz_u1_top (r := 138)]; rw [pz_u1_in (r := 139) (q := 140) (by decide)]; rw [pz_u1_top (r := 139)]; rw [pz_u1_top (r := 140)] <;> rfl)
                   subst h9x
                   clear h9e hc11
                   replace hof : (o9_12 7 = 0 ∧ o9_12 8 = 0 ∧ o9_12 9 = 0) ∧ o9_12 2 = g2 2 := hof
                   replace hBk : q_cB (q_lvK kk (q_D kk)) f4_13 f5_14 f6_15 f7_16 f8_17 f9_18 := hBk
                   refine w_zeq (fun h23 => ?_) (fun h23 => ?_)
                   · first
                     | (exfalso; first | omega | contradiction)
                     | (have h40 : kk = q_lvk 40 k := by
                          first | exact q_lvk_e ⟨hn.1.1, by omega⟩ hsk (by assumption) | (rw [hsk, show n = 40 by omega])
                        refine pz_G_of pz_b162_31 ?_
                        refine w_loc rfl ?_
                        refine w_ret rfl ?_
                        first | exact ⟨pz_u1 (pz_u1 (pz_u1 (pz_u1 (pz_u1 (pz_u1 (pz_u1 (pz_u1 (pz_u1 (pz_u1 (pz_u1 iv 2 o9_12) 4 f4_13) 5 f5_14) 6 f6_15) 7 f7_16) 8 f8_17) 9 f9_18) 134 l9_19) 138 n9_20) 139 w9_21) 140 d9_22, ⟨o9_12, f4_13, f5_14, f6_15, f7_16, f8_17, f9_18, l9_19, n9_20, w9_21, d9_22, by rfl, by rw [← h40]; exact hci, by first | exact ho2 | (rw [ho2]; assumption), by rw [← h40]; exact hBk, by rw [← h40]; exact hkk, by rw [← h40]; exact hag⟩, lf_i (by rw [← h40]; omega) (by rfl)⟩ | (exfalso; omega))
                   · first
                     | (exfalso; first | omega | contradiction)
                     | (refine w_iinc (ls' := [some (.inr (.inl 2)), some (.inl (n + 1))]) rfl rfl rfl (by omega) ?_
                        refine w_goto ?_
                        exact ih12 _ (by omega) (n + 1) (q_lvK kk (q_D kk)) o9_12 f4_13 f5_14 f6_15 f7_16 f8_17 f9_18 l9_19 n9_20 w9_21 d9_22  rfl (by rw [q_lvK_1 (by omega)]; omega) (by exact q_KR_lvk hkk hcc (by assumption)) (by exact q_lv_con hkk hcc (by assumption)) (by exact q_lvk_s hn.1.1 hsk (by assumption)) (by intro j hj; rw [q_lvK_ne (by have := (by assumption : q_lvTk kk).1; omega) hj]; exact hag j hj) (by exact hBk) (by exact q_CI_of hof.1) (by rw [hof.2]; exact ho2)))
              · first
                | (exfalso; first | omega | contradiction)
                | (have hc24 : pz_RE (pz_Sh L) 183 [.inr (.inl 2)] (pz_u1 (pz_u1 (pz_u1 (pz_u1 (pz_u1 (pz_u1 (pz_u1 (pz_u1 (pz_u1 (pz_u1 (pz_u1 iv 2 g2) 4 g4) 5 g5) 6 g6) 7 g7) 8 g8) 9 g9) 134 g134) 138 g138) 139 g139) 140 g140) (.inl (some (.inl 0))) _ := s_X10_tellBestOrder_n (L := L) (iv := pz_u1 (pz_u1 (pz_u1 (pz_u1 (pz_u1 (pz_u1 (pz_u1 (pz_u1 (pz_u1 (pz_u1 (pz_u1 iv 2 g2) 4 g4) 5 g5) 6 g6) 7 g7) 8 g8) 9 g9) 134 g134) 138 g138) 139 g139) 140 g140) (by show q_KR kk; first | exact hk | exact hkk) (by show q_cE kk (iv 3); first | exact hE | exact q_cE_ag hE (hag 0 (by omega)) (hag 240 (by omega))) (by show q_cB kk g4 g5 g6 g7 g8 g9; first | exact hB | exact hBk) (by show q_cS kk (iv 10) (iv 11) (iv 12) (iv 13) (iv 14); first | exact hS | exact q_cS_ag hS (by omega) (hag 2 (by omega)) (fun j g1 g2 => hag j (by omega))) (by show q_cC kk (iv 15) (iv 16); first | exact hC | exact q_cC_ag hC (hag 4 (by omega)) (fun j g1 g2 => hag j (by omega))) (by show q_cA kk (iv 17) (iv 18) (iv 19) (iv 20); first | exact hA | exact q_cA_ag hA (by omega) (hag 3 (by omega)) (hag 5 (by omega)) (fun j g1 g2 => hag j (by omega))) (by show q_cO kk (iv 22) (iv 23) (iv 24); first | exact hO | exact q_cO_ag hO (fun j g1 g2 => hag j (by omega))) (by show q_cL kk (iv 25); first | exact hL | exact q_cL_ag hL (fun j g1 g2 => hag j (by omega))) (by show q_cP kk (iv 27); first | exact hP | exact q_cP_ag hP (by omega) (hag 240 (by omega)) (fun j g1 g2 => hag j (by omega))) (by show q_CI kk g2 g138 g139 g140 (iv 142) (iv 143) (iv 145) (iv 129) (iv 135); exact hci) (by show q_con kk (fun _ => 0); exact hcc) (by show ¬ q_lvTk kk; exact h10)
                   refine w_callE hc24 rfl (pz_cokI is_2 rfl) (fun iv9 h9 => ?_)
                   obtain ⟨o9_25, l9_26, n9_27, w9_28, d9_29, h9e, hci, ho2⟩ := h9
                   have h9x : iv9 = pz_u1 (pz_u1 (pz_u1 (pz_u1 (pz_u1 (pz_u1 (pz_u1 (pz_u1 (pz_u1 (pz_u1 (pz_u1 iv 2 o9_25) 4 g4) 5 g5) 6 g6) 7 g7) 8 g8) 9 g9) 134 l9_26) 138 n9_27) 139 w9_28) 140 d9_29 := h9e.trans (by rw [pz_u1_in (r := 2) (q := 140) (by decide)]; rw [pz_u1_in (r := 2) (q := 139) (by decide)]; rw [pz_u1_in (r := 2) (q := 138) (by decide)]; rw [pz_u1_in (r := 2) (q := 134) (by decide)]; rw [pz_u1_in (r := 2) (q := 9) (by decide)]; rw [pz_u1_in (r := 2) (q := 8) (by decide)]; rw [pz_u1_in (r := 2) (q := 7) (by decide)]; rw [pz_u1_in (r := 2) (q := 6) (by decide)]; rw [pz_u1_in (r := 2) (q := 5) (by decide)]; rw [pz_u1_in (r := 2) (q := 4) (by decide)]; rw [pz_u1_top (r := 2)]; rw [pz_u1_in (r := 134) (q := 140) (by decide)]; rw [pz_u1_in (r := 134) (q := 139) (by decide)]; rw [pz_u1_in (r := 134) (q := 138) (by decide)]; rw [pz_u1_top (r := 134)]; rw [pz_u1_in (r := 138) (q := 140) (by decide)]; rw [pz_u1_in (r := 138) (q := 139) (by decide)]; rw [pz_u1_top (r := 138)]; rw [pz_u1_in (r := 139) (q := 140) (by decide)]; rw [pz_u1_top (r := 139)]; rw [pz_u1_top (r := 140)] <;> rfl)
                   subst h9x
                   clear h9e hc24
                   replace hci : q_CI kk o9_25 n9_27 w9_28 d9_29 (iv 142) (iv 143) (iv 145) (iv 129) (iv 135) := hci
                   replace ho2 : o9_25 2 = g2 2 := ho2
                   refine w_zeq (fun h30 => ?_) (fun h30 => ?_)
                   · first
                     | (exfalso; first | omega | contradiction)
                     | (have h40 : kk = q_lvk 40 k := by
                          first | exact q_lvk_e ⟨hn.1.1, by omega⟩ hsk (by assumption) | (rw [hsk, show n = 40 by omega])
                        refine pz_G_of pz_b162_31 ?_
                        refine w_loc rfl ?_
                        refine w_ret rfl ?_
                        first | exact ⟨pz_u1 (pz_u1 (pz_u1 (pz_u1 (pz_u1 (pz_u1 (pz_u1 (pz_u1 (pz_u1 (pz_u1 (pz_u1 iv 2 o9_25) 4 g4) 5 g5) 6 g6) 7 g7) 8 g8) 9 g9) 134 l9_26) 138 n9_27) 139 w9_28) 140 d9_29, ⟨o9_25, g4, g5, g6, g7, g8, g9, l9_26, n9_27, w9_28, d9_29, by rfl, by rw [← h40]; exact hci, by first | exact ho2 | (rw [ho2]; assumption), by rw [← h40]; exact hBk, by rw [← h40]; exact hkk, by rw [← h40]; exact hag⟩, lf_i (by rw [← h40]; omega) (by rfl)⟩ | (exfalso; omega))
                   · first
                     | (exfalso; first | omega | contradiction)
                     | (refine w_iinc (ls' := [some (.inr (.inl 2)), some (.inl (n + 1))]) rfl rfl rfl (by omega) ?_
                        refine w_goto ?_
                        exact ih12 _ (by omega) (n + 1) (q_lvK kk (q_D kk)) o9_25 g4 g5 g6 g7 g8 g9 l9_26 n9_27 w9_28 d9_29  rfl (by rw [q_lvK_1 (by omega)]; omega) (by exact q_KR_lvk hkk hcc (by assumption)) (by exact q_lv_con hkk hcc (by assumption)) (by exact q_lvk_s hn.1.1 hsk (by assumption)) (by intro j hj; rw [q_lvK_ne (by have := (by assumption : q_lvTk kk).1; omega) hj]; exact hag j hj) (by exact hBk) (by exact q_CI_of hof.1) (by rw [hof.2]; exact ho2))))
       exact lp12 _ 0 k o9_2 (iv 4) (iv 5) (iv 6) (iv 7) (iv 8) (iv 9) l9_3 n9_4 w9_5 d9_6  rfl (by omega) (by exact hk) (by exact hcase0) (by unfold q_lvk; rw [q_fr_0 (by omega)]) (by intro j _; rfl) (by exact hB) (by exact hci) (by exact ho2))
  · first
    | (exfalso; first | omega | contradiction)
    | (have hc31 : pz_R (pz_Sh L) 173 [.inl (n9_4 1)] (pz_u1 (pz_u1 (pz_u1 (pz_u1 (pz_u1 (pz_u1 (pz_u1 (pz_u1 (pz_u1 (pz_u1 (pz_u1 iv 2 o9_2) 4 (iv 4)) 5 (iv 5)) 6 (iv 6)) 7 (iv 7)) 8 (iv 8)) 9 (iv 9)) 134 l9_3) 138 n9_4) 139 w9_5) 140 d9_6) (.inr 0) (pz_u1 (pz_u1 (pz_u1 (pz_u1 (pz_u1 (pz_u1 (pz_u1 (pz_u1 (pz_u1 (pz_u1 (pz_u1 iv 2 o9_2) 4 (iv 4)) 5 (iv 5)) 6 (iv 6)) 7 (iv 7)) 8 (iv 8)) 9 (iv 9)) 134 l9_3) 138 n9_4) 139 w9_5) 140 d9_6) := s_X10_needState_n (n9_4 1) (by show (n9_4 1) = 0; exact Classical.not_not.mp h7)
       refine w_calle hc31 rfl rfl rfl ?_
       first | exact ⟨pz_u1 (pz_u1 (pz_u1 (pz_u1 (pz_u1 (pz_u1 (pz_u1 (pz_u1 (pz_u1 (pz_u1 (pz_u1 iv 2 o9_2) 4 (iv 4)) 5 (iv 5)) 6 (iv 6)) 7 (iv 7)) 8 (iv 8)) 9 (iv 9)) 134 l9_3) 138 n9_4) 139 w9_5) 140 d9_6, ⟨o9_2, (iv 4), (iv 5), (iv 6), (iv 7), (iv 8), (iv 9), l9_3, n9_4, w9_5, d9_6, by rfl, by rw [← h40]; exact hci, by first | exact ho2 | (rw [ho2]; assumption), by rw [← h40]; exact hBk, by rw [← h40]; exact hkk, by rw [← h40]; exact hag⟩, lf_e (by rfl)⟩ | (exfalso; omega))
