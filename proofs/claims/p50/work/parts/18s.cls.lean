
theorem s_X10_isConsistent_0 {L : Nat} {iv : Nat → Nat → Int} {k : Nat → Int} (hk : q_KR k) (hE : q_cE k (iv 3)) (hB : q_cB k (iv 4) (iv 5) (iv 6) (iv 7) (iv 8) (iv 9)) (hS : q_cS k (iv 10) (iv 11) (iv 12) (iv 13) (iv 14)) (hC : q_cC k (iv 15) (iv 16)) (hA : q_cA k (iv 17) (iv 18) (iv 19) (iv 20)) (hO : q_cO k (iv 22) (iv 23) (iv 24)) (hL : q_cL k (iv 25)) (hP : q_cP k (iv 27)) (hci : q_CI k (iv 2) (iv 138) (iv 139) (iv 140) (iv 142) (iv 143) (iv 145) (iv 129) (iv 135)) : pz_RE (pz_Sh L) 131 [.inr (.inl 2)] iv (.inl (some (.inl (pz_bi (q_con k (fun _ => 0)))))) (fun iv9 => ∃ (o9 : Nat → Int) (l9 : Nat → Int) (n9 : Nat → Int) (w9 : Nat → Int) (d9 : Nat → Int), iv9 = pz_u1 (pz_u1 (pz_u1 (pz_u1 (pz_u1 iv 2 o9) 134 l9) 138 n9) 139 w9) 140 d9 ∧ (q_CI k o9 n9 w9 d9 (iv 142) (iv 143) (iv 145) (iv 129) (iv 135)) ∧ (o9 2 = (iv 2) 2)) := by
  intro dv cc ss
  have hk0 := hk.r0
  have hE0 := hE
  have hB0 := hB.1
  have hS0 := hS.1
  have hC0 := hC.1
  have hA0 := hA.1
  refine pz_G_mem (iv2 := pz_u1 (pz_u1 (pz_u1 (pz_u1 (pz_u1 iv 2 (iv 2)) 134 (iv 134)) 138 (iv 138)) 139 (iv 139)) 140 (iv 140)) (by exact (((((pz_u1_self iv 2).symm).trans (pz_u1_self (pz_u1 iv 2 (iv 2)) 134).symm).trans (pz_u1_self (pz_u1 (pz_u1 iv 2 (iv 2)) 134 (iv 134)) 138).symm).trans (pz_u1_self (pz_u1 (pz_u1 (pz_u1 iv 2 (iv 2)) 134 (iv 134)) 138 (iv 138)) 139).symm).trans (pz_u1_self (pz_u1 (pz_u1 (pz_u1 (pz_u1 iv 2 (iv 2)) 134 (iv 134)) 138 (iv 138)) 139 (iv 139)) 140).symm) ?_
  show pz_G 131 0 [some (.inr (.inl 2))] [] (pz_Sh L, pz_u1 (pz_u1 (pz_u1 (pz_u1 (pz_u1 iv 2 (iv 2)) 134 (iv 134)) 138 (iv 138)) 139 (iv 139)) 140 (iv 140), dv, cc, ss) (pz_PE (pz_Sh L) (.inl (some (.inl (pz_bi (q_con k (fun _ => 0)))))) (fun iv9 => ∃ (o9 : Nat → Int) (l9 : Nat → Int) (n9 : Nat → Int) (w9 : Nat → Int) (d9 : Nat → Int), iv9 = pz_u1 (pz_u1 (pz_u1 (pz_u1 (pz_u1 iv 2 o9) 134 l9) 138 n9) 139 w9) 140 d9 ∧ (q_CI k o9 n9 w9 d9 (iv 142) (iv 143) (iv 145) (iv 129) (iv 135)) ∧ (o9 2 = (iv 2) 2)) dv cc ss)
  refine pz_G_of pz_b131_0 ?_
  refine w_loc rfl ?_
  have hc1 := s_X10_knownNet (L := L) (iv := pz_u1 (pz_u1 (pz_u1 (pz_u1 (pz_u1 iv 2 (iv 2)) 134 (iv 134)) 138 (iv 138)) 139 (iv 139)) 140 (iv 140)) (by show q_KR k; exact hk) (by show q_cE k (iv 3); exact hE) (by show q_cB k (iv 4) (iv 5) (iv 6) (iv 7) (iv 8) (iv 9); exact hB) (by show q_cS k (iv 10) (iv 11) (iv 12) (iv 13) (iv 14); exact hS) (by show q_cC k (iv 15) (iv 16); exact hC) (by show q_cL k (iv 25); exact hL) (by show q_CI k (iv 2) (iv 138) (iv 139) (iv 140) (iv 142) (iv 143) (iv 145) (iv 129) (iv 135); exact hci)
  refine w_callE hc1 rfl (pz_cokI is_2 rfl) (fun iv9 h9 => ?_)
  obtain ⟨o9_2, l9_3, n9_4, w9_5, d9_6, h9e, hci, hNK, ho2⟩ := h9
  have h9x : iv9 = pz_u1 (pz_u1 (pz_u1 (pz_u1 (pz_u1 iv 2 o9_2) 134 l9_3) 138 n9_4) 139 w9_5) 140 d9_6 := h9e.trans (by rw [pz_u1_in (r := 2) (q := 140) (by decide)]; rw [pz_u1_in (r := 2) (q := 139) (by decide)]; rw [pz_u1_in (r := 2) (q := 138) (by decide)]; rw [pz_u1_in (r := 2) (q := 134) (by decide)]; rw [pz_u1_top (r := 2)]; rw [pz_u1_in (r := 134) (q := 140) (by decide)]; rw [pz_u1_in (r := 134) (q := 139) (by decide)]; rw [pz_u1_in (r := 134) (q := 138) (by decide)]; rw [pz_u1_top (r := 134)]; rw [pz_u1_in (r := 138) (q := 140) (by decide)]; rw [pz_u1_in (r := 138) (q := 139) (by decide)]; rw [pz_u1_top (r := 138)]; rw [pz_u1_in (r := 139) (q := 140) (by decide)]; rw [pz_u1_top (r := 139)]; rw [pz_u1_top (r := 140)] <;> rfl)
  subst h9x
  replace hci : q_CI k o9_2 n9_4 w9_5 d9_6 (iv 142) (iv 143) (iv 145) (iv 129) (iv 135) := hci
  replace hNK : q_NK k n9_4 w9_5 d9_6 := hNK
  replace ho2 : o9_2 2 = (iv 2) 2 := ho2
  refine w_getI (v := n9_4 1) is_138 (by decide) rfl ?_
  refine w_ret (pz_rok1 (by rw [hNK.2.1]; exact pz_bi01 _)) ?_
  exact ⟨pz_u1 (pz_u1 (pz_u1 (pz_u1 (pz_u1 iv 2 o9_2) 134 l9_3) 138 n9_4) 139 w9_5) 140 d9_6, ⟨o9_2, l9_3, n9_4, w9_5, d9_6, by rfl, by exact hci, by exact ho2⟩, lf_i hNK.2.1 rfl⟩

theorem s_X10_distance_1 {L : Nat} {iv : Nat → Nat → Int} (f : Int) (t : Int) {k : Nat → Int} (hk : q_KR k) (hE : q_cE k (iv 3)) (hB : q_cB k (iv 4) (iv 5) (iv 6) (iv 7) (iv 8) (iv 9)) (hS : q_cS k (iv 10) (iv 11) (iv 12) (iv 13) (iv 14)) (hC : q_cC k (iv 15) (iv 16)) (hA : q_cA k (iv 17) (iv 18) (iv 19) (iv 20)) (hO : q_cO k (iv 22) (iv 23) (iv 24)) (hL : q_cL k (iv 25)) (hP : q_cP k (iv 27)) (hci : q_CI k (iv 2) (iv 138) (iv 139) (iv 140) (iv 142) (iv 143) (iv 145) (iv 129) (iv 135)) (hcase0 : ¬ (0 ≤ f ∧ f ≤ k 0 - 1 ∧ 0 ≤ t ∧ t ≤ k 0 - 1)) : pz_R (pz_Sh L) 132 [.inr (.inl 2), .inl f, .inl t] iv (.inr 2) iv := by
  intro dv cc ss
  have hk0 := hk.r0
  have hE0 := hE
  have hB0 := hB.1
  have hS0 := hS.1
  have hC0 := hC.1
  have hA0 := hA.1
  show pz_G 132 0 [some (.inr (.inl 2)), some (.inl f), some (.inl t)] [] (pz_Sh L, iv, dv, cc, ss) (pz_P (pz_Sh L) (.inr 2) iv dv cc ss)
  refine pz_G_of pz_b132_0 ?_
  refine w_loc rfl ?_
  refine w_loc rfl ?_
  by_cases h1 : 0 ≤ f ∧ f < k 0
  · first
    | (exfalso; first | omega | contradiction)
    | (have hc2 : pz_R (pz_Sh L) 170 [.inr (.inl 2), .inl f] (iv) (.inl none) (iv) := s_X10_needEvent_y f (by exact hE) (by exact h1)
       refine w_callv hc2 rfl (pz_cokI is_2 rfl) ?_
       refine w_loc rfl ?_
       refine w_loc rfl ?_
       by_cases h3 : 0 ≤ t ∧ t < k 0
       · first
         | (exfalso; first | omega | contradiction)
         | (have hc4 : pz_R (pz_Sh L) 170 [.inr (.inl 2), .inl t] (iv) (.inl none) (iv) := s_X10_needEvent_y t (by exact hE) (by exact h3)
            refine w_callv hc4 rfl (pz_cokI is_2 rfl) ?_
            refine w_loc rfl ?_
            by_cases h5 : q_con k (fun _ => 0)
            · first
              | (exfalso; first | omega | contradiction)
              | (have hc6 := s_X10_soundNet_y (L := L) (iv := iv) (by exact hk) (by exact hE) (by exact hB) (by exact hS) (by exact hC) (by exact hL) (by exact hci) (by exact h5)
                 refine w_callE hc6 rfl (pz_cokI is_2 rfl) (fun iv9 h9 => ?_)
                 obtain ⟨o9_7, l9_8, n9_9, w9_10, d9_11, h9e, hci, hNK, ho2⟩ := h9
                 have h9x : iv9 = pz_u1 (pz_u1 (pz_u1 (pz_u1 (pz_u1 iv 2 o9_7) 134 l9_8) 138 n9_9) 139 w9_10) 140 d9_11 := h9e.trans (by rw [pz_u1_top (r := 2)]; rw [pz_u1_top (r := 134)]; rw [pz_u1_top (r := 138)]; rw [pz_u1_top (r := 139)]; rw [pz_u1_top (r := 140)] <;> rfl)
                 subst h9x
                 replace hci : q_CI k o9_7 n9_9 w9_10 d9_11 (iv 142) (iv 143) (iv 145) (iv 129) (iv 135) := hci
                 replace hNK : q_NK k n9_9 w9_10 d9_11 := hNK
                 replace ho2 : o9_7 2 = (iv 2) 2 := ho2
                 have hNt := q_NK_at hk hNK hcase1 (f := f) (t := t) (by omega) (by omega)
                 refine w_loc rfl ?_
                 refine w_loc rfl ?_
                 have hc12 : pz_R (pz_Sh L) 59 [.inr (.inl 138), .inl f, .inl t] (pz_u1 (pz_u1 (pz_u1 (pz_u1 (pz_u1 iv 2 o9_7) 134 l9_8) 138 n9_9) 139 w9_10) 140 d9_11) (.inl (some (.inl (d9_11 (10 * f + t).toNat)))) (pz_u1 (pz_u1 (pz_u1 (pz_u1 (pz_u1 iv 2 o9_7) 134 l9_8) 138 n9_9) 139 w9_10) 140 d9_11) := s_X5_between f t (by show 0 ≤ f ∧ f ≤ 9; omega) (by show 0 ≤ t ∧ t ≤ 9; omega)
                 refine w_call hc12 rfl (pz_cokI is_138 rfl) ?_
                 by_cases h13 : (d9_11 (10 * f + t).toNat) ≠ 1000000000
                 · first
                   | (exfalso; first | omega | contradiction)
                   | (have hc14 : pz_R (pz_Sh L) 177 [.inl (d9_11 (10 * f + t).toNat)] (pz_u1 (pz_u1 (pz_u1 (pz_u1 (pz_u1 iv 2 o9_7) 134 l9_8) 138 n9_9) 139 w9_10) 140 d9_11) (.inl (some (.inl (d9_11 (10 * f + t).toNat)))) (pz_u1 (pz_u1 (pz_u1 (pz_u1 (pz_u1 iv 2 o9_7) 134 l9_8) 138 n9_9) 139 w9_10) 140 d9_11) := s_X10_toldValue_y (d9_11 (10 * f + t).toNat) (by show (d9_11 (10 * f + t).toNat) ≠ 1000000000; exact h13)
                      refine w_call hc14 rfl rfl ?_
                      refine w_ret rfl ?_
                      first | exact lf_i (by first | rfl | omega) (by rfl) | (exfalso; omega))
                 · first
                   | (exfalso; first | omega | contradiction)
                   | (have hc15 : pz_R (pz_Sh L) 177 [.inl (d9_11 (10 * f + t).toNat)] (pz_u1 (pz_u1 (pz_u1 (pz_u1 (pz_u1 iv 2 o9_7) 134 l9_8) 138 n9_9) 139 w9_10) 140 d9_11) (.inr 3) (pz_u1 (pz_u1 (pz_u1 (pz_u1 (pz_u1 iv 2 o9_7) 134 l9_8) 138 n9_9) 139 w9_10) 140 d9_11) := s_X10_toldValue_n (d9_11 (10 * f + t).toNat) (by show ¬ (d9_11 (10 * f + t).toNat) ≠ 1000000000; exact h13)
                      refine w_calle hc15 rfl rfl rfl ?_
                      first | exact lf_e (by rfl) | (exfalso; omega)))
            · first
              | (exfalso; first | omega | contradiction)
              | (have hc16 := s_X10_soundNet_n (L := L) (iv := iv) (by exact hk) (by exact hE) (by exact hB) (by exact hS) (by exact hC) (by exact hL) (by exact hci) (by exact h5)
                 refine w_calleE hc16 rfl (pz_cokI is_2 rfl) rfl (fun iv9 h9 => ?_)
                 obtain ⟨o9_17, l9_18, n9_19, w9_20, d9_21, h9e, hci, ho2⟩ := h9
                 have h9x : iv9 = pz_u1 (pz_u1 (pz_u1 (pz_u1 (pz_u1 iv 2 o9_17) 134 l9_18) 138 n9_19) 139 w9_20) 140 d9_21 := h9e.trans (by rw [pz_u1_top (r := 2)]; rw [pz_u1_top (r := 134)]; rw [pz_u1_top (r := 138)]; rw [pz_u1_top (r := 139)]; rw [pz_u1_top (r := 140)] <;> rfl)
                 subst h9x
                 replace hci : q_CI k o9_17 n9_19 w9_20 d9_21 (iv 142) (iv 143) (iv 145) (iv 129) (iv 135) := hci
                 replace ho2 : o9_17 2 = (iv 2) 2 := ho2
                 first | exact lf_e (by rfl) | (exfalso; omega)))
       · first
         | (exfalso; first | omega | contradiction)
         | (have hc22 : pz_R (pz_Sh L) 170 [.inr (.inl 2), .inl t] (iv) (.inr 2) (iv) := s_X10_needEvent_n t (by exact hE) (by exact h3)
            refine w_calle hc22 rfl (pz_cokI is_2 rfl) rfl ?_
            first | exact lf_e (by rfl) | (exfalso; omega)))
  · first
    | (exfalso; first | omega | contradiction)
    | (have hc23 : pz_R (pz_Sh L) 170 [.inr (.inl 2), .inl f] (iv) (.inr 2) (iv) := s_X10_needEvent_n f (by exact hE) (by exact h1)
       refine w_calle hc23 rfl (pz_cokI is_2 rfl) rfl ?_
       first | exact lf_e (by rfl) | (exfalso; omega))

theorem s_X10_distance_2 {L : Nat} {iv : Nat → Nat → Int} (f : Int) (t : Int) {k : Nat → Int} (hk : q_KR k) (hE : q_cE k (iv 3)) (hB : q_cB k (iv 4) (iv 5) (iv 6) (iv 7) (iv 8) (iv 9)) (hS : q_cS k (iv 10) (iv 11) (iv 12) (iv 13) (iv 14)) (hC : q_cC k (iv 15) (iv 16)) (hA : q_cA k (iv 17) (iv 18) (iv 19) (iv 20)) (hO : q_cO k (iv 22) (iv 23) (iv 24)) (hL : q_cL k (iv 25)) (hP : q_cP k (iv 27)) (hci : q_CI k (iv 2) (iv 138) (iv 139) (iv 140) (iv 142) (iv 143) (iv 145) (iv 129) (iv 135)) (hcase0 : 0 ≤ f ∧ f ≤ k 0 - 1 ∧ 0 ≤ t ∧ t ≤ k 0 - 1) (hcase1 : ¬ q_con k (fun _ => 0)) : pz_RE (pz_Sh L) 132 [.inr (.inl 2), .inl f, .inl t] iv (.inr 0) (fun iv9 => ∃ (o9 : Nat → Int) (l9 : Nat → Int) (n9 : Nat → Int) (w9 : Nat → Int) (d9 : Nat → Int), iv9 = pz_u1 (pz_u1 (pz_u1 (pz_u1 (pz_u1 iv 2 o9) 134 l9) 138 n9) 139 w9) 140 d9 ∧ (q_CI k o9 n9 w9 d9 (iv 142) (iv 143) (iv 145) (iv 129) (iv 135)) ∧ (o9 2 = (iv 2) 2)) := by
  intro dv cc ss
  have hk0 := hk.r0
  have hE0 := hE
  have hB0 := hB.1
  have hS0 := hS.1
  have hC0 := hC.1
  have hA0 := hA.1
  refine pz_G_mem (iv2 := pz_u1 (pz_u1 (pz_u1 (pz_u1 (pz_u1 iv 2 (iv 2)) 134 (iv 134)) 138 (iv 138)) 139 (iv 139)) 140 (iv 140)) (by exact (((((pz_u1_self iv 2).symm).trans (pz_u1_self (pz_u1 iv 2 (iv 2)) 134).symm).trans (pz_u1_self (pz_u1 (pz_u1 iv 2 (iv 2)) 134 (iv 134)) 138).symm).trans (pz_u1_self (pz_u1 (pz_u1 (pz_u1 iv 2 (iv 2)) 134 (iv 134)) 138 (iv 138)) 139).symm).trans (pz_u1_self (pz_u1 (pz_u1 (pz_u1 (pz_u1 iv 2 (iv 2)) 134 (iv 134)) 138 (iv 138)) 139 (iv 139)) 140).symm) ?_
  show pz_G 132 0 [some (.inr (.inl 2)), some (.inl f), some (.inl t)] [] (pz_Sh L, pz_u1 (pz_u1 (pz_u1 (pz_u1 (pz_u1 iv 2 (iv 2)) 134 (iv 134)) 138 (iv 138)) 139 (iv 139)) 140 (iv 140), dv, cc, ss) (pz_PE (pz_Sh L) (.inr 0) (fun iv9 => ∃ (o9 : Nat → Int) (l9 : Nat → Int) (n9 : Nat → Int) (w9 : Nat → Int) (d9 : Nat → Int), iv9 = pz_u1 (pz_u1 (pz_u1 (pz_u1 (pz_u1 iv 2 o9) 134 l9) 138 n9) 139 w9) 140 d9 ∧ (q_CI k o9 n9 w9 d9 (iv 142) (iv 143) (iv 145) (iv 129) (iv 135)) ∧ (o9 2 = (iv 2) 2)) dv cc ss)
  refine pz_G_of pz_b132_0 ?_
  refine w_loc rfl ?_
  refine w_loc rfl ?_
  by_cases h1 : 0 ≤ f ∧ f < k 0
  · first
    | (exfalso; first | omega | contradiction)
    | (have hc2 : pz_R (pz_Sh L) 170 [.inr (.inl 2), .inl f] (pz_u1 (pz_u1 (pz_u1 (pz_u1 (pz_u1 iv 2 (iv 2)) 134 (iv 134)) 138 (iv 138)) 139 (iv 139)) 140 (iv 140)) (.inl none) (pz_u1 (pz_u1 (pz_u1 (pz_u1 (pz_u1 iv 2 (iv 2)) 134 (iv 134)) 138 (iv 138)) 139 (iv 139)) 140 (iv 140)) := s_X10_needEvent_y f (by show q_cE k (iv 3); exact hE) (by show 0 ≤ f ∧ f < k 0; exact h1)
       refine w_callv hc2 rfl (pz_cokI is_2 rfl) ?_
       refine w_loc rfl ?_
       refine w_loc rfl ?_
       by_cases h3 : 0 ≤ t ∧ t < k 0
       · first
         | (exfalso; first | omega | contradiction)
         | (have hc4 : pz_R (pz_Sh L) 170 [.inr (.inl 2), .inl t] (pz_u1 (pz_u1 (pz_u1 (pz_u1 (pz_u1 iv 2 (iv 2)) 134 (iv 134)) 138 (iv 138)) 139 (iv 139)) 140 (iv 140)) (.inl none) (pz_u1 (pz_u1 (pz_u1 (pz_u1 (pz_u1 iv 2 (iv 2)) 134 (iv 134)) 138 (iv 138)) 139 (iv 139)) 140 (iv 140)) := s_X10_needEvent_y t (by show q_cE k (iv 3); exact hE) (by show 0 ≤ t ∧ t < k 0; exact h3)
            refine w_callv hc4 rfl (pz_cokI is_2 rfl) ?_
            refine w_loc rfl ?_
            by_cases h5 : q_con k (fun _ => 0)
            · first
              | (exfalso; first | omega | contradiction)
              | (have hc6 := s_X10_soundNet_y (L := L) (iv := pz_u1 (pz_u1 (pz_u1 (pz_u1 (pz_u1 iv 2 (iv 2)) 134 (iv 134)) 138 (iv 138)) 139 (iv 139)) 140 (iv 140)) (by show q_KR k; exact hk) (by show q_cE k (iv 3); exact hE) (by show q_cB k (iv 4) (iv 5) (iv 6) (iv 7) (iv 8) (iv 9); exact hB) (by show q_cS k (iv 10) (iv 11) (iv 12) (iv 13) (iv 14); exact hS) (by show q_cC k (iv 15) (iv 16); exact hC) (by show q_cL k (iv 25); exact hL) (by show q_CI k (iv 2) (iv 138) (iv 139) (iv 140) (iv 142) (iv 143) (iv 145) (iv 129) (iv 135); exact hci) (by show q_con k (fun _ => 0); exact h5)
                 refine w_callE hc6 rfl (pz_cokI is_2 rfl) (fun iv9 h9 => ?_)
                 obtain ⟨o9_7, l9_8, n9_9, w9_10, d9_11, h9e, hci, hNK, ho2⟩ := h9
                 have h9x : iv9 = pz_u1 (pz_u1 (pz_u1 (pz_u1 (pz_u1 iv 2 o9_7) 134 l9_8) 138 n9_9) 139 w9_10) 140 d9_11 := h9e.trans (by rw [pz_u1_in (r := 2) (q := 140) (by decide)]; rw [pz_u1_in (r := 2) (q := 139) (by decide)]; rw [pz_u1_in (r := 2) (q := 138) (by decide)]; rw [pz_u1_in (r := 2) (q := 134) (by decide)]; rw [pz_u1_top (r := 2)]; rw [pz_u1_in (r := 134) (q := 140) (by decide)]; rw [pz_u1_in (r := 134) (q := 139) (by decide)]; rw [pz_u1_in (r := 134) (q := 138) (by decide)]; rw [pz_u1_top (r := 134)]; rw [pz_u1_in (r := 138) (q := 140) (by decide)]; rw [pz_u1_in (r := 138) (q := 139) (by decide)]; rw [pz_u1_top (r := 138)]; rw [pz_u1_in (r := 139) (q := 140) (by decide)]; rw [pz_u1_top (r := 139)]; rw [pz_u1_top (r := 140)] <;> rfl)
                 subst h9x
                 replace hci : q_CI k o9_7 n9_9 w9_10 d9_11 (iv 142) (iv 143) (iv 145) (iv 129) (iv 135) := hci
                 replace hNK : q_NK k n9_9 w9_10 d9_11 := hNK
                 replace ho2 : o9_7 2 = (iv 2) 2 := ho2
                 refine w_loc rfl ?_
                 refine w_loc rfl ?_
                 have hc12 : pz_R (pz_Sh L) 59 [.inr (.inl 138), .inl f, .inl t] (pz_u1 (pz_u1 (pz_u1 (pz_u1 (pz_u1 iv 2 o9_7) 134 l9_8) 138 n9_9) 139 w9_10) 140 d9_11) (.inl (some (.inl (d9_11 (10 * f + t).toNat)))) (pz_u1 (pz_u1 (pz_u1 (pz_u1 (pz_u1 iv 2 o9_7) 134 l9_8) 138 n9_9) 139 w9_10) 140 d9_11) := s_X5_between f t (by show 0 ≤ f ∧ f ≤ 9; omega) (by show 0 ≤ t ∧ t ≤ 9; omega)
                 refine w_call hc12 rfl (pz_cokI is_138 rfl) ?_
                 by_cases h13 : (d9_11 (10 * f + t).toNat) ≠ 1000000000
                 · first
                   | (exfalso; first | omega | contradiction)
                   | (have hc14 : pz_R (pz_Sh L) 177 [.inl (d9_11 (10 * f + t).toNat)] (pz_u1 (pz_u1 (pz_u1 (pz_u1 (pz_u1 iv 2 o9_7) 134 l9_8) 138 n9_9) 139 w9_10) 140 d9_11) (.inl (some (.inl (d9_11 (10 * f + t).toNat)))) (pz_u1 (pz_u1 (pz_u1 (pz_u1 (pz_u1 iv 2 o9_7) 134 l9_8) 138 n9_9) 139 w9_10) 140 d9_11) := s_X10_toldValue_y (d9_11 (10 * f + t).toNat) (by show (d9_11 (10 * f + t).toNat) ≠ 1000000000; exact h13)
                      refine w_call hc14 rfl rfl ?_
                      refine w_ret rfl ?_
                      first | exact ⟨pz_u1 (pz_u1 (pz_u1 (pz_u1 (pz_u1 iv 2 o9_7) 134 l9_8) 138 n9_9) 139 w9_10) 140 d9_11, ⟨o9_7, l9_8, n9_9, w9_10, d9_11, by rfl, by exact hci, by exact ho2⟩, lf_i (by first | rfl | omega) (by rfl)⟩ | (exfalso; omega))
                 · first
                   | (exfalso; first | omega | contradiction)
                   | (have hc15 : pz_R (pz_Sh L) 177 [.inl (d9_11 (10 * f + t).toNat)] (pz_u1 (pz_u1 (pz_u1 (pz_u1 (pz_u1 iv 2 o9_7) 134 l9_8) 138 n9_9) 139 w9_10) 140 d9_11) (.inr 3) (pz_u1 (pz_u1 (pz_u1 (pz_u1 (pz_u1 iv 2 o9_7) 134 l9_8) 138 n9_9) 139 w9_10) 140 d9_11) := s_X10_toldValue_n (d9_11 (10 * f + t).toNat) (by show ¬ (d9_11 (10 * f + t).toNat) ≠ 1000000000; exact h13)
                      refine w_calle hc15 rfl rfl rfl ?_
                      first | exact ⟨pz_u1 (pz_u1 (pz_u1 (pz_u1 (pz_u1 iv 2 o9_7) 134 l9_8) 138 n9_9) 139 w9_10) 140 d9_11, ⟨o9_7, l9_8, n9_9, w9_10, d9_11, by rfl, by exact hci, by exact ho2⟩, lf_e (by rfl)⟩ | (exfalso; omega)))
            · first
              | (exfalso; first | omega | contradiction)
              | (have hc16 := s_X10_soundNet_n (L := L) (iv := pz_u1 (pz_u1 (pz_u1 (pz_u1 (pz_u1 iv 2 (iv 2)) 134 (iv 134)) 138 (iv 138)) 139 (iv 139)) 140 (iv 140)) (by show q_KR k; exact hk) (by show q_cE k (iv 3); exact hE) (by show q_cB k (iv 4) (iv 5) (iv 6) (iv 7) (iv 8) (iv 9); exact hB) (by show q_cS k (iv 10) (iv 11) (iv 12) (iv 13) (iv 14); exact hS) (by show q_cC k (iv 15) (iv 16); exact hC) (by show q_cL k (iv 25); exact hL) (by show q_CI k (iv 2) (iv 138) (iv 139) (iv 140) (iv 142) (iv 143) (iv 145) (iv 129) (iv 135); exact hci) (by show ¬ q_con k (fun _ => 0); exact h5)
                 refine w_calleE hc16 rfl (pz_cokI is_2 rfl) rfl (fun iv9 h9 => ?_)
                 obtain ⟨o9_17, l9_18, n9_19, w9_20, d9_21, h9e, hci, ho2⟩ := h9
                 have h9x : iv9 = pz_u1 (pz_u1 (pz_u1 (pz_u1 (pz_u1 iv 2 o9_17) 134 l9_18) 138 n9_19) 139 w9_20) 140 d9_21 := h9e.trans (by rw [pz_u1_in (r := 2) (q := 140) (by decide)]; rw [pz_u1_in (r := 2) (q := 139) (by decide)]; rw [pz_u1_in (r := 2) (q := 138) (by decide)]; rw [pz_u1_in (r := 2) (q := 134) (by decide)]; rw [pz_u1_top (r := 2)]; rw [pz_u1_in (r := 134) (q := 140) (by decide)]; rw [pz_u1_in (r := 134) (q := 139) (by decide)]; rw [pz_u1_in (r := 134) (q := 138) (by decide)]; rw [pz_u1_top (r := 134)]; rw [pz_u1_in (r := 138) (q := 140) (by decide)]; rw [pz_u1_in (r := 138) (q := 139) (by decide)]; rw [pz_u1_top (r := 138)]; rw [pz_u1_in (r := 139) (q := 140) (by decide)]; rw [pz_u1_top (r := 139)]; rw [pz_u1_top (r := 140)] <;> rfl)
                 subst h9x
                 replace hci : q_CI k o9_17 n9_19 w9_20 d9_21 (iv 142) (iv 143) (iv 145) (iv 129) (iv 135) := hci
                 replace ho2 : o9_17 2 = (iv 2) 2 := ho2
                 first | exact ⟨pz_u1 (pz_u1 (pz_u1 (pz_u1 (pz_u1 iv 2 o9_17) 134 l9_18) 138 n9_19) 139 w9_20) 140 d9_21, ⟨o9_17, l9_18, n9_19, w9_20, d9_21, by rfl, by exact hci, by exact ho2⟩, lf_e (by rfl)⟩ | (exfalso; omega)))
       · first
         | (exfalso; first | omega | contradiction)
         | (have hc22 : pz_R (pz_Sh L) 170 [.inr (.inl 2), .inl t] (pz_u1 (pz_u1 (pz_u1 (pz_u1 (pz_u1 iv 2 (iv 2)) 134 (iv 134)) 138 (iv 138)) 139 (iv 139)) 140 (iv 140)) (.inr 2) (pz_u1 (pz_u1 (pz_u1 (pz_u1 (pz_u1 iv 2 (iv 2)) 134 (iv 134)) 138 (iv 138)) 139 (iv 139)) 140 (iv 140)) := s_X10_needEvent_n t (by show q_cE k (iv 3); exact hE) (by show ¬ (0 ≤ t ∧ t < k 0); exact h3)
            refine w_calle hc22 rfl (pz_cokI is_2 rfl) rfl ?_
            first | exact ⟨pz_u1 (pz_u1 (pz_u1 (pz_u1 (pz_u1 iv 2 (iv 2)) 134 (iv 134)) 138 (iv 138)) 139 (iv 139)) 140 (iv 140), ⟨(iv 2), (iv 134), (iv 138), (iv 139), (iv 140), by rfl, by exact hci, by exact ho2⟩, lf_e (by rfl)⟩ | (exfalso; omega)))
  · first
    | (exfalso; first | omega | contradiction)
    | (have hc23 : pz_R (pz_Sh L) 170 [.inr (.inl 2), .inl f] (pz_u1 (pz_u1 (pz_u1 (pz_u1 (pz_u1 iv 2 (iv 2)) 134 (iv 134)) 138 (iv 138)) 139 (iv 139)) 140 (iv 140)) (.inr 2) (pz_u1 (pz_u1 (pz_u1 (pz_u1 (pz_u1 iv 2 (iv 2)) 134 (iv 134)) 138 (iv 138)) 139 (iv 139)) 140 (iv 140)) := s_X10_needEvent_n f (by show q_cE k (iv 3); exact hE) (by show ¬ (0 ≤ f ∧ f < k 0); exact h1)
       refine w_calle hc23 rfl (pz_cokI is_2 rfl) rfl ?_
       first | exact ⟨pz_u1 (pz_u1 (pz_u1 (pz_u1 (pz_u1 iv 2 (iv 2)) 134 (iv 134)) 138 (iv 138)) 139 (iv 139)) 140 (iv 140), ⟨(iv 2), (iv 134), (iv 138), (iv 139), (iv 140), by rfl, by exact hci, by exact ho2⟩, lf_e (by rfl)⟩ | (exfalso; omega))

theorem s_X10_distance_3 {L : Nat} {iv : Nat → Nat → Int} (f : Int) (t : Int) {k : Nat → Int} (hk : q_KR k) (hE : q_cE k (iv 3)) (hB : q_cB k (iv 4) (iv 5) (iv 6) (iv 7) (iv 8) (iv 9)) (hS : q_cS k (iv 10) (iv 11) (iv 12) (iv 13) (iv 14)) (hC : q_cC k (iv 15) (iv 16)) (hA : q_cA k (iv 17) (iv 18) (iv 19) (iv 20)) (hO : q_cO k (iv 22) (iv 23) (iv 24)) (hL : q_cL k (iv 25)) (hP : q_cP k (iv 27)) (hci : q_CI k (iv 2) (iv 138) (iv 139) (iv 140) (iv 142) (iv 143) (iv 145) (iv 129) (iv 135)) (hcase0 : 0 ≤ f ∧ f ≤ k 0 - 1 ∧ 0 ≤ t ∧ t ≤ k 0 - 1) (hcase1 : q_con k (fun _ => 0)) (hcase2 : q_D k (10 * f + t).toNat = 1000000) : pz_RE (pz_Sh L) 132 [.inr (.inl 2), .inl f, .inl t] iv (.inr 3) (fun iv9 => ∃ (o9 : Nat → Int) (l9 : Nat → Int) (n9 : Nat → Int) (w9 : Nat → Int) (d9 : Nat → Int), iv9 = pz_u1 (pz_u1 (pz_u1 (pz_u1 (pz_u1 iv 2 o9) 134 l9) 138 n9) 139 w9) 140 d9 ∧ (q_CI k o9 n9 w9 d9 (iv 142) (iv 143) (iv 145) (iv 129) (iv 135)) ∧ (o9 2 = (iv 2) 2)) := by
  intro dv cc ss
  have hk0 := hk.r0
  have hE0 := hE
  have hB0 := hB.1
  have hS0 := hS.1
  have hC0 := hC.1
  have hA0 := hA.1
  refine pz_G_mem (iv2 := pz_u1 (pz_u1 (pz_u1 (pz_u1 (pz_u1 iv 2 (iv 2)) 134 (iv 134)) 138 (iv 138)) 139 (iv 139)) 140 (iv 140)) (by exact (((((pz_u1_self iv 2).symm).trans (pz_u1_self (pz_u1 iv 2 (iv 2)) 134).symm).trans (pz_u1_self (pz_u1 (pz_u1 iv 2 (iv 2)) 134 (iv 134)) 138).symm).trans (pz_u1_self (pz_u1 (pz_u1 (pz_u1 iv 2 (iv 2)) 134 (iv 134)) 138 (iv 138)) 139).symm).trans (pz_u1_self (pz_u1 (pz_u1 (pz_u1 (pz_u1 iv 2 (iv 2)) 134 (iv 134)) 138 (iv 138)) 139 (iv 139)) 140).symm) ?_
  show pz_G 132 0 [some (.inr (.inl 2)), some (.inl f), some (.inl t)] [] (pz_Sh L, pz_u1 (pz_u1 (pz_u1 (pz_u1 (pz_u1 iv 2 (iv 2)) 134 (iv 134)) 138 (iv 138)) 139 (iv 139)) 140 (iv 140), dv, cc, ss) (pz_PE (pz_Sh L) (.inr 3) (fun iv9 => ∃ (o9 : Nat → Int) (l9 : Nat → Int) (n9 : Nat → Int) (w9 : Nat → Int) (d9 : Nat → Int), iv9 = pz_u1 (pz_u1 (pz_u1 (pz_u1 (pz_u1 iv 2 o9) 134 l9) 138 n9) 139 w9) 140 d9 ∧ (q_CI k o9 n9 w9 d9 (iv 142) (iv 143) (iv 145) (iv 129) (iv 135)) ∧ (o9 2 = (iv 2) 2)) dv cc ss)
  refine pz_G_of pz_b132_0 ?_
  refine w_loc rfl ?_
  refine w_loc rfl ?_
  by_cases h1 : 0 ≤ f ∧ f < k 0
  · first
    | (exfalso; first | omega | contradiction)
    | (have hc2 : pz_R (pz_Sh L) 170 [.inr (.inl 2), .inl f] (pz_u1 (pz_u1 (pz_u1 (pz_u1 (pz_u1 iv 2 (iv 2)) 134 (iv 134)) 138 (iv 138)) 139 (iv 139)) 140 (iv 140)) (.inl none) (pz_u1 (pz_u1 (pz_u1 (pz_u1 (pz_u1 iv 2 (iv 2)) 134 (iv 134)) 138 (iv 138)) 139 (iv 139)) 140 (iv 140)) := s_X10_needEvent_y f (by show q_cE k (iv 3); exact hE) (by show 0 ≤ f ∧ f < k 0; exact h1)
       refine w_callv hc2 rfl (pz_cokI is_2 rfl) ?_
       refine w_loc rfl ?_
       refine w_loc rfl ?_
       by_cases h3 : 0 ≤ t ∧ t < k 0
       · first
         | (exfalso; first | omega | contradiction)
         | (have hc4 : pz_R (pz_Sh L) 170 [.inr (.inl 2), .inl t] (pz_u1 (pz_u1 (pz_u1 (pz_u1 (pz_u1 iv 2 (iv 2)) 134 (iv 134)) 138 (iv 138)) 139 (iv 139)) 140 (iv 140)) (.inl none) (pz_u1 (pz_u1 (pz_u1 (pz_u1 (pz_u1 iv 2 (iv 2)) 134 (iv 134)) 138 (iv 138)) 139 (iv 139)) 140 (iv 140)) := s_X10_needEvent_y t (by show q_cE k (iv 3); exact hE) (by show 0 ≤ t ∧ t < k 0; exact h3)
            refine w_callv hc4 rfl (pz_cokI is_2 rfl) ?_
            refine w_loc rfl ?_
            by_cases h5 : q_con k (fun _ => 0)
            · first
              | (exfalso; first | omega | contradiction)
              | (have hc6 := s_X10_soundNet_y (L := L) (iv := pz_u1 (pz_u1 (pz_u1 (pz_u1 (pz_u1 iv 2 (iv 2)) 134 (iv 134)) 138 (iv 138)) 139 (iv 139)) 140 (iv 140)) (by show q_KR k; exact hk) (by show q_cE k (iv 3); exact hE) (by show q_cB k (iv 4) (iv 5) (iv 6) (iv 7) (iv 8) (iv 9); exact hB) (by show q_cS k (iv 10) (iv 11) (iv 12) (iv 13) (iv 14); exact hS) (by show q_cC k (iv 15) (iv 16); exact hC) (by show q_cL k (iv 25); exact hL) (by show q_CI k (iv 2) (iv 138) (iv 139) (iv 140) (iv 142) (iv 143) (iv 145) (iv 129) (iv 135); exact hci) (by show q_con k (fun _ => 0); exact h5)
                 refine w_callE hc6 rfl (pz_cokI is_2 rfl) (fun iv9 h9 => ?_)
                 obtain ⟨o9_7, l9_8, n9_9, w9_10, d9_11, h9e, hci, hNK, ho2⟩ := h9
                 have h9x : iv9 = pz_u1 (pz_u1 (pz_u1 (pz_u1 (pz_u1 iv 2 o9_7) 134 l9_8) 138 n9_9) 139 w9_10) 140 d9_11 := h9e.trans (by rw [pz_u1_in (r := 2) (q := 140) (by decide)]; rw [pz_u1_in (r := 2) (q := 139) (by decide)]; rw [pz_u1_in (r := 2) (q := 138) (by decide)]; rw [pz_u1_in (r := 2) (q := 134) (by decide)]; rw [pz_u1_top (r := 2)]; rw [pz_u1_in (r := 134) (q := 140) (by decide)]; rw [pz_u1_in (r := 134) (q := 139) (by decide)]; rw [pz_u1_in (r := 134) (q := 138) (by decide)]; rw [pz_u1_top (r := 134)]; rw [pz_u1_in (r := 138) (q := 140) (by decide)]; rw [pz_u1_in (r := 138) (q := 139) (by decide)]; rw [pz_u1_top (r := 138)]; rw [pz_u1_in (r := 139) (q := 140) (by decide)]; rw [pz_u1_top (r := 139)]; rw [pz_u1_top (r := 140)] <;> rfl)
                 subst h9x
                 replace hci : q_CI k o9_7 n9_9 w9_10 d9_11 (iv 142) (iv 143) (iv 145) (iv 129) (iv 135) := hci
                 replace hNK : q_NK k n9_9 w9_10 d9_11 := hNK
                 replace ho2 : o9_7 2 = (iv 2) 2 := ho2
                 have hNt := q_NK_at hk hNK hcase1 (f := f) (t := t) (by omega) (by omega)
                 refine w_loc rfl ?_
                 refine w_loc rfl ?_
                 have hc12 : pz_R (pz_Sh L) 59 [.inr (.inl 138), .inl f, .inl t] (pz_u1 (pz_u1 (pz_u1 (pz_u1 (pz_u1 iv 2 o9_7) 134 l9_8) 138 n9_9) 139 w9_10) 140 d9_11) (.inl (some (.inl (d9_11 (10 * f + t).toNat)))) (pz_u1 (pz_u1 (pz_u1 (pz_u1 (pz_u1 iv 2 o9_7) 134 l9_8) 138 n9_9) 139 w9_10) 140 d9_11) := s_X5_between f t (by show 0 ≤ f ∧ f ≤ 9; omega) (by show 0 ≤ t ∧ t ≤ 9; omega)
                 refine w_call hc12 rfl (pz_cokI is_138 rfl) ?_
                 by_cases h13 : (d9_11 (10 * f + t).toNat) ≠ 1000000000
                 · first
                   | (exfalso; first | omega | contradiction)
                   | (have hc14 : pz_R (pz_Sh L) 177 [.inl (d9_11 (10 * f + t).toNat)] (pz_u1 (pz_u1 (pz_u1 (pz_u1 (pz_u1 iv 2 o9_7) 134 l9_8) 138 n9_9) 139 w9_10) 140 d9_11) (.inl (some (.inl (d9_11 (10 * f + t).toNat)))) (pz_u1 (pz_u1 (pz_u1 (pz_u1 (pz_u1 iv 2 o9_7) 134 l9_8) 138 n9_9) 139 w9_10) 140 d9_11) := s_X10_toldValue_y (d9_11 (10 * f + t).toNat) (by show (d9_11 (10 * f + t).toNat) ≠ 1000000000; exact h13)
                      refine w_call hc14 rfl rfl ?_
                      refine w_ret rfl ?_
                      first | exact ⟨pz_u1 (pz_u1 (pz_u1 (pz_u1 (pz_u1 iv 2 o9_7) 134 l9_8) 138 n9_9) 139 w9_10) 140 d9_11, ⟨o9_7, l9_8, n9_9, w9_10, d9_11, by rfl, by exact hci, by exact ho2⟩, lf_i (by first | rfl | omega) (by rfl)⟩ | (exfalso; omega))
                 · first
                   | (exfalso; first | omega | contradiction)
                   | (have hc15 : pz_R (pz_Sh L) 177 [.inl (d9_11 (10 * f + t).toNat)] (pz_u1 (pz_u1 (pz_u1 (pz_u1 (pz_u1 iv 2 o9_7) 134 l9_8) 138 n9_9) 139 w9_10) 140 d9_11) (.inr 3) (pz_u1 (pz_u1 (pz_u1 (pz_u1 (pz_u1 iv 2 o9_7) 134 l9_8) 138 n9_9) 139 w9_10) 140 d9_11) := s_X10_toldValue_n (d9_11 (10 * f + t).toNat) (by show ¬ (d9_11 (10 * f + t).toNat) ≠ 1000000000; exact h13)
                      refine w_calle hc15 rfl rfl rfl ?_
                      first | exact ⟨pz_u1 (pz_u1 (pz_u1 (pz_u1 (pz_u1 iv 2 o9_7) 134 l9_8) 138 n9_9) 139 w9_10) 140 d9_11, ⟨o9_7, l9_8, n9_9, w9_10, d9_11, by rfl, by exact hci, by exact ho2⟩, lf_e (by rfl)⟩ | (exfalso; omega)))
            · first
              | (exfalso; first | omega | contradiction)
              | (have hc16 := s_X10_soundNet_n (L := L) (iv := pz_u1 (pz_u1 (pz_u1 (pz_u1 (pz_u1 iv 2 (iv 2)) 134 (iv 134)) 138 (iv 138)) 139 (iv 139)) 140 (iv 140)) (by show q_KR k; exact hk) (by show q_cE k (iv 3); exact hE) (by show q_cB k (iv 4) (iv 5) (iv 6) (iv 7) (iv 8) (iv 9); exact hB) (by show q_cS k (iv 10) (iv 11) (iv 12) (iv 13) (iv 14); exact hS) (by show q_cC k (iv 15) (iv 16); exact hC) (by show q_cL k (iv 25); exact hL) (by show q_CI k (iv 2) (iv 138) (iv 139) (iv 140) (iv 142) (iv 143) (iv 145) (iv 129) (iv 135); exact hci) (by show ¬ q_con k (fun _ => 0); exact h5)
                 refine w_calleE hc16 rfl (pz_cokI is_2 rfl) rfl (fun iv9 h9 => ?_)
                 obtain ⟨o9_17, l9_18, n9_19, w9_20, d9_21, h9e, hci, ho2⟩ := h9
                 have h9x : iv9 = pz_u1 (pz_u1 (pz_u1 (pz_u1 (pz_u1 iv 2 o9_17) 134 l9_18) 138 n9_19) 139 w9_20) 140 d9_21 := h9e.trans (by rw [pz_u1_in (r := 2) (q := 140) (by decide)]; rw [pz_u1_in (r := 2) (q := 139) (by decide)]; rw [pz_u1_in (r := 2) (q := 138) (by decide)]; rw [pz_u1_in (r := 2) (q := 134) (by decide)]; rw [pz_u1_top (r := 2)]; rw [pz_u1_in (r := 134) (q := 140) (by decide)]; rw [pz_u1_in (r := 134) (q := 139) (by decide)]; rw [pz_u1_in (r := 134) (q := 138) (by decide)]; rw [pz_u1_top (r := 134)]; rw [pz_u1_in (r := 138) (q := 140) (by decide)]; rw [pz_u1_in (r := 138) (q := 139) (by decide)]; rw [pz_u1_top (r := 138)]; rw [pz_u1_in (r := 139) (q := 140) (by decide)]; rw [pz_u1_top (r := 139)]; rw [pz_u1_top (r := 140)] <;> rfl)
                 subst h9x
                 replace hci : q_CI k o9_17 n9_19 w9_20 d9_21 (iv 142) (iv 143) (iv 145) (iv 129) (iv 135) := hci
                 replace ho2 : o9_17 2 = (iv 2) 2 := ho2
                 first | exact ⟨pz_u1 (pz_u1 (pz_u1 (pz_u1 (pz_u1 iv 2 o9_17) 134 l9_18) 138 n9_19) 139 w9_20) 140 d9_21, ⟨o9_17, l9_18, n9_19, w9_20, d9_21, by rfl, by exact hci, by exact ho2⟩, lf_e (by rfl)⟩ | (exfalso; omega)))
       · first
         | (exfalso; first | omega | contradiction)
         | (have hc22 : pz_R (pz_Sh L) 170 [.inr (.inl 2), .inl t] (pz_u1 (pz_u1 (pz_u1 (pz_u1 (pz_u1 iv 2 (iv 2)) 134 (iv 134)) 138 (iv 138)) 139 (iv 139)) 140 (iv 140)) (.inr 2) (pz_u1 (pz_u1 (pz_u1 (pz_u1 (pz_u1 iv 2 (iv 2)) 134 (iv 134)) 138 (iv 138)) 139 (iv 139)) 140 (iv 140)) := s_X10_needEvent_n t (by show q_cE k (iv 3); exact hE) (by show ¬ (0 ≤ t ∧ t < k 0); exact h3)
            refine w_calle hc22 rfl (pz_cokI is_2 rfl) rfl ?_
            first | exact ⟨pz_u1 (pz_u1 (pz_u1 (pz_u1 (pz_u1 iv 2 (iv 2)) 134 (iv 134)) 138 (iv 138)) 139 (iv 139)) 140 (iv 140), ⟨(iv 2), (iv 134), (iv 138), (iv 139), (iv 140), by rfl, by exact hci, by exact ho2⟩, lf_e (by rfl)⟩ | (exfalso; omega)))
  · first
    | (exfalso; first | omega | contradiction)
    | (have hc23 : pz_R (pz_Sh L) 170 [.inr (.inl 2), .inl f] (pz_u1 (pz_u1 (pz_u1 (pz_u1 (pz_u1 iv 2 (iv 2)) 134 (iv 134)) 138 (iv 138)) 139 (iv 139)) 140 (iv 140)) (.inr 2) (pz_u1 (pz_u1 (pz_u1 (pz_u1 (pz_u1 iv 2 (iv 2)) 134 (iv 134)) 138 (iv 138)) 139 (iv 139)) 140 (iv 140)) := s_X10_needEvent_n f (by show q_cE k (iv 3); exact hE) (by show ¬ (0 ≤ f ∧ f < k 0); exact h1)
       refine w_calle hc23 rfl (pz_cokI is_2 rfl) rfl ?_
       first | exact ⟨pz_u1 (pz_u1 (pz_u1 (pz_u1 (pz_u1 iv 2 (iv 2)) 134 (iv 134)) 138 (iv 138)) 139 (iv 139)) 140 (iv 140), ⟨(iv 2), (iv 134), (iv 138), (iv 139), (iv 140), by rfl, by exact hci, by exact ho2⟩, lf_e (by rfl)⟩ | (exfalso; omega))

theorem s_X10_distance_0 {L : Nat} {iv : Nat → Nat → Int} (f : Int) (t : Int) {k : Nat → Int} (hk : q_KR k) (hE : q_cE k (iv 3)) (hB : q_cB k (iv 4) (iv 5) (iv 6) (iv 7) (iv 8) (iv 9)) (hS : q_cS k (iv 10) (iv 11) (iv 12) (iv 13) (iv 14)) (hC : q_cC k (iv 15) (iv 16)) (hA : q_cA k (iv 17) (iv 18) (iv 19) (iv 20)) (hO : q_cO k (iv 22) (iv 23) (iv 24)) (hL : q_cL k (iv 25)) (hP : q_cP k (iv 27)) (hci : q_CI k (iv 2) (iv 138) (iv 139) (iv 140) (iv 142) (iv 143) (iv 145) (iv 129) (iv 135)) (hcase0 : 0 ≤ f ∧ f ≤ k 0 - 1 ∧ 0 ≤ t ∧ t ≤ k 0 - 1) (hcase1 : q_con k (fun _ => 0)) (hcase2 : q_D k (10 * f + t).toNat ≠ 1000000) : pz_RE (pz_Sh L) 132 [.inr (.inl 2), .inl f, .inl t] iv (.inl (some (.inl (q_D k (10 * f + t).toNat)))) (fun iv9 => ∃ (o9 : Nat → Int) (l9 : Nat → Int) (n9 : Nat → Int) (w9 : Nat → Int) (d9 : Nat → Int), iv9 = pz_u1 (pz_u1 (pz_u1 (pz_u1 (pz_u1 iv 2 o9) 134 l9) 138 n9) 139 w9) 140 d9 ∧ (q_CI k o9 n9 w9 d9 (iv 142) (iv 143) (iv 145) (iv 129) (iv 135)) ∧ (o9 2 = (iv 2) 2)) := by
  intro dv cc ss
  have hk0 := hk.r0
  have hE0 := hE
  have hB0 := hB.1
  have hS0 := hS.1
  have hC0 := hC.1
  have hA0 := hA.1
  refine pz_G_mem (iv2 := pz_u1 (pz_u1 (pz_u1 (pz_u1 (pz_u1 iv 2 (iv 2)) 134 (iv 134)) 138 (iv 138)) 139 (iv 139)) 140 (iv 140)) (by exact (((((pz_u1_self iv 2).symm).trans (pz_u1_self (pz_u1 iv 2 (iv 2)) 134).symm).trans (pz_u1_self (pz_u1 (pz_u1 iv 2 (iv 2)) 134 (iv 134)) 138).symm).trans (pz_u1_self (pz_u1 (pz_u1 (pz_u1 iv 2 (iv 2)) 134 (iv 134)) 138 (iv 138)) 139).symm).trans (pz_u1_self (pz_u1 (pz_u1 (pz_u1 (pz_u1 iv 2 (iv 2)) 134 (iv 134)) 138 (iv 138)) 139 (iv 139)) 140).symm) ?_
  show pz_G 132 0 [some (.inr (.inl 2)), some (.inl f), some (.inl t)] [] (pz_Sh L, pz_u1 (pz_u1 (pz_u1 (pz_u1 (pz_u1 iv 2 (iv 2)) 134 (iv 134)) 138 (iv 138)) 139 (iv 139)) 140 (iv 140), dv, cc, ss) (pz_PE (pz_Sh L) (.inl (some (.inl (q_D k (10 * f + t).toNat)))) (fun iv9 => ∃ (o9 : Nat → Int) (l9 : Nat → Int) (n9 : Nat → Int) (w9 : Nat → Int) (d9 : Nat → Int), iv9 = pz_u1 (pz_u1 (pz_u1 (pz_u1 (pz_u1 iv 2 o9) 134 l9) 138 n9) 139 w9) 140 d9 ∧ (q_CI k o9 n9 w9 d9 (iv 142) (iv 143) (iv 145) (iv 129) (iv 135)) ∧ (o9 2 = (iv 2) 2)) dv cc ss)
  refine pz_G_of pz_b132_0 ?_
  refine w_loc rfl ?_
  refine w_loc rfl ?_
  by_cases h1 : 0 ≤ f ∧ f < k 0
  · first
    | (exfalso; first | omega | contradiction)
    | (have hc2 : pz_R (pz_Sh L) 170 [.inr (.inl 2), .inl f] (pz_u1 (pz_u1 (pz_u1 (pz_u1 (pz_u1 iv 2 (iv 2)) 134 (iv 134)) 138 (iv 138)) 139 (iv 139)) 140 (iv 140)) (.inl none) (pz_u1 (pz_u1 (pz_u1 (pz_u1 (pz_u1 iv 2 (iv 2)) 134 (iv 134)) 138 (iv 138)) 139 (iv 139)) 140 (iv 140)) := s_X10_needEvent_y f (by show q_cE k (iv 3); exact hE) (by show 0 ≤ f ∧ f < k 0; exact h1)
       refine w_callv hc2 rfl (pz_cokI is_2 rfl) ?_
       refine w_loc rfl ?_
       refine w_loc rfl ?_
       by_cases h3 : 0 ≤ t ∧ t < k 0
       · first
         | (exfalso; first | omega | contradiction)
         | (have hc4 : pz_R (pz_Sh L) 170 [.inr (.inl 2), .inl t] (pz_u1 (pz_u1 (pz_u1 (pz_u1 (pz_u1 iv 2 (iv 2)) 134 (iv 134)) 138 (iv 138)) 139 (iv 139)) 140 (iv 140)) (.inl none) (pz_u1 (pz_u1 (pz_u1 (pz_u1 (pz_u1 iv 2 (iv 2)) 134 (iv 134)) 138 (iv 138)) 139 (iv 139)) 140 (iv 140)) := s_X10_needEvent_y t (by show q_cE k (iv 3); exact hE) (by show 0 ≤ t ∧ t < k 0; exact h3)
            refine w_callv hc4 rfl (pz_cokI is_2 rfl) ?_
            refine w_loc rfl ?_
            by_cases h5 : q_con k (fun _ => 0)
            · first
              | (exfalso; first | omega | contradiction)
              | (have hc6 := s_X10_soundNet_y (L := L) (iv := pz_u1 (pz_u1 (pz_u1 (pz_u1 (pz_u1 iv 2 (iv 2)) 134 (iv 134)) 138 (iv 138)) 139 (iv 139)) 140 (iv 140)) (by show q_KR k; exact hk) (by show q_cE k (iv 3); exact hE) (by show q_cB k (iv 4) (iv 5) (iv 6) (iv 7) (iv 8) (iv 9); exact hB) (by show q_cS k (iv 10) (iv 11) (iv 12) (iv 13) (iv 14); exact hS) (by show q_cC k (iv 15) (iv 16); exact hC) (by show q_cL k (iv 25); exact hL) (by show q_CI k (iv 2) (iv 138) (iv 139) (iv 140) (iv 142) (iv 143) (iv 145) (iv 129) (iv 135); exact hci) (by show q_con k (fun _ => 0); exact h5)
                 refine w_callE hc6 rfl (pz_cokI is_2 rfl) (fun iv9 h9 => ?_)
                 obtain ⟨o9_7, l9_8, n9_9, w9_10, d9_11, h9e, hci, hNK, ho2⟩ := h9
                 have h9x : iv9 = pz_u1 (pz_u1 (pz_u1 (pz_u1 (pz_u1 iv 2 o9_7) 134 l9_8) 138 n9_9) 139 w9_10) 140 d9_11 := h9e.trans (by rw [pz_u1_in (r := 2) (q := 140) (by decide)]; rw [pz_u1_in (r := 2) (q := 139) (by decide)]; rw [pz_u1_in (r := 2) (q := 138) (by decide)]; rw [pz_u1_in (r := 2) (q := 134) (by decide)]; rw [pz_u1_top (r := 2)]; rw [pz_u1_in (r := 134) (q := 140) (by decide)]; rw [pz_u1_in (r := 134) (q := 139) (by decide)]; rw [pz_u1_in (r := 134) (q := 138) (by decide)]; rw [pz_u1_top (r := 134)]; rw [pz_u1_in (r := 138) (q := 140) (by decide)]; rw [pz_u1_in (r := 138) (q := 139) (by decide)]; rw [pz_u1_top (r := 138)]; rw [pz_u1_in (r := 139) (q := 140) (by decide)]; rw [pz_u1_top (r := 139)]; rw [pz_u1_top (r := 140)] <;> rfl)
                 subst h9x
                 replace hci : q_CI k o9_7 n9_9 w9_10 d9_11 (iv 142) (iv 143) (iv 145) (iv 129) (iv 135) := hci
                 replace hNK : q_NK k n9_9 w9_10 d9_11 := hNK
                 replace ho2 : o9_7 2 = (iv 2) 2 := ho2
                 have hNt := q_NK_at hk hNK hcase1 (f := f) (t := t) (by omega) (by omega)
                 refine w_loc rfl ?_
                 refine w_loc rfl ?_
                 have hc12 : pz_R (pz_Sh L) 59 [.inr (.inl 138), .inl f, .inl t] (pz_u1 (pz_u1 (pz_u1 (pz_u1 (pz_u1 iv 2 o9_7) 134 l9_8) 138 n9_9) 139 w9_10) 140 d9_11) (.inl (some (.inl (d9_11 (10 * f + t).toNat)))) (pz_u1 (pz_u1 (pz_u1 (pz_u1 (pz_u1 iv 2 o9_7) 134 l9_8) 138 n9_9) 139 w9_10) 140 d9_11) := s_X5_between f t (by show 0 ≤ f ∧ f ≤ 9; omega) (by show 0 ≤ t ∧ t ≤ 9; omega)
                 refine w_call hc12 rfl (pz_cokI is_138 rfl) ?_
                 by_cases h13 : (d9_11 (10 * f + t).toNat) ≠ 1000000000
                 · first
                   | (exfalso; first | omega | contradiction)
                   | (have hc14 : pz_R (pz_Sh L) 177 [.inl (d9_11 (10 * f + t).toNat)] (pz_u1 (pz_u1 (pz_u1 (pz_u1 (pz_u1 iv 2 o9_7) 134 l9_8) 138 n9_9) 139 w9_10) 140 d9_11) (.inl (some (.inl (d9_11 (10 * f + t).toNat)))) (pz_u1 (pz_u1 (pz_u1 (pz_u1 (pz_u1 iv 2 o9_7) 134 l9_8) 138 n9_9) 139 w9_10) 140 d9_11) := s_X10_toldValue_y (d9_11 (10 * f + t).toNat) (by show (d9_11 (10 * f + t).toNat) ≠ 1000000000; exact h13)
                      refine w_call hc14 rfl rfl ?_
                      refine w_ret rfl ?_
                      first | exact ⟨pz_u1 (pz_u1 (pz_u1 (pz_u1 (pz_u1 iv 2 o9_7) 134 l9_8) 138 n9_9) 139 w9_10) 140 d9_11, ⟨o9_7, l9_8, n9_9, w9_10, d9_11, by rfl, by exact hci, by exact ho2⟩, lf_i (by first | rfl | omega) (by rfl)⟩ | (exfalso; omega))
                 · first
                   | (exfalso; first | omega | contradiction)
                   | (have hc15 : pz_R (pz_Sh L) 177 [.inl (d9_11 (10 * f + t).toNat)] (pz_u1 (pz_u1 (pz_u1 (pz_u1 (pz_u1 iv 2 o9_7) 134 l9_8) 138 n9_9) 139 w9_10) 140 d9_11) (.inr 3) (pz_u1 (pz_u1 (pz_u1 (pz_u1 (pz_u1 iv 2 o9_7) 134 l9_8) 138 n9_9) 139 w9_10) 140 d9_11) := s_X10_toldValue_n (d9_11 (10 * f + t).toNat) (by show ¬ (d9_11 (10 * f + t).toNat) ≠ 1000000000; exact h13)
                      refine w_calle hc15 rfl rfl rfl ?_
                      first | exact ⟨pz_u1 (pz_u1 (pz_u1 (pz_u1 (pz_u1 iv 2 o9_7) 134 l9_8) 138 n9_9) 139 w9_10) 140 d9_11, ⟨o9_7, l9_8, n9_9, w9_10, d9_11, by rfl, by exact hci, by exact ho2⟩, lf_e (by rfl)⟩ | (exfalso; omega)))
            · first
              | (exfalso; first | omega | contradiction)
              | (have hc16 := s_X10_soundNet_n (L := L) (iv := pz_u1 (pz_u1 (pz_u1 (pz_u1 (pz_u1 iv 2 (iv 2)) 134 (iv 134)) 138 (iv 138)) 139 (iv 139)) 140 (iv 140)) (by show q_KR k; exact hk) (by show q_cE k (iv 3); exact hE) (by show q_cB k (iv 4) (iv 5) (iv 6) (iv 7) (iv 8) (iv 9); exact hB) (by show q_cS k (iv 10) (iv 11) (iv 12) (iv 13) (iv 14); exact hS) (by show q_cC k (iv 15) (iv 16); exact hC) (by show q_cL k (iv 25); exact hL) (by show q_CI k (iv 2) (iv 138) (iv 139) (iv 140) (iv 142) (iv 143) (iv 145) (iv 129) (iv 135); exact hci) (by show ¬ q_con k (fun _ => 0); exact h5)
                 refine w_calleE hc16 rfl (pz_cokI is_2 rfl) rfl (fun iv9 h9 => ?_)
                 obtain ⟨o9_17, l9_18, n9_19, w9_20, d9_21, h9e, hci, ho2⟩ := h9
                 have h9x : iv9 = pz_u1 (pz_u1 (pz_u1 (pz_u1 (pz_u1 iv 2 o9_17) 134 l9_18) 138 n9_19) 139 w9_20) 140 d9_21 := h9e.trans (by rw [pz_u1_in (r := 2) (q := 140) (by decide)]; rw [pz_u1_in (r := 2) (q := 139) (by decide)]; rw [pz_u1_in (r := 2) (q := 138) (by decide)]; rw [pz_u1_in (r := 2) (q := 134) (by decide)]; rw [pz_u1_top (r := 2)]; rw [pz_u1_in (r := 134) (q := 140) (by decide)]; rw [pz_u1_in (r := 134) (q := 139) (by decide)]; rw [pz_u1_in (r := 134) (q := 138) (by decide)]; rw [pz_u1_top (r := 134)]; rw [pz_u1_in (r := 138) (q := 140) (by decide)]; rw [pz_u1_in (r := 138) (q := 139) (by decide)]; rw [pz_u1_top (r := 138)]; rw [pz_u1_in (r := 139) (q := 140) (by decide)]; rw [pz_u1_top (r := 139)]; rw [pz_u1_top (r := 140)] <;> rfl)
                 subst h9x
                 replace hci : q_CI k o9_17 n9_19 w9_20 d9_21 (iv 142) (iv 143) (iv 145) (iv 129) (iv 135) := hci
                 replace ho2 : o9_17 2 = (iv 2) 2 := ho2
                 first | exact ⟨pz_u1 (pz_u1 (pz_u1 (pz_u1 (pz_u1 iv 2 o9_17) 134 l9_18) 138 n9_19) 139 w9_20) 140 d9_21, ⟨o9_17, l9_18, n9_19, w9_20, d9_21, by rfl, by exact hci, by exact ho2⟩, lf_e (by rfl)⟩ | (exfalso; omega)))
       · first
         | (exfalso; first | omega | contradiction)
         | (have hc22 : pz_R (pz_Sh L) 170 [.inr (.inl 2), .inl t] (pz_u1 (pz_u1 (pz_u1 (pz_u1 (pz_u1 iv 2 (iv 2)) 134 (iv 134)) 138 (iv 138)) 139 (iv 139)) 140 (iv 140)) (.inr 2) (pz_u1 (pz_u1 (pz_u1 (pz_u1 (pz_u1 iv 2 (iv 2)) 134 (iv 134)) 138 (iv 138)) 139 (iv 139)) 140 (iv 140)) := s_X10_needEvent_n t (by show q_cE k (iv 3); exact hE) (by show ¬ (0 ≤ t ∧ t < k 0); exact h3)
            refine w_calle hc22 rfl (pz_cokI is_2 rfl) rfl ?_
            first | exact ⟨pz_u1 (pz_u1 (pz_u1 (pz_u1 (pz_u1 iv 2 (iv 2)) 134 (iv 134)) 138 (iv 138)) 139 (iv 139)) 140 (iv 140), ⟨(iv 2), (iv 134), (iv 138), (iv 139), (iv 140), by rfl, by exact hci, by exact ho2⟩, lf_e (by rfl)⟩ | (exfalso; omega)))
  · first
    | (exfalso; first | omega | contradiction)
    | (have hc23 : pz_R (pz_Sh L) 170 [.inr (.inl 2), .inl f] (pz_u1 (pz_u1 (pz_u1 (pz_u1 (pz_u1 iv 2 (iv 2)) 134 (iv 134)) 138 (iv 138)) 139 (iv 139)) 140 (iv 140)) (.inr 2) (pz_u1 (pz_u1 (pz_u1 (pz_u1 (pz_u1 iv 2 (iv 2)) 134 (iv 134)) 138 (iv 138)) 139 (iv 139)) 140 (iv 140)) := s_X10_needEvent_n f (by show q_cE k (iv 3); exact hE) (by show ¬ (0 ≤ f ∧ f < k 0); exact h1)
       refine w_calle hc23 rfl (pz_cokI is_2 rfl) rfl ?_
       first | exact ⟨pz_u1 (pz_u1 (pz_u1 (pz_u1 (pz_u1 iv 2 (iv 2)) 134 (iv 134)) 138 (iv 138)) 139 (iv 139)) 140 (iv 140), ⟨(iv 2), (iv 134), (iv 138), (iv 139), (iv 140), by rfl, by exact hci, by exact ho2⟩, lf_e (by rfl)⟩ | (exfalso; omega))

theorem s_X10_distanceByRounds_1 {L : Nat} {iv : Nat → Nat → Int} (f : Int) (t : Int) {k : Nat → Int} (hk : q_KR k) (hE : q_cE k (iv 3)) (hB : q_cB k (iv 4) (iv 5) (iv 6) (iv 7) (iv 8) (iv 9)) (hS : q_cS k (iv 10) (iv 11) (iv 12) (iv 13) (iv 14)) (hC : q_cC k (iv 15) (iv 16)) (hA : q_cA k (iv 17) (iv 18) (iv 19) (iv 20)) (hO : q_cO k (iv 22) (iv 23) (iv 24)) (hL : q_cL k (iv 25)) (hP : q_cP k (iv 27)) (hci : q_CI k (iv 2) (iv 138) (iv 139) (iv 140) (iv 142) (iv 143) (iv 145) (iv 129) (iv 135)) (hcase0 : ¬ (0 ≤ f ∧ f ≤ k 0 - 1 ∧ 0 ≤ t ∧ t ≤ k 0 - 1)) : pz_R (pz_Sh L) 133 [.inr (.inl 2), .inl f, .inl t] iv (.inr 2) iv := by
  intro dv cc ss
  have hk0 := hk.r0
  have hE0 := hE
  have hB0 := hB.1
  have hS0 := hS.1
  have hC0 := hC.1
  have hA0 := hA.1
  show pz_G 133 0 [some (.inr (.inl 2)), some (.inl f), some (.inl t)] [] (pz_Sh L, iv, dv, cc, ss) (pz_P (pz_Sh L) (.inr 2) iv dv cc ss)
  refine pz_G_of pz_b133_0 ?_
  refine w_loc rfl ?_
  refine w_loc rfl ?_
  by_cases h1 : 0 ≤ f ∧ f < k 0
  · first
    | (exfalso; first | omega | contradiction)
    | (have hc2 : pz_R (pz_Sh L) 170 [.inr (.inl 2), .inl f] (iv) (.inl none) (iv) := s_X10_needEvent_y f (by exact hE) (by exact h1)
       refine w_callv hc2 rfl (pz_cokI is_2 rfl) ?_
       refine w_loc rfl ?_
       refine w_loc rfl ?_
       by_cases h3 : 0 ≤ t ∧ t < k 0
       · first
         | (exfalso; first | omega | contradiction)
         | (have hc4 : pz_R (pz_Sh L) 170 [.inr (.inl 2), .inl t] (iv) (.inl none) (iv) := s_X10_needEvent_y t (by exact hE) (by exact h3)
            refine w_callv hc4 rfl (pz_cokI is_2 rfl) ?_
            refine w_loc rfl ?_
            by_cases h5 : q_con k (fun _ => 0)
            · first
              | (exfalso; first | omega | contradiction)
              | (have hc6 := s_X10_soundNet_y (L := L) (iv := iv) (by exact hk) (by exact hE) (by exact hB) (by exact hS) (by exact hC) (by exact hL) (by exact hci) (by exact h5)
                 refine w_callE hc6 rfl (pz_cokI is_2 rfl) (fun iv9 h9 => ?_)
                 obtain ⟨o9_7, l9_8, n9_9, w9_10, d9_11, h9e, hci, hNK, ho2⟩ := h9
                 have h9x : iv9 = pz_u1 (pz_u1 (pz_u1 (pz_u1 (pz_u1 iv 2 o9_7) 134 l9_8) 138 n9_9) 139 w9_10) 140 d9_11 := h9e.trans (by rw [pz_u1_top (r := 2)]; rw [pz_u1_top (r := 134)]; rw [pz_u1_top (r := 138)]; rw [pz_u1_top (r := 139)]; rw [pz_u1_top (r := 140)] <;> rfl)
                 subst h9x
                 replace hci : q_CI k o9_7 n9_9 w9_10 d9_11 (iv 142) (iv 143) (iv 145) (iv 129) (iv 135) := hci
                 replace hNK : q_NK k n9_9 w9_10 d9_11 := hNK
                 replace ho2 : o9_7 2 = (iv 2) 2 := ho2
                 obtain ⟨p, hpo, hpf⟩ := q_po_at hk hNK (by assumption) (f := f) (by omega)
                 have hNt := q_gi_at (r := iv 141) hk hNK (by assumption) (f := f) (t := t) (by omega) (by omega)
                 refine w_loc rfl ?_
                 refine w_loc rfl ?_
                 have hc12 : pz_R (pz_Sh L) 60 [.inr (.inl 138), .inl f, .inl t] (pz_u1 (pz_u1 (pz_u1 (pz_u1 (pz_u1 iv 2 o9_7) 134 l9_8) 138 n9_9) 139 w9_10) 140 d9_11) (.inl (some (.inl (q_gi (n9_9 0) w9_10 (n9_9 0) (q_ri f (iv 141)) t.toNat)))) (pz_u1 (pz_u1 (pz_u1 (pz_u1 (pz_u1 (pz_u1 iv 2 o9_7) 134 l9_8) 138 n9_9) 139 w9_10) 140 d9_11) 141 (q_gi (n9_9 0) w9_10 (n9_9 0) (q_ri f (iv 141)))) := pz_R_mem (s_X5_byRounds f t (by show 1 ≤ n9_9 0 ∧ n9_9 0 ≤ 10; rw [hNK.1]; omega) (by show q_po (n9_9 0) p w9_10; exact hpo) (by show 0 ≤ f ∧ f < n9_9 0; rw [hNK.1]; omega) (by show 0 ≤ t ∧ t < n9_9 0; rw [hNK.1]; omega) (by show p f.toNat ≤ 0; assumption)) (by rw [pz_u1_top (r := 141)]; rfl)
                 refine w_call hc12 rfl (pz_cokI is_138 rfl) ?_
                 by_cases h13 : (q_gi (n9_9 0) w9_10 (n9_9 0) (q_ri f (iv 141)) t.toNat) ≠ 1000000000
                 · first
                   | (exfalso; first | omega | contradiction)
                   | (have hc14 : pz_R (pz_Sh L) 177 [.inl (q_gi (n9_9 0) w9_10 (n9_9 0) (q_ri f (iv 141)) t.toNat)] (pz_u1 (pz_u1 (pz_u1 (pz_u1 (pz_u1 (pz_u1 iv 2 o9_7) 134 l9_8) 138 n9_9) 139 w9_10) 140 d9_11) 141 (q_gi (n9_9 0) w9_10 (n9_9 0) (q_ri f (iv 141)))) (.inl (some (.inl (q_gi (n9_9 0) w9_10 (n9_9 0) (q_ri f (iv 141)) t.toNat)))) (pz_u1 (pz_u1 (pz_u1 (pz_u1 (pz_u1 (pz_u1 iv 2 o9_7) 134 l9_8) 138 n9_9) 139 w9_10) 140 d9_11) 141 (q_gi (n9_9 0) w9_10 (n9_9 0) (q_ri f (iv 141)))) := s_X10_toldValue_y (q_gi (n9_9 0) w9_10 (n9_9 0) (q_ri f (iv 141)) t.toNat) (by show (q_gi (n9_9 0) w9_10 (n9_9 0) (q_ri f (iv 141)) t.toNat) ≠ 1000000000; exact h13)
                      refine w_call hc14 rfl rfl ?_
                      refine w_ret rfl ?_
                      first | exact lf_i (by first | rfl | omega) (by rfl) | (exfalso; omega))
                 · first
                   | (exfalso; first | omega | contradiction)
                   | (have hc15 : pz_R (pz_Sh L) 177 [.inl (q_gi (n9_9 0) w9_10 (n9_9 0) (q_ri f (iv 141)) t.toNat)] (pz_u1 (pz_u1 (pz_u1 (pz_u1 (pz_u1 (pz_u1 iv 2 o9_7) 134 l9_8) 138 n9_9) 139 w9_10) 140 d9_11) 141 (q_gi (n9_9 0) w9_10 (n9_9 0) (q_ri f (iv 141)))) (.inr 3) (pz_u1 (pz_u1 (pz_u1 (pz_u1 (pz_u1 (pz_u1 iv 2 o9_7) 134 l9_8) 138 n9_9) 139 w9_10) 140 d9_11) 141 (q_gi (n9_9 0) w9_10 (n9_9 0) (q_ri f (iv 141)))) := s_X10_toldValue_n (q_gi (n9_9 0) w9_10 (n9_9 0) (q_ri f (iv 141)) t.toNat) (by show ¬ (q_gi (n9_9 0) w9_10 (n9_9 0) (q_ri f (iv 141)) t.toNat) ≠ 1000000000; exact h13)
                      refine w_calle hc15 rfl rfl rfl ?_
                      first | exact lf_e (by rfl) | (exfalso; omega)))
            · first
              | (exfalso; first | omega | contradiction)
              | (have hc16 := s_X10_soundNet_n (L := L) (iv := iv) (by exact hk) (by exact hE) (by exact hB) (by exact hS) (by exact hC) (by exact hL) (by exact hci) (by exact h5)
                 refine w_calleE hc16 rfl (pz_cokI is_2 rfl) rfl (fun iv9 h9 => ?_)
                 obtain ⟨o9_17, l9_18, n9_19, w9_20, d9_21, h9e, hci, ho2⟩ := h9
                 have h9x : iv9 = pz_u1 (pz_u1 (pz_u1 (pz_u1 (pz_u1 iv 2 o9_17) 134 l9_18) 138 n9_19) 139 w9_20) 140 d9_21 := h9e.trans (by rw [pz_u1_top (r := 2)]; rw [pz_u1_top (r := 134)]; rw [pz_u1_top (r := 138)]; rw [pz_u1_top (r := 139)]; rw [pz_u1_top (r := 140)] <;> rfl)
                 subst h9x
                 replace hci : q_CI k o9_17 n9_19 w9_20 d9_21 (iv 142) (iv 143) (iv 145) (iv 129) (iv 135) := hci
                 replace ho2 : o9_17 2 = (iv 2) 2 := ho2
                 first | exact lf_e (by rfl) | (exfalso; omega)))
       · first
         | (exfalso; first | omega | contradiction)
         | (have hc22 : pz_R (pz_Sh L) 170 [.inr (.inl 2), .inl t] (iv) (.inr 2) (iv) := s_X10_needEvent_n t (by exact hE) (by exact h3)
            refine w_calle hc22 rfl (pz_cokI is_2 rfl) rfl ?_
            first | exact lf_e (by rfl) | (exfalso; omega)))
  · first
    | (exfalso; first | omega | contradiction)
    | (have hc23 : pz_R (pz_Sh L) 170 [.inr (.inl 2), .inl f] (iv) (.inr 2) (iv) := s_X10_needEvent_n f (by exact hE) (by exact h1)
       refine w_calle hc23 rfl (pz_cokI is_2 rfl) rfl ?_
       first | exact lf_e (by rfl) | (exfalso; omega))

theorem s_X10_distanceByRounds_2 {L : Nat} {iv : Nat → Nat → Int} (f : Int) (t : Int) {k : Nat → Int} (hk : q_KR k) (hE : q_cE k (iv 3)) (hB : q_cB k (iv 4) (iv 5) (iv 6) (iv 7) (iv 8) (iv 9)) (hS : q_cS k (iv 10) (iv 11) (iv 12) (iv 13) (iv 14)) (hC : q_cC k (iv 15) (iv 16)) (hA : q_cA k (iv 17) (iv 18) (iv 19) (iv 20)) (hO : q_cO k (iv 22) (iv 23) (iv 24)) (hL : q_cL k (iv 25)) (hP : q_cP k (iv 27)) (hci : q_CI k (iv 2) (iv 138) (iv 139) (iv 140) (iv 142) (iv 143) (iv 145) (iv 129) (iv 135)) (hcase0 : 0 ≤ f ∧ f ≤ k 0 - 1 ∧ 0 ≤ t ∧ t ≤ k 0 - 1) (hcase1 : ¬ q_con k (fun _ => 0)) : pz_RE (pz_Sh L) 133 [.inr (.inl 2), .inl f, .inl t] iv (.inr 0) (fun iv9 => ∃ (o9 : Nat → Int) (l9 : Nat → Int) (n9 : Nat → Int) (w9 : Nat → Int) (d9 : Nat → Int) (g9 : Nat → Int), iv9 = pz_u1 (pz_u1 (pz_u1 (pz_u1 (pz_u1 (pz_u1 iv 2 o9) 134 l9) 138 n9) 139 w9) 140 d9) 141 g9 ∧ (q_CI k o9 n9 w9 d9 (iv 142) (iv 143) (iv 145) (iv 129) (iv 135)) ∧ (o9 2 = (iv 2) 2)) := by
  intro dv cc ss
  have hk0 := hk.r0
  have hE0 := hE
  have hB0 := hB.1
  have hS0 := hS.1
  have hC0 := hC.1
  have hA0 := hA.1
  refine pz_G_mem (iv2 := pz_u1 (pz_u1 (pz_u1 (pz_u1 (pz_u1 (pz_u1 iv 2 (iv 2)) 134 (iv 134)) 138 (iv 138)) 139 (iv 139)) 140 (iv 140)) 141 (iv 141)) (by exact ((((((pz_u1_self iv 2).symm).trans (pz_u1_self (pz_u1 iv 2 (iv 2)) 134).symm).trans (pz_u1_self (pz_u1 (pz_u1 iv 2 (iv 2)) 134 (iv 134)) 138).symm).trans (pz_u1_self (pz_u1 (pz_u1 (pz_u1 iv 2 (iv 2)) 134 (iv 134)) 138 (iv 138)) 139).symm).trans (pz_u1_self (pz_u1 (pz_u1 (pz_u1 (pz_u1 iv 2 (iv 2)) 134 (iv 134)) 138 (iv 138)) 139 (iv 139)) 140).symm).trans (pz_u1_self (pz_u1 (pz_u1 (pz_u1 (pz_u1 (pz_u1 iv 2 (iv 2)) 134 (iv 134)) 138 (iv 138)) 139 (iv 139)) 140 (iv 140)) 141).symm) ?_
  show pz_G 133 0 [some (.inr (.inl 2)), some (.inl f), some (.inl t)] [] (pz_Sh L, pz_u1 (pz_u1 (pz_u1 (pz_u1 (pz_u1 (pz_u1 iv 2 (iv 2)) 134 (iv 134)) 138 (iv 138)) 139 (iv 139)) 140 (iv 140)) 141 (iv 141), dv, cc, ss) (pz_PE (pz_Sh L) (.inr 0) (fun iv9 => ∃ (o9 : Nat → Int) (l9 : Nat → Int) (n9 : Nat → Int) (w9 : Nat → Int) (d9 : Nat → Int) (g9 : Nat → Int), iv9 = pz_u1 (pz_u1 (pz_u1 (pz_u1 (pz_u1 (pz_u1 iv 2 o9) 134 l9) 138 n9) 139 w9) 140 d9) 141 g9 ∧ (q_CI k o9 n9 w9 d9 (iv 142) (iv 143) (iv 145) (iv 129) (iv 135)) ∧ (o9 2 = (iv 2) 2)) dv cc ss)
  refine pz_G_of pz_b133_0 ?_
  refine w_loc rfl ?_
  refine w_loc rfl ?_
  by_cases h1 : 0 ≤ f ∧ f < k 0
  · first
    | (exfalso; first | omega | contradiction)
    | (have hc2 : pz_R (pz_Sh L) 170 [.inr (.inl 2), .inl f] (pz_u1 (pz_u1 (pz_u1 (pz_u1 (pz_u1 (pz_u1 iv 2 (iv 2)) 134 (iv 134)) 138 (iv 138)) 139 (iv 139)) 140 (iv 140)) 141 (iv 141)) (.inl none) (pz_u1 (pz_u1 (pz_u1 (pz_u1 (pz_u1 (pz_u1 iv 2 (iv 2)) 134 (iv 134)) 138 (iv 138)) 139 (iv 139)) 140 (iv 140)) 141 (iv 141)) := s_X10_needEvent_y f (by show q_cE k (iv 3); exact hE) (by show 0 ≤ f ∧ f < k 0; exact h1)
       refine w_callv hc2 rfl (pz_cokI is_2 rfl) ?_
       refine w_loc rfl ?_
       refine w_loc rfl ?_
       by_cases h3 : 0 ≤ t ∧ t < k 0
       · first
         | (exfalso; first | omega | contradiction)
         | (have hc4 : pz_R (pz_Sh L) 170 [.inr (.inl 2), .inl t] (pz_u1 (pz_u1 (pz_u1 (pz_u1 (pz_u1 (pz_u1 iv 2 (iv 2)) 134 (iv 134)) 138 (iv 138)) 139 (iv 139)) 140 (iv 140)) 141 (iv 141)) (.inl none) (pz_u1 (pz_u1 (pz_u1 (pz_u1 (pz_u1 (pz_u1 iv 2 (iv 2)) 134 (iv 134)) 138 (iv 138)) 139 (iv 139)) 140 (iv 140)) 141 (iv 141)) := s_X10_needEvent_y t (by show q_cE k (iv 3); exact hE) (by show 0 ≤ t ∧ t < k 0; exact h3)
            refine w_callv hc4 rfl (pz_cokI is_2 rfl) ?_
            refine w_loc rfl ?_
            by_cases h5 : q_con k (fun _ => 0)
            · first
              | (exfalso; first | omega | contradiction)
              | (have hc6 := s_X10_soundNet_y (L := L) (iv := pz_u1 (pz_u1 (pz_u1 (pz_u1 (pz_u1 (pz_u1 iv 2 (iv 2)) 134 (iv 134)) 138 (iv 138)) 139 (iv 139)) 140 (iv 140)) 141 (iv 141)) (by show q_KR k; exact hk) (by show q_cE k (iv 3); exact hE) (by show q_cB k (iv 4) (iv 5) (iv 6) (iv 7) (iv 8) (iv 9); exact hB) (by show q_cS k (iv 10) (iv 11) (iv 12) (iv 13) (iv 14); exact hS) (by show q_cC k (iv 15) (iv 16); exact hC) (by show q_cL k (iv 25); exact hL) (by show q_CI k (iv 2) (iv 138) (iv 139) (iv 140) (iv 142) (iv 143) (iv 145) (iv 129) (iv 135); exact hci) (by show q_con k (fun _ => 0); exact h5)
                 refine w_callE hc6 rfl (pz_cokI is_2 rfl) (fun iv9 h9 => ?_)
                 obtain ⟨o9_7, l9_8, n9_9, w9_10, d9_11, h9e, hci, hNK, ho2⟩ := h9
                 have h9x : iv9 = pz_u1 (pz_u1 (pz_u1 (pz_u1 (pz_u1 (pz_u1 iv 2 o9_7) 134 l9_8) 138 n9_9) 139 w9_10) 140 d9_11) 141 (iv 141) := h9e.trans (by rw [pz_u1_in (r := 2) (q := 141) (by decide)]; rw [pz_u1_in (r := 2) (q := 140) (by decide)]; rw [pz_u1_in (r := 2) (q := 139) (by decide)]; rw [pz_u1_in (r := 2) (q := 138) (by decide)]; rw [pz_u1_in (r := 2) (q := 134) (by decide)]; rw [pz_u1_top (r := 2)]; rw [pz_u1_in (r := 134) (q := 141) (by decide)]; rw [pz_u1_in (r := 134) (q := 140) (by decide)]; rw [pz_u1_in (r := 134) (q := 139) (by decide)]; rw [pz_u1_in (r := 134) (q := 138) (by decide)]; rw [pz_u1_top (r := 134)]; rw [pz_u1_in (r := 138) (q := 141) (by decide)]; rw [pz_u1_in (r := 138) (q := 140) (by decide)]; rw [pz_u1_in (r := 138) (q := 139) (by decide)]; rw [pz_u1_top (r := 138)]; rw [pz_u1_in (r := 139) (q := 141) (by decide)]; rw [pz_u1_in (r := 139) (q := 140) (by decide)]; rw [pz_u1_top (r := 139)]; rw [pz_u1_in (r := 140) (q := 141) (by decide)]; rw [pz_u1_top (r := 140)] <;> rfl)
                 subst h9x
                 replace hci : q_CI k o9_7 n9_9 w9_10 d9_11 (iv 142) (iv 143) (iv 145) (iv 129) (iv 135) := hci
                 replace hNK : q_NK k n9_9 w9_10 d9_11 := hNK
                 replace ho2 : o9_7 2 = (iv 2) 2 := ho2
                 obtain ⟨p, hpo, hpf⟩ := q_po_at hk hNK (by assumption) (f := f) (by omega)
                 have hNt := q_gi_at (r := iv 141) hk hNK (by assumption) (f := f) (t := t) (by omega) (by omega)
                 refine w_loc rfl ?_
                 refine w_loc rfl ?_
                 have hc12 : pz_R (pz_Sh L) 60 [.inr (.inl 138), .inl f, .inl t] (pz_u1 (pz_u1 (pz_u1 (pz_u1 (pz_u1 (pz_u1 iv 2 o9_7) 134 l9_8) 138 n9_9) 139 w9_10) 140 d9_11) 141 (iv 141)) (.inl (some (.inl (q_gi (n9_9 0) w9_10 (n9_9 0) (q_ri f (iv 141)) t.toNat)))) (pz_u1 (pz_u1 (pz_u1 (pz_u1 (pz_u1 (pz_u1 iv 2 o9_7) 134 l9_8) 138 n9_9) 139 w9_10) 140 d9_11) 141 (q_gi (n9_9 0) w9_10 (n9_9 0) (q_ri f (iv 141)))) := pz_R_mem (s_X5_byRounds f t (by show 1 ≤ n9_9 0 ∧ n9_9 0 ≤ 10; rw [hNK.1]; omega) (by show q_po (n9_9 0) p w9_10; exact hpo) (by show 0 ≤ f ∧ f < n9_9 0; rw [hNK.1]; omega) (by show 0 ≤ t ∧ t < n9_9 0; rw [hNK.1]; omega) (by show p f.toNat ≤ 0; assumption)) (by rw [pz_u1_top (r := 141)]; rfl)
                 refine w_call hc12 rfl (pz_cokI is_138 rfl) ?_
                 by_cases h13 : (q_gi (n9_9 0) w9_10 (n9_9 0) (q_ri f (iv 141)) t.toNat) ≠ 1000000000
                 · first
                   | (exfalso; first | omega | contradiction)
                   | (have hc14 : pz_R (pz_Sh L) 177 [.inl (q_gi (n9_9 0) w9_10 (n9_9 0) (q_ri f (iv 141)) t.toNat)] (pz_u1 (pz_u1 (pz_u1 (pz_u1 (pz_u1 (pz_u1 iv 2 o9_7) 134 l9_8) 138 n9_9) 139 w9_10) 140 d9_11) 141 (q_gi (n9_9 0) w9_10 (n9_9 0) (q_ri f (iv 141)))) (.inl (some (.inl (q_gi (n9_9 0) w9_10 (n9_9 0) (q_ri f (iv 141)) t.toNat)))) (pz_u1 (pz_u1 (pz_u1 (pz_u1 (pz_u1 (pz_u1 iv 2 o9_7) 134 l9_8) 138 n9_9) 139 w9_10) 140 d9_11) 141 (q_gi (n9_9 0) w9_10 (n9_9 0) (q_ri f (iv 141)))) := s_X10_toldValue_y (q_gi (n9_9 0) w9_10 (n9_9 0) (q_ri f (iv 141)) t.toNat) (by show (q_gi (n9_9 0) w9_10 (n9_9 0) (q_ri f (iv 141)) t.toNat) ≠ 1000000000; exact h13)
                      refine w_call hc14 rfl rfl ?_
                      refine w_ret rfl ?_
                      first | exact ⟨pz_u1 (pz_u1 (pz_u1 (pz_u1 (pz_u1 (pz_u1 iv 2 o9_7) 134 l9_8) 138 n9_9) 139 w9_10) 140 d9_11) 141 (q_gi (n9_9 0) w9_10 (n9_9 0) (q_ri f (iv 141))), ⟨o9_7, l9_8, n9_9, w9_10, d9_11, (q_gi (n9_9 0) w9_10 (n9_9 0) (q_ri f (iv 141))), by rfl, by exact hci, by exact ho2⟩, lf_i (by first | rfl | omega) (by rfl)⟩ | (exfalso; omega))
                 · first
                   | (exfalso; first | omega | contradiction)
                   | (have hc15 : pz_R (pz_Sh L) 177 [.inl (q_gi (n9_9 0) w9_10 (n9_9 0) (q_ri f (iv 141)) t.toNat)] (pz_u1 (pz_u1 (pz_u1 (pz_u1 (pz_u1 (pz_u1 iv 2 o9_7) 134 l9_8) 138 n9_9) 139 w9_10) 140 d9_11) 141 (q_gi (n9_9 0) w9_10 (n9_9 0) (q_ri f (iv 141)))) (.inr 3) (pz_u1 (pz_u1 (pz_u1 (pz_u1 (pz_u1 (pz_u1 iv 2 o9_7) 134 l9_8) 138 n9_9) 139 w9_10) 140 d9_11) 141 (q_gi (n9_9 0) w9_10 (n9_9 0) (q_ri f (iv 141)))) := s_X10_toldValue_n (q_gi (n9_9 0) w9_10 (n9_9 0) (q_ri f (iv 141)) t.toNat) (by show ¬ (q_gi (n9_9 0) w9_10 (n9_9 0) (q_ri f (iv 141)) t.toNat) ≠ 1000000000; exact h13)
                      refine w_calle hc15 rfl rfl rfl ?_
                      first | exact ⟨pz_u1 (pz_u1 (pz_u1 (pz_u1 (pz_u1 (pz_u1 iv 2 o9_7) 134 l9_8) 138 n9_9) 139 w9_10) 140 d9_11) 141 (q_gi (n9_9 0) w9_10 (n9_9 0) (q_ri f (iv 141))), ⟨o9_7, l9_8, n9_9, w9_10, d9_11, (q_gi (n9_9 0) w9_10 (n9_9 0) (q_ri f (iv 141))), by rfl, by exact hci, by exact ho2⟩, lf_e (by rfl)⟩ | (exfalso; omega)))
            · first
              | (exfalso; first | omega | contradiction)
              | (have hc16 := s_X10_soundNet_n (L := L) (iv := pz_u1 (pz_u1 (pz_u1 (pz_u1 (pz_u1 (pz_u1 iv 2 (iv 2)) 134 (iv 134)) 138 (iv 138)) 139 (iv 139)) 140 (iv 140)) 141 (iv 141)) (by show q_KR k; exact hk) (by show q_cE k (iv 3); exact hE) (by show q_cB k (iv 4) (iv 5) (iv 6) (iv 7) (iv 8) (iv 9); exact hB) (by show q_cS k (iv 10) (iv 11) (iv 12) (iv 13) (iv 14); exact hS) (by show q_cC k (iv 15) (iv 16); exact hC) (by show q_cL k (iv 25); exact hL) (by show q_CI k (iv 2) (iv 138) (iv 139) (iv 140) (iv 142) (iv 143) (iv 145) (iv 129) (iv 135); exact hci) (by show ¬ q_con k (fun _ => 0); exact h5)
                 refine w_calleE hc16 rfl (pz_cokI is_2 rfl) rfl (fun iv9 h9 => ?_)
                 obtain ⟨o9_17, l9_18, n9_19, w9_20, d9_21, h9e, hci, ho2⟩ := h9
                 have h9x : iv9 = pz_u1 (pz_u1 (pz_u1 (pz_u1 (pz_u1 (pz_u1 iv 2 o9_17) 134 l9_18) 138 n9_19) 139 w9_20) 140 d9_21) 141 (iv 141) := h9e.trans (by rw [pz_u1_in (r := 2) (q := 141) (by decide)]; rw [pz_u1_in (r := 2) (q := 140) (by decide)]; rw [pz_u1_in (r := 2) (q := 139) (by decide)]; rw [pz_u1_in (r := 2) (q := 138) (by decide)]; rw [pz_u1_in (r := 2) (q := 134) (by decide)]; rw [pz_u1_top (r := 2)]; rw [pz_u1_in (r := 134) (q := 141) (by decide)]; rw [pz_u1_in (r := 134) (q := 140) (by decide)]; rw [pz_u1_in (r := 134) (q := 139) (by decide)]; rw [pz_u1_in (r := 134) (q := 138) (by decide)]; rw [pz_u1_top (r := 134)]; rw [pz_u1_in (r := 138) (q := 141) (by decide)]; rw [pz_u1_in (r := 138) (q := 140) (by decide)]; rw [pz_u1_in (r := 138) (q := 139) (by decide)]; rw [pz_u1_top (r := 138)]; rw [pz_u1_in (r := 139) (q := 141) (by decide)]; rw [pz_u1_in (r := 139) (q := 140) (by decide)]; rw [pz_u1_top (r := 139)]; rw [pz_u1_in (r := 140) (q := 141) (by decide)]; rw [pz_u1_top (r := 140)] <;> rfl)
                 subst h9x
                 replace hci : q_CI k o9_17 n9_19 w9_20 d9_21 (iv 142) (iv 143) (iv 145) (iv 129) (iv 135) := hci
                 replace ho2 : o9_17 2 = (iv 2) 2 := ho2
                 first | exact ⟨pz_u1 (pz_u1 (pz_u1 (pz_u1 (pz_u1 (pz_u1 iv 2 o9_17) 134 l9_18) 138 n9_19) 139 w9_20) 140 d9_21) 141 (iv 141), ⟨o9_17, l9_18, n9_19, w9_20, d9_21, (iv 141), by rfl, by exact hci, by exact ho2⟩, lf_e (by rfl)⟩ | (exfalso; omega)))
       · first
         | (exfalso; first | omega | contradiction)
         | (have hc22 : pz_R (pz_Sh L) 170 [.inr (.inl 2), .inl t] (pz_u1 (pz_u1 (pz_u1 (pz_u1 (pz_u1 (pz_u1 iv 2 (iv 2)) 134 (iv 134)) 138 (iv 138)) 139 (iv 139)) 140 (iv 140)) 141 (iv 141)) (.inr 2) (pz_u1 (pz_u1 (pz_u1 (pz_u1 (pz_u1 (pz_u1 iv 2 (iv 2)) 134 (iv 134)) 138 (iv 138)) 139 (iv 139)) 140 (iv 140)) 141 (iv 141)) := s_X10_needEvent_n t (by show q_cE k (iv 3); exact hE) (by show ¬ (0 ≤ t ∧ t < k 0); exact h3)
            refine w_calle hc22 rfl (pz_cokI is_2 rfl) rfl ?_
            first | exact ⟨pz_u1 (pz_u1 (pz_u1 (pz_u1 (pz_u1 (pz_u1 iv 2 (iv 2)) 134 (iv 134)) 138 (iv 138)) 139 (iv 139)) 140 (iv 140)) 141 (iv 141), ⟨(iv 2), (iv 134), (iv 138), (iv 139), (iv 140), (iv 141), by rfl, by exact hci, by exact ho2⟩, lf_e (by rfl)⟩ | (exfalso; omega)))
  · first
    | (exfalso; first | omega | contradiction)
    | (have hc23 : pz_R (pz_Sh L) 170 [.inr (.inl 2), .inl f] (pz_u1 (pz_u1 (pz_u1 (pz_u1 (pz_u1 (pz_u1 iv 2 (iv 2)) 134 (iv 134)) 138 (iv 138)) 139 (iv 139)) 140 (iv 140)) 141 (iv 141)) (.inr 2) (pz_u1 (pz_u1 (pz_u1 (pz_u1 (pz_u1 (pz_u1 iv 2 (iv 2)) 134 (iv 134)) 138 (iv 138)) 139 (iv 139)) 140 (iv 140)) 141 (iv 141)) := s_X10_needEvent_n f (by show q_cE k (iv 3); exact hE) (by show ¬ (0 ≤ f ∧ f < k 0); exact h1)
       refine w_calle hc23 rfl (pz_cokI is_2 rfl) rfl ?_
       first | exact ⟨pz_u1 (pz_u1 (pz_u1 (pz_u1 (pz_u1 (pz_u1 iv 2 (iv 2)) 134 (iv 134)) 138 (iv 138)) 139 (iv 139)) 140 (iv 140)) 141 (iv 141), ⟨(iv 2), (iv 134), (iv 138), (iv 139), (iv 140), (iv 141), by rfl, by exact hci, by exact ho2⟩, lf_e (by rfl)⟩ | (exfalso; omega))

theorem s_X10_distanceByRounds_3 {L : Nat} {iv : Nat → Nat → Int} (f : Int) (t : Int) {k : Nat → Int} (hk : q_KR k) (hE : q_cE k (iv 3)) (hB : q_cB k (iv 4) (iv 5) (iv 6) (iv 7) (iv 8) (iv 9)) (hS : q_cS k (iv 10) (iv 11) (iv 12) (iv 13) (iv 14)) (hC : q_cC k (iv 15) (iv 16)) (hA : q_cA k (iv 17) (iv 18) (iv 19) (iv 20)) (hO : q_cO k (iv 22) (iv 23) (iv 24)) (hL : q_cL k (iv 25)) (hP : q_cP k (iv 27)) (hci : q_CI k (iv 2) (iv 138) (iv 139) (iv 140) (iv 142) (iv 143) (iv 145) (iv 129) (iv 135)) (hcase0 : 0 ≤ f ∧ f ≤ k 0 - 1 ∧ 0 ≤ t ∧ t ≤ k 0 - 1) (hcase1 : q_con k (fun _ => 0)) (hcase2 : q_D k (10 * f + t).toNat = 1000000) : pz_RE (pz_Sh L) 133 [.inr (.inl 2), .inl f, .inl t] iv (.inr 3) (fun iv9 => ∃ (o9 : Nat → Int) (l9 : Nat → Int) (n9 : Nat → Int) (w9 : Nat → Int) (d9 : Nat → Int) (g9 : Nat → Int), iv9 = pz_u1 (pz_u1 (pz_u1 (pz_u1 (pz_u1 (pz_u1 iv 2 o9) 134 l9) 138 n9) 139 w9) 140 d9) 141 g9 ∧ (q_CI k o9 n9 w9 d9 (iv 142) (iv 143) (iv 145) (iv 129) (iv 135)) ∧ (o9 2 = (iv 2) 2)) := by
  intro dv cc ss
  have hk0 := hk.r0
  have hE0 := hE
  have hB0 := hB.1
  have hS0 := hS.1
  have hC0 := hC.1
  have hA0 := hA.1
  refine pz_G_mem (iv2 := pz_u1 (pz_u1 (pz_u1 (pz_u1 (pz_u1 (pz_u1 iv 2 (iv 2)) 134 (iv 134)) 138 (iv 138)) 139 (iv 139)) 140 (iv 140)) 141 (iv 141)) (by exact ((((((pz_u1_self iv 2).symm).trans (pz_u1_self (pz_u1 iv 2 (iv 2)) 134).symm).trans (pz_u1_self (pz_u1 (pz_u1 iv 2 (iv 2)) 134 (iv 134)) 138).symm).trans (pz_u1_self (pz_u1 (pz_u1 (pz_u1 iv 2 (iv 2)) 134 (iv 134)) 138 (iv 138)) 139).symm).trans (pz_u1_self (pz_u1 (pz_u1 (pz_u1 (pz_u1 iv 2 (iv 2)) 134 (iv 134)) 138 (iv 138)) 139 (iv 139)) 140).symm).trans (pz_u1_self (pz_u1 (pz_u1 (pz_u1 (pz_u1 (pz_u1 iv 2 (iv 2)) 134 (iv 134)) 138 (iv 138)) 139 (iv 139)) 140 (iv 140)) 141).symm) ?_
  show pz_G 133 0 [some (.inr (.inl 2)), some (.inl f), some (.inl t)] [] (pz_Sh L, pz_u1 (pz_u1 (pz_u1 (pz_u1 (pz_u1 (pz_u1 iv 2 (iv 2)) 134 (iv 134)) 138 (iv 138)) 139 (iv 139)) 140 (iv 140)) 141 (iv 141), dv, cc, ss) (pz_PE (pz_Sh L) (.inr 3) (fun iv9 => ∃ (o9 : Nat → Int) (l9 : Nat → Int) (n9 : Nat → Int) (w9 : Nat → Int) (d9 : Nat → Int) (g9 : Nat → Int), iv9 = pz_u1 (pz_u1 (pz_u1 (pz_u1 (pz_u1 (pz_u1 iv 2 o9) 134 l9) 138 n9) 139 w9) 140 d9) 141 g9 ∧ (q_CI k o9 n9 w9 d9 (iv 142) (iv 143) (iv 145) (iv 129) (iv 135)) ∧ (o9 2 = (iv 2) 2)) dv cc ss)
  refine pz_G_of pz_b133_0 ?_
  refine w_loc rfl ?_
  refine w_loc rfl ?_
  by_cases h1 : 0 ≤ f ∧ f < k 0
  · first
    | (exfalso; first | omega | contradiction)
    | (have hc2 : pz_R (pz_Sh L) 170 [.inr (.inl 2), .inl f] (pz_u1 (pz_u1 (pz_u1 (pz_u1 (pz_u1 (pz_u1 iv 2 (iv 2)) 134 (iv 134)) 138 (iv 138)) 139 (iv 139)) 140 (iv 140)) 141 (iv 141)) (.inl none) (pz_u1 (pz_u1 (pz_u1 (pz_u1 (pz_u1 (pz_u1 iv 2 (iv 2)) 134 (iv 134)) 138 (iv 138)) 139 (iv 139)) 140 (iv 140)) 141 (iv 141)) := s_X10_needEvent_y f (by show q_cE k (iv 3); exact hE) (by show 0 ≤ f ∧ f < k 0; exact h1)
       refine w_callv hc2 rfl (pz_cokI is_2 rfl) ?_
       refine w_loc rfl ?_
       refine w_loc rfl ?_
       by_cases h3 : 0 ≤ t ∧ t < k 0
       · first
         | (exfalso; first | omega | contradiction)
         | (have hc4 : pz_R (pz_Sh L) 170 [.inr (.inl 2), .inl t] (pz_u1 (pz_u1 (pz_u1 (pz_u1 (pz_u1 (pz_u1 iv 2 (iv 2)) 134 (iv 134)) 138 (iv 138)) 139 (iv 139)) 140 (iv 140)) 141 (iv 141)) (.inl none) (pz_u1 (pz_u1 (pz_u1 (pz_u1 (pz_u1 (pz_u1 iv 2 (iv 2)) 134 (iv 134)) 138 (iv 138)) 139 (iv 139)) 140 (iv 140)) 141 (iv 141)) := s_X10_needEvent_y t (by show q_cE k (iv 3); exact hE) (by show 0 ≤ t ∧ t < k 0; exact h3)
            refine w_callv hc4 rfl (pz_cokI is_2 rfl) ?_
            refine w_loc rfl ?_
            by_cases h5 : q_con k (fun _ => 0)
            · first
              | (exfalso; first | omega | contradiction)
              | (have hc6 := s_X10_soundNet_y (L := L) (iv := pz_u1 (pz_u1 (pz_u1 (pz_u1 (pz_u1 (pz_u1 iv 2 (iv 2)) 134 (iv 134)) 138 (iv 138)) 139 (iv 139)) 140 (iv 140)) 141 (iv 141)) (by show q_KR k; exact hk) (by show q_cE k (iv 3); exact hE) (by show q_cB k (iv 4) (iv 5) (iv 6) (iv 7) (iv 8) (iv 9); exact hB) (by show q_cS k (iv 10) (iv 11) (iv 12) (iv 13) (iv 14); exact hS) (by show q_cC k (iv 15) (iv 16); exact hC) (by show q_cL k (iv 25); exact hL) (by show q_CI k (iv 2) (iv 138) (iv 139) (iv 140) (iv 142) (iv 143) (iv 145) (iv 129) (iv 135); exact hci) (by show q_con k (fun _ => 0); exact h5)
                 refine w_callE hc6 rfl (pz_cokI is_2 rfl) (fun iv9 h9 => ?_)
                 obtain ⟨o9_7, l9_8, n9_9, w9_10, d9_11, h9e, hci, hNK, ho2⟩ := h9
                 have h9x : iv9 = pz_u1 (pz_u1 (pz_u1 (pz_u1 (pz_u1 (pz_u1 iv 2 o9_7) 134 l9_8) 138 n9_9) 139 w9_10) 140 d9_11) 141 (iv 141) := h9e.trans (by rw [pz_u1_in (r := 2) (q := 141) (by decide)]; rw [pz_u1_in (r := 2) (q := 140) (by decide)]; rw [pz_u1_in (r := 2) (q := 139) (by decide)]; rw [pz_u1_in (r := 2) (q := 138) (by decide)]; rw [pz_u1_in (r := 2) (q := 134) (by decide)]; rw [pz_u1_top (r := 2)]; rw [pz_u1_in (r := 134) (q := 141) (by decide)]; rw [pz_u1_in (r := 134) (q := 140) (by decide)]; rw [pz_u1_in (r := 134) (q := 139) (by decide)]; rw [pz_u1_in (r := 134) (q := 138) (by decide)]; rw [pz_u1_top (r := 134)]; rw [pz_u1_in (r := 138) (q := 141) (by decide)]; rw [pz_u1_in (r := 138) (q := 140) (by decide)]; rw [pz_u1_in (r := 138) (q := 139) (by decide)]; rw [pz_u1_top (r := 138)]; rw [pz_u1_in (r := 139) (q := 141) (by decide)]; rw [pz_u1_in (r := 139) (q := 140) (by decide)]; rw [pz_u1_top (r := 139)]; rw [pz_u1_in (r := 140) (q := 141) (by decide)]; rw [pz_u1_top (r := 140)] <;> rfl)
                 subst h9x
                 replace hci : q_CI k o9_7 n9_9 w9_10 d9_11 (iv 142) (iv 143) (iv 145) (iv 129) (iv 135) := hci
                 replace hNK : q_NK k n9_9 w9_10 d9_11 := hNK
                 replace ho2 : o9_7 2 = (iv 2) 2 := ho2
                 obtain ⟨p, hpo, hpf⟩ := q_po_at hk hNK (by assumption) (f := f) (by omega)
                 have hNt := q_gi_at (r := iv 141) hk hNK (by assumption) (f := f) (t := t) (by omega) (by omega)
                 refine w_loc rfl ?_
                 refine w_loc rfl ?_
                 have hc12 : pz_R (pz_Sh L) 60 [.inr (.inl 138), .inl f, .inl t] (pz_u1 (pz_u1 (pz_u1 (pz_u1 (pz_u1 (pz_u1 iv 2 o9_7) 134 l9_8) 138 n9_9) 139 w9_10) 140 d9_11) 141 (iv 141)) (.inl (some (.inl (q_gi (n9_9 0) w9_10 (n9_9 0) (q_ri f (iv 141)) t.toNat)))) (pz_u1 (pz_u1 (pz_u1 (pz_u1 (pz_u1 (pz_u1 iv 2 o9_7) 134 l9_8) 138 n9_9) 139 w9_10) 140 d9_11) 141 (q_gi (n9_9 0) w9_10 (n9_9 0) (q_ri f (iv 141)))) := pz_R_mem (s_X5_byRounds f t (by show 1 ≤ n9_9 0 ∧ n9_9 0 ≤ 10; rw [hNK.1]; omega) (by show q_po (n9_9 0) p w9_10; exact hpo) (by show 0 ≤ f ∧ f < n9_9 0; rw [hNK.1]; omega) (by show 0 ≤ t ∧ t < n9_9 0; rw [hNK.1]; omega) (by show p f.toNat ≤ 0; assumption)) (by rw [pz_u1_top (r := 141)]; rfl)
                 refine w_call hc12 rfl (pz_cokI is_138 rfl) ?_
                 by_cases h13 : (q_gi (n9_9 0) w9_10 (n9_9 0) (q_ri f (iv 141)) t.toNat) ≠ 1000000000
                 · first
                   | (exfalso; first | omega | contradiction)
                   | (have hc14 : pz_R (pz_Sh L) 177 [.inl (q_gi (n9_9 0) w9_10 (n9_9 0) (q_ri f (iv 141)) t.toNat)] (pz_u1 (pz_u1 (pz_u1 (pz_u1 (pz_u1 (pz_u1 iv 2 o9_7) 134 l9_8) 138 n9_9) 139 w9_10) 140 d9_11) 141 (q_gi (n9_9 0) w9_10 (n9_9 0) (q_ri f (iv 141)))) (.inl (some (.inl (q_gi (n9_9 0) w9_10 (n9_9 0) (q_ri f (iv 141)) t.toNat)))) (pz_u1 (pz_u1 (pz_u1 (pz_u1 (pz_u1 (pz_u1 iv 2 o9_7) 134 l9_8) 138 n9_9) 139 w9_10) 140 d9_11) 141 (q_gi (n9_9 0) w9_10 (n9_9 0) (q_ri f (iv 141)))) := s_X10_toldValue_y (q_gi (n9_9 0) w9_10 (n9_9 0) (q_ri f (iv 141)) t.toNat) (by show (q_gi (n9_9 0) w9_10 (n9_9 0) (q_ri f (iv 141)) t.toNat) ≠ 1000000000; exact h13)
                      refine w_call hc14 rfl rfl ?_
                      refine w_ret rfl ?_
                      first | exact ⟨pz_u1 (pz_u1 (pz_u1 (pz_u1 (pz_u1 (pz_u1 iv 2 o9_7) 134 l9_8) 138 n9_9) 139 w9_10) 140 d9_11) 141 (q_gi (n9_9 0) w9_10 (n9_9 0) (q_ri f (iv 141))), ⟨o9_7, l9_8, n9_9, w9_10, d9_11, (q_gi (n9_9 0) w9_10 (n9_9 0) (q_ri f (iv 141))), by rfl, by exact hci, by exact ho2⟩, lf_i (by first | rfl | omega) (by rfl)⟩ | (exfalso; omega))
                 · first
                   | (exfalso; first | omega | contradiction)
                   | (have hc15 : pz_R (pz_Sh L) 177 [.inl (q_gi (n9_9 0) w9_10 (n9_9 0) (q_ri f (iv 141)) t.toNat)] (pz_u1 (pz_u1 (pz_u1 (pz_u1 (pz_u1 (pz_u1 iv 2 o9_7) 134 l9_8) 138 n9_9) 139 w9_10) 140 d9_11) 141 (q_gi (n9_9 0) w9_10 (n9_9 0) (q_ri f (iv 141)))) (.inr 3) (pz_u1 (pz_u1 (pz_u1 (pz_u1 (pz_u1 (pz_u1 iv 2 o9_7) 134 l9_8) 138 n9_9) 139 w9_10) 140 d9_11) 141 (q_gi (n9_9 0) w9_10 (n9_9 0) (q_ri f (iv 141)))) := s_X10_toldValue_n (q_gi (n9_9 0) w9_10 (n9_9 0) (q_ri f (iv 141)) t.toNat) (by show ¬ (q_gi (n9_9 0) w9_10 (n9_9 0) (q_ri f (iv 141)) t.toNat) ≠ 1000000000; exact h13)
                      refine w_calle hc15 rfl rfl rfl ?_
                      first | exact ⟨pz_u1 (pz_u1 (pz_u1 (pz_u1 (pz_u1 (pz_u1 iv 2 o9_7) 134 l9_8) 138 n9_9) 139 w9_10) 140 d9_11) 141 (q_gi (n9_9 0) w9_10 (n9_9 0) (q_ri f (iv 141))), ⟨o9_7, l9_8, n9_9, w9_10, d9_11, (q_gi (n9_9 0) w9_10 (n9_9 0) (q_ri f (iv 141))), by rfl, by exact hci, by exact ho2⟩, lf_e (by rfl)⟩ | (exfalso; omega)))
            · first
              | (exfalso; first | omega | contradiction)
              | (have hc16 := s_X10_soundNet_n (L := L) (iv := pz_u1 (pz_u1 (pz_u1 (pz_u1 (pz_u1 (pz_u1 iv 2 (iv 2)) 134 (iv 134)) 138 (iv 138)) 139 (iv 139)) 140 (iv 140)) 141 (iv 141)) (by show q_KR k; exact hk) (by show q_cE k (iv 3); exact hE) (by show q_cB k (iv 4) (iv 5) (iv 6) (iv 7) (iv 8) (iv 9); exact hB) (by show q_cS k (iv 10) (iv 11) (iv 12) (iv 13) (iv 14); exact hS) (by show q_cC k (iv 15) (iv 16); exact hC) (by show q_cL k (iv 25); exact hL) (by show q_CI k (iv 2) (iv 138) (iv 139) (iv 140) (iv 142) (iv 143) (iv 145) (iv 129) (iv 135); exact hci) (by show ¬ q_con k (fun _ => 0); exact h5)
                 refine w_calleE hc16 rfl (pz_cokI is_2 rfl) rfl (fun iv9 h9 => ?_)
                 obtain ⟨o9_17, l9_18, n9_19, w9_20, d9_21, h9e, hci, ho2⟩ := h9
                 have h9x : iv9 = pz_u1 (pz_u1 (pz_u1 (pz_u1 (pz_u1 (pz_u1 iv 2 o9_17) 134 l9_18) 138 n9_19) 139 w9_20) 140 d9_21) 141 (iv 141) := h9e.trans (by rw [pz_u1_in (r := 2) (q := 141) (by decide)]; rw [pz_u1_in (r := 2) (q := 140) (by decide)]; rw [pz_u1_in (r := 2) (q := 139) (by decide)]; rw [pz_u1_in (r := 2) (q := 138) (by decide)]; rw [pz_u1_in (r := 2) (q := 134) (by decide)]; rw [pz_u1_top (r := 2)]; rw [pz_u1_in (r := 134) (q := 141) (by decide)]; rw [pz_u1_in (r := 134) (q := 140) (by decide)]; rw [pz_u1_in (r := 134) (q := 139) (by decide)]; rw [pz_u1_in (r := 134) (q := 138) (by decide)]; rw [pz_u1_top (r := 134)]; rw [pz_u1_in (r := 138) (q := 141) (by decide)]; rw [pz_u1_in (r := 138) (q := 140) (by decide)]; rw [pz_u1_in (r := 138) (q := 139) (by decide)]; rw [pz_u1_top (r := 138)]; rw [pz_u1_in (r := 139) (q := 141) (by decide)]; rw [pz_u1_in (r := 139) (q := 140) (by decide)]; rw [pz_u1_top (r := 139)]; rw [pz_u1_in (r := 140) (q := 141) (by decide)]; rw [pz_u1_top (r := 140)] <;> rfl)
                 subst h9x
                 replace hci : q_CI k o9_17 n9_19 w9_20 d9_21 (iv 142) (iv 143) (iv 145) (iv 129) (iv 135) := hci
                 replace ho2 : o9_17 2 = (iv 2) 2 := ho2
                 first | exact ⟨pz_u1 (pz_u1 (pz_u1 (pz_u1 (pz_u1 (pz_u1 iv 2 o9_17) 134 l9_18) 138 n9_19) 139 w9_20) 140 d9_21) 141 (iv 141), ⟨o9_17, l9_18, n9_19, w9_20, d9_21, (iv 141), by rfl, by exact hci, by exact ho2⟩, lf_e (by rfl)⟩ | (exfalso; omega)))
       · first
         | (exfalso; first | omega | contradiction)
         | (have hc22 : pz_R (pz_Sh L) 170 [.inr (.inl 2), .inl t] (pz_u1 (pz_u1 (pz_u1 (pz_u1 (pz_u1 (pz_u1 iv 2 (iv 2)) 134 (iv 134)) 138 (iv 138)) 139 (iv 139)) 140 (iv 140)) 141 (iv 141)) (.inr 2) (pz_u1 (pz_u1 (pz_u1 (pz_u1 (pz_u1 (pz_u1 iv 2 (iv 2)) 134 (iv 134)) 138 (iv 138)) 139 (iv 139)) 140 (iv 140)) 141 (iv 141)) := s_X10_needEvent_n t (by show q_cE k (iv 3); exact hE) (by show ¬ (0 ≤ t ∧ t < k 0); exact h3)
            refine w_calle hc22 rfl (pz_cokI is_2 rfl) rfl ?_
            first | exact ⟨pz_u1 (pz_u1 (pz_u1 (pz_u1 (pz_u1 (pz_u1 iv 2 (iv 2)) 134 (iv 134)) 138 (iv 138)) 139 (iv 139)) 140 (iv 140)) 141 (iv 141), ⟨(iv 2), (iv 134), (iv 138), (iv 139), (iv 140), (iv 141), by rfl, by exact hci, by exact ho2⟩, lf_e (by rfl)⟩ | (exfalso; omega)))
  · first
    | (exfalso; first | omega | contradiction)
    | (have hc23 : pz_R (pz_Sh L) 170 [.inr (.inl 2), .inl f] (pz_u1 (pz_u1 (pz_u1 (pz_u1 (pz_u1 (pz_u1 iv 2 (iv 2)) 134 (iv 134)) 138 (iv 138)) 139 (iv 139)) 140 (iv 140)) 141 (iv 141)) (.inr 2) (pz_u1 (pz_u1 (pz_u1 (pz_u1 (pz_u1 (pz_u1 iv 2 (iv 2)) 134 (iv 134)) 138 (iv 138)) 139 (iv 139)) 140 (iv 140)) 141 (iv 141)) := s_X10_needEvent_n f (by show q_cE k (iv 3); exact hE) (by show ¬ (0 ≤ f ∧ f < k 0); exact h1)
       refine w_calle hc23 rfl (pz_cokI is_2 rfl) rfl ?_
       first | exact ⟨pz_u1 (pz_u1 (pz_u1 (pz_u1 (pz_u1 (pz_u1 iv 2 (iv 2)) 134 (iv 134)) 138 (iv 138)) 139 (iv 139)) 140 (iv 140)) 141 (iv 141), ⟨(iv 2), (iv 134), (iv 138), (iv 139), (iv 140), (iv 141), by rfl, by exact hci, by exact ho2⟩, lf_e (by rfl)⟩ | (exfalso; omega))

theorem s_X10_distanceByRounds_0 {L : Nat} {iv : Nat → Nat → Int} (f : Int) (t : Int) {k : Nat → Int} (hk : q_KR k) (hE : q_cE k (iv 3)) (hB : q_cB k (iv 4) (iv 5) (iv 6) (iv 7) (iv 8) (iv 9)) (hS : q_cS k (iv 10) (iv 11) (iv 12) (iv 13) (iv 14)) (hC : q_cC k (iv 15) (iv 16)) (hA : q_cA k (iv 17) (iv 18) (iv 19) (iv 20)) (hO : q_cO k (iv 22) (iv 23) (iv 24)) (hL : q_cL k (iv 25)) (hP : q_cP k (iv 27)) (hci : q_CI k (iv 2) (iv 138) (iv 139) (iv 140) (iv 142) (iv 143) (iv 145) (iv 129) (iv 135)) (hcase0 : 0 ≤ f ∧ f ≤ k 0 - 1 ∧ 0 ≤ t ∧ t ≤ k 0 - 1) (hcase1 : q_con k (fun _ => 0)) (hcase2 : q_D k (10 * f + t).toNat ≠ 1000000) : pz_RE (pz_Sh L) 133 [.inr (.inl 2), .inl f, .inl t] iv (.inl (some (.inl (q_D k (10 * f + t).toNat)))) (fun iv9 => ∃ (o9 : Nat → Int) (l9 : Nat → Int) (n9 : Nat → Int) (w9 : Nat → Int) (d9 : Nat → Int) (g9 : Nat → Int), iv9 = pz_u1 (pz_u1 (pz_u1 (pz_u1 (pz_u1 (pz_u1 iv 2 o9) 134 l9) 138 n9) 139 w9) 140 d9) 141 g9 ∧ (q_CI k o9 n9 w9 d9 (iv 142) (iv 143) (iv 145) (iv 129) (iv 135)) ∧ (o9 2 = (iv 2) 2)) := by
  intro dv cc ss
  have hk0 := hk.r0
  have hE0 := hE
  have hB0 := hB.1
  have hS0 := hS.1
  have hC0 := hC.1
  have hA0 := hA.1
  refine pz_G_mem (iv2 := pz_u1 (pz_u1 (pz_u1 (pz_u1 (pz_u1 (pz_u1 iv 2 (iv 2)) 134 (iv 134)) 138 (iv 138)) 139 (iv 139)) 140 (iv 140)) 141 (iv 141)) (by exact ((((((pz_u1_self iv 2).symm).trans (pz_u1_self (pz_u1 iv 2 (iv 2)) 134).symm).trans (pz_u1_self (pz_u1 (pz_u1 iv 2 (iv 2)) 134 (iv 134)) 138).symm).trans (pz_u1_self (pz_u1 (pz_u1 (pz_u1 iv 2 (iv 2)) 134 (iv 134)) 138 (iv 138)) 139).symm).trans (pz_u1_self (pz_u1 (pz_u1 (pz_u1 (pz_u1 iv 2 (iv 2)) 134 (iv 134)) 138 (iv 138)) 139 (iv 139)) 140).symm).trans (pz_u1_self (pz_u1 (pz_u1 (pz_u1 (pz_u1 (pz_u1 iv 2 (iv 2)) 134 (iv 134)) 138 (iv 138)) 139 (iv 139)) 140 (iv 140)) 141).symm) ?_
  show pz_G 133 0 [some (.inr (.inl 2)), some (.inl f), some (.inl t)] [] (pz_Sh L, pz_u1 (pz_u1 (pz_u1 (pz_u1 (pz_u1 (pz_u1 iv 2 (iv 2)) 134 (iv 134)) 138 (iv 138)) 139 (iv 139)) 140 (iv 140)) 141 (iv 141), dv, cc, ss) (pz_PE (pz_Sh L) (.inl (some (.inl (q_D k (10 * f + t).toNat)))) (fun iv9 => ∃ (o9 : Nat → Int) (l9 : Nat → Int) (n9 : Nat → Int) (w9 : Nat → Int) (d9 : Nat → Int) (g9 : Nat → Int), iv9 = pz_u1 (pz_u1 (pz_u1 (pz_u1 (pz_u1 (pz_u1 iv 2 o9) 134 l9) 138 n9) 139 w9) 140 d9) 141 g9 ∧ (q_CI k o9 n9 w9 d9 (iv 142) (iv 143) (iv 145) (iv 129) (iv 135)) ∧ (o9 2 = (iv 2) 2)) dv cc ss)
  refine pz_G_of pz_b133_0 ?_
  refine w_loc rfl ?_
  refine w_loc rfl ?_
  by_cases h1 : 0 ≤ f ∧ f < k 0
  · first
    | (exfalso; first | omega | contradiction)
    | (have hc2 : pz_R (pz_Sh L) 170 [.inr (.inl 2), .inl f] (pz_u1 (pz_u1 (pz_u1 (pz_u1 (pz_u1 (pz_u1 iv 2 (iv 2)) 134 (iv 134)) 138 (iv 138)) 139 (iv 139)) 140 (iv 140)) 141 (iv 141)) (.inl none) (pz_u1 (pz_u1 (pz_u1 (pz_u1 (pz_u1 (pz_u1 iv 2 (iv 2)) 134 (iv 134)) 138 (iv 138)) 139 (iv 139)) 140 (iv 140)) 141 (iv 141)) := s_X10_needEvent_y f (by show q_cE k (iv 3); exact hE) (by show 0 ≤ f ∧ f < k 0; exact h1)
       refine w_callv hc2 rfl (pz_cokI is_2 rfl) ?_
       refine w_loc rfl ?_
       refine w_loc rfl ?_
       by_cases h3 : 0 ≤ t ∧ t < k 0
       · first
         | (exfalso; first | omega | contradiction)
         | (have hc4 : pz_R (pz_Sh L) 170 [.inr (.inl 2), .inl t] (pz_u1 (pz_u1 (pz_u1 (pz_u1 (pz_u1 (pz_u1 iv 2 (iv 2)) 134 (iv 134)) 138 (iv 138)) 139 (iv 139)) 140 (iv 140)) 141 (iv 141)) (.inl none) (pz_u1 (pz_u1 (pz_u1 (pz_u1 (pz_u1 (pz_u1 iv 2 (iv 2)) 134 (iv 134)) 138 (iv 138)) 139 (iv 139)) 140 (iv 140)) 141 (iv 141)) := s_X10_needEvent_y t (by show q_cE k (iv 3); exact hE) (by show 0 ≤ t ∧ t < k 0; exact h3)
            refine w_callv hc4 rfl (pz_cokI is_2 rfl) ?_
            refine w_loc rfl ?_
            by_cases h5 : q_con k (fun _ => 0)
            · first
              | (exfalso; first | omega | contradiction)
              | (have hc6 := s_X10_soundNet_y (L := L) (iv := pz_u1 (pz_u1 (pz_u1 (pz_u1 (pz_u1 (pz_u1 iv 2 (iv 2)) 134 (iv 134)) 138 (iv 138)) 139 (iv 139)) 140 (iv 140)) 141 (iv 141)) (by show q_KR k; exact hk) (by show q_cE k (iv 3); exact hE) (by show q_cB k (iv 4) (iv 5) (iv 6) (iv 7) (iv 8) (iv 9); exact hB) (by show q_cS k (iv 10) (iv 11) (iv 12) (iv 13) (iv 14); exact hS) (by show q_cC k (iv 15) (iv 16); exact hC) (by show q_cL k (iv 25); exact hL) (by show q_CI k (iv 2) (iv 138) (iv 139) (iv 140) (iv 142) (iv 143) (iv 145) (iv 129) (iv 135); exact hci) (by show q_con k (fun _ => 0); exact h5)
                 refine w_callE hc6 rfl (pz_cokI is_2 rfl) (fun iv9 h9 => ?_)
                 obtain ⟨o9_7, l9_8, n9_9, w9_10, d9_11, h9e, hci, hNK, ho2⟩ := h9
                 have h9x : iv9 = pz_u1 (pz_u1 (pz_u1 (pz_u1 (pz_u1 (pz_u1 iv 2 o9_7) 134 l9_8) 138 n9_9) 139 w9_10) 140 d9_11) 141 (iv 141) := h9e.trans (by rw [pz_u1_in (r := 2) (q := 141) (by decide)]; rw [pz_u1_in (r := 2) (q := 140) (by decide)]; rw [pz_u1_in (r := 2) (q := 139) (by decide)]; rw [pz_u1_in (r := 2) (q := 138) (by decide)]; rw [pz_u1_in (r := 2) (q := 134) (by decide)]; rw [pz_u1_top (r := 2)]; rw [pz_u1_in (r := 134) (q := 141) (by decide)]; rw [pz_u1_in (r := 134) (q := 140) (by decide)]; rw [pz_u1_in (r := 134) (q := 139) (by decide)]; rw [pz_u1_in (r := 134) (q := 138) (by decide)]; rw [pz_u1_top (r := 134)]; rw [pz_u1_in (r := 138) (q := 141) (by decide)]; rw [pz_u1_in (r := 138) (q := 140) (by decide)]; rw [pz_u1_in (r := 138) (q := 139) (by decide)]; rw [pz_u1_top (r := 138)]; rw [pz_u1_in (r := 139) (q := 141) (by decide)]; rw [pz_u1_in (r := 139) (q := 140) (by decide)]; rw [pz_u1_top (r := 139)]; rw [pz_u1_in (r := 140) (q := 141) (by decide)]; rw [pz_u1_top (r := 140)] <;> rfl)
                 subst h9x
                 replace hci : q_CI k o9_7 n9_9 w9_10 d9_11 (iv 142) (iv 143) (iv 145) (iv 129) (iv 135) := hci
                 replace hNK : q_NK k n9_9 w9_10 d9_11 := hNK
                 replace ho2 : o9_7 2 = (iv 2) 2 := ho2
                 obtain ⟨p, hpo, hpf⟩ := q_po_at hk hNK (by assumption) (f := f) (by omega)
                 have hNt := q_gi_at (r := iv 141) hk hNK (by assumption) (f := f) (t := t) (by omega) (by omega)
                 refine w_loc rfl ?_
                 refine w_loc rfl ?_
                 have hc12 : pz_R (pz_Sh L) 60 [.inr (.inl 138), .inl f, .inl t] (pz_u1 (pz_u1 (pz_u1 (pz_u1 (pz_u1 (pz_u1 iv 2 o9_7) 134 l9_8) 138 n9_9) 139 w9_10) 140 d9_11) 141 (iv 141)) (.inl (some (.inl (q_gi (n9_9 0) w9_10 (n9_9 0) (q_ri f (iv 141)) t.toNat)))) (pz_u1 (pz_u1 (pz_u1 (pz_u1 (pz_u1 (pz_u1 iv 2 o9_7) 134 l9_8) 138 n9_9) 139 w9_10) 140 d9_11) 141 (q_gi (n9_9 0) w9_10 (n9_9 0) (q_ri f (iv 141)))) := pz_R_mem (s_X5_byRounds f t (by show 1 ≤ n9_9 0 ∧ n9_9 0 ≤ 10; rw [hNK.1]; omega) (by show q_po (n9_9 0) p w9_10; exact hpo) (by show 0 ≤ f ∧ f < n9_9 0; rw [hNK.1]; omega) (by show 0 ≤ t ∧ t < n9_9 0; rw [hNK.1]; omega) (by show p f.toNat ≤ 0; assumption)) (by rw [pz_u1_top (r := 141)]; rfl)
                 refine w_call hc12 rfl (pz_cokI is_138 rfl) ?_
                 by_cases h13 : (q_gi (n9_9 0) w9_10 (n9_9 0) (q_ri f (iv 141)) t.toNat) ≠ 1000000000
                 · first
                   | (exfalso; first | omega | contradiction)
                   | (have hc14 : pz_R (pz_Sh L) 177 [.inl (q_gi (n9_9 0) w9_10 (n9_9 0) (q_ri f (iv 141)) t.toNat)] (pz_u1 (pz_u1 (pz_u1 (pz_u1 (pz_u1 (pz_u1 iv 2 o9_7) 134 l9_8) 138 n9_9) 139 w9_10) 140 d9_11) 141 (q_gi (n9_9 0) w9_10 (n9_9 0) (q_ri f (iv 141)))) (.inl (some (.inl (q_gi (n9_9 0) w9_10 (n9_9 0) (q_ri f (iv 141)) t.toNat)))) (pz_u1 (pz_u1 (pz_u1 (pz_u1 (pz_u1 (pz_u1 iv 2 o9_7) 134 l9_8) 138 n9_9) 139 w9_10) 140 d9_11) 141 (q_gi (n9_9 0) w9_10 (n9_9 0) (q_ri f (iv 141)))) := s_X10_toldValue_y (q_gi (n9_9 0) w9_10 (n9_9 0) (q_ri f (iv 141)) t.toNat) (by show (q_gi (n9_9 0) w9_10 (n9_9 0) (q_ri f (iv 141)) t.toNat) ≠ 1000000000; exact h13)
                      refine w_call hc14 rfl rfl ?_
                      refine w_ret rfl ?_
                      first | exact ⟨pz_u1 (pz_u1 (pz_u1 (pz_u1 (pz_u1 (pz_u1 iv 2 o9_7) 134 l9_8) 138 n9_9) 139 w9_10) 140 d9_11) 141 (q_gi (n9_9 0) w9_10 (n9_9 0) (q_ri f (iv 141))), ⟨o9_7, l9_8, n9_9, w9_10, d9_11, (q_gi (n9_9 0) w9_10 (n9_9 0) (q_ri f (iv 141))), by rfl, by exact hci, by exact ho2⟩, lf_i (by first | rfl | omega) (by rfl)⟩ | (exfalso; omega))
                 · first
                   | (exfalso; first | omega | contradiction)
                   | (have hc15 : pz_R (pz_Sh L) 177 [.inl (q_gi (n9_9 0) w9_10 (n9_9 0) (q_ri f (iv 141)) t.toNat)] (pz_u1 (pz_u1 (pz_u1 (pz_u1 (pz_u1 (pz_u1 iv 2 o9_7) 134 l9_8) 138 n9_9) 139 w9_10) 140 d9_11) 141 (q_gi (n9_9 0) w9_10 (n9_9 0) (q_ri f (iv 141)))) (.inr 3) (pz_u1 (pz_u1 (pz_u1 (pz_u1 (pz_u1 (pz_u1 iv 2 o9_7) 134 l9_8) 138 n9_9) 139 w9_10) 140 d9_11) 141 (q_gi (n9_9 0) w9_10 (n9_9 0) (q_ri f (iv 141)))) := s_X10_toldValue_n (q_gi (n9_9 0) w9_10 (n9_9 0) (q_ri f (iv 141)) t.toNat) (by show ¬ (q_gi (n9_9 0) w9_10 (n9_9 0) (q_ri f (iv 141)) t.toNat) ≠ 1000000000; exact h13)
                      refine w_calle hc15 rfl rfl rfl ?_
                      first | exact ⟨pz_u1 (pz_u1 (pz_u1 (pz_u1 (pz_u1 (pz_u1 iv 2 o9_7) 134 l9_8) 138 n9_9) 139 w9_10) 140 d9_11) 141 (q_gi (n9_9 0) w9_10 (n9_9 0) (q_ri f (iv 141))), ⟨o9_7, l9_8, n9_9, w9_10, d9_11, (q_gi (n9_9 0) w9_10 (n9_9 0) (q_ri f (iv 141))), by rfl, by exact hci, by exact ho2⟩, lf_e (by rfl)⟩ | (exfalso; omega)))
            · first
              | (exfalso; first | omega | contradiction)
              | (have hc16 := s_X10_soundNet_n (L := L) (iv := pz_u1 (pz_u1 (pz_u1 (pz_u1 (pz_u1 (pz_u1 iv 2 (iv 2)) 134 (iv 134)) 138 (iv 138)) 139 (iv 139)) 140 (iv 140)) 141 (iv 141)) (by show q_KR k; exact hk) (by show q_cE k (iv 3); exact hE) (by show q_cB k (iv 4) (iv 5) (iv 6) (iv 7) (iv 8) (iv 9); exact hB) (by show q_cS k (iv 10) (iv 11) (iv 12) (iv 13) (iv 14); exact hS) (by show q_cC k (iv 15) (iv 16); exact hC) (by show q_cL k (iv 25); exact hL) (by show q_CI k (iv 2) (iv 138) (iv 139) (iv 140) (iv 142) (iv 143) (iv 145) (iv 129) (iv 135); exact hci) (by show ¬ q_con k (fun _ => 0); exact h5)
                 refine w_calleE hc16 rfl (pz_cokI is_2 rfl) rfl (fun iv9 h9 => ?_)
                 obtain ⟨o9_17, l9_18, n9_19, w9_20, d9_21, h9e, hci, ho2⟩ := h9
                 have h9x : iv9 = pz_u1 (pz_u1 (pz_u1 (pz_u1 (pz_u1 (pz_u1 iv 2 o9_17) 134 l9_18) 138 n9_19) 139 w9_20) 140 d9_21) 141 (iv 141) := h9e.trans (by rw [pz_u1_in (r := 2) (q := 141) (by decide)]; rw [pz_u1_in (r := 2) (q := 140) (by decide)]; rw [pz_u1_in (r := 2) (q := 139) (by decide)]; rw [pz_u1_in (r := 2) (q := 138) (by decide)]; rw [pz_u1_in (r := 2) (q := 134) (by decide)]; rw [pz_u1_top (r := 2)]; rw [pz_u1_in (r := 134) (q := 141) (by decide)]; rw [pz_u1_in (r := 134) (q := 140) (by decide)]; rw [pz_u1_in (r := 134) (q := 139) (by decide)]; rw [pz_u1_in (r := 134) (q := 138) (by decide)]; rw [pz_u1_top (r := 134)]; rw [pz_u1_in (r := 138) (q := 141) (by decide)]; rw [pz_u1_in (r := 138) (q := 140) (by decide)]; rw [pz_u1_in (r := 138) (q := 139) (by decide)]; rw [pz_u1_top (r := 138)]; rw [pz_u1_in (r := 139) (q := 141) (by decide)]; rw [pz_u1_in (r := 139) (q := 140) (by decide)]; rw [pz_u1_top (r := 139)]; rw [pz_u1_in (r := 140) (q := 141) (by decide)]; rw [pz_u1_top (r := 140)] <;> rfl)
                 subst h9x
                 replace hci : q_CI k o9_17 n9_19 w9_20 d9_21 (iv 142) (iv 143) (iv 145) (iv 129) (iv 135) := hci
                 replace ho2 : o9_17 2 = (iv 2) 2 := ho2
                 first | exact ⟨pz_u1 (pz_u1 (pz_u1 (pz_u1 (pz_u1 (pz_u1 iv 2 o9_17) 134 l9_18) 138 n9_19) 139 w9_20) 140 d9_21) 141 (iv 141), ⟨o9_17, l9_18, n9_19, w9_20, d9_21, (iv 141), by rfl, by exact hci, by exact ho2⟩, lf_e (by rfl)⟩ | (exfalso; omega)))
       · first
         | (exfalso; first | omega | contradiction)
         | (have hc22 : pz_R (pz_Sh L) 170 [.inr (.inl 2), .inl t] (pz_u1 (pz_u1 (pz_u1 (pz_u1 (pz_u1 (pz_u1 iv 2 (iv 2)) 134 (iv 134)) 138 (iv 138)) 139 (iv 139)) 140 (iv 140)) 141 (iv 141)) (.inr 2) (pz_u1 (pz_u1 (pz_u1 (pz_u1 (pz_u1 (pz_u1 iv 2 (iv 2)) 134 (iv 134)) 138 (iv 138)) 139 (iv 139)) 140 (iv 140)) 141 (iv 141)) := s_X10_needEvent_n t (by show q_cE k (iv 3); exact hE) (by show ¬ (0 ≤ t ∧ t < k 0); exact h3)
            refine w_calle hc22 rfl (pz_cokI is_2 rfl) rfl ?_
            first | exact ⟨pz_u1 (pz_u1 (pz_u1 (pz_u1 (pz_u1 (pz_u1 iv 2 (iv 2)) 134 (iv 134)) 138 (iv 138)) 139 (iv 139)) 140 (iv 140)) 141 (iv 141), ⟨(iv 2), (iv 134), (iv 138), (iv 139), (iv 140), (iv 141), by rfl, by exact hci, by exact ho2⟩, lf_e (by rfl)⟩ | (exfalso; omega)))
  · first
    | (exfalso; first | omega | contradiction)
    | (have hc23 : pz_R (pz_Sh L) 170 [.inr (.inl 2), .inl f] (pz_u1 (pz_u1 (pz_u1 (pz_u1 (pz_u1 (pz_u1 iv 2 (iv 2)) 134 (iv 134)) 138 (iv 138)) 139 (iv 139)) 140 (iv 140)) 141 (iv 141)) (.inr 2) (pz_u1 (pz_u1 (pz_u1 (pz_u1 (pz_u1 (pz_u1 iv 2 (iv 2)) 134 (iv 134)) 138 (iv 138)) 139 (iv 139)) 140 (iv 140)) 141 (iv 141)) := s_X10_needEvent_n f (by show q_cE k (iv 3); exact hE) (by show ¬ (0 ≤ f ∧ f < k 0); exact h1)
       refine w_calle hc23 rfl (pz_cokI is_2 rfl) rfl ?_
       first | exact ⟨pz_u1 (pz_u1 (pz_u1 (pz_u1 (pz_u1 (pz_u1 iv 2 (iv 2)) 134 (iv 134)) 138 (iv 138)) 139 (iv 139)) 140 (iv 140)) 141 (iv 141), ⟨(iv 2), (iv 134), (iv 138), (iv 139), (iv 140), (iv 141), by rfl, by exact hci, by exact ho2⟩, lf_e (by rfl)⟩ | (exfalso; omega))

theorem s_X10_isDirect_1 {L : Nat} {iv : Nat → Nat → Int} (f : Int) (t : Int) {k : Nat → Int} (hk : q_KR k) (hE : q_cE k (iv 3)) (hB : q_cB k (iv 4) (iv 5) (iv 6) (iv 7) (iv 8) (iv 9)) (hS : q_cS k (iv 10) (iv 11) (iv 12) (iv 13) (iv 14)) (hC : q_cC k (iv 15) (iv 16)) (hA : q_cA k (iv 17) (iv 18) (iv 19) (iv 20)) (hO : q_cO k (iv 22) (iv 23) (iv 24)) (hL : q_cL k (iv 25)) (hP : q_cP k (iv 27)) (hci : q_CI k (iv 2) (iv 138) (iv 139) (iv 140) (iv 142) (iv 143) (iv 145) (iv 129) (iv 135)) (hcase0 : ¬ (0 ≤ f ∧ f ≤ k 0 - 1 ∧ 0 ≤ t ∧ t ≤ k 0 - 1)) : pz_R (pz_Sh L) 134 [.inr (.inl 2), .inl f, .inl t] iv (.inr 2) iv := by
  intro dv cc ss
  have hk0 := hk.r0
  have hE0 := hE
  have hB0 := hB.1
  have hS0 := hS.1
  have hC0 := hC.1
  have hA0 := hA.1
  show pz_G 134 0 [some (.inr (.inl 2)), some (.inl f), some (.inl t)] [] (pz_Sh L, iv, dv, cc, ss) (pz_P (pz_Sh L) (.inr 2) iv dv cc ss)
  refine pz_G_of pz_b134_0 ?_
  refine w_loc rfl ?_
  refine w_loc rfl ?_
  by_cases h1 : 0 ≤ f ∧ f < k 0
  · first
    | (exfalso; first | omega | contradiction)
    | (have hc2 : pz_R (pz_Sh L) 170 [.inr (.inl 2), .inl f] (iv) (.inl none) (iv) := s_X10_needEvent_y f (by exact hE) (by exact h1)
       refine w_callv hc2 rfl (pz_cokI is_2 rfl) ?_
       refine w_loc rfl ?_
       refine w_loc rfl ?_
       by_cases h3 : 0 ≤ t ∧ t < k 0
       · first
         | (exfalso; first | omega | contradiction)
         | (have hc4 : pz_R (pz_Sh L) 170 [.inr (.inl 2), .inl t] (iv) (.inl none) (iv) := s_X10_needEvent_y t (by exact hE) (by exact h3)
            refine w_callv hc4 rfl (pz_cokI is_2 rfl) ?_
            refine w_loc rfl ?_
            refine w_loc rfl ?_
            refine w_ieq (fun h5 => ?_) (fun h5 => ?_)
            · first
              | (exfalso; first | omega | contradiction)
              | (refine pz_G_of pz_b134_19 ?_
                 refine w_pure rfl ?_
                 refine w_nil ?_
                 refine pz_G_of pz_b134_20 ?_
                 have hc6 : pz_R (pz_Sh L) 172 [.inl 0] (iv) (.inr 1) (iv) := s_X10_needRange_n 0 (by omega)
                 refine w_calle hc6 rfl rfl rfl ?_
                 first | exact lf_e (by rfl) | (exfalso; omega))
            · first
              | (exfalso; first | omega | contradiction)
              | (refine w_pure rfl ?_
                 refine w_goto ?_
                 refine pz_G_of pz_b134_20 ?_
                 have hc7 : pz_R (pz_Sh L) 172 [.inl 1] (iv) (.inl none) (iv) := s_X10_needRange_y 1 (by omega)
                 refine w_callv hc7 rfl rfl ?_
                 refine w_loc rfl ?_
                 by_cases h8 : q_con k (fun _ => 0)
                 · first
                   | (exfalso; first | omega | contradiction)
                   | (have hc9 := s_X10_soundNet_y (L := L) (iv := iv) (by exact hk) (by exact hE) (by exact hB) (by exact hS) (by exact hC) (by exact hL) (by exact hci) (by exact h8)
                      refine w_callE hc9 rfl (pz_cokI is_2 rfl) (fun iv9 h9 => ?_)
                      obtain ⟨o9_10, l9_11, n9_12, w9_13, d9_14, h9e, hci, hNK, ho2⟩ := h9
                      have h9x : iv9 = pz_u1 (pz_u1 (pz_u1 (pz_u1 (pz_u1 iv 2 o9_10) 134 l9_11) 138 n9_12) 139 w9_13) 140 d9_14 := h9e.trans (by rw [pz_u1_top (r := 2)]; rw [pz_u1_top (r := 134)]; rw [pz_u1_top (r := 138)]; rw [pz_u1_top (r := 139)]; rw [pz_u1_top (r := 140)] <;> rfl)
                      subst h9x
                      replace hci : q_CI k o9_10 n9_12 w9_13 d9_14 (iv 142) (iv 143) (iv 145) (iv 129) (iv 135) := hci
                      replace hNK : q_NK k n9_12 w9_13 d9_14 := hNK
                      replace ho2 : o9_10 2 = (iv 2) 2 := ho2
                      refine w_loc rfl ?_
                      refine w_loc rfl ?_
                      have hc15 : pz_R (pz_Sh L) 62 [.inr (.inl 138), .inl f, .inl t] (pz_u1 (pz_u1 (pz_u1 (pz_u1 (pz_u1 iv 2 o9_10) 134 l9_11) 138 n9_12) 139 w9_13) 140 d9_14) (.inl (some (.inl (pz_bi (q_dir (q_D k) f t))))) (pz_u1 (pz_u1 (pz_u1 (pz_u1 (pz_u1 iv 2 o9_10) 134 l9_11) 138 n9_12) 139 w9_13) 140 d9_14) := s_X5_isReachedAtOnce f t (by show q_KR k; exact hk) (by show q_nD k d9_14 (q_D k); exact q_NK_D hNK (by assumption)) (by show q_dR (q_D k); exact q_dR_D hk (by assumption)) (by show q_dX k (q_D k); exact q_dX_D hk (by assumption)) (by show n9_12 0 = k 0; exact hNK.1) (by show 0 ≤ f ∧ f < k 0; omega) (by show 0 ≤ t ∧ t < k 0; omega)
                      refine w_call hc15 rfl (pz_cokI is_138 rfl) ?_
                      refine w_ret (pz_rok1 (pz_bi01 _)) ?_
                      first | exact lf_i (pz_bi_iff (by exact Iff.rfl)) (by rfl) | (exfalso; omega))
                 · first
                   | (exfalso; first | omega | contradiction)
                   | (have hc16 := s_X10_soundNet_n (L := L) (iv := iv) (by exact hk) (by exact hE) (by exact hB) (by exact hS) (by exact hC) (by exact hL) (by exact hci) (by exact h8)
                      refine w_calleE hc16 rfl (pz_cokI is_2 rfl) rfl (fun iv9 h9 => ?_)
                      obtain ⟨o9_17, l9_18, n9_19, w9_20, d9_21, h9e, hci, ho2⟩ := h9
                      have h9x : iv9 = pz_u1 (pz_u1 (pz_u1 (pz_u1 (pz_u1 iv 2 o9_17) 134 l9_18) 138 n9_19) 139 w9_20) 140 d9_21 := h9e.trans (by rw [pz_u1_top (r := 2)]; rw [pz_u1_top (r := 134)]; rw [pz_u1_top (r := 138)]; rw [pz_u1_top (r := 139)]; rw [pz_u1_top (r := 140)] <;> rfl)
                      subst h9x
                      replace hci : q_CI k o9_17 n9_19 w9_20 d9_21 (iv 142) (iv 143) (iv 145) (iv 129) (iv 135) := hci
                      replace ho2 : o9_17 2 = (iv 2) 2 := ho2
                      first | exact lf_e (by rfl) | (exfalso; omega))))
       · first
         | (exfalso; first | omega | contradiction)
         | (have hc22 : pz_R (pz_Sh L) 170 [.inr (.inl 2), .inl t] (iv) (.inr 2) (iv) := s_X10_needEvent_n t (by exact hE) (by exact h3)
            refine w_calle hc22 rfl (pz_cokI is_2 rfl) rfl ?_
            first | exact lf_e (by rfl) | (exfalso; omega)))
  · first
    | (exfalso; first | omega | contradiction)
    | (have hc23 : pz_R (pz_Sh L) 170 [.inr (.inl 2), .inl f] (iv) (.inr 2) (iv) := s_X10_needEvent_n f (by exact hE) (by exact h1)
       refine w_calle hc23 rfl (pz_cokI is_2 rfl) rfl ?_
       first | exact lf_e (by rfl) | (exfalso; omega))

theorem s_X10_isDirect_2 {L : Nat} {iv : Nat → Nat → Int} (f : Int) (t : Int) {k : Nat → Int} (hk : q_KR k) (hE : q_cE k (iv 3)) (hB : q_cB k (iv 4) (iv 5) (iv 6) (iv 7) (iv 8) (iv 9)) (hS : q_cS k (iv 10) (iv 11) (iv 12) (iv 13) (iv 14)) (hC : q_cC k (iv 15) (iv 16)) (hA : q_cA k (iv 17) (iv 18) (iv 19) (iv 20)) (hO : q_cO k (iv 22) (iv 23) (iv 24)) (hL : q_cL k (iv 25)) (hP : q_cP k (iv 27)) (hci : q_CI k (iv 2) (iv 138) (iv 139) (iv 140) (iv 142) (iv 143) (iv 145) (iv 129) (iv 135)) (hcase0 : 0 ≤ f ∧ f ≤ k 0 - 1 ∧ 0 ≤ t ∧ t ≤ k 0 - 1) (hcase1 : f = t) : pz_R (pz_Sh L) 134 [.inr (.inl 2), .inl f, .inl t] iv (.inr 1) iv := by
  intro dv cc ss
  have hk0 := hk.r0
  have hE0 := hE
  have hB0 := hB.1
  have hS0 := hS.1
  have hC0 := hC.1
  have hA0 := hA.1
  show pz_G 134 0 [some (.inr (.inl 2)), some (.inl f), some (.inl t)] [] (pz_Sh L, iv, dv, cc, ss) (pz_P (pz_Sh L) (.inr 1) iv dv cc ss)
  refine pz_G_of pz_b134_0 ?_
  refine w_loc rfl ?_
  refine w_loc rfl ?_
  by_cases h1 : 0 ≤ f ∧ f < k 0
  · first
    | (exfalso; first | omega | contradiction)
    | (have hc2 : pz_R (pz_Sh L) 170 [.inr (.inl 2), .inl f] (iv) (.inl none) (iv) := s_X10_needEvent_y f (by exact hE) (by exact h1)
       refine w_callv hc2 rfl (pz_cokI is_2 rfl) ?_
       refine w_loc rfl ?_
       refine w_loc rfl ?_
       by_cases h3 : 0 ≤ t ∧ t < k 0
       · first
         | (exfalso; first | omega | contradiction)
         | (have hc4 : pz_R (pz_Sh L) 170 [.inr (.inl 2), .inl t] (iv) (.inl none) (iv) := s_X10_needEvent_y t (by exact hE) (by exact h3)
            refine w_callv hc4 rfl (pz_cokI is_2 rfl) ?_
            refine w_loc rfl ?_
            refine w_loc rfl ?_
            refine w_ieq (fun h5 => ?_) (fun h5 => ?_)
            · first
              | (exfalso; first | omega | contradiction)
              | (refine pz_G_of pz_b134_19 ?_
                 refine w_pure rfl ?_
                 refine w_nil ?_
                 refine pz_G_of pz_b134_20 ?_
                 have hc6 : pz_R (pz_Sh L) 172 [.inl 0] (iv) (.inr 1) (iv) := s_X10_needRange_n 0 (by omega)
                 refine w_calle hc6 rfl rfl rfl ?_
                 first | exact lf_e (by rfl) | (exfalso; omega))
            · first
              | (exfalso; first | omega | contradiction)
              | (refine w_pure rfl ?_
                 refine w_goto ?_
                 refine pz_G_of pz_b134_20 ?_
                 have hc7 : pz_R (pz_Sh L) 172 [.inl 1] (iv) (.inl none) (iv) := s_X10_needRange_y 1 (by omega)
                 refine w_callv hc7 rfl rfl ?_
                 refine w_loc rfl ?_
                 by_cases h8 : q_con k (fun _ => 0)
                 · first
                   | (exfalso; first | omega | contradiction)
                   | (have hc9 := s_X10_soundNet_y (L := L) (iv := iv) (by exact hk) (by exact hE) (by exact hB) (by exact hS) (by exact hC) (by exact hL) (by exact hci) (by exact h8)
                      refine w_callE hc9 rfl (pz_cokI is_2 rfl) (fun iv9 h9 => ?_)
                      obtain ⟨o9_10, l9_11, n9_12, w9_13, d9_14, h9e, hci, hNK, ho2⟩ := h9
                      have h9x : iv9 = pz_u1 (pz_u1 (pz_u1 (pz_u1 (pz_u1 iv 2 o9_10) 134 l9_11) 138 n9_12) 139 w9_13) 140 d9_14 := h9e.trans (by rw [pz_u1_top (r := 2)]; rw [pz_u1_top (r := 134)]; rw [pz_u1_top (r := 138)]; rw [pz_u1_top (r := 139)]; rw [pz_u1_top (r := 140)] <;> rfl)
                      subst h9x
                      replace hci : q_CI k o9_10 n9_12 w9_13 d9_14 (iv 142) (iv 143) (iv 145) (iv 129) (iv 135) := hci
                      replace hNK : q_NK k n9_12 w9_13 d9_14 := hNK
                      replace ho2 : o9_10 2 = (iv 2) 2 := ho2
                      refine w_loc rfl ?_
                      refine w_loc rfl ?_
                      have hc15 : pz_R (pz_Sh L) 62 [.inr (.inl 138), .inl f, .inl t] (pz_u1 (pz_u1 (pz_u1 (pz_u1 (pz_u1 iv 2 o9_10) 134 l9_11) 138 n9_12) 139 w9_13) 140 d9_14) (.inl (some (.inl (pz_bi (q_dir (q_D k) f t))))) (pz_u1 (pz_u1 (pz_u1 (pz_u1 (pz_u1 iv 2 o9_10) 134 l9_11) 138 n9_12) 139 w9_13) 140 d9_14) := s_X5_isReachedAtOnce f t (by show q_KR k; exact hk) (by show q_nD k d9_14 (q_D k); exact q_NK_D hNK (by assumption)) (by show q_dR (q_D k); exact q_dR_D hk (by assumption)) (by show q_dX k (q_D k); exact q_dX_D hk (by assumption)) (by show n9_12 0 = k 0; exact hNK.1) (by show 0 ≤ f ∧ f < k 0; omega) (by show 0 ≤ t ∧ t < k 0; omega)
                      refine w_call hc15 rfl (pz_cokI is_138 rfl) ?_
                      refine w_ret (pz_rok1 (pz_bi01 _)) ?_
                      first | exact lf_i (pz_bi_iff (by exact Iff.rfl)) (by rfl) | (exfalso; omega))
                 · first
                   | (exfalso; first | omega | contradiction)
                   | (have hc16 := s_X10_soundNet_n (L := L) (iv := iv) (by exact hk) (by exact hE) (by exact hB) (by exact hS) (by exact hC) (by exact hL) (by exact hci) (by exact h8)
                      refine w_calleE hc16 rfl (pz_cokI is_2 rfl) rfl (fun iv9 h9 => ?_)
                      obtain ⟨o9_17, l9_18, n9_19, w9_20, d9_21, h9e, hci, ho2⟩ := h9
                      have h9x : iv9 = pz_u1 (pz_u1 (pz_u1 (pz_u1 (pz_u1 iv 2 o9_17) 134 l9_18) 138 n9_19) 139 w9_20) 140 d9_21 := h9e.trans (by rw [pz_u1_top (r := 2)]; rw [pz_u1_top (r := 134)]; rw [pz_u1_top (r := 138)]; rw [pz_u1_top (r := 139)]; rw [pz_u1_top (r := 140)] <;> rfl)
                      subst h9x
                      replace hci : q_CI k o9_17 n9_19 w9_20 d9_21 (iv 142) (iv 143) (iv 145) (iv 129) (iv 135) := hci
                      replace ho2 : o9_17 2 = (iv 2) 2 := ho2
                      first | exact lf_e (by rfl) | (exfalso; omega))))
       · first
         | (exfalso; first | omega | contradiction)
         | (have hc22 : pz_R (pz_Sh L) 170 [.inr (.inl 2), .inl t] (iv) (.inr 2) (iv) := s_X10_needEvent_n t (by exact hE) (by exact h3)
            refine w_calle hc22 rfl (pz_cokI is_2 rfl) rfl ?_
            first | exact lf_e (by rfl) | (exfalso; omega)))
  · first
    | (exfalso; first | omega | contradiction)
    | (have hc23 : pz_R (pz_Sh L) 170 [.inr (.inl 2), .inl f] (iv) (.inr 2) (iv) := s_X10_needEvent_n f (by exact hE) (by exact h1)
       refine w_calle hc23 rfl (pz_cokI is_2 rfl) rfl ?_
       first | exact lf_e (by rfl) | (exfalso; omega))

theorem s_X10_isDirect_3 {L : Nat} {iv : Nat → Nat → Int} (f : Int) (t : Int) {k : Nat → Int} (hk : q_KR k) (hE : q_cE k (iv 3)) (hB : q_cB k (iv 4) (iv 5) (iv 6) (iv 7) (iv 8) (iv 9)) (hS : q_cS k (iv 10) (iv 11) (iv 12) (iv 13) (iv 14)) (hC : q_cC k (iv 15) (iv 16)) (hA : q_cA k (iv 17) (iv 18) (iv 19) (iv 20)) (hO : q_cO k (iv 22) (iv 23) (iv 24)) (hL : q_cL k (iv 25)) (hP : q_cP k (iv 27)) (hci : q_CI k (iv 2) (iv 138) (iv 139) (iv 140) (iv 142) (iv 143) (iv 145) (iv 129) (iv 135)) (hcase0 : 0 ≤ f ∧ f ≤ k 0 - 1 ∧ 0 ≤ t ∧ t ≤ k 0 - 1) (hcase1 : f ≠ t) (hcase2 : ¬ q_con k (fun _ => 0)) : pz_RE (pz_Sh L) 134 [.inr (.inl 2), .inl f, .inl t] iv (.inr 0) (fun iv9 => ∃ (o9 : Nat → Int) (l9 : Nat → Int) (n9 : Nat → Int) (w9 : Nat → Int) (d9 : Nat → Int), iv9 = pz_u1 (pz_u1 (pz_u1 (pz_u1 (pz_u1 iv 2 o9) 134 l9) 138 n9) 139 w9) 140 d9 ∧ (q_CI k o9 n9 w9 d9 (iv 142) (iv 143) (iv 145) (iv 129) (iv 135)) ∧ (o9 2 = (iv 2) 2)) := by
  intro dv cc ss
  have hk0 := hk.r0
  have hE0 := hE
  have hB0 := hB.1
  have hS0 := hS.1
  have hC0 := hC.1
  have hA0 := hA.1
  refine pz_G_mem (iv2 := pz_u1 (pz_u1 (pz_u1 (pz_u1 (pz_u1 iv 2 (iv 2)) 134 (iv 134)) 138 (iv 138)) 139 (iv 139)) 140 (iv 140)) (by exact (((((pz_u1_self iv 2).symm).trans (pz_u1_self (pz_u1 iv 2 (iv 2)) 134).symm).trans (pz_u1_self (pz_u1 (pz_u1 iv 2 (iv 2)) 134 (iv 134)) 138).symm).trans (pz_u1_self (pz_u1 (pz_u1 (pz_u1 iv 2 (iv 2)) 134 (iv 134)) 138 (iv 138)) 139).symm).trans (pz_u1_self (pz_u1 (pz_u1 (pz_u1 (pz_u1 iv 2 (iv 2)) 134 (iv 134)) 138 (iv 138)) 139 (iv 139)) 140).symm) ?_
  show pz_G 134 0 [some (.inr (.inl 2)), some (.inl f), some (.inl t)] [] (pz_Sh L, pz_u1 (pz_u1 (pz_u1 (pz_u1 (pz_u1 iv 2 (iv 2)) 134 (iv 134)) 138 (iv 138)) 139 (iv 139)) 140 (iv 140), dv, cc, ss) (pz_PE (pz_Sh L) (.inr 0) (fun iv9 => ∃ (o9 : Nat → Int) (l9 : Nat → Int) (n9 : Nat → Int) (w9 : Nat → Int) (d9 : Nat → Int), iv9 = pz_u1 (pz_u1 (pz_u1 (pz_u1 (pz_u1 iv 2 o9) 134 l9) 138 n9) 139 w9) 140 d9 ∧ (q_CI k o9 n9 w9 d9 (iv 142) (iv 143) (iv 145) (iv 129) (iv 135)) ∧ (o9 2 = (iv 2) 2)) dv cc ss)
  refine pz_G_of pz_b134_0 ?_
  refine w_loc rfl ?_
  refine w_loc rfl ?_
  by_cases h1 : 0 ≤ f ∧ f < k 0
  · first
    | (exfalso; first | omega | contradiction)
    | (have hc2 : pz_R (pz_Sh L) 170 [.inr (.inl 2), .inl f] (pz_u1 (pz_u1 (pz_u1 (pz_u1 (pz_u1 iv 2 (iv 2)) 134 (iv 134)) 138 (iv 138)) 139 (iv 139)) 140 (iv 140)) (.inl none) (pz_u1 (pz_u1 (pz_u1 (pz_u1 (pz_u1 iv 2 (iv 2)) 134 (iv 134)) 138 (iv 138)) 139 (iv 139)) 140 (iv 140)) := s_X10_needEvent_y f (by show q_cE k (iv 3); exact hE) (by show 0 ≤ f ∧ f < k 0; exact h1)
       refine w_callv hc2 rfl (pz_cokI is_2 rfl) ?_
       refine w_loc rfl ?_
       refine w_loc rfl ?_
       by_cases h3 : 0 ≤ t ∧ t < k 0
       · first
         | (exfalso; first | omega | contradiction)
         | (have hc4 : pz_R (pz_Sh L) 170 [.inr (.inl 2), .inl t] (pz_u1 (pz_u1 (pz_u1 (pz_u1 (pz_u1 iv 2 (iv 2)) 134 (iv 134)) 138 (iv 138)) 139 (iv 139)) 140 (iv 140)) (.inl none) (pz_u1 (pz_u1 (pz_u1 (pz_u1 (pz_u1 iv 2 (iv 2)) 134 (iv 134)) 138 (iv 138)) 139 (iv 139)) 140 (iv 140)) := s_X10_needEvent_y t (by show q_cE k (iv 3); exact hE) (by show 0 ≤ t ∧ t < k 0; exact h3)
            refine w_callv hc4 rfl (pz_cokI is_2 rfl) ?_
            refine w_loc rfl ?_
            refine w_loc rfl ?_
            refine w_ieq (fun h5 => ?_) (fun h5 => ?_)
            · first
              | (exfalso; first | omega | contradiction)
              | (refine pz_G_of pz_b134_19 ?_
                 refine w_pure rfl ?_
                 refine w_nil ?_
                 refine pz_G_of pz_b134_20 ?_
                 have hc6 : pz_R (pz_Sh L) 172 [.inl 0] (pz_u1 (pz_u1 (pz_u1 (pz_u1 (pz_u1 iv 2 (iv 2)) 134 (iv 134)) 138 (iv 138)) 139 (iv 139)) 140 (iv 140)) (.inr 1) (pz_u1 (pz_u1 (pz_u1 (pz_u1 (pz_u1 iv 2 (iv 2)) 134 (iv 134)) 138 (iv 138)) 139 (iv 139)) 140 (iv 140)) := s_X10_needRange_n 0 (by show 0 = 0; omega)
                 refine w_calle hc6 rfl rfl rfl ?_
                 first | exact ⟨pz_u1 (pz_u1 (pz_u1 (pz_u1 (pz_u1 iv 2 (iv 2)) 134 (iv 134)) 138 (iv 138)) 139 (iv 139)) 140 (iv 140), ⟨(iv 2), (iv 134), (iv 138), (iv 139), (iv 140), by rfl, by exact hci, by exact ho2⟩, lf_e (by rfl)⟩ | (exfalso; omega))
            · first
              | (exfalso; first | omega | contradiction)
              | (refine w_pure rfl ?_
                 refine w_goto ?_
                 refine pz_G_of pz_b134_20 ?_
                 have hc7 : pz_R (pz_Sh L) 172 [.inl 1] (pz_u1 (pz_u1 (pz_u1 (pz_u1 (pz_u1 iv 2 (iv 2)) 134 (iv 134)) 138 (iv 138)) 139 (iv 139)) 140 (iv 140)) (.inl none) (pz_u1 (pz_u1 (pz_u1 (pz_u1 (pz_u1 iv 2 (iv 2)) 134 (iv 134)) 138 (iv 138)) 139 (iv 139)) 140 (iv 140)) := s_X10_needRange_y 1 (by show 1 ≠ 0; omega)
                 refine w_callv hc7 rfl rfl ?_
                 refine w_loc rfl ?_
                 by_cases h8 : q_con k (fun _ => 0)
                 · first
                   | (exfalso; first | omega | contradiction)
                   | (have hc9 := s_X10_soundNet_y (L := L) (iv := pz_u1 (pz_u1 (pz_u1 (pz_u1 (pz_u1 iv 2 (iv 2)) 134 (iv 134)) 138 (iv 138)) 139 (iv 139)) 140 (iv 140)) (by show q_KR k; exact hk) (by show q_cE k (iv 3); exact hE) (by show q_cB k (iv 4) (iv 5) (iv 6) (iv 7) (iv 8) (iv 9); exact hB) (by show q_cS k (iv 10) (iv 11) (iv 12) (iv 13) (iv 14); exact hS) (by show q_cC k (iv 15) (iv 16); exact hC) (by show q_cL k (iv 25); exact hL) (by show q_CI k (iv 2) (iv 138) (iv 139) (iv 140) (iv 142) (iv 143) (iv 145) (iv 129) (iv 135); exact hci) (by show q_con k (fun _ => 0); exact h8)
                      refine w_callE hc9 rfl (pz_cokI is_2 rfl) (fun iv9 h9 => ?_)
                      obtain ⟨o9_10, l9_11, n9_12, w9_13, d9_14, h9e, hci, hNK, ho2⟩ := h9
                      have h9x : iv9 = pz_u1 (pz_u1 (pz_u1 (pz_u1 (pz_u1 iv 2 o9_10) 134 l9_11) 138 n9_12) 139 w9_13) 140 d9_14 := h9e.trans (by rw [pz_u1_in (r := 2) (q := 140) (by decide)]; rw [pz_u1_in (r := 2) (q := 139) (by decide)]; rw [pz_u1_in (r := 2) (q := 138) (by decide)]; rw [pz_u1_in (r := 2) (q := 134) (by decide)]; rw [pz_u1_top (r := 2)]; rw [pz_u1_in (r := 134) (q := 140) (by decide)]; rw [pz_u1_in (r := 134) (q := 139) (by decide)]; rw [pz_u1_in (r := 134) (q := 138) (by decide)]; rw [pz_u1_top (r := 134)]; rw [pz_u1_in (r := 138) (q := 140) (by decide)]; rw [pz_u1_in (r := 138) (q := 139) (by decide)]; rw [pz_u1_top (r := 138)]; rw [pz_u1_in (r := 139) (q := 140) (by decide)]; rw [pz_u1_top (r := 139)]; rw [pz_u1_top (r := 140)] <;> rfl)
                      subst h9x
                      replace hci : q_CI k o9_10 n9_12 w9_13 d9_14 (iv 142) (iv 143) (iv 145) (iv 129) (iv 135) := hci
                      replace hNK : q_NK k n9_12 w9_13 d9_14 := hNK
                      replace ho2 : o9_10 2 = (iv 2) 2 := ho2
                      refine w_loc rfl ?_
                      refine w_loc rfl ?_
                      have hc15 : pz_R (pz_Sh L) 62 [.inr (.inl 138), .inl f, .inl t] (pz_u1 (pz_u1 (pz_u1 (pz_u1 (pz_u1 iv 2 o9_10) 134 l9_11) 138 n9_12) 139 w9_13) 140 d9_14) (.inl (some (.inl (pz_bi (q_dir (q_D k) f t))))) (pz_u1 (pz_u1 (pz_u1 (pz_u1 (pz_u1 iv 2 o9_10) 134 l9_11) 138 n9_12) 139 w9_13) 140 d9_14) := s_X5_isReachedAtOnce f t (by show q_KR k; exact hk) (by show q_nD k d9_14 (q_D k); exact q_NK_D hNK (by assumption)) (by show q_dR (q_D k); exact q_dR_D hk (by assumption)) (by show q_dX k (q_D k); exact q_dX_D hk (by assumption)) (by show n9_12 0 = k 0; exact hNK.1) (by show 0 ≤ f ∧ f < k 0; omega) (by show 0 ≤ t ∧ t < k 0; omega)
                      refine w_call hc15 rfl (pz_cokI is_138 rfl) ?_
                      refine w_ret (pz_rok1 (pz_bi01 _)) ?_
                      first | exact ⟨pz_u1 (pz_u1 (pz_u1 (pz_u1 (pz_u1 iv 2 o9_10) 134 l9_11) 138 n9_12) 139 w9_13) 140 d9_14, ⟨o9_10, l9_11, n9_12, w9_13, d9_14, by rfl, by exact hci, by exact ho2⟩, lf_i (pz_bi_iff (by exact Iff.rfl)) (by rfl)⟩ | (exfalso; omega))
                 · first
                   | (exfalso; first | omega | contradiction)
                   | (have hc16 := s_X10_soundNet_n (L := L) (iv := pz_u1 (pz_u1 (pz_u1 (pz_u1 (pz_u1 iv 2 (iv 2)) 134 (iv 134)) 138 (iv 138)) 139 (iv 139)) 140 (iv 140)) (by show q_KR k; exact hk) (by show q_cE k (iv 3); exact hE) (by show q_cB k (iv 4) (iv 5) (iv 6) (iv 7) (iv 8) (iv 9); exact hB) (by show q_cS k (iv 10) (iv 11) (iv 12) (iv 13) (iv 14); exact hS) (by show q_cC k (iv 15) (iv 16); exact hC) (by show q_cL k (iv 25); exact hL) (by show q_CI k (iv 2) (iv 138) (iv 139) (iv 140) (iv 142) (iv 143) (iv 145) (iv 129) (iv 135); exact hci) (by show ¬ q_con k (fun _ => 0); exact h8)
                      refine w_calleE hc16 rfl (pz_cokI is_2 rfl) rfl (fun iv9 h9 => ?_)
                      obtain ⟨o9_17, l9_18, n9_19, w9_20, d9_21, h9e, hci, ho2⟩ := h9
                      have h9x : iv9 = pz_u1 (pz_u1 (pz_u1 (pz_u1 (pz_u1 iv 2 o9_17) 134 l9_18) 138 n9_19) 139 w9_20) 140 d9_21 := h9e.trans (by rw [pz_u1_in (r := 2) (q := 140) (by decide)]; rw [pz_u1_in (r := 2) (q := 139) (by decide)]; rw [pz_u1_in (r := 2) (q := 138) (by decide)]; rw [pz_u1_in (r := 2) (q := 134) (by decide)]; rw [pz_u1_top (r := 2)]; rw [pz_u1_in (r := 134) (q := 140) (by decide)]; rw [pz_u1_in (r := 134) (q := 139) (by decide)]; rw [pz_u1_in (r := 134) (q := 138) (by decide)]; rw [pz_u1_top (r := 134)]; rw [pz_u1_in (r := 138) (q := 140) (by decide)]; rw [pz_u1_in (r := 138) (q := 139) (by decide)]; rw [pz_u1_top (r := 138)]; rw [pz_u1_in (r := 139) (q := 140) (by decide)]; rw [pz_u1_top (r := 139)]; rw [pz_u1_top (r := 140)] <;> rfl)
                      subst h9x
                      replace hci : q_CI k o9_17 n9_19 w9_20 d9_21 (iv 142) (iv 143) (iv 145) (iv 129) (iv 135) := hci
                      replace ho2 : o9_17 2 = (iv 2) 2 := ho2
                      first | exact ⟨pz_u1 (pz_u1 (pz_u1 (pz_u1 (pz_u1 iv 2 o9_17) 134 l9_18) 138 n9_19) 139 w9_20) 140 d9_21, ⟨o9_17, l9_18, n9_19, w9_20, d9_21, by rfl, by exact hci, by exact ho2⟩, lf_e (by rfl)⟩ | (exfalso; omega))))
       · first
         | (exfalso; first | omega | contradiction)
         | (have hc22 : pz_R (pz_Sh L) 170 [.inr (.inl 2), .inl t] (pz_u1 (pz_u1 (pz_u1 (pz_u1 (pz_u1 iv 2 (iv 2)) 134 (iv 134)) 138 (iv 138)) 139 (iv 139)) 140 (iv 140)) (.inr 2) (pz_u1 (pz_u1 (pz_u1 (pz_u1 (pz_u1 iv 2 (iv 2)) 134 (iv 134)) 138 (iv 138)) 139 (iv 139)) 140 (iv 140)) := s_X10_needEvent_n t (by show q_cE k (iv 3); exact hE) (by show ¬ (0 ≤ t ∧ t < k 0); exact h3)
            refine w_calle hc22 rfl (pz_cokI is_2 rfl) rfl ?_
            first | exact ⟨pz_u1 (pz_u1 (pz_u1 (pz_u1 (pz_u1 iv 2 (iv 2)) 134 (iv 134)) 138 (iv 138)) 139 (iv 139)) 140 (iv 140), ⟨(iv 2), (iv 134), (iv 138), (iv 139), (iv 140), by rfl, by exact hci, by exact ho2⟩, lf_e (by rfl)⟩ | (exfalso; omega)))
  · first
    | (exfalso; first | omega | contradiction)
    | (have hc23 : pz_R (pz_Sh L) 170 [.inr (.inl 2), .inl f] (pz_u1 (pz_u1 (pz_u1 (pz_u1 (pz_u1 iv 2 (iv 2)) 134 (iv 134)) 138 (iv 138)) 139 (iv 139)) 140 (iv 140)) (.inr 2) (pz_u1 (pz_u1 (pz_u1 (pz_u1 (pz_u1 iv 2 (iv 2)) 134 (iv 134)) 138 (iv 138)) 139 (iv 139)) 140 (iv 140)) := s_X10_needEvent_n f (by show q_cE k (iv 3); exact hE) (by show ¬ (0 ≤ f ∧ f < k 0); exact h1)
       refine w_calle hc23 rfl (pz_cokI is_2 rfl) rfl ?_
       first | exact ⟨pz_u1 (pz_u1 (pz_u1 (pz_u1 (pz_u1 iv 2 (iv 2)) 134 (iv 134)) 138 (iv 138)) 139 (iv 139)) 140 (iv 140), ⟨(iv 2), (iv 134), (iv 138), (iv 139), (iv 140), by rfl, by exact hci, by exact ho2⟩, lf_e (by rfl)⟩ | (exfalso; omega))

theorem s_X10_isDirect_0 {L : Nat} {iv : Nat → Nat → Int} (f : Int) (t : Int) {k : Nat → Int} (hk : q_KR k) (hE : q_cE k (iv 3)) (hB : q_cB k (iv 4) (iv 5) (iv 6) (iv 7) (iv 8) (iv 9)) (hS : q_cS k (iv 10) (iv 11) (iv 12) (iv 13) (iv 14)) (hC : q_cC k (iv 15) (iv 16)) (hA : q_cA k (iv 17) (iv 18) (iv 19) (iv 20)) (hO : q_cO k (iv 22) (iv 23) (iv 24)) (hL : q_cL k (iv 25)) (hP : q_cP k (iv 27)) (hci : q_CI k (iv 2) (iv 138) (iv 139) (iv 140) (iv 142) (iv 143) (iv 145) (iv 129) (iv 135)) (hcase0 : 0 ≤ f ∧ f ≤ k 0 - 1 ∧ 0 ≤ t ∧ t ≤ k 0 - 1) (hcase1 : f ≠ t) (hcase2 : q_con k (fun _ => 0)) : pz_RE (pz_Sh L) 134 [.inr (.inl 2), .inl f, .inl t] iv (.inl (some (.inl (pz_bi (q_dir (q_D k) f t))))) (fun iv9 => ∃ (o9 : Nat → Int) (l9 : Nat → Int) (n9 : Nat → Int) (w9 : Nat → Int) (d9 : Nat → Int), iv9 = pz_u1 (pz_u1 (pz_u1 (pz_u1 (pz_u1 iv 2 o9) 134 l9) 138 n9) 139 w9) 140 d9 ∧ (q_CI k o9 n9 w9 d9 (iv 142) (iv 143) (iv 145) (iv 129) (iv 135)) ∧ (o9 2 = (iv 2) 2)) := by
  intro dv cc ss
  have hk0 := hk.r0
  have hE0 := hE
  have hB0 := hB.1
  have hS0 := hS.1
  have hC0 := hC.1
  have hA0 := hA.1
  refine pz_G_mem (iv2 := pz_u1 (pz_u1 (pz_u1 (pz_u1 (pz_u1 iv 2 (iv 2)) 134 (iv 134)) 138 (iv 138)) 139 (iv 139)) 140 (iv 140)) (by exact (((((pz_u1_self iv 2).symm).trans (pz_u1_self (pz_u1 iv 2 (iv 2)) 134).symm).trans (pz_u1_self (pz_u1 (pz_u1 iv 2 (iv 2)) 134 (iv 134)) 138).symm).trans (pz_u1_self (pz_u1 (pz_u1 (pz_u1 iv 2 (iv 2)) 134 (iv 134)) 138 (iv 138)) 139).symm).trans (pz_u1_self (pz_u1 (pz_u1 (pz_u1 (pz_u1 iv 2 (iv 2)) 134 (iv 134)) 138 (iv 138)) 139 (iv 139)) 140).symm) ?_
  show pz_G 134 0 [some (.inr (.inl 2)), some (.inl f), some (.inl t)] [] (pz_Sh L, pz_u1 (pz_u1 (pz_u1 (pz_u1 (pz_u1 iv 2 (iv 2)) 134 (iv 134)) 138 (iv 138)) 139 (iv 139)) 140 (iv 140), dv, cc, ss) (pz_PE (pz_Sh L) (.inl (some (.inl (pz_bi (q_dir (q_D k) f t))))) (fun iv9 => ∃ (o9 : Nat → Int) (l9 : Nat → Int) (n9 : Nat → Int) (w9 : Nat → Int) (d9 : Nat → Int), iv9 = pz_u1 (pz_u1 (pz_u1 (pz_u1 (pz_u1 iv 2 o9) 134 l9) 138 n9) 139 w9) 140 d9 ∧ (q_CI k o9 n9 w9 d9 (iv 142) (iv 143) (iv 145) (iv 129) (iv 135)) ∧ (o9 2 = (iv 2) 2)) dv cc ss)
  refine pz_G_of pz_b134_0 ?_
  refine w_loc rfl ?_
  refine w_loc rfl ?_
  by_cases h1 : 0 ≤ f ∧ f < k 0
  · first
    | (exfalso; first | omega | contradiction)
    | (have hc2 : pz_R (pz_Sh L) 170 [.inr (.inl 2), .inl f] (pz_u1 (pz_u1 (pz_u1 (pz_u1 (pz_u1 iv 2 (iv 2)) 134 (iv 134)) 138 (iv 138)) 139 (iv 139)) 140 (iv 140)) (.inl none) (pz_u1 (pz_u1 (pz_u1 (pz_u1 (pz_u1 iv 2 (iv 2)) 134 (iv 134)) 138 (iv 138)) 139 (iv 139)) 140 (iv 140)) := s_X10_needEvent_y f (by show q_cE k (iv 3); exact hE) (by show 0 ≤ f ∧ f < k 0; exact h1)
       refine w_callv hc2 rfl (pz_cokI is_2 rfl) ?_
       refine w_loc rfl ?_
       refine w_loc rfl ?_
       by_cases h3 : 0 ≤ t ∧ t < k 0
       · first
         | (exfalso; first | omega | contradiction)
         | (have hc4 : pz_R (pz_Sh L) 170 [.inr (.inl 2), .inl t] (pz_u1 (pz_u1 (pz_u1 (pz_u1 (pz_u1 iv 2 (iv 2)) 134 (iv 134)) 138 (iv 138)) 139 (iv 139)) 140 (iv 140)) (.inl none) (pz_u1 (pz_u1 (pz_u1 (pz_u1 (pz_u1 iv 2 (iv 2)) 134 (iv 134)) 138 (iv 138)) 139 (iv 139)) 140 (iv 140)) := s_X10_needEvent_y t (by show q_cE k (iv 3); exact hE) (by show 0 ≤ t ∧ t < k 0; exact h3)
            refine w_callv hc4 rfl (pz_cokI is_2 rfl) ?_
            refine w_loc rfl ?_
            refine w_loc rfl ?_
            refine w_ieq (fun h5 => ?_) (fun h5 => ?_)
            · first
              | (exfalso; first | omega | contradiction)
              | (refine pz_G_of pz_b134_19 ?_
                 refine w_pure rfl ?_
                 refine w_nil ?_
                 refine pz_G_of pz_b134_20 ?_
                 have hc6 : pz_R (pz_Sh L) 172 [.inl 0] (pz_u1 (pz_u1 (pz_u1 (pz_u1 (pz_u1 iv 2 (iv 2)) 134 (iv 134)) 138 (iv 138)) 139 (iv 139)) 140 (iv 140)) (.inr 1) (pz_u1 (pz_u1 (pz_u1 (pz_u1 (pz_u1 iv 2 (iv 2)) 134 (iv 134)) 138 (iv 138)) 139 (iv 139)) 140 (iv 140)) := s_X10_needRange_n 0 (by show 0 = 0; omega)
                 refine w_calle hc6 rfl rfl rfl ?_
                 first | exact ⟨pz_u1 (pz_u1 (pz_u1 (pz_u1 (pz_u1 iv 2 (iv 2)) 134 (iv 134)) 138 (iv 138)) 139 (iv 139)) 140 (iv 140), ⟨(iv 2), (iv 134), (iv 138), (iv 139), (iv 140), by rfl, by exact hci, by exact ho2⟩, lf_e (by rfl)⟩ | (exfalso; omega))
            · first
              | (exfalso; first | omega | contradiction)
              | (refine w_pure rfl ?_
                 refine w_goto ?_
                 refine pz_G_of pz_b134_20 ?_
                 have hc7 : pz_R (pz_Sh L) 172 [.inl 1] (pz_u1 (pz_u1 (pz_u1 (pz_u1 (pz_u1 iv 2 (iv 2)) 134 (iv 134)) 138 (iv 138)) 139 (iv 139)) 140 (iv 140)) (.inl none) (pz_u1 (pz_u1 (pz_u1 (pz_u1 (pz_u1 iv 2 (iv 2)) 134 (iv 134)) 138 (iv 138)) 139 (iv 139)) 140 (iv 140)) := s_X10_needRange_y 1 (by show 1 ≠ 0; omega)
                 refine w_callv hc7 rfl rfl ?_
                 refine w_loc rfl ?_
                 by_cases h8 : q_con k (fun _ => 0)
                 · first
                   | (exfalso; first | omega | contradiction)
                   | (have hc9 := s_X10_soundNet_y (L := L) (iv := pz_u1 (pz_u1 (pz_u1 (pz_u1 (pz_u1 iv 2 (iv 2)) 134 (iv 134)) 138 (iv 138)) 139 (iv 139)) 140 (iv 140)) (by show q_KR k; exact hk) (by show q_cE k (iv 3); exact hE) (by show q_cB k (iv 4) (iv 5) (iv 6) (iv 7) (iv 8) (iv 9); exact hB) (by show q_cS k (iv 10) (iv 11) (iv 12) (iv 13) (iv 14); exact hS) (by show q_cC k (iv 15) (iv 16); exact hC) (by show q_cL k (iv 25); exact hL) (by show q_CI k (iv 2) (iv 138) (iv 139) (iv 140) (iv 142) (iv 143) (iv 145) (iv 129) (iv 135); exact hci) (by show q_con k (fun _ => 0); exact h8)
                      refine w_callE hc9 rfl (pz_cokI is_2 rfl) (fun iv9 h9 => ?_)
                      obtain ⟨o9_10, l9_11, n9_12, w9_13, d9_14, h9e, hci, hNK, ho2⟩ := h9
                      have h9x : iv9 = pz_u1 (pz_u1 (pz_u1 (pz_u1 (pz_u1 iv 2 o9_10) 134 l9_11) 138 n9_12) 139 w9_13) 140 d9_14 := h9e.trans (by rw [pz_u1_in (r := 2) (q := 140) (by decide)]; rw [pz_u1_in (r := 2) (q := 139) (by decide)]; rw [pz_u1_in (r := 2) (q := 138) (by decide)]; rw [pz_u1_in (r := 2) (q := 134) (by decide)]; rw [pz_u1_top (r := 2)]; rw [pz_u1_in (r := 134) (q := 140) (by decide)]; rw [pz_u1_in (r := 134) (q := 139) (by decide)]; rw [pz_u1_in (r := 134) (q := 138) (by decide)]; rw [pz_u1_top (r := 134)]; rw [pz_u1_in (r := 138) (q := 140) (by decide)]; rw [pz_u1_in (r := 138) (q := 139) (by decide)]; rw [pz_u1_top (r := 138)]; rw [pz_u1_in (r := 139) (q := 140) (by decide)]; rw [pz_u1_top (r := 139)]; rw [pz_u1_top (r := 140)] <;> rfl)
                      subst h9x
                      replace hci : q_CI k o9_10 n9_12 w9_13 d9_14 (iv 142) (iv 143) (iv 145) (iv 129) (iv 135) := hci
                      replace hNK : q_NK k n9_12 w9_13 d9_14 := hNK
                      replace ho2 : o9_10 2 = (iv 2) 2 := ho2
                      refine w_loc rfl ?_
                      refine w_loc rfl ?_
                      have hc15 : pz_R (pz_Sh L) 62 [.inr (.inl 138), .inl f, .inl t] (pz_u1 (pz_u1 (pz_u1 (pz_u1 (pz_u1 iv 2 o9_10) 134 l9_11) 138 n9_12) 139 w9_13) 140 d9_14) (.inl (some (.inl (pz_bi (q_dir (q_D k) f t))))) (pz_u1 (pz_u1 (pz_u1 (pz_u1 (pz_u1 iv 2 o9_10) 134 l9_11) 138 n9_12) 139 w9_13) 140 d9_14) := s_X5_isReachedAtOnce f t (by show q_KR k; exact hk) (by show q_nD k d9_14 (q_D k); exact q_NK_D hNK (by assumption)) (by show q_dR (q_D k); exact q_dR_D hk (by assumption)) (by show q_dX k (q_D k); exact q_dX_D hk (by assumption)) (by show n9_12 0 = k 0; exact hNK.1) (by show 0 ≤ f ∧ f < k 0; omega) (by show 0 ≤ t ∧ t < k 0; omega)
                      refine w_call hc15 rfl (pz_cokI is_138 rfl) ?_
                      refine w_ret (pz_rok1 (pz_bi01 _)) ?_
                      first | exact ⟨pz_u1 (pz_u1 (pz_u1 (pz_u1 (pz_u1 iv 2 o9_10) 134 l9_11) 138 n9_12) 139 w9_13) 140 d9_14, ⟨o9_10, l9_11, n9_12, w9_13, d9_14, by rfl, by exact hci, by exact ho2⟩, lf_i (pz_bi_iff (by exact Iff.rfl)) (by rfl)⟩ | (exfalso; omega))
                 · first
                   | (exfalso; first | omega | contradiction)
                   | (have hc16 := s_X10_soundNet_n (L := L) (iv := pz_u1 (pz_u1 (pz_u1 (pz_u1 (pz_u1 iv 2 (iv 2)) 134 (iv 134)) 138 (iv 138)) 139 (iv 139)) 140 (iv 140)) (by show q_KR k; exact hk) (by show q_cE k (iv 3); exact hE) (by show q_cB k (iv 4) (iv 5) (iv 6) (iv 7) (iv 8) (iv 9); exact hB) (by show q_cS k (iv 10) (iv 11) (iv 12) (iv 13) (iv 14); exact hS) (by show q_cC k (iv 15) (iv 16); exact hC) (by show q_cL k (iv 25); exact hL) (by show q_CI k (iv 2) (iv 138) (iv 139) (iv 140) (iv 142) (iv 143) (iv 145) (iv 129) (iv 135); exact hci) (by show ¬ q_con k (fun _ => 0); exact h8)
                      refine w_calleE hc16 rfl (pz_cokI is_2 rfl) rfl (fun iv9 h9 => ?_)
                      obtain ⟨o9_17, l9_18, n9_19, w9_20, d9_21, h9e, hci, ho2⟩ := h9
                      have h9x : iv9 = pz_u1 (pz_u1 (pz_u1 (pz_u1 (pz_u1 iv 2 o9_17) 134 l9_18) 138 n9_19) 139 w9_20) 140 d9_21 := h9e.trans (by rw [pz_u1_in (r := 2) (q := 140) (by decide)]; rw [pz_u1_in (r := 2) (q := 139) (by decide)]; rw [pz_u1_in (r := 2) (q := 138) (by decide)]; rw [pz_u1_in (r := 2) (q := 134) (by decide)]; rw [pz_u1_top (r := 2)]; rw [pz_u1_in (r := 134) (q := 140) (by decide)]; rw [pz_u1_in (r := 134) (q := 139) (by decide)]; rw [pz_u1_in (r := 134) (q := 138) (by decide)]; rw [pz_u1_top (r := 134)]; rw [pz_u1_in (r := 138) (q := 140) (by decide)]; rw [pz_u1_in (r := 138) (q := 139) (by decide)]; rw [pz_u1_top (r := 138)]; rw [pz_u1_in (r := 139) (q := 140) (by decide)]; rw [pz_u1_top (r := 139)]; rw [pz_u1_top (r := 140)] <;> rfl)
                      subst h9x
                      replace hci : q_CI k o9_17 n9_19 w9_20 d9_21 (iv 142) (iv 143) (iv 145) (iv 129) (iv 135) := hci
                      replace ho2 : o9_17 2 = (iv 2) 2 := ho2
                      first | exact ⟨pz_u1 (pz_u1 (pz_u1 (pz_u1 (pz_u1 iv 2 o9_17) 134 l9_18) 138 n9_19) 139 w9_20) 140 d9_21, ⟨o9_17, l9_18, n9_19, w9_20, d9_21, by rfl, by exact hci, by exact ho2⟩, lf_e (by rfl)⟩ | (exfalso; omega))))
       · first
         | (exfalso; first | omega | contradiction)
         | (have hc22 : pz_R (pz_Sh L) 170 [.inr (.inl 2), .inl t] (pz_u1 (pz_u1 (pz_u1 (pz_u1 (pz_u1 iv 2 (iv 2)) 134 (iv 134)) 138 (iv 138)) 139 (iv 139)) 140 (iv 140)) (.inr 2) (pz_u1 (pz_u1 (pz_u1 (pz_u1 (pz_u1 iv 2 (iv 2)) 134 (iv 134)) 138 (iv 138)) 139 (iv 139)) 140 (iv 140)) := s_X10_needEvent_n t (by show q_cE k (iv 3); exact hE) (by show ¬ (0 ≤ t ∧ t < k 0); exact h3)
            refine w_calle hc22 rfl (pz_cokI is_2 rfl) rfl ?_
            first | exact ⟨pz_u1 (pz_u1 (pz_u1 (pz_u1 (pz_u1 iv 2 (iv 2)) 134 (iv 134)) 138 (iv 138)) 139 (iv 139)) 140 (iv 140), ⟨(iv 2), (iv 134), (iv 138), (iv 139), (iv 140), by rfl, by exact hci, by exact ho2⟩, lf_e (by rfl)⟩ | (exfalso; omega)))
  · first
    | (exfalso; first | omega | contradiction)
    | (have hc23 : pz_R (pz_Sh L) 170 [.inr (.inl 2), .inl f] (pz_u1 (pz_u1 (pz_u1 (pz_u1 (pz_u1 iv 2 (iv 2)) 134 (iv 134)) 138 (iv 138)) 139 (iv 139)) 140 (iv 140)) (.inr 2) (pz_u1 (pz_u1 (pz_u1 (pz_u1 (pz_u1 iv 2 (iv 2)) 134 (iv 134)) 138 (iv 138)) 139 (iv 139)) 140 (iv 140)) := s_X10_needEvent_n f (by show q_cE k (iv 3); exact hE) (by show ¬ (0 ≤ f ∧ f < k 0); exact h1)
       refine w_calle hc23 rfl (pz_cokI is_2 rfl) rfl ?_
       first | exact ⟨pz_u1 (pz_u1 (pz_u1 (pz_u1 (pz_u1 iv 2 (iv 2)) 134 (iv 134)) 138 (iv 138)) 139 (iv 139)) 140 (iv 140), ⟨(iv 2), (iv 134), (iv 138), (iv 139), (iv 140), by rfl, by exact hci, by exact ho2⟩, lf_e (by rfl)⟩ | (exfalso; omega))

theorem s_X10_conflictSize_1 {L : Nat} {iv : Nat → Nat → Int} {k : Nat → Int} (hk : q_KR k) (hE : q_cE k (iv 3)) (hB : q_cB k (iv 4) (iv 5) (iv 6) (iv 7) (iv 8) (iv 9)) (hS : q_cS k (iv 10) (iv 11) (iv 12) (iv 13) (iv 14)) (hC : q_cC k (iv 15) (iv 16)) (hA : q_cA k (iv 17) (iv 18) (iv 19) (iv 20)) (hO : q_cO k (iv 22) (iv 23) (iv 24)) (hL : q_cL k (iv 25)) (hP : q_cP k (iv 27)) (hci : q_CI k (iv 2) (iv 138) (iv 139) (iv 140) (iv 142) (iv 143) (iv 145) (iv 129) (iv 135)) (hcase0 : q_con k (fun _ => 0)) : pz_RE (pz_Sh L) 135 [.inr (.inl 2)] iv (.inr 0) (fun iv9 => ∃ (o9 : Nat → Int) (j9 : Nat → Int) (a9 : Nat → Int) (b9 : Nat → Int) (c9 : Nat → Int) (l9 : Nat → Int) (e9 : Nat → Int) (n9 : Nat → Int) (w9 : Nat → Int) (d9 : Nat → Int), iv9 = pz_u1 (pz_u1 (pz_u1 (pz_u1 (pz_u1 (pz_u1 (pz_u1 (pz_u1 (pz_u1 (pz_u1 iv 2 o9) 129 j9) 130 a9) 131 b9) 132 c9) 134 l9) 135 e9) 138 n9) 139 w9) 140 d9 ∧ (q_CI k o9 n9 w9 d9 (iv 142) (iv 143) (iv 145) j9 e9) ∧ (o9 2 = (iv 2) 2)) := by
  intro dv cc ss
  have hk0 := hk.r0
  have hE0 := hE
  have hB0 := hB.1
  have hS0 := hS.1
  have hC0 := hC.1
  have hA0 := hA.1
  refine pz_G_mem (iv2 := pz_u1 (pz_u1 (pz_u1 (pz_u1 (pz_u1 (pz_u1 (pz_u1 (pz_u1 (pz_u1 (pz_u1 iv 2 (iv 2)) 129 (iv 129)) 130 (iv 130)) 131 (iv 131)) 132 (iv 132)) 134 (iv 134)) 135 (iv 135)) 138 (iv 138)) 139 (iv 139)) 140 (iv 140)) (by exact ((((((((((pz_u1_self iv 2).symm).trans (pz_u1_self (pz_u1 iv 2 (iv 2)) 129).symm).trans (pz_u1_self (pz_u1 (pz_u1 iv 2 (iv 2)) 129 (iv 129)) 130).symm).trans (pz_u1_self (pz_u1 (pz_u1 (pz_u1 iv 2 (iv 2)) 129 (iv 129)) 130 (iv 130)) 131).symm).trans (pz_u1_self (pz_u1 (pz_u1 (pz_u1 (pz_u1 iv 2 (iv 2)) 129 (iv 129)) 130 (iv 130)) 131 (iv 131)) 132).symm).trans (pz_u1_self (pz_u1 (pz_u1 (pz_u1 (pz_u1 (pz_u1 iv 2 (iv 2)) 129 (iv 129)) 130 (iv 130)) 131 (iv 131)) 132 (iv 132)) 134).symm).trans (pz_u1_self (pz_u1 (pz_u1 (pz_u1 (pz_u1 (pz_u1 (pz_u1 iv 2 (iv 2)) 129 (iv 129)) 130 (iv 130)) 131 (iv 131)) 132 (iv 132)) 134 (iv 134)) 135).symm).trans (pz_u1_self (pz_u1 (pz_u1 (pz_u1 (pz_u1 (pz_u1 (pz_u1 (pz_u1 iv 2 (iv 2)) 129 (iv 129)) 130 (iv 130)) 131 (iv 131)) 132 (iv 132)) 134 (iv 134)) 135 (iv 135)) 138).symm).trans (pz_u1_self (pz_u1 (pz_u1 (pz_u1 (pz_u1 (pz_u1 (pz_u1 (pz_u1 (pz_u1 iv 2 (iv 2)) 129 (iv 129)) 130 (iv 130)) 131 (iv 131)) 132 (iv 132)) 134 (iv 134)) 135 (iv 135)) 138 (iv 138)) 139).symm).trans (pz_u1_self (pz_u1 (pz_u1 (pz_u1 (pz_u1 (pz_u1 (pz_u1 (pz_u1 (pz_u1 (pz_u1 iv 2 (iv 2)) 129 (iv 129)) 130 (iv 130)) 131 (iv 131)) 132 (iv 132)) 134 (iv 134)) 135 (iv 135)) 138 (iv 138)) 139 (iv 139)) 140).symm) ?_
  show pz_G 135 0 [some (.inr (.inl 2))] [] (pz_Sh L, pz_u1 (pz_u1 (pz_u1 (pz_u1 (pz_u1 (pz_u1 (pz_u1 (pz_u1 (pz_u1 (pz_u1 iv 2 (iv 2)) 129 (iv 129)) 130 (iv 130)) 131 (iv 131)) 132 (iv 132)) 134 (iv 134)) 135 (iv 135)) 138 (iv 138)) 139 (iv 139)) 140 (iv 140), dv, cc, ss) (pz_PE (pz_Sh L) (.inr 0) (fun iv9 => ∃ (o9 : Nat → Int) (j9 : Nat → Int) (a9 : Nat → Int) (b9 : Nat → Int) (c9 : Nat → Int) (l9 : Nat → Int) (e9 : Nat → Int) (n9 : Nat → Int) (w9 : Nat → Int) (d9 : Nat → Int), iv9 = pz_u1 (pz_u1 (pz_u1 (pz_u1 (pz_u1 (pz_u1 (pz_u1 (pz_u1 (pz_u1 (pz_u1 iv 2 o9) 129 j9) 130 a9) 131 b9) 132 c9) 134 l9) 135 e9) 138 n9) 139 w9) 140 d9 ∧ (q_CI k o9 n9 w9 d9 (iv 142) (iv 143) (iv 145) j9 e9) ∧ (o9 2 = (iv 2) 2)) dv cc ss)
  refine pz_G_of pz_b135_0 ?_
  refine w_loc rfl ?_
  by_cases h1 : ¬ q_con k (fun _ => 0)
  · first
    | (exfalso; first | omega | contradiction)
    | (have hc2 := s_X10_needConflict_y (L := L) (iv := pz_u1 (pz_u1 (pz_u1 (pz_u1 (pz_u1 (pz_u1 (pz_u1 (pz_u1 (pz_u1 (pz_u1 iv 2 (iv 2)) 129 (iv 129)) 130 (iv 130)) 131 (iv 131)) 132 (iv 132)) 134 (iv 134)) 135 (iv 135)) 138 (iv 138)) 139 (iv 139)) 140 (iv 140)) (by show q_KR k; exact hk) (by show q_cE k (iv 3); exact hE) (by show q_cB k (iv 4) (iv 5) (iv 6) (iv 7) (iv 8) (iv 9); exact hB) (by show q_cS k (iv 10) (iv 11) (iv 12) (iv 13) (iv 14); exact hS) (by show q_cC k (iv 15) (iv 16); exact hC) (by show q_cL k (iv 25); exact hL) (by show q_CI k (iv 2) (iv 138) (iv 139) (iv 140) (iv 142) (iv 143) (iv 145) (iv 129) (iv 135); exact hci) (by show ¬ q_con k (fun _ => 0); exact h1)
       refine w_callvE hc2 rfl (pz_cokI is_2 rfl) (fun iv9 h9 => ?_)
       obtain ⟨o9_3, j9_4, a9_5, b9_6, c9_7, l9_8, e9_9, n9_10, w9_11, d9_12, h9e, hci, hCK, ho2⟩ := h9
       have h9x : iv9 = pz_u1 (pz_u1 (pz_u1 (pz_u1 (pz_u1 (pz_u1 (pz_u1 (pz_u1 (pz_u1 (pz_u1 iv 2 o9_3) 129 j9_4) 130 a9_5) 131 b9_6) 132 c9_7) 134 l9_8) 135 e9_9) 138 n9_10) 139 w9_11) 140 d9_12 := h9e.trans (by rw [pz_u1_in (r := 2) (q := 140) (by decide)]; rw [pz_u1_in (r := 2) (q := 139) (by decide)]; rw [pz_u1_in (r := 2) (q := 138) (by decide)]; rw [pz_u1_in (r := 2) (q := 135) (by decide)]; rw [pz_u1_in (r := 2) (q := 134) (by decide)]; rw [pz_u1_in (r := 2) (q := 132) (by decide)]; rw [pz_u1_in (r := 2) (q := 131) (by decide)]; rw [pz_u1_in (r := 2) (q := 130) (by decide)]; rw [pz_u1_in (r := 2) (q := 129) (by decide)]; rw [pz_u1_top (r := 2)]; rw [pz_u1_in (r := 129) (q := 140) (by decide)]; rw [pz_u1_in (r := 129) (q := 139) (by decide)]; rw [pz_u1_in (r := 129) (q := 138) (by decide)]; rw [pz_u1_in (r := 129) (q := 135) (by decide)]; rw [pz_u1_in (r := 129) (q := 134) (by decide)]; rw [pz_u1_in (r := 129) (q := 132) (by decide)]; rw [pz_u1_in (r := 129) (q := 131) (by decide)]; rw [pz_u1_in (r := 129) (q := 130) (by decide)]; rw [pz_u1_top (r := 129)]; rw [pz_u1_in (r := 130) (q := 140) (by decide)]; rw [pz_u1_in (r := 130) (q := 139) (by decide)]; rw [pz_u1_in (r := 130) (q := 138) (by decide)]; rw [pz_u1_in (r := 130) (q := 135) (by decide)]; rw [pz_u1_in (r := 130) (q := 134) (by decide)]; rw [pz_u1_in (r := 130) (q := 132) (by decide)]; rw [pz_u1_in (r := 130) (q := 131) (by decide)]; rw [pz_u1_top (r := 130)]; rw [pz_u1_in (r := 131) (q := 140) (by decide)]; rw [pz_u1_in (r := 131) (q := 139) (by decide)]; rw [pz_u1_in (r := 131) (q := 138) (by decide)]; rw [pz_u1_in (r := 131) (q := 135) (by decide)]; rw [pz_u1_in (r := 131) (q := 134) (by decide)]; rw [pz_u1_in (r := 131) (q := 132) (by decide)]; rw [pz_u1_top (r := 131)]; rw [pz_u1_in (r := 132) (q := 140) (by decide)]; rw [pz_u1_in (r := 132) (q := 139) (by decide)]; rw [pz_u1_in (r := 132) (q := 138) (by decide)]; rw [pz_u1_in (r := 132) (q := 135) (by decide)]; rw [pz_u1_in (r := 132) (q := 134) (by decide)]; rw [pz_u1_top (r := 132)]; rw [pz_u1_in (r := 134) (q := 140) (by decide)]; rw [pz_u1_in (r := 134) (q := 139) (by decide)]; rw [pz_u1_in (r := 134) (q := 138) (by decide)]; rw [pz_u1_in (r := 134) (q := 135) (by decide)]; rw [pz_u1_top (r := 134)]; rw [pz_u1_in (r := 135) (q := 140) (by decide)]; rw [pz_u1_in (r := 135) (q := 139) (by decide)]; rw [pz_u1_in (r := 135) (q := 138) (by decide)]; rw [pz_u1_top (r := 135)]; rw [pz_u1_in (r := 138) (q := 140) (by decide)]; rw [pz_u1_in (r := 138) (q := 139) (by decide)]; rw [pz_u1_top (r := 138)]; rw [pz_u1_in (r := 139) (q := 140) (by decide)]; rw [pz_u1_top (r := 139)]; rw [pz_u1_top (r := 140)] <;> rfl)
       subst h9x
       replace hci : q_CI k o9_3 n9_10 w9_11 d9_12 (iv 142) (iv 143) (iv 145) j9_4 e9_9 := hci
       replace hCK : q_CK k j9_4 e9_9 := hCK
       replace ho2 : o9_3 2 = (iv 2) 2 := ho2
       refine w_loc rfl ?_
       refine w_getR (q := 129) is_2 rf_2_3 ?_
       refine w_getI (v := j9_4 3) is_129 (by decide) rfl ?_
       refine w_ret rfl ?_
       first | exact ⟨pz_u1 (pz_u1 (pz_u1 (pz_u1 (pz_u1 (pz_u1 (pz_u1 (pz_u1 (pz_u1 (pz_u1 iv 2 o9_3) 129 j9_4) 130 a9_5) 131 b9_6) 132 c9_7) 134 l9_8) 135 e9_9) 138 n9_10) 139 w9_11) 140 d9_12, ⟨o9_3, j9_4, a9_5, b9_6, c9_7, l9_8, e9_9, n9_10, w9_11, d9_12, by rfl, by exact hci, by exact ho2⟩, lf_i (by exact hCK.2.1) (by rfl)⟩ | (exfalso; omega))
  · first
    | (exfalso; first | omega | contradiction)
    | (have hc13 := s_X10_needConflict_n (L := L) (iv := pz_u1 (pz_u1 (pz_u1 (pz_u1 (pz_u1 (pz_u1 (pz_u1 (pz_u1 (pz_u1 (pz_u1 iv 2 (iv 2)) 129 (iv 129)) 130 (iv 130)) 131 (iv 131)) 132 (iv 132)) 134 (iv 134)) 135 (iv 135)) 138 (iv 138)) 139 (iv 139)) 140 (iv 140)) (by show q_KR k; exact hk) (by show q_cE k (iv 3); exact hE) (by show q_cB k (iv 4) (iv 5) (iv 6) (iv 7) (iv 8) (iv 9); exact hB) (by show q_cS k (iv 10) (iv 11) (iv 12) (iv 13) (iv 14); exact hS) (by show q_cC k (iv 15) (iv 16); exact hC) (by show q_cL k (iv 25); exact hL) (by show q_CI k (iv 2) (iv 138) (iv 139) (iv 140) (iv 142) (iv 143) (iv 145) (iv 129) (iv 135); exact hci) (by show ¬ ¬ q_con k (fun _ => 0); exact h1)
       refine w_calleE hc13 rfl (pz_cokI is_2 rfl) rfl (fun iv9 h9 => ?_)
       obtain ⟨o9_14, j9_15, a9_16, b9_17, c9_18, l9_19, e9_20, n9_21, w9_22, d9_23, h9e, hci, ho2⟩ := h9
       have h9x : iv9 = pz_u1 (pz_u1 (pz_u1 (pz_u1 (pz_u1 (pz_u1 (pz_u1 (pz_u1 (pz_u1 (pz_u1 iv 2 o9_14) 129 j9_15) 130 a9_16) 131 b9_17) 132 c9_18) 134 l9_19) 135 e9_20) 138 n9_21) 139 w9_22) 140 d9_23 := h9e.trans (by rw [pz_u1_in (r := 2) (q := 140) (by decide)]; rw [pz_u1_in (r := 2) (q := 139) (by decide)]; rw [pz_u1_in (r := 2) (q := 138) (by decide)]; rw [pz_u1_in (r := 2) (q := 135) (by decide)]; rw [pz_u1_in (r := 2) (q := 134) (by decide)]; rw [pz_u1_in (r := 2) (q := 132) (by decide)]; rw [pz_u1_in (r := 2) (q := 131) (by decide)]; rw [pz_u1_in (r := 2) (q := 130) (by decide)]; rw [pz_u1_in (r := 2) (q := 129) (by decide)]; rw [pz_u1_top (r := 2)]; rw [pz_u1_in (r := 129) (q := 140) (by decide)]; rw [pz_u1_in (r := 129) (q := 139) (by decide)]; rw [pz_u1_in (r := 129) (q := 138) (by decide)]; rw [pz_u1_in (r := 129) (q := 135) (by decide)]; rw [pz_u1_in (r := 129) (q := 134) (by decide)]; rw [pz_u1_in (r := 129) (q := 132) (by decide)]; rw [pz_u1_in (r := 129) (q := 131) (by decide)]; rw [pz_u1_in (r := 129) (q := 130) (by decide)]; rw [pz_u1_top (r := 129)]; rw [pz_u1_in (r := 130) (q := 140) (by decide)]; rw [pz_u1_in (r := 130) (q := 139) (by decide)]; rw [pz_u1_in (r := 130) (q := 138) (by decide)]; rw [pz_u1_in (r := 130) (q := 135) (by decide)]; rw [pz_u1_in (r := 130) (q := 134) (by decide)]; rw [pz_u1_in (r := 130) (q := 132) (by decide)]; rw [pz_u1_in (r := 130) (q := 131) (by decide)]; rw [pz_u1_top (r := 130)]; rw [pz_u1_in (r := 131) (q := 140) (by decide)]; rw [pz_u1_in (r := 131) (q := 139) (by decide)]; rw [pz_u1_in (r := 131) (q := 138) (by decide)]; rw [pz_u1_in (r := 131) (q := 135) (by decide)]; rw [pz_u1_in (r := 131) (q := 134) (by decide)]; rw [pz_u1_in (r := 131) (q := 132) (by decide)]; rw [pz_u1_top (r := 131)]; rw [pz_u1_in (r := 132) (q := 140) (by decide)]; rw [pz_u1_in (r := 132) (q := 139) (by decide)]; rw [pz_u1_in (r := 132) (q := 138) (by decide)]; rw [pz_u1_in (r := 132) (q := 135) (by decide)]; rw [pz_u1_in (r := 132) (q := 134) (by decide)]; rw [pz_u1_top (r := 132)]; rw [pz_u1_in (r := 134) (q := 140) (by decide)]; rw [pz_u1_in (r := 134) (q := 139) (by decide)]; rw [pz_u1_in (r := 134) (q := 138) (by decide)]; rw [pz_u1_in (r := 134) (q := 135) (by decide)]; rw [pz_u1_top (r := 134)]; rw [pz_u1_in (r := 135) (q := 140) (by decide)]; rw [pz_u1_in (r := 135) (q := 139) (by decide)]; rw [pz_u1_in (r := 135) (q := 138) (by decide)]; rw [pz_u1_top (r := 135)]; rw [pz_u1_in (r := 138) (q := 140) (by decide)]; rw [pz_u1_in (r := 138) (q := 139) (by decide)]; rw [pz_u1_top (r := 138)]; rw [pz_u1_in (r := 139) (q := 140) (by decide)]; rw [pz_u1_top (r := 139)]; rw [pz_u1_top (r := 140)] <;> rfl)
       subst h9x
       replace hci : q_CI k o9_14 n9_21 w9_22 d9_23 (iv 142) (iv 143) (iv 145) j9_15 e9_20 := hci
       replace ho2 : o9_14 2 = (iv 2) 2 := ho2
       first | exact ⟨pz_u1 (pz_u1 (pz_u1 (pz_u1 (pz_u1 (pz_u1 (pz_u1 (pz_u1 (pz_u1 (pz_u1 iv 2 o9_14) 129 j9_15) 130 a9_16) 131 b9_17) 132 c9_18) 134 l9_19) 135 e9_20) 138 n9_21) 139 w9_22) 140 d9_23, ⟨o9_14, j9_15, a9_16, b9_17, c9_18, l9_19, e9_20, n9_21, w9_22, d9_23, by rfl, by exact hci, by exact ho2⟩, lf_e (by rfl)⟩ | (exfalso; omega))

theorem s_X10_conflictSize_0 {L : Nat} {iv : Nat → Nat → Int} {k : Nat → Int} (hk : q_KR k) (hE : q_cE k (iv 3)) (hB : q_cB k (iv 4) (iv 5) (iv 6) (iv 7) (iv 8) (iv 9)) (hS : q_cS k (iv 10) (iv 11) (iv 12) (iv 13) (iv 14)) (hC : q_cC k (iv 15) (iv 16)) (hA : q_cA k (iv 17) (iv 18) (iv 19) (iv 20)) (hO : q_cO k (iv 22) (iv 23) (iv 24)) (hL : q_cL k (iv 25)) (hP : q_cP k (iv 27)) (hci : q_CI k (iv 2) (iv 138) (iv 139) (iv 140) (iv 142) (iv 143) (iv 145) (iv 129) (iv 135)) (hcase0 : ¬ q_con k (fun _ => 0)) : pz_RE (pz_Sh L) 135 [.inr (.inl 2)] iv (.inl (some (.inl (q_cnt (q_kp k) (k 1))))) (fun iv9 => ∃ (o9 : Nat → Int) (j9 : Nat → Int) (a9 : Nat → Int) (b9 : Nat → Int) (c9 : Nat → Int) (l9 : Nat → Int) (e9 : Nat → Int) (n9 : Nat → Int) (w9 : Nat → Int) (d9 : Nat → Int), iv9 = pz_u1 (pz_u1 (pz_u1 (pz_u1 (pz_u1 (pz_u1 (pz_u1 (pz_u1 (pz_u1 (pz_u1 iv 2 o9) 129 j9) 130 a9) 131 b9) 132 c9) 134 l9) 135 e9) 138 n9) 139 w9) 140 d9 ∧ (q_CI k o9 n9 w9 d9 (iv 142) (iv 143) (iv 145) j9 e9) ∧ (o9 2 = (iv 2) 2)) := by
  intro dv cc ss
  have hk0 := hk.r0
  have hE0 := hE
  have hB0 := hB.1
  have hS0 := hS.1
  have hC0 := hC.1
  have hA0 := hA.1
  refine pz_G_mem (iv2 := pz_u1 (pz_u1 (pz_u1 (pz_u1 (pz_u1 (pz_u1 (pz_u1 (pz_u1 (pz_u1 (pz_u1 iv 2 (iv 2)) 129 (iv 129)) 130 (iv 130)) 131 (iv 131)) 132 (iv 132)) 134 (iv 134)) 135 (iv 135)) 138 (iv 138)) 139 (iv 139)) 140 (iv 140)) (by exact ((((((((((pz_u1_self iv 2).symm).trans (pz_u1_self (pz_u1 iv 2 (iv 2)) 129).symm).trans (pz_u1_self (pz_u1 (pz_u1 iv 2 (iv 2)) 129 (iv 129)) 130).symm).trans (pz_u1_self (pz_u1 (pz_u1 (pz_u1 iv 2 (iv 2)) 129 (iv 129)) 130 (iv 130)) 131).symm).trans (pz_u1_self (pz_u1 (pz_u1 (pz_u1 (pz_u1 iv 2 (iv 2)) 129 (iv 129)) 130 (iv 130)) 131 (iv 131)) 132).symm).trans (pz_u1_self (pz_u1 (pz_u1 (pz_u1 (pz_u1 (pz_u1 iv 2 (iv 2)) 129 (iv 129)) 130 (iv 130)) 131 (iv 131)) 132 (iv 132)) 134).symm).trans (pz_u1_self (pz_u1 (pz_u1 (pz_u1 (pz_u1 (pz_u1 (pz_u1 iv 2 (iv 2)) 129 (iv 129)) 130 (iv 130)) 131 (iv 131)) 132 (iv 132)) 134 (iv 134)) 135).symm).trans (pz_u1_self (pz_u1 (pz_u1 (pz_u1 (pz_u1 (pz_u1 (pz_u1 (pz_u1 iv 2 (iv 2)) 129 (iv 129)) 130 (iv 130)) 131 (iv 131)) 132 (iv 132)) 134 (iv 134)) 135 (iv 135)) 138).symm).trans (pz_u1_self (pz_u1 (pz_u1 (pz_u1 (pz_u1 (pz_u1 (pz_u1 (pz_u1 (pz_u1 iv 2 (iv 2)) 129 (iv 129)) 130 (iv 130)) 131 (iv 131)) 132 (iv 132)) 134 (iv 134)) 135 (iv 135)) 138 (iv 138)) 139).symm).trans (pz_u1_self (pz_u1 (pz_u1 (pz_u1 (pz_u1 (pz_u1 (pz_u1 (pz_u1 (pz_u1 (pz_u1 iv 2 (iv 2)) 129 (iv 129)) 130 (iv 130)) 131 (iv 131)) 132 (iv 132)) 134 (iv 134)) 135 (iv 135)) 138 (iv 138)) 139 (iv 139)) 140).symm) ?_
  show pz_G 135 0 [some (.inr (.inl 2))] [] (pz_Sh L, pz_u1 (pz_u1 (pz_u1 (pz_u1 (pz_u1 (pz_u1 (pz_u1 (pz_u1 (pz_u1 (pz_u1 iv 2 (iv 2)) 129 (iv 129)) 130 (iv 130)) 131 (iv 131)) 132 (iv 132)) 134 (iv 134)) 135 (iv 135)) 138 (iv 138)) 139 (iv 139)) 140 (iv 140), dv, cc, ss) (pz_PE (pz_Sh L) (.inl (some (.inl (q_cnt (q_kp k) (k 1))))) (fun iv9 => ∃ (o9 : Nat → Int) (j9 : Nat → Int) (a9 : Nat → Int) (b9 : Nat → Int) (c9 : Nat → Int) (l9 : Nat → Int) (e9 : Nat → Int) (n9 : Nat → Int) (w9 : Nat → Int) (d9 : Nat → Int), iv9 = pz_u1 (pz_u1 (pz_u1 (pz_u1 (pz_u1 (pz_u1 (pz_u1 (pz_u1 (pz_u1 (pz_u1 iv 2 o9) 129 j9) 130 a9) 131 b9) 132 c9) 134 l9) 135 e9) 138 n9) 139 w9) 140 d9 ∧ (q_CI k o9 n9 w9 d9 (iv 142) (iv 143) (iv 145) j9 e9) ∧ (o9 2 = (iv 2) 2)) dv cc ss)
  refine pz_G_of pz_b135_0 ?_
  refine w_loc rfl ?_
  by_cases h1 : ¬ q_con k (fun _ => 0)
  · first
    | (exfalso; first | omega | contradiction)
    | (have hc2 := s_X10_needConflict_y (L := L) (iv := pz_u1 (pz_u1 (pz_u1 (pz_u1 (pz_u1 (pz_u1 (pz_u1 (pz_u1 (pz_u1 (pz_u1 iv 2 (iv 2)) 129 (iv 129)) 130 (iv 130)) 131 (iv 131)) 132 (iv 132)) 134 (iv 134)) 135 (iv 135)) 138 (iv 138)) 139 (iv 139)) 140 (iv 140)) (by show q_KR k; exact hk) (by show q_cE k (iv 3); exact hE) (by show q_cB k (iv 4) (iv 5) (iv 6) (iv 7) (iv 8) (iv 9); exact hB) (by show q_cS k (iv 10) (iv 11) (iv 12) (iv 13) (iv 14); exact hS) (by show q_cC k (iv 15) (iv 16); exact hC) (by show q_cL k (iv 25); exact hL) (by show q_CI k (iv 2) (iv 138) (iv 139) (iv 140) (iv 142) (iv 143) (iv 145) (iv 129) (iv 135); exact hci) (by show ¬ q_con k (fun _ => 0); exact h1)
       refine w_callvE hc2 rfl (pz_cokI is_2 rfl) (fun iv9 h9 => ?_)
       obtain ⟨o9_3, j9_4, a9_5, b9_6, c9_7, l9_8, e9_9, n9_10, w9_11, d9_12, h9e, hci, hCK, ho2⟩ := h9
       have h9x : iv9 = pz_u1 (pz_u1 (pz_u1 (pz_u1 (pz_u1 (pz_u1 (pz_u1 (pz_u1 (pz_u1 (pz_u1 iv 2 o9_3) 129 j9_4) 130 a9_5) 131 b9_6) 132 c9_7) 134 l9_8) 135 e9_9) 138 n9_10) 139 w9_11) 140 d9_12 := h9e.trans (by rw [pz_u1_in (r := 2) (q := 140) (by decide)]; rw [pz_u1_in (r := 2) (q := 139) (by decide)]; rw [pz_u1_in (r := 2) (q := 138) (by decide)]; rw [pz_u1_in (r := 2) (q := 135) (by decide)]; rw [pz_u1_in (r := 2) (q := 134) (by decide)]; rw [pz_u1_in (r := 2) (q := 132) (by decide)]; rw [pz_u1_in (r := 2) (q := 131) (by decide)]; rw [pz_u1_in (r := 2) (q := 130) (by decide)]; rw [pz_u1_in (r := 2) (q := 129) (by decide)]; rw [pz_u1_top (r := 2)]; rw [pz_u1_in (r := 129) (q := 140) (by decide)]; rw [pz_u1_in (r := 129) (q := 139) (by decide)]; rw [pz_u1_in (r := 129) (q := 138) (by decide)]; rw [pz_u1_in (r := 129) (q := 135) (by decide)]; rw [pz_u1_in (r := 129) (q := 134) (by decide)]; rw [pz_u1_in (r := 129) (q := 132) (by decide)]; rw [pz_u1_in (r := 129) (q := 131) (by decide)]; rw [pz_u1_in (r := 129) (q := 130) (by decide)]; rw [pz_u1_top (r := 129)]; rw [pz_u1_in (r := 130) (q := 140) (by decide)]; rw [pz_u1_in (r := 130) (q := 139) (by decide)]; rw [pz_u1_in (r := 130) (q := 138) (by decide)]; rw [pz_u1_in (r := 130) (q := 135) (by decide)]; rw [pz_u1_in (r := 130) (q := 134) (by decide)]; rw [pz_u1_in (r := 130) (q := 132) (by decide)]; rw [pz_u1_in (r := 130) (q := 131) (by decide)]; rw [pz_u1_top (r := 130)]; rw [pz_u1_in (r := 131) (q := 140) (by decide)]; rw [pz_u1_in (r := 131) (q := 139) (by decide)]; rw [pz_u1_in (r := 131) (q := 138) (by decide)]; rw [pz_u1_in (r := 131) (q := 135) (by decide)]; rw [pz_u1_in (r := 131) (q := 134) (by decide)]; rw [pz_u1_in (r := 131) (q := 132) (by decide)]; rw [pz_u1_top (r := 131)]; rw [pz_u1_in (r := 132) (q := 140) (by decide)]; rw [pz_u1_in (r := 132) (q := 139) (by decide)]; rw [pz_u1_in (r := 132) (q := 138) (by decide)]; rw [pz_u1_in (r := 132) (q := 135) (by decide)]; rw [pz_u1_in (r := 132) (q := 134) (by decide)]; rw [pz_u1_top (r := 132)]; rw [pz_u1_in (r := 134) (q := 140) (by decide)]; rw [pz_u1_in (r := 134) (q := 139) (by decide)]; rw [pz_u1_in (r := 134) (q := 138) (by decide)]; rw [pz_u1_in (r := 134) (q := 135) (by decide)]; rw [pz_u1_top (r := 134)]; rw [pz_u1_in (r := 135) (q := 140) (by decide)]; rw [pz_u1_in (r := 135) (q := 139) (by decide)]; rw [pz_u1_in (r := 135) (q := 138) (by decide)]; rw [pz_u1_top (r := 135)]; rw [pz_u1_in (r := 138) (q := 140) (by decide)]; rw [pz_u1_in (r := 138) (q := 139) (by decide)]; rw [pz_u1_top (r := 138)]; rw [pz_u1_in (r := 139) (q := 140) (by decide)]; rw [pz_u1_top (r := 139)]; rw [pz_u1_top (r := 140)] <;> rfl)
       subst h9x
       replace hci : q_CI k o9_3 n9_10 w9_11 d9_12 (iv 142) (iv 143) (iv 145) j9_4 e9_9 := hci
       replace hCK : q_CK k j9_4 e9_9 := hCK
       replace ho2 : o9_3 2 = (iv 2) 2 := ho2
       refine w_loc rfl ?_
       refine w_getR (q := 129) is_2 rf_2_3 ?_
       refine w_getI (v := j9_4 3) is_129 (by decide) rfl ?_
       refine w_ret rfl ?_
       first | exact ⟨pz_u1 (pz_u1 (pz_u1 (pz_u1 (pz_u1 (pz_u1 (pz_u1 (pz_u1 (pz_u1 (pz_u1 iv 2 o9_3) 129 j9_4) 130 a9_5) 131 b9_6) 132 c9_7) 134 l9_8) 135 e9_9) 138 n9_10) 139 w9_11) 140 d9_12, ⟨o9_3, j9_4, a9_5, b9_6, c9_7, l9_8, e9_9, n9_10, w9_11, d9_12, by rfl, by exact hci, by exact ho2⟩, lf_i (by exact hCK.2.1) (by rfl)⟩ | (exfalso; omega))
  · first
    | (exfalso; first | omega | contradiction)
    | (have hc13 := s_X10_needConflict_n (L := L) (iv := pz_u1 (pz_u1 (pz_u1 (pz_u1 (pz_u1 (pz_u1 (pz_u1 (pz_u1 (pz_u1 (pz_u1 iv 2 (iv 2)) 129 (iv 129)) 130 (iv 130)) 131 (iv 131)) 132 (iv 132)) 134 (iv 134)) 135 (iv 135)) 138 (iv 138)) 139 (iv 139)) 140 (iv 140)) (by show q_KR k; exact hk) (by show q_cE k (iv 3); exact hE) (by show q_cB k (iv 4) (iv 5) (iv 6) (iv 7) (iv 8) (iv 9); exact hB) (by show q_cS k (iv 10) (iv 11) (iv 12) (iv 13) (iv 14); exact hS) (by show q_cC k (iv 15) (iv 16); exact hC) (by show q_cL k (iv 25); exact hL) (by show q_CI k (iv 2) (iv 138) (iv 139) (iv 140) (iv 142) (iv 143) (iv 145) (iv 129) (iv 135); exact hci) (by show ¬ ¬ q_con k (fun _ => 0); exact h1)
       refine w_calleE hc13 rfl (pz_cokI is_2 rfl) rfl (fun iv9 h9 => ?_)
       obtain ⟨o9_14, j9_15, a9_16, b9_17, c9_18, l9_19, e9_20, n9_21, w9_22, d9_23, h9e, hci, ho2⟩ := h9
       have h9x : iv9 = pz_u1 (pz_u1 (pz_u1 (pz_u1 (pz_u1 (pz_u1 (pz_u1 (pz_u1 (pz_u1 (pz_u1 iv 2 o9_14) 129 j9_15) 130 a9_16) 131 b9_17) 132 c9_18) 134 l9_19) 135 e9_20) 138 n9_21) 139 w9_22) 140 d9_23 := h9e.trans (by rw [pz_u1_in (r := 2) (q := 140) (by decide)]; rw [pz_u1_in (r := 2) (q := 139) (by decide)]; rw [pz_u1_in (r := 2) (q := 138) (by decide)]; rw [pz_u1_in (r := 2) (q := 135) (by decide)]; rw [pz_u1_in (r := 2) (q := 134) (by decide)]; rw [pz_u1_in (r := 2) (q := 132) (by decide)]; rw [pz_u1_in (r := 2) (q := 131) (by decide)]; rw [pz_u1_in (r := 2) (q := 130) (by decide)]; rw [pz_u1_in (r := 2) (q := 129) (by decide)]; rw [pz_u1_top (r := 2)]; rw [pz_u1_in (r := 129) (q := 140) (by decide)]; rw [pz_u1_in (r := 129) (q := 139) (by decide)]; rw [pz_u1_in (r := 129) (q := 138) (by decide)]; rw [pz_u1_in (r := 129) (q := 135) (by decide)]; rw [pz_u1_in (r := 129) (q := 134) (by decide)]; rw [pz_u1_in (r := 129) (q := 132) (by decide)]; rw [pz_u1_in (r := 129) (q := 131) (by decide)]; rw [pz_u1_in (r := 129) (q := 130) (by decide)]; rw [pz_u1_top (r := 129)]; rw [pz_u1_in (r := 130) (q := 140) (by decide)]; rw [pz_u1_in (r := 130) (q := 139) (by decide)]; rw [pz_u1_in (r := 130) (q := 138) (by decide)]; rw [pz_u1_in (r := 130) (q := 135) (by decide)]; rw [pz_u1_in (r := 130) (q := 134) (by decide)]; rw [pz_u1_in (r := 130) (q := 132) (by decide)]; rw [pz_u1_in (r := 130) (q := 131) (by decide)]; rw [pz_u1_top (r := 130)]; rw [pz_u1_in (r := 131) (q := 140) (by decide)]; rw [pz_u1_in (r := 131) (q := 139) (by decide)]; rw [pz_u1_in (r := 131) (q := 138) (by decide)]; rw [pz_u1_in (r := 131) (q := 135) (by decide)]; rw [pz_u1_in (r := 131) (q := 134) (by decide)]; rw [pz_u1_in (r := 131) (q := 132) (by decide)]; rw [pz_u1_top (r := 131)]; rw [pz_u1_in (r := 132) (q := 140) (by decide)]; rw [pz_u1_in (r := 132) (q := 139) (by decide)]; rw [pz_u1_in (r := 132) (q := 138) (by decide)]; rw [pz_u1_in (r := 132) (q := 135) (by decide)]; rw [pz_u1_in (r := 132) (q := 134) (by decide)]; rw [pz_u1_top (r := 132)]; rw [pz_u1_in (r := 134) (q := 140) (by decide)]; rw [pz_u1_in (r := 134) (q := 139) (by decide)]; rw [pz_u1_in (r := 134) (q := 138) (by decide)]; rw [pz_u1_in (r := 134) (q := 135) (by decide)]; rw [pz_u1_top (r := 134)]; rw [pz_u1_in (r := 135) (q := 140) (by decide)]; rw [pz_u1_in (r := 135) (q := 139) (by decide)]; rw [pz_u1_in (r := 135) (q := 138) (by decide)]; rw [pz_u1_top (r := 135)]; rw [pz_u1_in (r := 138) (q := 140) (by decide)]; rw [pz_u1_in (r := 138) (q := 139) (by decide)]; rw [pz_u1_top (r := 138)]; rw [pz_u1_in (r := 139) (q := 140) (by decide)]; rw [pz_u1_top (r := 139)]; rw [pz_u1_top (r := 140)] <;> rfl)
       subst h9x
       replace hci : q_CI k o9_14 n9_21 w9_22 d9_23 (iv 142) (iv 143) (iv 145) j9_15 e9_20 := hci
       replace ho2 : o9_14 2 = (iv 2) 2 := ho2
       first | exact ⟨pz_u1 (pz_u1 (pz_u1 (pz_u1 (pz_u1 (pz_u1 (pz_u1 (pz_u1 (pz_u1 (pz_u1 iv 2 o9_14) 129 j9_15) 130 a9_16) 131 b9_17) 132 c9_18) 134 l9_19) 135 e9_20) 138 n9_21) 139 w9_22) 140 d9_23, ⟨o9_14, j9_15, a9_16, b9_17, c9_18, l9_19, e9_20, n9_21, w9_22, d9_23, by rfl, by exact hci, by exact ho2⟩, lf_e (by rfl)⟩ | (exfalso; omega))

theorem s_X10_conflictAt_1 {L : Nat} {iv : Nat → Nat → Int} (i : Int) {k : Nat → Int} (hk : q_KR k) (hE : q_cE k (iv 3)) (hB : q_cB k (iv 4) (iv 5) (iv 6) (iv 7) (iv 8) (iv 9)) (hS : q_cS k (iv 10) (iv 11) (iv 12) (iv 13) (iv 14)) (hC : q_cC k (iv 15) (iv 16)) (hA : q_cA k (iv 17) (iv 18) (iv 19) (iv 20)) (hO : q_cO k (iv 22) (iv 23) (iv 24)) (hL : q_cL k (iv 25)) (hP : q_cP k (iv 27)) (hci : q_CI k (iv 2) (iv 138) (iv 139) (iv 140) (iv 142) (iv 143) (iv 145) (iv 129) (iv 135)) (hcase0 : q_con k (fun _ => 0)) : pz_RE (pz_Sh L) 136 [.inr (.inl 2), .inl i] iv (.inr 0) (fun iv9 => ∃ (o9 : Nat → Int) (j9 : Nat → Int) (a9 : Nat → Int) (b9 : Nat → Int) (c9 : Nat → Int) (l9 : Nat → Int) (e9 : Nat → Int) (n9 : Nat → Int) (w9 : Nat → Int) (d9 : Nat → Int), iv9 = pz_u1 (pz_u1 (pz_u1 (pz_u1 (pz_u1 (pz_u1 (pz_u1 (pz_u1 (pz_u1 (pz_u1 iv 2 o9) 129 j9) 130 a9) 131 b9) 132 c9) 134 l9) 135 e9) 138 n9) 139 w9) 140 d9 ∧ (q_CI k o9 n9 w9 d9 (iv 142) (iv 143) (iv 145) j9 e9) ∧ (o9 2 = (iv 2) 2)) := by
  intro dv cc ss
  have hk0 := hk.r0
  have hE0 := hE
  have hB0 := hB.1
  have hS0 := hS.1
  have hC0 := hC.1
  have hA0 := hA.1
  have hcr := q_cnt_r (q_kp k) (n := k 1) (by omega)
  refine pz_G_mem (iv2 := pz_u1 (pz_u1 (pz_u1 (pz_u1 (pz_u1 (pz_u1 (pz_u1 (pz_u1 (pz_u1 (pz_u1 iv 2 (iv 2)) 129 (iv 129)) 130 (iv 130)) 131 (iv 131)) 132 (iv 132)) 134 (iv 134)) 135 (iv 135)) 138 (iv 138)) 139 (iv 139)) 140 (iv 140)) (by exact ((((((((((pz_u1_self iv 2).symm).trans (pz_u1_self (pz_u1 iv 2 (iv 2)) 129).symm).trans (pz_u1_self (pz_u1 (pz_u1 iv 2 (iv 2)) 129 (iv 129)) 130).symm).trans (pz_u1_self (pz_u1 (pz_u1 (pz_u1 iv 2 (iv 2)) 129 (iv 129)) 130 (iv 130)) 131).symm).trans (pz_u1_self (pz_u1 (pz_u1 (pz_u1 (pz_u1 iv 2 (iv 2)) 129 (iv 129)) 130 (iv 130)) 131 (iv 131)) 132).symm).trans (pz_u1_self (pz_u1 (pz_u1 (pz_u1 (pz_u1 (pz_u1 iv 2 (iv 2)) 129 (iv 129)) 130 (iv 130)) 131 (iv 131)) 132 (iv 132)) 134).symm).trans (pz_u1_self (pz_u1 (pz_u1 (pz_u1 (pz_u1 (pz_u1 (pz_u1 iv 2 (iv 2)) 129 (iv 129)) 130 (iv 130)) 131 (iv 131)) 132 (iv 132)) 134 (iv 134)) 135).symm).trans (pz_u1_self (pz_u1 (pz_u1 (pz_u1 (pz_u1 (pz_u1 (pz_u1 (pz_u1 iv 2 (iv 2)) 129 (iv 129)) 130 (iv 130)) 131 (iv 131)) 132 (iv 132)) 134 (iv 134)) 135 (iv 135)) 138).symm).trans (pz_u1_self (pz_u1 (pz_u1 (pz_u1 (pz_u1 (pz_u1 (pz_u1 (pz_u1 (pz_u1 iv 2 (iv 2)) 129 (iv 129)) 130 (iv 130)) 131 (iv 131)) 132 (iv 132)) 134 (iv 134)) 135 (iv 135)) 138 (iv 138)) 139).symm).trans (pz_u1_self (pz_u1 (pz_u1 (pz_u1 (pz_u1 (pz_u1 (pz_u1 (pz_u1 (pz_u1 (pz_u1 iv 2 (iv 2)) 129 (iv 129)) 130 (iv 130)) 131 (iv 131)) 132 (iv 132)) 134 (iv 134)) 135 (iv 135)) 138 (iv 138)) 139 (iv 139)) 140).symm) ?_
  show pz_G 136 0 [some (.inr (.inl 2)), some (.inl i)] [] (pz_Sh L, pz_u1 (pz_u1 (pz_u1 (pz_u1 (pz_u1 (pz_u1 (pz_u1 (pz_u1 (pz_u1 (pz_u1 iv 2 (iv 2)) 129 (iv 129)) 130 (iv 130)) 131 (iv 131)) 132 (iv 132)) 134 (iv 134)) 135 (iv 135)) 138 (iv 138)) 139 (iv 139)) 140 (iv 140), dv, cc, ss) (pz_PE (pz_Sh L) (.inr 0) (fun iv9 => ∃ (o9 : Nat → Int) (j9 : Nat → Int) (a9 : Nat → Int) (b9 : Nat → Int) (c9 : Nat → Int) (l9 : Nat → Int) (e9 : Nat → Int) (n9 : Nat → Int) (w9 : Nat → Int) (d9 : Nat → Int), iv9 = pz_u1 (pz_u1 (pz_u1 (pz_u1 (pz_u1 (pz_u1 (pz_u1 (pz_u1 (pz_u1 (pz_u1 iv 2 o9) 129 j9) 130 a9) 131 b9) 132 c9) 134 l9) 135 e9) 138 n9) 139 w9) 140 d9 ∧ (q_CI k o9 n9 w9 d9 (iv 142) (iv 143) (iv 145) j9 e9) ∧ (o9 2 = (iv 2) 2)) dv cc ss)
  refine pz_G_of pz_b136_0 ?_
  refine w_loc rfl ?_
  by_cases h1 : ¬ q_con k (fun _ => 0)
  · first
    | (exfalso; first | omega | contradiction)
    | (have hc2 := s_X10_needConflict_y (L := L) (iv := pz_u1 (pz_u1 (pz_u1 (pz_u1 (pz_u1 (pz_u1 (pz_u1 (pz_u1 (pz_u1 (pz_u1 iv 2 (iv 2)) 129 (iv 129)) 130 (iv 130)) 131 (iv 131)) 132 (iv 132)) 134 (iv 134)) 135 (iv 135)) 138 (iv 138)) 139 (iv 139)) 140 (iv 140)) (by show q_KR k; exact hk) (by show q_cE k (iv 3); exact hE) (by show q_cB k (iv 4) (iv 5) (iv 6) (iv 7) (iv 8) (iv 9); exact hB) (by show q_cS k (iv 10) (iv 11) (iv 12) (iv 13) (iv 14); exact hS) (by show q_cC k (iv 15) (iv 16); exact hC) (by show q_cL k (iv 25); exact hL) (by show q_CI k (iv 2) (iv 138) (iv 139) (iv 140) (iv 142) (iv 143) (iv 145) (iv 129) (iv 135); exact hci) (by show ¬ q_con k (fun _ => 0); exact h1)
       refine w_callvE hc2 rfl (pz_cokI is_2 rfl) (fun iv9 h9 => ?_)
       obtain ⟨o9_3, j9_4, a9_5, b9_6, c9_7, l9_8, e9_9, n9_10, w9_11, d9_12, h9e, hci, hCK, ho2⟩ := h9
       have h9x : iv9 = pz_u1 (pz_u1 (pz_u1 (pz_u1 (pz_u1 (pz_u1 (pz_u1 (pz_u1 (pz_u1 (pz_u1 iv 2 o9_3) 129 j9_4) 130 a9_5) 131 b9_6) 132 c9_7) 134 l9_8) 135 e9_9) 138 n9_10) 139 w9_11) 140 d9_12 := h9e.trans (by rw [pz_u1_in (r := 2) (q := 140) (by decide)]; rw [pz_u1_in (r := 2) (q := 139) (by decide)]; rw [pz_u1_in (r := 2) (q := 138) (by decide)]; rw [pz_u1_in (r := 2) (q := 135) (by decide)]; rw [pz_u1_in (r := 2) (q := 134) (by decide)]; rw [pz_u1_in (r := 2) (q := 132) (by decide)]; rw [pz_u1_in (r := 2) (q := 131) (by decide)]; rw [pz_u1_in (r := 2) (q := 130) (by decide)]; rw [pz_u1_in (r := 2) (q := 129) (by decide)]; rw [pz_u1_top (r := 2)]; rw [pz_u1_in (r := 129) (q := 140) (by decide)]; rw [pz_u1_in (r := 129) (q := 139) (by decide)]; rw [pz_u1_in (r := 129) (q := 138) (by decide)]; rw [pz_u1_in (r := 129) (q := 135) (by decide)]; rw [pz_u1_in (r := 129) (q := 134) (by decide)]; rw [pz_u1_in (r := 129) (q := 132) (by decide)]; rw [pz_u1_in (r := 129) (q := 131) (by decide)]; rw [pz_u1_in (r := 129) (q := 130) (by decide)]; rw [pz_u1_top (r := 129)]; rw [pz_u1_in (r := 130) (q := 140) (by decide)]; rw [pz_u1_in (r := 130) (q := 139) (by decide)]; rw [pz_u1_in (r := 130) (q := 138) (by decide)]; rw [pz_u1_in (r := 130) (q := 135) (by decide)]; rw [pz_u1_in (r := 130) (q := 134) (by decide)]; rw [pz_u1_in (r := 130) (q := 132) (by decide)]; rw [pz_u1_in (r := 130) (q := 131) (by decide)]; rw [pz_u1_top (r := 130)]; rw [pz_u1_in (r := 131) (q := 140) (by decide)]; rw [pz_u1_in (r := 131) (q := 139) (by decide)]; rw [pz_u1_in (r := 131) (q := 138) (by decide)]; rw [pz_u1_in (r := 131) (q := 135) (by decide)]; rw [pz_u1_in (r := 131) (q := 134) (by decide)]; rw [pz_u1_in (r := 131) (q := 132) (by decide)]; rw [pz_u1_top (r := 131)]; rw [pz_u1_in (r := 132) (q := 140) (by decide)]; rw [pz_u1_in (r := 132) (q := 139) (by decide)]; rw [pz_u1_in (r := 132) (q := 138) (by decide)]; rw [pz_u1_in (r := 132) (q := 135) (by decide)]; rw [pz_u1_in (r := 132) (q := 134) (by decide)]; rw [pz_u1_top (r := 132)]; rw [pz_u1_in (r := 134) (q := 140) (by decide)]; rw [pz_u1_in (r := 134) (q := 139) (by decide)]; rw [pz_u1_in (r := 134) (q := 138) (by decide)]; rw [pz_u1_in (r := 134) (q := 135) (by decide)]; rw [pz_u1_top (r := 134)]; rw [pz_u1_in (r := 135) (q := 140) (by decide)]; rw [pz_u1_in (r := 135) (q := 139) (by decide)]; rw [pz_u1_in (r := 135) (q := 138) (by decide)]; rw [pz_u1_top (r := 135)]; rw [pz_u1_in (r := 138) (q := 140) (by decide)]; rw [pz_u1_in (r := 138) (q := 139) (by decide)]; rw [pz_u1_top (r := 138)]; rw [pz_u1_in (r := 139) (q := 140) (by decide)]; rw [pz_u1_top (r := 139)]; rw [pz_u1_top (r := 140)] <;> rfl)
       subst h9x
       replace hci : q_CI k o9_3 n9_10 w9_11 d9_12 (iv 142) (iv 143) (iv 145) j9_4 e9_9 := hci
       replace hCK : q_CK k j9_4 e9_9 := hCK
       replace ho2 : o9_3 2 = (iv 2) 2 := ho2
       have hcn1 := hCK.2.1
       refine w_loc rfl ?_
       refine w_zlt (fun h13 => ?_) (fun h13 => ?_)
       · first
         | (exfalso; first | omega | contradiction)
         | (refine pz_G_of pz_b136_19 ?_
            refine w_thr (by decide) ?_
            first | exact ⟨pz_u1 (pz_u1 (pz_u1 (pz_u1 (pz_u1 (pz_u1 (pz_u1 (pz_u1 (pz_u1 (pz_u1 iv 2 o9_3) 129 j9_4) 130 a9_5) 131 b9_6) 132 c9_7) 134 l9_8) 135 e9_9) 138 n9_10) 139 w9_11) 140 d9_12, ⟨o9_3, j9_4, a9_5, b9_6, c9_7, l9_8, e9_9, n9_10, w9_11, d9_12, by rfl, by exact hci, by exact ho2⟩, lf_e (by rfl)⟩ | (exfalso; omega))
       · first
         | (exfalso; first | omega | contradiction)
         | (refine w_loc rfl ?_
            refine w_loc rfl ?_
            refine w_getR (q := 129) is_2 rf_2_3 ?_
            refine w_getI (v := j9_4 3) is_129 (by decide) rfl ?_
            refine w_ilt (fun h14 => ?_) (fun h14 => ?_)
            · first
              | (exfalso; first | omega | contradiction)
              | (refine pz_G_of pz_b136_29 ?_
                 refine w_loc rfl ?_
                 refine w_getR (q := 129) is_2 rf_2_3 ?_
                 refine w_loc rfl ?_
                 have hc15 : pz_R (pz_Sh L) 46 [.inr (.inl 129), .inl i] (pz_u1 (pz_u1 (pz_u1 (pz_u1 (pz_u1 (pz_u1 (pz_u1 (pz_u1 (pz_u1 (pz_u1 iv 2 o9_3) 129 j9_4) 130 a9_5) 131 b9_6) 132 c9_7) 134 l9_8) 135 e9_9) 138 n9_10) 139 w9_11) 140 d9_12) (.inl (some (.inl (e9_9 i.toNat)))) (pz_u1 (pz_u1 (pz_u1 (pz_u1 (pz_u1 (pz_u1 (pz_u1 (pz_u1 (pz_u1 (pz_u1 iv 2 o9_3) 129 j9_4) 130 a9_5) 131 b9_6) 132 c9_7) 134 l9_8) 135 e9_9) 138 n9_10) 139 w9_11) 140 d9_12) := s_X4_conflictBound i (by show 0 ≤ i ∧ i ≤ 39; omega)
                 refine w_call hc15 rfl (pz_cokI is_129 rfl) ?_
                 refine w_ret rfl ?_
                 first | exact ⟨pz_u1 (pz_u1 (pz_u1 (pz_u1 (pz_u1 (pz_u1 (pz_u1 (pz_u1 (pz_u1 (pz_u1 iv 2 o9_3) 129 j9_4) 130 a9_5) 131 b9_6) 132 c9_7) 134 l9_8) 135 e9_9) 138 n9_10) 139 w9_11) 140 d9_12, ⟨o9_3, j9_4, a9_5, b9_6, c9_7, l9_8, e9_9, n9_10, w9_11, d9_12, by rfl, by exact hci, by exact ho2⟩, lf_i (by exact q_cat_e (by omega) (by assumption) hCK) (by rfl)⟩ | (exfalso; omega))
            · first
              | (exfalso; first | omega | contradiction)
              | (refine w_nil ?_
                 refine pz_G_of pz_b136_19 ?_
                 refine w_thr (by decide) ?_
                 first | exact ⟨pz_u1 (pz_u1 (pz_u1 (pz_u1 (pz_u1 (pz_u1 (pz_u1 (pz_u1 (pz_u1 (pz_u1 iv 2 o9_3) 129 j9_4) 130 a9_5) 131 b9_6) 132 c9_7) 134 l9_8) 135 e9_9) 138 n9_10) 139 w9_11) 140 d9_12, ⟨o9_3, j9_4, a9_5, b9_6, c9_7, l9_8, e9_9, n9_10, w9_11, d9_12, by rfl, by exact hci, by exact ho2⟩, lf_e (by rfl)⟩ | (exfalso; omega))))
  · first
    | (exfalso; first | omega | contradiction)
    | (have hc16 := s_X10_needConflict_n (L := L) (iv := pz_u1 (pz_u1 (pz_u1 (pz_u1 (pz_u1 (pz_u1 (pz_u1 (pz_u1 (pz_u1 (pz_u1 iv 2 (iv 2)) 129 (iv 129)) 130 (iv 130)) 131 (iv 131)) 132 (iv 132)) 134 (iv 134)) 135 (iv 135)) 138 (iv 138)) 139 (iv 139)) 140 (iv 140)) (by show q_KR k; exact hk) (by show q_cE k (iv 3); exact hE) (by show q_cB k (iv 4) (iv 5) (iv 6) (iv 7) (iv 8) (iv 9); exact hB) (by show q_cS k (iv 10) (iv 11) (iv 12) (iv 13) (iv 14); exact hS) (by show q_cC k (iv 15) (iv 16); exact hC) (by show q_cL k (iv 25); exact hL) (by show q_CI k (iv 2) (iv 138) (iv 139) (iv 140) (iv 142) (iv 143) (iv 145) (iv 129) (iv 135); exact hci) (by show ¬ ¬ q_con k (fun _ => 0); exact h1)
       refine w_calleE hc16 rfl (pz_cokI is_2 rfl) rfl (fun iv9 h9 => ?_)
       obtain ⟨o9_17, j9_18, a9_19, b9_20, c9_21, l9_22, e9_23, n9_24, w9_25, d9_26, h9e, hci, ho2⟩ := h9
       have h9x : iv9 = pz_u1 (pz_u1 (pz_u1 (pz_u1 (pz_u1 (pz_u1 (pz_u1 (pz_u1 (pz_u1 (pz_u1 iv 2 o9_17) 129 j9_18) 130 a9_19) 131 b9_20) 132 c9_21) 134 l9_22) 135 e9_23) 138 n9_24) 139 w9_25) 140 d9_26 := h9e.trans (by rw [pz_u1_in (r := 2) (q := 140) (by decide)]; rw [pz_u1_in (r := 2) (q := 139) (by decide)]; rw [pz_u1_in (r := 2) (q := 138) (by decide)]; rw [pz_u1_in (r := 2) (q := 135) (by decide)]; rw [pz_u1_in (r := 2) (q := 134) (by decide)]; rw [pz_u1_in (r := 2) (q := 132) (by decide)]; rw [pz_u1_in (r := 2) (q := 131) (by decide)]; rw [pz_u1_in (r := 2) (q := 130) (by decide)]; rw [pz_u1_in (r := 2) (q := 129) (by decide)]; rw [pz_u1_top (r := 2)]; rw [pz_u1_in (r := 129) (q := 140) (by decide)]; rw [pz_u1_in (r := 129) (q := 139) (by decide)]; rw [pz_u1_in (r := 129) (q := 138) (by decide)]; rw [pz_u1_in (r := 129) (q := 135) (by decide)]; rw [pz_u1_in (r := 129) (q := 134) (by decide)]; rw [pz_u1_in (r := 129) (q := 132) (by decide)]; rw [pz_u1_in (r := 129) (q := 131) (by decide)]; rw [pz_u1_in (r := 129) (q := 130) (by decide)]; rw [pz_u1_top (r := 129)]; rw [pz_u1_in (r := 130) (q := 140) (by decide)]; rw [pz_u1_in (r := 130) (q := 139) (by decide)]; rw [pz_u1_in (r := 130) (q := 138) (by decide)]; rw [pz_u1_in (r := 130) (q := 135) (by decide)]; rw [pz_u1_in (r := 130) (q := 134) (by decide)]; rw [pz_u1_in (r := 130) (q := 132) (by decide)]; rw [pz_u1_in (r := 130) (q := 131) (by decide)]; rw [pz_u1_top (r := 130)]; rw [pz_u1_in (r := 131) (q := 140) (by decide)]; rw [pz_u1_in (r := 131) (q := 139) (by decide)]; rw [pz_u1_in (r := 131) (q := 138) (by decide)]; rw [pz_u1_in (r := 131) (q := 135) (by decide)]; rw [pz_u1_in (r := 131) (q := 134) (by decide)]; rw [pz_u1_in (r := 131) (q := 132) (by decide)]; rw [pz_u1_top (r := 131)]; rw [pz_u1_in (r := 132) (q := 140) (by decide)]; rw [pz_u1_in (r := 132) (q := 139) (by decide)]; rw [pz_u1_in (r := 132) (q := 138) (by decide)]; rw [pz_u1_in (r := 132) (q := 135) (by decide)]; rw [pz_u1_in (r := 132) (q := 134) (by decide)]; rw [pz_u1_top (r := 132)]; rw [pz_u1_in (r := 134) (q := 140) (by decide)]; rw [pz_u1_in (r := 134) (q := 139) (by decide)]; rw [pz_u1_in (r := 134) (q := 138) (by decide)]; rw [pz_u1_in (r := 134) (q := 135) (by decide)]; rw [pz_u1_top (r := 134)]; rw [pz_u1_in (r := 135) (q := 140) (by decide)]; rw [pz_u1_in (r := 135) (q := 139) (by decide)]; rw [pz_u1_in (r := 135) (q := 138) (by decide)]; rw [pz_u1_top (r := 135)]; rw [pz_u1_in (r := 138) (q := 140) (by decide)]; rw [pz_u1_in (r := 138) (q := 139) (by decide)]; rw [pz_u1_top (r := 138)]; rw [pz_u1_in (r := 139) (q := 140) (by decide)]; rw [pz_u1_top (r := 139)]; rw [pz_u1_top (r := 140)] <;> rfl)
       subst h9x
       replace hci : q_CI k o9_17 n9_24 w9_25 d9_26 (iv 142) (iv 143) (iv 145) j9_18 e9_23 := hci
       replace ho2 : o9_17 2 = (iv 2) 2 := ho2
       first | exact ⟨pz_u1 (pz_u1 (pz_u1 (pz_u1 (pz_u1 (pz_u1 (pz_u1 (pz_u1 (pz_u1 (pz_u1 iv 2 o9_17) 129 j9_18) 130 a9_19) 131 b9_20) 132 c9_21) 134 l9_22) 135 e9_23) 138 n9_24) 139 w9_25) 140 d9_26, ⟨o9_17, j9_18, a9_19, b9_20, c9_21, l9_22, e9_23, n9_24, w9_25, d9_26, by rfl, by exact hci, by exact ho2⟩, lf_e (by rfl)⟩ | (exfalso; omega))

theorem s_X10_conflictAt_2 {L : Nat} {iv : Nat → Nat → Int} (i : Int) {k : Nat → Int} (hk : q_KR k) (hE : q_cE k (iv 3)) (hB : q_cB k (iv 4) (iv 5) (iv 6) (iv 7) (iv 8) (iv 9)) (hS : q_cS k (iv 10) (iv 11) (iv 12) (iv 13) (iv 14)) (hC : q_cC k (iv 15) (iv 16)) (hA : q_cA k (iv 17) (iv 18) (iv 19) (iv 20)) (hO : q_cO k (iv 22) (iv 23) (iv 24)) (hL : q_cL k (iv 25)) (hP : q_cP k (iv 27)) (hci : q_CI k (iv 2) (iv 138) (iv 139) (iv 140) (iv 142) (iv 143) (iv 145) (iv 129) (iv 135)) (hcase0 : ¬ q_con k (fun _ => 0)) (hcase1 : ¬ (0 ≤ i ∧ i < q_cnt (q_kp k) (k 1))) : pz_RE (pz_Sh L) 136 [.inr (.inl 2), .inl i] iv (.inr 4) (fun iv9 => ∃ (o9 : Nat → Int) (j9 : Nat → Int) (a9 : Nat → Int) (b9 : Nat → Int) (c9 : Nat → Int) (l9 : Nat → Int) (e9 : Nat → Int) (n9 : Nat → Int) (w9 : Nat → Int) (d9 : Nat → Int), iv9 = pz_u1 (pz_u1 (pz_u1 (pz_u1 (pz_u1 (pz_u1 (pz_u1 (pz_u1 (pz_u1 (pz_u1 iv 2 o9) 129 j9) 130 a9) 131 b9) 132 c9) 134 l9) 135 e9) 138 n9) 139 w9) 140 d9 ∧ (q_CI k o9 n9 w9 d9 (iv 142) (iv 143) (iv 145) j9 e9) ∧ (o9 2 = (iv 2) 2)) := by
  intro dv cc ss
  have hk0 := hk.r0
  have hE0 := hE
  have hB0 := hB.1
  have hS0 := hS.1
  have hC0 := hC.1
  have hA0 := hA.1
  have hcr := q_cnt_r (q_kp k) (n := k 1) (by omega)
  refine pz_G_mem (iv2 := pz_u1 (pz_u1 (pz_u1 (pz_u1 (pz_u1 (pz_u1 (pz_u1 (pz_u1 (pz_u1 (pz_u1 iv 2 (iv 2)) 129 (iv 129)) 130 (iv 130)) 131 (iv 131)) 132 (iv 132)) 134 (iv 134)) 135 (iv 135)) 138 (iv 138)) 139 (iv 139)) 140 (iv 140)) (by exact ((((((((((pz_u1_self iv 2).symm).trans (pz_u1_self (pz_u1 iv 2 (iv 2)) 129).symm).trans (pz_u1_self (pz_u1 (pz_u1 iv 2 (iv 2)) 129 (iv 129)) 130).symm).trans (pz_u1_self (pz_u1 (pz_u1 (pz_u1 iv 2 (iv 2)) 129 (iv 129)) 130 (iv 130)) 131).symm).trans (pz_u1_self (pz_u1 (pz_u1 (pz_u1 (pz_u1 iv 2 (iv 2)) 129 (iv 129)) 130 (iv 130)) 131 (iv 131)) 132).symm).trans (pz_u1_self (pz_u1 (pz_u1 (pz_u1 (pz_u1 (pz_u1 iv 2 (iv 2)) 129 (iv 129)) 130 (iv 130)) 131 (iv 131)) 132 (iv 132)) 134).symm).trans (pz_u1_self (pz_u1 (pz_u1 (pz_u1 (pz_u1 (pz_u1 (pz_u1 iv 2 (iv 2)) 129 (iv 129)) 130 (iv 130)) 131 (iv 131)) 132 (iv 132)) 134 (iv 134)) 135).symm).trans (pz_u1_self (pz_u1 (pz_u1 (pz_u1 (pz_u1 (pz_u1 (pz_u1 (pz_u1 iv 2 (iv 2)) 129 (iv 129)) 130 (iv 130)) 131 (iv 131)) 132 (iv 132)) 134 (iv 134)) 135 (iv 135)) 138).symm).trans (pz_u1_self (pz_u1 (pz_u1 (pz_u1 (pz_u1 (pz_u1 (pz_u1 (pz_u1 (pz_u1 iv 2 (iv 2)) 129 (iv 129)) 130 (iv 130)) 131 (iv 131)) 132 (iv 132)) 134 (iv 134)) 135 (iv 135)) 138 (iv 138)) 139).symm).trans (pz_u1_self (pz_u1 (pz_u1 (pz_u1 (pz_u1 (pz_u1 (pz_u1 (pz_u1 (pz_u1 (pz_u1 iv 2 (iv 2)) 129 (iv 129)) 130 (iv 130)) 131 (iv 131)) 132 (iv 132)) 134 (iv 134)) 135 (iv 135)) 138 (iv 138)) 139 (iv 139)) 140).symm) ?_
  show pz_G 136 0 [some (.inr (.inl 2)), some (.inl i)] [] (pz_Sh L, pz_u1 (pz_u1 (pz_u1 (pz_u1 (pz_u1 (pz_u1 (pz_u1 (pz_u1 (pz_u1 (pz_u1 iv 2 (iv 2)) 129 (iv 129)) 130 (iv 130)) 131 (iv 131)) 132 (iv 132)) 134 (iv 134)) 135 (iv 135)) 138 (iv 138)) 139 (iv 139)) 140 (iv 140), dv, cc, ss) (pz_PE (pz_Sh L) (.inr 4) (fun iv9 => ∃ (o9 : Nat → Int) (j9 : Nat → Int) (a9 : Nat → Int) (b9 : Nat → Int) (c9 : Nat → Int) (l9 : Nat → Int) (e9 : Nat → Int) (n9 : Nat → Int) (w9 : Nat → Int) (d9 : Nat → Int), iv9 = pz_u1 (pz_u1 (pz_u1 (pz_u1 (pz_u1 (pz_u1 (pz_u1 (pz_u1 (pz_u1 (pz_u1 iv 2 o9) 129 j9) 130 a9) 131 b9) 132 c9) 134 l9) 135 e9) 138 n9) 139 w9) 140 d9 ∧ (q_CI k o9 n9 w9 d9 (iv 142) (iv 143) (iv 145) j9 e9) ∧ (o9 2 = (iv 2) 2)) dv cc ss)
  refine pz_G_of pz_b136_0 ?_
  refine w_loc rfl ?_
  by_cases h1 : ¬ q_con k (fun _ => 0)
  · first
    | (exfalso; first | omega | contradiction)
    | (have hc2 := s_X10_needConflict_y (L := L) (iv := pz_u1 (pz_u1 (pz_u1 (pz_u1 (pz_u1 (pz_u1 (pz_u1 (pz_u1 (pz_u1 (pz_u1 iv 2 (iv 2)) 129 (iv 129)) 130 (iv 130)) 131 (iv 131)) 132 (iv 132)) 134 (iv 134)) 135 (iv 135)) 138 (iv 138)) 139 (iv 139)) 140 (iv 140)) (by show q_KR k; exact hk) (by show q_cE k (iv 3); exact hE) (by show q_cB k (iv 4) (iv 5) (iv 6) (iv 7) (iv 8) (iv 9); exact hB) (by show q_cS k (iv 10) (iv 11) (iv 12) (iv 13) (iv 14); exact hS) (by show q_cC k (iv 15) (iv 16); exact hC) (by show q_cL k (iv 25); exact hL) (by show q_CI k (iv 2) (iv 138) (iv 139) (iv 140) (iv 142) (iv 143) (iv 145) (iv 129) (iv 135); exact hci) (by show ¬ q_con k (fun _ => 0); exact h1)
       refine w_callvE hc2 rfl (pz_cokI is_2 rfl) (fun iv9 h9 => ?_)
       obtain ⟨o9_3, j9_4, a9_5, b9_6, c9_7, l9_8, e9_9, n9_10, w9_11, d9_12, h9e, hci, hCK, ho2⟩ := h9
       have h9x : iv9 = pz_u1 (pz_u1 (pz_u1 (pz_u1 (pz_u1 (pz_u1 (pz_u1 (pz_u1 (pz_u1 (pz_u1 iv 2 o9_3) 129 j9_4) 130 a9_5) 131 b9_6) 132 c9_7) 134 l9_8) 135 e9_9) 138 n9_10) 139 w9_11) 140 d9_12 := h9e.trans (by rw [pz_u1_in (r := 2) (q := 140) (by decide)]; rw [pz_u1_in (r := 2) (q := 139) (by decide)]; rw [pz_u1_in (r := 2) (q := 138) (by decide)]; rw [pz_u1_in (r := 2) (q := 135) (by decide)]; rw [pz_u1_in (r := 2) (q := 134) (by decide)]; rw [pz_u1_in (r := 2) (q := 132) (by decide)]; rw [pz_u1_in (r := 2) (q := 131) (by decide)]; rw [pz_u1_in (r := 2) (q := 130) (by decide)]; rw [pz_u1_in (r := 2) (q := 129) (by decide)]; rw [pz_u1_top (r := 2)]; rw [pz_u1_in (r := 129) (q := 140) (by decide)]; rw [pz_u1_in (r := 129) (q := 139) (by decide)]; rw [pz_u1_in (r := 129) (q := 138) (by decide)]; rw [pz_u1_in (r := 129) (q := 135) (by decide)]; rw [pz_u1_in (r := 129) (q := 134) (by decide)]; rw [pz_u1_in (r := 129) (q := 132) (by decide)]; rw [pz_u1_in (r := 129) (q := 131) (by decide)]; rw [pz_u1_in (r := 129) (q := 130) (by decide)]; rw [pz_u1_top (r := 129)]; rw [pz_u1_in (r := 130) (q := 140) (by decide)]; rw [pz_u1_in (r := 130) (q := 139) (by decide)]; rw [pz_u1_in (r := 130) (q := 138) (by decide)]; rw [pz_u1_in (r := 130) (q := 135) (by decide)]; rw [pz_u1_in (r := 130) (q := 134) (by decide)]; rw [pz_u1_in (r := 130) (q := 132) (by decide)]; rw [pz_u1_in (r := 130) (q := 131) (by decide)]; rw [pz_u1_top (r := 130)]; rw [pz_u1_in (r := 131) (q := 140) (by decide)]; rw [pz_u1_in (r := 131) (q := 139) (by decide)]; rw [pz_u1_in (r := 131) (q := 138) (by decide)]; rw [pz_u1_in (r := 131) (q := 135) (by decide)]; rw [pz_u1_in (r := 131) (q := 134) (by decide)]; rw [pz_u1_in (r := 131) (q := 132) (by decide)]; rw [pz_u1_top (r := 131)]; rw [pz_u1_in (r := 132) (q := 140) (by decide)]; rw [pz_u1_in (r := 132) (q := 139) (by decide)]; rw [pz_u1_in (r := 132) (q := 138) (by decide)]; rw [pz_u1_in (r := 132) (q := 135) (by decide)]; rw [pz_u1_in (r := 132) (q := 134) (by decide)]; rw [pz_u1_top (r := 132)]; rw [pz_u1_in (r := 134) (q := 140) (by decide)]; rw [pz_u1_in (r := 134) (q := 139) (by decide)]; rw [pz_u1_in (r := 134) (q := 138) (by decide)]; rw [pz_u1_in (r := 134) (q := 135) (by decide)]; rw [pz_u1_top (r := 134)]; rw [pz_u1_in (r := 135) (q := 140) (by decide)]; rw [pz_u1_in (r := 135) (q := 139) (by decide)]; rw [pz_u1_in (r := 135) (q := 138) (by decide)]; rw [pz_u1_top (r := 135)]; rw [pz_u1_in (r := 138) (q := 140) (by decide)]; rw [pz_u1_in (r := 138) (q := 139) (by decide)]; rw [pz_u1_top (r := 138)]; rw [pz_u1_in (r := 139) (q := 140) (by decide)]; rw [pz_u1_top (r := 139)]; rw [pz_u1_top (r := 140)] <;> rfl)
       subst h9x
       replace hci : q_CI k o9_3 n9_10 w9_11 d9_12 (iv 142) (iv 143) (iv 145) j9_4 e9_9 := hci
       replace hCK : q_CK k j9_4 e9_9 := hCK
       replace ho2 : o9_3 2 = (iv 2) 2 := ho2
       have hcn1 := hCK.2.1
       refine w_loc rfl ?_
       refine w_zlt (fun h13 => ?_) (fun h13 => ?_)
       · first
         | (exfalso; first | omega | contradiction)
         | (refine pz_G_of pz_b136_19 ?_
            refine w_thr (by decide) ?_
            first | exact ⟨pz_u1 (pz_u1 (pz_u1 (pz_u1 (pz_u1 (pz_u1 (pz_u1 (pz_u1 (pz_u1 (pz_u1 iv 2 o9_3) 129 j9_4) 130 a9_5) 131 b9_6) 132 c9_7) 134 l9_8) 135 e9_9) 138 n9_10) 139 w9_11) 140 d9_12, ⟨o9_3, j9_4, a9_5, b9_6, c9_7, l9_8, e9_9, n9_10, w9_11, d9_12, by rfl, by exact hci, by exact ho2⟩, lf_e (by rfl)⟩ | (exfalso; omega))
       · first
         | (exfalso; first | omega | contradiction)
         | (refine w_loc rfl ?_
            refine w_loc rfl ?_
            refine w_getR (q := 129) is_2 rf_2_3 ?_
            refine w_getI (v := j9_4 3) is_129 (by decide) rfl ?_
            refine w_ilt (fun h14 => ?_) (fun h14 => ?_)
            · first
              | (exfalso; first | omega | contradiction)
              | (refine pz_G_of pz_b136_29 ?_
                 refine w_loc rfl ?_
                 refine w_getR (q := 129) is_2 rf_2_3 ?_
                 refine w_loc rfl ?_
                 have hc15 : pz_R (pz_Sh L) 46 [.inr (.inl 129), .inl i] (pz_u1 (pz_u1 (pz_u1 (pz_u1 (pz_u1 (pz_u1 (pz_u1 (pz_u1 (pz_u1 (pz_u1 iv 2 o9_3) 129 j9_4) 130 a9_5) 131 b9_6) 132 c9_7) 134 l9_8) 135 e9_9) 138 n9_10) 139 w9_11) 140 d9_12) (.inl (some (.inl (e9_9 i.toNat)))) (pz_u1 (pz_u1 (pz_u1 (pz_u1 (pz_u1 (pz_u1 (pz_u1 (pz_u1 (pz_u1 (pz_u1 iv 2 o9_3) 129 j9_4) 130 a9_5) 131 b9_6) 132 c9_7) 134 l9_8) 135 e9_9) 138 n9_10) 139 w9_11) 140 d9_12) := s_X4_conflictBound i (by show 0 ≤ i ∧ i ≤ 39; omega)
                 refine w_call hc15 rfl (pz_cokI is_129 rfl) ?_
                 refine w_ret rfl ?_
                 first | exact ⟨pz_u1 (pz_u1 (pz_u1 (pz_u1 (pz_u1 (pz_u1 (pz_u1 (pz_u1 (pz_u1 (pz_u1 iv 2 o9_3) 129 j9_4) 130 a9_5) 131 b9_6) 132 c9_7) 134 l9_8) 135 e9_9) 138 n9_10) 139 w9_11) 140 d9_12, ⟨o9_3, j9_4, a9_5, b9_6, c9_7, l9_8, e9_9, n9_10, w9_11, d9_12, by rfl, by exact hci, by exact ho2⟩, lf_i (by exact q_cat_e (by omega) (by assumption) hCK) (by rfl)⟩ | (exfalso; omega))
            · first
              | (exfalso; first | omega | contradiction)
              | (refine w_nil ?_
                 refine pz_G_of pz_b136_19 ?_
                 refine w_thr (by decide) ?_
                 first | exact ⟨pz_u1 (pz_u1 (pz_u1 (pz_u1 (pz_u1 (pz_u1 (pz_u1 (pz_u1 (pz_u1 (pz_u1 iv 2 o9_3) 129 j9_4) 130 a9_5) 131 b9_6) 132 c9_7) 134 l9_8) 135 e9_9) 138 n9_10) 139 w9_11) 140 d9_12, ⟨o9_3, j9_4, a9_5, b9_6, c9_7, l9_8, e9_9, n9_10, w9_11, d9_12, by rfl, by exact hci, by exact ho2⟩, lf_e (by rfl)⟩ | (exfalso; omega))))
  · first
    | (exfalso; first | omega | contradiction)
    | (have hc16 := s_X10_needConflict_n (L := L) (iv := pz_u1 (pz_u1 (pz_u1 (pz_u1 (pz_u1 (pz_u1 (pz_u1 (pz_u1 (pz_u1 (pz_u1 iv 2 (iv 2)) 129 (iv 129)) 130 (iv 130)) 131 (iv 131)) 132 (iv 132)) 134 (iv 134)) 135 (iv 135)) 138 (iv 138)) 139 (iv 139)) 140 (iv 140)) (by show q_KR k; exact hk) (by show q_cE k (iv 3); exact hE) (by show q_cB k (iv 4) (iv 5) (iv 6) (iv 7) (iv 8) (iv 9); exact hB) (by show q_cS k (iv 10) (iv 11) (iv 12) (iv 13) (iv 14); exact hS) (by show q_cC k (iv 15) (iv 16); exact hC) (by show q_cL k (iv 25); exact hL) (by show q_CI k (iv 2) (iv 138) (iv 139) (iv 140) (iv 142) (iv 143) (iv 145) (iv 129) (iv 135); exact hci) (by show ¬ ¬ q_con k (fun _ => 0); exact h1)
       refine w_calleE hc16 rfl (pz_cokI is_2 rfl) rfl (fun iv9 h9 => ?_)
       obtain ⟨o9_17, j9_18, a9_19, b9_20, c9_21, l9_22, e9_23, n9_24, w9_25, d9_26, h9e, hci, ho2⟩ := h9
       have h9x : iv9 = pz_u1 (pz_u1 (pz_u1 (pz_u1 (pz_u1 (pz_u1 (pz_u1 (pz_u1 (pz_u1 (pz_u1 iv 2 o9_17) 129 j9_18) 130 a9_19) 131 b9_20) 132 c9_21) 134 l9_22) 135 e9_23) 138 n9_24) 139 w9_25) 140 d9_26 := h9e.trans (by rw [pz_u1_in (r := 2) (q := 140) (by decide)]; rw [pz_u1_in (r := 2) (q := 139) (by decide)]; rw [pz_u1_in (r := 2) (q := 138) (by decide)]; rw [pz_u1_in (r := 2) (q := 135) (by decide)]; rw [pz_u1_in (r := 2) (q := 134) (by decide)]; rw [pz_u1_in (r := 2) (q := 132) (by decide)]; rw [pz_u1_in (r := 2) (q := 131) (by decide)]; rw [pz_u1_in (r := 2) (q := 130) (by decide)]; rw [pz_u1_in (r := 2) (q := 129) (by decide)]; rw [pz_u1_top (r := 2)]; rw [pz_u1_in (r := 129) (q := 140) (by decide)]; rw [pz_u1_in (r := 129) (q := 139) (by decide)]; rw [pz_u1_in (r := 129) (q := 138) (by decide)]; rw [pz_u1_in (r := 129) (q := 135) (by decide)]; rw [pz_u1_in (r := 129) (q := 134) (by decide)]; rw [pz_u1_in (r := 129) (q := 132) (by decide)]; rw [pz_u1_in (r := 129) (q := 131) (by decide)]; rw [pz_u1_in (r := 129) (q := 130) (by decide)]; rw [pz_u1_top (r := 129)]; rw [pz_u1_in (r := 130) (q := 140) (by decide)]; rw [pz_u1_in (r := 130) (q := 139) (by decide)]; rw [pz_u1_in (r := 130) (q := 138) (by decide)]; rw [pz_u1_in (r := 130) (q := 135) (by decide)]; rw [pz_u1_in (r := 130) (q := 134) (by decide)]; rw [pz_u1_in (r := 130) (q := 132) (by decide)]; rw [pz_u1_in (r := 130) (q := 131) (by decide)]; rw [pz_u1_top (r := 130)]; rw [pz_u1_in (r := 131) (q := 140) (by decide)]; rw [pz_u1_in (r := 131) (q := 139) (by decide)]; rw [pz_u1_in (r := 131) (q := 138) (by decide)]; rw [pz_u1_in (r := 131) (q := 135) (by decide)]; rw [pz_u1_in (r := 131) (q := 134) (by decide)]; rw [pz_u1_in (r := 131) (q := 132) (by decide)]; rw [pz_u1_top (r := 131)]; rw [pz_u1_in (r := 132) (q := 140) (by decide)]; rw [pz_u1_in (r := 132) (q := 139) (by decide)]; rw [pz_u1_in (r := 132) (q := 138) (by decide)]; rw [pz_u1_in (r := 132) (q := 135) (by decide)]; rw [pz_u1_in (r := 132) (q := 134) (by decide)]; rw [pz_u1_top (r := 132)]; rw [pz_u1_in (r := 134) (q := 140) (by decide)]; rw [pz_u1_in (r := 134) (q := 139) (by decide)]; rw [pz_u1_in (r := 134) (q := 138) (by decide)]; rw [pz_u1_in (r := 134) (q := 135) (by decide)]; rw [pz_u1_top (r := 134)]; rw [pz_u1_in (r := 135) (q := 140) (by decide)]; rw [pz_u1_in (r := 135) (q := 139) (by decide)]; rw [pz_u1_in (r := 135) (q := 138) (by decide)]; rw [pz_u1_top (r := 135)]; rw [pz_u1_in (r := 138) (q := 140) (by decide)]; rw [pz_u1_in (r := 138) (q := 139) (by decide)]; rw [pz_u1_top (r := 138)]; rw [pz_u1_in (r := 139) (q := 140) (by decide)]; rw [pz_u1_top (r := 139)]; rw [pz_u1_top (r := 140)] <;> rfl)
       subst h9x
       replace hci : q_CI k o9_17 n9_24 w9_25 d9_26 (iv 142) (iv 143) (iv 145) j9_18 e9_23 := hci
       replace ho2 : o9_17 2 = (iv 2) 2 := ho2
       first | exact ⟨pz_u1 (pz_u1 (pz_u1 (pz_u1 (pz_u1 (pz_u1 (pz_u1 (pz_u1 (pz_u1 (pz_u1 iv 2 o9_17) 129 j9_18) 130 a9_19) 131 b9_20) 132 c9_21) 134 l9_22) 135 e9_23) 138 n9_24) 139 w9_25) 140 d9_26, ⟨o9_17, j9_18, a9_19, b9_20, c9_21, l9_22, e9_23, n9_24, w9_25, d9_26, by rfl, by exact hci, by exact ho2⟩, lf_e (by rfl)⟩ | (exfalso; omega))

theorem s_X10_conflictAt_0 {L : Nat} {iv : Nat → Nat → Int} (i : Int) {k : Nat → Int} (hk : q_KR k) (hE : q_cE k (iv 3)) (hB : q_cB k (iv 4) (iv 5) (iv 6) (iv 7) (iv 8) (iv 9)) (hS : q_cS k (iv 10) (iv 11) (iv 12) (iv 13) (iv 14)) (hC : q_cC k (iv 15) (iv 16)) (hA : q_cA k (iv 17) (iv 18) (iv 19) (iv 20)) (hO : q_cO k (iv 22) (iv 23) (iv 24)) (hL : q_cL k (iv 25)) (hP : q_cP k (iv 27)) (hci : q_CI k (iv 2) (iv 138) (iv 139) (iv 140) (iv 142) (iv 143) (iv 145) (iv 129) (iv 135)) (hcase0 : ¬ q_con k (fun _ => 0)) (hcase1 : 0 ≤ i ∧ i < q_cnt (q_kp k) (k 1)) : pz_RE (pz_Sh L) 136 [.inr (.inl 2), .inl i] iv (.inl (some (.inl (q_cat k i)))) (fun iv9 => ∃ (o9 : Nat → Int) (j9 : Nat → Int) (a9 : Nat → Int) (b9 : Nat → Int) (c9 : Nat → Int) (l9 : Nat → Int) (e9 : Nat → Int) (n9 : Nat → Int) (w9 : Nat → Int) (d9 : Nat → Int), iv9 = pz_u1 (pz_u1 (pz_u1 (pz_u1 (pz_u1 (pz_u1 (pz_u1 (pz_u1 (pz_u1 (pz_u1 iv 2 o9) 129 j9) 130 a9) 131 b9) 132 c9) 134 l9) 135 e9) 138 n9) 139 w9) 140 d9 ∧ (q_CI k o9 n9 w9 d9 (iv 142) (iv 143) (iv 145) j9 e9) ∧ (o9 2 = (iv 2) 2)) := by
  intro dv cc ss
  have hk0 := hk.r0
  have hE0 := hE
  have hB0 := hB.1
  have hS0 := hS.1
  have hC0 := hC.1
  have hA0 := hA.1
  have hcr := q_cnt_r (q_kp k) (n := k 1) (by omega)
  refine pz_G_mem (iv2 := pz_u1 (pz_u1 (pz_u1 (pz_u1 (pz_u1 (pz_u1 (pz_u1 (pz_u1 (pz_u1 (pz_u1 iv 2 (iv 2)) 129 (iv 129)) 130 (iv 130)) 131 (iv 131)) 132 (iv 132)) 134 (iv 134)) 135 (iv 135)) 138 (iv 138)) 139 (iv 139)) 140 (iv 140)) (by exact ((((((((((pz_u1_self iv 2).symm).trans (pz_u1_self (pz_u1 iv 2 (iv 2)) 129).symm).trans (pz_u1_self (pz_u1 (pz_u1 iv 2 (iv 2)) 129 (iv 129)) 130).symm).trans (pz_u1_self (pz_u1 (pz_u1 (pz_u1 iv 2 (iv 2)) 129 (iv 129)) 130 (iv 130)) 131).symm).trans (pz_u1_self (pz_u1 (pz_u1 (pz_u1 (pz_u1 iv 2 (iv 2)) 129 (iv 129)) 130 (iv 130)) 131 (iv 131)) 132).symm).trans (pz_u1_self (pz_u1 (pz_u1 (pz_u1 (pz_u1 (pz_u1 iv 2 (iv 2)) 129 (iv 129)) 130 (iv 130)) 131 (iv 131)) 132 (iv 132)) 134).symm).trans (pz_u1_self (pz_u1 (pz_u1 (pz_u1 (pz_u1 (pz_u1 (pz_u1 iv 2 (iv 2)) 129 (iv 129)) 130 (iv 130)) 131 (iv 131)) 132 (iv 132)) 134 (iv 134)) 135).symm).trans (pz_u1_self (pz_u1 (pz_u1 (pz_u1 (pz_u1 (pz_u1 (pz_u1 (pz_u1 iv 2 (iv 2)) 129 (iv 129)) 130 (iv 130)) 131 (iv 131)) 132 (iv 132)) 134 (iv 134)) 135 (iv 135)) 138).symm).trans (pz_u1_self (pz_u1 (pz_u1 (pz_u1 (pz_u1 (pz_u1 (pz_u1 (pz_u1 (pz_u1 iv 2 (iv 2)) 129 (iv 129)) 130 (iv 130)) 131 (iv 131)) 132 (iv 132)) 134 (iv 134)) 135 (iv 135)) 138 (iv 138)) 139).symm).trans (pz_u1_self (pz_u1 (pz_u1 (pz_u1 (pz_u1 (pz_u1 (pz_u1 (pz_u1 (pz_u1 (pz_u1 iv 2 (iv 2)) 129 (iv 129)) 130 (iv 130)) 131 (iv 131)) 132 (iv 132)) 134 (iv 134)) 135 (iv 135)) 138 (iv 138)) 139 (iv 139)) 140).symm) ?_
  show pz_G 136 0 [some (.inr (.inl 2)), some (.inl i)] [] (pz_Sh L, pz_u1 (pz_u1 (pz_u1 (pz_u1 (pz_u1 (pz_u1 (pz_u1 (pz_u1 (pz_u1 (pz_u1 iv 2 (iv 2)) 129 (iv 129)) 130 (iv 130)) 131 (iv 131)) 132 (iv 132)) 134 (iv 134)) 135 (iv 135)) 138 (iv 138)) 139 (iv 139)) 140 (iv 140), dv, cc, ss) (pz_PE (pz_Sh L) (.inl (some (.inl (q_cat k i)))) (fun iv9 => ∃ (o9 : Nat → Int) (j9 : Nat → Int) (a9 : Nat → Int) (b9 : Nat → Int) (c9 : Nat → Int) (l9 : Nat → Int) (e9 : Nat → Int) (n9 : Nat → Int) (w9 : Nat → Int) (d9 : Nat → Int), iv9 = pz_u1 (pz_u1 (pz_u1 (pz_u1 (pz_u1 (pz_u1 (pz_u1 (pz_u1 (pz_u1 (pz_u1 iv 2 o9) 129 j9) 130 a9) 131 b9) 132 c9) 134 l9) 135 e9) 138 n9) 139 w9) 140 d9 ∧ (q_CI k o9 n9 w9 d9 (iv 142) (iv 143) (iv 145) j9 e9) ∧ (o9 2 = (iv 2) 2)) dv cc ss)
  refine pz_G_of pz_b136_0 ?_
  refine w_loc rfl ?_
  by_cases h1 : ¬ q_con k (fun _ => 0)
  · first
    | (exfalso; first | omega | contradiction)
    | (have hc2 := s_X10_needConflict_y (L := L) (iv := pz_u1 (pz_u1 (pz_u1 (pz_u1 (pz_u1 (pz_u1 (pz_u1 (pz_u1 (pz_u1 (pz_u1 iv 2 (iv 2)) 129 (iv 129)) 130 (iv 130)) 131 (iv 131)) 132 (iv 132)) 134 (iv 134)) 135 (iv 135)) 138 (iv 138)) 139 (iv 139)) 140 (iv 140)) (by show q_KR k; exact hk) (by show q_cE k (iv 3); exact hE) (by show q_cB k (iv 4) (iv 5) (iv 6) (iv 7) (iv 8) (iv 9); exact hB) (by show q_cS k (iv 10) (iv 11) (iv 12) (iv 13) (iv 14); exact hS) (by show q_cC k (iv 15) (iv 16); exact hC) (by show q_cL k (iv 25); exact hL) (by show q_CI k (iv 2) (iv 138) (iv 139) (iv 140) (iv 142) (iv 143) (iv 145) (iv 129) (iv 135); exact hci) (by show ¬ q_con k (fun _ => 0); exact h1)
       refine w_callvE hc2 rfl (pz_cokI is_2 rfl) (fun iv9 h9 => ?_)
       obtain ⟨o9_3, j9_4, a9_5, b9_6, c9_7, l9_8, e9_9, n9_10, w9_11, d9_12, h9e, hci, hCK, ho2⟩ := h9
       have h9x : iv9 = pz_u1 (pz_u1 (pz_u1 (pz_u1 (pz_u1 (pz_u1 (pz_u1 (pz_u1 (pz_u1 (pz_u1 iv 2 o9_3) 129 j9_4) 130 a9_5) 131 b9_6) 132 c9_7) 134 l9_8) 135 e9_9) 138 n9_10) 139 w9_11) 140 d9_12 := h9e.trans (by rw [pz_u1_in (r := 2) (q := 140) (by decide)]; rw [pz_u1_in (r := 2) (q := 139) (by decide)]; rw [pz_u1_in (r := 2) (q := 138) (by decide)]; rw [pz_u1_in (r := 2) (q := 135) (by decide)]; rw [pz_u1_in (r := 2) (q := 134) (by decide)]; rw [pz_u1_in (r := 2) (q := 132) (by decide)]; rw [pz_u1_in (r := 2) (q := 131) (by decide)]; rw [pz_u1_in (r := 2) (q := 130) (by decide)]; rw [pz_u1_in (r := 2) (q := 129) (by decide)]; rw [pz_u1_top (r := 2)]; rw [pz_u1_in (r := 129) (q := 140) (by decide)]; rw [pz_u1_in (r := 129) (q := 139) (by decide)]; rw [pz_u1_in (r := 129) (q := 138) (by decide)]; rw [pz_u1_in (r := 129) (q := 135) (by decide)]; rw [pz_u1_in (r := 129) (q := 134) (by decide)]; rw [pz_u1_in (r := 129) (q := 132) (by decide)]; rw [pz_u1_in (r := 129) (q := 131) (by decide)]; rw [pz_u1_in (r := 129) (q := 130) (by decide)]; rw [pz_u1_top (r := 129)]; rw [pz_u1_in (r := 130) (q := 140) (by decide)]; rw [pz_u1_in (r := 130) (q := 139) (by decide)]; rw [pz_u1_in (r := 130) (q := 138) (by decide)]; rw [pz_u1_in (r := 130) (q := 135) (by decide)]; rw [pz_u1_in (r := 130) (q := 134) (by decide)]; rw [pz_u1_in (r := 130) (q := 132) (by decide)]; rw [pz_u1_in (r := 130) (q := 131) (by decide)]; rw [pz_u1_top (r := 130)]; rw [pz_u1_in (r := 131) (q := 140) (by decide)]; rw [pz_u1_in (r := 131) (q := 139) (by decide)]; rw [pz_u1_in (r := 131) (q := 138) (by decide)]; rw [pz_u1_in (r := 131) (q := 135) (by decide)]; rw [pz_u1_in (r := 131) (q := 134) (by decide)]; rw [pz_u1_in (r := 131) (q := 132) (by decide)]; rw [pz_u1_top (r := 131)]; rw [pz_u1_in (r := 132) (q := 140) (by decide)]; rw [pz_u1_in (r := 132) (q := 139) (by decide)]; rw [pz_u1_in (r := 132) (q := 138) (by decide)]; rw [pz_u1_in (r := 132) (q := 135) (by decide)]; rw [pz_u1_in (r := 132) (q := 134) (by decide)]; rw [pz_u1_top (r := 132)]; rw [pz_u1_in (r := 134) (q := 140) (by decide)]; rw [pz_u1_in (r := 134) (q := 139) (by decide)]; rw [pz_u1_in (r := 134) (q := 138) (by decide)]; rw [pz_u1_in (r := 134) (q := 135) (by decide)]; rw [pz_u1_top (r := 134)]; rw [pz_u1_in (r := 135) (q := 140) (by decide)]; rw [pz_u1_in (r := 135) (q := 139) (by decide)]; rw [pz_u1_in (r := 135) (q := 138) (by decide)]; rw [pz_u1_top (r := 135)]; rw [pz_u1_in (r := 138) (q := 140) (by decide)]; rw [pz_u1_in (r := 138) (q := 139) (by decide)]; rw [pz_u1_top (r := 138)]; rw [pz_u1_in (r := 139) (q := 140) (by decide)]; rw [pz_u1_top (r := 139)]; rw [pz_u1_top (r := 140)] <;> rfl)
       subst h9x
       replace hci : q_CI k o9_3 n9_10 w9_11 d9_12 (iv 142) (iv 143) (iv 145) j9_4 e9_9 := hci
       replace hCK : q_CK k j9_4 e9_9 := hCK
       replace ho2 : o9_3 2 = (iv 2) 2 := ho2
       have hcn1 := hCK.2.1
       refine w_loc rfl ?_
       refine w_zlt (fun h13 => ?_) (fun h13 => ?_)
       · first
         | (exfalso; first | omega | contradiction)
         | (refine pz_G_of pz_b136_19 ?_
            refine w_thr (by decide) ?_
            first | exact ⟨pz_u1 (pz_u1 (pz_u1 (pz_u1 (pz_u1 (pz_u1 (pz_u1 (pz_u1 (pz_u1 (pz_u1 iv 2 o9_3) 129 j9_4) 130 a9_5) 131 b9_6) 132 c9_7) 134 l9_8) 135 e9_9) 138 n9_10) 139 w9_11) 140 d9_12, ⟨o9_3, j9_4, a9_5, b9_6, c9_7, l9_8, e9_9, n9_10, w9_11, d9_12, by rfl, by exact hci, by exact ho2⟩, lf_e (by rfl)⟩ | (exfalso; omega))
       · first
         | (exfalso; first | omega | contradiction)
         | (refine w_loc rfl ?_
            refine w_loc rfl ?_
            refine w_getR (q := 129) is_2 rf_2_3 ?_
            refine w_getI (v := j9_4 3) is_129 (by decide) rfl ?_
            refine w_ilt (fun h14 => ?_) (fun h14 => ?_)
            · first
              | (exfalso; first | omega | contradiction)
              | (refine pz_G_of pz_b136_29 ?_
                 refine w_loc rfl ?_
                 refine w_getR (q := 129) is_2 rf_2_3 ?_
                 refine w_loc rfl ?_
                 have hc15 : pz_R (pz_Sh L) 46 [.inr (.inl 129), .inl i] (pz_u1 (pz_u1 (pz_u1 (pz_u1 (pz_u1 (pz_u1 (pz_u1 (pz_u1 (pz_u1 (pz_u1 iv 2 o9_3) 129 j9_4) 130 a9_5) 131 b9_6) 132 c9_7) 134 l9_8) 135 e9_9) 138 n9_10) 139 w9_11) 140 d9_12) (.inl (some (.inl (e9_9 i.toNat)))) (pz_u1 (pz_u1 (pz_u1 (pz_u1 (pz_u1 (pz_u1 (pz_u1 (pz_u1 (pz_u1 (pz_u1 iv 2 o9_3) 129 j9_4) 130 a9_5) 131 b9_6) 132 c9_7) 134 l9_8) 135 e9_9) 138 n9_10) 139 w9_11) 140 d9_12) := s_X4_conflictBound i (by show 0 ≤ i ∧ i ≤ 39; omega)
                 refine w_call hc15 rfl (pz_cokI is_129 rfl) ?_
                 refine w_ret rfl ?_
                 first | exact ⟨pz_u1 (pz_u1 (pz_u1 (pz_u1 (pz_u1 (pz_u1 (pz_u1 (pz_u1 (pz_u1 (pz_u1 iv 2 o9_3) 129 j9_4) 130 a9_5) 131 b9_6) 132 c9_7) 134 l9_8) 135 e9_9) 138 n9_10) 139 w9_11) 140 d9_12, ⟨o9_3, j9_4, a9_5, b9_6, c9_7, l9_8, e9_9, n9_10, w9_11, d9_12, by rfl, by exact hci, by exact ho2⟩, lf_i (by exact q_cat_e (by omega) (by assumption) hCK) (by rfl)⟩ | (exfalso; omega))
            · first
              | (exfalso; first | omega | contradiction)
              | (refine w_nil ?_
                 refine pz_G_of pz_b136_19 ?_
                 refine w_thr (by decide) ?_
                 first | exact ⟨pz_u1 (pz_u1 (pz_u1 (pz_u1 (pz_u1 (pz_u1 (pz_u1 (pz_u1 (pz_u1 (pz_u1 iv 2 o9_3) 129 j9_4) 130 a9_5) 131 b9_6) 132 c9_7) 134 l9_8) 135 e9_9) 138 n9_10) 139 w9_11) 140 d9_12, ⟨o9_3, j9_4, a9_5, b9_6, c9_7, l9_8, e9_9, n9_10, w9_11, d9_12, by rfl, by exact hci, by exact ho2⟩, lf_e (by rfl)⟩ | (exfalso; omega))))
  · first
    | (exfalso; first | omega | contradiction)
    | (have hc16 := s_X10_needConflict_n (L := L) (iv := pz_u1 (pz_u1 (pz_u1 (pz_u1 (pz_u1 (pz_u1 (pz_u1 (pz_u1 (pz_u1 (pz_u1 iv 2 (iv 2)) 129 (iv 129)) 130 (iv 130)) 131 (iv 131)) 132 (iv 132)) 134 (iv 134)) 135 (iv 135)) 138 (iv 138)) 139 (iv 139)) 140 (iv 140)) (by show q_KR k; exact hk) (by show q_cE k (iv 3); exact hE) (by show q_cB k (iv 4) (iv 5) (iv 6) (iv 7) (iv 8) (iv 9); exact hB) (by show q_cS k (iv 10) (iv 11) (iv 12) (iv 13) (iv 14); exact hS) (by show q_cC k (iv 15) (iv 16); exact hC) (by show q_cL k (iv 25); exact hL) (by show q_CI k (iv 2) (iv 138) (iv 139) (iv 140) (iv 142) (iv 143) (iv 145) (iv 129) (iv 135); exact hci) (by show ¬ ¬ q_con k (fun _ => 0); exact h1)
       refine w_calleE hc16 rfl (pz_cokI is_2 rfl) rfl (fun iv9 h9 => ?_)
       obtain ⟨o9_17, j9_18, a9_19, b9_20, c9_21, l9_22, e9_23, n9_24, w9_25, d9_26, h9e, hci, ho2⟩ := h9
       have h9x : iv9 = pz_u1 (pz_u1 (pz_u1 (pz_u1 (pz_u1 (pz_u1 (pz_u1 (pz_u1 (pz_u1 (pz_u1 iv 2 o9_17) 129 j9_18) 130 a9_19) 131 b9_20) 132 c9_21) 134 l9_22) 135 e9_23) 138 n9_24) 139 w9_25) 140 d9_26 := h9e.trans (by rw [pz_u1_in (r := 2) (q := 140) (by decide)]; rw [pz_u1_in (r := 2) (q := 139) (by decide)]; rw [pz_u1_in (r := 2) (q := 138) (by decide)]; rw [pz_u1_in (r := 2) (q := 135) (by decide)]; rw [pz_u1_in (r := 2) (q := 134) (by decide)]; rw [pz_u1_in (r := 2) (q := 132) (by decide)]; rw [pz_u1_in (r := 2) (q := 131) (by decide)]; rw [pz_u1_in (r := 2) (q := 130) (by decide)]; rw [pz_u1_in (r := 2) (q := 129) (by decide)]; rw [pz_u1_top (r := 2)]; rw [pz_u1_in (r := 129) (q := 140) (by decide)]; rw [pz_u1_in (r := 129) (q := 139) (by decide)]; rw [pz_u1_in (r := 129) (q := 138) (by decide)]; rw [pz_u1_in (r := 129) (q := 135) (by decide)]; rw [pz_u1_in (r := 129) (q := 134) (by decide)]; rw [pz_u1_in (r := 129) (q := 132) (by decide)]; rw [pz_u1_in (r := 129) (q := 131) (by decide)]; rw [pz_u1_in (r := 129) (q := 130) (by decide)]; rw [pz_u1_top (r := 129)]; rw [pz_u1_in (r := 130) (q := 140) (by decide)]; rw [pz_u1_in (r := 130) (q := 139) (by decide)]; rw [pz_u1_in (r := 130) (q := 138) (by decide)]; rw [pz_u1_in (r := 130) (q := 135) (by decide)]; rw [pz_u1_in (r := 130) (q := 134) (by decide)]; rw [pz_u1_in (r := 130) (q := 132) (by decide)]; rw [pz_u1_in (r := 130) (q := 131) (by decide)]; rw [pz_u1_top (r := 130)]; rw [pz_u1_in (r := 131) (q := 140) (by decide)]; rw [pz_u1_in (r := 131) (q := 139) (by decide)]; rw [pz_u1_in (r := 131) (q := 138) (by decide)]; rw [pz_u1_in (r := 131) (q := 135) (by decide)]; rw [pz_u1_in (r := 131) (q := 134) (by decide)]; rw [pz_u1_in (r := 131) (q := 132) (by decide)]; rw [pz_u1_top (r := 131)]; rw [pz_u1_in (r := 132) (q := 140) (by decide)]; rw [pz_u1_in (r := 132) (q := 139) (by decide)]; rw [pz_u1_in (r := 132) (q := 138) (by decide)]; rw [pz_u1_in (r := 132) (q := 135) (by decide)]; rw [pz_u1_in (r := 132) (q := 134) (by decide)]; rw [pz_u1_top (r := 132)]; rw [pz_u1_in (r := 134) (q := 140) (by decide)]; rw [pz_u1_in (r := 134) (q := 139) (by decide)]; rw [pz_u1_in (r := 134) (q := 138) (by decide)]; rw [pz_u1_in (r := 134) (q := 135) (by decide)]; rw [pz_u1_top (r := 134)]; rw [pz_u1_in (r := 135) (q := 140) (by decide)]; rw [pz_u1_in (r := 135) (q := 139) (by decide)]; rw [pz_u1_in (r := 135) (q := 138) (by decide)]; rw [pz_u1_top (r := 135)]; rw [pz_u1_in (r := 138) (q := 140) (by decide)]; rw [pz_u1_in (r := 138) (q := 139) (by decide)]; rw [pz_u1_top (r := 138)]; rw [pz_u1_in (r := 139) (q := 140) (by decide)]; rw [pz_u1_top (r := 139)]; rw [pz_u1_top (r := 140)] <;> rfl)
       subst h9x
       replace hci : q_CI k o9_17 n9_24 w9_25 d9_26 (iv 142) (iv 143) (iv 145) j9_18 e9_23 := hci
       replace ho2 : o9_17 2 = (iv 2) 2 := ho2
       first | exact ⟨pz_u1 (pz_u1 (pz_u1 (pz_u1 (pz_u1 (pz_u1 (pz_u1 (pz_u1 (pz_u1 (pz_u1 iv 2 o9_17) 129 j9_18) 130 a9_19) 131 b9_20) 132 c9_21) 134 l9_22) 135 e9_23) 138 n9_24) 139 w9_25) 140 d9_26, ⟨o9_17, j9_18, a9_19, b9_20, c9_21, l9_22, e9_23, n9_24, w9_25, d9_26, by rfl, by exact hci, by exact ho2⟩, lf_e (by rfl)⟩ | (exfalso; omega))

theorem s_X10_isWeak_0 {L : Nat} {iv : Nat → Nat → Int} {k : Nat → Int} (hk : q_KR k) (hE : q_cE k (iv 3)) (hB : q_cB k (iv 4) (iv 5) (iv 6) (iv 7) (iv 8) (iv 9)) (hS : q_cS k (iv 10) (iv 11) (iv 12) (iv 13) (iv 14)) (hC : q_cC k (iv 15) (iv 16)) (hA : q_cA k (iv 17) (iv 18) (iv 19) (iv 20)) (hO : q_cO k (iv 22) (iv 23) (iv 24)) (hL : q_cL k (iv 25)) (hP : q_cP k (iv 27)) (hci : q_CI k (iv 2) (iv 138) (iv 139) (iv 140) (iv 142) (iv 143) (iv 145) (iv 129) (iv 135)) : pz_RE (pz_Sh L) 137 [.inr (.inl 2)] iv (.inl (some (.inl (pz_bi (q_all (q_wkP k (fun _ => 0)) (q_p2 (k 2))))))) (fun iv9 => ∃ (n9 : Nat → Int) (w9 : Nat → Int) (d9 : Nat → Int) (l9 : Nat → Int), iv9 = pz_u1 (pz_u1 (pz_u1 (pz_u1 iv 130 n9) 131 w9) 132 d9) 134 l9) := by
  intro dv cc ss
  have hk0 := hk.r0
  have hE0 := hE
  have hB0 := hB.1
  have hS0 := hS.1
  have hC0 := hC.1
  have hA0 := hA.1
  refine pz_G_mem (iv2 := pz_u1 (pz_u1 (pz_u1 (pz_u1 iv 130 (iv 130)) 131 (iv 131)) 132 (iv 132)) 134 (iv 134)) (by exact ((((pz_u1_self iv 130).symm).trans (pz_u1_self (pz_u1 iv 130 (iv 130)) 131).symm).trans (pz_u1_self (pz_u1 (pz_u1 iv 130 (iv 130)) 131 (iv 131)) 132).symm).trans (pz_u1_self (pz_u1 (pz_u1 (pz_u1 iv 130 (iv 130)) 131 (iv 131)) 132 (iv 132)) 134).symm) ?_
  show pz_G 137 0 [some (.inr (.inl 2))] [] (pz_Sh L, pz_u1 (pz_u1 (pz_u1 (pz_u1 iv 130 (iv 130)) 131 (iv 131)) 132 (iv 132)) 134 (iv 134), dv, cc, ss) (pz_PE (pz_Sh L) (.inl (some (.inl (pz_bi (q_all (q_wkP k (fun _ => 0)) (q_p2 (k 2))))))) (fun iv9 => ∃ (n9 : Nat → Int) (w9 : Nat → Int) (d9 : Nat → Int) (l9 : Nat → Int), iv9 = pz_u1 (pz_u1 (pz_u1 (pz_u1 iv 130 n9) 131 w9) 132 d9) 134 l9) dv cc ss)
  refine pz_G_of pz_b137_0 ?_
  refine w_loc rfl ?_
  refine w_getR (q := 129) is_2 rf_2_3 ?_
  have hc1 := s_X4_isSoundAtCorners (L := L) (iv := pz_u1 (pz_u1 (pz_u1 (pz_u1 iv 130 (iv 130)) 131 (iv 131)) 132 (iv 132)) 134 (iv 134)) (by show q_KR k; exact hk) (by show q_cE k (iv 3); exact hE) (by show q_cB k (iv 4) (iv 5) (iv 6) (iv 7) (iv 8) (iv 9); exact hB) (by show q_cS k (iv 10) (iv 11) (iv 12) (iv 13) (iv 14); exact hS) (by show q_cC k (iv 15) (iv 16); exact hC) (by show q_cL k (iv 25); exact hL)
  refine w_callE hc1 rfl (pz_cokI is_129 rfl) (fun iv9 h9 => ?_)
  obtain ⟨n9_2, w9_3, d9_4, l9_5, h9e⟩ := h9
  have h9x : iv9 = pz_u1 (pz_u1 (pz_u1 (pz_u1 iv 130 n9_2) 131 w9_3) 132 d9_4) 134 l9_5 := h9e.trans (by rw [pz_u1_in (r := 130) (q := 134) (by decide)]; rw [pz_u1_in (r := 130) (q := 132) (by decide)]; rw [pz_u1_in (r := 130) (q := 131) (by decide)]; rw [pz_u1_top (r := 130)]; rw [pz_u1_in (r := 131) (q := 134) (by decide)]; rw [pz_u1_in (r := 131) (q := 132) (by decide)]; rw [pz_u1_top (r := 131)]; rw [pz_u1_in (r := 132) (q := 134) (by decide)]; rw [pz_u1_top (r := 132)]; rw [pz_u1_top (r := 134)] <;> rfl)
  subst h9x
  refine w_ret (pz_rok1 (pz_bi01 _)) ?_
  first | exact ⟨pz_u1 (pz_u1 (pz_u1 (pz_u1 iv 130 n9_2) 131 w9_3) 132 d9_4) 134 l9_5, ⟨n9_2, w9_3, d9_4, l9_5, by rfl⟩, lf_i (pz_bi_iff (by exact Iff.rfl)) (by rfl)⟩ | (exfalso; omega)

theorem s_X10_isStrong_0 {L : Nat} {iv : Nat → Nat → Int} {k : Nat → Int} (hk : q_KR k) (hE : q_cE k (iv 3)) (hB : q_cB k (iv 4) (iv 5) (iv 6) (iv 7) (iv 8) (iv 9)) (hS : q_cS k (iv 10) (iv 11) (iv 12) (iv 13) (iv 14)) (hC : q_cC k (iv 15) (iv 16)) (hA : q_cA k (iv 17) (iv 18) (iv 19) (iv 20)) (hO : q_cO k (iv 22) (iv 23) (iv 24)) (hL : q_cL k (iv 25)) (hP : q_cP k (iv 27)) (hci : q_CI k (iv 2) (iv 138) (iv 139) (iv 140) (iv 142) (iv 143) (iv 145) (iv 129) (iv 135)) : pz_RE (pz_Sh L) 138 [.inr (.inl 2)] iv (.inl (some (.inl (pz_bi (q_strong k))))) (fun iv9 => ∃ (n9 : Nat → Int) (w9 : Nat → Int) (d9 : Nat → Int) (l9 : Nat → Int) (r9 : Nat → Int) (h9 : Nat → Int), iv9 = pz_u1 (pz_u1 (pz_u1 (pz_u1 (pz_u1 (pz_u1 iv 130 n9) 131 w9) 132 d9) 134 l9) 136 r9) 137 h9) := by
  intro dv cc ss
  have hk0 := hk.r0
  have hE0 := hE
  have hB0 := hB.1
  have hS0 := hS.1
  have hC0 := hC.1
  have hA0 := hA.1
  refine pz_G_mem (iv2 := pz_u1 (pz_u1 (pz_u1 (pz_u1 (pz_u1 (pz_u1 iv 130 (iv 130)) 131 (iv 131)) 132 (iv 132)) 134 (iv 134)) 136 (iv 136)) 137 (iv 137)) (by exact ((((((pz_u1_self iv 130).symm).trans (pz_u1_self (pz_u1 iv 130 (iv 130)) 131).symm).trans (pz_u1_self (pz_u1 (pz_u1 iv 130 (iv 130)) 131 (iv 131)) 132).symm).trans (pz_u1_self (pz_u1 (pz_u1 (pz_u1 iv 130 (iv 130)) 131 (iv 131)) 132 (iv 132)) 134).symm).trans (pz_u1_self (pz_u1 (pz_u1 (pz_u1 (pz_u1 iv 130 (iv 130)) 131 (iv 131)) 132 (iv 132)) 134 (iv 134)) 136).symm).trans (pz_u1_self (pz_u1 (pz_u1 (pz_u1 (pz_u1 (pz_u1 iv 130 (iv 130)) 131 (iv 131)) 132 (iv 132)) 134 (iv 134)) 136 (iv 136)) 137).symm) ?_
  show pz_G 138 0 [some (.inr (.inl 2))] [] (pz_Sh L, pz_u1 (pz_u1 (pz_u1 (pz_u1 (pz_u1 (pz_u1 iv 130 (iv 130)) 131 (iv 131)) 132 (iv 132)) 134 (iv 134)) 136 (iv 136)) 137 (iv 137), dv, cc, ss) (pz_PE (pz_Sh L) (.inl (some (.inl (pz_bi (q_strong k))))) (fun iv9 => ∃ (n9 : Nat → Int) (w9 : Nat → Int) (d9 : Nat → Int) (l9 : Nat → Int) (r9 : Nat → Int) (h9 : Nat → Int), iv9 = pz_u1 (pz_u1 (pz_u1 (pz_u1 (pz_u1 (pz_u1 iv 130 n9) 131 w9) 132 d9) 134 l9) 136 r9) 137 h9) dv cc ss)
  refine pz_G_of pz_b138_0 ?_
  refine w_loc rfl ?_
  refine w_getR (q := 129) is_2 rf_2_3 ?_
  have hc1 := s_X4_hasFixedTimes (L := L) (iv := pz_u1 (pz_u1 (pz_u1 (pz_u1 (pz_u1 (pz_u1 iv 130 (iv 130)) 131 (iv 131)) 132 (iv 132)) 134 (iv 134)) 136 (iv 136)) 137 (iv 137)) (by show q_KR k; exact hk) (by show q_cE k (iv 3); exact hE) (by show q_cB k (iv 4) (iv 5) (iv 6) (iv 7) (iv 8) (iv 9); exact hB) (by show q_cS k (iv 10) (iv 11) (iv 12) (iv 13) (iv 14); exact hS) (by show q_cC k (iv 15) (iv 16); exact hC) (by show q_cL k (iv 25); exact hL)
  refine w_callE hc1 rfl (pz_cokI is_129 rfl) (fun iv9 h9 => ?_)
  obtain ⟨n9_2, w9_3, d9_4, l9_5, r9_6, h9_7, h9e⟩ := h9
  have h9x : iv9 = pz_u1 (pz_u1 (pz_u1 (pz_u1 (pz_u1 (pz_u1 iv 130 n9_2) 131 w9_3) 132 d9_4) 134 l9_5) 136 r9_6) 137 h9_7 := h9e.trans (by rw [pz_u1_in (r := 130) (q := 137) (by decide)]; rw [pz_u1_in (r := 130) (q := 136) (by decide)]; rw [pz_u1_in (r := 130) (q := 134) (by decide)]; rw [pz_u1_in (r := 130) (q := 132) (by decide)]; rw [pz_u1_in (r := 130) (q := 131) (by decide)]; rw [pz_u1_top (r := 130)]; rw [pz_u1_in (r := 131) (q := 137) (by decide)]; rw [pz_u1_in (r := 131) (q := 136) (by decide)]; rw [pz_u1_in (r := 131) (q := 134) (by decide)]; rw [pz_u1_in (r := 131) (q := 132) (by decide)]; rw [pz_u1_top (r := 131)]; rw [pz_u1_in (r := 132) (q := 137) (by decide)]; rw [pz_u1_in (r := 132) (q := 136) (by decide)]; rw [pz_u1_in (r := 132) (q := 134) (by decide)]; rw [pz_u1_top (r := 132)]; rw [pz_u1_in (r := 134) (q := 137) (by decide)]; rw [pz_u1_in (r := 134) (q := 136) (by decide)]; rw [pz_u1_top (r := 134)]; rw [pz_u1_in (r := 136) (q := 137) (by decide)]; rw [pz_u1_top (r := 136)]; rw [pz_u1_top (r := 137)] <;> rfl)
  subst h9x
  refine w_ret (pz_rok1 (pz_bi01 _)) ?_
  first | exact ⟨pz_u1 (pz_u1 (pz_u1 (pz_u1 (pz_u1 (pz_u1 iv 130 n9_2) 131 w9_3) 132 d9_4) 134 l9_5) 136 r9_6) 137 h9_7, ⟨n9_2, w9_3, d9_4, l9_5, r9_6, h9_7, by rfl⟩, lf_i (pz_bi_iff (by exact Iff.rfl)) (by rfl)⟩ | (exfalso; omega)

theorem s_X10_isSeen_0 {L : Nat} {iv : Nat → Nat → Int} {k : Nat → Int} (hk : q_KR k) (hE : q_cE k (iv 3)) (hB : q_cB k (iv 4) (iv 5) (iv 6) (iv 7) (iv 8) (iv 9)) (hS : q_cS k (iv 10) (iv 11) (iv 12) (iv 13) (iv 14)) (hC : q_cC k (iv 15) (iv 16)) (hA : q_cA k (iv 17) (iv 18) (iv 19) (iv 20)) (hO : q_cO k (iv 22) (iv 23) (iv 24)) (hL : q_cL k (iv 25)) (hP : q_cP k (iv 27)) (hci : q_CI k (iv 2) (iv 138) (iv 139) (iv 140) (iv 142) (iv 143) (iv 145) (iv 129) (iv 135)) : pz_RE (pz_Sh L) 139 [.inr (.inl 2)] iv (.inl (some (.inl (pz_bi (q_sen k))))) (fun iv9 => ∃ (o9 : Nat → Int) (l9 : Nat → Int) (n9 : Nat → Int) (w9 : Nat → Int) (d9 : Nat → Int) (m9 : Nat → Int) (V9 : Nat → Int) (W9 : Nat → Int) (U9 : Nat → Int) (Y9 : Nat → Int) (p9 : Nat → Int) (q9 : Nat → Int) (r9 : Nat → Int), iv9 = pz_u1 (pz_u1 (pz_u1 (pz_u1 (pz_u1 (pz_u1 (pz_u1 (pz_u1 (pz_u1 (pz_u1 (pz_u1 (pz_u1 (pz_u1 iv 2 o9) 134 l9) 138 n9) 139 w9) 140 d9) 142 m9) 143 V9) 144 W9) 145 U9) 146 Y9) 147 p9) 148 q9) 149 r9 ∧ (q_CI k o9 n9 w9 d9 m9 V9 U9 (iv 129) (iv 135)) ∧ (o9 2 = (iv 2) 2)) := by
  intro dv cc ss
  have hk0 := hk.r0
  have hE0 := hE
  have hB0 := hB.1
  have hS0 := hS.1
  have hC0 := hC.1
  have hA0 := hA.1
  refine pz_G_mem (iv2 := pz_u1 (pz_u1 (pz_u1 (pz_u1 (pz_u1 (pz_u1 (pz_u1 (pz_u1 (pz_u1 (pz_u1 (pz_u1 (pz_u1 (pz_u1 iv 2 (iv 2)) 134 (iv 134)) 138 (iv 138)) 139 (iv 139)) 140 (iv 140)) 142 (iv 142)) 143 (iv 143)) 144 (iv 144)) 145 (iv 145)) 146 (iv 146)) 147 (iv 147)) 148 (iv 148)) 149 (iv 149)) (by exact (((((((((((((pz_u1_self iv 2).symm).trans (pz_u1_self (pz_u1 iv 2 (iv 2)) 134).symm).trans (pz_u1_self (pz_u1 (pz_u1 iv 2 (iv 2)) 134 (iv 134)) 138).symm).trans (pz_u1_self (pz_u1 (pz_u1 (pz_u1 iv 2 (iv 2)) 134 (iv 134)) 138 (iv 138)) 139).symm).trans (pz_u1_self (pz_u1 (pz_u1 (pz_u1 (pz_u1 iv 2 (iv 2)) 134 (iv 134)) 138 (iv 138)) 139 (iv 139)) 140).symm).trans (pz_u1_self (pz_u1 (pz_u1 (pz_u1 (pz_u1 (pz_u1 iv 2 (iv 2)) 134 (iv 134)) 138 (iv 138)) 139 (iv 139)) 140 (iv 140)) 142).symm).trans (pz_u1_self (pz_u1 (pz_u1 (pz_u1 (pz_u1 (pz_u1 (pz_u1 iv 2 (iv 2)) 134 (iv 134)) 138 (iv 138)) 139 (iv 139)) 140 (iv 140)) 142 (iv 142)) 143).symm).trans (pz_u1_self (pz_u1 (pz_u1 (pz_u1 (pz_u1 (pz_u1 (pz_u1 (pz_u1 iv 2 (iv 2)) 134 (iv 134)) 138 (iv 138)) 139 (iv 139)) 140 (iv 140)) 142 (iv 142)) 143 (iv 143)) 144).symm).trans (pz_u1_self (pz_u1 (pz_u1 (pz_u1 (pz_u1 (pz_u1 (pz_u1 (pz_u1 (pz_u1 iv 2 (iv 2)) 134 (iv 134)) 138 (iv 138)) 139 (iv 139)) 140 (iv 140)) 142 (iv 142)) 143 (iv 143)) 144 (iv 144)) 145).symm).trans (pz_u1_self (pz_u1 (pz_u1 (pz_u1 (pz_u1 (pz_u1 (pz_u1 (pz_u1 (pz_u1 (pz_u1 iv 2 (iv 2)) 134 (iv 134)) 138 (iv 138)) 139 (iv 139)) 140 (iv 140)) 142 (iv 142)) 143 (iv 143)) 144 (iv 144)) 145 (iv 145)) 146).symm).trans (pz_u1_self (pz_u1 (pz_u1 (pz_u1 (pz_u1 (pz_u1 (pz_u1 (pz_u1 (pz_u1 (pz_u1 (pz_u1 iv 2 (iv 2)) 134 (iv 134)) 138 (iv 138)) 139 (iv 139)) 140 (iv 140)) 142 (iv 142)) 143 (iv 143)) 144 (iv 144)) 145 (iv 145)) 146 (iv 146)) 147).symm).trans (pz_u1_self (pz_u1 (pz_u1 (pz_u1 (pz_u1 (pz_u1 (pz_u1 (pz_u1 (pz_u1 (pz_u1 (pz_u1 (pz_u1 iv 2 (iv 2)) 134 (iv 134)) 138 (iv 138)) 139 (iv 139)) 140 (iv 140)) 142 (iv 142)) 143 (iv 143)) 144 (iv 144)) 145 (iv 145)) 146 (iv 146)) 147 (iv 147)) 148).symm).trans (pz_u1_self (pz_u1 (pz_u1 (pz_u1 (pz_u1 (pz_u1 (pz_u1 (pz_u1 (pz_u1 (pz_u1 (pz_u1 (pz_u1 (pz_u1 iv 2 (iv 2)) 134 (iv 134)) 138 (iv 138)) 139 (iv 139)) 140 (iv 140)) 142 (iv 142)) 143 (iv 143)) 144 (iv 144)) 145 (iv 145)) 146 (iv 146)) 147 (iv 147)) 148 (iv 148)) 149).symm) ?_
  show pz_G 139 0 [some (.inr (.inl 2))] [] (pz_Sh L, pz_u1 (pz_u1 (pz_u1 (pz_u1 (pz_u1 (pz_u1 (pz_u1 (pz_u1 (pz_u1 (pz_u1 (pz_u1 (pz_u1 (pz_u1 iv 2 (iv 2)) 134 (iv 134)) 138 (iv 138)) 139 (iv 139)) 140 (iv 140)) 142 (iv 142)) 143 (iv 143)) 144 (iv 144)) 145 (iv 145)) 146 (iv 146)) 147 (iv 147)) 148 (iv 148)) 149 (iv 149), dv, cc, ss) (pz_PE (pz_Sh L) (.inl (some (.inl (pz_bi (q_sen k))))) (fun iv9 => ∃ (o9 : Nat → Int) (l9 : Nat → Int) (n9 : Nat → Int) (w9 : Nat → Int) (d9 : Nat → Int) (m9 : Nat → Int) (V9 : Nat → Int) (W9 : Nat → Int) (U9 : Nat → Int) (Y9 : Nat → Int) (p9 : Nat → Int) (q9 : Nat → Int) (r9 : Nat → Int), iv9 = pz_u1 (pz_u1 (pz_u1 (pz_u1 (pz_u1 (pz_u1 (pz_u1 (pz_u1 (pz_u1 (pz_u1 (pz_u1 (pz_u1 (pz_u1 iv 2 o9) 134 l9) 138 n9) 139 w9) 140 d9) 142 m9) 143 V9) 144 W9) 145 U9) 146 Y9) 147 p9) 148 q9) 149 r9 ∧ (q_CI k o9 n9 w9 d9 m9 V9 U9 (iv 129) (iv 135)) ∧ (o9 2 = (iv 2) 2)) dv cc ss)
  refine pz_G_of pz_b139_0 ?_
  refine w_loc rfl ?_
  have hc1 := s_X10_knownReductions (L := L) (iv := pz_u1 (pz_u1 (pz_u1 (pz_u1 (pz_u1 (pz_u1 (pz_u1 (pz_u1 (pz_u1 (pz_u1 (pz_u1 (pz_u1 (pz_u1 iv 2 (iv 2)) 134 (iv 134)) 138 (iv 138)) 139 (iv 139)) 140 (iv 140)) 142 (iv 142)) 143 (iv 143)) 144 (iv 144)) 145 (iv 145)) 146 (iv 146)) 147 (iv 147)) 148 (iv 148)) 149 (iv 149)) (by show q_KR k; exact hk) (by show q_cE k (iv 3); exact hE) (by show q_cB k (iv 4) (iv 5) (iv 6) (iv 7) (iv 8) (iv 9); exact hB) (by show q_cS k (iv 10) (iv 11) (iv 12) (iv 13) (iv 14); exact hS) (by show q_cC k (iv 15) (iv 16); exact hC) (by show q_cL k (iv 25); exact hL) (by show q_CI k (iv 2) (iv 138) (iv 139) (iv 140) (iv 142) (iv 143) (iv 145) (iv 129) (iv 135); exact hci)
  refine w_callE hc1 rfl (pz_cokI is_2 rfl) (fun iv9 h9 => ?_)
  obtain ⟨o9_2, l9_3, n9_4, w9_5, d9_6, m9_7, V9_8, W9_9, U9_10, Y9_11, p9_12, q9_13, r9_14, h9e, hci, hRK, ho2⟩ := h9
  have h9x : iv9 = pz_u1 (pz_u1 (pz_u1 (pz_u1 (pz_u1 (pz_u1 (pz_u1 (pz_u1 (pz_u1 (pz_u1 (pz_u1 (pz_u1 (pz_u1 iv 2 o9_2) 134 l9_3) 138 n9_4) 139 w9_5) 140 d9_6) 142 m9_7) 143 V9_8) 144 W9_9) 145 U9_10) 146 Y9_11) 147 p9_12) 148 q9_13) 149 r9_14 := h9e.trans (by rw [pz_u1_in (r := 2) (q := 149) (by decide)]; rw [pz_u1_in (r := 2) (q := 148) (by decide)]; rw [pz_u1_in (r := 2) (q := 147) (by decide)]; rw [pz_u1_in (r := 2) (q := 146) (by decide)]; rw [pz_u1_in (r := 2) (q := 145) (by decide)]; rw [pz_u1_in (r := 2) (q := 144) (by decide)]; rw [pz_u1_in (r := 2) (q := 143) (by decide)]; rw [pz_u1_in (r := 2) (q := 142) (by decide)]; rw [pz_u1_in (r := 2) (q := 140) (by decide)]; rw [pz_u1_in (r := 2) (q := 139) (by decide)]; rw [pz_u1_in (r := 2) (q := 138) (by decide)]; rw [pz_u1_in (r := 2) (q := 134) (by decide)]; rw [pz_u1_top (r := 2)]; rw [pz_u1_in (r := 134) (q := 149) (by decide)]; rw [pz_u1_in (r := 134) (q := 148) (by decide)]; rw [pz_u1_in (r := 134) (q := 147) (by decide)]; rw [pz_u1_in (r := 134) (q := 146) (by decide)]; rw [pz_u1_in (r := 134) (q := 145) (by decide)]; rw [pz_u1_in (r := 134) (q := 144) (by decide)]; rw [pz_u1_in (r := 134) (q := 143) (by decide)]; rw [pz_u1_in (r := 134) (q := 142) (by decide)]; rw [pz_u1_in (r := 134) (q := 140) (by decide)]; rw [pz_u1_in (r := 134) (q := 139) (by decide)]; rw [pz_u1_in (r := 134) (q := 138) (by decide)]; rw [pz_u1_top (r := 134)]; rw [pz_u1_in (r := 138) (q := 149) (by decide)]; rw [pz_u1_in (r := 138) (q := 148) (by decide)]; rw [pz_u1_in (r := 138) (q := 147) (by decide)]; rw [pz_u1_in (r := 138) (q := 146) (by decide)]; rw [pz_u1_in (r := 138) (q := 145) (by decide)]; rw [pz_u1_in (r := 138) (q := 144) (by decide)]; rw [pz_u1_in (r := 138) (q := 143) (by decide)]; rw [pz_u1_in (r := 138) (q := 142) (by decide)]; rw [pz_u1_in (r := 138) (q := 140) (by decide)]; rw [pz_u1_in (r := 138) (q := 139) (by decide)]; rw [pz_u1_top (r := 138)]; rw [pz_u1_in (r := 139) (q := 149) (by decide)]; rw [pz_u1_in (r := 139) (q := 148) (by decide)]; rw [pz_u1_in (r := 139) (q := 147) (by decide)]; rw [pz_u1_in (r := 139) (q := 146) (by decide)]; rw [pz_u1_in (r := 139) (q := 145) (by decide)]; rw [pz_u1_in (r := 139) (q := 144) (by decide)]; rw [pz_u1_in (r := 139) (q := 143) (by decide)]; rw [pz_u1_in (r := 139) (q := 142) (by decide)]; rw [pz_u1_in (r := 139) (q := 140) (by decide)]; rw [pz_u1_top (r := 139)]; rw [pz_u1_in (r := 140) (q := 149) (by decide)]; rw [pz_u1_in (r := 140) (q := 148) (by decide)]; rw [pz_u1_in (r := 140) (q := 147) (by decide)]; rw [pz_u1_in (r := 140) (q := 146) (by decide)]; rw [pz_u1_in (r := 140) (q := 145) (by decide)]; rw [pz_u1_in (r := 140) (q := 144) (by decide)]; rw [pz_u1_in (r := 140) (q := 143) (by decide)]; rw [pz_u1_in (r := 140) (q := 142) (by decide)]; rw [pz_u1_top (r := 140)]; rw [pz_u1_in (r := 142) (q := 149) (by decide)]; rw [pz_u1_in (r := 142) (q := 148) (by decide)]; rw [pz_u1_in (r := 142) (q := 147) (by decide)]; rw [pz_u1_in (r := 142) (q := 146) (by decide)]; rw [pz_u1_in (r := 142) (q := 145) (by decide)]; rw [pz_u1_in (r := 142) (q := 144) (by decide)]; rw [pz_u1_in (r := 142) (q := 143) (by decide)]; rw [pz_u1_top (r := 142)]; rw [pz_u1_in (r := 143) (q := 149) (by decide)]; rw [pz_u1_in (r := 143) (q := 148) (by decide)]; rw [pz_u1_in (r := 143) (q := 147) (by decide)]; rw [pz_u1_in (r := 143) (q := 146) (by decide)]; rw [pz_u1_in (r := 143) (q := 145) (by decide)]; rw [pz_u1_in (r := 143) (q := 144) (by decide)]; rw [pz_u1_top (r := 143)]; rw [pz_u1_in (r := 144) (q := 149) (by decide)]; rw [pz_u1_in (r := 144) (q := 148) (by decide)]; rw [pz_u1_in (r := 144) (q := 147) (by decide)]; rw [pz_u1_in (r := 144) (q := 146) (by decide)]; rw [pz_u1_in (r := 144) (q := 145) (by decide)]; rw [pz_u1_top (r := 144)]; rw [pz_u1_in (r := 145) (q := 149) (by decide)]; rw [pz_u1_in (r := 145) (q := 148) (by decide)]; rw [pz_u1_in (r := 145) (q := 147) (by decide)]; rw [pz_u1_in (r := 145) (q := 146) (by decide)]; rw [pz_u1_top (r := 145)]; rw [pz_u1_in (r := 146) (q := 149) (by decide)]; rw [pz_u1_in (r := 146) (q := 148) (by decide)]; rw [pz_u1_in (r := 146) (q := 147) (by decide)]; rw [pz_u1_top (r := 146)]; rw [pz_u1_in (r := 147) (q := 149) (by decide)]; rw [pz_u1_in (r := 147) (q := 148) (by decide)]; rw [pz_u1_top (r := 147)]; rw [pz_u1_in (r := 148) (q := 149) (by decide)]; rw [pz_u1_top (r := 148)]; rw [pz_u1_top (r := 149)] <;> rfl)
  subst h9x
  replace hci : q_CI k o9_2 n9_4 w9_5 d9_6 m9_7 V9_8 U9_10 (iv 129) (iv 135) := hci
  replace hRK : q_RK k m9_7 V9_8 U9_10 := hRK
  replace ho2 : o9_2 2 = (iv 2) 2 := ho2
  refine w_getI (v := m9_7 1) is_142 (by decide) rfl ?_
  refine w_ret (pz_rok1 (by rw [hRK.1]; exact pz_bi01 _)) ?_
  exact ⟨pz_u1 (pz_u1 (pz_u1 (pz_u1 (pz_u1 (pz_u1 (pz_u1 (pz_u1 (pz_u1 (pz_u1 (pz_u1 (pz_u1 (pz_u1 iv 2 o9_2) 134 l9_3) 138 n9_4) 139 w9_5) 140 d9_6) 142 m9_7) 143 V9_8) 144 W9_9) 145 U9_10) 146 Y9_11) 147 p9_12) 148 q9_13) 149 r9_14, ⟨o9_2, l9_3, n9_4, w9_5, d9_6, m9_7, V9_8, W9_9, U9_10, Y9_11, p9_12, q9_13, r9_14, by rfl, by exact hci, by exact ho2⟩, lf_i hRK.1 rfl⟩

theorem s_X10_rounds_0 {L : Nat} {iv : Nat → Nat → Int} {k : Nat → Int} (hk : q_KR k) (hE : q_cE k (iv 3)) (hB : q_cB k (iv 4) (iv 5) (iv 6) (iv 7) (iv 8) (iv 9)) (hS : q_cS k (iv 10) (iv 11) (iv 12) (iv 13) (iv 14)) (hC : q_cC k (iv 15) (iv 16)) (hA : q_cA k (iv 17) (iv 18) (iv 19) (iv 20)) (hO : q_cO k (iv 22) (iv 23) (iv 24)) (hL : q_cL k (iv 25)) (hP : q_cP k (iv 27)) (hci : q_CI k (iv 2) (iv 138) (iv 139) (iv 140) (iv 142) (iv 143) (iv 145) (iv 129) (iv 135)) : pz_RE (pz_Sh L) 140 [.inr (.inl 2)] iv (.inl (some (.inl (q_rnd k)))) (fun iv9 => ∃ (o9 : Nat → Int) (l9 : Nat → Int) (n9 : Nat → Int) (w9 : Nat → Int) (d9 : Nat → Int) (m9 : Nat → Int) (V9 : Nat → Int) (W9 : Nat → Int) (U9 : Nat → Int) (Y9 : Nat → Int) (p9 : Nat → Int) (q9 : Nat → Int) (r9 : Nat → Int), iv9 = pz_u1 (pz_u1 (pz_u1 (pz_u1 (pz_u1 (pz_u1 (pz_u1 (pz_u1 (pz_u1 (pz_u1 (pz_u1 (pz_u1 (pz_u1 iv 2 o9) 134 l9) 138 n9) 139 w9) 140 d9) 142 m9) 143 V9) 144 W9) 145 U9) 146 Y9) 147 p9) 148 q9) 149 r9 ∧ (q_CI k o9 n9 w9 d9 m9 V9 U9 (iv 129) (iv 135)) ∧ (o9 2 = (iv 2) 2)) := by
  intro dv cc ss
  have hk0 := hk.r0
  have hE0 := hE
  have hB0 := hB.1
  have hS0 := hS.1
  have hC0 := hC.1
  have hA0 := hA.1
  refine pz_G_mem (iv2 := pz_u1 (pz_u1 (pz_u1 (pz_u1 (pz_u1 (pz_u1 (pz_u1 (pz_u1 (pz_u1 (pz_u1 (pz_u1 (pz_u1 (pz_u1 iv 2 (iv 2)) 134 (iv 134)) 138 (iv 138)) 139 (iv 139)) 140 (iv 140)) 142 (iv 142)) 143 (iv 143)) 144 (iv 144)) 145 (iv 145)) 146 (iv 146)) 147 (iv 147)) 148 (iv 148)) 149 (iv 149)) (by exact (((((((((((((pz_u1_self iv 2).symm).trans (pz_u1_self (pz_u1 iv 2 (iv 2)) 134).symm).trans (pz_u1_self (pz_u1 (pz_u1 iv 2 (iv 2)) 134 (iv 134)) 138).symm).trans (pz_u1_self (pz_u1 (pz_u1 (pz_u1 iv 2 (iv 2)) 134 (iv 134)) 138 (iv 138)) 139).symm).trans (pz_u1_self (pz_u1 (pz_u1 (pz_u1 (pz_u1 iv 2 (iv 2)) 134 (iv 134)) 138 (iv 138)) 139 (iv 139)) 140).symm).trans (pz_u1_self (pz_u1 (pz_u1 (pz_u1 (pz_u1 (pz_u1 iv 2 (iv 2)) 134 (iv 134)) 138 (iv 138)) 139 (iv 139)) 140 (iv 140)) 142).symm).trans (pz_u1_self (pz_u1 (pz_u1 (pz_u1 (pz_u1 (pz_u1 (pz_u1 iv 2 (iv 2)) 134 (iv 134)) 138 (iv 138)) 139 (iv 139)) 140 (iv 140)) 142 (iv 142)) 143).symm).trans (pz_u1_self (pz_u1 (pz_u1 (pz_u1 (pz_u1 (pz_u1 (pz_u1 (pz_u1 iv 2 (iv 2)) 134 (iv 134)) 138 (iv 138)) 139 (iv 139)) 140 (iv 140)) 142 (iv 142)) 143 (iv 143)) 144).symm).trans (pz_u1_self (pz_u1 (pz_u1 (pz_u1 (pz_u1 (pz_u1 (pz_u1 (pz_u1 (pz_u1 iv 2 (iv 2)) 134 (iv 134)) 138 (iv 138)) 139 (iv 139)) 140 (iv 140)) 142 (iv 142)) 143 (iv 143)) 144 (iv 144)) 145).symm).trans (pz_u1_self (pz_u1 (pz_u1 (pz_u1 (pz_u1 (pz_u1 (pz_u1 (pz_u1 (pz_u1 (pz_u1 iv 2 (iv 2)) 134 (iv 134)) 138 (iv 138)) 139 (iv 139)) 140 (iv 140)) 142 (iv 142)) 143 (iv 143)) 144 (iv 144)) 145 (iv 145)) 146).symm).trans (pz_u1_self (pz_u1 (pz_u1 (pz_u1 (pz_u1 (pz_u1 (pz_u1 (pz_u1 (pz_u1 (pz_u1 (pz_u1 iv 2 (iv 2)) 134 (iv 134)) 138 (iv 138)) 139 (iv 139)) 140 (iv 140)) 142 (iv 142)) 143 (iv 143)) 144 (iv 144)) 145 (iv 145)) 146 (iv 146)) 147).symm).trans (pz_u1_self (pz_u1 (pz_u1 (pz_u1 (pz_u1 (pz_u1 (pz_u1 (pz_u1 (pz_u1 (pz_u1 (pz_u1 (pz_u1 iv 2 (iv 2)) 134 (iv 134)) 138 (iv 138)) 139 (iv 139)) 140 (iv 140)) 142 (iv 142)) 143 (iv 143)) 144 (iv 144)) 145 (iv 145)) 146 (iv 146)) 147 (iv 147)) 148).symm).trans (pz_u1_self (pz_u1 (pz_u1 (pz_u1 (pz_u1 (pz_u1 (pz_u1 (pz_u1 (pz_u1 (pz_u1 (pz_u1 (pz_u1 (pz_u1 iv 2 (iv 2)) 134 (iv 134)) 138 (iv 138)) 139 (iv 139)) 140 (iv 140)) 142 (iv 142)) 143 (iv 143)) 144 (iv 144)) 145 (iv 145)) 146 (iv 146)) 147 (iv 147)) 148 (iv 148)) 149).symm) ?_
  show pz_G 140 0 [some (.inr (.inl 2))] [] (pz_Sh L, pz_u1 (pz_u1 (pz_u1 (pz_u1 (pz_u1 (pz_u1 (pz_u1 (pz_u1 (pz_u1 (pz_u1 (pz_u1 (pz_u1 (pz_u1 iv 2 (iv 2)) 134 (iv 134)) 138 (iv 138)) 139 (iv 139)) 140 (iv 140)) 142 (iv 142)) 143 (iv 143)) 144 (iv 144)) 145 (iv 145)) 146 (iv 146)) 147 (iv 147)) 148 (iv 148)) 149 (iv 149), dv, cc, ss) (pz_PE (pz_Sh L) (.inl (some (.inl (q_rnd k)))) (fun iv9 => ∃ (o9 : Nat → Int) (l9 : Nat → Int) (n9 : Nat → Int) (w9 : Nat → Int) (d9 : Nat → Int) (m9 : Nat → Int) (V9 : Nat → Int) (W9 : Nat → Int) (U9 : Nat → Int) (Y9 : Nat → Int) (p9 : Nat → Int) (q9 : Nat → Int) (r9 : Nat → Int), iv9 = pz_u1 (pz_u1 (pz_u1 (pz_u1 (pz_u1 (pz_u1 (pz_u1 (pz_u1 (pz_u1 (pz_u1 (pz_u1 (pz_u1 (pz_u1 iv 2 o9) 134 l9) 138 n9) 139 w9) 140 d9) 142 m9) 143 V9) 144 W9) 145 U9) 146 Y9) 147 p9) 148 q9) 149 r9 ∧ (q_CI k o9 n9 w9 d9 m9 V9 U9 (iv 129) (iv 135)) ∧ (o9 2 = (iv 2) 2)) dv cc ss)
  refine pz_G_of pz_b140_0 ?_
  refine w_loc rfl ?_
  have hc1 := s_X10_knownReductions (L := L) (iv := pz_u1 (pz_u1 (pz_u1 (pz_u1 (pz_u1 (pz_u1 (pz_u1 (pz_u1 (pz_u1 (pz_u1 (pz_u1 (pz_u1 (pz_u1 iv 2 (iv 2)) 134 (iv 134)) 138 (iv 138)) 139 (iv 139)) 140 (iv 140)) 142 (iv 142)) 143 (iv 143)) 144 (iv 144)) 145 (iv 145)) 146 (iv 146)) 147 (iv 147)) 148 (iv 148)) 149 (iv 149)) (by show q_KR k; exact hk) (by show q_cE k (iv 3); exact hE) (by show q_cB k (iv 4) (iv 5) (iv 6) (iv 7) (iv 8) (iv 9); exact hB) (by show q_cS k (iv 10) (iv 11) (iv 12) (iv 13) (iv 14); exact hS) (by show q_cC k (iv 15) (iv 16); exact hC) (by show q_cL k (iv 25); exact hL) (by show q_CI k (iv 2) (iv 138) (iv 139) (iv 140) (iv 142) (iv 143) (iv 145) (iv 129) (iv 135); exact hci)
  refine w_callE hc1 rfl (pz_cokI is_2 rfl) (fun iv9 h9 => ?_)
  obtain ⟨o9_2, l9_3, n9_4, w9_5, d9_6, m9_7, V9_8, W9_9, U9_10, Y9_11, p9_12, q9_13, r9_14, h9e, hci, hRK, ho2⟩ := h9
  have h9x : iv9 = pz_u1 (pz_u1 (pz_u1 (pz_u1 (pz_u1 (pz_u1 (pz_u1 (pz_u1 (pz_u1 (pz_u1 (pz_u1 (pz_u1 (pz_u1 iv 2 o9_2) 134 l9_3) 138 n9_4) 139 w9_5) 140 d9_6) 142 m9_7) 143 V9_8) 144 W9_9) 145 U9_10) 146 Y9_11) 147 p9_12) 148 q9_13) 149 r9_14 := h9e.trans (by rw [pz_u1_in (r := 2) (q := 149) (by decide)]; rw [pz_u1_in (r := 2) (q := 148) (by decide)]; rw [pz_u1_in (r := 2) (q := 147) (by decide)]; rw [pz_u1_in (r := 2) (q := 146) (by decide)]; rw [pz_u1_in (r := 2) (q := 145) (by decide)]; rw [pz_u1_in (r := 2) (q := 144) (by decide)]; rw [pz_u1_in (r := 2) (q := 143) (by decide)]; rw [pz_u1_in (r := 2) (q := 142) (by decide)]; rw [pz_u1_in (r := 2) (q := 140) (by decide)]; rw [pz_u1_in (r := 2) (q := 139) (by decide)]; rw [pz_u1_in (r := 2) (q := 138) (by decide)]; rw [pz_u1_in (r := 2) (q := 134) (by decide)]; rw [pz_u1_top (r := 2)]; rw [pz_u1_in (r := 134) (q := 149) (by decide)]; rw [pz_u1_in (r := 134) (q := 148) (by decide)]; rw [pz_u1_in (r := 134) (q := 147) (by decide)]; rw [pz_u1_in (r := 134) (q := 146) (by decide)]; rw [pz_u1_in (r := 134) (q := 145) (by decide)]; rw [pz_u1_in (r := 134) (q := 144) (by decide)]; rw [pz_u1_in (r := 134) (q := 143) (by decide)]; rw [pz_u1_in (r := 134) (q := 142) (by decide)]; rw [pz_u1_in (r := 134) (q := 140) (by decide)]; rw [pz_u1_in (r := 134) (q := 139) (by decide)]; rw [pz_u1_in (r := 134) (q := 138) (by decide)]; rw [pz_u1_top (r := 134)]; rw [pz_u1_in (r := 138) (q := 149) (by decide)]; rw [pz_u1_in (r := 138) (q := 148) (by decide)]; rw [pz_u1_in (r := 138) (q := 147) (by decide)]; rw [pz_u1_in (r := 138) (q := 146) (by decide)]; rw [pz_u1_in (r := 138) (q := 145) (by decide)]; rw [pz_u1_in (r := 138) (q := 144) (by decide)]; rw [pz_u1_in (r := 138) (q := 143) (by decide)]; rw [pz_u1_in (r := 138) (q := 142) (by decide)]; rw [pz_u1_in (r := 138) (q := 140) (by decide)]; rw [pz_u1_in (r := 138) (q := 139) (by decide)]; rw [pz_u1_top (r := 138)]; rw [pz_u1_in (r := 139) (q := 149) (by decide)]; rw [pz_u1_in (r := 139) (q := 148) (by decide)]; rw [pz_u1_in (r := 139) (q := 147) (by decide)]; rw [pz_u1_in (r := 139) (q := 146) (by decide)]; rw [pz_u1_in (r := 139) (q := 145) (by decide)]; rw [pz_u1_in (r := 139) (q := 144) (by decide)]; rw [pz_u1_in (r := 139) (q := 143) (by decide)]; rw [pz_u1_in (r := 139) (q := 142) (by decide)]; rw [pz_u1_in (r := 139) (q := 140) (by decide)]; rw [pz_u1_top (r := 139)]; rw [pz_u1_in (r := 140) (q := 149) (by decide)]; rw [pz_u1_in (r := 140) (q := 148) (by decide)]; rw [pz_u1_in (r := 140) (q := 147) (by decide)]; rw [pz_u1_in (r := 140) (q := 146) (by decide)]; rw [pz_u1_in (r := 140) (q := 145) (by decide)]; rw [pz_u1_in (r := 140) (q := 144) (by decide)]; rw [pz_u1_in (r := 140) (q := 143) (by decide)]; rw [pz_u1_in (r := 140) (q := 142) (by decide)]; rw [pz_u1_top (r := 140)]; rw [pz_u1_in (r := 142) (q := 149) (by decide)]; rw [pz_u1_in (r := 142) (q := 148) (by decide)]; rw [pz_u1_in (r := 142) (q := 147) (by decide)]; rw [pz_u1_in (r := 142) (q := 146) (by decide)]; rw [pz_u1_in (r := 142) (q := 145) (by decide)]; rw [pz_u1_in (r := 142) (q := 144) (by decide)]; rw [pz_u1_in (r := 142) (q := 143) (by decide)]; rw [pz_u1_top (r := 142)]; rw [pz_u1_in (r := 143) (q := 149) (by decide)]; rw [pz_u1_in (r := 143) (q := 148) (by decide)]; rw [pz_u1_in (r := 143) (q := 147) (by decide)]; rw [pz_u1_in (r := 143) (q := 146) (by decide)]; rw [pz_u1_in (r := 143) (q := 145) (by decide)]; rw [pz_u1_in (r := 143) (q := 144) (by decide)]; rw [pz_u1_top (r := 143)]; rw [pz_u1_in (r := 144) (q := 149) (by decide)]; rw [pz_u1_in (r := 144) (q := 148) (by decide)]; rw [pz_u1_in (r := 144) (q := 147) (by decide)]; rw [pz_u1_in (r := 144) (q := 146) (by decide)]; rw [pz_u1_in (r := 144) (q := 145) (by decide)]; rw [pz_u1_top (r := 144)]; rw [pz_u1_in (r := 145) (q := 149) (by decide)]; rw [pz_u1_in (r := 145) (q := 148) (by decide)]; rw [pz_u1_in (r := 145) (q := 147) (by decide)]; rw [pz_u1_in (r := 145) (q := 146) (by decide)]; rw [pz_u1_top (r := 145)]; rw [pz_u1_in (r := 146) (q := 149) (by decide)]; rw [pz_u1_in (r := 146) (q := 148) (by decide)]; rw [pz_u1_in (r := 146) (q := 147) (by decide)]; rw [pz_u1_top (r := 146)]; rw [pz_u1_in (r := 147) (q := 149) (by decide)]; rw [pz_u1_in (r := 147) (q := 148) (by decide)]; rw [pz_u1_top (r := 147)]; rw [pz_u1_in (r := 148) (q := 149) (by decide)]; rw [pz_u1_top (r := 148)]; rw [pz_u1_top (r := 149)] <;> rfl)
  subst h9x
  replace hci : q_CI k o9_2 n9_4 w9_5 d9_6 m9_7 V9_8 U9_10 (iv 129) (iv 135) := hci
  replace hRK : q_RK k m9_7 V9_8 U9_10 := hRK
  replace ho2 : o9_2 2 = (iv 2) 2 := ho2
  refine w_getI (v := m9_7 2) is_142 (by decide) rfl ?_
  refine w_ret rfl ?_
  exact ⟨pz_u1 (pz_u1 (pz_u1 (pz_u1 (pz_u1 (pz_u1 (pz_u1 (pz_u1 (pz_u1 (pz_u1 (pz_u1 (pz_u1 (pz_u1 iv 2 o9_2) 134 l9_3) 138 n9_4) 139 w9_5) 140 d9_6) 142 m9_7) 143 V9_8) 144 W9_9) 145 U9_10) 146 Y9_11) 147 p9_12) 148 q9_13) 149 r9_14, ⟨o9_2, l9_3, n9_4, w9_5, d9_6, m9_7, V9_8, W9_9, U9_10, Y9_11, p9_12, q9_13, r9_14, by rfl, by exact hci, by exact ho2⟩, lf_i hRK.2.1 rfl⟩

theorem s_X10_reduced_1 {L : Nat} {iv : Nat → Nat → Int} (f : Int) (t : Int) {k : Nat → Int} (hk : q_KR k) (hE : q_cE k (iv 3)) (hB : q_cB k (iv 4) (iv 5) (iv 6) (iv 7) (iv 8) (iv 9)) (hS : q_cS k (iv 10) (iv 11) (iv 12) (iv 13) (iv 14)) (hC : q_cC k (iv 15) (iv 16)) (hA : q_cA k (iv 17) (iv 18) (iv 19) (iv 20)) (hO : q_cO k (iv 22) (iv 23) (iv 24)) (hL : q_cL k (iv 25)) (hP : q_cP k (iv 27)) (hci : q_CI k (iv 2) (iv 138) (iv 139) (iv 140) (iv 142) (iv 143) (iv 145) (iv 129) (iv 135)) (hcase0 : ¬ (0 ≤ f ∧ f ≤ k 0 - 1 ∧ 0 ≤ t ∧ t ≤ k 0 - 1)) : pz_R (pz_Sh L) 141 [.inr (.inl 2), .inl f, .inl t] iv (.inr 2) iv := by
  intro dv cc ss
  have hk0 := hk.r0
  have hE0 := hE
  have hB0 := hB.1
  have hS0 := hS.1
  have hC0 := hC.1
  have hA0 := hA.1
  show pz_G 141 0 [some (.inr (.inl 2)), some (.inl f), some (.inl t)] [] (pz_Sh L, iv, dv, cc, ss) (pz_P (pz_Sh L) (.inr 2) iv dv cc ss)
  refine pz_G_of pz_b141_0 ?_
  refine w_loc rfl ?_
  refine w_loc rfl ?_
  by_cases h1 : 0 ≤ f ∧ f < k 0
  · first
    | (exfalso; first | omega | contradiction)
    | (have hc2 : pz_R (pz_Sh L) 170 [.inr (.inl 2), .inl f] (iv) (.inl none) (iv) := s_X10_needEvent_y f (by exact hE) (by exact h1)
       refine w_callv hc2 rfl (pz_cokI is_2 rfl) ?_
       refine w_loc rfl ?_
       refine w_loc rfl ?_
       by_cases h3 : 0 ≤ t ∧ t < k 0
       · first
         | (exfalso; first | omega | contradiction)
         | (have hc4 : pz_R (pz_Sh L) 170 [.inr (.inl 2), .inl t] (iv) (.inl none) (iv) := s_X10_needEvent_y t (by exact hE) (by exact h3)
            refine w_callv hc4 rfl (pz_cokI is_2 rfl) ?_
            refine w_loc rfl ?_
            by_cases h5 : q_sen k
            · first
              | (exfalso; first | omega | contradiction)
              | (have hc6 := s_X10_goodReductions_y (L := L) (iv := iv) (by exact hk) (by exact hE) (by exact hB) (by exact hS) (by exact hC) (by exact hL) (by exact hci) (by exact h5)
                 refine w_callE hc6 rfl (pz_cokI is_2 rfl) (fun iv9 h9 => ?_)
                 obtain ⟨o9_7, l9_8, n9_9, w9_10, d9_11, m9_12, V9_13, W9_14, U9_15, Y9_16, p9_17, q9_18, r9_19, h9e, hci, hRK, ho2⟩ := h9
                 have h9x : iv9 = pz_u1 (pz_u1 (pz_u1 (pz_u1 (pz_u1 (pz_u1 (pz_u1 (pz_u1 (pz_u1 (pz_u1 (pz_u1 (pz_u1 (pz_u1 iv 2 o9_7) 134 l9_8) 138 n9_9) 139 w9_10) 140 d9_11) 142 m9_12) 143 V9_13) 144 W9_14) 145 U9_15) 146 Y9_16) 147 p9_17) 148 q9_18) 149 r9_19 := h9e.trans (by rw [pz_u1_top (r := 2)]; rw [pz_u1_top (r := 134)]; rw [pz_u1_top (r := 138)]; rw [pz_u1_top (r := 139)]; rw [pz_u1_top (r := 140)]; rw [pz_u1_top (r := 142)]; rw [pz_u1_top (r := 143)]; rw [pz_u1_top (r := 144)]; rw [pz_u1_top (r := 145)]; rw [pz_u1_top (r := 146)]; rw [pz_u1_top (r := 147)]; rw [pz_u1_top (r := 148)]; rw [pz_u1_top (r := 149)] <;> rfl)
                 subst h9x
                 replace hci : q_CI k o9_7 n9_9 w9_10 d9_11 m9_12 V9_13 U9_15 (iv 129) (iv 135) := hci
                 replace hRK : q_RK k m9_12 V9_13 U9_15 := hRK
                 replace ho2 : o9_7 2 = (iv 2) 2 := ho2
                 have hVt := q_RK_at hk hRK (by assumption) (f := f) (t := t) (by omega) (by omega)
                 refine w_loc rfl ?_
                 refine w_loc rfl ?_
                 have hc20 : pz_R (pz_Sh L) 91 [.inr (.inl 142), .inl f, .inl t] (pz_u1 (pz_u1 (pz_u1 (pz_u1 (pz_u1 (pz_u1 (pz_u1 (pz_u1 (pz_u1 (pz_u1 (pz_u1 (pz_u1 (pz_u1 iv 2 o9_7) 134 l9_8) 138 n9_9) 139 w9_10) 140 d9_11) 142 m9_12) 143 V9_13) 144 W9_14) 145 U9_15) 146 Y9_16) 147 p9_17) 148 q9_18) 149 r9_19) (.inl (some (.inl (V9_13 (10 * f + t).toNat)))) (pz_u1 (pz_u1 (pz_u1 (pz_u1 (pz_u1 (pz_u1 (pz_u1 (pz_u1 (pz_u1 (pz_u1 (pz_u1 (pz_u1 (pz_u1 iv 2 o9_7) 134 l9_8) 138 n9_9) 139 w9_10) 140 d9_11) 142 m9_12) 143 V9_13) 144 W9_14) 145 U9_15) 146 Y9_16) 147 p9_17) 148 q9_18) 149 r9_19) := s_X8_valueOf f t (by show 0 ≤ f ∧ f ≤ 9; omega) (by show 0 ≤ t ∧ t ≤ 9; omega)
                 refine w_call hc20 rfl (pz_cokI is_142 rfl) ?_
                 by_cases h21 : (V9_13 (10 * f + t).toNat) ≠ 1000000000
                 · first
                   | (exfalso; first | omega | contradiction)
                   | (have hc22 : pz_R (pz_Sh L) 177 [.inl (V9_13 (10 * f + t).toNat)] (pz_u1 (pz_u1 (pz_u1 (pz_u1 (pz_u1 (pz_u1 (pz_u1 (pz_u1 (pz_u1 (pz_u1 (pz_u1 (pz_u1 (pz_u1 iv 2 o9_7) 134 l9_8) 138 n9_9) 139 w9_10) 140 d9_11) 142 m9_12) 143 V9_13) 144 W9_14) 145 U9_15) 146 Y9_16) 147 p9_17) 148 q9_18) 149 r9_19) (.inl (some (.inl (V9_13 (10 * f + t).toNat)))) (pz_u1 (pz_u1 (pz_u1 (pz_u1 (pz_u1 (pz_u1 (pz_u1 (pz_u1 (pz_u1 (pz_u1 (pz_u1 (pz_u1 (pz_u1 iv 2 o9_7) 134 l9_8) 138 n9_9) 139 w9_10) 140 d9_11) 142 m9_12) 143 V9_13) 144 W9_14) 145 U9_15) 146 Y9_16) 147 p9_17) 148 q9_18) 149 r9_19) := s_X10_toldValue_y (V9_13 (10 * f + t).toNat) (by show (V9_13 (10 * f + t).toNat) ≠ 1000000000; exact h21)
                      refine w_call hc22 rfl rfl ?_
                      refine w_ret rfl ?_
                      first | exact lf_i (by first | rfl | omega) (by rfl) | (exfalso; omega))
                 · first
                   | (exfalso; first | omega | contradiction)
                   | (have hc23 : pz_R (pz_Sh L) 177 [.inl (V9_13 (10 * f + t).toNat)] (pz_u1 (pz_u1 (pz_u1 (pz_u1 (pz_u1 (pz_u1 (pz_u1 (pz_u1 (pz_u1 (pz_u1 (pz_u1 (pz_u1 (pz_u1 iv 2 o9_7) 134 l9_8) 138 n9_9) 139 w9_10) 140 d9_11) 142 m9_12) 143 V9_13) 144 W9_14) 145 U9_15) 146 Y9_16) 147 p9_17) 148 q9_18) 149 r9_19) (.inr 3) (pz_u1 (pz_u1 (pz_u1 (pz_u1 (pz_u1 (pz_u1 (pz_u1 (pz_u1 (pz_u1 (pz_u1 (pz_u1 (pz_u1 (pz_u1 iv 2 o9_7) 134 l9_8) 138 n9_9) 139 w9_10) 140 d9_11) 142 m9_12) 143 V9_13) 144 W9_14) 145 U9_15) 146 Y9_16) 147 p9_17) 148 q9_18) 149 r9_19) := s_X10_toldValue_n (V9_13 (10 * f + t).toNat) (by show ¬ (V9_13 (10 * f + t).toNat) ≠ 1000000000; exact h21)
                      refine w_calle hc23 rfl rfl rfl ?_
                      first | exact lf_e (by rfl) | (exfalso; omega)))
            · first
              | (exfalso; first | omega | contradiction)
              | (have hc24 := s_X10_goodReductions_n (L := L) (iv := iv) (by exact hk) (by exact hE) (by exact hB) (by exact hS) (by exact hC) (by exact hL) (by exact hci) (by exact h5)
                 refine w_calleE hc24 rfl (pz_cokI is_2 rfl) rfl (fun iv9 h9 => ?_)
                 obtain ⟨o9_25, l9_26, n9_27, w9_28, d9_29, m9_30, V9_31, W9_32, U9_33, Y9_34, p9_35, q9_36, r9_37, h9e, hci, ho2⟩ := h9
                 have h9x : iv9 = pz_u1 (pz_u1 (pz_u1 (pz_u1 (pz_u1 (pz_u1 (pz_u1 (pz_u1 (pz_u1 (pz_u1 (pz_u1 (pz_u1 (pz_u1 iv 2 o9_25) 134 l9_26) 138 n9_27) 139 w9_28) 140 d9_29) 142 m9_30) 143 V9_31) 144 W9_32) 145 U9_33) 146 Y9_34) 147 p9_35) 148 q9_36) 149 r9_37 := h9e.trans (by rw [pz_u1_top (r := 2)]; rw [pz_u1_top (r := 134)]; rw [pz_u1_top (r := 138)]; rw [pz_u1_top (r := 139)]; rw [pz_u1_top (r := 140)]; rw [pz_u1_top (r := 142)]; rw [pz_u1_top (r := 143)]; rw [pz_u1_top (r := 144)]; rw [pz_u1_top (r := 145)]; rw [pz_u1_top (r := 146)]; rw [pz_u1_top (r := 147)]; rw [pz_u1_top (r := 148)]; rw [pz_u1_top (r := 149)] <;> rfl)
                 subst h9x
                 replace hci : q_CI k o9_25 n9_27 w9_28 d9_29 m9_30 V9_31 U9_33 (iv 129) (iv 135) := hci
                 replace ho2 : o9_25 2 = (iv 2) 2 := ho2
                 first | exact lf_e (by rfl) | (exfalso; omega)))
       · first
         | (exfalso; first | omega | contradiction)
         | (have hc38 : pz_R (pz_Sh L) 170 [.inr (.inl 2), .inl t] (iv) (.inr 2) (iv) := s_X10_needEvent_n t (by exact hE) (by exact h3)
            refine w_calle hc38 rfl (pz_cokI is_2 rfl) rfl ?_
            first | exact lf_e (by rfl) | (exfalso; omega)))
  · first
    | (exfalso; first | omega | contradiction)
    | (have hc39 : pz_R (pz_Sh L) 170 [.inr (.inl 2), .inl f] (iv) (.inr 2) (iv) := s_X10_needEvent_n f (by exact hE) (by exact h1)
       refine w_calle hc39 rfl (pz_cokI is_2 rfl) rfl ?_
       first | exact lf_e (by rfl) | (exfalso; omega))

theorem s_X10_reduced_2 {L : Nat} {iv : Nat → Nat → Int} (f : Int) (t : Int) {k : Nat → Int} (hk : q_KR k) (hE : q_cE k (iv 3)) (hB : q_cB k (iv 4) (iv 5) (iv 6) (iv 7) (iv 8) (iv 9)) (hS : q_cS k (iv 10) (iv 11) (iv 12) (iv 13) (iv 14)) (hC : q_cC k (iv 15) (iv 16)) (hA : q_cA k (iv 17) (iv 18) (iv 19) (iv 20)) (hO : q_cO k (iv 22) (iv 23) (iv 24)) (hL : q_cL k (iv 25)) (hP : q_cP k (iv 27)) (hci : q_CI k (iv 2) (iv 138) (iv 139) (iv 140) (iv 142) (iv 143) (iv 145) (iv 129) (iv 135)) (hcase0 : 0 ≤ f ∧ f ≤ k 0 - 1 ∧ 0 ≤ t ∧ t ≤ k 0 - 1) (hcase1 : ¬ q_sen k) : pz_RE (pz_Sh L) 141 [.inr (.inl 2), .inl f, .inl t] iv (.inr 0) (fun iv9 => ∃ (o9 : Nat → Int) (l9 : Nat → Int) (n9 : Nat → Int) (w9 : Nat → Int) (d9 : Nat → Int) (m9 : Nat → Int) (V9 : Nat → Int) (W9 : Nat → Int) (U9 : Nat → Int) (Y9 : Nat → Int) (p9 : Nat → Int) (q9 : Nat → Int) (r9 : Nat → Int), iv9 = pz_u1 (pz_u1 (pz_u1 (pz_u1 (pz_u1 (pz_u1 (pz_u1 (pz_u1 (pz_u1 (pz_u1 (pz_u1 (pz_u1 (pz_u1 iv 2 o9) 134 l9) 138 n9) 139 w9) 140 d9) 142 m9) 143 V9) 144 W9) 145 U9) 146 Y9) 147 p9) 148 q9) 149 r9 ∧ (q_CI k o9 n9 w9 d9 m9 V9 U9 (iv 129) (iv 135)) ∧ (o9 2 = (iv 2) 2)) := by
  intro dv cc ss
  have hk0 := hk.r0
  have hE0 := hE
  have hB0 := hB.1
  have hS0 := hS.1
  have hC0 := hC.1
  have hA0 := hA.1
  refine pz_G_mem (iv2 := pz_u1 (pz_u1 (pz_u1 (pz_u1 (pz_u1 (pz_u1 (pz_u1 (pz_u1 (pz_u1 (pz_u1 (pz_u1 (pz_u1 (pz_u1 iv 2 (iv 2)) 134 (iv 134)) 138 (iv 138)) 139 (iv 139)) 140 (iv 140)) 142 (iv 142)) 143 (iv 143)) 144 (iv 144)) 145 (iv 145)) 146 (iv 146)) 147 (iv 147)) 148 (iv 148)) 149 (iv 149)) (by exact (((((((((((((pz_u1_self iv 2).symm).trans (pz_u1_self (pz_u1 iv 2 (iv 2)) 134).symm).trans (pz_u1_self (pz_u1 (pz_u1 iv 2 (iv 2)) 134 (iv 134)) 138).symm).trans (pz_u1_self (pz_u1 (pz_u1 (pz_u1 iv 2 (iv 2)) 134 (iv 134)) 138 (iv 138)) 139).symm).trans (pz_u1_self (pz_u1 (pz_u1 (pz_u1 (pz_u1 iv 2 (iv 2)) 134 (iv 134)) 138 (iv 138)) 139 (iv 139)) 140).symm).trans (pz_u1_self (pz_u1 (pz_u1 (pz_u1 (pz_u1 (pz_u1 iv 2 (iv 2)) 134 (iv 134)) 138 (iv 138)) 139 (iv 139)) 140 (iv 140)) 142).symm).trans (pz_u1_self (pz_u1 (pz_u1 (pz_u1 (pz_u1 (pz_u1 (pz_u1 iv 2 (iv 2)) 134 (iv 134)) 138 (iv 138)) 139 (iv 139)) 140 (iv 140)) 142 (iv 142)) 143).symm).trans (pz_u1_self (pz_u1 (pz_u1 (pz_u1 (pz_u1 (pz_u1 (pz_u1 (pz_u1 iv 2 (iv 2)) 134 (iv 134)) 138 (iv 138)) 139 (iv 139)) 140 (iv 140)) 142 (iv 142)) 143 (iv 143)) 144).symm).trans (pz_u1_self (pz_u1 (pz_u1 (pz_u1 (pz_u1 (pz_u1 (pz_u1 (pz_u1 (pz_u1 iv 2 (iv 2)) 134 (iv 134)) 138 (iv 138)) 139 (iv 139)) 140 (iv 140)) 142 (iv 142)) 143 (iv 143)) 144 (iv 144)) 145).symm).trans (pz_u1_self (pz_u1 (pz_u1 (pz_u1 (pz_u1 (pz_u1 (pz_u1 (pz_u1 (pz_u1 (pz_u1 iv 2 (iv 2)) 134 (iv 134)) 138 (iv 138)) 139 (iv 139)) 140 (iv 140)) 142 (iv 142)) 143 (iv 143)) 144 (iv 144)) 145 (iv 145)) 146).symm).trans (pz_u1_self (pz_u1 (pz_u1 (pz_u1 (pz_u1 (pz_u1 (pz_u1 (pz_u1 (pz_u1 (pz_u1 (pz_u1 iv 2 (iv 2)) 134 (iv 134)) 138 (iv 138)) 139 (iv 139)) 140 (iv 140)) 142 (iv 142)) 143 (iv 143)) 144 (iv 144)) 145 (iv 145)) 146 (iv 146)) 147).symm).trans (pz_u1_self (pz_u1 (pz_u1 (pz_u1 (pz_u1 (pz_u1 (pz_u1 (pz_u1 (pz_u1 (pz_u1 (pz_u1 (pz_u1 iv 2 (iv 2)) 134 (iv 134)) 138 (iv 138)) 139 (iv 139)) 140 (iv 140)) 142 (iv 142)) 143 (iv 143)) 144 (iv 144)) 145 (iv 145)) 146 (iv 146)) 147 (iv 147)) 148).symm).trans (pz_u1_self (pz_u1 (pz_u1 (pz_u1 (pz_u1 (pz_u1 (pz_u1 (pz_u1 (pz_u1 (pz_u1 (pz_u1 (pz_u1 (pz_u1 iv 2 (iv 2)) 134 (iv 134)) 138 (iv 138)) 139 (iv 139)) 140 (iv 140)) 142 (iv 142)) 143 (iv 143)) 144 (iv 144)) 145 (iv 145)) 146 (iv 146)) 147 (iv 147)) 148 (iv 148)) 149).symm) ?_
  show pz_G 141 0 [some (.inr (.inl 2)), some (.inl f), some (.inl t)] [] (pz_Sh L, pz_u1 (pz_u1 (pz_u1 (pz_u1 (pz_u1 (pz_u1 (pz_u1 (pz_u1 (pz_u1 (pz_u1 (pz_u1 (pz_u1 (pz_u1 iv 2 (iv 2)) 134 (iv 134)) 138 (iv 138)) 139 (iv 139)) 140 (iv 140)) 142 (iv 142)) 143 (iv 143)) 144 (iv 144)) 145 (iv 145)) 146 (iv 146)) 147 (iv 147)) 148 (iv 148)) 149 (iv 149), dv, cc, ss) (pz_PE (pz_Sh L) (.inr 0) (fun iv9 => ∃ (o9 : Nat → Int) (l9 : Nat → Int) (n9 : Nat → Int) (w9 : Nat → Int) (d9 : Nat → Int) (m9 : Nat → Int) (V9 : Nat → Int) (W9 : Nat → Int) (U9 : Nat → Int) (Y9 : Nat → Int) (p9 : Nat → Int) (q9 : Nat → Int) (r9 : Nat → Int), iv9 = pz_u1 (pz_u1 (pz_u1 (pz_u1 (pz_u1 (pz_u1 (pz_u1 (pz_u1 (pz_u1 (pz_u1 (pz_u1 (pz_u1 (pz_u1 iv 2 o9) 134 l9) 138 n9) 139 w9) 140 d9) 142 m9) 143 V9) 144 W9) 145 U9) 146 Y9) 147 p9) 148 q9) 149 r9 ∧ (q_CI k o9 n9 w9 d9 m9 V9 U9 (iv 129) (iv 135)) ∧ (o9 2 = (iv 2) 2)) dv cc ss)
  refine pz_G_of pz_b141_0 ?_
  refine w_loc rfl ?_
  refine w_loc rfl ?_
  by_cases h1 : 0 ≤ f ∧ f < k 0
  · first
    | (exfalso; first | omega | contradiction)
    | (have hc2 : pz_R (pz_Sh L) 170 [.inr (.inl 2), .inl f] (pz_u1 (pz_u1 (pz_u1 (pz_u1 (pz_u1 (pz_u1 (pz_u1 (pz_u1 (pz_u1 (pz_u1 (pz_u1 (pz_u1 (pz_u1 iv 2 (iv 2)) 134 (iv 134)) 138 (iv 138)) 139 (iv 139)) 140 (iv 140)) 142 (iv 142)) 143 (iv 143)) 144 (iv 144)) 145 (iv 145)) 146 (iv 146)) 147 (iv 147)) 148 (iv 148)) 149 (iv 149)) (.inl none) (pz_u1 (pz_u1 (pz_u1 (pz_u1 (pz_u1 (pz_u1 (pz_u1 (pz_u1 (pz_u1 (pz_u1 (pz_u1 (pz_u1 (pz_u1 iv 2 (iv 2)) 134 (iv 134)) 138 (iv 138)) 139 (iv 139)) 140 (iv 140)) 142 (iv 142)) 143 (iv 143)) 144 (iv 144)) 145 (iv 145)) 146 (iv 146)) 147 (iv 147)) 148 (iv 148)) 149 (iv 149)) := s_X10_needEvent_y f (by show q_cE k (iv 3); exact hE) (by show 0 ≤ f ∧ f < k 0; exact h1)
       refine w_callv hc2 rfl (pz_cokI is_2 rfl) ?_
       refine w_loc rfl ?_
       refine w_loc rfl ?_
       by_cases h3 : 0 ≤ t ∧ t < k 0
       · first
         | (exfalso; first | omega | contradiction)
         | (have hc4 : pz_R (pz_Sh L) 170 [.inr (.inl 2), .inl t] (pz_u1 (pz_u1 (pz_u1 (pz_u1 (pz_u1 (pz_u1 (pz_u1 (pz_u1 (pz_u1 (pz_u1 (pz_u1 (pz_u1 (pz_u1 iv 2 (iv 2)) 134 (iv 134)) 138 (iv 138)) 139 (iv 139)) 140 (iv 140)) 142 (iv 142)) 143 (iv 143)) 144 (iv 144)) 145 (iv 145)) 146 (iv 146)) 147 (iv 147)) 148 (iv 148)) 149 (iv 149)) (.inl none) (pz_u1 (pz_u1 (pz_u1 (pz_u1 (pz_u1 (pz_u1 (pz_u1 (pz_u1 (pz_u1 (pz_u1 (pz_u1 (pz_u1 (pz_u1 iv 2 (iv 2)) 134 (iv 134)) 138 (iv 138)) 139 (iv 139)) 140 (iv 140)) 142 (iv 142)) 143 (iv 143)) 144 (iv 144)) 145 (iv 145)) 146 (iv 146)) 147 (iv 147)) 148 (iv 148)) 149 (iv 149)) := s_X10_needEvent_y t (by show q_cE k (iv 3); exact hE) (by show 0 ≤ t ∧ t < k 0; exact h3)
            refine w_callv hc4 rfl (pz_cokI is_2 rfl) ?_
            refine w_loc rfl ?_
            by_cases h5 : q_sen k
            · first
              | (exfalso; first | omega | contradiction)
              | (have hc6 := s_X10_goodReductions_y (L := L) (iv := pz_u1 (pz_u1 (pz_u1 (pz_u1 (pz_u1 (pz_u1 (pz_u1 (pz_u1 (pz_u1 (pz_u1 (pz_u1 (pz_u1 (pz_u1 iv 2 (iv 2)) 134 (iv 134)) 138 (iv 138)) 139 (iv 139)) 140 (iv 140)) 142 (iv 142)) 143 (iv 143)) 144 (iv 144)) 145 (iv 145)) 146 (iv 146)) 147 (iv 147)) 148 (iv 148)) 149 (iv 149)) (by show q_KR k; exact hk) (by show q_cE k (iv 3); exact hE) (by show q_cB k (iv 4) (iv 5) (iv 6) (iv 7) (iv 8) (iv 9); exact hB) (by show q_cS k (iv 10) (iv 11) (iv 12) (iv 13) (iv 14); exact hS) (by show q_cC k (iv 15) (iv 16); exact hC) (by show q_cL k (iv 25); exact hL) (by show q_CI k (iv 2) (iv 138) (iv 139) (iv 140) (iv 142) (iv 143) (iv 145) (iv 129) (iv 135); exact hci) (by show q_sen k; exact h5)
                 refine w_callE hc6 rfl (pz_cokI is_2 rfl) (fun iv9 h9 => ?_)
                 obtain ⟨o9_7, l9_8, n9_9, w9_10, d9_11, m9_12, V9_13, W9_14, U9_15, Y9_16, p9_17, q9_18, r9_19, h9e, hci, hRK, ho2⟩ := h9
                 have h9x : iv9 = pz_u1 (pz_u1 (pz_u1 (pz_u1 (pz_u1 (pz_u1 (pz_u1 (pz_u1 (pz_u1 (pz_u1 (pz_u1 (pz_u1 (pz_u1 iv 2 o9_7) 134 l9_8) 138 n9_9) 139 w9_10) 140 d9_11) 142 m9_12) 143 V9_13) 144 W9_14) 145 U9_15) 146 Y9_16) 147 p9_17) 148 q9_18) 149 r9_19 := h9e.trans (by rw [pz_u1_in (r := 2) (q := 149) (by decide)]; rw [pz_u1_in (r := 2) (q := 148) (by decide)]; rw [pz_u1_in (r := 2) (q := 147) (by decide)]; rw [pz_u1_in (r := 2) (q := 146) (by decide)]; rw [pz_u1_in (r := 2) (q := 145) (by decide)]; rw [pz_u1_in (r := 2) (q := 144) (by decide)]; rw [pz_u1_in (r := 2) (q := 143) (by decide)]; rw [pz_u1_in (r := 2) (q := 142) (by decide)]; rw [pz_u1_in (r := 2) (q := 140) (by decide)]; rw [pz_u1_in (r := 2) (q := 139) (by decide)]; rw [pz_u1_in (r := 2) (q := 138) (by decide)]; rw [pz_u1_in (r := 2) (q := 134) (by decide)]; rw [pz_u1_top (r := 2)]; rw [pz_u1_in (r := 134) (q := 149) (by decide)]; rw [pz_u1_in (r := 134) (q := 148) (by decide)]; rw [pz_u1_in (r := 134) (q := 147) (by decide)]; rw [pz_u1_in (r := 134) (q := 146) (by decide)]; rw [pz_u1_in (r := 134) (q := 145) (by decide)]; rw [pz_u1_in (r := 134) (q := 144) (by decide)]; rw [pz_u1_in (r := 134) (q := 143) (by decide)]; rw [pz_u1_in (r := 134) (q := 142) (by decide)]; rw [pz_u1_in (r := 134) (q := 140) (by decide)]; rw [pz_u1_in (r := 134) (q := 139) (by decide)]; rw [pz_u1_in (r := 134) (q := 138) (by decide)]; rw [pz_u1_top (r := 134)]; rw [pz_u1_in (r := 138) (q := 149) (by decide)]; rw [pz_u1_in (r := 138) (q := 148) (by decide)]; rw [pz_u1_in (r := 138) (q := 147) (by decide)]; rw [pz_u1_in (r := 138) (q := 146) (by decide)]; rw [pz_u1_in (r := 138) (q := 145) (by decide)]; rw [pz_u1_in (r := 138) (q := 144) (by decide)]; rw [pz_u1_in (r := 138) (q := 143) (by decide)]; rw [pz_u1_in (r := 138) (q := 142) (by decide)]; rw [pz_u1_in (r := 138) (q := 140) (by decide)]; rw [pz_u1_in (r := 138) (q := 139) (by decide)]; rw [pz_u1_top (r := 138)]; rw [pz_u1_in (r := 139) (q := 149) (by decide)]; rw [pz_u1_in (r := 139) (q := 148) (by decide)]; rw [pz_u1_in (r := 139) (q := 147) (by decide)]; rw [pz_u1_in (r := 139) (q := 146) (by decide)]; rw [pz_u1_in (r := 139) (q := 145) (by decide)]; rw [pz_u1_in (r := 139) (q := 144) (by decide)]; rw [pz_u1_in (r := 139) (q := 143) (by decide)]; rw [pz_u1_in (r := 139) (q := 142) (by decide)]; rw [pz_u1_in (r := 139) (q := 140) (by decide)]; rw [pz_u1_top (r := 139)]; rw [pz_u1_in (r := 140) (q := 149) (by decide)]; rw [pz_u1_in (r := 140) (q := 148) (by decide)]; rw [pz_u1_in (r := 140) (q := 147) (by decide)]; rw [pz_u1_in (r := 140) (q := 146) (by decide)]; rw [pz_u1_in (r := 140) (q := 145) (by decide)]; rw [pz_u1_in (r := 140) (q := 144) (by decide)]; rw [pz_u1_in (r := 140) (q := 143) (by decide)]; rw [pz_u1_in (r := 140) (q := 142) (by decide)]; rw [pz_u1_top (r := 140)]; rw [pz_u1_in (r := 142) (q := 149) (by decide)]; rw [pz_u1_in (r := 142) (q := 148) (by decide)]; rw [pz_u1_in (r := 142) (q := 147) (by decide)]; rw [pz_u1_in (r := 142) (q := 146) (by decide)]; rw [pz_u1_in (r := 142) (q := 145) (by decide)]; rw [pz_u1_in (r := 142) (q := 144) (by decide)]; rw [pz_u1_in (r := 142) (q := 143) (by decide)]; rw [pz_u1_top (r := 142)]; rw [pz_u1_in (r := 143) (q := 149) (by decide)]; rw [pz_u1_in (r := 143) (q := 148) (by decide)]; rw [pz_u1_in (r := 143) (q := 147) (by decide)]; rw [pz_u1_in (r := 143) (q := 146) (by decide)]; rw [pz_u1_in (r := 143) (q := 145) (by decide)]; rw [pz_u1_in (r := 143) (q := 144) (by decide)]; rw [pz_u1_top (r := 143)]; rw [pz_u1_in (r := 144) (q := 149) (by decide)]; rw [pz_u1_in (r := 144) (q := 148) (by decide)]; rw [pz_u1_in (r := 144) (q := 147) (by decide)]; rw [pz_u1_in (r := 144) (q := 146) (by decide)]; rw [pz_u1_in (r := 144) (q := 145) (by decide)]; rw [pz_u1_top (r := 144)]; rw [pz_u1_in (r := 145) (q := 149) (by decide)]; rw [pz_u1_in (r := 145) (q := 148) (by decide)]; rw [pz_u1_in (r := 145) (q := 147) (by decide)]; rw [pz_u1_in (r := 145) (q := 146) (by decide)]; rw [pz_u1_top (r := 145)]; rw [pz_u1_in (r := 146) (q := 149) (by decide)]; rw [pz_u1_in (r := 146) (q := 148) (by decide)]; rw [pz_u1_in (r := 146) (q := 147) (by decide)]; rw [pz_u1_top (r := 146)]; rw [pz_u1_in (r := 147) (q := 149) (by decide)]; rw [pz_u1_in (r := 147) (q := 148) (by decide)]; rw [pz_u1_top (r := 147)]; rw [pz_u1_in (r := 148) (q := 149) (by decide)]; rw [pz_u1_top (r := 148)]; rw [pz_u1_top (r := 149)] <;> rfl)
                 subst h9x
                 replace hci : q_CI k o9_7 n9_9 w9_10 d9_11 m9_12 V9_13 U9_15 (iv 129) (iv 135) := hci
                 replace hRK : q_RK k m9_12 V9_13 U9_15 := hRK
                 replace ho2 : o9_7 2 = (iv 2) 2 := ho2
                 have hVt := q_RK_at hk hRK (by assumption) (f := f) (t := t) (by omega) (by omega)
                 refine w_loc rfl ?_
                 refine w_loc rfl ?_
                 have hc20 : pz_R (pz_Sh L) 91 [.inr (.inl 142), .inl f, .inl t] (pz_u1 (pz_u1 (pz_u1 (pz_u1 (pz_u1 (pz_u1 (pz_u1 (pz_u1 (pz_u1 (pz_u1 (pz_u1 (pz_u1 (pz_u1 iv 2 o9_7) 134 l9_8) 138 n9_9) 139 w9_10) 140 d9_11) 142 m9_12) 143 V9_13) 144 W9_14) 145 U9_15) 146 Y9_16) 147 p9_17) 148 q9_18) 149 r9_19) (.inl (some (.inl (V9_13 (10 * f + t).toNat)))) (pz_u1 (pz_u1 (pz_u1 (pz_u1 (pz_u1 (pz_u1 (pz_u1 (pz_u1 (pz_u1 (pz_u1 (pz_u1 (pz_u1 (pz_u1 iv 2 o9_7) 134 l9_8) 138 n9_9) 139 w9_10) 140 d9_11) 142 m9_12) 143 V9_13) 144 W9_14) 145 U9_15) 146 Y9_16) 147 p9_17) 148 q9_18) 149 r9_19) := s_X8_valueOf f t (by show 0 ≤ f ∧ f ≤ 9; omega) (by show 0 ≤ t ∧ t ≤ 9; omega)
                 refine w_call hc20 rfl (pz_cokI is_142 rfl) ?_
                 by_cases h21 : (V9_13 (10 * f + t).toNat) ≠ 1000000000
                 · first
                   | (exfalso; first | omega | contradiction)
                   | (have hc22 : pz_R (pz_Sh L) 177 [.inl (V9_13 (10 * f + t).toNat)] (pz_u1 (pz_u1 (pz_u1 (pz_u1 (pz_u1 (pz_u1 (pz_u1 (pz_u1 (pz_u1 (pz_u1 (pz_u1 (pz_u1 (pz_u1 iv 2 o9_7) 134 l9_8) 138 n9_9) 139 w9_10) 140 d9_11) 142 m9_12) 143 V9_13) 144 W9_14) 145 U9_15) 146 Y9_16) 147 p9_17) 148 q9_18) 149 r9_19) (.inl (some (.inl (V9_13 (10 * f + t).toNat)))) (pz_u1 (pz_u1 (pz_u1 (pz_u1 (pz_u1 (pz_u1 (pz_u1 (pz_u1 (pz_u1 (pz_u1 (pz_u1 (pz_u1 (pz_u1 iv 2 o9_7) 134 l9_8) 138 n9_9) 139 w9_10) 140 d9_11) 142 m9_12) 143 V9_13) 144 W9_14) 145 U9_15) 146 Y9_16) 147 p9_17) 148 q9_18) 149 r9_19) := s_X10_toldValue_y (V9_13 (10 * f + t).toNat) (by show (V9_13 (10 * f + t).toNat) ≠ 1000000000; exact h21)
                      refine w_call hc22 rfl rfl ?_
                      refine w_ret rfl ?_
                      first | exact ⟨pz_u1 (pz_u1 (pz_u1 (pz_u1 (pz_u1 (pz_u1 (pz_u1 (pz_u1 (pz_u1 (pz_u1 (pz_u1 (pz_u1 (pz_u1 iv 2 o9_7) 134 l9_8) 138 n9_9) 139 w9_10) 140 d9_11) 142 m9_12) 143 V9_13) 144 W9_14) 145 U9_15) 146 Y9_16) 147 p9_17) 148 q9_18) 149 r9_19, ⟨o9_7, l9_8, n9_9, w9_10, d9_11, m9_12, V9_13, W9_14, U9_15, Y9_16, p9_17, q9_18, r9_19, by rfl, by exact hci, by exact ho2⟩, lf_i (by first | rfl | omega) (by rfl)⟩ | (exfalso; omega))
                 · first
                   | (exfalso; first | omega | contradiction)
                   | (have hc23 : pz_R (pz_Sh L) 177 [.inl (V9_13 (10 * f + t).toNat)] (pz_u1 (pz_u1 (pz_u1 (pz_u1 (pz_u1 (pz_u1 (pz_u1 (pz_u1 (pz_u1 (pz_u1 (pz_u1 (pz_u1 (pz_u1 iv 2 o9_7) 134 l9_8) 138 n9_9) 139 w9_10) 140 d9_11) 142 m9_12) 143 V9_13) 144 W9_14) 145 U9_15) 146 Y9_16) 147 p9_17) 148 q9_18) 149 r9_19) (.inr 3) (pz_u1 (pz_u1 (pz_u1 (pz_u1 (pz_u1 (pz_u1 (pz_u1 (pz_u1 (pz_u1 (pz_u1 (pz_u1 (pz_u1 (pz_u1 iv 2 o9_7) 134 l9_8) 138 n9_9) 139 w9_10) 140 d9_11) 142 m9_12) 143 V9_13) 144 W9_14) 145 U9_15) 146 Y9_16) 147 p9_17) 148 q9_18) 149 r9_19) := s_X10_toldValue_n (V9_13 (10 * f + t).toNat) (by show ¬ (V9_13 (10 * f + t).toNat) ≠ 1000000000; exact h21)
                      refine w_calle hc23 rfl rfl rfl ?_
                      first | exact ⟨pz_u1 (pz_u1 (pz_u1 (pz_u1 (pz_u1 (pz_u1 (pz_u1 (pz_u1 (pz_u1 (pz_u1 (pz_u1 (pz_u1 (pz_u1 iv 2 o9_7) 134 l9_8) 138 n9_9) 139 w9_10) 140 d9_11) 142 m9_12) 143 V9_13) 144 W9_14) 145 U9_15) 146 Y9_16) 147 p9_17) 148 q9_18) 149 r9_19, ⟨o9_7, l9_8, n9_9, w9_10, d9_11, m9_12, V9_13, W9_14, U9_15, Y9_16, p9_17, q9_18, r9_19, by rfl, by exact hci, by exact ho2⟩, lf_e (by rfl)⟩ | (exfalso; omega)))
            · first
              | (exfalso; first | omega | contradiction)
              | (have hc24 := s_X10_goodReductions_n (L := L) (iv := pz_u1 (pz_u1 (pz_u1 (pz_u1 (pz_u1 (pz_u1 (pz_u1 (pz_u1 (pz_u1 (pz_u1 (pz_u1 (pz_u1 (pz_u1 iv 2 (iv 2)) 134 (iv 134)) 138 (iv 138)) 139 (iv 139)) 140 (iv 140)) 142 (iv 142)) 143 (iv 143)) 144 (iv 144)) 145 (iv 145)) 146 (iv 146)) 147 (iv 147)) 148 (iv 148)) 149 (iv 149)) (by show q_KR k; exact hk) (by show q_cE k (iv 3); exact hE) (by show q_cB k (iv 4) (iv 5) (iv 6) (iv 7) (iv 8) (iv 9); exact hB) (by show q_cS k (iv 10) (iv 11) (iv 12) (iv 13) (iv 14); exact hS) (by show q_cC k (iv 15) (iv 16); exact hC) (by show q_cL k (iv 25); exact hL) (by show q_CI k (iv 2) (iv 138) (iv 139) (iv 140) (iv 142) (iv 143) (iv 145) (iv 129) (iv 135); exact hci) (by show ¬ q_sen k; exact h5)
                 refine w_calleE hc24 rfl (pz_cokI is_2 rfl) rfl (fun iv9 h9 => ?_)
                 obtain ⟨o9_25, l9_26, n9_27, w9_28, d9_29, m9_30, V9_31, W9_32, U9_33, Y9_34, p9_35, q9_36, r9_37, h9e, hci, ho2⟩ := h9
                 have h9x : iv9 = pz_u1 (pz_u1 (pz_u1 (pz_u1 (pz_u1 (pz_u1 (pz_u1 (pz_u1 (pz_u1 (pz_u1 (pz_u1 (pz_u1 (pz_u1 iv 2 o9_25) 134 l9_26) 138 n9_27) 139 w9_28) 140 d9_29) 142 m9_30) 143 V9_31) 144 W9_32) 145 U9_33) 146 Y9_34) 147 p9_35) 148 q9_36) 149 r9_37 := h9e.trans (by rw [pz_u1_in (r := 2) (q := 149) (by decide)]; rw [pz_u1_in (r := 2) (q := 148) (by decide)]; rw [pz_u1_in (r := 2) (q := 147) (by decide)]; rw [pz_u1_in (r := 2) (q := 146) (by decide)]; rw [pz_u1_in (r := 2) (q := 145) (by decide)]; rw [pz_u1_in (r := 2) (q := 144) (by decide)]; rw [pz_u1_in (r := 2) (q := 143) (by decide)]; rw [pz_u1_in (r := 2) (q := 142) (by decide)]; rw [pz_u1_in (r := 2) (q := 140) (by decide)]; rw [pz_u1_in (r := 2) (q := 139) (by decide)]; rw [pz_u1_in (r := 2) (q := 138) (by decide)]; rw [pz_u1_in (r := 2) (q := 134) (by decide)]; rw [pz_u1_top (r := 2)]; rw [pz_u1_in (r := 134) (q := 149) (by decide)]; rw [pz_u1_in (r := 134) (q := 148) (by decide)]; rw [pz_u1_in (r := 134) (q := 147) (by decide)]; rw [pz_u1_in (r := 134) (q := 146) (by decide)]; rw [pz_u1_in (r := 134) (q := 145) (by decide)]; rw [pz_u1_in (r := 134) (q := 144) (by decide)]; rw [pz_u1_in (r := 134) (q := 143) (by decide)]; rw [pz_u1_in (r := 134) (q := 142) (by decide)]; rw [pz_u1_in (r := 134) (q := 140) (by decide)]; rw [pz_u1_in (r := 134) (q := 139) (by decide)]; rw [pz_u1_in (r := 134) (q := 138) (by decide)]; rw [pz_u1_top (r := 134)]; rw [pz_u1_in (r := 138) (q := 149) (by decide)]; rw [pz_u1_in (r := 138) (q := 148) (by decide)]; rw [pz_u1_in (r := 138) (q := 147) (by decide)]; rw [pz_u1_in (r := 138) (q := 146) (by decide)]; rw [pz_u1_in (r := 138) (q := 145) (by decide)]; rw [pz_u1_in (r := 138) (q := 144) (by decide)]; rw [pz_u1_in (r := 138) (q := 143) (by decide)]; rw [pz_u1_in (r := 138) (q := 142) (by decide)]; rw [pz_u1_in (r := 138) (q := 140) (by decide)]; rw [pz_u1_in (r := 138) (q := 139) (by decide)]; rw [pz_u1_top (r := 138)]; rw [pz_u1_in (r := 139) (q := 149) (by decide)]; rw [pz_u1_in (r := 139) (q := 148) (by decide)]; rw [pz_u1_in (r := 139) (q := 147) (by decide)]; rw [pz_u1_in (r := 139) (q := 146) (by decide)]; rw [pz_u1_in (r := 139) (q := 145) (by decide)]; rw [pz_u1_in (r := 139) (q := 144) (by decide)]; rw [pz_u1_in (r := 139) (q := 143) (by decide)]; rw [pz_u1_in (r := 139) (q := 142) (by decide)]; rw [pz_u1_in (r := 139) (q := 140) (by decide)]; rw [pz_u1_top (r := 139)]; rw [pz_u1_in (r := 140) (q := 149) (by decide)]; rw [pz_u1_in (r := 140) (q := 148) (by decide)]; rw [pz_u1_in (r := 140) (q := 147) (by decide)]; rw [pz_u1_in (r := 140) (q := 146) (by decide)]; rw [pz_u1_in (r := 140) (q := 145) (by decide)]; rw [pz_u1_in (r := 140) (q := 144) (by decide)]; rw [pz_u1_in (r := 140) (q := 143) (by decide)]; rw [pz_u1_in (r := 140) (q := 142) (by decide)]; rw [pz_u1_top (r := 140)]; rw [pz_u1_in (r := 142) (q := 149) (by decide)]; rw [pz_u1_in (r := 142) (q := 148) (by decide)]; rw [pz_u1_in (r := 142) (q := 147) (by decide)]; rw [pz_u1_in (r := 142) (q := 146) (by decide)]; rw [pz_u1_in (r := 142) (q := 145) (by decide)]; rw [pz_u1_in (r := 142) (q := 144) (by decide)]; rw [pz_u1_in (r := 142) (q := 143) (by decide)]; rw [pz_u1_top (r := 142)]; rw [pz_u1_in (r := 143) (q := 149) (by decide)]; rw [pz_u1_in (r := 143) (q := 148) (by decide)]; rw [pz_u1_in (r := 143) (q := 147) (by decide)]; rw [pz_u1_in (r := 143) (q := 146) (by decide)]; rw [pz_u1_in (r := 143) (q := 145) (by decide)]; rw [pz_u1_in (r := 143) (q := 144) (by decide)]; rw [pz_u1_top (r := 143)]; rw [pz_u1_in (r := 144) (q := 149) (by decide)]; rw [pz_u1_in (r := 144) (q := 148) (by decide)]; rw [pz_u1_in (r := 144) (q := 147) (by decide)]; rw [pz_u1_in (r := 144) (q := 146) (by decide)]; rw [pz_u1_in (r := 144) (q := 145) (by decide)]; rw [pz_u1_top (r := 144)]; rw [pz_u1_in (r := 145) (q := 149) (by decide)]; rw [pz_u1_in (r := 145) (q := 148) (by decide)]; rw [pz_u1_in (r := 145) (q := 147) (by decide)]; rw [pz_u1_in (r := 145) (q := 146) (by decide)]; rw [pz_u1_top (r := 145)]; rw [pz_u1_in (r := 146) (q := 149) (by decide)]; rw [pz_u1_in (r := 146) (q := 148) (by decide)]; rw [pz_u1_in (r := 146) (q := 147) (by decide)]; rw [pz_u1_top (r := 146)]; rw [pz_u1_in (r := 147) (q := 149) (by decide)]; rw [pz_u1_in (r := 147) (q := 148) (by decide)]; rw [pz_u1_top (r := 147)]; rw [pz_u1_in (r := 148) (q := 149) (by decide)]; rw [pz_u1_top (r := 148)]; rw [pz_u1_top (r := 149)] <;> rfl)
                 subst h9x
                 replace hci : q_CI k o9_25 n9_27 w9_28 d9_29 m9_30 V9_31 U9_33 (iv 129) (iv 135) := hci
                 replace ho2 : o9_25 2 = (iv 2) 2 := ho2
                 first | exact ⟨pz_u1 (pz_u1 (pz_u1 (pz_u1 (pz_u1 (pz_u1 (pz_u1 (pz_u1 (pz_u1 (pz_u1 (pz_u1 (pz_u1 (pz_u1 iv 2 o9_25) 134 l9_26) 138 n9_27) 139 w9_28) 140 d9_29) 142 m9_30) 143 V9_31) 144 W9_32) 145 U9_33) 146 Y9_34) 147 p9_35) 148 q9_36) 149 r9_37, ⟨o9_25, l9_26, n9_27, w9_28, d9_29, m9_30, V9_31, W9_32, U9_33, Y9_34, p9_35, q9_36, r9_37, by rfl, by exact hci, by exact ho2⟩, lf_e (by rfl)⟩ | (exfalso; omega)))
       · first
         | (exfalso; first | omega | contradiction)
         | (have hc38 : pz_R (pz_Sh L) 170 [.inr (.inl 2), .inl t] (pz_u1 (pz_u1 (pz_u1 (pz_u1 (pz_u1 (pz_u1 (pz_u1 (pz_u1 (pz_u1 (pz_u1 (pz_u1 (pz_u1 (pz_u1 iv 2 (iv 2)) 134 (iv 134)) 138 (iv 138)) 139 (iv 139)) 140 (iv 140)) 142 (iv 142)) 143 (iv 143)) 144 (iv 144)) 145 (iv 145)) 146 (iv 146)) 147 (iv 147)) 148 (iv 148)) 149 (iv 149)) (.inr 2) (pz_u1 (pz_u1 (pz_u1 (pz_u1 (pz_u1 (pz_u1 (pz_u1 (pz_u1 (pz_u1 (pz_u1 (pz_u1 (pz_u1 (pz_u1 iv 2 (iv 2)) 134 (iv 134)) 138 (iv 138)) 139 (iv 139)) 140 (iv 140)) 142 (iv 142)) 143 (iv 143)) 144 (iv 144)) 145 (iv 145)) 146 (iv 146)) 147 (iv 147)) 148 (iv 148)) 149 (iv 149)) := s_X10_needEvent_n t (by show q_cE k (iv 3); exact hE) (by show ¬ (0 ≤ t ∧ t < k 0); exact h3)
            refine w_calle hc38 rfl (pz_cokI is_2 rfl) rfl ?_
            first | exact ⟨pz_u1 (pz_u1 (pz_u1 (pz_u1 (pz_u1 (pz_u1 (pz_u1 (pz_u1 (pz_u1 (pz_u1 (pz_u1 (pz_u1 (pz_u1 iv 2 (iv 2)) 134 (iv 134)) 138 (iv 138)) 139 (iv 139)) 140 (iv 140)) 142 (iv 142)) 143 (iv 143)) 144 (iv 144)) 145 (iv 145)) 146 (iv 146)) 147 (iv 147)) 148 (iv 148)) 149 (iv 149), ⟨(iv 2), (iv 134), (iv 138), (iv 139), (iv 140), (iv 142), (iv 143), (iv 144), (iv 145), (iv 146), (iv 147), (iv 148), (iv 149), by rfl, by exact hci, by exact ho2⟩, lf_e (by rfl)⟩ | (exfalso; omega)))
  · first
    | (exfalso; first | omega | contradiction)
    | (have hc39 : pz_R (pz_Sh L) 170 [.inr (.inl 2), .inl f] (pz_u1 (pz_u1 (pz_u1 (pz_u1 (pz_u1 (pz_u1 (pz_u1 (pz_u1 (pz_u1 (pz_u1 (pz_u1 (pz_u1 (pz_u1 iv 2 (iv 2)) 134 (iv 134)) 138 (iv 138)) 139 (iv 139)) 140 (iv 140)) 142 (iv 142)) 143 (iv 143)) 144 (iv 144)) 145 (iv 145)) 146 (iv 146)) 147 (iv 147)) 148 (iv 148)) 149 (iv 149)) (.inr 2) (pz_u1 (pz_u1 (pz_u1 (pz_u1 (pz_u1 (pz_u1 (pz_u1 (pz_u1 (pz_u1 (pz_u1 (pz_u1 (pz_u1 (pz_u1 iv 2 (iv 2)) 134 (iv 134)) 138 (iv 138)) 139 (iv 139)) 140 (iv 140)) 142 (iv 142)) 143 (iv 143)) 144 (iv 144)) 145 (iv 145)) 146 (iv 146)) 147 (iv 147)) 148 (iv 148)) 149 (iv 149)) := s_X10_needEvent_n f (by show q_cE k (iv 3); exact hE) (by show ¬ (0 ≤ f ∧ f < k 0); exact h1)
       refine w_calle hc39 rfl (pz_cokI is_2 rfl) rfl ?_
       first | exact ⟨pz_u1 (pz_u1 (pz_u1 (pz_u1 (pz_u1 (pz_u1 (pz_u1 (pz_u1 (pz_u1 (pz_u1 (pz_u1 (pz_u1 (pz_u1 iv 2 (iv 2)) 134 (iv 134)) 138 (iv 138)) 139 (iv 139)) 140 (iv 140)) 142 (iv 142)) 143 (iv 143)) 144 (iv 144)) 145 (iv 145)) 146 (iv 146)) 147 (iv 147)) 148 (iv 148)) 149 (iv 149), ⟨(iv 2), (iv 134), (iv 138), (iv 139), (iv 140), (iv 142), (iv 143), (iv 144), (iv 145), (iv 146), (iv 147), (iv 148), (iv 149), by rfl, by exact hci, by exact ho2⟩, lf_e (by rfl)⟩ | (exfalso; omega))

theorem s_X10_reduced_3 {L : Nat} {iv : Nat → Nat → Int} (f : Int) (t : Int) {k : Nat → Int} (hk : q_KR k) (hE : q_cE k (iv 3)) (hB : q_cB k (iv 4) (iv 5) (iv 6) (iv 7) (iv 8) (iv 9)) (hS : q_cS k (iv 10) (iv 11) (iv 12) (iv 13) (iv 14)) (hC : q_cC k (iv 15) (iv 16)) (hA : q_cA k (iv 17) (iv 18) (iv 19) (iv 20)) (hO : q_cO k (iv 22) (iv 23) (iv 24)) (hL : q_cL k (iv 25)) (hP : q_cP k (iv 27)) (hci : q_CI k (iv 2) (iv 138) (iv 139) (iv 140) (iv 142) (iv 143) (iv 145) (iv 129) (iv 135)) (hcase0 : 0 ≤ f ∧ f ≤ k 0 - 1 ∧ 0 ≤ t ∧ t ≤ k 0 - 1) (hcase1 : q_sen k) (hcase2 : q_val k (100 * 0 + 10 * f + t).toNat = 1000000) : pz_RE (pz_Sh L) 141 [.inr (.inl 2), .inl f, .inl t] iv (.inr 3) (fun iv9 => ∃ (o9 : Nat → Int) (l9 : Nat → Int) (n9 : Nat → Int) (w9 : Nat → Int) (d9 : Nat → Int) (m9 : Nat → Int) (V9 : Nat → Int) (W9 : Nat → Int) (U9 : Nat → Int) (Y9 : Nat → Int) (p9 : Nat → Int) (q9 : Nat → Int) (r9 : Nat → Int), iv9 = pz_u1 (pz_u1 (pz_u1 (pz_u1 (pz_u1 (pz_u1 (pz_u1 (pz_u1 (pz_u1 (pz_u1 (pz_u1 (pz_u1 (pz_u1 iv 2 o9) 134 l9) 138 n9) 139 w9) 140 d9) 142 m9) 143 V9) 144 W9) 145 U9) 146 Y9) 147 p9) 148 q9) 149 r9 ∧ (q_CI k o9 n9 w9 d9 m9 V9 U9 (iv 129) (iv 135)) ∧ (o9 2 = (iv 2) 2)) := by
  intro dv cc ss
  have hk0 := hk.r0
  have hE0 := hE
  have hB0 := hB.1
  have hS0 := hS.1
  have hC0 := hC.1
  have hA0 := hA.1
  refine pz_G_mem (iv2 := pz_u1 (pz_u1 (pz_u1 (pz_u1 (pz_u1 (pz_u1 (pz_u1 (pz_u1 (pz_u1 (pz_u1 (pz_u1 (pz_u1 (pz_u1 iv 2 (iv 2)) 134 (iv 134)) 138 (iv 138)) 139 (iv 139)) 140 (iv 140)) 142 (iv 142)) 143 (iv 143)) 144 (iv 144)) 145 (iv 145)) 146 (iv 146)) 147 (iv 147)) 148 (iv 148)) 149 (iv 149)) (by exact (((((((((((((pz_u1_self iv 2).symm).trans (pz_u1_self (pz_u1 iv 2 (iv 2)) 134).symm).trans (pz_u1_self (pz_u1 (pz_u1 iv 2 (iv 2)) 134 (iv 134)) 138).symm).trans (pz_u1_self (pz_u1 (pz_u1 (pz_u1 iv 2 (iv 2)) 134 (iv 134)) 138 (iv 138)) 139).symm).trans (pz_u1_self (pz_u1 (pz_u1 (pz_u1 (pz_u1 iv 2 (iv 2)) 134 (iv 134)) 138 (iv 138)) 139 (iv 139)) 140).symm).trans (pz_u1_self (pz_u1 (pz_u1 (pz_u1 (pz_u1 (pz_u1 iv 2 (iv 2)) 134 (iv 134)) 138 (iv 138)) 139 (iv 139)) 140 (iv 140)) 142).symm).trans (pz_u1_self (pz_u1 (pz_u1 (pz_u1 (pz_u1 (pz_u1 (pz_u1 iv 2 (iv 2)) 134 (iv 134)) 138 (iv 138)) 139 (iv 139)) 140 (iv 140)) 142 (iv 142)) 143).symm).trans (pz_u1_self (pz_u1 (pz_u1 (pz_u1 (pz_u1 (pz_u1 (pz_u1 (pz_u1 iv 2 (iv 2)) 134 (iv 134)) 138 (iv 138)) 139 (iv 139)) 140 (iv 140)) 142 (iv 142)) 143 (iv 143)) 144).symm).trans (pz_u1_self (pz_u1 (pz_u1 (pz_u1 (pz_u1 (pz_u1 (pz_u1 (pz_u1 (pz_u1 iv 2 (iv 2)) 134 (iv 134)) 138 (iv 138)) 139 (iv 139)) 140 (iv 140)) 142 (iv 142)) 143 (iv 143)) 144 (iv 144)) 145).symm).trans (pz_u1_self (pz_u1 (pz_u1 (pz_u1 (pz_u1 (pz_u1 (pz_u1 (pz_u1 (pz_u1 (pz_u1 iv 2 (iv 2)) 134 (iv 134)) 138 (iv 138)) 139 (iv 139)) 140 (iv 140)) 142 (iv 142)) 143 (iv 143)) 144 (iv 144)) 145 (iv 145)) 146).symm).trans (pz_u1_self (pz_u1 (pz_u1 (pz_u1 (pz_u1 (pz_u1 (pz_u1 (pz_u1 (pz_u1 (pz_u1 (pz_u1 iv 2 (iv 2)) 134 (iv 134)) 138 (iv 138)) 139 (iv 139)) 140 (iv 140)) 142 (iv 142)) 143 (iv 143)) 144 (iv 144)) 145 (iv 145)) 146 (iv 146)) 147).symm).trans (pz_u1_self (pz_u1 (pz_u1 (pz_u1 (pz_u1 (pz_u1 (pz_u1 (pz_u1 (pz_u1 (pz_u1 (pz_u1 (pz_u1 iv 2 (iv 2)) 134 (iv 134)) 138 (iv 138)) 139 (iv 139)) 140 (iv 140)) 142 (iv 142)) 143 (iv 143)) 144 (iv 144)) 145 (iv 145)) 146 (iv 146)) 147 (iv 147)) 148).symm).trans (pz_u1_self (pz_u1 (pz_u1 (pz_u1 (pz_u1 (pz_u1 (pz_u1 (pz_u1 (pz_u1 (pz_u1 (pz_u1 (pz_u1 (pz_u1 iv 2 (iv 2)) 134 (iv 134)) 138 (iv 138)) 139 (iv 139)) 140 (iv 140)) 142 (iv 142)) 143 (iv 143)) 144 (iv 144)) 145 (iv 145)) 146 (iv 146)) 147 (iv 147)) 148 (iv 148)) 149).symm) ?_
  show pz_G 141 0 [some (.inr (.inl 2)), some (.inl f), some (.inl t)] [] (pz_Sh L, pz_u1 (pz_u1 (pz_u1 (pz_u1 (pz_u1 (pz_u1 (pz_u1 (pz_u1 (pz_u1 (pz_u1 (pz_u1 (pz_u1 (pz_u1 iv 2 (iv 2)) 134 (iv 134)) 138 (iv 138)) 139 (iv 139)) 140 (iv 140)) 142 (iv 142)) 143 (iv 143)) 144 (iv 144)) 145 (iv 145)) 146 (iv 146)) 147 (iv 147)) 148 (iv 148)) 149 (iv 149), dv, cc, ss) (pz_PE (pz_Sh L) (.inr 3) (fun iv9 => ∃ (o9 : Nat → Int) (l9 : Nat → Int) (n9 : Nat → Int) (w9 : Nat → Int) (d9 : Nat → Int) (m9 : Nat → Int) (V9 : Nat → Int) (W9 : Nat → Int) (U9 : Nat → Int) (Y9 : Nat → Int) (p9 : Nat → Int) (q9 : Nat → Int) (r9 : Nat → Int), iv9 = pz_u1 (pz_u1 (pz_u1 (pz_u1 (pz_u1 (pz_u1 (pz_u1 (pz_u1 (pz_u1 (pz_u1 (pz_u1 (pz_u1 (pz_u1 iv 2 o9) 134 l9) 138 n9) 139 w9) 140 d9) 142 m9) 143 V9) 144 W9) 145 U9) 146 Y9) 147 p9) 148 q9) 149 r9 ∧ (q_CI k o9 n9 w9 d9 m9 V9 U9 (iv 129) (iv 135)) ∧ (o9 2 = (iv 2) 2)) dv cc ss)
  refine pz_G_of pz_b141_0 ?_
  refine w_loc rfl ?_
  refine w_loc rfl ?_
  by_cases h1 : 0 ≤ f ∧ f < k 0
  · first
    | (exfalso; first | omega | contradiction)
    | (have hc2 : pz_R (pz_Sh L) 170 [.inr (.inl 2), .inl f] (pz_u1 (pz_u1 (pz_u1 (pz_u1 (pz_u1 (pz_u1 (pz_u1 (pz_u1 (pz_u1 (pz_u1 (pz_u1 (pz_u1 (pz_u1 iv 2 (iv 2)) 134 (iv 134)) 138 (iv 138)) 139 (iv 139)) 140 (iv 140)) 142 (iv 142)) 143 (iv 143)) 144 (iv 144)) 145 (iv 145)) 146 (iv 146)) 147 (iv 147)) 148 (iv 148)) 149 (iv 149)) (.inl none) (pz_u1 (pz_u1 (pz_u1 (pz_u1 (pz_u1 (pz_u1 (pz_u1 (pz_u1 (pz_u1 (pz_u1 (pz_u1 (pz_u1 (pz_u1 iv 2 (iv 2)) 134 (iv 134)) 138 (iv 138)) 139 (iv 139)) 140 (iv 140)) 142 (iv 142)) 143 (iv 143)) 144 (iv 144)) 145 (iv 145)) 146 (iv 146)) 147 (iv 147)) 148 (iv 148)) 149 (iv 149)) := s_X10_needEvent_y f (by show q_cE k (iv 3); exact hE) (by show 0 ≤ f ∧ f < k 0; exact h1)
       refine w_callv hc2 rfl (pz_cokI is_2 rfl) ?_
       refine w_loc rfl ?_
       refine w_loc rfl ?_
       by_cases h3 : 0 ≤ t ∧ t < k 0
       · first
         | (exfalso; first | omega | contradiction)
         | (have hc4 : pz_R (pz_Sh L) 170 [.inr (.inl 2), .inl t] (pz_u1 (pz_u1 (pz_u1 (pz_u1 (pz_u1 (pz_u1 (pz_u1 (pz_u1 (pz_u1 (pz_u1 (pz_u1 (pz_u1 (pz_u1 iv 2 (iv 2)) 134 (iv 134)) 138 (iv 138)) 139 (iv 139)) 140 (iv 140)) 142 (iv 142)) 143 (iv 143)) 144 (iv 144)) 145 (iv 145)) 146 (iv 146)) 147 (iv 147)) 148 (iv 148)) 149 (iv 149)) (.inl none) (pz_u1 (pz_u1 (pz_u1 (pz_u1 (pz_u1 (pz_u1 (pz_u1 (pz_u1 (pz_u1 (pz_u1 (pz_u1 (pz_u1 (pz_u1 iv 2 (iv 2)) 134 (iv 134)) 138 (iv 138)) 139 (iv 139)) 140 (iv 140)) 142 (iv 142)) 143 (iv 143)) 144 (iv 144)) 145 (iv 145)) 146 (iv 146)) 147 (iv 147)) 148 (iv 148)) 149 (iv 149)) := s_X10_needEvent_y t (by show q_cE k (iv 3); exact hE) (by show 0 ≤ t ∧ t < k 0; exact h3)
            refine w_callv hc4 rfl (pz_cokI is_2 rfl) ?_
            refine w_loc rfl ?_
            by_cases h5 : q_sen k
            · first
              | (exfalso; first | omega | contradiction)
              | (have hc6 := s_X10_goodReductions_y (L := L) (iv := pz_u1 (pz_u1 (pz_u1 (pz_u1 (pz_u1 (pz_u1 (pz_u1 (pz_u1 (pz_u1 (pz_u1 (pz_u1 (pz_u1 (pz_u1 iv 2 (iv 2)) 134 (iv 134)) 138 (iv 138)) 139 (iv 139)) 140 (iv 140)) 142 (iv 142)) 143 (iv 143)) 144 (iv 144)) 145 (iv 145)) 146 (iv 146)) 147 (iv 147)) 148 (iv 148)) 149 (iv 149)) (by show q_KR k; exact hk) (by show q_cE k (iv 3); exact hE) (by show q_cB k (iv 4) (iv 5) (iv 6) (iv 7) (iv 8) (iv 9); exact hB) (by show q_cS k (iv 10) (iv 11) (iv 12) (iv 13) (iv 14); exact hS) (by show q_cC k (iv 15) (iv 16); exact hC) (by show q_cL k (iv 25); exact hL) (by show q_CI k (iv 2) (iv 138) (iv 139) (iv 140) (iv 142) (iv 143) (iv 145) (iv 129) (iv 135); exact hci) (by show q_sen k; exact h5)
                 refine w_callE hc6 rfl (pz_cokI is_2 rfl) (fun iv9 h9 => ?_)
                 obtain ⟨o9_7, l9_8, n9_9, w9_10, d9_11, m9_12, V9_13, W9_14, U9_15, Y9_16, p9_17, q9_18, r9_19, h9e, hci, hRK, ho2⟩ := h9
                 have h9x : iv9 = pz_u1 (pz_u1 (pz_u1 (pz_u1 (pz_u1 (pz_u1 (pz_u1 (pz_u1 (pz_u1 (pz_u1 (pz_u1 (pz_u1 (pz_u1 iv 2 o9_7) 134 l9_8) 138 n9_9) 139 w9_10) 140 d9_11) 142 m9_12) 143 V9_13) 144 W9_14) 145 U9_15) 146 Y9_16) 147 p9_17) 148 q9_18) 149 r9_19 := h9e.trans (by rw [pz_u1_in (r := 2) (q := 149) (by decide)]; rw [pz_u1_in (r := 2) (q := 148) (by decide)]; rw [pz_u1_in (r := 2) (q := 147) (by decide)]; rw [pz_u1_in (r := 2) (q := 146) (by decide)]; rw [pz_u1_in (r := 2) (q := 145) (by decide)]; rw [pz_u1_in (r := 2) (q := 144) (by decide)]; rw [pz_u1_in (r := 2) (q := 143) (by decide)]; rw [pz_u1_in (r := 2) (q := 142) (by decide)]; rw [pz_u1_in (r := 2) (q := 140) (by decide)]; rw [pz_u1_in (r := 2) (q := 139) (by decide)]; rw [pz_u1_in (r := 2) (q := 138) (by decide)]; rw [pz_u1_in (r := 2) (q := 134) (by decide)]; rw [pz_u1_top (r := 2)]; rw [pz_u1_in (r := 134) (q := 149) (by decide)]; rw [pz_u1_in (r := 134) (q := 148) (by decide)]; rw [pz_u1_in (r := 134) (q := 147) (by decide)]; rw [pz_u1_in (r := 134) (q := 146) (by decide)]; rw [pz_u1_in (r := 134) (q := 145) (by decide)]; rw [pz_u1_in (r := 134) (q := 144) (by decide)]; rw [pz_u1_in (r := 134) (q := 143) (by decide)]; rw [pz_u1_in (r := 134) (q := 142) (by decide)]; rw [pz_u1_in (r := 134) (q := 140) (by decide)]; rw [pz_u1_in (r := 134) (q := 139) (by decide)]; rw [pz_u1_in (r := 134) (q := 138) (by decide)]; rw [pz_u1_top (r := 134)]; rw [pz_u1_in (r := 138) (q := 149) (by decide)]; rw [pz_u1_in (r := 138) (q := 148) (by decide)]; rw [pz_u1_in (r := 138) (q := 147) (by decide)]; rw [pz_u1_in (r := 138) (q := 146) (by decide)]; rw [pz_u1_in (r := 138) (q := 145) (by decide)]; rw [pz_u1_in (r := 138) (q := 144) (by decide)]; rw [pz_u1_in (r := 138) (q := 143) (by decide)]; rw [pz_u1_in (r := 138) (q := 142) (by decide)]; rw [pz_u1_in (r := 138) (q := 140) (by decide)]; rw [pz_u1_in (r := 138) (q := 139) (by decide)]; rw [pz_u1_top (r := 138)]; rw [pz_u1_in (r := 139) (q := 149) (by decide)]; rw [pz_u1_in (r := 139) (q := 148) (by decide)]; rw [pz_u1_in (r := 139) (q := 147) (by decide)]; rw [pz_u1_in (r := 139) (q := 146) (by decide)]; rw [pz_u1_in (r := 139) (q := 145) (by decide)]; rw [pz_u1_in (r := 139) (q := 144) (by decide)]; rw [pz_u1_in (r := 139) (q := 143) (by decide)]; rw [pz_u1_in (r := 139) (q := 142) (by decide)]; rw [pz_u1_in (r := 139) (q := 140) (by decide)]; rw [pz_u1_top (r := 139)]; rw [pz_u1_in (r := 140) (q := 149) (by decide)]; rw [pz_u1_in (r := 140) (q := 148) (by decide)]; rw [pz_u1_in (r := 140) (q := 147) (by decide)]; rw [pz_u1_in (r := 140) (q := 146) (by decide)]; rw [pz_u1_in (r := 140) (q := 145) (by decide)]; rw [pz_u1_in (r := 140) (q := 144) (by decide)]; rw [pz_u1_in (r := 140) (q := 143) (by decide)]; rw [pz_u1_in (r := 140) (q := 142) (by decide)]; rw [pz_u1_top (r := 140)]; rw [pz_u1_in (r := 142) (q := 149) (by decide)]; rw [pz_u1_in (r := 142) (q := 148) (by decide)]; rw [pz_u1_in (r := 142) (q := 147) (by decide)]; rw [pz_u1_in (r := 142) (q := 146) (by decide)]; rw [pz_u1_in (r := 142) (q := 145) (by decide)]; rw [pz_u1_in (r := 142) (q := 144) (by decide)]; rw [pz_u1_in (r := 142) (q := 143) (by decide)]; rw [pz_u1_top (r := 142)]; rw [pz_u1_in (r := 143) (q := 149) (by decide)]; rw [pz_u1_in (r := 143) (q := 148) (by decide)]; rw [pz_u1_in (r := 143) (q := 147) (by decide)]; rw [pz_u1_in (r := 143) (q := 146) (by decide)]; rw [pz_u1_in (r := 143) (q := 145) (by decide)]; rw [pz_u1_in (r := 143) (q := 144) (by decide)]; rw [pz_u1_top (r := 143)]; rw [pz_u1_in (r := 144) (q := 149) (by decide)]; rw [pz_u1_in (r := 144) (q := 148) (by decide)]; rw [pz_u1_in (r := 144) (q := 147) (by decide)]; rw [pz_u1_in (r := 144) (q := 146) (by decide)]; rw [pz_u1_in (r := 144) (q := 145) (by decide)]; rw [pz_u1_top (r := 144)]; rw [pz_u1_in (r := 145) (q := 149) (by decide)]; rw [pz_u1_in (r := 145) (q := 148) (by decide)]; rw [pz_u1_in (r := 145) (q := 147) (by decide)]; rw [pz_u1_in (r := 145) (q := 146) (by decide)]; rw [pz_u1_top (r := 145)]; rw [pz_u1_in (r := 146) (q := 149) (by decide)]; rw [pz_u1_in (r := 146) (q := 148) (by decide)]; rw [pz_u1_in (r := 146) (q := 147) (by decide)]; rw [pz_u1_top (r := 146)]; rw [pz_u1_in (r := 147) (q := 149) (by decide)]; rw [pz_u1_in (r := 147) (q := 148) (by decide)]; rw [pz_u1_top (r := 147)]; rw [pz_u1_in (r := 148) (q := 149) (by decide)]; rw [pz_u1_top (r := 148)]; rw [pz_u1_top (r := 149)] <;> rfl)
                 subst h9x
                 replace hci : q_CI k o9_7 n9_9 w9_10 d9_11 m9_12 V9_13 U9_15 (iv 129) (iv 135) := hci
                 replace hRK : q_RK k m9_12 V9_13 U9_15 := hRK
                 replace ho2 : o9_7 2 = (iv 2) 2 := ho2
                 have hVt := q_RK_at hk hRK (by assumption) (f := f) (t := t) (by omega) (by omega)
                 refine w_loc rfl ?_
                 refine w_loc rfl ?_
                 have hc20 : pz_R (pz_Sh L) 91 [.inr (.inl 142), .inl f, .inl t] (pz_u1 (pz_u1 (pz_u1 (pz_u1 (pz_u1 (pz_u1 (pz_u1 (pz_u1 (pz_u1 (pz_u1 (pz_u1 (pz_u1 (pz_u1 iv 2 o9_7) 134 l9_8) 138 n9_9) 139 w9_10) 140 d9_11) 142 m9_12) 143 V9_13) 144 W9_14) 145 U9_15) 146 Y9_16) 147 p9_17) 148 q9_18) 149 r9_19) (.inl (some (.inl (V9_13 (10 * f + t).toNat)))) (pz_u1 (pz_u1 (pz_u1 (pz_u1 (pz_u1 (pz_u1 (pz_u1 (pz_u1 (pz_u1 (pz_u1 (pz_u1 (pz_u1 (pz_u1 iv 2 o9_7) 134 l9_8) 138 n9_9) 139 w9_10) 140 d9_11) 142 m9_12) 143 V9_13) 144 W9_14) 145 U9_15) 146 Y9_16) 147 p9_17) 148 q9_18) 149 r9_19) := s_X8_valueOf f t (by show 0 ≤ f ∧ f ≤ 9; omega) (by show 0 ≤ t ∧ t ≤ 9; omega)
                 refine w_call hc20 rfl (pz_cokI is_142 rfl) ?_
                 by_cases h21 : (V9_13 (10 * f + t).toNat) ≠ 1000000000
                 · first
                   | (exfalso; first | omega | contradiction)
                   | (have hc22 : pz_R (pz_Sh L) 177 [.inl (V9_13 (10 * f + t).toNat)] (pz_u1 (pz_u1 (pz_u1 (pz_u1 (pz_u1 (pz_u1 (pz_u1 (pz_u1 (pz_u1 (pz_u1 (pz_u1 (pz_u1 (pz_u1 iv 2 o9_7) 134 l9_8) 138 n9_9) 139 w9_10) 140 d9_11) 142 m9_12) 143 V9_13) 144 W9_14) 145 U9_15) 146 Y9_16) 147 p9_17) 148 q9_18) 149 r9_19) (.inl (some (.inl (V9_13 (10 * f + t).toNat)))) (pz_u1 (pz_u1 (pz_u1 (pz_u1 (pz_u1 (pz_u1 (pz_u1 (pz_u1 (pz_u1 (pz_u1 (pz_u1 (pz_u1 (pz_u1 iv 2 o9_7) 134 l9_8) 138 n9_9) 139 w9_10) 140 d9_11) 142 m9_12) 143 V9_13) 144 W9_14) 145 U9_15) 146 Y9_16) 147 p9_17) 148 q9_18) 149 r9_19) := s_X10_toldValue_y (V9_13 (10 * f + t).toNat) (by show (V9_13 (10 * f + t).toNat) ≠ 1000000000; exact h21)
                      refine w_call hc22 rfl rfl ?_
                      refine w_ret rfl ?_
                      first | exact ⟨pz_u1 (pz_u1 (pz_u1 (pz_u1 (pz_u1 (pz_u1 (pz_u1 (pz_u1 (pz_u1 (pz_u1 (pz_u1 (pz_u1 (pz_u1 iv 2 o9_7) 134 l9_8) 138 n9_9) 139 w9_10) 140 d9_11) 142 m9_12) 143 V9_13) 144 W9_14) 145 U9_15) 146 Y9_16) 147 p9_17) 148 q9_18) 149 r9_19, ⟨o9_7, l9_8, n9_9, w9_10, d9_11, m9_12, V9_13, W9_14, U9_15, Y9_16, p9_17, q9_18, r9_19, by rfl, by exact hci, by exact ho2⟩, lf_i (by first | rfl | omega) (by rfl)⟩ | (exfalso; omega))
                 · first
                   | (exfalso; first | omega | contradiction)
                   | (have hc23 : pz_R (pz_Sh L) 177 [.inl (V9_13 (10 * f + t).toNat)] (pz_u1 (pz_u1 (pz_u1 (pz_u1 (pz_u1 (pz_u1 (pz_u1 (pz_u1 (pz_u1 (pz_u1 (pz_u1 (pz_u1 (pz_u1 iv 2 o9_7) 134 l9_8) 138 n9_9) 139 w9_10) 140 d9_11) 142 m9_12) 143 V9_13) 144 W9_14) 145 U9_15) 146 Y9_16) 147 p9_17) 148 q9_18) 149 r9_19) (.inr 3) (pz_u1 (pz_u1 (pz_u1 (pz_u1 (pz_u1 (pz_u1 (pz_u1 (pz_u1 (pz_u1 (pz_u1 (pz_u1 (pz_u1 (pz_u1 iv 2 o9_7) 134 l9_8) 138 n9_9) 139 w9_10) 140 d9_11) 142 m9_12) 143 V9_13) 144 W9_14) 145 U9_15) 146 Y9_16) 147 p9_17) 148 q9_18) 149 r9_19) := s_X10_toldValue_n (V9_13 (10 * f + t).toNat) (by show ¬ (V9_13 (10 * f + t).toNat) ≠ 1000000000; exact h21)
                      refine w_calle hc23 rfl rfl rfl ?_
                      first | exact ⟨pz_u1 (pz_u1 (pz_u1 (pz_u1 (pz_u1 (pz_u1 (pz_u1 (pz_u1 (pz_u1 (pz_u1 (pz_u1 (pz_u1 (pz_u1 iv 2 o9_7) 134 l9_8) 138 n9_9) 139 w9_10) 140 d9_11) 142 m9_12) 143 V9_13) 144 W9_14) 145 U9_15) 146 Y9_16) 147 p9_17) 148 q9_18) 149 r9_19, ⟨o9_7, l9_8, n9_9, w9_10, d9_11, m9_12, V9_13, W9_14, U9_15, Y9_16, p9_17, q9_18, r9_19, by rfl, by exact hci, by exact ho2⟩, lf_e (by rfl)⟩ | (exfalso; omega)))
            · first
              | (exfalso; first | omega | contradiction)
              | (have hc24 := s_X10_goodReductions_n (L := L) (iv := pz_u1 (pz_u1 (pz_u1 (pz_u1 (pz_u1 (pz_u1 (pz_u1 (pz_u1 (pz_u1 (pz_u1 (pz_u1 (pz_u1 (pz_u1 iv 2 (iv 2)) 134 (iv 134)) 138 (iv 138)) 139 (iv 139)) 140 (iv 140)) 142 (iv 142)) 143 (iv 143)) 144 (iv 144)) 145 (iv 145)) 146 (iv 146)) 147 (iv 147)) 148 (iv 148)) 149 (iv 149)) (by show q_KR k; exact hk) (by show q_cE k (iv 3); exact hE) (by show q_cB k (iv 4) (iv 5) (iv 6) (iv 7) (iv 8) (iv 9); exact hB) (by show q_cS k (iv 10) (iv 11) (iv 12) (iv 13) (iv 14); exact hS) (by show q_cC k (iv 15) (iv 16); exact hC) (by show q_cL k (iv 25); exact hL) (by show q_CI k (iv 2) (iv 138) (iv 139) (iv 140) (iv 142) (iv 143) (iv 145) (iv 129) (iv 135); exact hci) (by show ¬ q_sen k; exact h5)
                 refine w_calleE hc24 rfl (pz_cokI is_2 rfl) rfl (fun iv9 h9 => ?_)
                 obtain ⟨o9_25, l9_26, n9_27, w9_28, d9_29, m9_30, V9_31, W9_32, U9_33, Y9_34, p9_35, q9_36, r9_37, h9e, hci, ho2⟩ := h9
                 have h9x : iv9 = pz_u1 (pz_u1 (pz_u1 (pz_u1 (pz_u1 (pz_u1 (pz_u1 (pz_u1 (pz_u1 (pz_u1 (pz_u1 (pz_u1 (pz_u1 iv 2 o9_25) 134 l9_26) 138 n9_27) 139 w9_28) 140 d9_29) 142 m9_30) 143 V9_31) 144 W9_32) 145 U9_33) 146 Y9_34) 147 p9_35) 148 q9_36) 149 r9_37 := h9e.trans (by rw [pz_u1_in (r := 2) (q := 149) (by decide)]; rw [pz_u1_in (r := 2) (q := 148) (by decide)]; rw [pz_u1_in (r := 2) (q := 147) (by decide)]; rw [pz_u1_in (r := 2) (q := 146) (by decide)]; rw [pz_u1_in (r := 2) (q := 145) (by decide)]; rw [pz_u1_in (r := 2) (q := 144) (by decide)]; rw [pz_u1_in (r := 2) (q := 143) (by decide)]; rw [pz_u1_in (r := 2) (q := 142) (by decide)]; rw [pz_u1_in (r := 2) (q := 140) (by decide)]; rw [pz_u1_in (r := 2) (q := 139) (by decide)]; rw [pz_u1_in (r := 2) (q := 138) (by decide)]; rw [pz_u1_in (r := 2) (q := 134) (by decide)]; rw [pz_u1_top (r := 2)]; rw [pz_u1_in (r := 134) (q := 149) (by decide)]; rw [pz_u1_in (r := 134) (q := 148) (by decide)]; rw [pz_u1_in (r := 134) (q := 147) (by decide)]; rw [pz_u1_in (r := 134) (q := 146) (by decide)]; rw [pz_u1_in (r := 134) (q := 145) (by decide)]; rw [pz_u1_in (r := 134) (q := 144) (by decide)]; rw [pz_u1_in (r := 134) (q := 143) (by decide)]; rw [pz_u1_in (r := 134) (q := 142) (by decide)]; rw [pz_u1_in (r := 134) (q := 140) (by decide)]; rw [pz_u1_in (r := 134) (q := 139) (by decide)]; rw [pz_u1_in (r := 134) (q := 138) (by decide)]; rw [pz_u1_top (r := 134)]; rw [pz_u1_in (r := 138) (q := 149) (by decide)]; rw [pz_u1_in (r := 138) (q := 148) (by decide)]; rw [pz_u1_in (r := 138) (q := 147) (by decide)]; rw [pz_u1_in (r := 138) (q := 146) (by decide)]; rw [pz_u1_in (r := 138) (q := 145) (by decide)]; rw [pz_u1_in (r := 138) (q := 144) (by decide)]; rw [pz_u1_in (r := 138) (q := 143) (by decide)]; rw [pz_u1_in (r := 138) (q := 142) (by decide)]; rw [pz_u1_in (r := 138) (q := 140) (by decide)]; rw [pz_u1_in (r := 138) (q := 139) (by decide)]; rw [pz_u1_top (r := 138)]; rw [pz_u1_in (r := 139) (q := 149) (by decide)]; rw [pz_u1_in (r := 139) (q := 148) (by decide)]; rw [pz_u1_in (r := 139) (q := 147) (by decide)]; rw [pz_u1_in (r := 139) (q := 146) (by decide)]; rw [pz_u1_in (r := 139) (q := 145) (by decide)]; rw [pz_u1_in (r := 139) (q := 144) (by decide)]; rw [pz_u1_in (r := 139) (q := 143) (by decide)]; rw [pz_u1_in (r := 139) (q := 142) (by decide)]; rw [pz_u1_in (r := 139) (q := 140) (by decide)]; rw [pz_u1_top (r := 139)]; rw [pz_u1_in (r := 140) (q := 149) (by decide)]; rw [pz_u1_in (r := 140) (q := 148) (by decide)]; rw [pz_u1_in (r := 140) (q := 147) (by decide)]; rw [pz_u1_in (r := 140) (q := 146) (by decide)]; rw [pz_u1_in (r := 140) (q := 145) (by decide)]; rw [pz_u1_in (r := 140) (q := 144) (by decide)]; rw [pz_u1_in (r := 140) (q := 143) (by decide)]; rw [pz_u1_in (r := 140) (q := 142) (by decide)]; rw [pz_u1_top (r := 140)]; rw [pz_u1_in (r := 142) (q := 149) (by decide)]; rw [pz_u1_in (r := 142) (q := 148) (by decide)]; rw [pz_u1_in (r := 142) (q := 147) (by decide)]; rw [pz_u1_in (r := 142) (q := 146) (by decide)]; rw [pz_u1_in (r := 142) (q := 145) (by decide)]; rw [pz_u1_in (r := 142) (q := 144) (by decide)]; rw [pz_u1_in (r := 142) (q := 143) (by decide)]; rw [pz_u1_top (r := 142)]; rw [pz_u1_in (r := 143) (q := 149) (by decide)]; rw [pz_u1_in (r := 143) (q := 148) (by decide)]; rw [pz_u1_in (r := 143) (q := 147) (by decide)]; rw [pz_u1_in (r := 143) (q := 146) (by decide)]; rw [pz_u1_in (r := 143) (q := 145) (by decide)]; rw [pz_u1_in (r := 143) (q := 144) (by decide)]; rw [pz_u1_top (r := 143)]; rw [pz_u1_in (r := 144) (q := 149) (by decide)]; rw [pz_u1_in (r := 144) (q := 148) (by decide)]; rw [pz_u1_in (r := 144) (q := 147) (by decide)]; rw [pz_u1_in (r := 144) (q := 146) (by decide)]; rw [pz_u1_in (r := 144) (q := 145) (by decide)]; rw [pz_u1_top (r := 144)]; rw [pz_u1_in (r := 145) (q := 149) (by decide)]; rw [pz_u1_in (r := 145) (q := 148) (by decide)]; rw [pz_u1_in (r := 145) (q := 147) (by decide)]; rw [pz_u1_in (r := 145) (q := 146) (by decide)]; rw [pz_u1_top (r := 145)]; rw [pz_u1_in (r := 146) (q := 149) (by decide)]; rw [pz_u1_in (r := 146) (q := 148) (by decide)]; rw [pz_u1_in (r := 146) (q := 147) (by decide)]; rw [pz_u1_top (r := 146)]; rw [pz_u1_in (r := 147) (q := 149) (by decide)]; rw [pz_u1_in (r := 147) (q := 148) (by decide)]; rw [pz_u1_top (r := 147)]; rw [pz_u1_in (r := 148) (q := 149) (by decide)]; rw [pz_u1_top (r := 148)]; rw [pz_u1_top (r := 149)] <;> rfl)
                 subst h9x
                 replace hci : q_CI k o9_25 n9_27 w9_28 d9_29 m9_30 V9_31 U9_33 (iv 129) (iv 135) := hci
                 replace ho2 : o9_25 2 = (iv 2) 2 := ho2
                 first | exact ⟨pz_u1 (pz_u1 (pz_u1 (pz_u1 (pz_u1 (pz_u1 (pz_u1 (pz_u1 (pz_u1 (pz_u1 (pz_u1 (pz_u1 (pz_u1 iv 2 o9_25) 134 l9_26) 138 n9_27) 139 w9_28) 140 d9_29) 142 m9_30) 143 V9_31) 144 W9_32) 145 U9_33) 146 Y9_34) 147 p9_35) 148 q9_36) 149 r9_37, ⟨o9_25, l9_26, n9_27, w9_28, d9_29, m9_30, V9_31, W9_32, U9_33, Y9_34, p9_35, q9_36, r9_37, by rfl, by exact hci, by exact ho2⟩, lf_e (by rfl)⟩ | (exfalso; omega)))
       · first
         | (exfalso; first | omega | contradiction)
         | (have hc38 : pz_R (pz_Sh L) 170 [.inr (.inl 2), .inl t] (pz_u1 (pz_u1 (pz_u1 (pz_u1 (pz_u1 (pz_u1 (pz_u1 (pz_u1 (pz_u1 (pz_u1 (pz_u1 (pz_u1 (pz_u1 iv 2 (iv 2)) 134 (iv 134)) 138 (iv 138)) 139 (iv 139)) 140 (iv 140)) 142 (iv 142)) 143 (iv 143)) 144 (iv 144)) 145 (iv 145)) 146 (iv 146)) 147 (iv 147)) 148 (iv 148)) 149 (iv 149)) (.inr 2) (pz_u1 (pz_u1 (pz_u1 (pz_u1 (pz_u1 (pz_u1 (pz_u1 (pz_u1 (pz_u1 (pz_u1 (pz_u1 (pz_u1 (pz_u1 iv 2 (iv 2)) 134 (iv 134)) 138 (iv 138)) 139 (iv 139)) 140 (iv 140)) 142 (iv 142)) 143 (iv 143)) 144 (iv 144)) 145 (iv 145)) 146 (iv 146)) 147 (iv 147)) 148 (iv 148)) 149 (iv 149)) := s_X10_needEvent_n t (by show q_cE k (iv 3); exact hE) (by show ¬ (0 ≤ t ∧ t < k 0); exact h3)
            refine w_calle hc38 rfl (pz_cokI is_2 rfl) rfl ?_
            first | exact ⟨pz_u1 (pz_u1 (pz_u1 (pz_u1 (pz_u1 (pz_u1 (pz_u1 (pz_u1 (pz_u1 (pz_u1 (pz_u1 (pz_u1 (pz_u1 iv 2 (iv 2)) 134 (iv 134)) 138 (iv 138)) 139 (iv 139)) 140 (iv 140)) 142 (iv 142)) 143 (iv 143)) 144 (iv 144)) 145 (iv 145)) 146 (iv 146)) 147 (iv 147)) 148 (iv 148)) 149 (iv 149), ⟨(iv 2), (iv 134), (iv 138), (iv 139), (iv 140), (iv 142), (iv 143), (iv 144), (iv 145), (iv 146), (iv 147), (iv 148), (iv 149), by rfl, by exact hci, by exact ho2⟩, lf_e (by rfl)⟩ | (exfalso; omega)))
  · first
    | (exfalso; first | omega | contradiction)
    | (have hc39 : pz_R (pz_Sh L) 170 [.inr (.inl 2), .inl f] (pz_u1 (pz_u1 (pz_u1 (pz_u1 (pz_u1 (pz_u1 (pz_u1 (pz_u1 (pz_u1 (pz_u1 (pz_u1 (pz_u1 (pz_u1 iv 2 (iv 2)) 134 (iv 134)) 138 (iv 138)) 139 (iv 139)) 140 (iv 140)) 142 (iv 142)) 143 (iv 143)) 144 (iv 144)) 145 (iv 145)) 146 (iv 146)) 147 (iv 147)) 148 (iv 148)) 149 (iv 149)) (.inr 2) (pz_u1 (pz_u1 (pz_u1 (pz_u1 (pz_u1 (pz_u1 (pz_u1 (pz_u1 (pz_u1 (pz_u1 (pz_u1 (pz_u1 (pz_u1 iv 2 (iv 2)) 134 (iv 134)) 138 (iv 138)) 139 (iv 139)) 140 (iv 140)) 142 (iv 142)) 143 (iv 143)) 144 (iv 144)) 145 (iv 145)) 146 (iv 146)) 147 (iv 147)) 148 (iv 148)) 149 (iv 149)) := s_X10_needEvent_n f (by show q_cE k (iv 3); exact hE) (by show ¬ (0 ≤ f ∧ f < k 0); exact h1)
       refine w_calle hc39 rfl (pz_cokI is_2 rfl) rfl ?_
       first | exact ⟨pz_u1 (pz_u1 (pz_u1 (pz_u1 (pz_u1 (pz_u1 (pz_u1 (pz_u1 (pz_u1 (pz_u1 (pz_u1 (pz_u1 (pz_u1 iv 2 (iv 2)) 134 (iv 134)) 138 (iv 138)) 139 (iv 139)) 140 (iv 140)) 142 (iv 142)) 143 (iv 143)) 144 (iv 144)) 145 (iv 145)) 146 (iv 146)) 147 (iv 147)) 148 (iv 148)) 149 (iv 149), ⟨(iv 2), (iv 134), (iv 138), (iv 139), (iv 140), (iv 142), (iv 143), (iv 144), (iv 145), (iv 146), (iv 147), (iv 148), (iv 149), by rfl, by exact hci, by exact ho2⟩, lf_e (by rfl)⟩ | (exfalso; omega))

theorem s_X10_reduced_0 {L : Nat} {iv : Nat → Nat → Int} (f : Int) (t : Int) {k : Nat → Int} (hk : q_KR k) (hE : q_cE k (iv 3)) (hB : q_cB k (iv 4) (iv 5) (iv 6) (iv 7) (iv 8) (iv 9)) (hS : q_cS k (iv 10) (iv 11) (iv 12) (iv 13) (iv 14)) (hC : q_cC k (iv 15) (iv 16)) (hA : q_cA k (iv 17) (iv 18) (iv 19) (iv 20)) (hO : q_cO k (iv 22) (iv 23) (iv 24)) (hL : q_cL k (iv 25)) (hP : q_cP k (iv 27)) (hci : q_CI k (iv 2) (iv 138) (iv 139) (iv 140) (iv 142) (iv 143) (iv 145) (iv 129) (iv 135)) (hcase0 : 0 ≤ f ∧ f ≤ k 0 - 1 ∧ 0 ≤ t ∧ t ≤ k 0 - 1) (hcase1 : q_sen k) (hcase2 : q_val k (100 * 0 + 10 * f + t).toNat ≠ 1000000) : pz_RE (pz_Sh L) 141 [.inr (.inl 2), .inl f, .inl t] iv (.inl (some (.inl (q_val k (100 * 0 + 10 * f + t).toNat)))) (fun iv9 => ∃ (o9 : Nat → Int) (l9 : Nat → Int) (n9 : Nat → Int) (w9 : Nat → Int) (d9 : Nat → Int) (m9 : Nat → Int) (V9 : Nat → Int) (W9 : Nat → Int) (U9 : Nat → Int) (Y9 : Nat → Int) (p9 : Nat → Int) (q9 : Nat → Int) (r9 : Nat → Int), iv9 = pz_u1 (pz_u1 (pz_u1 (pz_u1 (pz_u1 (pz_u1 (pz_u1 (pz_u1 (pz_u1 (pz_u1 (pz_u1 (pz_u1 (pz_u1 iv 2 o9) 134 l9) 138 n9) 139 w9) 140 d9) 142 m9) 143 V9) 144 W9) 145 U9) 146 Y9) 147 p9) 148 q9) 149 r9 ∧ (q_CI k o9 n9 w9 d9 m9 V9 U9 (iv 129) (iv 135)) ∧ (o9 2 = (iv 2) 2)) := by
  intro dv cc ss
  have hk0 := hk.r0
  have hE0 := hE
  have hB0 := hB.1
  have hS0 := hS.1
  have hC0 := hC.1
  have hA0 := hA.1
  refine pz_G_mem (iv2 := pz_u1 (pz_u1 (pz_u1 (pz_u1 (pz_u1 (pz_u1 (pz_u1 (pz_u1 (pz_u1 (pz_u1 (pz_u1 (pz_u1 (pz_u1 iv 2 (iv 2)) 134 (iv 134)) 138 (iv 138)) 139 (iv 139)) 140 (iv 140)) 142 (iv 142)) 143 (iv 143)) 144 (iv 144)) 145 (iv 145)) 146 (iv 146)) 147 (iv 147)) 148 (iv 148)) 149 (iv 149)) (by exact (((((((((((((pz_u1_self iv 2).symm).trans (pz_u1_self (pz_u1 iv 2 (iv 2)) 134).symm).trans (pz_u1_self (pz_u1 (pz_u1 iv 2 (iv 2)) 134 (iv 134)) 138).symm).trans (pz_u1_self (pz_u1 (pz_u1 (pz_u1 iv 2 (iv 2)) 134 (iv 134)) 138 (iv 138)) 139).symm).trans (pz_u1_self (pz_u1 (pz_u1 (pz_u1 (pz_u1 iv 2 (iv 2)) 134 (iv 134)) 138 (iv 138)) 139 (iv 139)) 140).symm).trans (pz_u1_self (pz_u1 (pz_u1 (pz_u1 (pz_u1 (pz_u1 iv 2 (iv 2)) 134 (iv 134)) 138 (iv 138)) 139 (iv 139)) 140 (iv 140)) 142).symm).trans (pz_u1_self (pz_u1 (pz_u1 (pz_u1 (pz_u1 (pz_u1 (pz_u1 iv 2 (iv 2)) 134 (iv 134)) 138 (iv 138)) 139 (iv 139)) 140 (iv 140)) 142 (iv 142)) 143).symm).trans (pz_u1_self (pz_u1 (pz_u1 (pz_u1 (pz_u1 (pz_u1 (pz_u1 (pz_u1 iv 2 (iv 2)) 134 (iv 134)) 138 (iv 138)) 139 (iv 139)) 140 (iv 140)) 142 (iv 142)) 143 (iv 143)) 144).symm).trans (pz_u1_self (pz_u1 (pz_u1 (pz_u1 (pz_u1 (pz_u1 (pz_u1 (pz_u1 (pz_u1 iv 2 (iv 2)) 134 (iv 134)) 138 (iv 138)) 139 (iv 139)) 140 (iv 140)) 142 (iv 142)) 143 (iv 143)) 144 (iv 144)) 145).symm).trans (pz_u1_self (pz_u1 (pz_u1 (pz_u1 (pz_u1 (pz_u1 (pz_u1 (pz_u1 (pz_u1 (pz_u1 iv 2 (iv 2)) 134 (iv 134)) 138 (iv 138)) 139 (iv 139)) 140 (iv 140)) 142 (iv 142)) 143 (iv 143)) 144 (iv 144)) 145 (iv 145)) 146).symm).trans (pz_u1_self (pz_u1 (pz_u1 (pz_u1 (pz_u1 (pz_u1 (pz_u1 (pz_u1 (pz_u1 (pz_u1 (pz_u1 iv 2 (iv 2)) 134 (iv 134)) 138 (iv 138)) 139 (iv 139)) 140 (iv 140)) 142 (iv 142)) 143 (iv 143)) 144 (iv 144)) 145 (iv 145)) 146 (iv 146)) 147).symm).trans (pz_u1_self (pz_u1 (pz_u1 (pz_u1 (pz_u1 (pz_u1 (pz_u1 (pz_u1 (pz_u1 (pz_u1 (pz_u1 (pz_u1 iv 2 (iv 2)) 134 (iv 134)) 138 (iv 138)) 139 (iv 139)) 140 (iv 140)) 142 (iv 142)) 143 (iv 143)) 144 (iv 144)) 145 (iv 145)) 146 (iv 146)) 147 (iv 147)) 148).symm).trans (pz_u1_self (pz_u1 (pz_u1 (pz_u1 (pz_u1 (pz_u1 (pz_u1 (pz_u1 (pz_u1 (pz_u1 (pz_u1 (pz_u1 (pz_u1 iv 2 (iv 2)) 134 (iv 134)) 138 (iv 138)) 139 (iv 139)) 140 (iv 140)) 142 (iv 142)) 143 (iv 143)) 144 (iv 144)) 145 (iv 145)) 146 (iv 146)) 147 (iv 147)) 148 (iv 148)) 149).symm) ?_
  show pz_G 141 0 [some (.inr (.inl 2)), some (.inl f), some (.inl t)] [] (pz_Sh L, pz_u1 (pz_u1 (pz_u1 (pz_u1 (pz_u1 (pz_u1 (pz_u1 (pz_u1 (pz_u1 (pz_u1 (pz_u1 (pz_u1 (pz_u1 iv 2 (iv 2)) 134 (iv 134)) 138 (iv 138)) 139 (iv 139)) 140 (iv 140)) 142 (iv 142)) 143 (iv 143)) 144 (iv 144)) 145 (iv 145)) 146 (iv 146)) 147 (iv 147)) 148 (iv 148)) 149 (iv 149), dv, cc, ss) (pz_PE (pz_Sh L) (.inl (some (.inl (q_val k (100 * 0 + 10 * f + t).toNat)))) (fun iv9 => ∃ (o9 : Nat → Int) (l9 : Nat → Int) (n9 : Nat → Int) (w9 : Nat → Int) (d9 : Nat → Int) (m9 : Nat → Int) (V9 : Nat → Int) (W9 : Nat → Int) (U9 : Nat → Int) (Y9 : Nat → Int) (p9 : Nat → Int) (q9 : Nat → Int) (r9 : Nat → Int), iv9 = pz_u1 (pz_u1 (pz_u1 (pz_u1 (pz_u1 (pz_u1 (pz_u1 (pz_u1 (pz_u1 (pz_u1 (pz_u1 (pz_u1 (pz_u1 iv 2 o9) 134 l9) 138 n9) 139 w9) 140 d9) 142 m9) 143 V9) 144 W9) 145 U9) 146 Y9) 147 p9) 148 q9) 149 r9 ∧ (q_CI k o9 n9 w9 d9 m9 V9 U9 (iv 129) (iv 135)) ∧ (o9 2 = (iv 2) 2)) dv cc ss)
  refine pz_G_of pz_b141_0 ?_
  refine w_loc rfl ?_
  refine w_loc rfl ?_
  by_cases h1 : 0 ≤ f ∧ f < k 0
  · first
    | (exfalso; first | omega | contradiction)
    | (have hc2 : pz_R (pz_Sh L) 170 [.inr (.inl 2), .inl f] (pz_u1 (pz_u1 (pz_u1 (pz_u1 (pz_u1 (pz_u1 (pz_u1 (pz_u1 (pz_u1 (pz_u1 (pz_u1 (pz_u1 (pz_u1 iv 2 (iv 2)) 134 (iv 134)) 138 (iv 138)) 139 (iv 139)) 140 (iv 140)) 142 (iv 142)) 143 (iv 143)) 144 (iv 144)) 145 (iv 145)) 146 (iv 146)) 147 (iv 147)) 148 (iv 148)) 149 (iv 149)) (.inl none) (pz_u1 (pz_u1 (pz_u1 (pz_u1 (pz_u1 (pz_u1 (pz_u1 (pz_u1 (pz_u1 (pz_u1 (pz_u1 (pz_u1 (pz_u1 iv 2 (iv 2)) 134 (iv 134)) 138 (iv 138)) 139 (iv 139)) 140 (iv 140)) 142 (iv 142)) 143 (iv 143)) 144 (iv 144)) 145 (iv 145)) 146 (iv 146)) 147 (iv 147)) 148 (iv 148)) 149 (iv 149)) := s_X10_needEvent_y f (by show q_cE k (iv 3); exact hE) (by show 0 ≤ f ∧ f < k 0; exact h1)
       refine w_callv hc2 rfl (pz_cokI is_2 rfl) ?_
       refine w_loc rfl ?_
       refine w_loc rfl ?_
       by_cases h3 : 0 ≤ t ∧ t < k 0
       · first
         | (exfalso; first | omega | contradiction)
         | (have hc4 : pz_R (pz_Sh L) 170 [.inr (.inl 2), .inl t] (pz_u1 (pz_u1 (pz_u1 (pz_u1 (pz_u1 (pz_u1 (pz_u1 (pz_u1 (pz_u1 (pz_u1 (pz_u1 (pz_u1 (pz_u1 iv 2 (iv 2)) 134 (iv 134)) 138 (iv 138)) 139 (iv 139)) 140 (iv 140)) 142 (iv 142)) 143 (iv 143)) 144 (iv 144)) 145 (iv 145)) 146 (iv 146)) 147 (iv 147)) 148 (iv 148)) 149 (iv 149)) (.inl none) (pz_u1 (pz_u1 (pz_u1 (pz_u1 (pz_u1 (pz_u1 (pz_u1 (pz_u1 (pz_u1 (pz_u1 (pz_u1 (pz_u1 (pz_u1 iv 2 (iv 2)) 134 (iv 134)) 138 (iv 138)) 139 (iv 139)) 140 (iv 140)) 142 (iv 142)) 143 (iv 143)) 144 (iv 144)) 145 (iv 145)) 146 (iv 146)) 147 (iv 147)) 148 (iv 148)) 149 (iv 149)) := s_X10_needEvent_y t (by show q_cE k (iv 3); exact hE) (by show 0 ≤ t ∧ t < k 0; exact h3)
            refine w_callv hc4 rfl (pz_cokI is_2 rfl) ?_
            refine w_loc rfl ?_
            by_cases h5 : q_sen k
            · first
              | (exfalso; first | omega | contradiction)
              | (have hc6 := s_X10_goodReductions_y (L := L) (iv := pz_u1 (pz_u1 (pz_u1 (pz_u1 (pz_u1 (pz_u1 (pz_u1 (pz_u1 (pz_u1 (pz_u1 (pz_u1 (pz_u1 (pz_u1 iv 2 (iv 2)) 134 (iv 134)) 138 (iv 138)) 139 (iv 139)) 140 (iv 140)) 142 (iv 142)) 143 (iv 143)) 144 (iv 144)) 145 (iv 145)) 146 (iv 146)) 147 (iv 147)) 148 (iv 148)) 149 (iv 149)) (by show q_KR k; exact hk) (by show q_cE k (iv 3); exact hE) (by show q_cB k (iv 4) (iv 5) (iv 6) (iv 7) (iv 8) (iv 9); exact hB) (by show q_cS k (iv 10) (iv 11) (iv 12) (iv 13) (iv 14); exact hS) (by show q_cC k (iv 15) (iv 16); exact hC) (by show q_cL k (iv 25); exact hL) (by show q_CI k (iv 2) (iv 138) (iv 139) (iv 140) (iv 142) (iv 143) (iv 145) (iv 129) (iv 135); exact hci) (by show q_sen k; exact h5)
                 refine w_callE hc6 rfl (pz_cokI is_2 rfl) (fun iv9 h9 => ?_)
                 obtain ⟨o9_7, l9_8, n9_9, w9_10, d9_11, m9_12, V9_13, W9_14, U9_15, Y9_16, p9_17, q9_18, r9_19, h9e, hci, hRK, ho2⟩ := h9
                 have h9x : iv9 = pz_u1 (pz_u1 (pz_u1 (pz_u1 (pz_u1 (pz_u1 (pz_u1 (pz_u1 (pz_u1 (pz_u1 (pz_u1 (pz_u1 (pz_u1 iv 2 o9_7) 134 l9_8) 138 n9_9) 139 w9_10) 140 d9_11) 142 m9_12) 143 V9_13) 144 W9_14) 145 U9_15) 146 Y9_16) 147 p9_17) 148 q9_18) 149 r9_19 := h9e.trans (by rw [pz_u1_in (r := 2) (q := 149) (by decide)]; rw [pz_u1_in (r := 2) (q := 148) (by decide)]; rw [pz_u1_in (r := 2) (q := 147) (by decide)]; rw [pz_u1_in (r := 2) (q := 146) (by decide)]; rw [pz_u1_in (r := 2) (q := 145) (by decide)]; rw [pz_u1_in (r := 2) (q := 144) (by decide)]; rw [pz_u1_in (r := 2) (q := 143) (by decide)]; rw [pz_u1_in (r := 2) (q := 142) (by decide)]; rw [pz_u1_in (r := 2) (q := 140) (by decide)]; rw [pz_u1_in (r := 2) (q := 139) (by decide)]; rw [pz_u1_in (r := 2) (q := 138) (by decide)]; rw [pz_u1_in (r := 2) (q := 134) (by decide)]; rw [pz_u1_top (r := 2)]; rw [pz_u1_in (r := 134) (q := 149) (by decide)]; rw [pz_u1_in (r := 134) (q := 148) (by decide)]; rw [pz_u1_in (r := 134) (q := 147) (by decide)]; rw [pz_u1_in (r := 134) (q := 146) (by decide)]; rw [pz_u1_in (r := 134) (q := 145) (by decide)]; rw [pz_u1_in (r := 134) (q := 144) (by decide)]; rw [pz_u1_in (r := 134) (q := 143) (by decide)]; rw [pz_u1_in (r := 134) (q := 142) (by decide)]; rw [pz_u1_in (r := 134) (q := 140) (by decide)]; rw [pz_u1_in (r := 134) (q := 139) (by decide)]; rw [pz_u1_in (r := 134) (q := 138) (by decide)]; rw [pz_u1_top (r := 134)]; rw [pz_u1_in (r := 138) (q := 149) (by decide)]; rw [pz_u1_in (r := 138) (q := 148) (by decide)]; rw [pz_u1_in (r := 138) (q := 147) (by decide)]; rw [pz_u1_in (r := 138) (q := 146) (by decide)]; rw [pz_u1_in (r := 138) (q := 145) (by decide)]; rw [pz_u1_in (r := 138) (q := 144) (by decide)]; rw [pz_u1_in (r := 138) (q := 143) (by decide)]; rw [pz_u1_in (r := 138) (q := 142) (by decide)]; rw [pz_u1_in (r := 138) (q := 140) (by decide)]; rw [pz_u1_in (r := 138) (q := 139) (by decide)]; rw [pz_u1_top (r := 138)]; rw [pz_u1_in (r := 139) (q := 149) (by decide)]; rw [pz_u1_in (r := 139) (q := 148) (by decide)]; rw [pz_u1_in (r := 139) (q := 147) (by decide)]; rw [pz_u1_in (r := 139) (q := 146) (by decide)]; rw [pz_u1_in (r := 139) (q := 145) (by decide)]; rw [pz_u1_in (r := 139) (q := 144) (by decide)]; rw [pz_u1_in (r := 139) (q := 143) (by decide)]; rw [pz_u1_in (r := 139) (q := 142) (by decide)]; rw [pz_u1_in (r := 139) (q := 140) (by decide)]; rw [pz_u1_top (r := 139)]; rw [pz_u1_in (r := 140) (q := 149) (by decide)]; rw [pz_u1_in (r := 140) (q := 148) (by decide)]; rw [pz_u1_in (r := 140) (q := 147) (by decide)]; rw [pz_u1_in (r := 140) (q := 146) (by decide)]; rw [pz_u1_in (r := 140) (q := 145) (by decide)]; rw [pz_u1_in (r := 140) (q := 144) (by decide)]; rw [pz_u1_in (r := 140) (q := 143) (by decide)]; rw [pz_u1_in (r := 140) (q := 142) (by decide)]; rw [pz_u1_top (r := 140)]; rw [pz_u1_in (r := 142) (q := 149) (by decide)]; rw [pz_u1_in (r := 142) (q := 148) (by decide)]; rw [pz_u1_in (r := 142) (q := 147) (by decide)]; rw [pz_u1_in (r := 142) (q := 146) (by decide)]; rw [pz_u1_in (r := 142) (q := 145) (by decide)]; rw [pz_u1_in (r := 142) (q := 144) (by decide)]; rw [pz_u1_in (r := 142) (q := 143) (by decide)]; rw [pz_u1_top (r := 142)]; rw [pz_u1_in (r := 143) (q := 149) (by decide)]; rw [pz_u1_in (r := 143) (q := 148) (by decide)]; rw [pz_u1_in (r := 143) (q := 147) (by decide)]; rw [pz_u1_in (r := 143) (q := 146) (by decide)]; rw [pz_u1_in (r := 143) (q := 145) (by decide)]; rw [pz_u1_in (r := 143) (q := 144) (by decide)]; rw [pz_u1_top (r := 143)]; rw [pz_u1_in (r := 144) (q := 149) (by decide)]; rw [pz_u1_in (r := 144) (q := 148) (by decide)]; rw [pz_u1_in (r := 144) (q := 147) (by decide)]; rw [pz_u1_in (r := 144) (q := 146) (by decide)]; rw [pz_u1_in (r := 144) (q := 145) (by decide)]; rw [pz_u1_top (r := 144)]; rw [pz_u1_in (r := 145) (q := 149) (by decide)]; rw [pz_u1_in (r := 145) (q := 148) (by decide)]; rw [pz_u1_in (r := 145) (q := 147) (by decide)]; rw [pz_u1_in (r := 145) (q := 146) (by decide)]; rw [pz_u1_top (r := 145)]; rw [pz_u1_in (r := 146) (q := 149) (by decide)]; rw [pz_u1_in (r := 146) (q := 148) (by decide)]; rw [pz_u1_in (r := 146) (q := 147) (by decide)]; rw [pz_u1_top (r := 146)]; rw [pz_u1_in (r := 147) (q := 149) (by decide)]; rw [pz_u1_in (r := 147) (q := 148) (by decide)]; rw [pz_u1_top (r := 147)]; rw [pz_u1_in (r := 148) (q := 149) (by decide)]; rw [pz_u1_top (r := 148)]; rw [pz_u1_top (r := 149)] <;> rfl)
                 subst h9x
                 replace hci : q_CI k o9_7 n9_9 w9_10 d9_11 m9_12 V9_13 U9_15 (iv 129) (iv 135) := hci
                 replace hRK : q_RK k m9_12 V9_13 U9_15 := hRK
                 replace ho2 : o9_7 2 = (iv 2) 2 := ho2
                 have hVt := q_RK_at hk hRK (by assumption) (f := f) (t := t) (by omega) (by omega)
                 refine w_loc rfl ?_
                 refine w_loc rfl ?_
                 have hc20 : pz_R (pz_Sh L) 91 [.inr (.inl 142), .inl f, .inl t] (pz_u1 (pz_u1 (pz_u1 (pz_u1 (pz_u1 (pz_u1 (pz_u1 (pz_u1 (pz_u1 (pz_u1 (pz_u1 (pz_u1 (pz_u1 iv 2 o9_7) 134 l9_8) 138 n9_9) 139 w9_10) 140 d9_11) 142 m9_12) 143 V9_13) 144 W9_14) 145 U9_15) 146 Y9_16) 147 p9_17) 148 q9_18) 149 r9_19) (.inl (some (.inl (V9_13 (10 * f + t).toNat)))) (pz_u1 (pz_u1 (pz_u1 (pz_u1 (pz_u1 (pz_u1 (pz_u1 (pz_u1 (pz_u1 (pz_u1 (pz_u1 (pz_u1 (pz_u1 iv 2 o9_7) 134 l9_8) 138 n9_9) 139 w9_10) 140 d9_11) 142 m9_12) 143 V9_13) 144 W9_14) 145 U9_15) 146 Y9_16) 147 p9_17) 148 q9_18) 149 r9_19) := s_X8_valueOf f t (by show 0 ≤ f ∧ f ≤ 9; omega) (by show 0 ≤ t ∧ t ≤ 9; omega)
                 refine w_call hc20 rfl (pz_cokI is_142 rfl) ?_
                 by_cases h21 : (V9_13 (10 * f + t).toNat) ≠ 1000000000
                 · first
                   | (exfalso; first | omega | contradiction)
                   | (have hc22 : pz_R (pz_Sh L) 177 [.inl (V9_13 (10 * f + t).toNat)] (pz_u1 (pz_u1 (pz_u1 (pz_u1 (pz_u1 (pz_u1 (pz_u1 (pz_u1 (pz_u1 (pz_u1 (pz_u1 (pz_u1 (pz_u1 iv 2 o9_7) 134 l9_8) 138 n9_9) 139 w9_10) 140 d9_11) 142 m9_12) 143 V9_13) 144 W9_14) 145 U9_15) 146 Y9_16) 147 p9_17) 148 q9_18) 149 r9_19) (.inl (some (.inl (V9_13 (10 * f + t).toNat)))) (pz_u1 (pz_u1 (pz_u1 (pz_u1 (pz_u1 (pz_u1 (pz_u1 (pz_u1 (pz_u1 (pz_u1 (pz_u1 (pz_u1 (pz_u1 iv 2 o9_7) 134 l9_8) 138 n9_9) 139 w9_10) 140 d9_11) 142 m9_12) 143 V9_13) 144 W9_14) 145 U9_15) 146 Y9_16) 147 p9_17) 148 q9_18) 149 r9_19) := s_X10_toldValue_y (V9_13 (10 * f + t).toNat) (by show (V9_13 (10 * f + t).toNat) ≠ 1000000000; exact h21)
                      refine w_call hc22 rfl rfl ?_
                      refine w_ret rfl ?_
                      first | exact ⟨pz_u1 (pz_u1 (pz_u1 (pz_u1 (pz_u1 (pz_u1 (pz_u1 (pz_u1 (pz_u1 (pz_u1 (pz_u1 (pz_u1 (pz_u1 iv 2 o9_7) 134 l9_8) 138 n9_9) 139 w9_10) 140 d9_11) 142 m9_12) 143 V9_13) 144 W9_14) 145 U9_15) 146 Y9_16) 147 p9_17) 148 q9_18) 149 r9_19, ⟨o9_7, l9_8, n9_9, w9_10, d9_11, m9_12, V9_13, W9_14, U9_15, Y9_16, p9_17, q9_18, r9_19, by rfl, by exact hci, by exact ho2⟩, lf_i (by first | rfl | omega) (by rfl)⟩ | (exfalso; omega))
                 · first
                   | (exfalso; first | omega | contradiction)
                   | (have hc23 : pz_R (pz_Sh L) 177 [.inl (V9_13 (10 * f + t).toNat)] (pz_u1 (pz_u1 (pz_u1 (pz_u1 (pz_u1 (pz_u1 (pz_u1 (pz_u1 (pz_u1 (pz_u1 (pz_u1 (pz_u1 (pz_u1 iv 2 o9_7) 134 l9_8) 138 n9_9) 139 w9_10) 140 d9_11) 142 m9_12) 143 V9_13) 144 W9_14) 145 U9_15) 146 Y9_16) 147 p9_17) 148 q9_18) 149 r9_19) (.inr 3) (pz_u1 (pz_u1 (pz_u1 (pz_u1 (pz_u1 (pz_u1 (pz_u1 (pz_u1 (pz_u1 (pz_u1 (pz_u1 (pz_u1 (pz_u1 iv 2 o9_7) 134 l9_8) 138 n9_9) 139 w9_10) 140 d9_11) 142 m9_12) 143 V9_13) 144 W9_14) 145 U9_15) 146 Y9_16) 147 p9_17) 148 q9_18) 149 r9_19) := s_X10_toldValue_n (V9_13 (10 * f + t).toNat) (by show ¬ (V9_13 (10 * f + t).toNat) ≠ 1000000000; exact h21)
                      refine w_calle hc23 rfl rfl rfl ?_
                      first | exact ⟨pz_u1 (pz_u1 (pz_u1 (pz_u1 (pz_u1 (pz_u1 (pz_u1 (pz_u1 (pz_u1 (pz_u1 (pz_u1 (pz_u1 (pz_u1 iv 2 o9_7) 134 l9_8) 138 n9_9) 139 w9_10) 140 d9_11) 142 m9_12) 143 V9_13) 144 W9_14) 145 U9_15) 146 Y9_16) 147 p9_17) 148 q9_18) 149 r9_19, ⟨o9_7, l9_8, n9_9, w9_10, d9_11, m9_12, V9_13, W9_14, U9_15, Y9_16, p9_17, q9_18, r9_19, by rfl, by exact hci, by exact ho2⟩, lf_e (by rfl)⟩ | (exfalso; omega)))
            · first
              | (exfalso; first | omega | contradiction)
              | (have hc24 := s_X10_goodReductions_n (L := L) (iv := pz_u1 (pz_u1 (pz_u1 (pz_u1 (pz_u1 (pz_u1 (pz_u1 (pz_u1 (pz_u1 (pz_u1 (pz_u1 (pz_u1 (pz_u1 iv 2 (iv 2)) 134 (iv 134)) 138 (iv 138)) 139 (iv 139)) 140 (iv 140)) 142 (iv 142)) 143 (iv 143)) 144 (iv 144)) 145 (iv 145)) 146 (iv 146)) 147 (iv 147)) 148 (iv 148)) 149 (iv 149)) (by show q_KR k; exact hk) (by show q_cE k (iv 3); exact hE) (by show q_cB k (iv 4) (iv 5) (iv 6) (iv 7) (iv 8) (iv 9); exact hB) (by show q_cS k (iv 10) (iv 11) (iv 12) (iv 13) (iv 14); exact hS) (by show q_cC k (iv 15) (iv 16); exact hC) (by show q_cL k (iv 25); exact hL) (by show q_CI k (iv 2) (iv 138) (iv 139) (iv 140) (iv 142) (iv 143) (iv 145) (iv 129) (iv 135); exact hci) (by show ¬ q_sen k; exact h5)
                 refine w_calleE hc24 rfl (pz_cokI is_2 rfl) rfl (fun iv9 h9 => ?_)
                 obtain ⟨o9_25, l9_26, n9_27, w9_28, d9_29, m9_30, V9_31, W9_32, U9_33, Y9_34, p9_35, q9_36, r9_37, h9e, hci, ho2⟩ := h9
                 have h9x : iv9 = pz_u1 (pz_u1 (pz_u1 (pz_u1 (pz_u1 (pz_u1 (pz_u1 (pz_u1 (pz_u1 (pz_u1 (pz_u1 (pz_u1 (pz_u1 iv 2 o9_25) 134 l9_26) 138 n9_27) 139 w9_28) 140 d9_29) 142 m9_30) 143 V9_31) 144 W9_32) 145 U9_33) 146 Y9_34) 147 p9_35) 148 q9_36) 149 r9_37 := h9e.trans (by rw [pz_u1_in (r := 2) (q := 149) (by decide)]; rw [pz_u1_in (r := 2) (q := 148) (by decide)]; rw [pz_u1_in (r := 2) (q := 147) (by decide)]; rw [pz_u1_in (r := 2) (q := 146) (by decide)]; rw [pz_u1_in (r := 2) (q := 145) (by decide)]; rw [pz_u1_in (r := 2) (q := 144) (by decide)]; rw [pz_u1_in (r := 2) (q := 143) (by decide)]; rw [pz_u1_in (r := 2) (q := 142) (by decide)]; rw [pz_u1_in (r := 2) (q := 140) (by decide)]; rw [pz_u1_in (r := 2) (q := 139) (by decide)]; rw [pz_u1_in (r := 2) (q := 138) (by decide)]; rw [pz_u1_in (r := 2) (q := 134) (by decide)]; rw [pz_u1_top (r := 2)]; rw [pz_u1_in (r := 134) (q := 149) (by decide)]; rw [pz_u1_in (r := 134) (q := 148) (by decide)]; rw [pz_u1_in (r := 134) (q := 147) (by decide)]; rw [pz_u1_in (r := 134) (q := 146) (by decide)]; rw [pz_u1_in (r := 134) (q := 145) (by decide)]; rw [pz_u1_in (r := 134) (q := 144) (by decide)]; rw [pz_u1_in (r := 134) (q := 143) (by decide)]; rw [pz_u1_in (r := 134) (q := 142) (by decide)]; rw [pz_u1_in (r := 134) (q := 140) (by decide)]; rw [pz_u1_in (r := 134) (q := 139) (by decide)]; rw [pz_u1_in (r := 134) (q := 138) (by decide)]; rw [pz_u1_top (r := 134)]; rw [pz_u1_in (r := 138) (q := 149) (by decide)]; rw [pz_u1_in (r := 138) (q := 148) (by decide)]; rw [pz_u1_in (r := 138) (q := 147) (by decide)]; rw [pz_u1_in (r := 138) (q := 146) (by decide)]; rw [pz_u1_in (r := 138) (q := 145) (by decide)]; rw [pz_u1_in (r := 138) (q := 144) (by decide)]; rw [pz_u1_in (r := 138) (q := 143) (by decide)]; rw [pz_u1_in (r := 138) (q := 142) (by decide)]; rw [pz_u1_in (r := 138) (q := 140) (by decide)]; rw [pz_u1_in (r := 138) (q := 139) (by decide)]; rw [pz_u1_top (r := 138)]; rw [pz_u1_in (r := 139) (q := 149) (by decide)]; rw [pz_u1_in (r := 139) (q := 148) (by decide)]; rw [pz_u1_in (r := 139) (q := 147) (by decide)]; rw [pz_u1_in (r := 139) (q := 146) (by decide)]; rw [pz_u1_in (r := 139) (q := 145) (by decide)]; rw [pz_u1_in (r := 139) (q := 144) (by decide)]; rw [pz_u1_in (r := 139) (q := 143) (by decide)]; rw [pz_u1_in (r := 139) (q := 142) (by decide)]; rw [pz_u1_in (r := 139) (q := 140) (by decide)]; rw [pz_u1_top (r := 139)]; rw [pz_u1_in (r := 140) (q := 149) (by decide)]; rw [pz_u1_in (r := 140) (q := 148) (by decide)]; rw [pz_u1_in (r := 140) (q := 147) (by decide)]; rw [pz_u1_in (r := 140) (q := 146) (by decide)]; rw [pz_u1_in (r := 140) (q := 145) (by decide)]; rw [pz_u1_in (r := 140) (q := 144) (by decide)]; rw [pz_u1_in (r := 140) (q := 143) (by decide)]; rw [pz_u1_in (r := 140) (q := 142) (by decide)]; rw [pz_u1_top (r := 140)]; rw [pz_u1_in (r := 142) (q := 149) (by decide)]; rw [pz_u1_in (r := 142) (q := 148) (by decide)]; rw [pz_u1_in (r := 142) (q := 147) (by decide)]; rw [pz_u1_in (r := 142) (q := 146) (by decide)]; rw [pz_u1_in (r := 142) (q := 145) (by decide)]; rw [pz_u1_in (r := 142) (q := 144) (by decide)]; rw [pz_u1_in (r := 142) (q := 143) (by decide)]; rw [pz_u1_top (r := 142)]; rw [pz_u1_in (r := 143) (q := 149) (by decide)]; rw [pz_u1_in (r := 143) (q := 148) (by decide)]; rw [pz_u1_in (r := 143) (q := 147) (by decide)]; rw [pz_u1_in (r := 143) (q := 146) (by decide)]; rw [pz_u1_in (r := 143) (q := 145) (by decide)]; rw [pz_u1_in (r := 143) (q := 144) (by decide)]; rw [pz_u1_top (r := 143)]; rw [pz_u1_in (r := 144) (q := 149) (by decide)]; rw [pz_u1_in (r := 144) (q := 148) (by decide)]; rw [pz_u1_in (r := 144) (q := 147) (by decide)]; rw [pz_u1_in (r := 144) (q := 146) (by decide)]; rw [pz_u1_in (r := 144) (q := 145) (by decide)]; rw [pz_u1_top (r := 144)]; rw [pz_u1_in (r := 145) (q := 149) (by decide)]; rw [pz_u1_in (r := 145) (q := 148) (by decide)]; rw [pz_u1_in (r := 145) (q := 147) (by decide)]; rw [pz_u1_in (r := 145) (q := 146) (by decide)]; rw [pz_u1_top (r := 145)]; rw [pz_u1_in (r := 146) (q := 149) (by decide)]; rw [pz_u1_in (r := 146) (q := 148) (by decide)]; rw [pz_u1_in (r := 146) (q := 147) (by decide)]; rw [pz_u1_top (r := 146)]; rw [pz_u1_in (r := 147) (q := 149) (by decide)]; rw [pz_u1_in (r := 147) (q := 148) (by decide)]; rw [pz_u1_top (r := 147)]; rw [pz_u1_in (r := 148) (q := 149) (by decide)]; rw [pz_u1_top (r := 148)]; rw [pz_u1_top (r := 149)] <;> rfl)
                 subst h9x
                 replace hci : q_CI k o9_25 n9_27 w9_28 d9_29 m9_30 V9_31 U9_33 (iv 129) (iv 135) := hci
                 replace ho2 : o9_25 2 = (iv 2) 2 := ho2
                 first | exact ⟨pz_u1 (pz_u1 (pz_u1 (pz_u1 (pz_u1 (pz_u1 (pz_u1 (pz_u1 (pz_u1 (pz_u1 (pz_u1 (pz_u1 (pz_u1 iv 2 o9_25) 134 l9_26) 138 n9_27) 139 w9_28) 140 d9_29) 142 m9_30) 143 V9_31) 144 W9_32) 145 U9_33) 146 Y9_34) 147 p9_35) 148 q9_36) 149 r9_37, ⟨o9_25, l9_26, n9_27, w9_28, d9_29, m9_30, V9_31, W9_32, U9_33, Y9_34, p9_35, q9_36, r9_37, by rfl, by exact hci, by exact ho2⟩, lf_e (by rfl)⟩ | (exfalso; omega)))
       · first
         | (exfalso; first | omega | contradiction)
         | (have hc38 : pz_R (pz_Sh L) 170 [.inr (.inl 2), .inl t] (pz_u1 (pz_u1 (pz_u1 (pz_u1 (pz_u1 (pz_u1 (pz_u1 (pz_u1 (pz_u1 (pz_u1 (pz_u1 (pz_u1 (pz_u1 iv 2 (iv 2)) 134 (iv 134)) 138 (iv 138)) 139 (iv 139)) 140 (iv 140)) 142 (iv 142)) 143 (iv 143)) 144 (iv 144)) 145 (iv 145)) 146 (iv 146)) 147 (iv 147)) 148 (iv 148)) 149 (iv 149)) (.inr 2) (pz_u1 (pz_u1 (pz_u1 (pz_u1 (pz_u1 (pz_u1 (pz_u1 (pz_u1 (pz_u1 (pz_u1 (pz_u1 (pz_u1 (pz_u1 iv 2 (iv 2)) 134 (iv 134)) 138 (iv 138)) 139 (iv 139)) 140 (iv 140)) 142 (iv 142)) 143 (iv 143)) 144 (iv 144)) 145 (iv 145)) 146 (iv 146)) 147 (iv 147)) 148 (iv 148)) 149 (iv 149)) := s_X10_needEvent_n t (by show q_cE k (iv 3); exact hE) (by show ¬ (0 ≤ t ∧ t < k 0); exact h3)
            refine w_calle hc38 rfl (pz_cokI is_2 rfl) rfl ?_
            first | exact ⟨pz_u1 (pz_u1 (pz_u1 (pz_u1 (pz_u1 (pz_u1 (pz_u1 (pz_u1 (pz_u1 (pz_u1 (pz_u1 (pz_u1 (pz_u1 iv 2 (iv 2)) 134 (iv 134)) 138 (iv 138)) 139 (iv 139)) 140 (iv 140)) 142 (iv 142)) 143 (iv 143)) 144 (iv 144)) 145 (iv 145)) 146 (iv 146)) 147 (iv 147)) 148 (iv 148)) 149 (iv 149), ⟨(iv 2), (iv 134), (iv 138), (iv 139), (iv 140), (iv 142), (iv 143), (iv 144), (iv 145), (iv 146), (iv 147), (iv 148), (iv 149), by rfl, by exact hci, by exact ho2⟩, lf_e (by rfl)⟩ | (exfalso; omega)))
  · first
    | (exfalso; first | omega | contradiction)
    | (have hc39 : pz_R (pz_Sh L) 170 [.inr (.inl 2), .inl f] (pz_u1 (pz_u1 (pz_u1 (pz_u1 (pz_u1 (pz_u1 (pz_u1 (pz_u1 (pz_u1 (pz_u1 (pz_u1 (pz_u1 (pz_u1 iv 2 (iv 2)) 134 (iv 134)) 138 (iv 138)) 139 (iv 139)) 140 (iv 140)) 142 (iv 142)) 143 (iv 143)) 144 (iv 144)) 145 (iv 145)) 146 (iv 146)) 147 (iv 147)) 148 (iv 148)) 149 (iv 149)) (.inr 2) (pz_u1 (pz_u1 (pz_u1 (pz_u1 (pz_u1 (pz_u1 (pz_u1 (pz_u1 (pz_u1 (pz_u1 (pz_u1 (pz_u1 (pz_u1 iv 2 (iv 2)) 134 (iv 134)) 138 (iv 138)) 139 (iv 139)) 140 (iv 140)) 142 (iv 142)) 143 (iv 143)) 144 (iv 144)) 145 (iv 145)) 146 (iv 146)) 147 (iv 147)) 148 (iv 148)) 149 (iv 149)) := s_X10_needEvent_n f (by show q_cE k (iv 3); exact hE) (by show ¬ (0 ≤ f ∧ f < k 0); exact h1)
       refine w_calle hc39 rfl (pz_cokI is_2 rfl) rfl ?_
       first | exact ⟨pz_u1 (pz_u1 (pz_u1 (pz_u1 (pz_u1 (pz_u1 (pz_u1 (pz_u1 (pz_u1 (pz_u1 (pz_u1 (pz_u1 (pz_u1 iv 2 (iv 2)) 134 (iv 134)) 138 (iv 138)) 139 (iv 139)) 140 (iv 140)) 142 (iv 142)) 143 (iv 143)) 144 (iv 144)) 145 (iv 145)) 146 (iv 146)) 147 (iv 147)) 148 (iv 148)) 149 (iv 149), ⟨(iv 2), (iv 134), (iv 138), (iv 139), (iv 140), (iv 142), (iv 143), (iv 144), (iv 145), (iv 146), (iv 147), (iv 148), (iv 149), by rfl, by exact hci, by exact ho2⟩, lf_e (by rfl)⟩ | (exfalso; omega))

theorem s_X10_waitFor_1 {L : Nat} {iv : Nat → Nat → Int} (e : Int) (s : Int) {k : Nat → Int} (hk : q_KR k) (hE : q_cE k (iv 3)) (hB : q_cB k (iv 4) (iv 5) (iv 6) (iv 7) (iv 8) (iv 9)) (hS : q_cS k (iv 10) (iv 11) (iv 12) (iv 13) (iv 14)) (hC : q_cC k (iv 15) (iv 16)) (hA : q_cA k (iv 17) (iv 18) (iv 19) (iv 20)) (hO : q_cO k (iv 22) (iv 23) (iv 24)) (hL : q_cL k (iv 25)) (hP : q_cP k (iv 27)) (hci : q_CI k (iv 2) (iv 138) (iv 139) (iv 140) (iv 142) (iv 143) (iv 145) (iv 129) (iv 135)) (hcase0 : ¬ (0 ≤ e ∧ e ≤ k 0 - 1 ∧ 0 ≤ s ∧ s ≤ k 2 - 1)) : pz_R (pz_Sh L) 142 [.inr (.inl 2), .inl e, .inl s] iv (.inr 2) iv := by
  intro dv cc ss
  have hk0 := hk.r0
  have hE0 := hE
  have hB0 := hB.1
  have hS0 := hS.1
  have hC0 := hC.1
  have hA0 := hA.1
  show pz_G 142 0 [some (.inr (.inl 2)), some (.inl e), some (.inl s), none] [] (pz_Sh L, iv, dv, cc, ss) (pz_P (pz_Sh L) (.inr 2) iv dv cc ss)
  refine pz_G_of pz_b142_0 ?_
  refine w_loc rfl ?_
  refine w_loc rfl ?_
  by_cases h1 : 0 ≤ e ∧ e < k 0
  · first
    | (exfalso; first | omega | contradiction)
    | (have hc2 : pz_R (pz_Sh L) 170 [.inr (.inl 2), .inl e] (iv) (.inl none) (iv) := s_X10_needEvent_y e (by exact hE) (by exact h1)
       refine w_callv hc2 rfl (pz_cokI is_2 rfl) ?_
       refine w_loc rfl ?_
       refine w_loc rfl ?_
       refine w_getR (q := 3) is_2 rf_2_0 ?_
       refine w_getR (q := 10) is_3 rf_3_2 ?_
       refine w_getI (v := (iv 10) 0) is_10 (by decide) rfl ?_
       by_cases h3 : 0 ≤ s ∧ s < ((iv 10) 0)
       · first
         | (exfalso; first | omega | contradiction)
         | (have hc4 : pz_R (pz_Sh L) 171 [.inl s, .inl ((iv 10) 0)] (iv) (.inl none) (iv) := s_X10_needItem_y s ((iv 10) 0) (by exact h3)
            refine w_callv hc4 rfl rfl ?_
            refine w_loc rfl ?_
            by_cases h5 : q_sen k
            · first
              | (exfalso; first | omega | contradiction)
              | (have hc6 := s_X10_goodReductions_y (L := L) (iv := iv) (by exact hk) (by exact hE) (by exact hB) (by exact hS) (by exact hC) (by exact hL) (by exact hci) (by exact h5)
                 refine w_callE hc6 rfl (pz_cokI is_2 rfl) (fun iv9 h9 => ?_)
                 obtain ⟨o9_7, l9_8, n9_9, w9_10, d9_11, m9_12, V9_13, W9_14, U9_15, Y9_16, p9_17, q9_18, r9_19, h9e, hci, hRK, ho2⟩ := h9
                 have h9x : iv9 = pz_u1 (pz_u1 (pz_u1 (pz_u1 (pz_u1 (pz_u1 (pz_u1 (pz_u1 (pz_u1 (pz_u1 (pz_u1 (pz_u1 (pz_u1 iv 2 o9_7) 134 l9_8) 138 n9_9) 139 w9_10) 140 d9_11) 142 m9_12) 143 V9_13) 144 W9_14) 145 U9_15) 146 Y9_16) 147 p9_17) 148 q9_18) 149 r9_19 := h9e.trans (by rw [pz_u1_top (r := 2)]; rw [pz_u1_top (r := 134)]; rw [pz_u1_top (r := 138)]; rw [pz_u1_top (r := 139)]; rw [pz_u1_top (r := 140)]; rw [pz_u1_top (r := 142)]; rw [pz_u1_top (r := 143)]; rw [pz_u1_top (r := 144)]; rw [pz_u1_top (r := 145)]; rw [pz_u1_top (r := 146)]; rw [pz_u1_top (r := 147)]; rw [pz_u1_top (r := 148)]; rw [pz_u1_top (r := 149)] <;> rfl)
                 subst h9x
                 replace hci : q_CI k o9_7 n9_9 w9_10 d9_11 m9_12 V9_13 U9_15 (iv 129) (iv 135) := hci
                 replace hRK : q_RK k m9_12 V9_13 U9_15 := hRK
                 replace ho2 : o9_7 2 = (iv 2) 2 := ho2
                 refine w_loc rfl ?_
                 refine w_loc rfl ?_
                 have hc20 : pz_R (pz_Sh L) 102 [.inr (.inl 142), .inl e, .inl s] (pz_u1 (pz_u1 (pz_u1 (pz_u1 (pz_u1 (pz_u1 (pz_u1 (pz_u1 (pz_u1 (pz_u1 (pz_u1 (pz_u1 (pz_u1 iv 2 o9_7) 134 l9_8) 138 n9_9) 139 w9_10) 140 d9_11) 142 m9_12) 143 V9_13) 144 W9_14) 145 U9_15) 146 Y9_16) 147 p9_17) 148 q9_18) 149 r9_19) (.inl (some (.inl (q_wt (q_val k) k e s)))) (pz_u1 (pz_u1 (pz_u1 (pz_u1 (pz_u1 (pz_u1 (pz_u1 (pz_u1 (pz_u1 (pz_u1 (pz_u1 (pz_u1 (pz_u1 iv 2 o9_7) 134 l9_8) 138 n9_9) 139 w9_10) 140 d9_11) 142 m9_12) 143 V9_13) 144 W9_14) 145 U9_15) 146 Y9_16) 147 p9_17) 148 q9_18) 149 r9_19) := s_X8_waitOf e s (by show q_KR k; exact hk) (by show q_VU k (q_val k) V9_13 U9_15; exact hRK.2.2 (by assumption)) (by show q_vb (q_val k); exact q_vb_val hk (by assumption)) (by show 0 ≤ e ∧ e < k 0; omega) (by show 0 ≤ s ∧ s < k 2; omega)
                 refine w_call hc20 rfl (pz_cokI is_142 rfl) ?_
                 refine w_loc (ls' := [some (.inr (.inl 2)), some (.inl e), some (.inl s), some (.inl (q_wt (q_val k) k e s))]) (st' := []) rfl ?_
                 refine w_loc rfl ?_
                 refine w_zne (fun h21 => ?_) (fun h21 => ?_)
                 · first
                   | (exfalso; first | omega | contradiction)
                   | (refine pz_G_of pz_b142_43 ?_
                      refine w_loc rfl ?_
                      refine w_ret rfl ?_
                      first | exact lf_i (by first | rfl | omega) (by rfl) | (exfalso; omega))
                 · first
                   | (exfalso; first | omega | contradiction)
                   | (refine w_thr (by decide) ?_
                      first | exact lf_e (by rfl) | (exfalso; omega)))
            · first
              | (exfalso; first | omega | contradiction)
              | (have hc22 := s_X10_goodReductions_n (L := L) (iv := iv) (by exact hk) (by exact hE) (by exact hB) (by exact hS) (by exact hC) (by exact hL) (by exact hci) (by exact h5)
                 refine w_calleE hc22 rfl (pz_cokI is_2 rfl) rfl (fun iv9 h9 => ?_)
                 obtain ⟨o9_23, l9_24, n9_25, w9_26, d9_27, m9_28, V9_29, W9_30, U9_31, Y9_32, p9_33, q9_34, r9_35, h9e, hci, ho2⟩ := h9
                 have h9x : iv9 = pz_u1 (pz_u1 (pz_u1 (pz_u1 (pz_u1 (pz_u1 (pz_u1 (pz_u1 (pz_u1 (pz_u1 (pz_u1 (pz_u1 (pz_u1 iv 2 o9_23) 134 l9_24) 138 n9_25) 139 w9_26) 140 d9_27) 142 m9_28) 143 V9_29) 144 W9_30) 145 U9_31) 146 Y9_32) 147 p9_33) 148 q9_34) 149 r9_35 := h9e.trans (by rw [pz_u1_top (r := 2)]; rw [pz_u1_top (r := 134)]; rw [pz_u1_top (r := 138)]; rw [pz_u1_top (r := 139)]; rw [pz_u1_top (r := 140)]; rw [pz_u1_top (r := 142)]; rw [pz_u1_top (r := 143)]; rw [pz_u1_top (r := 144)]; rw [pz_u1_top (r := 145)]; rw [pz_u1_top (r := 146)]; rw [pz_u1_top (r := 147)]; rw [pz_u1_top (r := 148)]; rw [pz_u1_top (r := 149)] <;> rfl)
                 subst h9x
                 replace hci : q_CI k o9_23 n9_25 w9_26 d9_27 m9_28 V9_29 U9_31 (iv 129) (iv 135) := hci
                 replace ho2 : o9_23 2 = (iv 2) 2 := ho2
                 first | exact lf_e (by rfl) | (exfalso; omega)))
       · first
         | (exfalso; first | omega | contradiction)
         | (have hc36 : pz_R (pz_Sh L) 171 [.inl s, .inl ((iv 10) 0)] (iv) (.inr 2) (iv) := s_X10_needItem_n s ((iv 10) 0) (by exact h3)
            refine w_calle hc36 rfl rfl rfl ?_
            first | exact lf_e (by rfl) | (exfalso; omega)))
  · first
    | (exfalso; first | omega | contradiction)
    | (have hc37 : pz_R (pz_Sh L) 170 [.inr (.inl 2), .inl e] (iv) (.inr 2) (iv) := s_X10_needEvent_n e (by exact hE) (by exact h1)
       refine w_calle hc37 rfl (pz_cokI is_2 rfl) rfl ?_
       first | exact lf_e (by rfl) | (exfalso; omega))

theorem s_X10_waitFor_2 {L : Nat} {iv : Nat → Nat → Int} (e : Int) (s : Int) {k : Nat → Int} (hk : q_KR k) (hE : q_cE k (iv 3)) (hB : q_cB k (iv 4) (iv 5) (iv 6) (iv 7) (iv 8) (iv 9)) (hS : q_cS k (iv 10) (iv 11) (iv 12) (iv 13) (iv 14)) (hC : q_cC k (iv 15) (iv 16)) (hA : q_cA k (iv 17) (iv 18) (iv 19) (iv 20)) (hO : q_cO k (iv 22) (iv 23) (iv 24)) (hL : q_cL k (iv 25)) (hP : q_cP k (iv 27)) (hci : q_CI k (iv 2) (iv 138) (iv 139) (iv 140) (iv 142) (iv 143) (iv 145) (iv 129) (iv 135)) (hcase0 : 0 ≤ e ∧ e ≤ k 0 - 1 ∧ 0 ≤ s ∧ s ≤ k 2 - 1) (hcase1 : ¬ q_sen k) : pz_RE (pz_Sh L) 142 [.inr (.inl 2), .inl e, .inl s] iv (.inr 0) (fun iv9 => ∃ (o9 : Nat → Int) (l9 : Nat → Int) (n9 : Nat → Int) (w9 : Nat → Int) (d9 : Nat → Int) (m9 : Nat → Int) (V9 : Nat → Int) (W9 : Nat → Int) (U9 : Nat → Int) (Y9 : Nat → Int) (p9 : Nat → Int) (q9 : Nat → Int) (r9 : Nat → Int), iv9 = pz_u1 (pz_u1 (pz_u1 (pz_u1 (pz_u1 (pz_u1 (pz_u1 (pz_u1 (pz_u1 (pz_u1 (pz_u1 (pz_u1 (pz_u1 iv 2 o9) 134 l9) 138 n9) 139 w9) 140 d9) 142 m9) 143 V9) 144 W9) 145 U9) 146 Y9) 147 p9) 148 q9) 149 r9 ∧ (q_CI k o9 n9 w9 d9 m9 V9 U9 (iv 129) (iv 135)) ∧ (o9 2 = (iv 2) 2)) := by
  intro dv cc ss
  have hk0 := hk.r0
  have hE0 := hE
  have hB0 := hB.1
  have hS0 := hS.1
  have hC0 := hC.1
  have hA0 := hA.1
  refine pz_G_mem (iv2 := pz_u1 (pz_u1 (pz_u1 (pz_u1 (pz_u1 (pz_u1 (pz_u1 (pz_u1 (pz_u1 (pz_u1 (pz_u1 (pz_u1 (pz_u1 iv 2 (iv 2)) 134 (iv 134)) 138 (iv 138)) 139 (iv 139)) 140 (iv 140)) 142 (iv 142)) 143 (iv 143)) 144 (iv 144)) 145 (iv 145)) 146 (iv 146)) 147 (iv 147)) 148 (iv 148)) 149 (iv 149)) (by exact (((((((((((((pz_u1_self iv 2).symm).trans (pz_u1_self (pz_u1 iv 2 (iv 2)) 134).symm).trans (pz_u1_self (pz_u1 (pz_u1 iv 2 (iv 2)) 134 (iv 134)) 138).symm).trans (pz_u1_self (pz_u1 (pz_u1 (pz_u1 iv 2 (iv 2)) 134 (iv 134)) 138 (iv 138)) 139).symm).trans (pz_u1_self (pz_u1 (pz_u1 (pz_u1 (pz_u1 iv 2 (iv 2)) 134 (iv 134)) 138 (iv 138)) 139 (iv 139)) 140).symm).trans (pz_u1_self (pz_u1 (pz_u1 (pz_u1 (pz_u1 (pz_u1 iv 2 (iv 2)) 134 (iv 134)) 138 (iv 138)) 139 (iv 139)) 140 (iv 140)) 142).symm).trans (pz_u1_self (pz_u1 (pz_u1 (pz_u1 (pz_u1 (pz_u1 (pz_u1 iv 2 (iv 2)) 134 (iv 134)) 138 (iv 138)) 139 (iv 139)) 140 (iv 140)) 142 (iv 142)) 143).symm).trans (pz_u1_self (pz_u1 (pz_u1 (pz_u1 (pz_u1 (pz_u1 (pz_u1 (pz_u1 iv 2 (iv 2)) 134 (iv 134)) 138 (iv 138)) 139 (iv 139)) 140 (iv 140)) 142 (iv 142)) 143 (iv 143)) 144).symm).trans (pz_u1_self (pz_u1 (pz_u1 (pz_u1 (pz_u1 (pz_u1 (pz_u1 (pz_u1 (pz_u1 iv 2 (iv 2)) 134 (iv 134)) 138 (iv 138)) 139 (iv 139)) 140 (iv 140)) 142 (iv 142)) 143 (iv 143)) 144 (iv 144)) 145).symm).trans (pz_u1_self (pz_u1 (pz_u1 (pz_u1 (pz_u1 (pz_u1 (pz_u1 (pz_u1 (pz_u1 (pz_u1 iv 2 (iv 2)) 134 (iv 134)) 138 (iv 138)) 139 (iv 139)) 140 (iv 140)) 142 (iv 142)) 143 (iv 143)) 144 (iv 144)) 145 (iv 145)) 146).symm).trans (pz_u1_self (pz_u1 (pz_u1 (pz_u1 (pz_u1 (pz_u1 (pz_u1 (pz_u1 (pz_u1 (pz_u1 (pz_u1 iv 2 (iv 2)) 134 (iv 134)) 138 (iv 138)) 139 (iv 139)) 140 (iv 140)) 142 (iv 142)) 143 (iv 143)) 144 (iv 144)) 145 (iv 145)) 146 (iv 146)) 147).symm).trans (pz_u1_self (pz_u1 (pz_u1 (pz_u1 (pz_u1 (pz_u1 (pz_u1 (pz_u1 (pz_u1 (pz_u1 (pz_u1 (pz_u1 iv 2 (iv 2)) 134 (iv 134)) 138 (iv 138)) 139 (iv 139)) 140 (iv 140)) 142 (iv 142)) 143 (iv 143)) 144 (iv 144)) 145 (iv 145)) 146 (iv 146)) 147 (iv 147)) 148).symm).trans (pz_u1_self (pz_u1 (pz_u1 (pz_u1 (pz_u1 (pz_u1 (pz_u1 (pz_u1 (pz_u1 (pz_u1 (pz_u1 (pz_u1 (pz_u1 iv 2 (iv 2)) 134 (iv 134)) 138 (iv 138)) 139 (iv 139)) 140 (iv 140)) 142 (iv 142)) 143 (iv 143)) 144 (iv 144)) 145 (iv 145)) 146 (iv 146)) 147 (iv 147)) 148 (iv 148)) 149).symm) ?_
  show pz_G 142 0 [some (.inr (.inl 2)), some (.inl e), some (.inl s), none] [] (pz_Sh L, pz_u1 (pz_u1 (pz_u1 (pz_u1 (pz_u1 (pz_u1 (pz_u1 (pz_u1 (pz_u1 (pz_u1 (pz_u1 (pz_u1 (pz_u1 iv 2 (iv 2)) 134 (iv 134)) 138 (iv 138)) 139 (iv 139)) 140 (iv 140)) 142 (iv 142)) 143 (iv 143)) 144 (iv 144)) 145 (iv 145)) 146 (iv 146)) 147 (iv 147)) 148 (iv 148)) 149 (iv 149), dv, cc, ss) (pz_PE (pz_Sh L) (.inr 0) (fun iv9 => ∃ (o9 : Nat → Int) (l9 : Nat → Int) (n9 : Nat → Int) (w9 : Nat → Int) (d9 : Nat → Int) (m9 : Nat → Int) (V9 : Nat → Int) (W9 : Nat → Int) (U9 : Nat → Int) (Y9 : Nat → Int) (p9 : Nat → Int) (q9 : Nat → Int) (r9 : Nat → Int), iv9 = pz_u1 (pz_u1 (pz_u1 (pz_u1 (pz_u1 (pz_u1 (pz_u1 (pz_u1 (pz_u1 (pz_u1 (pz_u1 (pz_u1 (pz_u1 iv 2 o9) 134 l9) 138 n9) 139 w9) 140 d9) 142 m9) 143 V9) 144 W9) 145 U9) 146 Y9) 147 p9) 148 q9) 149 r9 ∧ (q_CI k o9 n9 w9 d9 m9 V9 U9 (iv 129) (iv 135)) ∧ (o9 2 = (iv 2) 2)) dv cc ss)
  refine pz_G_of pz_b142_0 ?_
  refine w_loc rfl ?_
  refine w_loc rfl ?_
  by_cases h1 : 0 ≤ e ∧ e < k 0
  · first
    | (exfalso; first | omega | contradiction)
    | (have hc2 : pz_R (pz_Sh L) 170 [.inr (.inl 2), .inl e] (pz_u1 (pz_u1 (pz_u1 (pz_u1 (pz_u1 (pz_u1 (pz_u1 (pz_u1 (pz_u1 (pz_u1 (pz_u1 (pz_u1 (pz_u1 iv 2 (iv 2)) 134 (iv 134)) 138 (iv 138)) 139 (iv 139)) 140 (iv 140)) 142 (iv 142)) 143 (iv 143)) 144 (iv 144)) 145 (iv 145)) 146 (iv 146)) 147 (iv 147)) 148 (iv 148)) 149 (iv 149)) (.inl none) (pz_u1 (pz_u1 (pz_u1 (pz_u1 (pz_u1 (pz_u1 (pz_u1 (pz_u1 (pz_u1 (pz_u1 (pz_u1 (pz_u1 (pz_u1 iv 2 (iv 2)) 134 (iv 134)) 138 (iv 138)) 139 (iv 139)) 140 (iv 140)) 142 (iv 142)) 143 (iv 143)) 144 (iv 144)) 145 (iv 145)) 146 (iv 146)) 147 (iv 147)) 148 (iv 148)) 149 (iv 149)) := s_X10_needEvent_y e (by show q_cE k (iv 3); exact hE) (by show 0 ≤ e ∧ e < k 0; exact h1)
       refine w_callv hc2 rfl (pz_cokI is_2 rfl) ?_
       refine w_loc rfl ?_
       refine w_loc rfl ?_
       refine w_getR (q := 3) is_2 rf_2_0 ?_
       refine w_getR (q := 10) is_3 rf_3_2 ?_
       refine w_getI (v := (iv 10) 0) is_10 (by decide) rfl ?_
       by_cases h3 : 0 ≤ s ∧ s < ((iv 10) 0)
       · first
         | (exfalso; first | omega | contradiction)
         | (have hc4 : pz_R (pz_Sh L) 171 [.inl s, .inl ((iv 10) 0)] (pz_u1 (pz_u1 (pz_u1 (pz_u1 (pz_u1 (pz_u1 (pz_u1 (pz_u1 (pz_u1 (pz_u1 (pz_u1 (pz_u1 (pz_u1 iv 2 (iv 2)) 134 (iv 134)) 138 (iv 138)) 139 (iv 139)) 140 (iv 140)) 142 (iv 142)) 143 (iv 143)) 144 (iv 144)) 145 (iv 145)) 146 (iv 146)) 147 (iv 147)) 148 (iv 148)) 149 (iv 149)) (.inl none) (pz_u1 (pz_u1 (pz_u1 (pz_u1 (pz_u1 (pz_u1 (pz_u1 (pz_u1 (pz_u1 (pz_u1 (pz_u1 (pz_u1 (pz_u1 iv 2 (iv 2)) 134 (iv 134)) 138 (iv 138)) 139 (iv 139)) 140 (iv 140)) 142 (iv 142)) 143 (iv 143)) 144 (iv 144)) 145 (iv 145)) 146 (iv 146)) 147 (iv 147)) 148 (iv 148)) 149 (iv 149)) := s_X10_needItem_y s ((iv 10) 0) (by show 0 ≤ s ∧ s < ((iv 10) 0); exact h3)
            refine w_callv hc4 rfl rfl ?_
            refine w_loc rfl ?_
            by_cases h5 : q_sen k
            · first
              | (exfalso; first | omega | contradiction)
              | (have hc6 := s_X10_goodReductions_y (L := L) (iv := pz_u1 (pz_u1 (pz_u1 (pz_u1 (pz_u1 (pz_u1 (pz_u1 (pz_u1 (pz_u1 (pz_u1 (pz_u1 (pz_u1 (pz_u1 iv 2 (iv 2)) 134 (iv 134)) 138 (iv 138)) 139 (iv 139)) 140 (iv 140)) 142 (iv 142)) 143 (iv 143)) 144 (iv 144)) 145 (iv 145)) 146 (iv 146)) 147 (iv 147)) 148 (iv 148)) 149 (iv 149)) (by show q_KR k; exact hk) (by show q_cE k (iv 3); exact hE) (by show q_cB k (iv 4) (iv 5) (iv 6) (iv 7) (iv 8) (iv 9); exact hB) (by show q_cS k (iv 10) (iv 11) (iv 12) (iv 13) (iv 14); exact hS) (by show q_cC k (iv 15) (iv 16); exact hC) (by show q_cL k (iv 25); exact hL) (by show q_CI k (iv 2) (iv 138) (iv 139) (iv 140) (iv 142) (iv 143) (iv 145) (iv 129) (iv 135); exact hci) (by show q_sen k; exact h5)
                 refine w_callE hc6 rfl (pz_cokI is_2 rfl) (fun iv9 h9 => ?_)
                 obtain ⟨o9_7, l9_8, n9_9, w9_10, d9_11, m9_12, V9_13, W9_14, U9_15, Y9_16, p9_17, q9_18, r9_19, h9e, hci, hRK, ho2⟩ := h9
                 have h9x : iv9 = pz_u1 (pz_u1 (pz_u1 (pz_u1 (pz_u1 (pz_u1 (pz_u1 (pz_u1 (pz_u1 (pz_u1 (pz_u1 (pz_u1 (pz_u1 iv 2 o9_7) 134 l9_8) 138 n9_9) 139 w9_10) 140 d9_11) 142 m9_12) 143 V9_13) 144 W9_14) 145 U9_15) 146 Y9_16) 147 p9_17) 148 q9_18) 149 r9_19 := h9e.trans (by rw [pz_u1_in (r := 2) (q := 149) (by decide)]; rw [pz_u1_in (r := 2) (q := 148) (by decide)]; rw [pz_u1_in (r := 2) (q := 147) (by decide)]; rw [pz_u1_in (r := 2) (q := 146) (by decide)]; rw [pz_u1_in (r := 2) (q := 145) (by decide)]; rw [pz_u1_in (r := 2) (q := 144) (by decide)]; rw [pz_u1_in (r := 2) (q := 143) (by decide)]; rw [pz_u1_in (r := 2) (q := 142) (by decide)]; rw [pz_u1_in (r := 2) (q := 140) (by decide)]; rw [pz_u1_in (r := 2) (q := 139) (by decide)]; rw [pz_u1_in (r := 2) (q := 138) (by decide)]; rw [pz_u1_in (r := 2) (q := 134) (by decide)]; rw [pz_u1_top (r := 2)]; rw [pz_u1_in (r := 134) (q := 149) (by decide)]; rw [pz_u1_in (r := 134) (q := 148) (by decide)]; rw [pz_u1_in (r := 134) (q := 147) (by decide)]; rw [pz_u1_in (r := 134) (q := 146) (by decide)]; rw [pz_u1_in (r := 134) (q := 145) (by decide)]; rw [pz_u1_in (r := 134) (q := 144) (by decide)]; rw [pz_u1_in (r := 134) (q := 143) (by decide)]; rw [pz_u1_in (r := 134) (q := 142) (by decide)]; rw [pz_u1_in (r := 134) (q := 140) (by decide)]; rw [pz_u1_in (r := 134) (q := 139) (by decide)]; rw [pz_u1_in (r := 134) (q := 138) (by decide)]; rw [pz_u1_top (r := 134)]; rw [pz_u1_in (r := 138) (q := 149) (by decide)]; rw [pz_u1_in (r := 138) (q := 148) (by decide)]; rw [pz_u1_in (r := 138) (q := 147) (by decide)]; rw [pz_u1_in (r := 138) (q := 146) (by decide)]; rw [pz_u1_in (r := 138) (q := 145) (by decide)]; rw [pz_u1_in (r := 138) (q := 144) (by decide)]; rw [pz_u1_in (r := 138) (q := 143) (by decide)]; rw [pz_u1_in (r := 138) (q := 142) (by decide)]; rw [pz_u1_in (r := 138) (q := 140) (by decide)]; rw [pz_u1_in (r := 138) (q := 139) (by decide)]; rw [pz_u1_top (r := 138)]; rw [pz_u1_in (r := 139) (q := 149) (by decide)]; rw [pz_u1_in (r := 139) (q := 148) (by decide)]; rw [pz_u1_in (r := 139) (q := 147) (by decide)]; rw [pz_u1_in (r := 139) (q := 146) (by decide)]; rw [pz_u1_in (r := 139) (q := 145) (by decide)]; rw [pz_u1_in (r := 139) (q := 144) (by decide)]; rw [pz_u1_in (r := 139) (q := 143) (by decide)]; rw [pz_u1_in (r := 139) (q := 142) (by decide)]; rw [pz_u1_in (r := 139) (q := 140) (by decide)]; rw [pz_u1_top (r := 139)]; rw [pz_u1_in (r := 140) (q := 149) (by decide)]; rw [pz_u1_in (r := 140) (q := 148) (by decide)]; rw [pz_u1_in (r := 140) (q := 147) (by decide)]; rw [pz_u1_in (r := 140) (q := 146) (by decide)]; rw [pz_u1_in (r := 140) (q := 145) (by decide)]; rw [pz_u1_in (r := 140) (q := 144) (by decide)]; rw [pz_u1_in (r := 140) (q := 143) (by decide)]; rw [pz_u1_in (r := 140) (q := 142) (by decide)]; rw [pz_u1_top (r := 140)]; rw [pz_u1_in (r := 142) (q := 149) (by decide)]; rw [pz_u1_in (r := 142) (q := 148) (by decide)]; rw [pz_u1_in (r := 142) (q := 147) (by decide)]; rw [pz_u1_in (r := 142) (q := 146) (by decide)]; rw [pz_u1_in (r := 142) (q := 145) (by decide)]; rw [pz_u1_in (r := 142) (q := 144) (by decide)]; rw [pz_u1_in (r := 142) (q := 143) (by decide)]; rw [pz_u1_top (r := 142)]; rw [pz_u1_in (r := 143) (q := 149) (by decide)]; rw [pz_u1_in (r := 143) (q := 148) (by decide)]; rw [pz_u1_in (r := 143) (q := 147) (by decide)]; rw [pz_u1_in (r := 143) (q := 146) (by decide)]; rw [pz_u1_in (r := 143) (q := 145) (by decide)]; rw [pz_u1_in (r := 143) (q := 144) (by decide)]; rw [pz_u1_top (r := 143)]; rw [pz_u1_in (r := 144) (q := 149) (by decide)]; rw [pz_u1_in (r := 144) (q := 148) (by decide)]; rw [pz_u1_in (r := 144) (q := 147) (by decide)]; rw [pz_u1_in (r := 144) (q := 146) (by decide)]; rw [pz_u1_in (r := 144) (q := 145) (by decide)]; rw [pz_u1_top (r := 144)]; rw [pz_u1_in (r := 145) (q := 149) (by decide)]; rw [pz_u1_in (r := 145) (q := 148) (by decide)]; rw [pz_u1_in (r := 145) (q := 147) (by decide)]; rw [pz_u1_in (r := 145) (q := 146) (by decide)]; rw [pz_u1_top (r := 145)]; rw [pz_u1_in (r := 146) (q := 149) (by decide)]; rw [pz_u1_in (r := 146) (q := 148) (by decide)]; rw [pz_u1_in (r := 146) (q := 147) (by decide)]; rw [pz_u1_top (r := 146)]; rw [pz_u1_in (r := 147) (q := 149) (by decide)]; rw [pz_u1_in (r := 147) (q := 148) (by decide)]; rw [pz_u1_top (r := 147)]; rw [pz_u1_in (r := 148) (q := 149) (by decide)]; rw [pz_u1_top (r := 148)]; rw [pz_u1_top (r := 149)] <;> rfl)
                 subst h9x
                 replace hci : q_CI k o9_7 n9_9 w9_10 d9_11 m9_12 V9_13 U9_15 (iv 129) (iv 135) := hci
                 replace hRK : q_RK k m9_12 V9_13 U9_15 := hRK
                 replace ho2 : o9_7 2 = (iv 2) 2 := ho2
                 refine w_loc rfl ?_
                 refine w_loc rfl ?_
                 have hc20 : pz_R (pz_Sh L) 102 [.inr (.inl 142), .inl e, .inl s] (pz_u1 (pz_u1 (pz_u1 (pz_u1 (pz_u1 (pz_u1 (pz_u1 (pz_u1 (pz_u1 (pz_u1 (pz_u1 (pz_u1 (pz_u1 iv 2 o9_7) 134 l9_8) 138 n9_9) 139 w9_10) 140 d9_11) 142 m9_12) 143 V9_13) 144 W9_14) 145 U9_15) 146 Y9_16) 147 p9_17) 148 q9_18) 149 r9_19) (.inl (some (.inl (q_wt (q_val k) k e s)))) (pz_u1 (pz_u1 (pz_u1 (pz_u1 (pz_u1 (pz_u1 (pz_u1 (pz_u1 (pz_u1 (pz_u1 (pz_u1 (pz_u1 (pz_u1 iv 2 o9_7) 134 l9_8) 138 n9_9) 139 w9_10) 140 d9_11) 142 m9_12) 143 V9_13) 144 W9_14) 145 U9_15) 146 Y9_16) 147 p9_17) 148 q9_18) 149 r9_19) := s_X8_waitOf e s (by show q_KR k; exact hk) (by show q_VU k (q_val k) V9_13 U9_15; exact hRK.2.2 (by assumption)) (by show q_vb (q_val k); exact q_vb_val hk (by assumption)) (by show 0 ≤ e ∧ e < k 0; omega) (by show 0 ≤ s ∧ s < k 2; omega)
                 refine w_call hc20 rfl (pz_cokI is_142 rfl) ?_
                 refine w_loc (ls' := [some (.inr (.inl 2)), some (.inl e), some (.inl s), some (.inl (q_wt (q_val k) k e s))]) (st' := []) rfl ?_
                 refine w_loc rfl ?_
                 refine w_zne (fun h21 => ?_) (fun h21 => ?_)
                 · first
                   | (exfalso; first | omega | contradiction)
                   | (refine pz_G_of pz_b142_43 ?_
                      refine w_loc rfl ?_
                      refine w_ret rfl ?_
                      first | exact ⟨pz_u1 (pz_u1 (pz_u1 (pz_u1 (pz_u1 (pz_u1 (pz_u1 (pz_u1 (pz_u1 (pz_u1 (pz_u1 (pz_u1 (pz_u1 iv 2 o9_7) 134 l9_8) 138 n9_9) 139 w9_10) 140 d9_11) 142 m9_12) 143 V9_13) 144 W9_14) 145 U9_15) 146 Y9_16) 147 p9_17) 148 q9_18) 149 r9_19, ⟨o9_7, l9_8, n9_9, w9_10, d9_11, m9_12, V9_13, W9_14, U9_15, Y9_16, p9_17, q9_18, r9_19, by rfl, by exact hci, by exact ho2⟩, lf_i (by first | rfl | omega) (by rfl)⟩ | (exfalso; omega))
                 · first
                   | (exfalso; first | omega | contradiction)
                   | (refine w_thr (by decide) ?_
                      first | exact ⟨pz_u1 (pz_u1 (pz_u1 (pz_u1 (pz_u1 (pz_u1 (pz_u1 (pz_u1 (pz_u1 (pz_u1 (pz_u1 (pz_u1 (pz_u1 iv 2 o9_7) 134 l9_8) 138 n9_9) 139 w9_10) 140 d9_11) 142 m9_12) 143 V9_13) 144 W9_14) 145 U9_15) 146 Y9_16) 147 p9_17) 148 q9_18) 149 r9_19, ⟨o9_7, l9_8, n9_9, w9_10, d9_11, m9_12, V9_13, W9_14, U9_15, Y9_16, p9_17, q9_18, r9_19, by rfl, by exact hci, by exact ho2⟩, lf_e (by rfl)⟩ | (exfalso; omega)))
            · first
              | (exfalso; first | omega | contradiction)
              | (have hc22 := s_X10_goodReductions_n (L := L) (iv := pz_u1 (pz_u1 (pz_u1 (pz_u1 (pz_u1 (pz_u1 (pz_u1 (pz_u1 (pz_u1 (pz_u1 (pz_u1 (pz_u1 (pz_u1 iv 2 (iv 2)) 134 (iv 134)) 138 (iv 138)) 139 (iv 139)) 140 (iv 140)) 142 (iv 142)) 143 (iv 143)) 144 (iv 144)) 145 (iv 145)) 146 (iv 146)) 147 (iv 147)) 148 (iv 148)) 149 (iv 149)) (by show q_KR k; exact hk) (by show q_cE k (iv 3); exact hE) (by show q_cB k (iv 4) (iv 5) (iv 6) (iv 7) (iv 8) (iv 9); exact hB) (by show q_cS k (iv 10) (iv 11) (iv 12) (iv 13) (iv 14); exact hS) (by show q_cC k (iv 15) (iv 16); exact hC) (by show q_cL k (iv 25); exact hL) (by show q_CI k (iv 2) (iv 138) (iv 139) (iv 140) (iv 142) (iv 143) (iv 145) (iv 129) (iv 135); exact hci) (by show ¬ q_sen k; exact h5)
                 refine w_calleE hc22 rfl (pz_cokI is_2 rfl) rfl (fun iv9 h9 => ?_)
                 obtain ⟨o9_23, l9_24, n9_25, w9_26, d9_27, m9_28, V9_29, W9_30, U9_31, Y9_32, p9_33, q9_34, r9_35, h9e, hci, ho2⟩ := h9
                 have h9x : iv9 = pz_u1 (pz_u1 (pz_u1 (pz_u1 (pz_u1 (pz_u1 (pz_u1 (pz_u1 (pz_u1 (pz_u1 (pz_u1 (pz_u1 (pz_u1 iv 2 o9_23) 134 l9_24) 138 n9_25) 139 w9_26) 140 d9_27) 142 m9_28) 143 V9_29) 144 W9_30) 145 U9_31) 146 Y9_32) 147 p9_33) 148 q9_34) 149 r9_35 := h9e.trans (by rw [pz_u1_in (r := 2) (q := 149) (by decide)]; rw [pz_u1_in (r := 2) (q := 148) (by decide)]; rw [pz_u1_in (r := 2) (q := 147) (by decide)]; rw [pz_u1_in (r := 2) (q := 146) (by decide)]; rw [pz_u1_in (r := 2) (q := 145) (by decide)]; rw [pz_u1_in (r := 2) (q := 144) (by decide)]; rw [pz_u1_in (r := 2) (q := 143) (by decide)]; rw [pz_u1_in (r := 2) (q := 142) (by decide)]; rw [pz_u1_in (r := 2) (q := 140) (by decide)]; rw [pz_u1_in (r := 2) (q := 139) (by decide)]; rw [pz_u1_in (r := 2) (q := 138) (by decide)]; rw [pz_u1_in (r := 2) (q := 134) (by decide)]; rw [pz_u1_top (r := 2)]; rw [pz_u1_in (r := 134) (q := 149) (by decide)]; rw [pz_u1_in (r := 134) (q := 148) (by decide)]; rw [pz_u1_in (r := 134) (q := 147) (by decide)]; rw [pz_u1_in (r := 134) (q := 146) (by decide)]; rw [pz_u1_in (r := 134) (q := 145) (by decide)]; rw [pz_u1_in (r := 134) (q := 144) (by decide)]; rw [pz_u1_in (r := 134) (q := 143) (by decide)]; rw [pz_u1_in (r := 134) (q := 142) (by decide)]; rw [pz_u1_in (r := 134) (q := 140) (by decide)]; rw [pz_u1_in (r := 134) (q := 139) (by decide)]; rw [pz_u1_in (r := 134) (q := 138) (by decide)]; rw [pz_u1_top (r := 134)]; rw [pz_u1_in (r := 138) (q := 149) (by decide)]; rw [pz_u1_in (r := 138) (q := 148) (by decide)]; rw [pz_u1_in (r := 138) (q := 147) (by decide)]; rw [pz_u1_in (r := 138) (q := 146) (by decide)]; rw [pz_u1_in (r := 138) (q := 145) (by decide)]; rw [pz_u1_in (r := 138) (q := 144) (by decide)]; rw [pz_u1_in (r := 138) (q := 143) (by decide)]; rw [pz_u1_in (r := 138) (q := 142) (by decide)]; rw [pz_u1_in (r := 138) (q := 140) (by decide)]; rw [pz_u1_in (r := 138) (q := 139) (by decide)]; rw [pz_u1_top (r := 138)]; rw [pz_u1_in (r := 139) (q := 149) (by decide)]; rw [pz_u1_in (r := 139) (q := 148) (by decide)]; rw [pz_u1_in (r := 139) (q := 147) (by decide)]; rw [pz_u1_in (r := 139) (q := 146) (by decide)]; rw [pz_u1_in (r := 139) (q := 145) (by decide)]; rw [pz_u1_in (r := 139) (q := 144) (by decide)]; rw [pz_u1_in (r := 139) (q := 143) (by decide)]; rw [pz_u1_in (r := 139) (q := 142) (by decide)]; rw [pz_u1_in (r := 139) (q := 140) (by decide)]; rw [pz_u1_top (r := 139)]; rw [pz_u1_in (r := 140) (q := 149) (by decide)]; rw [pz_u1_in (r := 140) (q := 148) (by decide)]; rw [pz_u1_in (r := 140) (q := 147) (by decide)]; rw [pz_u1_in (r := 140) (q := 146) (by decide)]; rw [pz_u1_in (r := 140) (q := 145) (by decide)]; rw [pz_u1_in (r := 140) (q := 144) (by decide)]; rw [pz_u1_in (r := 140) (q := 143) (by decide)]; rw [pz_u1_in (r := 140) (q := 142) (by decide)]; rw [pz_u1_top (r := 140)]; rw [pz_u1_in (r := 142) (q := 149) (by decide)]; rw [pz_u1_in (r := 142) (q := 148) (by decide)]; rw [pz_u1_in (r := 142) (q := 147) (by decide)]; rw [pz_u1_in (r := 142) (q := 146) (by decide)]; rw [pz_u1_in (r := 142) (q := 145) (by decide)]; rw [pz_u1_in (r := 142) (q := 144) (by decide)]; rw [pz_u1_in (r := 142) (q := 143) (by decide)]; rw [pz_u1_top (r := 142)]; rw [pz_u1_in (r := 143) (q := 149) (by decide)]; rw [pz_u1_in (r := 143) (q := 148) (by decide)]; rw [pz_u1_in (r := 143) (q := 147) (by decide)]; rw [pz_u1_in (r := 143) (q := 146) (by decide)]; rw [pz_u1_in (r := 143) (q := 145) (by decide)]; rw [pz_u1_in (r := 143) (q := 144) (by decide)]; rw [pz_u1_top (r := 143)]; rw [pz_u1_in (r := 144) (q := 149) (by decide)]; rw [pz_u1_in (r := 144) (q := 148) (by decide)]; rw [pz_u1_in (r := 144) (q := 147) (by decide)]; rw [pz_u1_in (r := 144) (q := 146) (by decide)]; rw [pz_u1_in (r := 144) (q := 145) (by decide)]; rw [pz_u1_top (r := 144)]; rw [pz_u1_in (r := 145) (q := 149) (by decide)]; rw [pz_u1_in (r := 145) (q := 148) (by decide)]; rw [pz_u1_in (r := 145) (q := 147) (by decide)]; rw [pz_u1_in (r := 145) (q := 146) (by decide)]; rw [pz_u1_top (r := 145)]; rw [pz_u1_in (r := 146) (q := 149) (by decide)]; rw [pz_u1_in (r := 146) (q := 148) (by decide)]; rw [pz_u1_in (r := 146) (q := 147) (by decide)]; rw [pz_u1_top (r := 146)]; rw [pz_u1_in (r := 147) (q := 149) (by decide)]; rw [pz_u1_in (r := 147) (q := 148) (by decide)]; rw [pz_u1_top (r := 147)]; rw [pz_u1_in (r := 148) (q := 149) (by decide)]; rw [pz_u1_top (r := 148)]; rw [pz_u1_top (r := 149)] <;> rfl)
                 subst h9x
                 replace hci : q_CI k o9_23 n9_25 w9_26 d9_27 m9_28 V9_29 U9_31 (iv 129) (iv 135) := hci
                 replace ho2 : o9_23 2 = (iv 2) 2 := ho2
                 first | exact ⟨pz_u1 (pz_u1 (pz_u1 (pz_u1 (pz_u1 (pz_u1 (pz_u1 (pz_u1 (pz_u1 (pz_u1 (pz_u1 (pz_u1 (pz_u1 iv 2 o9_23) 134 l9_24) 138 n9_25) 139 w9_26) 140 d9_27) 142 m9_28) 143 V9_29) 144 W9_30) 145 U9_31) 146 Y9_32) 147 p9_33) 148 q9_34) 149 r9_35, ⟨o9_23, l9_24, n9_25, w9_26, d9_27, m9_28, V9_29, W9_30, U9_31, Y9_32, p9_33, q9_34, r9_35, by rfl, by exact hci, by exact ho2⟩, lf_e (by rfl)⟩ | (exfalso; omega)))
       · first
         | (exfalso; first | omega | contradiction)
         | (have hc36 : pz_R (pz_Sh L) 171 [.inl s, .inl ((iv 10) 0)] (pz_u1 (pz_u1 (pz_u1 (pz_u1 (pz_u1 (pz_u1 (pz_u1 (pz_u1 (pz_u1 (pz_u1 (pz_u1 (pz_u1 (pz_u1 iv 2 (iv 2)) 134 (iv 134)) 138 (iv 138)) 139 (iv 139)) 140 (iv 140)) 142 (iv 142)) 143 (iv 143)) 144 (iv 144)) 145 (iv 145)) 146 (iv 146)) 147 (iv 147)) 148 (iv 148)) 149 (iv 149)) (.inr 2) (pz_u1 (pz_u1 (pz_u1 (pz_u1 (pz_u1 (pz_u1 (pz_u1 (pz_u1 (pz_u1 (pz_u1 (pz_u1 (pz_u1 (pz_u1 iv 2 (iv 2)) 134 (iv 134)) 138 (iv 138)) 139 (iv 139)) 140 (iv 140)) 142 (iv 142)) 143 (iv 143)) 144 (iv 144)) 145 (iv 145)) 146 (iv 146)) 147 (iv 147)) 148 (iv 148)) 149 (iv 149)) := s_X10_needItem_n s ((iv 10) 0) (by show ¬ (0 ≤ s ∧ s < ((iv 10) 0)); exact h3)
            refine w_calle hc36 rfl rfl rfl ?_
            first | exact ⟨pz_u1 (pz_u1 (pz_u1 (pz_u1 (pz_u1 (pz_u1 (pz_u1 (pz_u1 (pz_u1 (pz_u1 (pz_u1 (pz_u1 (pz_u1 iv 2 (iv 2)) 134 (iv 134)) 138 (iv 138)) 139 (iv 139)) 140 (iv 140)) 142 (iv 142)) 143 (iv 143)) 144 (iv 144)) 145 (iv 145)) 146 (iv 146)) 147 (iv 147)) 148 (iv 148)) 149 (iv 149), ⟨(iv 2), (iv 134), (iv 138), (iv 139), (iv 140), (iv 142), (iv 143), (iv 144), (iv 145), (iv 146), (iv 147), (iv 148), (iv 149), by rfl, by exact hci, by exact ho2⟩, lf_e (by rfl)⟩ | (exfalso; omega)))
  · first
    | (exfalso; first | omega | contradiction)
    | (have hc37 : pz_R (pz_Sh L) 170 [.inr (.inl 2), .inl e] (pz_u1 (pz_u1 (pz_u1 (pz_u1 (pz_u1 (pz_u1 (pz_u1 (pz_u1 (pz_u1 (pz_u1 (pz_u1 (pz_u1 (pz_u1 iv 2 (iv 2)) 134 (iv 134)) 138 (iv 138)) 139 (iv 139)) 140 (iv 140)) 142 (iv 142)) 143 (iv 143)) 144 (iv 144)) 145 (iv 145)) 146 (iv 146)) 147 (iv 147)) 148 (iv 148)) 149 (iv 149)) (.inr 2) (pz_u1 (pz_u1 (pz_u1 (pz_u1 (pz_u1 (pz_u1 (pz_u1 (pz_u1 (pz_u1 (pz_u1 (pz_u1 (pz_u1 (pz_u1 iv 2 (iv 2)) 134 (iv 134)) 138 (iv 138)) 139 (iv 139)) 140 (iv 140)) 142 (iv 142)) 143 (iv 143)) 144 (iv 144)) 145 (iv 145)) 146 (iv 146)) 147 (iv 147)) 148 (iv 148)) 149 (iv 149)) := s_X10_needEvent_n e (by show q_cE k (iv 3); exact hE) (by show ¬ (0 ≤ e ∧ e < k 0); exact h1)
       refine w_calle hc37 rfl (pz_cokI is_2 rfl) rfl ?_
       first | exact ⟨pz_u1 (pz_u1 (pz_u1 (pz_u1 (pz_u1 (pz_u1 (pz_u1 (pz_u1 (pz_u1 (pz_u1 (pz_u1 (pz_u1 (pz_u1 iv 2 (iv 2)) 134 (iv 134)) 138 (iv 138)) 139 (iv 139)) 140 (iv 140)) 142 (iv 142)) 143 (iv 143)) 144 (iv 144)) 145 (iv 145)) 146 (iv 146)) 147 (iv 147)) 148 (iv 148)) 149 (iv 149), ⟨(iv 2), (iv 134), (iv 138), (iv 139), (iv 140), (iv 142), (iv 143), (iv 144), (iv 145), (iv 146), (iv 147), (iv 148), (iv 149), by rfl, by exact hci, by exact ho2⟩, lf_e (by rfl)⟩ | (exfalso; omega))

theorem s_X10_waitFor_3 {L : Nat} {iv : Nat → Nat → Int} (e : Int) (s : Int) {k : Nat → Int} (hk : q_KR k) (hE : q_cE k (iv 3)) (hB : q_cB k (iv 4) (iv 5) (iv 6) (iv 7) (iv 8) (iv 9)) (hS : q_cS k (iv 10) (iv 11) (iv 12) (iv 13) (iv 14)) (hC : q_cC k (iv 15) (iv 16)) (hA : q_cA k (iv 17) (iv 18) (iv 19) (iv 20)) (hO : q_cO k (iv 22) (iv 23) (iv 24)) (hL : q_cL k (iv 25)) (hP : q_cP k (iv 27)) (hci : q_CI k (iv 2) (iv 138) (iv 139) (iv 140) (iv 142) (iv 143) (iv 145) (iv 129) (iv 135)) (hcase0 : 0 ≤ e ∧ e ≤ k 0 - 1 ∧ 0 ≤ s ∧ s ≤ k 2 - 1) (hcase1 : q_sen k) (hcase2 : q_wt (q_val k) k e s = 0) : pz_RE (pz_Sh L) 142 [.inr (.inl 2), .inl e, .inl s] iv (.inr 3) (fun iv9 => ∃ (o9 : Nat → Int) (l9 : Nat → Int) (n9 : Nat → Int) (w9 : Nat → Int) (d9 : Nat → Int) (m9 : Nat → Int) (V9 : Nat → Int) (W9 : Nat → Int) (U9 : Nat → Int) (Y9 : Nat → Int) (p9 : Nat → Int) (q9 : Nat → Int) (r9 : Nat → Int), iv9 = pz_u1 (pz_u1 (pz_u1 (pz_u1 (pz_u1 (pz_u1 (pz_u1 (pz_u1 (pz_u1 (pz_u1 (pz_u1 (pz_u1 (pz_u1 iv 2 o9) 134 l9) 138 n9) 139 w9) 140 d9) 142 m9) 143 V9) 144 W9) 145 U9) 146 Y9) 147 p9) 148 q9) 149 r9 ∧ (q_CI k o9 n9 w9 d9 m9 V9 U9 (iv 129) (iv 135)) ∧ (o9 2 = (iv 2) 2)) := by
  intro dv cc ss
  have hk0 := hk.r0
  have hE0 := hE
  have hB0 := hB.1
  have hS0 := hS.1
  have hC0 := hC.1
  have hA0 := hA.1
  refine pz_G_mem (iv2 := pz_u1 (pz_u1 (pz_u1 (pz_u1 (pz_u1 (pz_u1 (pz_u1 (pz_u1 (pz_u1 (pz_u1 (pz_u1 (pz_u1 (pz_u1 iv 2 (iv 2)) 134 (iv 134)) 138 (iv 138)) 139 (iv 139)) 140 (iv 140)) 142 (iv 142)) 143 (iv 143)) 144 (iv 144)) 145 (iv 145)) 146 (iv 146)) 147 (iv 147)) 148 (iv 148)) 149 (iv 149)) (by exact (((((((((((((pz_u1_self iv 2).symm).trans (pz_u1_self (pz_u1 iv 2 (iv 2)) 134).symm).trans (pz_u1_self (pz_u1 (pz_u1 iv 2 (iv 2)) 134 (iv 134)) 138).symm).trans (pz_u1_self (pz_u1 (pz_u1 (pz_u1 iv 2 (iv 2)) 134 (iv 134)) 138 (iv 138)) 139).symm).trans (pz_u1_self (pz_u1 (pz_u1 (pz_u1 (pz_u1 iv 2 (iv 2)) 134 (iv 134)) 138 (iv 138)) 139 (iv 139)) 140).symm).trans (pz_u1_self (pz_u1 (pz_u1 (pz_u1 (pz_u1 (pz_u1 iv 2 (iv 2)) 134 (iv 134)) 138 (iv 138)) 139 (iv 139)) 140 (iv 140)) 142).symm).trans (pz_u1_self (pz_u1 (pz_u1 (pz_u1 (pz_u1 (pz_u1 (pz_u1 iv 2 (iv 2)) 134 (iv 134)) 138 (iv 138)) 139 (iv 139)) 140 (iv 140)) 142 (iv 142)) 143).symm).trans (pz_u1_self (pz_u1 (pz_u1 (pz_u1 (pz_u1 (pz_u1 (pz_u1 (pz_u1 iv 2 (iv 2)) 134 (iv 134)) 138 (iv 138)) 139 (iv 139)) 140 (iv 140)) 142 (iv 142)) 143 (iv 143)) 144).symm).trans (pz_u1_self (pz_u1 (pz_u1 (pz_u1 (pz_u1 (pz_u1 (pz_u1 (pz_u1 (pz_u1 iv 2 (iv 2)) 134 (iv 134)) 138 (iv 138)) 139 (iv 139)) 140 (iv 140)) 142 (iv 142)) 143 (iv 143)) 144 (iv 144)) 145).symm).trans (pz_u1_self (pz_u1 (pz_u1 (pz_u1 (pz_u1 (pz_u1 (pz_u1 (pz_u1 (pz_u1 (pz_u1 iv 2 (iv 2)) 134 (iv 134)) 138 (iv 138)) 139 (iv 139)) 140 (iv 140)) 142 (iv 142)) 143 (iv 143)) 144 (iv 144)) 145 (iv 145)) 146).symm).trans (pz_u1_self (pz_u1 (pz_u1 (pz_u1 (pz_u1 (pz_u1 (pz_u1 (pz_u1 (pz_u1 (pz_u1 (pz_u1 iv 2 (iv 2)) 134 (iv 134)) 138 (iv 138)) 139 (iv 139)) 140 (iv 140)) 142 (iv 142)) 143 (iv 143)) 144 (iv 144)) 145 (iv 145)) 146 (iv 146)) 147).symm).trans (pz_u1_self (pz_u1 (pz_u1 (pz_u1 (pz_u1 (pz_u1 (pz_u1 (pz_u1 (pz_u1 (pz_u1 (pz_u1 (pz_u1 iv 2 (iv 2)) 134 (iv 134)) 138 (iv 138)) 139 (iv 139)) 140 (iv 140)) 142 (iv 142)) 143 (iv 143)) 144 (iv 144)) 145 (iv 145)) 146 (iv 146)) 147 (iv 147)) 148).symm).trans (pz_u1_self (pz_u1 (pz_u1 (pz_u1 (pz_u1 (pz_u1 (pz_u1 (pz_u1 (pz_u1 (pz_u1 (pz_u1 (pz_u1 (pz_u1 iv 2 (iv 2)) 134 (iv 134)) 138 (iv 138)) 139 (iv 139)) 140 (iv 140)) 142 (iv 142)) 143 (iv 143)) 144 (iv 144)) 145 (iv 145)) 146 (iv 146)) 147 (iv 147)) 148 (iv 148)) 149).symm) ?_
  show pz_G 142 0 [some (.inr (.inl 2)), some (.inl e), some (.inl s), none] [] (pz_Sh L, pz_u1 (pz_u1 (pz_u1 (pz_u1 (pz_u1 (pz_u1 (pz_u1 (pz_u1 (pz_u1 (pz_u1 (pz_u1 (pz_u1 (pz_u1 iv 2 (iv 2)) 134 (iv 134)) 138 (iv 138)) 139 (iv 139)) 140 (iv 140)) 142 (iv 142)) 143 (iv 143)) 144 (iv 144)) 145 (iv 145)) 146 (iv 146)) 147 (iv 147)) 148 (iv 148)) 149 (iv 149), dv, cc, ss) (pz_PE (pz_Sh L) (.inr 3) (fun iv9 => ∃ (o9 : Nat → Int) (l9 : Nat → Int) (n9 : Nat → Int) (w9 : Nat → Int) (d9 : Nat → Int) (m9 : Nat → Int) (V9 : Nat → Int) (W9 : Nat → Int) (U9 : Nat → Int) (Y9 : Nat → Int) (p9 : Nat → Int) (q9 : Nat → Int) (r9 : Nat → Int), iv9 = pz_u1 (pz_u1 (pz_u1 (pz_u1 (pz_u1 (pz_u1 (pz_u1 (pz_u1 (pz_u1 (pz_u1 (pz_u1 (pz_u1 (pz_u1 iv 2 o9) 134 l9) 138 n9) 139 w9) 140 d9) 142 m9) 143 V9) 144 W9) 145 U9) 146 Y9) 147 p9) 148 q9) 149 r9 ∧ (q_CI k o9 n9 w9 d9 m9 V9 U9 (iv 129) (iv 135)) ∧ (o9 2 = (iv 2) 2)) dv cc ss)
  refine pz_G_of pz_b142_0 ?_
  refine w_loc rfl ?_
  refine w_loc rfl ?_
  by_cases h1 : 0 ≤ e ∧ e < k 0
  · first
    | (exfalso; first | omega | contradiction)
    | (have hc2 : pz_R (pz_Sh L) 170 [.inr (.inl 2), .inl e] (pz_u1 (pz_u1 (pz_u1 (pz_u1 (pz_u1 (pz_u1 (pz_u1 (pz_u1 (pz_u1 (pz_u1 (pz_u1 (pz_u1 (pz_u1 iv 2 (iv 2)) 134 (iv 134)) 138 (iv 138)) 139 (iv 139)) 140 (iv 140)) 142 (iv 142)) 143 (iv 143)) 144 (iv 144)) 145 (iv 145)) 146 (iv 146)) 147 (iv 147)) 148 (iv 148)) 149 (iv 149)) (.inl none) (pz_u1 (pz_u1 (pz_u1 (pz_u1 (pz_u1 (pz_u1 (pz_u1 (pz_u1 (pz_u1 (pz_u1 (pz_u1 (pz_u1 (pz_u1 iv 2 (iv 2)) 134 (iv 134)) 138 (iv 138)) 139 (iv 139)) 140 (iv 140)) 142 (iv 142)) 143 (iv 143)) 144 (iv 144)) 145 (iv 145)) 146 (iv 146)) 147 (iv 147)) 148 (iv 148)) 149 (iv 149)) := s_X10_needEvent_y e (by show q_cE k (iv 3); exact hE) (by show 0 ≤ e ∧ e < k 0; exact h1)
       refine w_callv hc2 rfl (pz_cokI is_2 rfl) ?_
       refine w_loc rfl ?_
       refine w_loc rfl ?_
       refine w_getR (q := 3) is_2 rf_2_0 ?_
       refine w_getR (q := 10) is_3 rf_3_2 ?_
       refine w_getI (v := (iv 10) 0) is_10 (by decide) rfl ?_
       by_cases h3 : 0 ≤ s ∧ s < ((iv 10) 0)
       · first
         | (exfalso; first | omega | contradiction)
         | (have hc4 : pz_R (pz_Sh L) 171 [.inl s, .inl ((iv 10) 0)] (pz_u1 (pz_u1 (pz_u1 (pz_u1 (pz_u1 (pz_u1 (pz_u1 (pz_u1 (pz_u1 (pz_u1 (pz_u1 (pz_u1 (pz_u1 iv 2 (iv 2)) 134 (iv 134)) 138 (iv 138)) 139 (iv 139)) 140 (iv 140)) 142 (iv 142)) 143 (iv 143)) 144 (iv 144)) 145 (iv 145)) 146 (iv 146)) 147 (iv 147)) 148 (iv 148)) 149 (iv 149)) (.inl none) (pz_u1 (pz_u1 (pz_u1 (pz_u1 (pz_u1 (pz_u1 (pz_u1 (pz_u1 (pz_u1 (pz_u1 (pz_u1 (pz_u1 (pz_u1 iv 2 (iv 2)) 134 (iv 134)) 138 (iv 138)) 139 (iv 139)) 140 (iv 140)) 142 (iv 142)) 143 (iv 143)) 144 (iv 144)) 145 (iv 145)) 146 (iv 146)) 147 (iv 147)) 148 (iv 148)) 149 (iv 149)) := s_X10_needItem_y s ((iv 10) 0) (by show 0 ≤ s ∧ s < ((iv 10) 0); exact h3)
            refine w_callv hc4 rfl rfl ?_
            refine w_loc rfl ?_
            by_cases h5 : q_sen k
            · first
              | (exfalso; first | omega | contradiction)
              | (have hc6 := s_X10_goodReductions_y (L := L) (iv := pz_u1 (pz_u1 (pz_u1 (pz_u1 (pz_u1 (pz_u1 (pz_u1 (pz_u1 (pz_u1 (pz_u1 (pz_u1 (pz_u1 (pz_u1 iv 2 (iv 2)) 134 (iv 134)) 138 (iv 138)) 139 (iv 139)) 140 (iv 140)) 142 (iv 142)) 143 (iv 143)) 144 (iv 144)) 145 (iv 145)) 146 (iv 146)) 147 (iv 147)) 148 (iv 148)) 149 (iv 149)) (by show q_KR k; exact hk) (by show q_cE k (iv 3); exact hE) (by show q_cB k (iv 4) (iv 5) (iv 6) (iv 7) (iv 8) (iv 9); exact hB) (by show q_cS k (iv 10) (iv 11) (iv 12) (iv 13) (iv 14); exact hS) (by show q_cC k (iv 15) (iv 16); exact hC) (by show q_cL k (iv 25); exact hL) (by show q_CI k (iv 2) (iv 138) (iv 139) (iv 140) (iv 142) (iv 143) (iv 145) (iv 129) (iv 135); exact hci) (by show q_sen k; exact h5)
                 refine w_callE hc6 rfl (pz_cokI is_2 rfl) (fun iv9 h9 => ?_)
                 obtain ⟨o9_7, l9_8, n9_9, w9_10, d9_11, m9_12, V9_13, W9_14, U9_15, Y9_16, p9_17, q9_18, r9_19, h9e, hci, hRK, ho2⟩ := h9
                 have h9x : iv9 = pz_u1 (pz_u1 (pz_u1 (pz_u1 (pz_u1 (pz_u1 (pz_u1 (pz_u1 (pz_u1 (pz_u1 (pz_u1 (pz_u1 (pz_u1 iv 2 o9_7) 134 l9_8) 138 n9_9) 139 w9_10) 140 d9_11) 142 m9_12) 143 V9_13) 144 W9_14) 145 U9_15) 146 Y9_16) 147 p9_17) 148 q9_18) 149 r9_19 := h9e.trans (by rw [pz_u1_in (r := 2) (q := 149) (by decide)]; rw [pz_u1_in (r := 2) (q := 148) (by decide)]; rw [pz_u1_in (r := 2) (q := 147) (by decide)]; rw [pz_u1_in (r := 2) (q := 146) (by decide)]; rw [pz_u1_in (r := 2) (q := 145) (by decide)]; rw [pz_u1_in (r := 2) (q := 144) (by decide)]; rw [pz_u1_in (r := 2) (q := 143) (by decide)]; rw [pz_u1_in (r := 2) (q := 142) (by decide)]; rw [pz_u1_in (r := 2) (q := 140) (by decide)]; rw [pz_u1_in (r := 2) (q := 139) (by decide)]; rw [pz_u1_in (r := 2) (q := 138) (by decide)]; rw [pz_u1_in (r := 2) (q := 134) (by decide)]; rw [pz_u1_top (r := 2)]; rw [pz_u1_in (r := 134) (q := 149) (by decide)]; rw [pz_u1_in (r := 134) (q := 148) (by decide)]; rw [pz_u1_in (r := 134) (q := 147) (by decide)]; rw [pz_u1_in (r := 134) (q := 146) (by decide)]; rw [pz_u1_in (r := 134) (q := 145) (by decide)]; rw [pz_u1_in (r := 134) (q := 144) (by decide)]; rw [pz_u1_in (r := 134) (q := 143) (by decide)]; rw [pz_u1_in (r := 134) (q := 142) (by decide)]; rw [pz_u1_in (r := 134) (q := 140) (by decide)]; rw [pz_u1_in (r := 134) (q := 139) (by decide)]; rw [pz_u1_in (r := 134) (q := 138) (by decide)]; rw [pz_u1_top (r := 134)]; rw [pz_u1_in (r := 138) (q := 149) (by decide)]; rw [pz_u1_in (r := 138) (q := 148) (by decide)]; rw [pz_u1_in (r := 138) (q := 147) (by decide)]; rw [pz_u1_in (r := 138) (q := 146) (by decide)]; rw [pz_u1_in (r := 138) (q := 145) (by decide)]; rw [pz_u1_in (r := 138) (q := 144) (by decide)]; rw [pz_u1_in (r := 138) (q := 143) (by decide)]; rw [pz_u1_in (r := 138) (q := 142) (by decide)]; rw [pz_u1_in (r := 138) (q := 140) (by decide)]; rw [pz_u1_in (r := 138) (q := 139) (by decide)]; rw [pz_u1_top (r := 138)]; rw [pz_u1_in (r := 139) (q := 149) (by decide)]; rw [pz_u1_in (r := 139) (q := 148) (by decide)]; rw [pz_u1_in (r := 139) (q := 147) (by decide)]; rw [pz_u1_in (r := 139) (q := 146) (by decide)]; rw [pz_u1_in (r := 139) (q := 145) (by decide)]; rw [pz_u1_in (r := 139) (q := 144) (by decide)]; rw [pz_u1_in (r := 139) (q := 143) (by decide)]; rw [pz_u1_in (r := 139) (q := 142) (by decide)]; rw [pz_u1_in (r := 139) (q := 140) (by decide)]; rw [pz_u1_top (r := 139)]; rw [pz_u1_in (r := 140) (q := 149) (by decide)]; rw [pz_u1_in (r := 140) (q := 148) (by decide)]; rw [pz_u1_in (r := 140) (q := 147) (by decide)]; rw [pz_u1_in (r := 140) (q := 146) (by decide)]; rw [pz_u1_in (r := 140) (q := 145) (by decide)]; rw [pz_u1_in (r := 140) (q := 144) (by decide)]; rw [pz_u1_in (r := 140) (q := 143) (by decide)]; rw [pz_u1_in (r := 140) (q := 142) (by decide)]; rw [pz_u1_top (r := 140)]; rw [pz_u1_in (r := 142) (q := 149) (by decide)]; rw [pz_u1_in (r := 142) (q := 148) (by decide)]; rw [pz_u1_in (r := 142) (q := 147) (by decide)]; rw [pz_u1_in (r := 142) (q := 146) (by decide)]; rw [pz_u1_in (r := 142) (q := 145) (by decide)]; rw [pz_u1_in (r := 142) (q := 144) (by decide)]; rw [pz_u1_in (r := 142) (q := 143) (by decide)]; rw [pz_u1_top (r := 142)]; rw [pz_u1_in (r := 143) (q := 149) (by decide)]; rw [pz_u1_in (r := 143) (q := 148) (by decide)]; rw [pz_u1_in (r := 143) (q := 147) (by decide)]; rw [pz_u1_in (r := 143) (q := 146) (by decide)]; rw [pz_u1_in (r := 143) (q := 145) (by decide)]; rw [pz_u1_in (r := 143) (q := 144) (by decide)]; rw [pz_u1_top (r := 143)]; rw [pz_u1_in (r := 144) (q := 149) (by decide)]; rw [pz_u1_in (r := 144) (q := 148) (by decide)]; rw [pz_u1_in (r := 144) (q := 147) (by decide)]; rw [pz_u1_in (r := 144) (q := 146) (by decide)]; rw [pz_u1_in (r := 144) (q := 145) (by decide)]; rw [pz_u1_top (r := 144)]; rw [pz_u1_in (r := 145) (q := 149) (by decide)]; rw [pz_u1_in (r := 145) (q := 148) (by decide)]; rw [pz_u1_in (r := 145) (q := 147) (by decide)]; rw [pz_u1_in (r := 145) (q := 146) (by decide)]; rw [pz_u1_top (r := 145)]; rw [pz_u1_in (r := 146) (q := 149) (by decide)]; rw [pz_u1_in (r := 146) (q := 148) (by decide)]; rw [pz_u1_in (r := 146) (q := 147) (by decide)]; rw [pz_u1_top (r := 146)]; rw [pz_u1_in (r := 147) (q := 149) (by decide)]; rw [pz_u1_in (r := 147) (q := 148) (by decide)]; rw [pz_u1_top (r := 147)]; rw [pz_u1_in (r := 148) (q := 149) (by decide)]; rw [pz_u1_top (r := 148)]; rw [pz_u1_top (r := 149)] <;> rfl)
                 subst h9x
                 replace hci : q_CI k o9_7 n9_9 w9_10 d9_11 m9_12 V9_13 U9_15 (iv 129) (iv 135) := hci
                 replace hRK : q_RK k m9_12 V9_13 U9_15 := hRK
                 replace ho2 : o9_7 2 = (iv 2) 2 := ho2
                 refine w_loc rfl ?_
                 refine w_loc rfl ?_
                 have hc20 : pz_R (pz_Sh L) 102 [.inr (.inl 142), .inl e, .inl s] (pz_u1 (pz_u1 (pz_u1 (pz_u1 (pz_u1 (pz_u1 (pz_u1 (pz_u1 (pz_u1 (pz_u1 (pz_u1 (pz_u1 (pz_u1 iv 2 o9_7) 134 l9_8) 138 n9_9) 139 w9_10) 140 d9_11) 142 m9_12) 143 V9_13) 144 W9_14) 145 U9_15) 146 Y9_16) 147 p9_17) 148 q9_18) 149 r9_19) (.inl (some (.inl (q_wt (q_val k) k e s)))) (pz_u1 (pz_u1 (pz_u1 (pz_u1 (pz_u1 (pz_u1 (pz_u1 (pz_u1 (pz_u1 (pz_u1 (pz_u1 (pz_u1 (pz_u1 iv 2 o9_7) 134 l9_8) 138 n9_9) 139 w9_10) 140 d9_11) 142 m9_12) 143 V9_13) 144 W9_14) 145 U9_15) 146 Y9_16) 147 p9_17) 148 q9_18) 149 r9_19) := s_X8_waitOf e s (by show q_KR k; exact hk) (by show q_VU k (q_val k) V9_13 U9_15; exact hRK.2.2 (by assumption)) (by show q_vb (q_val k); exact q_vb_val hk (by assumption)) (by show 0 ≤ e ∧ e < k 0; omega) (by show 0 ≤ s ∧ s < k 2; omega)
                 refine w_call hc20 rfl (pz_cokI is_142 rfl) ?_
                 refine w_loc (ls' := [some (.inr (.inl 2)), some (.inl e), some (.inl s), some (.inl (q_wt (q_val k) k e s))]) (st' := []) rfl ?_
                 refine w_loc rfl ?_
                 refine w_zne (fun h21 => ?_) (fun h21 => ?_)
                 · first
                   | (exfalso; first | omega | contradiction)
                   | (refine pz_G_of pz_b142_43 ?_
                      refine w_loc rfl ?_
                      refine w_ret rfl ?_
                      first | exact ⟨pz_u1 (pz_u1 (pz_u1 (pz_u1 (pz_u1 (pz_u1 (pz_u1 (pz_u1 (pz_u1 (pz_u1 (pz_u1 (pz_u1 (pz_u1 iv 2 o9_7) 134 l9_8) 138 n9_9) 139 w9_10) 140 d9_11) 142 m9_12) 143 V9_13) 144 W9_14) 145 U9_15) 146 Y9_16) 147 p9_17) 148 q9_18) 149 r9_19, ⟨o9_7, l9_8, n9_9, w9_10, d9_11, m9_12, V9_13, W9_14, U9_15, Y9_16, p9_17, q9_18, r9_19, by rfl, by exact hci, by exact ho2⟩, lf_i (by first | rfl | omega) (by rfl)⟩ | (exfalso; omega))
                 · first
                   | (exfalso; first | omega | contradiction)
                   | (refine w_thr (by decide) ?_
                      first | exact ⟨pz_u1 (pz_u1 (pz_u1 (pz_u1 (pz_u1 (pz_u1 (pz_u1 (pz_u1 (pz_u1 (pz_u1 (pz_u1 (pz_u1 (pz_u1 iv 2 o9_7) 134 l9_8) 138 n9_9) 139 w9_10) 140 d9_11) 142 m9_12) 143 V9_13) 144 W9_14) 145 U9_15) 146 Y9_16) 147 p9_17) 148 q9_18) 149 r9_19, ⟨o9_7, l9_8, n9_9, w9_10, d9_11, m9_12, V9_13, W9_14, U9_15, Y9_16, p9_17, q9_18, r9_19, by rfl, by exact hci, by exact ho2⟩, lf_e (by rfl)⟩ | (exfalso; omega)))
            · first
              | (exfalso; first | omega | contradiction)
              | (have hc22 := s_X10_goodReductions_n (L := L) (iv := pz_u1 (pz_u1 (pz_u1 (pz_u1 (pz_u1 (pz_u1 (pz_u1 (pz_u1 (pz_u1 (pz_u1 (pz_u1 (pz_u1 (pz_u1 iv 2 (iv 2)) 134 (iv 134)) 138 (iv 138)) 139 (iv 139)) 140 (iv 140)) 142 (iv 142)) 143 (iv 143)) 144 (iv 144)) 145 (iv 145)) 146 (iv 146)) 147 (iv 147)) 148 (iv 148)) 149 (iv 149)) (by show q_KR k; exact hk) (by show q_cE k (iv 3); exact hE) (by show q_cB k (iv 4) (iv 5) (iv 6) (iv 7) (iv 8) (iv 9); exact hB) (by show q_cS k (iv 10) (iv 11) (iv 12) (iv 13) (iv 14); exact hS) (by show q_cC k (iv 15) (iv 16); exact hC) (by show q_cL k (iv 25); exact hL) (by show q_CI k (iv 2) (iv 138) (iv 139) (iv 140) (iv 142) (iv 143) (iv 145) (iv 129) (iv 135); exact hci) (by show ¬ q_sen k; exact h5)
                 refine w_calleE hc22 rfl (pz_cokI is_2 rfl) rfl (fun iv9 h9 => ?_)
                 obtain ⟨o9_23, l9_24, n9_25, w9_26, d9_27, m9_28, V9_29, W9_30, U9_31, Y9_32, p9_33, q9_34, r9_35, h9e, hci, ho2⟩ := h9
                 have h9x : iv9 = pz_u1 (pz_u1 (pz_u1 (pz_u1 (pz_u1 (pz_u1 (pz_u1 (pz_u1 (pz_u1 (pz_u1 (pz_u1 (pz_u1 (pz_u1 iv 2 o9_23) 134 l9_24) 138 n9_25) 139 w9_26) 140 d9_27) 142 m9_28) 143 V9_29) 144 W9_30) 145 U9_31) 146 Y9_32) 147 p9_33) 148 q9_34) 149 r9_35 := h9e.trans (by rw [pz_u1_in (r := 2) (q := 149) (by decide)]; rw [pz_u1_in (r := 2) (q := 148) (by decide)]; rw [pz_u1_in (r := 2) (q := 147) (by decide)]; rw [pz_u1_in (r := 2) (q := 146) (by decide)]; rw [pz_u1_in (r := 2) (q := 145) (by decide)]; rw [pz_u1_in (r := 2) (q := 144) (by decide)]; rw [pz_u1_in (r := 2) (q := 143) (by decide)]; rw [pz_u1_in (r := 2) (q := 142) (by decide)]; rw [pz_u1_in (r := 2) (q := 140) (by decide)]; rw [pz_u1_in (r := 2) (q := 139) (by decide)]; rw [pz_u1_in (r := 2) (q := 138) (by decide)]; rw [pz_u1_in (r := 2) (q := 134) (by decide)]; rw [pz_u1_top (r := 2)]; rw [pz_u1_in (r := 134) (q := 149) (by decide)]; rw [pz_u1_in (r := 134) (q := 148) (by decide)]; rw [pz_u1_in (r := 134) (q := 147) (by decide)]; rw [pz_u1_in (r := 134) (q := 146) (by decide)]; rw [pz_u1_in (r := 134) (q := 145) (by decide)]; rw [pz_u1_in (r := 134) (q := 144) (by decide)]; rw [pz_u1_in (r := 134) (q := 143) (by decide)]; rw [pz_u1_in (r := 134) (q := 142) (by decide)]; rw [pz_u1_in (r := 134) (q := 140) (by decide)]; rw [pz_u1_in (r := 134) (q := 139) (by decide)]; rw [pz_u1_in (r := 134) (q := 138) (by decide)]; rw [pz_u1_top (r := 134)]; rw [pz_u1_in (r := 138) (q := 149) (by decide)]; rw [pz_u1_in (r := 138) (q := 148) (by decide)]; rw [pz_u1_in (r := 138) (q := 147) (by decide)]; rw [pz_u1_in (r := 138) (q := 146) (by decide)]; rw [pz_u1_in (r := 138) (q := 145) (by decide)]; rw [pz_u1_in (r := 138) (q := 144) (by decide)]; rw [pz_u1_in (r := 138) (q := 143) (by decide)]; rw [pz_u1_in (r := 138) (q := 142) (by decide)]; rw [pz_u1_in (r := 138) (q := 140) (by decide)]; rw [pz_u1_in (r := 138) (q := 139) (by decide)]; rw [pz_u1_top (r := 138)]; rw [pz_u1_in (r := 139) (q := 149) (by decide)]; rw [pz_u1_in (r := 139) (q := 148) (by decide)]; rw [pz_u1_in (r := 139) (q := 147) (by decide)]; rw [pz_u1_in (r := 139) (q := 146) (by decide)]; rw [pz_u1_in (r := 139) (q := 145) (by decide)]; rw [pz_u1_in (r := 139) (q := 144) (by decide)]; rw [pz_u1_in (r := 139) (q := 143) (by decide)]; rw [pz_u1_in (r := 139) (q := 142) (by decide)]; rw [pz_u1_in (r := 139) (q := 140) (by decide)]; rw [pz_u1_top (r := 139)]; rw [pz_u1_in (r := 140) (q := 149) (by decide)]; rw [pz_u1_in (r := 140) (q := 148) (by decide)]; rw [pz_u1_in (r := 140) (q := 147) (by decide)]; rw [pz_u1_in (r := 140) (q := 146) (by decide)]; rw [pz_u1_in (r := 140) (q := 145) (by decide)]; rw [pz_u1_in (r := 140) (q := 144) (by decide)]; rw [pz_u1_in (r := 140) (q := 143) (by decide)]; rw [pz_u1_in (r := 140) (q := 142) (by decide)]; rw [pz_u1_top (r := 140)]; rw [pz_u1_in (r := 142) (q := 149) (by decide)]; rw [pz_u1_in (r := 142) (q := 148) (by decide)]; rw [pz_u1_in (r := 142) (q := 147) (by decide)]; rw [pz_u1_in (r := 142) (q := 146) (by decide)]; rw [pz_u1_in (r := 142) (q := 145) (by decide)]; rw [pz_u1_in (r := 142) (q := 144) (by decide)]; rw [pz_u1_in (r := 142) (q := 143) (by decide)]; rw [pz_u1_top (r := 142)]; rw [pz_u1_in (r := 143) (q := 149) (by decide)]; rw [pz_u1_in (r := 143) (q := 148) (by decide)]; rw [pz_u1_in (r := 143) (q := 147) (by decide)]; rw [pz_u1_in (r := 143) (q := 146) (by decide)]; rw [pz_u1_in (r := 143) (q := 145) (by decide)]; rw [pz_u1_in (r := 143) (q := 144) (by decide)]; rw [pz_u1_top (r := 143)]; rw [pz_u1_in (r := 144) (q := 149) (by decide)]; rw [pz_u1_in (r := 144) (q := 148) (by decide)]; rw [pz_u1_in (r := 144) (q := 147) (by decide)]; rw [pz_u1_in (r := 144) (q := 146) (by decide)]; rw [pz_u1_in (r := 144) (q := 145) (by decide)]; rw [pz_u1_top (r := 144)]; rw [pz_u1_in (r := 145) (q := 149) (by decide)]; rw [pz_u1_in (r := 145) (q := 148) (by decide)]; rw [pz_u1_in (r := 145) (q := 147) (by decide)]; rw [pz_u1_in (r := 145) (q := 146) (by decide)]; rw [pz_u1_top (r := 145)]; rw [pz_u1_in (r := 146) (q := 149) (by decide)]; rw [pz_u1_in (r := 146) (q := 148) (by decide)]; rw [pz_u1_in (r := 146) (q := 147) (by decide)]; rw [pz_u1_top (r := 146)]; rw [pz_u1_in (r := 147) (q := 149) (by decide)]; rw [pz_u1_in (r := 147) (q := 148) (by decide)]; rw [pz_u1_top (r := 147)]; rw [pz_u1_in (r := 148) (q := 149) (by decide)]; rw [pz_u1_top (r := 148)]; rw [pz_u1_top (r := 149)] <;> rfl)
                 subst h9x
                 replace hci : q_CI k o9_23 n9_25 w9_26 d9_27 m9_28 V9_29 U9_31 (iv 129) (iv 135) := hci
                 replace ho2 : o9_23 2 = (iv 2) 2 := ho2
                 first | exact ⟨pz_u1 (pz_u1 (pz_u1 (pz_u1 (pz_u1 (pz_u1 (pz_u1 (pz_u1 (pz_u1 (pz_u1 (pz_u1 (pz_u1 (pz_u1 iv 2 o9_23) 134 l9_24) 138 n9_25) 139 w9_26) 140 d9_27) 142 m9_28) 143 V9_29) 144 W9_30) 145 U9_31) 146 Y9_32) 147 p9_33) 148 q9_34) 149 r9_35, ⟨o9_23, l9_24, n9_25, w9_26, d9_27, m9_28, V9_29, W9_30, U9_31, Y9_32, p9_33, q9_34, r9_35, by rfl, by exact hci, by exact ho2⟩, lf_e (by rfl)⟩ | (exfalso; omega)))
       · first
         | (exfalso; first | omega | contradiction)
         | (have hc36 : pz_R (pz_Sh L) 171 [.inl s, .inl ((iv 10) 0)] (pz_u1 (pz_u1 (pz_u1 (pz_u1 (pz_u1 (pz_u1 (pz_u1 (pz_u1 (pz_u1 (pz_u1 (pz_u1 (pz_u1 (pz_u1 iv 2 (iv 2)) 134 (iv 134)) 138 (iv 138)) 139 (iv 139)) 140 (iv 140)) 142 (iv 142)) 143 (iv 143)) 144 (iv 144)) 145 (iv 145)) 146 (iv 146)) 147 (iv 147)) 148 (iv 148)) 149 (iv 149)) (.inr 2) (pz_u1 (pz_u1 (pz_u1 (pz_u1 (pz_u1 (pz_u1 (pz_u1 (pz_u1 (pz_u1 (pz_u1 (pz_u1 (pz_u1 (pz_u1 iv 2 (iv 2)) 134 (iv 134)) 138 (iv 138)) 139 (iv 139)) 140 (iv 140)) 142 (iv 142)) 143 (iv 143)) 144 (iv 144)) 145 (iv 145)) 146 (iv 146)) 147 (iv 147)) 148 (iv 148)) 149 (iv 149)) := s_X10_needItem_n s ((iv 10) 0) (by show ¬ (0 ≤ s ∧ s < ((iv 10) 0)); exact h3)
            refine w_calle hc36 rfl rfl rfl ?_
            first | exact ⟨pz_u1 (pz_u1 (pz_u1 (pz_u1 (pz_u1 (pz_u1 (pz_u1 (pz_u1 (pz_u1 (pz_u1 (pz_u1 (pz_u1 (pz_u1 iv 2 (iv 2)) 134 (iv 134)) 138 (iv 138)) 139 (iv 139)) 140 (iv 140)) 142 (iv 142)) 143 (iv 143)) 144 (iv 144)) 145 (iv 145)) 146 (iv 146)) 147 (iv 147)) 148 (iv 148)) 149 (iv 149), ⟨(iv 2), (iv 134), (iv 138), (iv 139), (iv 140), (iv 142), (iv 143), (iv 144), (iv 145), (iv 146), (iv 147), (iv 148), (iv 149), by rfl, by exact hci, by exact ho2⟩, lf_e (by rfl)⟩ | (exfalso; omega)))
  · first
    | (exfalso; first | omega | contradiction)
    | (have hc37 : pz_R (pz_Sh L) 170 [.inr (.inl 2), .inl e] (pz_u1 (pz_u1 (pz_u1 (pz_u1 (pz_u1 (pz_u1 (pz_u1 (pz_u1 (pz_u1 (pz_u1 (pz_u1 (pz_u1 (pz_u1 iv 2 (iv 2)) 134 (iv 134)) 138 (iv 138)) 139 (iv 139)) 140 (iv 140)) 142 (iv 142)) 143 (iv 143)) 144 (iv 144)) 145 (iv 145)) 146 (iv 146)) 147 (iv 147)) 148 (iv 148)) 149 (iv 149)) (.inr 2) (pz_u1 (pz_u1 (pz_u1 (pz_u1 (pz_u1 (pz_u1 (pz_u1 (pz_u1 (pz_u1 (pz_u1 (pz_u1 (pz_u1 (pz_u1 iv 2 (iv 2)) 134 (iv 134)) 138 (iv 138)) 139 (iv 139)) 140 (iv 140)) 142 (iv 142)) 143 (iv 143)) 144 (iv 144)) 145 (iv 145)) 146 (iv 146)) 147 (iv 147)) 148 (iv 148)) 149 (iv 149)) := s_X10_needEvent_n e (by show q_cE k (iv 3); exact hE) (by show ¬ (0 ≤ e ∧ e < k 0); exact h1)
       refine w_calle hc37 rfl (pz_cokI is_2 rfl) rfl ?_
       first | exact ⟨pz_u1 (pz_u1 (pz_u1 (pz_u1 (pz_u1 (pz_u1 (pz_u1 (pz_u1 (pz_u1 (pz_u1 (pz_u1 (pz_u1 (pz_u1 iv 2 (iv 2)) 134 (iv 134)) 138 (iv 138)) 139 (iv 139)) 140 (iv 140)) 142 (iv 142)) 143 (iv 143)) 144 (iv 144)) 145 (iv 145)) 146 (iv 146)) 147 (iv 147)) 148 (iv 148)) 149 (iv 149), ⟨(iv 2), (iv 134), (iv 138), (iv 139), (iv 140), (iv 142), (iv 143), (iv 144), (iv 145), (iv 146), (iv 147), (iv 148), (iv 149), by rfl, by exact hci, by exact ho2⟩, lf_e (by rfl)⟩ | (exfalso; omega))

theorem s_X10_waitFor_0 {L : Nat} {iv : Nat → Nat → Int} (e : Int) (s : Int) {k : Nat → Int} (hk : q_KR k) (hE : q_cE k (iv 3)) (hB : q_cB k (iv 4) (iv 5) (iv 6) (iv 7) (iv 8) (iv 9)) (hS : q_cS k (iv 10) (iv 11) (iv 12) (iv 13) (iv 14)) (hC : q_cC k (iv 15) (iv 16)) (hA : q_cA k (iv 17) (iv 18) (iv 19) (iv 20)) (hO : q_cO k (iv 22) (iv 23) (iv 24)) (hL : q_cL k (iv 25)) (hP : q_cP k (iv 27)) (hci : q_CI k (iv 2) (iv 138) (iv 139) (iv 140) (iv 142) (iv 143) (iv 145) (iv 129) (iv 135)) (hcase0 : 0 ≤ e ∧ e ≤ k 0 - 1 ∧ 0 ≤ s ∧ s ≤ k 2 - 1) (hcase1 : q_sen k) (hcase2 : q_wt (q_val k) k e s ≠ 0) : pz_RE (pz_Sh L) 142 [.inr (.inl 2), .inl e, .inl s] iv (.inl (some (.inl (q_wt (q_val k) k e s)))) (fun iv9 => ∃ (o9 : Nat → Int) (l9 : Nat → Int) (n9 : Nat → Int) (w9 : Nat → Int) (d9 : Nat → Int) (m9 : Nat → Int) (V9 : Nat → Int) (W9 : Nat → Int) (U9 : Nat → Int) (Y9 : Nat → Int) (p9 : Nat → Int) (q9 : Nat → Int) (r9 : Nat → Int), iv9 = pz_u1 (pz_u1 (pz_u1 (pz_u1 (pz_u1 (pz_u1 (pz_u1 (pz_u1 (pz_u1 (pz_u1 (pz_u1 (pz_u1 (pz_u1 iv 2 o9) 134 l9) 138 n9) 139 w9) 140 d9) 142 m9) 143 V9) 144 W9) 145 U9) 146 Y9) 147 p9) 148 q9) 149 r9 ∧ (q_CI k o9 n9 w9 d9 m9 V9 U9 (iv 129) (iv 135)) ∧ (o9 2 = (iv 2) 2)) := by
  intro dv cc ss
  have hk0 := hk.r0
  have hE0 := hE
  have hB0 := hB.1
  have hS0 := hS.1
  have hC0 := hC.1
  have hA0 := hA.1
  refine pz_G_mem (iv2 := pz_u1 (pz_u1 (pz_u1 (pz_u1 (pz_u1 (pz_u1 (pz_u1 (pz_u1 (pz_u1 (pz_u1 (pz_u1 (pz_u1 (pz_u1 iv 2 (iv 2)) 134 (iv 134)) 138 (iv 138)) 139 (iv 139)) 140 (iv 140)) 142 (iv 142)) 143 (iv 143)) 144 (iv 144)) 145 (iv 145)) 146 (iv 146)) 147 (iv 147)) 148 (iv 148)) 149 (iv 149)) (by exact (((((((((((((pz_u1_self iv 2).symm).trans (pz_u1_self (pz_u1 iv 2 (iv 2)) 134).symm).trans (pz_u1_self (pz_u1 (pz_u1 iv 2 (iv 2)) 134 (iv 134)) 138).symm).trans (pz_u1_self (pz_u1 (pz_u1 (pz_u1 iv 2 (iv 2)) 134 (iv 134)) 138 (iv 138)) 139).symm).trans (pz_u1_self (pz_u1 (pz_u1 (pz_u1 (pz_u1 iv 2 (iv 2)) 134 (iv 134)) 138 (iv 138)) 139 (iv 139)) 140).symm).trans (pz_u1_self (pz_u1 (pz_u1 (pz_u1 (pz_u1 (pz_u1 iv 2 (iv 2)) 134 (iv 134)) 138 (iv 138)) 139 (iv 139)) 140 (iv 140)) 142).symm).trans (pz_u1_self (pz_u1 (pz_u1 (pz_u1 (pz_u1 (pz_u1 (pz_u1 iv 2 (iv 2)) 134 (iv 134)) 138 (iv 138)) 139 (iv 139)) 140 (iv 140)) 142 (iv 142)) 143).symm).trans (pz_u1_self (pz_u1 (pz_u1 (pz_u1 (pz_u1 (pz_u1 (pz_u1 (pz_u1 iv 2 (iv 2)) 134 (iv 134)) 138 (iv 138)) 139 (iv 139)) 140 (iv 140)) 142 (iv 142)) 143 (iv 143)) 144).symm).trans (pz_u1_self (pz_u1 (pz_u1 (pz_u1 (pz_u1 (pz_u1 (pz_u1 (pz_u1 (pz_u1 iv 2 (iv 2)) 134 (iv 134)) 138 (iv 138)) 139 (iv 139)) 140 (iv 140)) 142 (iv 142)) 143 (iv 143)) 144 (iv 144)) 145).symm).trans (pz_u1_self (pz_u1 (pz_u1 (pz_u1 (pz_u1 (pz_u1 (pz_u1 (pz_u1 (pz_u1 (pz_u1 iv 2 (iv 2)) 134 (iv 134)) 138 (iv 138)) 139 (iv 139)) 140 (iv 140)) 142 (iv 142)) 143 (iv 143)) 144 (iv 144)) 145 (iv 145)) 146).symm).trans (pz_u1_self (pz_u1 (pz_u1 (pz_u1 (pz_u1 (pz_u1 (pz_u1 (pz_u1 (pz_u1 (pz_u1 (pz_u1 iv 2 (iv 2)) 134 (iv 134)) 138 (iv 138)) 139 (iv 139)) 140 (iv 140)) 142 (iv 142)) 143 (iv 143)) 144 (iv 144)) 145 (iv 145)) 146 (iv 146)) 147).symm).trans (pz_u1_self (pz_u1 (pz_u1 (pz_u1 (pz_u1 (pz_u1 (pz_u1 (pz_u1 (pz_u1 (pz_u1 (pz_u1 (pz_u1 iv 2 (iv 2)) 134 (iv 134)) 138 (iv 138)) 139 (iv 139)) 140 (iv 140)) 142 (iv 142)) 143 (iv 143)) 144 (iv 144)) 145 (iv 145)) 146 (iv 146)) 147 (iv 147)) 148).symm).trans (pz_u1_self (pz_u1 (pz_u1 (pz_u1 (pz_u1 (pz_u1 (pz_u1 (pz_u1 (pz_u1 (pz_u1 (pz_u1 (pz_u1 (pz_u1 iv 2 (iv 2)) 134 (iv 134)) 138 (iv 138)) 139 (iv 139)) 140 (iv 140)) 142 (iv 142)) 143 (iv 143)) 144 (iv 144)) 145 (iv 145)) 146 (iv 146)) 147 (iv 147)) 148 (iv 148)) 149).symm) ?_
  show pz_G 142 0 [some (.inr (.inl 2)), some (.inl e), some (.inl s), none] [] (pz_Sh L, pz_u1 (pz_u1 (pz_u1 (pz_u1 (pz_u1 (pz_u1 (pz_u1 (pz_u1 (pz_u1 (pz_u1 (pz_u1 (pz_u1 (pz_u1 iv 2 (iv 2)) 134 (iv 134)) 138 (iv 138)) 139 (iv 139)) 140 (iv 140)) 142 (iv 142)) 143 (iv 143)) 144 (iv 144)) 145 (iv 145)) 146 (iv 146)) 147 (iv 147)) 148 (iv 148)) 149 (iv 149), dv, cc, ss) (pz_PE (pz_Sh L) (.inl (some (.inl (q_wt (q_val k) k e s)))) (fun iv9 => ∃ (o9 : Nat → Int) (l9 : Nat → Int) (n9 : Nat → Int) (w9 : Nat → Int) (d9 : Nat → Int) (m9 : Nat → Int) (V9 : Nat → Int) (W9 : Nat → Int) (U9 : Nat → Int) (Y9 : Nat → Int) (p9 : Nat → Int) (q9 : Nat → Int) (r9 : Nat → Int), iv9 = pz_u1 (pz_u1 (pz_u1 (pz_u1 (pz_u1 (pz_u1 (pz_u1 (pz_u1 (pz_u1 (pz_u1 (pz_u1 (pz_u1 (pz_u1 iv 2 o9) 134 l9) 138 n9) 139 w9) 140 d9) 142 m9) 143 V9) 144 W9) 145 U9) 146 Y9) 147 p9) 148 q9) 149 r9 ∧ (q_CI k o9 n9 w9 d9 m9 V9 U9 (iv 129) (iv 135)) ∧ (o9 2 = (iv 2) 2)) dv cc ss)
  refine pz_G_of pz_b142_0 ?_
  refine w_loc rfl ?_
  refine w_loc rfl ?_
  by_cases h1 : 0 ≤ e ∧ e < k 0
  · first
    | (exfalso; first | omega | contradiction)
    | (have hc2 : pz_R (pz_Sh L) 170 [.inr (.inl 2), .inl e] (pz_u1 (pz_u1 (pz_u1 (pz_u1 (pz_u1 (pz_u1 (pz_u1 (pz_u1 (pz_u1 (pz_u1 (pz_u1 (pz_u1 (pz_u1 iv 2 (iv 2)) 134 (iv 134)) 138 (iv 138)) 139 (iv 139)) 140 (iv 140)) 142 (iv 142)) 143 (iv 143)) 144 (iv 144)) 145 (iv 145)) 146 (iv 146)) 147 (iv 147)) 148 (iv 148)) 149 (iv 149)) (.inl none) (pz_u1 (pz_u1 (pz_u1 (pz_u1 (pz_u1 (pz_u1 (pz_u1 (pz_u1 (pz_u1 (pz_u1 (pz_u1 (pz_u1 (pz_u1 iv 2 (iv 2)) 134 (iv 134)) 138 (iv 138)) 139 (iv 139)) 140 (iv 140)) 142 (iv 142)) 143 (iv 143)) 144 (iv 144)) 145 (iv 145)) 146 (iv 146)) 147 (iv 147)) 148 (iv 148)) 149 (iv 149)) := s_X10_needEvent_y e (by show q_cE k (iv 3); exact hE) (by show 0 ≤ e ∧ e < k 0; exact h1)
       refine w_callv hc2 rfl (pz_cokI is_2 rfl) ?_
       refine w_loc rfl ?_
       refine w_loc rfl ?_
       refine w_getR (q := 3) is_2 rf_2_0 ?_
       refine w_getR (q := 10) is_3 rf_3_2 ?_
       refine w_getI (v := (iv 10) 0) is_10 (by decide) rfl ?_
       by_cases h3 : 0 ≤ s ∧ s < ((iv 10) 0)
       · first
         | (exfalso; first | omega | contradiction)
         | (have hc4 : pz_R (pz_Sh L) 171 [.inl s, .inl ((iv 10) 0)] (pz_u1 (pz_u1 (pz_u1 (pz_u1 (pz_u1 (pz_u1 (pz_u1 (pz_u1 (pz_u1 (pz_u1 (pz_u1 (pz_u1 (pz_u1 iv 2 (iv 2)) 134 (iv 134)) 138 (iv 138)) 139 (iv 139)) 140 (iv 140)) 142 (iv 142)) 143 (iv 143)) 144 (iv 144)) 145 (iv 145)) 146 (iv 146)) 147 (iv 147)) 148 (iv 148)) 149 (iv 149)) (.inl none) (pz_u1 (pz_u1 (pz_u1 (pz_u1 (pz_u1 (pz_u1 (pz_u1 (pz_u1 (pz_u1 (pz_u1 (pz_u1 (pz_u1 (pz_u1 iv 2 (iv 2)) 134 (iv 134)) 138 (iv 138)) 139 (iv 139)) 140 (iv 140)) 142 (iv 142)) 143 (iv 143)) 144 (iv 144)) 145 (iv 145)) 146 (iv 146)) 147 (iv 147)) 148 (iv 148)) 149 (iv 149)) := s_X10_needItem_y s ((iv 10) 0) (by show 0 ≤ s ∧ s < ((iv 10) 0); exact h3)
            refine w_callv hc4 rfl rfl ?_
            refine w_loc rfl ?_
            by_cases h5 : q_sen k
            · first
              | (exfalso; first | omega | contradiction)
              | (have hc6 := s_X10_goodReductions_y (L := L) (iv := pz_u1 (pz_u1 (pz_u1 (pz_u1 (pz_u1 (pz_u1 (pz_u1 (pz_u1 (pz_u1 (pz_u1 (pz_u1 (pz_u1 (pz_u1 iv 2 (iv 2)) 134 (iv 134)) 138 (iv 138)) 139 (iv 139)) 140 (iv 140)) 142 (iv 142)) 143 (iv 143)) 144 (iv 144)) 145 (iv 145)) 146 (iv 146)) 147 (iv 147)) 148 (iv 148)) 149 (iv 149)) (by show q_KR k; exact hk) (by show q_cE k (iv 3); exact hE) (by show q_cB k (iv 4) (iv 5) (iv 6) (iv 7) (iv 8) (iv 9); exact hB) (by show q_cS k (iv 10) (iv 11) (iv 12) (iv 13) (iv 14); exact hS) (by show q_cC k (iv 15) (iv 16); exact hC) (by show q_cL k (iv 25); exact hL) (by show q_CI k (iv 2) (iv 138) (iv 139) (iv 140) (iv 142) (iv 143) (iv 145) (iv 129) (iv 135); exact hci) (by show q_sen k; exact h5)
                 refine w_callE hc6 rfl (pz_cokI is_2 rfl) (fun iv9 h9 => ?_)
                 obtain ⟨o9_7, l9_8, n9_9, w9_10, d9_11, m9_12, V9_13, W9_14, U9_15, Y9_16, p9_17, q9_18, r9_19, h9e, hci, hRK, ho2⟩ := h9
                 have h9x : iv9 = pz_u1 (pz_u1 (pz_u1 (pz_u1 (pz_u1 (pz_u1 (pz_u1 (pz_u1 (pz_u1 (pz_u1 (pz_u1 (pz_u1 (pz_u1 iv 2 o9_7) 134 l9_8) 138 n9_9) 139 w9_10) 140 d9_11) 142 m9_12) 143 V9_13) 144 W9_14) 145 U9_15) 146 Y9_16) 147 p9_17) 148 q9_18) 149 r9_19 := h9e.trans (by rw [pz_u1_in (r := 2) (q := 149) (by decide)]; rw [pz_u1_in (r := 2) (q := 148) (by decide)]; rw [pz_u1_in (r := 2) (q := 147) (by decide)]; rw [pz_u1_in (r := 2) (q := 146) (by decide)]; rw [pz_u1_in (r := 2) (q := 145) (by decide)]; rw [pz_u1_in (r := 2) (q := 144) (by decide)]; rw [pz_u1_in (r := 2) (q := 143) (by decide)]; rw [pz_u1_in (r := 2) (q := 142) (by decide)]; rw [pz_u1_in (r := 2) (q := 140) (by decide)]; rw [pz_u1_in (r := 2) (q := 139) (by decide)]; rw [pz_u1_in (r := 2) (q := 138) (by decide)]; rw [pz_u1_in (r := 2) (q := 134) (by decide)]; rw [pz_u1_top (r := 2)]; rw [pz_u1_in (r := 134) (q := 149) (by decide)]; rw [pz_u1_in (r := 134) (q := 148) (by decide)]; rw [pz_u1_in (r := 134) (q := 147) (by decide)]; rw [pz_u1_in (r := 134) (q := 146) (by decide)]; rw [pz_u1_in (r := 134) (q := 145) (by decide)]; rw [pz_u1_in (r := 134) (q := 144) (by decide)]; rw [pz_u1_in (r := 134) (q := 143) (by decide)]; rw [pz_u1_in (r := 134) (q := 142) (by decide)]; rw [pz_u1_in (r := 134) (q := 140) (by decide)]; rw [pz_u1_in (r := 134) (q := 139) (by decide)]; rw [pz_u1_in (r := 134) (q := 138) (by decide)]; rw [pz_u1_top (r := 134)]; rw [pz_u1_in (r := 138) (q := 149) (by decide)]; rw [pz_u1_in (r := 138) (q := 148) (by decide)]; rw [pz_u1_in (r := 138) (q := 147) (by decide)]; rw [pz_u1_in (r := 138) (q := 146) (by decide)]; rw [pz_u1_in (r := 138) (q := 145) (by decide)]; rw [pz_u1_in (r := 138) (q := 144) (by decide)]; rw [pz_u1_in (r := 138) (q := 143) (by decide)]; rw [pz_u1_in (r := 138) (q := 142) (by decide)]; rw [pz_u1_in (r := 138) (q := 140) (by decide)]; rw [pz_u1_in (r := 138) (q := 139) (by decide)]; rw [pz_u1_top (r := 138)]; rw [pz_u1_in (r := 139) (q := 149) (by decide)]; rw [pz_u1_in (r := 139) (q := 148) (by decide)]; rw [pz_u1_in (r := 139) (q := 147) (by decide)]; rw [pz_u1_in (r := 139) (q := 146) (by decide)]; rw [pz_u1_in (r := 139) (q := 145) (by decide)]; rw [pz_u1_in (r := 139) (q := 144) (by decide)]; rw [pz_u1_in (r := 139) (q := 143) (by decide)]; rw [pz_u1_in (r := 139) (q := 142) (by decide)]; rw [pz_u1_in (r := 139) (q := 140) (by decide)]; rw [pz_u1_top (r := 139)]; rw [pz_u1_in (r := 140) (q := 149) (by decide)]; rw [pz_u1_in (r := 140) (q := 148) (by decide)]; rw [pz_u1_in (r := 140) (q := 147) (by decide)]; rw [pz_u1_in (r := 140) (q := 146) (by decide)]; rw [pz_u1_in (r := 140) (q := 145) (by decide)]; rw [pz_u1_in (r := 140) (q := 144) (by decide)]; rw [pz_u1_in (r := 140) (q := 143) (by decide)]; rw [pz_u1_in (r := 140) (q := 142) (by decide)]; rw [pz_u1_top (r := 140)]; rw [pz_u1_in (r := 142) (q := 149) (by decide)]; rw [pz_u1_in (r := 142) (q := 148) (by decide)]; rw [pz_u1_in (r := 142) (q := 147) (by decide)]; rw [pz_u1_in (r := 142) (q := 146) (by decide)]; rw [pz_u1_in (r := 142) (q := 145) (by decide)]; rw [pz_u1_in (r := 142) (q := 144) (by decide)]; rw [pz_u1_in (r := 142) (q := 143) (by decide)]; rw [pz_u1_top (r := 142)]; rw [pz_u1_in (r := 143) (q := 149) (by decide)]; rw [pz_u1_in (r := 143) (q := 148) (by decide)]; rw [pz_u1_in (r := 143) (q := 147) (by decide)]; rw [pz_u1_in (r := 143) (q := 146) (by decide)]; rw [pz_u1_in (r := 143) (q := 145) (by decide)]; rw [pz_u1_in (r := 143) (q := 144) (by decide)]; rw [pz_u1_top (r := 143)]; rw [pz_u1_in (r := 144) (q := 149) (by decide)]; rw [pz_u1_in (r := 144) (q := 148) (by decide)]; rw [pz_u1_in (r := 144) (q := 147) (by decide)]; rw [pz_u1_in (r := 144) (q := 146) (by decide)]; rw [pz_u1_in (r := 144) (q := 145) (by decide)]; rw [pz_u1_top (r := 144)]; rw [pz_u1_in (r := 145) (q := 149) (by decide)]; rw [pz_u1_in (r := 145) (q := 148) (by decide)]; rw [pz_u1_in (r := 145) (q := 147) (by decide)]; rw [pz_u1_in (r := 145) (q := 146) (by decide)]; rw [pz_u1_top (r := 145)]; rw [pz_u1_in (r := 146) (q := 149) (by decide)]; rw [pz_u1_in (r := 146) (q := 148) (by decide)]; rw [pz_u1_in (r := 146) (q := 147) (by decide)]; rw [pz_u1_top (r := 146)]; rw [pz_u1_in (r := 147) (q := 149) (by decide)]; rw [pz_u1_in (r := 147) (q := 148) (by decide)]; rw [pz_u1_top (r := 147)]; rw [pz_u1_in (r := 148) (q := 149) (by decide)]; rw [pz_u1_top (r := 148)]; rw [pz_u1_top (r := 149)] <;> rfl)
                 subst h9x
                 replace hci : q_CI k o9_7 n9_9 w9_10 d9_11 m9_12 V9_13 U9_15 (iv 129) (iv 135) := hci
                 replace hRK : q_RK k m9_12 V9_13 U9_15 := hRK
                 replace ho2 : o9_7 2 = (iv 2) 2 := ho2
                 refine w_loc rfl ?_
                 refine w_loc rfl ?_
                 have hc20 : pz_R (pz_Sh L) 102 [.inr (.inl 142), .inl e, .inl s] (pz_u1 (pz_u1 (pz_u1 (pz_u1 (pz_u1 (pz_u1 (pz_u1 (pz_u1 (pz_u1 (pz_u1 (pz_u1 (pz_u1 (pz_u1 iv 2 o9_7) 134 l9_8) 138 n9_9) 139 w9_10) 140 d9_11) 142 m9_12) 143 V9_13) 144 W9_14) 145 U9_15) 146 Y9_16) 147 p9_17) 148 q9_18) 149 r9_19) (.inl (some (.inl (q_wt (q_val k) k e s)))) (pz_u1 (pz_u1 (pz_u1 (pz_u1 (pz_u1 (pz_u1 (pz_u1 (pz_u1 (pz_u1 (pz_u1 (pz_u1 (pz_u1 (pz_u1 iv 2 o9_7) 134 l9_8) 138 n9_9) 139 w9_10) 140 d9_11) 142 m9_12) 143 V9_13) 144 W9_14) 145 U9_15) 146 Y9_16) 147 p9_17) 148 q9_18) 149 r9_19) := s_X8_waitOf e s (by show q_KR k; exact hk) (by show q_VU k (q_val k) V9_13 U9_15; exact hRK.2.2 (by assumption)) (by show q_vb (q_val k); exact q_vb_val hk (by assumption)) (by show 0 ≤ e ∧ e < k 0; omega) (by show 0 ≤ s ∧ s < k 2; omega)
                 refine w_call hc20 rfl (pz_cokI is_142 rfl) ?_
                 refine w_loc (ls' := [some (.inr (.inl 2)), some (.inl e), some (.inl s), some (.inl (q_wt (q_val k) k e s))]) (st' := []) rfl ?_
                 refine w_loc rfl ?_
                 refine w_zne (fun h21 => ?_) (fun h21 => ?_)
                 · first
                   | (exfalso; first | omega | contradiction)
                   | (refine pz_G_of pz_b142_43 ?_
                      refine w_loc rfl ?_
                      refine w_ret rfl ?_
                      first | exact ⟨pz_u1 (pz_u1 (pz_u1 (pz_u1 (pz_u1 (pz_u1 (pz_u1 (pz_u1 (pz_u1 (pz_u1 (pz_u1 (pz_u1 (pz_u1 iv 2 o9_7) 134 l9_8) 138 n9_9) 139 w9_10) 140 d9_11) 142 m9_12) 143 V9_13) 144 W9_14) 145 U9_15) 146 Y9_16) 147 p9_17) 148 q9_18) 149 r9_19, ⟨o9_7, l9_8, n9_9, w9_10, d9_11, m9_12, V9_13, W9_14, U9_15, Y9_16, p9_17, q9_18, r9_19, by rfl, by exact hci, by exact ho2⟩, lf_i (by first | rfl | omega) (by rfl)⟩ | (exfalso; omega))
                 · first
                   | (exfalso; first | omega | contradiction)
                   | (refine w_thr (by decide) ?_
                      first | exact ⟨pz_u1 (pz_u1 (pz_u1 (pz_u1 (pz_u1 (pz_u1 (pz_u1 (pz_u1 (pz_u1 (pz_u1 (pz_u1 (pz_u1 (pz_u1 iv 2 o9_7) 134 l9_8) 138 n9_9) 139 w9_10) 140 d9_11) 142 m9_12) 143 V9_13) 144 W9_14) 145 U9_15) 146 Y9_16) 147 p9_17) 148 q9_18) 149 r9_19, ⟨o9_7, l9_8, n9_9, w9_10, d9_11, m9_12, V9_13, W9_14, U9_15, Y9_16, p9_17, q9_18, r9_19, by rfl, by exact hci, by exact ho2⟩, lf_e (by rfl)⟩ | (exfalso; omega)))
            · first
              | (exfalso; first | omega | contradiction)
              | (have hc22 := s_X10_goodReductions_n (L := L) (iv := pz_u1 (pz_u1 (pz_u1 (pz_u1 (pz_u1 (pz_u1 (pz_u1 (pz_u1 (pz_u1 (pz_u1 (pz_u1 (pz_u1 (pz_u1 iv 2 (iv 2)) 134 (iv 134)) 138 (iv 138)) 139 (iv 139)) 140 (iv 140)) 142 (iv 142)) 143 (iv 143)) 144 (iv 144)) 145 (iv 145)) 146 (iv 146)) 147 (iv 147)) 148 (iv 148)) 149 (iv 149)) (by show q_KR k; exact hk) (by show q_cE k (iv 3); exact hE) (by show q_cB k (iv 4) (iv 5) (iv 6) (iv 7) (iv 8) (iv 9); exact hB) (by show q_cS k (iv 10) (iv 11) (iv 12) (iv 13) (iv 14); exact hS) (by show q_cC k (iv 15) (iv 16); exact hC) (by show q_cL k (iv 25); exact hL) (by show q_CI k (iv 2) (iv 138) (iv 139) (iv 140) (iv 142) (iv 143) (iv 145) (iv 129) (iv 135); exact hci) (by show ¬ q_sen k; exact h5)
                 refine w_calleE hc22 rfl (pz_cokI is_2 rfl) rfl (fun iv9 h9 => ?_)
                 obtain ⟨o9_23, l9_24, n9_25, w9_26, d9_27, m9_28, V9_29, W9_30, U9_31, Y9_32, p9_33, q9_34, r9_35, h9e, hci, ho2⟩ := h9
                 have h9x : iv9 = pz_u1 (pz_u1 (pz_u1 (pz_u1 (pz_u1 (pz_u1 (pz_u1 (pz_u1 (pz_u1 (pz_u1 (pz_u1 (pz_u1 (pz_u1 iv 2 o9_23) 134 l9_24) 138 n9_25) 139 w9_26) 140 d9_27) 142 m9_28) 143 V9_29) 144 W9_30) 145 U9_31) 146 Y9_32) 147 p9_33) 148 q9_34) 149 r9_35 := h9e.trans (by rw [pz_u1_in (r := 2) (q := 149) (by decide)]; rw [pz_u1_in (r := 2) (q := 148) (by decide)]; rw [pz_u1_in (r := 2) (q := 147) (by decide)]; rw [pz_u1_in (r := 2) (q := 146) (by decide)]; rw [pz_u1_in (r := 2) (q := 145) (by decide)]; rw [pz_u1_in (r := 2) (q := 144) (by decide)]; rw [pz_u1_in (r := 2) (q := 143) (by decide)]; rw [pz_u1_in (r := 2) (q := 142) (by decide)]; rw [pz_u1_in (r := 2) (q := 140) (by decide)]; rw [pz_u1_in (r := 2) (q := 139) (by decide)]; rw [pz_u1_in (r := 2) (q := 138) (by decide)]; rw [pz_u1_in (r := 2) (q := 134) (by decide)]; rw [pz_u1_top (r := 2)]; rw [pz_u1_in (r := 134) (q := 149) (by decide)]; rw [pz_u1_in (r := 134) (q := 148) (by decide)]; rw [pz_u1_in (r := 134) (q := 147) (by decide)]; rw [pz_u1_in (r := 134) (q := 146) (by decide)]; rw [pz_u1_in (r := 134) (q := 145) (by decide)]; rw [pz_u1_in (r := 134) (q := 144) (by decide)]; rw [pz_u1_in (r := 134) (q := 143) (by decide)]; rw [pz_u1_in (r := 134) (q := 142) (by decide)]; rw [pz_u1_in (r := 134) (q := 140) (by decide)]; rw [pz_u1_in (r := 134) (q := 139) (by decide)]; rw [pz_u1_in (r := 134) (q := 138) (by decide)]; rw [pz_u1_top (r := 134)]; rw [pz_u1_in (r := 138) (q := 149) (by decide)]; rw [pz_u1_in (r := 138) (q := 148) (by decide)]; rw [pz_u1_in (r := 138) (q := 147) (by decide)]; rw [pz_u1_in (r := 138) (q := 146) (by decide)]; rw [pz_u1_in (r := 138) (q := 145) (by decide)]; rw [pz_u1_in (r := 138) (q := 144) (by decide)]; rw [pz_u1_in (r := 138) (q := 143) (by decide)]; rw [pz_u1_in (r := 138) (q := 142) (by decide)]; rw [pz_u1_in (r := 138) (q := 140) (by decide)]; rw [pz_u1_in (r := 138) (q := 139) (by decide)]; rw [pz_u1_top (r := 138)]; rw [pz_u1_in (r := 139) (q := 149) (by decide)]; rw [pz_u1_in (r := 139) (q := 148) (by decide)]; rw [pz_u1_in (r := 139) (q := 147) (by decide)]; rw [pz_u1_in (r := 139) (q := 146) (by decide)]; rw [pz_u1_in (r := 139) (q := 145) (by decide)]; rw [pz_u1_in (r := 139) (q := 144) (by decide)]; rw [pz_u1_in (r := 139) (q := 143) (by decide)]; rw [pz_u1_in (r := 139) (q := 142) (by decide)]; rw [pz_u1_in (r := 139) (q := 140) (by decide)]; rw [pz_u1_top (r := 139)]; rw [pz_u1_in (r := 140) (q := 149) (by decide)]; rw [pz_u1_in (r := 140) (q := 148) (by decide)]; rw [pz_u1_in (r := 140) (q := 147) (by decide)]; rw [pz_u1_in (r := 140) (q := 146) (by decide)]; rw [pz_u1_in (r := 140) (q := 145) (by decide)]; rw [pz_u1_in (r := 140) (q := 144) (by decide)]; rw [pz_u1_in (r := 140) (q := 143) (by decide)]; rw [pz_u1_in (r := 140) (q := 142) (by decide)]; rw [pz_u1_top (r := 140)]; rw [pz_u1_in (r := 142) (q := 149) (by decide)]; rw [pz_u1_in (r := 142) (q := 148) (by decide)]; rw [pz_u1_in (r := 142) (q := 147) (by decide)]; rw [pz_u1_in (r := 142) (q := 146) (by decide)]; rw [pz_u1_in (r := 142) (q := 145) (by decide)]; rw [pz_u1_in (r := 142) (q := 144) (by decide)]; rw [pz_u1_in (r := 142) (q := 143) (by decide)]; rw [pz_u1_top (r := 142)]; rw [pz_u1_in (r := 143) (q := 149) (by decide)]; rw [pz_u1_in (r := 143) (q := 148) (by decide)]; rw [pz_u1_in (r := 143) (q := 147) (by decide)]; rw [pz_u1_in (r := 143) (q := 146) (by decide)]; rw [pz_u1_in (r := 143) (q := 145) (by decide)]; rw [pz_u1_in (r := 143) (q := 144) (by decide)]; rw [pz_u1_top (r := 143)]; rw [pz_u1_in (r := 144) (q := 149) (by decide)]; rw [pz_u1_in (r := 144) (q := 148) (by decide)]; rw [pz_u1_in (r := 144) (q := 147) (by decide)]; rw [pz_u1_in (r := 144) (q := 146) (by decide)]; rw [pz_u1_in (r := 144) (q := 145) (by decide)]; rw [pz_u1_top (r := 144)]; rw [pz_u1_in (r := 145) (q := 149) (by decide)]; rw [pz_u1_in (r := 145) (q := 148) (by decide)]; rw [pz_u1_in (r := 145) (q := 147) (by decide)]; rw [pz_u1_in (r := 145) (q := 146) (by decide)]; rw [pz_u1_top (r := 145)]; rw [pz_u1_in (r := 146) (q := 149) (by decide)]; rw [pz_u1_in (r := 146) (q := 148) (by decide)]; rw [pz_u1_in (r := 146) (q := 147) (by decide)]; rw [pz_u1_top (r := 146)]; rw [pz_u1_in (r := 147) (q := 149) (by decide)]; rw [pz_u1_in (r := 147) (q := 148) (by decide)]; rw [pz_u1_top (r := 147)]; rw [pz_u1_in (r := 148) (q := 149) (by decide)]; rw [pz_u1_top (r := 148)]; rw [pz_u1_top (r := 149)] <;> rfl)
                 subst h9x
                 replace hci : q_CI k o9_23 n9_25 w9_26 d9_27 m9_28 V9_29 U9_31 (iv 129) (iv 135) := hci
                 replace ho2 : o9_23 2 = (iv 2) 2 := ho2
                 first | exact ⟨pz_u1 (pz_u1 (pz_u1 (pz_u1 (pz_u1 (pz_u1 (pz_u1 (pz_u1 (pz_u1 (pz_u1 (pz_u1 (pz_u1 (pz_u1 iv 2 o9_23) 134 l9_24) 138 n9_25) 139 w9_26) 140 d9_27) 142 m9_28) 143 V9_29) 144 W9_30) 145 U9_31) 146 Y9_32) 147 p9_33) 148 q9_34) 149 r9_35, ⟨o9_23, l9_24, n9_25, w9_26, d9_27, m9_28, V9_29, W9_30, U9_31, Y9_32, p9_33, q9_34, r9_35, by rfl, by exact hci, by exact ho2⟩, lf_e (by rfl)⟩ | (exfalso; omega)))
       · first
         | (exfalso; first | omega | contradiction)
         | (have hc36 : pz_R (pz_Sh L) 171 [.inl s, .inl ((iv 10) 0)] (pz_u1 (pz_u1 (pz_u1 (pz_u1 (pz_u1 (pz_u1 (pz_u1 (pz_u1 (pz_u1 (pz_u1 (pz_u1 (pz_u1 (pz_u1 iv 2 (iv 2)) 134 (iv 134)) 138 (iv 138)) 139 (iv 139)) 140 (iv 140)) 142 (iv 142)) 143 (iv 143)) 144 (iv 144)) 145 (iv 145)) 146 (iv 146)) 147 (iv 147)) 148 (iv 148)) 149 (iv 149)) (.inr 2) (pz_u1 (pz_u1 (pz_u1 (pz_u1 (pz_u1 (pz_u1 (pz_u1 (pz_u1 (pz_u1 (pz_u1 (pz_u1 (pz_u1 (pz_u1 iv 2 (iv 2)) 134 (iv 134)) 138 (iv 138)) 139 (iv 139)) 140 (iv 140)) 142 (iv 142)) 143 (iv 143)) 144 (iv 144)) 145 (iv 145)) 146 (iv 146)) 147 (iv 147)) 148 (iv 148)) 149 (iv 149)) := s_X10_needItem_n s ((iv 10) 0) (by show ¬ (0 ≤ s ∧ s < ((iv 10) 0)); exact h3)
            refine w_calle hc36 rfl rfl rfl ?_
            first | exact ⟨pz_u1 (pz_u1 (pz_u1 (pz_u1 (pz_u1 (pz_u1 (pz_u1 (pz_u1 (pz_u1 (pz_u1 (pz_u1 (pz_u1 (pz_u1 iv 2 (iv 2)) 134 (iv 134)) 138 (iv 138)) 139 (iv 139)) 140 (iv 140)) 142 (iv 142)) 143 (iv 143)) 144 (iv 144)) 145 (iv 145)) 146 (iv 146)) 147 (iv 147)) 148 (iv 148)) 149 (iv 149), ⟨(iv 2), (iv 134), (iv 138), (iv 139), (iv 140), (iv 142), (iv 143), (iv 144), (iv 145), (iv 146), (iv 147), (iv 148), (iv 149), by rfl, by exact hci, by exact ho2⟩, lf_e (by rfl)⟩ | (exfalso; omega)))
  · first
    | (exfalso; first | omega | contradiction)
    | (have hc37 : pz_R (pz_Sh L) 170 [.inr (.inl 2), .inl e] (pz_u1 (pz_u1 (pz_u1 (pz_u1 (pz_u1 (pz_u1 (pz_u1 (pz_u1 (pz_u1 (pz_u1 (pz_u1 (pz_u1 (pz_u1 iv 2 (iv 2)) 134 (iv 134)) 138 (iv 138)) 139 (iv 139)) 140 (iv 140)) 142 (iv 142)) 143 (iv 143)) 144 (iv 144)) 145 (iv 145)) 146 (iv 146)) 147 (iv 147)) 148 (iv 148)) 149 (iv 149)) (.inr 2) (pz_u1 (pz_u1 (pz_u1 (pz_u1 (pz_u1 (pz_u1 (pz_u1 (pz_u1 (pz_u1 (pz_u1 (pz_u1 (pz_u1 (pz_u1 iv 2 (iv 2)) 134 (iv 134)) 138 (iv 138)) 139 (iv 139)) 140 (iv 140)) 142 (iv 142)) 143 (iv 143)) 144 (iv 144)) 145 (iv 145)) 146 (iv 146)) 147 (iv 147)) 148 (iv 148)) 149 (iv 149)) := s_X10_needEvent_n e (by show q_cE k (iv 3); exact hE) (by show ¬ (0 ≤ e ∧ e < k 0); exact h1)
       refine w_calle hc37 rfl (pz_cokI is_2 rfl) rfl ?_
       first | exact ⟨pz_u1 (pz_u1 (pz_u1 (pz_u1 (pz_u1 (pz_u1 (pz_u1 (pz_u1 (pz_u1 (pz_u1 (pz_u1 (pz_u1 (pz_u1 iv 2 (iv 2)) 134 (iv 134)) 138 (iv 138)) 139 (iv 139)) 140 (iv 140)) 142 (iv 142)) 143 (iv 143)) 144 (iv 144)) 145 (iv 145)) 146 (iv 146)) 147 (iv 147)) 148 (iv 148)) 149 (iv 149), ⟨(iv 2), (iv 134), (iv 138), (iv 139), (iv 140), (iv 142), (iv 143), (iv 144), (iv 145), (iv 146), (iv 147), (iv 148), (iv 149), by rfl, by exact hci, by exact ho2⟩, lf_e (by rfl)⟩ | (exfalso; omega))

theorem s_X10_reason_1 {L : Nat} {iv : Nat → Nat → Int} (e : Int) {k : Nat → Int} (hk : q_KR k) (hE : q_cE k (iv 3)) (hB : q_cB k (iv 4) (iv 5) (iv 6) (iv 7) (iv 8) (iv 9)) (hS : q_cS k (iv 10) (iv 11) (iv 12) (iv 13) (iv 14)) (hC : q_cC k (iv 15) (iv 16)) (hA : q_cA k (iv 17) (iv 18) (iv 19) (iv 20)) (hO : q_cO k (iv 22) (iv 23) (iv 24)) (hL : q_cL k (iv 25)) (hP : q_cP k (iv 27)) (hci : q_CI k (iv 2) (iv 138) (iv 139) (iv 140) (iv 142) (iv 143) (iv 145) (iv 129) (iv 135)) (hcase0 : ¬ (0 ≤ e ∧ e ≤ k 0 - 1)) : pz_R (pz_Sh L) 147 [.inr (.inl 2), .inl e] iv (.inr 2) iv := by
  intro dv cc ss
  have hk0 := hk.r0
  have hE0 := hE
  have hB0 := hB.1
  have hS0 := hS.1
  have hC0 := hC.1
  have hA0 := hA.1
  have hrr := q_rs_r (v := q_val k) (a := q_ka k) (k := k) (e := e) (m := k 4)
  show pz_G 147 0 [some (.inr (.inl 2)), some (.inl e)] [] (pz_Sh L, iv, dv, cc, ss) (pz_P (pz_Sh L) (.inr 2) iv dv cc ss)
  refine pz_G_of pz_b147_0 ?_
  refine w_loc rfl ?_
  refine w_loc rfl ?_
  by_cases h1 : 0 ≤ e ∧ e < k 0
  · first
    | (exfalso; first | omega | contradiction)
    | (have hc2 : pz_R (pz_Sh L) 170 [.inr (.inl 2), .inl e] (iv) (.inl none) (iv) := s_X10_needEvent_y e (by exact hE) (by exact h1)
       refine w_callv hc2 rfl (pz_cokI is_2 rfl) ?_
       refine w_loc rfl ?_
       by_cases h3 : q_sen k
       · first
         | (exfalso; first | omega | contradiction)
         | (have hc4 := s_X10_goodReductions_y (L := L) (iv := iv) (by exact hk) (by exact hE) (by exact hB) (by exact hS) (by exact hC) (by exact hL) (by exact hci) (by exact h3)
            refine w_callE hc4 rfl (pz_cokI is_2 rfl) (fun iv9 h9 => ?_)
            obtain ⟨o9_5, l9_6, n9_7, w9_8, d9_9, m9_10, V9_11, W9_12, U9_13, Y9_14, p9_15, q9_16, r9_17, h9e, hci, hRK, ho2⟩ := h9
            have h9x : iv9 = pz_u1 (pz_u1 (pz_u1 (pz_u1 (pz_u1 (pz_u1 (pz_u1 (pz_u1 (pz_u1 (pz_u1 (pz_u1 (pz_u1 (pz_u1 iv 2 o9_5) 134 l9_6) 138 n9_7) 139 w9_8) 140 d9_9) 142 m9_10) 143 V9_11) 144 W9_12) 145 U9_13) 146 Y9_14) 147 p9_15) 148 q9_16) 149 r9_17 := h9e.trans (by rw [pz_u1_top (r := 2)]; rw [pz_u1_top (r := 134)]; rw [pz_u1_top (r := 138)]; rw [pz_u1_top (r := 139)]; rw [pz_u1_top (r := 140)]; rw [pz_u1_top (r := 142)]; rw [pz_u1_top (r := 143)]; rw [pz_u1_top (r := 144)]; rw [pz_u1_top (r := 145)]; rw [pz_u1_top (r := 146)]; rw [pz_u1_top (r := 147)]; rw [pz_u1_top (r := 148)]; rw [pz_u1_top (r := 149)] <;> rfl)
            subst h9x
            replace hci : q_CI k o9_5 n9_7 w9_8 d9_9 m9_10 V9_11 U9_13 (iv 129) (iv 135) := hci
            replace hRK : q_RK k m9_10 V9_11 U9_13 := hRK
            replace ho2 : o9_5 2 = (iv 2) 2 := ho2
            refine w_loc rfl ?_
            refine w_loc rfl ?_
            refine w_getR (q := 3) is_2 rf_2_0 ?_
            refine w_getR (q := 15) is_3 rf_3_3 ?_
            have hc18 : pz_R (pz_Sh L) 105 [.inr (.inl 142), .inl e, .inr (.inl 15)] (pz_u1 (pz_u1 (pz_u1 (pz_u1 (pz_u1 (pz_u1 (pz_u1 (pz_u1 (pz_u1 (pz_u1 (pz_u1 (pz_u1 (pz_u1 iv 2 o9_5) 134 l9_6) 138 n9_7) 139 w9_8) 140 d9_9) 142 m9_10) 143 V9_11) 144 W9_12) 145 U9_13) 146 Y9_14) 147 p9_15) 148 q9_16) 149 r9_17) (.inl (some (.inl (q_rs (q_val k) (q_ka k) k e (k 4))))) (pz_u1 (pz_u1 (pz_u1 (pz_u1 (pz_u1 (pz_u1 (pz_u1 (pz_u1 (pz_u1 (pz_u1 (pz_u1 (pz_u1 (pz_u1 iv 2 o9_5) 134 l9_6) 138 n9_7) 139 w9_8) 140 d9_9) 142 m9_10) 143 V9_11) 144 W9_12) 145 U9_13) 146 Y9_14) 147 p9_15) 148 q9_16) 149 r9_17) := s_X8_reasonAgainst_15 e (by show q_KR k; exact hk) (by show q_cE k (iv 3); exact hE) (by show q_cS k (iv 10) (iv 11) (iv 12) (iv 13) (iv 14); exact hS) (by show q_cC k (iv 15) (iv 16); exact hC) (by show q_VU k (q_val k) V9_11 U9_13; exact hRK.2.2 (by assumption)) (by show q_vb (q_val k); exact q_vb_val hk (by assumption)) (by show 0 ≤ e ∧ e < k 0; omega)
            refine w_call hc18 rfl (pz_cokI is_142 rfl) ?_
            refine w_ret (pz_rok2 (by omega)) ?_
            first | exact lf_i (by first | rfl | omega) (by rfl) | (exfalso; omega))
       · first
         | (exfalso; first | omega | contradiction)
         | (have hc19 := s_X10_goodReductions_n (L := L) (iv := iv) (by exact hk) (by exact hE) (by exact hB) (by exact hS) (by exact hC) (by exact hL) (by exact hci) (by exact h3)
            refine w_calleE hc19 rfl (pz_cokI is_2 rfl) rfl (fun iv9 h9 => ?_)
            obtain ⟨o9_20, l9_21, n9_22, w9_23, d9_24, m9_25, V9_26, W9_27, U9_28, Y9_29, p9_30, q9_31, r9_32, h9e, hci, ho2⟩ := h9
            have h9x : iv9 = pz_u1 (pz_u1 (pz_u1 (pz_u1 (pz_u1 (pz_u1 (pz_u1 (pz_u1 (pz_u1 (pz_u1 (pz_u1 (pz_u1 (pz_u1 iv 2 o9_20) 134 l9_21) 138 n9_22) 139 w9_23) 140 d9_24) 142 m9_25) 143 V9_26) 144 W9_27) 145 U9_28) 146 Y9_29) 147 p9_30) 148 q9_31) 149 r9_32 := h9e.trans (by rw [pz_u1_top (r := 2)]; rw [pz_u1_top (r := 134)]; rw [pz_u1_top (r := 138)]; rw [pz_u1_top (r := 139)]; rw [pz_u1_top (r := 140)]; rw [pz_u1_top (r := 142)]; rw [pz_u1_top (r := 143)]; rw [pz_u1_top (r := 144)]; rw [pz_u1_top (r := 145)]; rw [pz_u1_top (r := 146)]; rw [pz_u1_top (r := 147)]; rw [pz_u1_top (r := 148)]; rw [pz_u1_top (r := 149)] <;> rfl)
            subst h9x
            replace hci : q_CI k o9_20 n9_22 w9_23 d9_24 m9_25 V9_26 U9_28 (iv 129) (iv 135) := hci
            replace ho2 : o9_20 2 = (iv 2) 2 := ho2
            first | exact lf_e (by rfl) | (exfalso; omega)))
  · first
    | (exfalso; first | omega | contradiction)
    | (have hc33 : pz_R (pz_Sh L) 170 [.inr (.inl 2), .inl e] (iv) (.inr 2) (iv) := s_X10_needEvent_n e (by exact hE) (by exact h1)
       refine w_calle hc33 rfl (pz_cokI is_2 rfl) rfl ?_
       first | exact lf_e (by rfl) | (exfalso; omega))

theorem s_X10_reason_2 {L : Nat} {iv : Nat → Nat → Int} (e : Int) {k : Nat → Int} (hk : q_KR k) (hE : q_cE k (iv 3)) (hB : q_cB k (iv 4) (iv 5) (iv 6) (iv 7) (iv 8) (iv 9)) (hS : q_cS k (iv 10) (iv 11) (iv 12) (iv 13) (iv 14)) (hC : q_cC k (iv 15) (iv 16)) (hA : q_cA k (iv 17) (iv 18) (iv 19) (iv 20)) (hO : q_cO k (iv 22) (iv 23) (iv 24)) (hL : q_cL k (iv 25)) (hP : q_cP k (iv 27)) (hci : q_CI k (iv 2) (iv 138) (iv 139) (iv 140) (iv 142) (iv 143) (iv 145) (iv 129) (iv 135)) (hcase0 : 0 ≤ e ∧ e ≤ k 0 - 1) (hcase1 : ¬ q_sen k) : pz_RE (pz_Sh L) 147 [.inr (.inl 2), .inl e] iv (.inr 0) (fun iv9 => ∃ (o9 : Nat → Int) (l9 : Nat → Int) (n9 : Nat → Int) (w9 : Nat → Int) (d9 : Nat → Int) (m9 : Nat → Int) (V9 : Nat → Int) (W9 : Nat → Int) (U9 : Nat → Int) (Y9 : Nat → Int) (p9 : Nat → Int) (q9 : Nat → Int) (r9 : Nat → Int), iv9 = pz_u1 (pz_u1 (pz_u1 (pz_u1 (pz_u1 (pz_u1 (pz_u1 (pz_u1 (pz_u1 (pz_u1 (pz_u1 (pz_u1 (pz_u1 iv 2 o9) 134 l9) 138 n9) 139 w9) 140 d9) 142 m9) 143 V9) 144 W9) 145 U9) 146 Y9) 147 p9) 148 q9) 149 r9 ∧ (q_CI k o9 n9 w9 d9 m9 V9 U9 (iv 129) (iv 135)) ∧ (o9 2 = (iv 2) 2)) := by
  intro dv cc ss
  have hk0 := hk.r0
  have hE0 := hE
  have hB0 := hB.1
  have hS0 := hS.1
  have hC0 := hC.1
  have hA0 := hA.1
  have hrr := q_rs_r (v := q_val k) (a := q_ka k) (k := k) (e := e) (m := k 4)
  refine pz_G_mem (iv2 := pz_u1 (pz_u1 (pz_u1 (pz_u1 (pz_u1 (pz_u1 (pz_u1 (pz_u1 (pz_u1 (pz_u1 (pz_u1 (pz_u1 (pz_u1 iv 2 (iv 2)) 134 (iv 134)) 138 (iv 138)) 139 (iv 139)) 140 (iv 140)) 142 (iv 142)) 143 (iv 143)) 144 (iv 144)) 145 (iv 145)) 146 (iv 146)) 147 (iv 147)) 148 (iv 148)) 149 (iv 149)) (by exact (((((((((((((pz_u1_self iv 2).symm).trans (pz_u1_self (pz_u1 iv 2 (iv 2)) 134).symm).trans (pz_u1_self (pz_u1 (pz_u1 iv 2 (iv 2)) 134 (iv 134)) 138).symm).trans (pz_u1_self (pz_u1 (pz_u1 (pz_u1 iv 2 (iv 2)) 134 (iv 134)) 138 (iv 138)) 139).symm).trans (pz_u1_self (pz_u1 (pz_u1 (pz_u1 (pz_u1 iv 2 (iv 2)) 134 (iv 134)) 138 (iv 138)) 139 (iv 139)) 140).symm).trans (pz_u1_self (pz_u1 (pz_u1 (pz_u1 (pz_u1 (pz_u1 iv 2 (iv 2)) 134 (iv 134)) 138 (iv 138)) 139 (iv 139)) 140 (iv 140)) 142).symm).trans (pz_u1_self (pz_u1 (pz_u1 (pz_u1 (pz_u1 (pz_u1 (pz_u1 iv 2 (iv 2)) 134 (iv 134)) 138 (iv 138)) 139 (iv 139)) 140 (iv 140)) 142 (iv 142)) 143).symm).trans (pz_u1_self (pz_u1 (pz_u1 (pz_u1 (pz_u1 (pz_u1 (pz_u1 (pz_u1 iv 2 (iv 2)) 134 (iv 134)) 138 (iv 138)) 139 (iv 139)) 140 (iv 140)) 142 (iv 142)) 143 (iv 143)) 144).symm).trans (pz_u1_self (pz_u1 (pz_u1 (pz_u1 (pz_u1 (pz_u1 (pz_u1 (pz_u1 (pz_u1 iv 2 (iv 2)) 134 (iv 134)) 138 (iv 138)) 139 (iv 139)) 140 (iv 140)) 142 (iv 142)) 143 (iv 143)) 144 (iv 144)) 145).symm).trans (pz_u1_self (pz_u1 (pz_u1 (pz_u1 (pz_u1 (pz_u1 (pz_u1 (pz_u1 (pz_u1 (pz_u1 iv 2 (iv 2)) 134 (iv 134)) 138 (iv 138)) 139 (iv 139)) 140 (iv 140)) 142 (iv 142)) 143 (iv 143)) 144 (iv 144)) 145 (iv 145)) 146).symm).trans (pz_u1_self (pz_u1 (pz_u1 (pz_u1 (pz_u1 (pz_u1 (pz_u1 (pz_u1 (pz_u1 (pz_u1 (pz_u1 iv 2 (iv 2)) 134 (iv 134)) 138 (iv 138)) 139 (iv 139)) 140 (iv 140)) 142 (iv 142)) 143 (iv 143)) 144 (iv 144)) 145 (iv 145)) 146 (iv 146)) 147).symm).trans (pz_u1_self (pz_u1 (pz_u1 (pz_u1 (pz_u1 (pz_u1 (pz_u1 (pz_u1 (pz_u1 (pz_u1 (pz_u1 (pz_u1 iv 2 (iv 2)) 134 (iv 134)) 138 (iv 138)) 139 (iv 139)) 140 (iv 140)) 142 (iv 142)) 143 (iv 143)) 144 (iv 144)) 145 (iv 145)) 146 (iv 146)) 147 (iv 147)) 148).symm).trans (pz_u1_self (pz_u1 (pz_u1 (pz_u1 (pz_u1 (pz_u1 (pz_u1 (pz_u1 (pz_u1 (pz_u1 (pz_u1 (pz_u1 (pz_u1 iv 2 (iv 2)) 134 (iv 134)) 138 (iv 138)) 139 (iv 139)) 140 (iv 140)) 142 (iv 142)) 143 (iv 143)) 144 (iv 144)) 145 (iv 145)) 146 (iv 146)) 147 (iv 147)) 148 (iv 148)) 149).symm) ?_
  show pz_G 147 0 [some (.inr (.inl 2)), some (.inl e)] [] (pz_Sh L, pz_u1 (pz_u1 (pz_u1 (pz_u1 (pz_u1 (pz_u1 (pz_u1 (pz_u1 (pz_u1 (pz_u1 (pz_u1 (pz_u1 (pz_u1 iv 2 (iv 2)) 134 (iv 134)) 138 (iv 138)) 139 (iv 139)) 140 (iv 140)) 142 (iv 142)) 143 (iv 143)) 144 (iv 144)) 145 (iv 145)) 146 (iv 146)) 147 (iv 147)) 148 (iv 148)) 149 (iv 149), dv, cc, ss) (pz_PE (pz_Sh L) (.inr 0) (fun iv9 => ∃ (o9 : Nat → Int) (l9 : Nat → Int) (n9 : Nat → Int) (w9 : Nat → Int) (d9 : Nat → Int) (m9 : Nat → Int) (V9 : Nat → Int) (W9 : Nat → Int) (U9 : Nat → Int) (Y9 : Nat → Int) (p9 : Nat → Int) (q9 : Nat → Int) (r9 : Nat → Int), iv9 = pz_u1 (pz_u1 (pz_u1 (pz_u1 (pz_u1 (pz_u1 (pz_u1 (pz_u1 (pz_u1 (pz_u1 (pz_u1 (pz_u1 (pz_u1 iv 2 o9) 134 l9) 138 n9) 139 w9) 140 d9) 142 m9) 143 V9) 144 W9) 145 U9) 146 Y9) 147 p9) 148 q9) 149 r9 ∧ (q_CI k o9 n9 w9 d9 m9 V9 U9 (iv 129) (iv 135)) ∧ (o9 2 = (iv 2) 2)) dv cc ss)
  refine pz_G_of pz_b147_0 ?_
  refine w_loc rfl ?_
  refine w_loc rfl ?_
  by_cases h1 : 0 ≤ e ∧ e < k 0
  · first
    | (exfalso; first | omega | contradiction)
    | (have hc2 : pz_R (pz_Sh L) 170 [.inr (.inl 2), .inl e] (pz_u1 (pz_u1 (pz_u1 (pz_u1 (pz_u1 (pz_u1 (pz_u1 (pz_u1 (pz_u1 (pz_u1 (pz_u1 (pz_u1 (pz_u1 iv 2 (iv 2)) 134 (iv 134)) 138 (iv 138)) 139 (iv 139)) 140 (iv 140)) 142 (iv 142)) 143 (iv 143)) 144 (iv 144)) 145 (iv 145)) 146 (iv 146)) 147 (iv 147)) 148 (iv 148)) 149 (iv 149)) (.inl none) (pz_u1 (pz_u1 (pz_u1 (pz_u1 (pz_u1 (pz_u1 (pz_u1 (pz_u1 (pz_u1 (pz_u1 (pz_u1 (pz_u1 (pz_u1 iv 2 (iv 2)) 134 (iv 134)) 138 (iv 138)) 139 (iv 139)) 140 (iv 140)) 142 (iv 142)) 143 (iv 143)) 144 (iv 144)) 145 (iv 145)) 146 (iv 146)) 147 (iv 147)) 148 (iv 148)) 149 (iv 149)) := s_X10_needEvent_y e (by show q_cE k (iv 3); exact hE) (by show 0 ≤ e ∧ e < k 0; exact h1)
       refine w_callv hc2 rfl (pz_cokI is_2 rfl) ?_
       refine w_loc rfl ?_
       by_cases h3 : q_sen k
       · first
         | (exfalso; first | omega | contradiction)
         | (have hc4 := s_X10_goodReductions_y (L := L) (iv := pz_u1 (pz_u1 (pz_u1 (pz_u1 (pz_u1 (pz_u1 (pz_u1 (pz_u1 (pz_u1 (pz_u1 (pz_u1 (pz_u1 (pz_u1 iv 2 (iv 2)) 134 (iv 134)) 138 (iv 138)) 139 (iv 139)) 140 (iv 140)) 142 (iv 142)) 143 (iv 143)) 144 (iv 144)) 145 (iv 145)) 146 (iv 146)) 147 (iv 147)) 148 (iv 148)) 149 (iv 149)) (by show q_KR k; exact hk) (by show q_cE k (iv 3); exact hE) (by show q_cB k (iv 4) (iv 5) (iv 6) (iv 7) (iv 8) (iv 9); exact hB) (by show q_cS k (iv 10) (iv 11) (iv 12) (iv 13) (iv 14); exact hS) (by show q_cC k (iv 15) (iv 16); exact hC) (by show q_cL k (iv 25); exact hL) (by show q_CI k (iv 2) (iv 138) (iv 139) (iv 140) (iv 142) (iv 143) (iv 145) (iv 129) (iv 135); exact hci) (by show q_sen k; exact h3)
            refine w_callE hc4 rfl (pz_cokI is_2 rfl) (fun iv9 h9 => ?_)
            obtain ⟨o9_5, l9_6, n9_7, w9_8, d9_9, m9_10, V9_11, W9_12, U9_13, Y9_14, p9_15, q9_16, r9_17, h9e, hci, hRK, ho2⟩ := h9
            have h9x : iv9 = pz_u1 (pz_u1 (pz_u1 (pz_u1 (pz_u1 (pz_u1 (pz_u1 (pz_u1 (pz_u1 (pz_u1 (pz_u1 (pz_u1 (pz_u1 iv 2 o9_5) 134 l9_6) 138 n9_7) 139 w9_8) 140 d9_9) 142 m9_10) 143 V9_11) 144 W9_12) 145 U9_13) 146 Y9_14) 147 p9_15) 148 q9_16) 149 r9_17 := h9e.trans (by rw [pz_u1_in (r := 2) (q := 149) (by decide)]; rw [pz_u1_in (r := 2) (q := 148) (by decide)]; rw [pz_u1_in (r := 2) (q := 147) (by decide)]; rw [pz_u1_in (r := 2) (q := 146) (by decide)]; rw [pz_u1_in (r := 2) (q := 145) (by decide)]; rw [pz_u1_in (r := 2) (q := 144) (by decide)]; rw [pz_u1_in (r := 2) (q := 143) (by decide)]; rw [pz_u1_in (r := 2) (q := 142) (by decide)]; rw [pz_u1_in (r := 2) (q := 140) (by decide)]; rw [pz_u1_in (r := 2) (q := 139) (by decide)]; rw [pz_u1_in (r := 2) (q := 138) (by decide)]; rw [pz_u1_in (r := 2) (q := 134) (by decide)]; rw [pz_u1_top (r := 2)]; rw [pz_u1_in (r := 134) (q := 149) (by decide)]; rw [pz_u1_in (r := 134) (q := 148) (by decide)]; rw [pz_u1_in (r := 134) (q := 147) (by decide)]; rw [pz_u1_in (r := 134) (q := 146) (by decide)]; rw [pz_u1_in (r := 134) (q := 145) (by decide)]; rw [pz_u1_in (r := 134) (q := 144) (by decide)]; rw [pz_u1_in (r := 134) (q := 143) (by decide)]; rw [pz_u1_in (r := 134) (q := 142) (by decide)]; rw [pz_u1_in (r := 134) (q := 140) (by decide)]; rw [pz_u1_in (r := 134) (q := 139) (by decide)]; rw [pz_u1_in (r := 134) (q := 138) (by decide)]; rw [pz_u1_top (r := 134)]; rw [pz_u1_in (r := 138) (q := 149) (by decide)]; rw [pz_u1_in (r := 138) (q := 148) (by decide)]; rw [pz_u1_in (r := 138) (q := 147) (by decide)]; rw [pz_u1_in (r := 138) (q := 146) (by decide)]; rw [pz_u1_in (r := 138) (q := 145) (by decide)]; rw [pz_u1_in (r := 138) (q := 144) (by decide)]; rw [pz_u1_in (r := 138) (q := 143) (by decide)]; rw [pz_u1_in (r := 138) (q := 142) (by decide)]; rw [pz_u1_in (r := 138) (q := 140) (by decide)]; rw [pz_u1_in (r := 138) (q := 139) (by decide)]; rw [pz_u1_top (r := 138)]; rw [pz_u1_in (r := 139) (q := 149) (by decide)]; rw [pz_u1_in (r := 139) (q := 148) (by decide)]; rw [pz_u1_in (r := 139) (q := 147) (by decide)]; rw [pz_u1_in (r := 139) (q := 146) (by decide)]; rw [pz_u1_in (r := 139) (q := 145) (by decide)]; rw [pz_u1_in (r := 139) (q := 144) (by decide)]; rw [pz_u1_in (r := 139) (q := 143) (by decide)]; rw [pz_u1_in (r := 139) (q := 142) (by decide)]; rw [pz_u1_in (r := 139) (q := 140) (by decide)]; rw [pz_u1_top (r := 139)]; rw [pz_u1_in (r := 140) (q := 149) (by decide)]; rw [pz_u1_in (r := 140) (q := 148) (by decide)]; rw [pz_u1_in (r := 140) (q := 147) (by decide)]; rw [pz_u1_in (r := 140) (q := 146) (by decide)]; rw [pz_u1_in (r := 140) (q := 145) (by decide)]; rw [pz_u1_in (r := 140) (q := 144) (by decide)]; rw [pz_u1_in (r := 140) (q := 143) (by decide)]; rw [pz_u1_in (r := 140) (q := 142) (by decide)]; rw [pz_u1_top (r := 140)]; rw [pz_u1_in (r := 142) (q := 149) (by decide)]; rw [pz_u1_in (r := 142) (q := 148) (by decide)]; rw [pz_u1_in (r := 142) (q := 147) (by decide)]; rw [pz_u1_in (r := 142) (q := 146) (by decide)]; rw [pz_u1_in (r := 142) (q := 145) (by decide)]; rw [pz_u1_in (r := 142) (q := 144) (by decide)]; rw [pz_u1_in (r := 142) (q := 143) (by decide)]; rw [pz_u1_top (r := 142)]; rw [pz_u1_in (r := 143) (q := 149) (by decide)]; rw [pz_u1_in (r := 143) (q := 148) (by decide)]; rw [pz_u1_in (r := 143) (q := 147) (by decide)]; rw [pz_u1_in (r := 143) (q := 146) (by decide)]; rw [pz_u1_in (r := 143) (q := 145) (by decide)]; rw [pz_u1_in (r := 143) (q := 144) (by decide)]; rw [pz_u1_top (r := 143)]; rw [pz_u1_in (r := 144) (q := 149) (by decide)]; rw [pz_u1_in (r := 144) (q := 148) (by decide)]; rw [pz_u1_in (r := 144) (q := 147) (by decide)]; rw [pz_u1_in (r := 144) (q := 146) (by decide)]; rw [pz_u1_in (r := 144) (q := 145) (by decide)]; rw [pz_u1_top (r := 144)]; rw [pz_u1_in (r := 145) (q := 149) (by decide)]; rw [pz_u1_in (r := 145) (q := 148) (by decide)]; rw [pz_u1_in (r := 145) (q := 147) (by decide)]; rw [pz_u1_in (r := 145) (q := 146) (by decide)]; rw [pz_u1_top (r := 145)]; rw [pz_u1_in (r := 146) (q := 149) (by decide)]; rw [pz_u1_in (r := 146) (q := 148) (by decide)]; rw [pz_u1_in (r := 146) (q := 147) (by decide)]; rw [pz_u1_top (r := 146)]; rw [pz_u1_in (r := 147) (q := 149) (by decide)]; rw [pz_u1_in (r := 147) (q := 148) (by decide)]; rw [pz_u1_top (r := 147)]; rw [pz_u1_in (r := 148) (q := 149) (by decide)]; rw [pz_u1_top (r := 148)]; rw [pz_u1_top (r := 149)] <;> rfl)
            subst h9x
            replace hci : q_CI k o9_5 n9_7 w9_8 d9_9 m9_10 V9_11 U9_13 (iv 129) (iv 135) := hci
            replace hRK : q_RK k m9_10 V9_11 U9_13 := hRK
            replace ho2 : o9_5 2 = (iv 2) 2 := ho2
            refine w_loc rfl ?_
            refine w_loc rfl ?_
            refine w_getR (q := 3) is_2 rf_2_0 ?_
            refine w_getR (q := 15) is_3 rf_3_3 ?_
            have hc18 : pz_R (pz_Sh L) 105 [.inr (.inl 142), .inl e, .inr (.inl 15)] (pz_u1 (pz_u1 (pz_u1 (pz_u1 (pz_u1 (pz_u1 (pz_u1 (pz_u1 (pz_u1 (pz_u1 (pz_u1 (pz_u1 (pz_u1 iv 2 o9_5) 134 l9_6) 138 n9_7) 139 w9_8) 140 d9_9) 142 m9_10) 143 V9_11) 144 W9_12) 145 U9_13) 146 Y9_14) 147 p9_15) 148 q9_16) 149 r9_17) (.inl (some (.inl (q_rs (q_val k) (q_ka k) k e (k 4))))) (pz_u1 (pz_u1 (pz_u1 (pz_u1 (pz_u1 (pz_u1 (pz_u1 (pz_u1 (pz_u1 (pz_u1 (pz_u1 (pz_u1 (pz_u1 iv 2 o9_5) 134 l9_6) 138 n9_7) 139 w9_8) 140 d9_9) 142 m9_10) 143 V9_11) 144 W9_12) 145 U9_13) 146 Y9_14) 147 p9_15) 148 q9_16) 149 r9_17) := s_X8_reasonAgainst_15 e (by show q_KR k; exact hk) (by show q_cE k (iv 3); exact hE) (by show q_cS k (iv 10) (iv 11) (iv 12) (iv 13) (iv 14); exact hS) (by show q_cC k (iv 15) (iv 16); exact hC) (by show q_VU k (q_val k) V9_11 U9_13; exact hRK.2.2 (by assumption)) (by show q_vb (q_val k); exact q_vb_val hk (by assumption)) (by show 0 ≤ e ∧ e < k 0; omega)
            refine w_call hc18 rfl (pz_cokI is_142 rfl) ?_
            refine w_ret (pz_rok2 (by omega)) ?_
            first | exact ⟨pz_u1 (pz_u1 (pz_u1 (pz_u1 (pz_u1 (pz_u1 (pz_u1 (pz_u1 (pz_u1 (pz_u1 (pz_u1 (pz_u1 (pz_u1 iv 2 o9_5) 134 l9_6) 138 n9_7) 139 w9_8) 140 d9_9) 142 m9_10) 143 V9_11) 144 W9_12) 145 U9_13) 146 Y9_14) 147 p9_15) 148 q9_16) 149 r9_17, ⟨o9_5, l9_6, n9_7, w9_8, d9_9, m9_10, V9_11, W9_12, U9_13, Y9_14, p9_15, q9_16, r9_17, by rfl, by exact hci, by exact ho2⟩, lf_i (by first | rfl | omega) (by rfl)⟩ | (exfalso; omega))
       · first
         | (exfalso; first | omega | contradiction)
         | (have hc19 := s_X10_goodReductions_n (L := L) (iv := pz_u1 (pz_u1 (pz_u1 (pz_u1 (pz_u1 (pz_u1 (pz_u1 (pz_u1 (pz_u1 (pz_u1 (pz_u1 (pz_u1 (pz_u1 iv 2 (iv 2)) 134 (iv 134)) 138 (iv 138)) 139 (iv 139)) 140 (iv 140)) 142 (iv 142)) 143 (iv 143)) 144 (iv 144)) 145 (iv 145)) 146 (iv 146)) 147 (iv 147)) 148 (iv 148)) 149 (iv 149)) (by show q_KR k; exact hk) (by show q_cE k (iv 3); exact hE) (by show q_cB k (iv 4) (iv 5) (iv 6) (iv 7) (iv 8) (iv 9); exact hB) (by show q_cS k (iv 10) (iv 11) (iv 12) (iv 13) (iv 14); exact hS) (by show q_cC k (iv 15) (iv 16); exact hC) (by show q_cL k (iv 25); exact hL) (by show q_CI k (iv 2) (iv 138) (iv 139) (iv 140) (iv 142) (iv 143) (iv 145) (iv 129) (iv 135); exact hci) (by show ¬ q_sen k; exact h3)
            refine w_calleE hc19 rfl (pz_cokI is_2 rfl) rfl (fun iv9 h9 => ?_)
            obtain ⟨o9_20, l9_21, n9_22, w9_23, d9_24, m9_25, V9_26, W9_27, U9_28, Y9_29, p9_30, q9_31, r9_32, h9e, hci, ho2⟩ := h9
            have h9x : iv9 = pz_u1 (pz_u1 (pz_u1 (pz_u1 (pz_u1 (pz_u1 (pz_u1 (pz_u1 (pz_u1 (pz_u1 (pz_u1 (pz_u1 (pz_u1 iv 2 o9_20) 134 l9_21) 138 n9_22) 139 w9_23) 140 d9_24) 142 m9_25) 143 V9_26) 144 W9_27) 145 U9_28) 146 Y9_29) 147 p9_30) 148 q9_31) 149 r9_32 := h9e.trans (by rw [pz_u1_in (r := 2) (q := 149) (by decide)]; rw [pz_u1_in (r := 2) (q := 148) (by decide)]; rw [pz_u1_in (r := 2) (q := 147) (by decide)]; rw [pz_u1_in (r := 2) (q := 146) (by decide)]; rw [pz_u1_in (r := 2) (q := 145) (by decide)]; rw [pz_u1_in (r := 2) (q := 144) (by decide)]; rw [pz_u1_in (r := 2) (q := 143) (by decide)]; rw [pz_u1_in (r := 2) (q := 142) (by decide)]; rw [pz_u1_in (r := 2) (q := 140) (by decide)]; rw [pz_u1_in (r := 2) (q := 139) (by decide)]; rw [pz_u1_in (r := 2) (q := 138) (by decide)]; rw [pz_u1_in (r := 2) (q := 134) (by decide)]; rw [pz_u1_top (r := 2)]; rw [pz_u1_in (r := 134) (q := 149) (by decide)]; rw [pz_u1_in (r := 134) (q := 148) (by decide)]; rw [pz_u1_in (r := 134) (q := 147) (by decide)]; rw [pz_u1_in (r := 134) (q := 146) (by decide)]; rw [pz_u1_in (r := 134) (q := 145) (by decide)]; rw [pz_u1_in (r := 134) (q := 144) (by decide)]; rw [pz_u1_in (r := 134) (q := 143) (by decide)]; rw [pz_u1_in (r := 134) (q := 142) (by decide)]; rw [pz_u1_in (r := 134) (q := 140) (by decide)]; rw [pz_u1_in (r := 134) (q := 139) (by decide)]; rw [pz_u1_in (r := 134) (q := 138) (by decide)]; rw [pz_u1_top (r := 134)]; rw [pz_u1_in (r := 138) (q := 149) (by decide)]; rw [pz_u1_in (r := 138) (q := 148) (by decide)]; rw [pz_u1_in (r := 138) (q := 147) (by decide)]; rw [pz_u1_in (r := 138) (q := 146) (by decide)]; rw [pz_u1_in (r := 138) (q := 145) (by decide)]; rw [pz_u1_in (r := 138) (q := 144) (by decide)]; rw [pz_u1_in (r := 138) (q := 143) (by decide)]; rw [pz_u1_in (r := 138) (q := 142) (by decide)]; rw [pz_u1_in (r := 138) (q := 140) (by decide)]; rw [pz_u1_in (r := 138) (q := 139) (by decide)]; rw [pz_u1_top (r := 138)]; rw [pz_u1_in (r := 139) (q := 149) (by decide)]; rw [pz_u1_in (r := 139) (q := 148) (by decide)]; rw [pz_u1_in (r := 139) (q := 147) (by decide)]; rw [pz_u1_in (r := 139) (q := 146) (by decide)]; rw [pz_u1_in (r := 139) (q := 145) (by decide)]; rw [pz_u1_in (r := 139) (q := 144) (by decide)]; rw [pz_u1_in (r := 139) (q := 143) (by decide)]; rw [pz_u1_in (r := 139) (q := 142) (by decide)]; rw [pz_u1_in (r := 139) (q := 140) (by decide)]; rw [pz_u1_top (r := 139)]; rw [pz_u1_in (r := 140) (q := 149) (by decide)]; rw [pz_u1_in (r := 140) (q := 148) (by decide)]; rw [pz_u1_in (r := 140) (q := 147) (by decide)]; rw [pz_u1_in (r := 140) (q := 146) (by decide)]; rw [pz_u1_in (r := 140) (q := 145) (by decide)]; rw [pz_u1_in (r := 140) (q := 144) (by decide)]; rw [pz_u1_in (r := 140) (q := 143) (by decide)]; rw [pz_u1_in (r := 140) (q := 142) (by decide)]; rw [pz_u1_top (r := 140)]; rw [pz_u1_in (r := 142) (q := 149) (by decide)]; rw [pz_u1_in (r := 142) (q := 148) (by decide)]; rw [pz_u1_in (r := 142) (q := 147) (by decide)]; rw [pz_u1_in (r := 142) (q := 146) (by decide)]; rw [pz_u1_in (r := 142) (q := 145) (by decide)]; rw [pz_u1_in (r := 142) (q := 144) (by decide)]; rw [pz_u1_in (r := 142) (q := 143) (by decide)]; rw [pz_u1_top (r := 142)]; rw [pz_u1_in (r := 143) (q := 149) (by decide)]; rw [pz_u1_in (r := 143) (q := 148) (by decide)]; rw [pz_u1_in (r := 143) (q := 147) (by decide)]; rw [pz_u1_in (r := 143) (q := 146) (by decide)]; rw [pz_u1_in (r := 143) (q := 145) (by decide)]; rw [pz_u1_in (r := 143) (q := 144) (by decide)]; rw [pz_u1_top (r := 143)]; rw [pz_u1_in (r := 144) (q := 149) (by decide)]; rw [pz_u1_in (r := 144) (q := 148) (by decide)]; rw [pz_u1_in (r := 144) (q := 147) (by decide)]; rw [pz_u1_in (r := 144) (q := 146) (by decide)]; rw [pz_u1_in (r := 144) (q := 145) (by decide)]; rw [pz_u1_top (r := 144)]; rw [pz_u1_in (r := 145) (q := 149) (by decide)]; rw [pz_u1_in (r := 145) (q := 148) (by decide)]; rw [pz_u1_in (r := 145) (q := 147) (by decide)]; rw [pz_u1_in (r := 145) (q := 146) (by decide)]; rw [pz_u1_top (r := 145)]; rw [pz_u1_in (r := 146) (q := 149) (by decide)]; rw [pz_u1_in (r := 146) (q := 148) (by decide)]; rw [pz_u1_in (r := 146) (q := 147) (by decide)]; rw [pz_u1_top (r := 146)]; rw [pz_u1_in (r := 147) (q := 149) (by decide)]; rw [pz_u1_in (r := 147) (q := 148) (by decide)]; rw [pz_u1_top (r := 147)]; rw [pz_u1_in (r := 148) (q := 149) (by decide)]; rw [pz_u1_top (r := 148)]; rw [pz_u1_top (r := 149)] <;> rfl)
            subst h9x
            replace hci : q_CI k o9_20 n9_22 w9_23 d9_24 m9_25 V9_26 U9_28 (iv 129) (iv 135) := hci
            replace ho2 : o9_20 2 = (iv 2) 2 := ho2
            first | exact ⟨pz_u1 (pz_u1 (pz_u1 (pz_u1 (pz_u1 (pz_u1 (pz_u1 (pz_u1 (pz_u1 (pz_u1 (pz_u1 (pz_u1 (pz_u1 iv 2 o9_20) 134 l9_21) 138 n9_22) 139 w9_23) 140 d9_24) 142 m9_25) 143 V9_26) 144 W9_27) 145 U9_28) 146 Y9_29) 147 p9_30) 148 q9_31) 149 r9_32, ⟨o9_20, l9_21, n9_22, w9_23, d9_24, m9_25, V9_26, W9_27, U9_28, Y9_29, p9_30, q9_31, r9_32, by rfl, by exact hci, by exact ho2⟩, lf_e (by rfl)⟩ | (exfalso; omega)))
  · first
    | (exfalso; first | omega | contradiction)
    | (have hc33 : pz_R (pz_Sh L) 170 [.inr (.inl 2), .inl e] (pz_u1 (pz_u1 (pz_u1 (pz_u1 (pz_u1 (pz_u1 (pz_u1 (pz_u1 (pz_u1 (pz_u1 (pz_u1 (pz_u1 (pz_u1 iv 2 (iv 2)) 134 (iv 134)) 138 (iv 138)) 139 (iv 139)) 140 (iv 140)) 142 (iv 142)) 143 (iv 143)) 144 (iv 144)) 145 (iv 145)) 146 (iv 146)) 147 (iv 147)) 148 (iv 148)) 149 (iv 149)) (.inr 2) (pz_u1 (pz_u1 (pz_u1 (pz_u1 (pz_u1 (pz_u1 (pz_u1 (pz_u1 (pz_u1 (pz_u1 (pz_u1 (pz_u1 (pz_u1 iv 2 (iv 2)) 134 (iv 134)) 138 (iv 138)) 139 (iv 139)) 140 (iv 140)) 142 (iv 142)) 143 (iv 143)) 144 (iv 144)) 145 (iv 145)) 146 (iv 146)) 147 (iv 147)) 148 (iv 148)) 149 (iv 149)) := s_X10_needEvent_n e (by show q_cE k (iv 3); exact hE) (by show ¬ (0 ≤ e ∧ e < k 0); exact h1)
       refine w_calle hc33 rfl (pz_cokI is_2 rfl) rfl ?_
       first | exact ⟨pz_u1 (pz_u1 (pz_u1 (pz_u1 (pz_u1 (pz_u1 (pz_u1 (pz_u1 (pz_u1 (pz_u1 (pz_u1 (pz_u1 (pz_u1 iv 2 (iv 2)) 134 (iv 134)) 138 (iv 138)) 139 (iv 139)) 140 (iv 140)) 142 (iv 142)) 143 (iv 143)) 144 (iv 144)) 145 (iv 145)) 146 (iv 146)) 147 (iv 147)) 148 (iv 148)) 149 (iv 149), ⟨(iv 2), (iv 134), (iv 138), (iv 139), (iv 140), (iv 142), (iv 143), (iv 144), (iv 145), (iv 146), (iv 147), (iv 148), (iv 149), by rfl, by exact hci, by exact ho2⟩, lf_e (by rfl)⟩ | (exfalso; omega))

theorem s_X10_reason_0 {L : Nat} {iv : Nat → Nat → Int} (e : Int) {k : Nat → Int} (hk : q_KR k) (hE : q_cE k (iv 3)) (hB : q_cB k (iv 4) (iv 5) (iv 6) (iv 7) (iv 8) (iv 9)) (hS : q_cS k (iv 10) (iv 11) (iv 12) (iv 13) (iv 14)) (hC : q_cC k (iv 15) (iv 16)) (hA : q_cA k (iv 17) (iv 18) (iv 19) (iv 20)) (hO : q_cO k (iv 22) (iv 23) (iv 24)) (hL : q_cL k (iv 25)) (hP : q_cP k (iv 27)) (hci : q_CI k (iv 2) (iv 138) (iv 139) (iv 140) (iv 142) (iv 143) (iv 145) (iv 129) (iv 135)) (hcase0 : 0 ≤ e ∧ e ≤ k 0 - 1) (hcase1 : q_sen k) : pz_RE (pz_Sh L) 147 [.inr (.inl 2), .inl e] iv (.inl (some (.inl (q_rs (q_val k) (q_ka k) k e (k 4))))) (fun iv9 => ∃ (o9 : Nat → Int) (l9 : Nat → Int) (n9 : Nat → Int) (w9 : Nat → Int) (d9 : Nat → Int) (m9 : Nat → Int) (V9 : Nat → Int) (W9 : Nat → Int) (U9 : Nat → Int) (Y9 : Nat → Int) (p9 : Nat → Int) (q9 : Nat → Int) (r9 : Nat → Int), iv9 = pz_u1 (pz_u1 (pz_u1 (pz_u1 (pz_u1 (pz_u1 (pz_u1 (pz_u1 (pz_u1 (pz_u1 (pz_u1 (pz_u1 (pz_u1 iv 2 o9) 134 l9) 138 n9) 139 w9) 140 d9) 142 m9) 143 V9) 144 W9) 145 U9) 146 Y9) 147 p9) 148 q9) 149 r9 ∧ (q_CI k o9 n9 w9 d9 m9 V9 U9 (iv 129) (iv 135)) ∧ (o9 2 = (iv 2) 2)) := by
  intro dv cc ss
  have hk0 := hk.r0
  have hE0 := hE
  have hB0 := hB.1
  have hS0 := hS.1
  have hC0 := hC.1
  have hA0 := hA.1
  have hrr := q_rs_r (v := q_val k) (a := q_ka k) (k := k) (e := e) (m := k 4)
  refine pz_G_mem (iv2 := pz_u1 (pz_u1 (pz_u1 (pz_u1 (pz_u1 (pz_u1 (pz_u1 (pz_u1 (pz_u1 (pz_u1 (pz_u1 (pz_u1 (pz_u1 iv 2 (iv 2)) 134 (iv 134)) 138 (iv 138)) 139 (iv 139)) 140 (iv 140)) 142 (iv 142)) 143 (iv 143)) 144 (iv 144)) 145 (iv 145)) 146 (iv 146)) 147 (iv 147)) 148 (iv 148)) 149 (iv 149)) (by exact (((((((((((((pz_u1_self iv 2).symm).trans (pz_u1_self (pz_u1 iv 2 (iv 2)) 134).symm).trans (pz_u1_self (pz_u1 (pz_u1 iv 2 (iv 2)) 134 (iv 134)) 138).symm).trans (pz_u1_self (pz_u1 (pz_u1 (pz_u1 iv 2 (iv 2)) 134 (iv 134)) 138 (iv 138)) 139).symm).trans (pz_u1_self (pz_u1 (pz_u1 (pz_u1 (pz_u1 iv 2 (iv 2)) 134 (iv 134)) 138 (iv 138)) 139 (iv 139)) 140).symm).trans (pz_u1_self (pz_u1 (pz_u1 (pz_u1 (pz_u1 (pz_u1 iv 2 (iv 2)) 134 (iv 134)) 138 (iv 138)) 139 (iv 139)) 140 (iv 140)) 142).symm).trans (pz_u1_self (pz_u1 (pz_u1 (pz_u1 (pz_u1 (pz_u1 (pz_u1 iv 2 (iv 2)) 134 (iv 134)) 138 (iv 138)) 139 (iv 139)) 140 (iv 140)) 142 (iv 142)) 143).symm).trans (pz_u1_self (pz_u1 (pz_u1 (pz_u1 (pz_u1 (pz_u1 (pz_u1 (pz_u1 iv 2 (iv 2)) 134 (iv 134)) 138 (iv 138)) 139 (iv 139)) 140 (iv 140)) 142 (iv 142)) 143 (iv 143)) 144).symm).trans (pz_u1_self (pz_u1 (pz_u1 (pz_u1 (pz_u1 (pz_u1 (pz_u1 (pz_u1 (pz_u1 iv 2 (iv 2)) 134 (iv 134)) 138 (iv 138)) 139 (iv 139)) 140 (iv 140)) 142 (iv 142)) 143 (iv 143)) 144 (iv 144)) 145).symm).trans (pz_u1_self (pz_u1 (pz_u1 (pz_u1 (pz_u1 (pz_u1 (pz_u1 (pz_u1 (pz_u1 (pz_u1 iv 2 (iv 2)) 134 (iv 134)) 138 (iv 138)) 139 (iv 139)) 140 (iv 140)) 142 (iv 142)) 143 (iv 143)) 144 (iv 144)) 145 (iv 145)) 146).symm).trans (pz_u1_self (pz_u1 (pz_u1 (pz_u1 (pz_u1 (pz_u1 (pz_u1 (pz_u1 (pz_u1 (pz_u1 (pz_u1 iv 2 (iv 2)) 134 (iv 134)) 138 (iv 138)) 139 (iv 139)) 140 (iv 140)) 142 (iv 142)) 143 (iv 143)) 144 (iv 144)) 145 (iv 145)) 146 (iv 146)) 147).symm).trans (pz_u1_self (pz_u1 (pz_u1 (pz_u1 (pz_u1 (pz_u1 (pz_u1 (pz_u1 (pz_u1 (pz_u1 (pz_u1 (pz_u1 iv 2 (iv 2)) 134 (iv 134)) 138 (iv 138)) 139 (iv 139)) 140 (iv 140)) 142 (iv 142)) 143 (iv 143)) 144 (iv 144)) 145 (iv 145)) 146 (iv 146)) 147 (iv 147)) 148).symm).trans (pz_u1_self (pz_u1 (pz_u1 (pz_u1 (pz_u1 (pz_u1 (pz_u1 (pz_u1 (pz_u1 (pz_u1 (pz_u1 (pz_u1 (pz_u1 iv 2 (iv 2)) 134 (iv 134)) 138 (iv 138)) 139 (iv 139)) 140 (iv 140)) 142 (iv 142)) 143 (iv 143)) 144 (iv 144)) 145 (iv 145)) 146 (iv 146)) 147 (iv 147)) 148 (iv 148)) 149).symm) ?_
  show pz_G 147 0 [some (.inr (.inl 2)), some (.inl e)] [] (pz_Sh L, pz_u1 (pz_u1 (pz_u1 (pz_u1 (pz_u1 (pz_u1 (pz_u1 (pz_u1 (pz_u1 (pz_u1 (pz_u1 (pz_u1 (pz_u1 iv 2 (iv 2)) 134 (iv 134)) 138 (iv 138)) 139 (iv 139)) 140 (iv 140)) 142 (iv 142)) 143 (iv 143)) 144 (iv 144)) 145 (iv 145)) 146 (iv 146)) 147 (iv 147)) 148 (iv 148)) 149 (iv 149), dv, cc, ss) (pz_PE (pz_Sh L) (.inl (some (.inl (q_rs (q_val k) (q_ka k) k e (k 4))))) (fun iv9 => ∃ (o9 : Nat → Int) (l9 : Nat → Int) (n9 : Nat → Int) (w9 : Nat → Int) (d9 : Nat → Int) (m9 : Nat → Int) (V9 : Nat → Int) (W9 : Nat → Int) (U9 : Nat → Int) (Y9 : Nat → Int) (p9 : Nat → Int) (q9 : Nat → Int) (r9 : Nat → Int), iv9 = pz_u1 (pz_u1 (pz_u1 (pz_u1 (pz_u1 (pz_u1 (pz_u1 (pz_u1 (pz_u1 (pz_u1 (pz_u1 (pz_u1 (pz_u1 iv 2 o9) 134 l9) 138 n9) 139 w9) 140 d9) 142 m9) 143 V9) 144 W9) 145 U9) 146 Y9) 147 p9) 148 q9) 149 r9 ∧ (q_CI k o9 n9 w9 d9 m9 V9 U9 (iv 129) (iv 135)) ∧ (o9 2 = (iv 2) 2)) dv cc ss)
  refine pz_G_of pz_b147_0 ?_
  refine w_loc rfl ?_
  refine w_loc rfl ?_
  by_cases h1 : 0 ≤ e ∧ e < k 0
  · first
    | (exfalso; first | omega | contradiction)
    | (have hc2 : pz_R (pz_Sh L) 170 [.inr (.inl 2), .inl e] (pz_u1 (pz_u1 (pz_u1 (pz_u1 (pz_u1 (pz_u1 (pz_u1 (pz_u1 (pz_u1 (pz_u1 (pz_u1 (pz_u1 (pz_u1 iv 2 (iv 2)) 134 (iv 134)) 138 (iv 138)) 139 (iv 139)) 140 (iv 140)) 142 (iv 142)) 143 (iv 143)) 144 (iv 144)) 145 (iv 145)) 146 (iv 146)) 147 (iv 147)) 148 (iv 148)) 149 (iv 149)) (.inl none) (pz_u1 (pz_u1 (pz_u1 (pz_u1 (pz_u1 (pz_u1 (pz_u1 (pz_u1 (pz_u1 (pz_u1 (pz_u1 (pz_u1 (pz_u1 iv 2 (iv 2)) 134 (iv 134)) 138 (iv 138)) 139 (iv 139)) 140 (iv 140)) 142 (iv 142)) 143 (iv 143)) 144 (iv 144)) 145 (iv 145)) 146 (iv 146)) 147 (iv 147)) 148 (iv 148)) 149 (iv 149)) := s_X10_needEvent_y e (by show q_cE k (iv 3); exact hE) (by show 0 ≤ e ∧ e < k 0; exact h1)
       refine w_callv hc2 rfl (pz_cokI is_2 rfl) ?_
       refine w_loc rfl ?_
       by_cases h3 : q_sen k
       · first
         | (exfalso; first | omega | contradiction)
         | (have hc4 := s_X10_goodReductions_y (L := L) (iv := pz_u1 (pz_u1 (pz_u1 (pz_u1 (pz_u1 (pz_u1 (pz_u1 (pz_u1 (pz_u1 (pz_u1 (pz_u1 (pz_u1 (pz_u1 iv 2 (iv 2)) 134 (iv 134)) 138 (iv 138)) 139 (iv 139)) 140 (iv 140)) 142 (iv 142)) 143 (iv 143)) 144 (iv 144)) 145 (iv 145)) 146 (iv 146)) 147 (iv 147)) 148 (iv 148)) 149 (iv 149)) (by show q_KR k; exact hk) (by show q_cE k (iv 3); exact hE) (by show q_cB k (iv 4) (iv 5) (iv 6) (iv 7) (iv 8) (iv 9); exact hB) (by show q_cS k (iv 10) (iv 11) (iv 12) (iv 13) (iv 14); exact hS) (by show q_cC k (iv 15) (iv 16); exact hC) (by show q_cL k (iv 25); exact hL) (by show q_CI k (iv 2) (iv 138) (iv 139) (iv 140) (iv 142) (iv 143) (iv 145) (iv 129) (iv 135); exact hci) (by show q_sen k; exact h3)
            refine w_callE hc4 rfl (pz_cokI is_2 rfl) (fun iv9 h9 => ?_)
            obtain ⟨o9_5, l9_6, n9_7, w9_8, d9_9, m9_10, V9_11, W9_12, U9_13, Y9_14, p9_15, q9_16, r9_17, h9e, hci, hRK, ho2⟩ := h9
            have h9x : iv9 = pz_u1 (pz_u1 (pz_u1 (pz_u1 (pz_u1 (pz_u1 (pz_u1 (pz_u1 (pz_u1 (pz_u1 (pz_u1 (pz_u1 (pz_u1 iv 2 o9_5) 134 l9_6) 138 n9_7) 139 w9_8) 140 d9_9) 142 m9_10) 143 V9_11) 144 W9_12) 145 U9_13) 146 Y9_14) 147 p9_15) 148 q9_16) 149 r9_17 := h9e.trans (by rw [pz_u1_in (r := 2) (q := 149) (by decide)]; rw [pz_u1_in (r := 2) (q := 148) (by decide)]; rw [pz_u1_in (r := 2) (q := 147) (by decide)]; rw [pz_u1_in (r := 2) (q := 146) (by decide)]; rw [pz_u1_in (r := 2) (q := 145) (by decide)]; rw [pz_u1_in (r := 2) (q := 144) (by decide)]; rw [pz_u1_in (r := 2) (q := 143) (by decide)]; rw [pz_u1_in (r := 2) (q := 142) (by decide)]; rw [pz_u1_in (r := 2) (q := 140) (by decide)]; rw [pz_u1_in (r := 2) (q := 139) (by decide)]; rw [pz_u1_in (r := 2) (q := 138) (by decide)]; rw [pz_u1_in (r := 2) (q := 134) (by decide)]; rw [pz_u1_top (r := 2)]; rw [pz_u1_in (r := 134) (q := 149) (by decide)]; rw [pz_u1_in (r := 134) (q := 148) (by decide)]; rw [pz_u1_in (r := 134) (q := 147) (by decide)]; rw [pz_u1_in (r := 134) (q := 146) (by decide)]; rw [pz_u1_in (r := 134) (q := 145) (by decide)]; rw [pz_u1_in (r := 134) (q := 144) (by decide)]; rw [pz_u1_in (r := 134) (q := 143) (by decide)]; rw [pz_u1_in (r := 134) (q := 142) (by decide)]; rw [pz_u1_in (r := 134) (q := 140) (by decide)]; rw [pz_u1_in (r := 134) (q := 139) (by decide)]; rw [pz_u1_in (r := 134) (q := 138) (by decide)]; rw [pz_u1_top (r := 134)]; rw [pz_u1_in (r := 138) (q := 149) (by decide)]; rw [pz_u1_in (r := 138) (q := 148) (by decide)]; rw [pz_u1_in (r := 138) (q := 147) (by decide)]; rw [pz_u1_in (r := 138) (q := 146) (by decide)]; rw [pz_u1_in (r := 138) (q := 145) (by decide)]; rw [pz_u1_in (r := 138) (q := 144) (by decide)]; rw [pz_u1_in (r := 138) (q := 143) (by decide)]; rw [pz_u1_in (r := 138) (q := 142) (by decide)]; rw [pz_u1_in (r := 138) (q := 140) (by decide)]; rw [pz_u1_in (r := 138) (q := 139) (by decide)]; rw [pz_u1_top (r := 138)]; rw [pz_u1_in (r := 139) (q := 149) (by decide)]; rw [pz_u1_in (r := 139) (q := 148) (by decide)]; rw [pz_u1_in (r := 139) (q := 147) (by decide)]; rw [pz_u1_in (r := 139) (q := 146) (by decide)]; rw [pz_u1_in (r := 139) (q := 145) (by decide)]; rw [pz_u1_in (r := 139) (q := 144) (by decide)]; rw [pz_u1_in (r := 139) (q := 143) (by decide)]; rw [pz_u1_in (r := 139) (q := 142) (by decide)]; rw [pz_u1_in (r := 139) (q := 140) (by decide)]; rw [pz_u1_top (r := 139)]; rw [pz_u1_in (r := 140) (q := 149) (by decide)]; rw [pz_u1_in (r := 140) (q := 148) (by decide)]; rw [pz_u1_in (r := 140) (q := 147) (by decide)]; rw [pz_u1_in (r := 140) (q := 146) (by decide)]; rw [pz_u1_in (r := 140) (q := 145) (by decide)]; rw [pz_u1_in (r := 140) (q := 144) (by decide)]; rw [pz_u1_in (r := 140) (q := 143) (by decide)]; rw [pz_u1_in (r := 140) (q := 142) (by decide)]; rw [pz_u1_top (r := 140)]; rw [pz_u1_in (r := 142) (q := 149) (by decide)]; rw [pz_u1_in (r := 142) (q := 148) (by decide)]; rw [pz_u1_in (r := 142) (q := 147) (by decide)]; rw [pz_u1_in (r := 142) (q := 146) (by decide)]; rw [pz_u1_in (r := 142) (q := 145) (by decide)]; rw [pz_u1_in (r := 142) (q := 144) (by decide)]; rw [pz_u1_in (r := 142) (q := 143) (by decide)]; rw [pz_u1_top (r := 142)]; rw [pz_u1_in (r := 143) (q := 149) (by decide)]; rw [pz_u1_in (r := 143) (q := 148) (by decide)]; rw [pz_u1_in (r := 143) (q := 147) (by decide)]; rw [pz_u1_in (r := 143) (q := 146) (by decide)]; rw [pz_u1_in (r := 143) (q := 145) (by decide)]; rw [pz_u1_in (r := 143) (q := 144) (by decide)]; rw [pz_u1_top (r := 143)]; rw [pz_u1_in (r := 144) (q := 149) (by decide)]; rw [pz_u1_in (r := 144) (q := 148) (by decide)]; rw [pz_u1_in (r := 144) (q := 147) (by decide)]; rw [pz_u1_in (r := 144) (q := 146) (by decide)]; rw [pz_u1_in (r := 144) (q := 145) (by decide)]; rw [pz_u1_top (r := 144)]; rw [pz_u1_in (r := 145) (q := 149) (by decide)]; rw [pz_u1_in (r := 145) (q := 148) (by decide)]; rw [pz_u1_in (r := 145) (q := 147) (by decide)]; rw [pz_u1_in (r := 145) (q := 146) (by decide)]; rw [pz_u1_top (r := 145)]; rw [pz_u1_in (r := 146) (q := 149) (by decide)]; rw [pz_u1_in (r := 146) (q := 148) (by decide)]; rw [pz_u1_in (r := 146) (q := 147) (by decide)]; rw [pz_u1_top (r := 146)]; rw [pz_u1_in (r := 147) (q := 149) (by decide)]; rw [pz_u1_in (r := 147) (q := 148) (by decide)]; rw [pz_u1_top (r := 147)]; rw [pz_u1_in (r := 148) (q := 149) (by decide)]; rw [pz_u1_top (r := 148)]; rw [pz_u1_top (r := 149)] <;> rfl)
            subst h9x
            replace hci : q_CI k o9_5 n9_7 w9_8 d9_9 m9_10 V9_11 U9_13 (iv 129) (iv 135) := hci
            replace hRK : q_RK k m9_10 V9_11 U9_13 := hRK
            replace ho2 : o9_5 2 = (iv 2) 2 := ho2
            refine w_loc rfl ?_
            refine w_loc rfl ?_
            refine w_getR (q := 3) is_2 rf_2_0 ?_
            refine w_getR (q := 15) is_3 rf_3_3 ?_
            have hc18 : pz_R (pz_Sh L) 105 [.inr (.inl 142), .inl e, .inr (.inl 15)] (pz_u1 (pz_u1 (pz_u1 (pz_u1 (pz_u1 (pz_u1 (pz_u1 (pz_u1 (pz_u1 (pz_u1 (pz_u1 (pz_u1 (pz_u1 iv 2 o9_5) 134 l9_6) 138 n9_7) 139 w9_8) 140 d9_9) 142 m9_10) 143 V9_11) 144 W9_12) 145 U9_13) 146 Y9_14) 147 p9_15) 148 q9_16) 149 r9_17) (.inl (some (.inl (q_rs (q_val k) (q_ka k) k e (k 4))))) (pz_u1 (pz_u1 (pz_u1 (pz_u1 (pz_u1 (pz_u1 (pz_u1 (pz_u1 (pz_u1 (pz_u1 (pz_u1 (pz_u1 (pz_u1 iv 2 o9_5) 134 l9_6) 138 n9_7) 139 w9_8) 140 d9_9) 142 m9_10) 143 V9_11) 144 W9_12) 145 U9_13) 146 Y9_14) 147 p9_15) 148 q9_16) 149 r9_17) := s_X8_reasonAgainst_15 e (by show q_KR k; exact hk) (by show q_cE k (iv 3); exact hE) (by show q_cS k (iv 10) (iv 11) (iv 12) (iv 13) (iv 14); exact hS) (by show q_cC k (iv 15) (iv 16); exact hC) (by show q_VU k (q_val k) V9_11 U9_13; exact hRK.2.2 (by assumption)) (by show q_vb (q_val k); exact q_vb_val hk (by assumption)) (by show 0 ≤ e ∧ e < k 0; omega)
            refine w_call hc18 rfl (pz_cokI is_142 rfl) ?_
            refine w_ret (pz_rok2 (by omega)) ?_
            first | exact ⟨pz_u1 (pz_u1 (pz_u1 (pz_u1 (pz_u1 (pz_u1 (pz_u1 (pz_u1 (pz_u1 (pz_u1 (pz_u1 (pz_u1 (pz_u1 iv 2 o9_5) 134 l9_6) 138 n9_7) 139 w9_8) 140 d9_9) 142 m9_10) 143 V9_11) 144 W9_12) 145 U9_13) 146 Y9_14) 147 p9_15) 148 q9_16) 149 r9_17, ⟨o9_5, l9_6, n9_7, w9_8, d9_9, m9_10, V9_11, W9_12, U9_13, Y9_14, p9_15, q9_16, r9_17, by rfl, by exact hci, by exact ho2⟩, lf_i (by first | rfl | omega) (by rfl)⟩ | (exfalso; omega))
       · first
         | (exfalso; first | omega | contradiction)
         | (have hc19 := s_X10_goodReductions_n (L := L) (iv := pz_u1 (pz_u1 (pz_u1 (pz_u1 (pz_u1 (pz_u1 (pz_u1 (pz_u1 (pz_u1 (pz_u1 (pz_u1 (pz_u1 (pz_u1 iv 2 (iv 2)) 134 (iv 134)) 138 (iv 138)) 139 (iv 139)) 140 (iv 140)) 142 (iv 142)) 143 (iv 143)) 144 (iv 144)) 145 (iv 145)) 146 (iv 146)) 147 (iv 147)) 148 (iv 148)) 149 (iv 149)) (by show q_KR k; exact hk) (by show q_cE k (iv 3); exact hE) (by show q_cB k (iv 4) (iv 5) (iv 6) (iv 7) (iv 8) (iv 9); exact hB) (by show q_cS k (iv 10) (iv 11) (iv 12) (iv 13) (iv 14); exact hS) (by show q_cC k (iv 15) (iv 16); exact hC) (by show q_cL k (iv 25); exact hL) (by show q_CI k (iv 2) (iv 138) (iv 139) (iv 140) (iv 142) (iv 143) (iv 145) (iv 129) (iv 135); exact hci) (by show ¬ q_sen k; exact h3)
            refine w_calleE hc19 rfl (pz_cokI is_2 rfl) rfl (fun iv9 h9 => ?_)
            obtain ⟨o9_20, l9_21, n9_22, w9_23, d9_24, m9_25, V9_26, W9_27, U9_28, Y9_29, p9_30, q9_31, r9_32, h9e, hci, ho2⟩ := h9
            have h9x : iv9 = pz_u1 (pz_u1 (pz_u1 (pz_u1 (pz_u1 (pz_u1 (pz_u1 (pz_u1 (pz_u1 (pz_u1 (pz_u1 (pz_u1 (pz_u1 iv 2 o9_20) 134 l9_21) 138 n9_22) 139 w9_23) 140 d9_24) 142 m9_25) 143 V9_26) 144 W9_27) 145 U9_28) 146 Y9_29) 147 p9_30) 148 q9_31) 149 r9_32 := h9e.trans (by rw [pz_u1_in (r := 2) (q := 149) (by decide)]; rw [pz_u1_in (r := 2) (q := 148) (by decide)]; rw [pz_u1_in (r := 2) (q := 147) (by decide)]; rw [pz_u1_in (r := 2) (q := 146) (by decide)]; rw [pz_u1_in (r := 2) (q := 145) (by decide)]; rw [pz_u1_in (r := 2) (q := 144) (by decide)]; rw [pz_u1_in (r := 2) (q := 143) (by decide)]; rw [pz_u1_in (r := 2) (q := 142) (by decide)]; rw [pz_u1_in (r := 2) (q := 140) (by decide)]; rw [pz_u1_in (r := 2) (q := 139) (by decide)]; rw [pz_u1_in (r := 2) (q := 138) (by decide)]; rw [pz_u1_in (r := 2) (q := 134) (by decide)]; rw [pz_u1_top (r := 2)]; rw [pz_u1_in (r := 134) (q := 149) (by decide)]; rw [pz_u1_in (r := 134) (q := 148) (by decide)]; rw [pz_u1_in (r := 134) (q := 147) (by decide)]; rw [pz_u1_in (r := 134) (q := 146) (by decide)]; rw [pz_u1_in (r := 134) (q := 145) (by decide)]; rw [pz_u1_in (r := 134) (q := 144) (by decide)]; rw [pz_u1_in (r := 134) (q := 143) (by decide)]; rw [pz_u1_in (r := 134) (q := 142) (by decide)]; rw [pz_u1_in (r := 134) (q := 140) (by decide)]; rw [pz_u1_in (r := 134) (q := 139) (by decide)]; rw [pz_u1_in (r := 134) (q := 138) (by decide)]; rw [pz_u1_top (r := 134)]; rw [pz_u1_in (r := 138) (q := 149) (by decide)]; rw [pz_u1_in (r := 138) (q := 148) (by decide)]; rw [pz_u1_in (r := 138) (q := 147) (by decide)]; rw [pz_u1_in (r := 138) (q := 146) (by decide)]; rw [pz_u1_in (r := 138) (q := 145) (by decide)]; rw [pz_u1_in (r := 138) (q := 144) (by decide)]; rw [pz_u1_in (r := 138) (q := 143) (by decide)]; rw [pz_u1_in (r := 138) (q := 142) (by decide)]; rw [pz_u1_in (r := 138) (q := 140) (by decide)]; rw [pz_u1_in (r := 138) (q := 139) (by decide)]; rw [pz_u1_top (r := 138)]; rw [pz_u1_in (r := 139) (q := 149) (by decide)]; rw [pz_u1_in (r := 139) (q := 148) (by decide)]; rw [pz_u1_in (r := 139) (q := 147) (by decide)]; rw [pz_u1_in (r := 139) (q := 146) (by decide)]; rw [pz_u1_in (r := 139) (q := 145) (by decide)]; rw [pz_u1_in (r := 139) (q := 144) (by decide)]; rw [pz_u1_in (r := 139) (q := 143) (by decide)]; rw [pz_u1_in (r := 139) (q := 142) (by decide)]; rw [pz_u1_in (r := 139) (q := 140) (by decide)]; rw [pz_u1_top (r := 139)]; rw [pz_u1_in (r := 140) (q := 149) (by decide)]; rw [pz_u1_in (r := 140) (q := 148) (by decide)]; rw [pz_u1_in (r := 140) (q := 147) (by decide)]; rw [pz_u1_in (r := 140) (q := 146) (by decide)]; rw [pz_u1_in (r := 140) (q := 145) (by decide)]; rw [pz_u1_in (r := 140) (q := 144) (by decide)]; rw [pz_u1_in (r := 140) (q := 143) (by decide)]; rw [pz_u1_in (r := 140) (q := 142) (by decide)]; rw [pz_u1_top (r := 140)]; rw [pz_u1_in (r := 142) (q := 149) (by decide)]; rw [pz_u1_in (r := 142) (q := 148) (by decide)]; rw [pz_u1_in (r := 142) (q := 147) (by decide)]; rw [pz_u1_in (r := 142) (q := 146) (by decide)]; rw [pz_u1_in (r := 142) (q := 145) (by decide)]; rw [pz_u1_in (r := 142) (q := 144) (by decide)]; rw [pz_u1_in (r := 142) (q := 143) (by decide)]; rw [pz_u1_top (r := 142)]; rw [pz_u1_in (r := 143) (q := 149) (by decide)]; rw [pz_u1_in (r := 143) (q := 148) (by decide)]; rw [pz_u1_in (r := 143) (q := 147) (by decide)]; rw [pz_u1_in (r := 143) (q := 146) (by decide)]; rw [pz_u1_in (r := 143) (q := 145) (by decide)]; rw [pz_u1_in (r := 143) (q := 144) (by decide)]; rw [pz_u1_top (r := 143)]; rw [pz_u1_in (r := 144) (q := 149) (by decide)]; rw [pz_u1_in (r := 144) (q := 148) (by decide)]; rw [pz_u1_in (r := 144) (q := 147) (by decide)]; rw [pz_u1_in (r := 144) (q := 146) (by decide)]; rw [pz_u1_in (r := 144) (q := 145) (by decide)]; rw [pz_u1_top (r := 144)]; rw [pz_u1_in (r := 145) (q := 149) (by decide)]; rw [pz_u1_in (r := 145) (q := 148) (by decide)]; rw [pz_u1_in (r := 145) (q := 147) (by decide)]; rw [pz_u1_in (r := 145) (q := 146) (by decide)]; rw [pz_u1_top (r := 145)]; rw [pz_u1_in (r := 146) (q := 149) (by decide)]; rw [pz_u1_in (r := 146) (q := 148) (by decide)]; rw [pz_u1_in (r := 146) (q := 147) (by decide)]; rw [pz_u1_top (r := 146)]; rw [pz_u1_in (r := 147) (q := 149) (by decide)]; rw [pz_u1_in (r := 147) (q := 148) (by decide)]; rw [pz_u1_top (r := 147)]; rw [pz_u1_in (r := 148) (q := 149) (by decide)]; rw [pz_u1_top (r := 148)]; rw [pz_u1_top (r := 149)] <;> rfl)
            subst h9x
            replace hci : q_CI k o9_20 n9_22 w9_23 d9_24 m9_25 V9_26 U9_28 (iv 129) (iv 135) := hci
            replace ho2 : o9_20 2 = (iv 2) 2 := ho2
            first | exact ⟨pz_u1 (pz_u1 (pz_u1 (pz_u1 (pz_u1 (pz_u1 (pz_u1 (pz_u1 (pz_u1 (pz_u1 (pz_u1 (pz_u1 (pz_u1 iv 2 o9_20) 134 l9_21) 138 n9_22) 139 w9_23) 140 d9_24) 142 m9_25) 143 V9_26) 144 W9_27) 145 U9_28) 146 Y9_29) 147 p9_30) 148 q9_31) 149 r9_32, ⟨o9_20, l9_21, n9_22, w9_23, d9_24, m9_25, V9_26, W9_27, U9_28, Y9_29, p9_30, q9_31, r9_32, by rfl, by exact hci, by exact ho2⟩, lf_e (by rfl)⟩ | (exfalso; omega)))
  · first
    | (exfalso; first | omega | contradiction)
    | (have hc33 : pz_R (pz_Sh L) 170 [.inr (.inl 2), .inl e] (pz_u1 (pz_u1 (pz_u1 (pz_u1 (pz_u1 (pz_u1 (pz_u1 (pz_u1 (pz_u1 (pz_u1 (pz_u1 (pz_u1 (pz_u1 iv 2 (iv 2)) 134 (iv 134)) 138 (iv 138)) 139 (iv 139)) 140 (iv 140)) 142 (iv 142)) 143 (iv 143)) 144 (iv 144)) 145 (iv 145)) 146 (iv 146)) 147 (iv 147)) 148 (iv 148)) 149 (iv 149)) (.inr 2) (pz_u1 (pz_u1 (pz_u1 (pz_u1 (pz_u1 (pz_u1 (pz_u1 (pz_u1 (pz_u1 (pz_u1 (pz_u1 (pz_u1 (pz_u1 iv 2 (iv 2)) 134 (iv 134)) 138 (iv 138)) 139 (iv 139)) 140 (iv 140)) 142 (iv 142)) 143 (iv 143)) 144 (iv 144)) 145 (iv 145)) 146 (iv 146)) 147 (iv 147)) 148 (iv 148)) 149 (iv 149)) := s_X10_needEvent_n e (by show q_cE k (iv 3); exact hE) (by show ¬ (0 ≤ e ∧ e < k 0); exact h1)
       refine w_calle hc33 rfl (pz_cokI is_2 rfl) rfl ?_
       first | exact ⟨pz_u1 (pz_u1 (pz_u1 (pz_u1 (pz_u1 (pz_u1 (pz_u1 (pz_u1 (pz_u1 (pz_u1 (pz_u1 (pz_u1 (pz_u1 iv 2 (iv 2)) 134 (iv 134)) 138 (iv 138)) 139 (iv 139)) 140 (iv 140)) 142 (iv 142)) 143 (iv 143)) 144 (iv 144)) 145 (iv 145)) 146 (iv 146)) 147 (iv 147)) 148 (iv 148)) 149 (iv 149), ⟨(iv 2), (iv 134), (iv 138), (iv 139), (iv 140), (iv 142), (iv 143), (iv 144), (iv 145), (iv 146), (iv 147), (iv 148), (iv 149), by rfl, by exact hci, by exact ho2⟩, lf_e (by rfl)⟩ | (exfalso; omega))

theorem s_X10_lowest_1 {L : Nat} {iv : Nat → Nat → Int} (e : Int) {k : Nat → Int} (hk : q_KR k) (hE : q_cE k (iv 3)) (hB : q_cB k (iv 4) (iv 5) (iv 6) (iv 7) (iv 8) (iv 9)) (hS : q_cS k (iv 10) (iv 11) (iv 12) (iv 13) (iv 14)) (hC : q_cC k (iv 15) (iv 16)) (hA : q_cA k (iv 17) (iv 18) (iv 19) (iv 20)) (hO : q_cO k (iv 22) (iv 23) (iv 24)) (hL : q_cL k (iv 25)) (hP : q_cP k (iv 27)) (hci : q_CI k (iv 2) (iv 138) (iv 139) (iv 140) (iv 142) (iv 143) (iv 145) (iv 129) (iv 135)) (hcase0 : ¬ (0 ≤ e ∧ e ≤ k 0 - 1)) : pz_R (pz_Sh L) 148 [.inr (.inl 2), .inl e] iv (.inr 2) iv := by
  intro dv cc ss
  have hk0 := hk.r0
  have hE0 := hE
  have hB0 := hB.1
  have hS0 := hS.1
  have hC0 := hC.1
  have hA0 := hA.1
  show pz_G 148 0 [some (.inr (.inl 2)), some (.inl e)] [] (pz_Sh L, iv, dv, cc, ss) (pz_P (pz_Sh L) (.inr 2) iv dv cc ss)
  refine pz_G_of pz_b148_0 ?_
  refine w_loc rfl ?_
  refine w_loc rfl ?_
  by_cases h1 : 0 ≤ e ∧ e < k 0
  · first
    | (exfalso; first | omega | contradiction)
    | (have hc2 : pz_R (pz_Sh L) 170 [.inr (.inl 2), .inl e] (iv) (.inl none) (iv) := s_X10_needEvent_y e (by exact hE) (by exact h1)
       refine w_callv hc2 rfl (pz_cokI is_2 rfl) ?_
       refine w_loc rfl ?_
       refine w_getR (q := 3) is_2 rf_2_0 ?_
       refine w_getR (q := 15) is_3 rf_3_3 ?_
       refine w_loc rfl ?_
       have hc3 : pz_R (pz_Sh L) 26 [.inr (.inl 15), .inl e] (iv) (.inl (some (.inl (pz_bi (q_sta k e))))) (iv) := s_X2_hasStarted_15 e (by exact hk) (by exact hC) (by omega)
       refine w_call hc3 rfl (pz_cokI is_15 rfl) ?_
       refine w_bne (fun h4 => ?_) (fun h4 => ?_)
       · first
         | (exfalso; first | omega | contradiction)
         | (refine pz_G_of pz_b148_23 ?_
            refine w_pure rfl ?_
            refine w_nil ?_
            refine pz_G_of pz_b148_24 ?_
            have hc5 : pz_R (pz_Sh L) 173 [.inl 0] (iv) (.inr 0) (iv) := s_X10_needState_n 0 (by omega)
            refine w_calle hc5 rfl rfl rfl ?_
            first | exact lf_e (by rfl) | (exfalso; omega))
       · first
         | (exfalso; first | omega | contradiction)
         | (refine w_pure rfl ?_
            refine w_goto ?_
            refine pz_G_of pz_b148_24 ?_
            have hc6 : pz_R (pz_Sh L) 173 [.inl 1] (iv) (.inl none) (iv) := s_X10_needState_y 1 (by omega)
            refine w_callv hc6 rfl rfl ?_
            refine w_loc rfl ?_
            by_cases h7 : q_sen k
            · first
              | (exfalso; first | omega | contradiction)
              | (have hc8 := s_X10_goodReductions_y (L := L) (iv := iv) (by exact hk) (by exact hE) (by exact hB) (by exact hS) (by exact hC) (by exact hL) (by exact hci) (by exact h7)
                 refine w_callE hc8 rfl (pz_cokI is_2 rfl) (fun iv9 h9 => ?_)
                 obtain ⟨o9_9, l9_10, n9_11, w9_12, d9_13, m9_14, V9_15, W9_16, U9_17, Y9_18, p9_19, q9_20, r9_21, h9e, hci, hRK, ho2⟩ := h9
                 have h9x : iv9 = pz_u1 (pz_u1 (pz_u1 (pz_u1 (pz_u1 (pz_u1 (pz_u1 (pz_u1 (pz_u1 (pz_u1 (pz_u1 (pz_u1 (pz_u1 iv 2 o9_9) 134 l9_10) 138 n9_11) 139 w9_12) 140 d9_13) 142 m9_14) 143 V9_15) 144 W9_16) 145 U9_17) 146 Y9_18) 147 p9_19) 148 q9_20) 149 r9_21 := h9e.trans (by rw [pz_u1_top (r := 2)]; rw [pz_u1_top (r := 134)]; rw [pz_u1_top (r := 138)]; rw [pz_u1_top (r := 139)]; rw [pz_u1_top (r := 140)]; rw [pz_u1_top (r := 142)]; rw [pz_u1_top (r := 143)]; rw [pz_u1_top (r := 144)]; rw [pz_u1_top (r := 145)]; rw [pz_u1_top (r := 146)]; rw [pz_u1_top (r := 147)]; rw [pz_u1_top (r := 148)]; rw [pz_u1_top (r := 149)] <;> rfl)
                 subst h9x
                 replace hci : q_CI k o9_9 n9_11 w9_12 d9_13 m9_14 V9_15 U9_17 (iv 129) (iv 135) := hci
                 replace hRK : q_RK k m9_14 V9_15 U9_17 := hRK
                 replace ho2 : o9_9 2 = (iv 2) 2 := ho2
                 refine w_loc rfl ?_
                 refine w_loc rfl ?_
                 refine w_getR (q := 3) is_2 rf_2_0 ?_
                 refine w_getR (q := 15) is_3 rf_3_3 ?_
                 have hc22 : pz_R (pz_Sh L) 103 [.inr (.inl 142), .inl e, .inr (.inl 15)] (pz_u1 (pz_u1 (pz_u1 (pz_u1 (pz_u1 (pz_u1 (pz_u1 (pz_u1 (pz_u1 (pz_u1 (pz_u1 (pz_u1 (pz_u1 iv 2 o9_9) 134 l9_10) 138 n9_11) 139 w9_12) 140 d9_13) 142 m9_14) 143 V9_15) 144 W9_16) 145 U9_17) 146 Y9_18) 147 p9_19) 148 q9_20) 149 r9_21) (.inl (some (.inl (q_lo (q_val k) (q_ka k) k e)))) (pz_u1 (pz_u1 (pz_u1 (pz_u1 (pz_u1 (pz_u1 (pz_u1 (pz_u1 (pz_u1 (pz_u1 (pz_u1 (pz_u1 (pz_u1 iv 2 o9_9) 134 l9_10) 138 n9_11) 139 w9_12) 140 d9_13) 142 m9_14) 143 V9_15) 144 W9_16) 145 U9_17) 146 Y9_18) 147 p9_19) 148 q9_20) 149 r9_21) := s_X8_windowLow_15 e (by show q_KR k; exact hk) (by show q_cE k (iv 3); exact hE) (by show q_cC k (iv 15) (iv 16); exact hC) (by show q_VU k (q_val k) V9_15 U9_17; exact hRK.2.2 (by assumption)) (by show q_vb (q_val k); exact q_vb_val hk (by assumption)) (by show 0 ≤ e ∧ e < k 0; omega)
                 refine w_call hc22 rfl (pz_cokI is_142 rfl) ?_
                 refine w_ret rfl ?_
                 first | exact lf_i (by first | rfl | omega) (by rfl) | (exfalso; omega))
            · first
              | (exfalso; first | omega | contradiction)
              | (have hc23 := s_X10_goodReductions_n (L := L) (iv := iv) (by exact hk) (by exact hE) (by exact hB) (by exact hS) (by exact hC) (by exact hL) (by exact hci) (by exact h7)
                 refine w_calleE hc23 rfl (pz_cokI is_2 rfl) rfl (fun iv9 h9 => ?_)
                 obtain ⟨o9_24, l9_25, n9_26, w9_27, d9_28, m9_29, V9_30, W9_31, U9_32, Y9_33, p9_34, q9_35, r9_36, h9e, hci, ho2⟩ := h9
                 have h9x : iv9 = pz_u1 (pz_u1 (pz_u1 (pz_u1 (pz_u1 (pz_u1 (pz_u1 (pz_u1 (pz_u1 (pz_u1 (pz_u1 (pz_u1 (pz_u1 iv 2 o9_24) 134 l9_25) 138 n9_26) 139 w9_27) 140 d9_28) 142 m9_29) 143 V9_30) 144 W9_31) 145 U9_32) 146 Y9_33) 147 p9_34) 148 q9_35) 149 r9_36 := h9e.trans (by rw [pz_u1_top (r := 2)]; rw [pz_u1_top (r := 134)]; rw [pz_u1_top (r := 138)]; rw [pz_u1_top (r := 139)]; rw [pz_u1_top (r := 140)]; rw [pz_u1_top (r := 142)]; rw [pz_u1_top (r := 143)]; rw [pz_u1_top (r := 144)]; rw [pz_u1_top (r := 145)]; rw [pz_u1_top (r := 146)]; rw [pz_u1_top (r := 147)]; rw [pz_u1_top (r := 148)]; rw [pz_u1_top (r := 149)] <;> rfl)
                 subst h9x
                 replace hci : q_CI k o9_24 n9_26 w9_27 d9_28 m9_29 V9_30 U9_32 (iv 129) (iv 135) := hci
                 replace ho2 : o9_24 2 = (iv 2) 2 := ho2
                 first | exact lf_e (by rfl) | (exfalso; omega))))
  · first
    | (exfalso; first | omega | contradiction)
    | (have hc37 : pz_R (pz_Sh L) 170 [.inr (.inl 2), .inl e] (iv) (.inr 2) (iv) := s_X10_needEvent_n e (by exact hE) (by exact h1)
       refine w_calle hc37 rfl (pz_cokI is_2 rfl) rfl ?_
       first | exact lf_e (by rfl) | (exfalso; omega))

theorem s_X10_lowest_2a {L : Nat} {iv : Nat → Nat → Int} (e : Int) {k : Nat → Int} (hk : q_KR k) (hE : q_cE k (iv 3)) (hB : q_cB k (iv 4) (iv 5) (iv 6) (iv 7) (iv 8) (iv 9)) (hS : q_cS k (iv 10) (iv 11) (iv 12) (iv 13) (iv 14)) (hC : q_cC k (iv 15) (iv 16)) (hA : q_cA k (iv 17) (iv 18) (iv 19) (iv 20)) (hO : q_cO k (iv 22) (iv 23) (iv 24)) (hL : q_cL k (iv 25)) (hP : q_cP k (iv 27)) (hci : q_CI k (iv 2) (iv 138) (iv 139) (iv 140) (iv 142) (iv 143) (iv 145) (iv 129) (iv 135)) (hcase0 : 0 ≤ e ∧ e ≤ k 0 - 1) (hcase1 : q_sta k e) : pz_R (pz_Sh L) 148 [.inr (.inl 2), .inl e] iv (.inr 0) iv := by
  intro dv cc ss
  have hk0 := hk.r0
  have hE0 := hE
  have hB0 := hB.1
  have hS0 := hS.1
  have hC0 := hC.1
  have hA0 := hA.1
  show pz_G 148 0 [some (.inr (.inl 2)), some (.inl e)] [] (pz_Sh L, iv, dv, cc, ss) (pz_P (pz_Sh L) (.inr 0) iv dv cc ss)
  refine pz_G_of pz_b148_0 ?_
  refine w_loc rfl ?_
  refine w_loc rfl ?_
  by_cases h1 : 0 ≤ e ∧ e < k 0
  · first
    | (exfalso; first | omega | contradiction)
    | (have hc2 : pz_R (pz_Sh L) 170 [.inr (.inl 2), .inl e] (iv) (.inl none) (iv) := s_X10_needEvent_y e (by exact hE) (by exact h1)
       refine w_callv hc2 rfl (pz_cokI is_2 rfl) ?_
       refine w_loc rfl ?_
       refine w_getR (q := 3) is_2 rf_2_0 ?_
       refine w_getR (q := 15) is_3 rf_3_3 ?_
       refine w_loc rfl ?_
       have hc3 : pz_R (pz_Sh L) 26 [.inr (.inl 15), .inl e] (iv) (.inl (some (.inl (pz_bi (q_sta k e))))) (iv) := s_X2_hasStarted_15 e (by exact hk) (by exact hC) (by omega)
       refine w_call hc3 rfl (pz_cokI is_15 rfl) ?_
       refine w_bne (fun h4 => ?_) (fun h4 => ?_)
       · first
         | (exfalso; first | omega | contradiction)
         | (refine pz_G_of pz_b148_23 ?_
            refine w_pure rfl ?_
            refine w_nil ?_
            refine pz_G_of pz_b148_24 ?_
            have hc5 : pz_R (pz_Sh L) 173 [.inl 0] (iv) (.inr 0) (iv) := s_X10_needState_n 0 (by omega)
            refine w_calle hc5 rfl rfl rfl ?_
            first | exact lf_e (by rfl) | (exfalso; omega))
       · first
         | (exfalso; first | omega | contradiction)
         | (refine w_pure rfl ?_
            refine w_goto ?_
            refine pz_G_of pz_b148_24 ?_
            have hc6 : pz_R (pz_Sh L) 173 [.inl 1] (iv) (.inl none) (iv) := s_X10_needState_y 1 (by omega)
            refine w_callv hc6 rfl rfl ?_
            refine w_loc rfl ?_
            by_cases h7 : q_sen k
            · first
              | (exfalso; first | omega | contradiction)
              | (have hc8 := s_X10_goodReductions_y (L := L) (iv := iv) (by exact hk) (by exact hE) (by exact hB) (by exact hS) (by exact hC) (by exact hL) (by exact hci) (by exact h7)
                 refine w_callE hc8 rfl (pz_cokI is_2 rfl) (fun iv9 h9 => ?_)
                 obtain ⟨o9_9, l9_10, n9_11, w9_12, d9_13, m9_14, V9_15, W9_16, U9_17, Y9_18, p9_19, q9_20, r9_21, h9e, hci, hRK, ho2⟩ := h9
                 have h9x : iv9 = pz_u1 (pz_u1 (pz_u1 (pz_u1 (pz_u1 (pz_u1 (pz_u1 (pz_u1 (pz_u1 (pz_u1 (pz_u1 (pz_u1 (pz_u1 iv 2 o9_9) 134 l9_10) 138 n9_11) 139 w9_12) 140 d9_13) 142 m9_14) 143 V9_15) 144 W9_16) 145 U9_17) 146 Y9_18) 147 p9_19) 148 q9_20) 149 r9_21 := h9e.trans (by rw [pz_u1_top (r := 2)]; rw [pz_u1_top (r := 134)]; rw [pz_u1_top (r := 138)]; rw [pz_u1_top (r := 139)]; rw [pz_u1_top (r := 140)]; rw [pz_u1_top (r := 142)]; rw [pz_u1_top (r := 143)]; rw [pz_u1_top (r := 144)]; rw [pz_u1_top (r := 145)]; rw [pz_u1_top (r := 146)]; rw [pz_u1_top (r := 147)]; rw [pz_u1_top (r := 148)]; rw [pz_u1_top (r := 149)] <;> rfl)
                 subst h9x
                 replace hci : q_CI k o9_9 n9_11 w9_12 d9_13 m9_14 V9_15 U9_17 (iv 129) (iv 135) := hci
                 replace hRK : q_RK k m9_14 V9_15 U9_17 := hRK
                 replace ho2 : o9_9 2 = (iv 2) 2 := ho2
                 refine w_loc rfl ?_
                 refine w_loc rfl ?_
                 refine w_getR (q := 3) is_2 rf_2_0 ?_
                 refine w_getR (q := 15) is_3 rf_3_3 ?_
                 have hc22 : pz_R (pz_Sh L) 103 [.inr (.inl 142), .inl e, .inr (.inl 15)] (pz_u1 (pz_u1 (pz_u1 (pz_u1 (pz_u1 (pz_u1 (pz_u1 (pz_u1 (pz_u1 (pz_u1 (pz_u1 (pz_u1 (pz_u1 iv 2 o9_9) 134 l9_10) 138 n9_11) 139 w9_12) 140 d9_13) 142 m9_14) 143 V9_15) 144 W9_16) 145 U9_17) 146 Y9_18) 147 p9_19) 148 q9_20) 149 r9_21) (.inl (some (.inl (q_lo (q_val k) (q_ka k) k e)))) (pz_u1 (pz_u1 (pz_u1 (pz_u1 (pz_u1 (pz_u1 (pz_u1 (pz_u1 (pz_u1 (pz_u1 (pz_u1 (pz_u1 (pz_u1 iv 2 o9_9) 134 l9_10) 138 n9_11) 139 w9_12) 140 d9_13) 142 m9_14) 143 V9_15) 144 W9_16) 145 U9_17) 146 Y9_18) 147 p9_19) 148 q9_20) 149 r9_21) := s_X8_windowLow_15 e (by show q_KR k; exact hk) (by show q_cE k (iv 3); exact hE) (by show q_cC k (iv 15) (iv 16); exact hC) (by show q_VU k (q_val k) V9_15 U9_17; exact hRK.2.2 (by assumption)) (by show q_vb (q_val k); exact q_vb_val hk (by assumption)) (by show 0 ≤ e ∧ e < k 0; omega)
                 refine w_call hc22 rfl (pz_cokI is_142 rfl) ?_
                 refine w_ret rfl ?_
                 first | exact lf_i (by first | rfl | omega) (by rfl) | (exfalso; omega))
            · first
              | (exfalso; first | omega | contradiction)
              | (have hc23 := s_X10_goodReductions_n (L := L) (iv := iv) (by exact hk) (by exact hE) (by exact hB) (by exact hS) (by exact hC) (by exact hL) (by exact hci) (by exact h7)
                 refine w_calleE hc23 rfl (pz_cokI is_2 rfl) rfl (fun iv9 h9 => ?_)
                 obtain ⟨o9_24, l9_25, n9_26, w9_27, d9_28, m9_29, V9_30, W9_31, U9_32, Y9_33, p9_34, q9_35, r9_36, h9e, hci, ho2⟩ := h9
                 have h9x : iv9 = pz_u1 (pz_u1 (pz_u1 (pz_u1 (pz_u1 (pz_u1 (pz_u1 (pz_u1 (pz_u1 (pz_u1 (pz_u1 (pz_u1 (pz_u1 iv 2 o9_24) 134 l9_25) 138 n9_26) 139 w9_27) 140 d9_28) 142 m9_29) 143 V9_30) 144 W9_31) 145 U9_32) 146 Y9_33) 147 p9_34) 148 q9_35) 149 r9_36 := h9e.trans (by rw [pz_u1_top (r := 2)]; rw [pz_u1_top (r := 134)]; rw [pz_u1_top (r := 138)]; rw [pz_u1_top (r := 139)]; rw [pz_u1_top (r := 140)]; rw [pz_u1_top (r := 142)]; rw [pz_u1_top (r := 143)]; rw [pz_u1_top (r := 144)]; rw [pz_u1_top (r := 145)]; rw [pz_u1_top (r := 146)]; rw [pz_u1_top (r := 147)]; rw [pz_u1_top (r := 148)]; rw [pz_u1_top (r := 149)] <;> rfl)
                 subst h9x
                 replace hci : q_CI k o9_24 n9_26 w9_27 d9_28 m9_29 V9_30 U9_32 (iv 129) (iv 135) := hci
                 replace ho2 : o9_24 2 = (iv 2) 2 := ho2
                 first | exact lf_e (by rfl) | (exfalso; omega))))
  · first
    | (exfalso; first | omega | contradiction)
    | (have hc37 : pz_R (pz_Sh L) 170 [.inr (.inl 2), .inl e] (iv) (.inr 2) (iv) := s_X10_needEvent_n e (by exact hE) (by exact h1)
       refine w_calle hc37 rfl (pz_cokI is_2 rfl) rfl ?_
       first | exact lf_e (by rfl) | (exfalso; omega))

theorem s_X10_lowest_2b {L : Nat} {iv : Nat → Nat → Int} (e : Int) {k : Nat → Int} (hk : q_KR k) (hE : q_cE k (iv 3)) (hB : q_cB k (iv 4) (iv 5) (iv 6) (iv 7) (iv 8) (iv 9)) (hS : q_cS k (iv 10) (iv 11) (iv 12) (iv 13) (iv 14)) (hC : q_cC k (iv 15) (iv 16)) (hA : q_cA k (iv 17) (iv 18) (iv 19) (iv 20)) (hO : q_cO k (iv 22) (iv 23) (iv 24)) (hL : q_cL k (iv 25)) (hP : q_cP k (iv 27)) (hci : q_CI k (iv 2) (iv 138) (iv 139) (iv 140) (iv 142) (iv 143) (iv 145) (iv 129) (iv 135)) (hcase0 : 0 ≤ e ∧ e ≤ k 0 - 1) (hcase1 : ¬ q_sta k e) (hcase2 : ¬ q_sen k) : pz_RE (pz_Sh L) 148 [.inr (.inl 2), .inl e] iv (.inr 0) (fun iv9 => ∃ (o9 : Nat → Int) (l9 : Nat → Int) (n9 : Nat → Int) (w9 : Nat → Int) (d9 : Nat → Int) (m9 : Nat → Int) (V9 : Nat → Int) (W9 : Nat → Int) (U9 : Nat → Int) (Y9 : Nat → Int) (p9 : Nat → Int) (q9 : Nat → Int) (r9 : Nat → Int), iv9 = pz_u1 (pz_u1 (pz_u1 (pz_u1 (pz_u1 (pz_u1 (pz_u1 (pz_u1 (pz_u1 (pz_u1 (pz_u1 (pz_u1 (pz_u1 iv 2 o9) 134 l9) 138 n9) 139 w9) 140 d9) 142 m9) 143 V9) 144 W9) 145 U9) 146 Y9) 147 p9) 148 q9) 149 r9 ∧ (q_CI k o9 n9 w9 d9 m9 V9 U9 (iv 129) (iv 135)) ∧ (o9 2 = (iv 2) 2)) := by
  intro dv cc ss
  have hk0 := hk.r0
  have hE0 := hE
  have hB0 := hB.1
  have hS0 := hS.1
  have hC0 := hC.1
  have hA0 := hA.1
  refine pz_G_mem (iv2 := pz_u1 (pz_u1 (pz_u1 (pz_u1 (pz_u1 (pz_u1 (pz_u1 (pz_u1 (pz_u1 (pz_u1 (pz_u1 (pz_u1 (pz_u1 iv 2 (iv 2)) 134 (iv 134)) 138 (iv 138)) 139 (iv 139)) 140 (iv 140)) 142 (iv 142)) 143 (iv 143)) 144 (iv 144)) 145 (iv 145)) 146 (iv 146)) 147 (iv 147)) 148 (iv 148)) 149 (iv 149)) (by exact (((((((((((((pz_u1_self iv 2).symm).trans (pz_u1_self (pz_u1 iv 2 (iv 2)) 134).symm).trans (pz_u1_self (pz_u1 (pz_u1 iv 2 (iv 2)) 134 (iv 134)) 138).symm).trans (pz_u1_self (pz_u1 (pz_u1 (pz_u1 iv 2 (iv 2)) 134 (iv 134)) 138 (iv 138)) 139).symm).trans (pz_u1_self (pz_u1 (pz_u1 (pz_u1 (pz_u1 iv 2 (iv 2)) 134 (iv 134)) 138 (iv 138)) 139 (iv 139)) 140).symm).trans (pz_u1_self (pz_u1 (pz_u1 (pz_u1 (pz_u1 (pz_u1 iv 2 (iv 2)) 134 (iv 134)) 138 (iv 138)) 139 (iv 139)) 140 (iv 140)) 142).symm).trans (pz_u1_self (pz_u1 (pz_u1 (pz_u1 (pz_u1 (pz_u1 (pz_u1 iv 2 (iv 2)) 134 (iv 134)) 138 (iv 138)) 139 (iv 139)) 140 (iv 140)) 142 (iv 142)) 143).symm).trans (pz_u1_self (pz_u1 (pz_u1 (pz_u1 (pz_u1 (pz_u1 (pz_u1 (pz_u1 iv 2 (iv 2)) 134 (iv 134)) 138 (iv 138)) 139 (iv 139)) 140 (iv 140)) 142 (iv 142)) 143 (iv 143)) 144).symm).trans (pz_u1_self (pz_u1 (pz_u1 (pz_u1 (pz_u1 (pz_u1 (pz_u1 (pz_u1 (pz_u1 iv 2 (iv 2)) 134 (iv 134)) 138 (iv 138)) 139 (iv 139)) 140 (iv 140)) 142 (iv 142)) 143 (iv 143)) 144 (iv 144)) 145).symm).trans (pz_u1_self (pz_u1 (pz_u1 (pz_u1 (pz_u1 (pz_u1 (pz_u1 (pz_u1 (pz_u1 (pz_u1 iv 2 (iv 2)) 134 (iv 134)) 138 (iv 138)) 139 (iv 139)) 140 (iv 140)) 142 (iv 142)) 143 (iv 143)) 144 (iv 144)) 145 (iv 145)) 146).symm).trans (pz_u1_self (pz_u1 (pz_u1 (pz_u1 (pz_u1 (pz_u1 (pz_u1 (pz_u1 (pz_u1 (pz_u1 (pz_u1 iv 2 (iv 2)) 134 (iv 134)) 138 (iv 138)) 139 (iv 139)) 140 (iv 140)) 142 (iv 142)) 143 (iv 143)) 144 (iv 144)) 145 (iv 145)) 146 (iv 146)) 147).symm).trans (pz_u1_self (pz_u1 (pz_u1 (pz_u1 (pz_u1 (pz_u1 (pz_u1 (pz_u1 (pz_u1 (pz_u1 (pz_u1 (pz_u1 iv 2 (iv 2)) 134 (iv 134)) 138 (iv 138)) 139 (iv 139)) 140 (iv 140)) 142 (iv 142)) 143 (iv 143)) 144 (iv 144)) 145 (iv 145)) 146 (iv 146)) 147 (iv 147)) 148).symm).trans (pz_u1_self (pz_u1 (pz_u1 (pz_u1 (pz_u1 (pz_u1 (pz_u1 (pz_u1 (pz_u1 (pz_u1 (pz_u1 (pz_u1 (pz_u1 iv 2 (iv 2)) 134 (iv 134)) 138 (iv 138)) 139 (iv 139)) 140 (iv 140)) 142 (iv 142)) 143 (iv 143)) 144 (iv 144)) 145 (iv 145)) 146 (iv 146)) 147 (iv 147)) 148 (iv 148)) 149).symm) ?_
  show pz_G 148 0 [some (.inr (.inl 2)), some (.inl e)] [] (pz_Sh L, pz_u1 (pz_u1 (pz_u1 (pz_u1 (pz_u1 (pz_u1 (pz_u1 (pz_u1 (pz_u1 (pz_u1 (pz_u1 (pz_u1 (pz_u1 iv 2 (iv 2)) 134 (iv 134)) 138 (iv 138)) 139 (iv 139)) 140 (iv 140)) 142 (iv 142)) 143 (iv 143)) 144 (iv 144)) 145 (iv 145)) 146 (iv 146)) 147 (iv 147)) 148 (iv 148)) 149 (iv 149), dv, cc, ss) (pz_PE (pz_Sh L) (.inr 0) (fun iv9 => ∃ (o9 : Nat → Int) (l9 : Nat → Int) (n9 : Nat → Int) (w9 : Nat → Int) (d9 : Nat → Int) (m9 : Nat → Int) (V9 : Nat → Int) (W9 : Nat → Int) (U9 : Nat → Int) (Y9 : Nat → Int) (p9 : Nat → Int) (q9 : Nat → Int) (r9 : Nat → Int), iv9 = pz_u1 (pz_u1 (pz_u1 (pz_u1 (pz_u1 (pz_u1 (pz_u1 (pz_u1 (pz_u1 (pz_u1 (pz_u1 (pz_u1 (pz_u1 iv 2 o9) 134 l9) 138 n9) 139 w9) 140 d9) 142 m9) 143 V9) 144 W9) 145 U9) 146 Y9) 147 p9) 148 q9) 149 r9 ∧ (q_CI k o9 n9 w9 d9 m9 V9 U9 (iv 129) (iv 135)) ∧ (o9 2 = (iv 2) 2)) dv cc ss)
  refine pz_G_of pz_b148_0 ?_
  refine w_loc rfl ?_
  refine w_loc rfl ?_
  by_cases h1 : 0 ≤ e ∧ e < k 0
  · first
    | (exfalso; first | omega | contradiction)
    | (have hc2 : pz_R (pz_Sh L) 170 [.inr (.inl 2), .inl e] (pz_u1 (pz_u1 (pz_u1 (pz_u1 (pz_u1 (pz_u1 (pz_u1 (pz_u1 (pz_u1 (pz_u1 (pz_u1 (pz_u1 (pz_u1 iv 2 (iv 2)) 134 (iv 134)) 138 (iv 138)) 139 (iv 139)) 140 (iv 140)) 142 (iv 142)) 143 (iv 143)) 144 (iv 144)) 145 (iv 145)) 146 (iv 146)) 147 (iv 147)) 148 (iv 148)) 149 (iv 149)) (.inl none) (pz_u1 (pz_u1 (pz_u1 (pz_u1 (pz_u1 (pz_u1 (pz_u1 (pz_u1 (pz_u1 (pz_u1 (pz_u1 (pz_u1 (pz_u1 iv 2 (iv 2)) 134 (iv 134)) 138 (iv 138)) 139 (iv 139)) 140 (iv 140)) 142 (iv 142)) 143 (iv 143)) 144 (iv 144)) 145 (iv 145)) 146 (iv 146)) 147 (iv 147)) 148 (iv 148)) 149 (iv 149)) := s_X10_needEvent_y e (by show q_cE k (iv 3); exact hE) (by show 0 ≤ e ∧ e < k 0; exact h1)
       refine w_callv hc2 rfl (pz_cokI is_2 rfl) ?_
       refine w_loc rfl ?_
       refine w_getR (q := 3) is_2 rf_2_0 ?_
       refine w_getR (q := 15) is_3 rf_3_3 ?_
       refine w_loc rfl ?_
       have hc3 : pz_R (pz_Sh L) 26 [.inr (.inl 15), .inl e] (pz_u1 (pz_u1 (pz_u1 (pz_u1 (pz_u1 (pz_u1 (pz_u1 (pz_u1 (pz_u1 (pz_u1 (pz_u1 (pz_u1 (pz_u1 iv 2 (iv 2)) 134 (iv 134)) 138 (iv 138)) 139 (iv 139)) 140 (iv 140)) 142 (iv 142)) 143 (iv 143)) 144 (iv 144)) 145 (iv 145)) 146 (iv 146)) 147 (iv 147)) 148 (iv 148)) 149 (iv 149)) (.inl (some (.inl (pz_bi (q_sta k e))))) (pz_u1 (pz_u1 (pz_u1 (pz_u1 (pz_u1 (pz_u1 (pz_u1 (pz_u1 (pz_u1 (pz_u1 (pz_u1 (pz_u1 (pz_u1 iv 2 (iv 2)) 134 (iv 134)) 138 (iv 138)) 139 (iv 139)) 140 (iv 140)) 142 (iv 142)) 143 (iv 143)) 144 (iv 144)) 145 (iv 145)) 146 (iv 146)) 147 (iv 147)) 148 (iv 148)) 149 (iv 149)) := s_X2_hasStarted_15 e (by show q_KR k; exact hk) (by show q_cC k (iv 15) (iv 16); exact hC) (by show 0 ≤ e ∧ e ≤ 9; omega)
       refine w_call hc3 rfl (pz_cokI is_15 rfl) ?_
       refine w_bne (fun h4 => ?_) (fun h4 => ?_)
       · first
         | (exfalso; first | omega | contradiction)
         | (refine pz_G_of pz_b148_23 ?_
            refine w_pure rfl ?_
            refine w_nil ?_
            refine pz_G_of pz_b148_24 ?_
            have hc5 : pz_R (pz_Sh L) 173 [.inl 0] (pz_u1 (pz_u1 (pz_u1 (pz_u1 (pz_u1 (pz_u1 (pz_u1 (pz_u1 (pz_u1 (pz_u1 (pz_u1 (pz_u1 (pz_u1 iv 2 (iv 2)) 134 (iv 134)) 138 (iv 138)) 139 (iv 139)) 140 (iv 140)) 142 (iv 142)) 143 (iv 143)) 144 (iv 144)) 145 (iv 145)) 146 (iv 146)) 147 (iv 147)) 148 (iv 148)) 149 (iv 149)) (.inr 0) (pz_u1 (pz_u1 (pz_u1 (pz_u1 (pz_u1 (pz_u1 (pz_u1 (pz_u1 (pz_u1 (pz_u1 (pz_u1 (pz_u1 (pz_u1 iv 2 (iv 2)) 134 (iv 134)) 138 (iv 138)) 139 (iv 139)) 140 (iv 140)) 142 (iv 142)) 143 (iv 143)) 144 (iv 144)) 145 (iv 145)) 146 (iv 146)) 147 (iv 147)) 148 (iv 148)) 149 (iv 149)) := s_X10_needState_n 0 (by show 0 = 0; omega)
            refine w_calle hc5 rfl rfl rfl ?_
            first | exact ⟨pz_u1 (pz_u1 (pz_u1 (pz_u1 (pz_u1 (pz_u1 (pz_u1 (pz_u1 (pz_u1 (pz_u1 (pz_u1 (pz_u1 (pz_u1 iv 2 (iv 2)) 134 (iv 134)) 138 (iv 138)) 139 (iv 139)) 140 (iv 140)) 142 (iv 142)) 143 (iv 143)) 144 (iv 144)) 145 (iv 145)) 146 (iv 146)) 147 (iv 147)) 148 (iv 148)) 149 (iv 149), ⟨(iv 2), (iv 134), (iv 138), (iv 139), (iv 140), (iv 142), (iv 143), (iv 144), (iv 145), (iv 146), (iv 147), (iv 148), (iv 149), by rfl, by exact hci, by exact ho2⟩, lf_e (by rfl)⟩ | (exfalso; omega))
       · first
         | (exfalso; first | omega | contradiction)
         | (refine w_pure rfl ?_
            refine w_goto ?_
            refine pz_G_of pz_b148_24 ?_
            have hc6 : pz_R (pz_Sh L) 173 [.inl 1] (pz_u1 (pz_u1 (pz_u1 (pz_u1 (pz_u1 (pz_u1 (pz_u1 (pz_u1 (pz_u1 (pz_u1 (pz_u1 (pz_u1 (pz_u1 iv 2 (iv 2)) 134 (iv 134)) 138 (iv 138)) 139 (iv 139)) 140 (iv 140)) 142 (iv 142)) 143 (iv 143)) 144 (iv 144)) 145 (iv 145)) 146 (iv 146)) 147 (iv 147)) 148 (iv 148)) 149 (iv 149)) (.inl none) (pz_u1 (pz_u1 (pz_u1 (pz_u1 (pz_u1 (pz_u1 (pz_u1 (pz_u1 (pz_u1 (pz_u1 (pz_u1 (pz_u1 (pz_u1 iv 2 (iv 2)) 134 (iv 134)) 138 (iv 138)) 139 (iv 139)) 140 (iv 140)) 142 (iv 142)) 143 (iv 143)) 144 (iv 144)) 145 (iv 145)) 146 (iv 146)) 147 (iv 147)) 148 (iv 148)) 149 (iv 149)) := s_X10_needState_y 1 (by show 1 ≠ 0; omega)
            refine w_callv hc6 rfl rfl ?_
            refine w_loc rfl ?_
            by_cases h7 : q_sen k
            · first
              | (exfalso; first | omega | contradiction)
              | (have hc8 := s_X10_goodReductions_y (L := L) (iv := pz_u1 (pz_u1 (pz_u1 (pz_u1 (pz_u1 (pz_u1 (pz_u1 (pz_u1 (pz_u1 (pz_u1 (pz_u1 (pz_u1 (pz_u1 iv 2 (iv 2)) 134 (iv 134)) 138 (iv 138)) 139 (iv 139)) 140 (iv 140)) 142 (iv 142)) 143 (iv 143)) 144 (iv 144)) 145 (iv 145)) 146 (iv 146)) 147 (iv 147)) 148 (iv 148)) 149 (iv 149)) (by show q_KR k; exact hk) (by show q_cE k (iv 3); exact hE) (by show q_cB k (iv 4) (iv 5) (iv 6) (iv 7) (iv 8) (iv 9); exact hB) (by show q_cS k (iv 10) (iv 11) (iv 12) (iv 13) (iv 14); exact hS) (by show q_cC k (iv 15) (iv 16); exact hC) (by show q_cL k (iv 25); exact hL) (by show q_CI k (iv 2) (iv 138) (iv 139) (iv 140) (iv 142) (iv 143) (iv 145) (iv 129) (iv 135); exact hci) (by show q_sen k; exact h7)
                 refine w_callE hc8 rfl (pz_cokI is_2 rfl) (fun iv9 h9 => ?_)
                 obtain ⟨o9_9, l9_10, n9_11, w9_12, d9_13, m9_14, V9_15, W9_16, U9_17, Y9_18, p9_19, q9_20, r9_21, h9e, hci, hRK, ho2⟩ := h9
                 have h9x : iv9 = pz_u1 (pz_u1 (pz_u1 (pz_u1 (pz_u1 (pz_u1 (pz_u1 (pz_u1 (pz_u1 (pz_u1 (pz_u1 (pz_u1 (pz_u1 iv 2 o9_9) 134 l9_10) 138 n9_11) 139 w9_12) 140 d9_13) 142 m9_14) 143 V9_15) 144 W9_16) 145 U9_17) 146 Y9_18) 147 p9_19) 148 q9_20) 149 r9_21 := h9e.trans (by rw [pz_u1_in (r := 2) (q := 149) (by decide)]; rw [pz_u1_in (r := 2) (q := 148) (by decide)]; rw [pz_u1_in (r := 2) (q := 147) (by decide)]; rw [pz_u1_in (r := 2) (q := 146) (by decide)]; rw [pz_u1_in (r := 2) (q := 145) (by decide)]; rw [pz_u1_in (r := 2) (q := 144) (by decide)]; rw [pz_u1_in (r := 2) (q := 143) (by decide)]; rw [pz_u1_in (r := 2) (q := 142) (by decide)]; rw [pz_u1_in (r := 2) (q := 140) (by decide)]; rw [pz_u1_in (r := 2) (q := 139) (by decide)]; rw [pz_u1_in (r := 2) (q := 138) (by decide)]; rw [pz_u1_in (r := 2) (q := 134) (by decide)]; rw [pz_u1_top (r := 2)]; rw [pz_u1_in (r := 134) (q := 149) (by decide)]; rw [pz_u1_in (r := 134) (q := 148) (by decide)]; rw [pz_u1_in (r := 134) (q := 147) (by decide)]; rw [pz_u1_in (r := 134) (q := 146) (by decide)]; rw [pz_u1_in (r := 134) (q := 145) (by decide)]; rw [pz_u1_in (r := 134) (q := 144) (by decide)]; rw [pz_u1_in (r := 134) (q := 143) (by decide)]; rw [pz_u1_in (r := 134) (q := 142) (by decide)]; rw [pz_u1_in (r := 134) (q := 140) (by decide)]; rw [pz_u1_in (r := 134) (q := 139) (by decide)]; rw [pz_u1_in (r := 134) (q := 138) (by decide)]; rw [pz_u1_top (r := 134)]; rw [pz_u1_in (r := 138) (q := 149) (by decide)]; rw [pz_u1_in (r := 138) (q := 148) (by decide)]; rw [pz_u1_in (r := 138) (q := 147) (by decide)]; rw [pz_u1_in (r := 138) (q := 146) (by decide)]; rw [pz_u1_in (r := 138) (q := 145) (by decide)]; rw [pz_u1_in (r := 138) (q := 144) (by decide)]; rw [pz_u1_in (r := 138) (q := 143) (by decide)]; rw [pz_u1_in (r := 138) (q := 142) (by decide)]; rw [pz_u1_in (r := 138) (q := 140) (by decide)]; rw [pz_u1_in (r := 138) (q := 139) (by decide)]; rw [pz_u1_top (r := 138)]; rw [pz_u1_in (r := 139) (q := 149) (by decide)]; rw [pz_u1_in (r := 139) (q := 148) (by decide)]; rw [pz_u1_in (r := 139) (q := 147) (by decide)]; rw [pz_u1_in (r := 139) (q := 146) (by decide)]; rw [pz_u1_in (r := 139) (q := 145) (by decide)]; rw [pz_u1_in (r := 139) (q := 144) (by decide)]; rw [pz_u1_in (r := 139) (q := 143) (by decide)]; rw [pz_u1_in (r := 139) (q := 142) (by decide)]; rw [pz_u1_in (r := 139) (q := 140) (by decide)]; rw [pz_u1_top (r := 139)]; rw [pz_u1_in (r := 140) (q := 149) (by decide)]; rw [pz_u1_in (r := 140) (q := 148) (by decide)]; rw [pz_u1_in (r := 140) (q := 147) (by decide)]; rw [pz_u1_in (r := 140) (q := 146) (by decide)]; rw [pz_u1_in (r := 140) (q := 145) (by decide)]; rw [pz_u1_in (r := 140) (q := 144) (by decide)]; rw [pz_u1_in (r := 140) (q := 143) (by decide)]; rw [pz_u1_in (r := 140) (q := 142) (by decide)]; rw [pz_u1_top (r := 140)]; rw [pz_u1_in (r := 142) (q := 149) (by decide)]; rw [pz_u1_in (r := 142) (q := 148) (by decide)]; rw [pz_u1_in (r := 142) (q := 147) (by decide)]; rw [pz_u1_in (r := 142) (q := 146) (by decide)]; rw [pz_u1_in (r := 142) (q := 145) (by decide)]; rw [pz_u1_in (r := 142) (q := 144) (by decide)]; rw [pz_u1_in (r := 142) (q := 143) (by decide)]; rw [pz_u1_top (r := 142)]; rw [pz_u1_in (r := 143) (q := 149) (by decide)]; rw [pz_u1_in (r := 143) (q := 148) (by decide)]; rw [pz_u1_in (r := 143) (q := 147) (by decide)]; rw [pz_u1_in (r := 143) (q := 146) (by decide)]; rw [pz_u1_in (r := 143) (q := 145) (by decide)]; rw [pz_u1_in (r := 143) (q := 144) (by decide)]; rw [pz_u1_top (r := 143)]; rw [pz_u1_in (r := 144) (q := 149) (by decide)]; rw [pz_u1_in (r := 144) (q := 148) (by decide)]; rw [pz_u1_in (r := 144) (q := 147) (by decide)]; rw [pz_u1_in (r := 144) (q := 146) (by decide)]; rw [pz_u1_in (r := 144) (q := 145) (by decide)]; rw [pz_u1_top (r := 144)]; rw [pz_u1_in (r := 145) (q := 149) (by decide)]; rw [pz_u1_in (r := 145) (q := 148) (by decide)]; rw [pz_u1_in (r := 145) (q := 147) (by decide)]; rw [pz_u1_in (r := 145) (q := 146) (by decide)]; rw [pz_u1_top (r := 145)]; rw [pz_u1_in (r := 146) (q := 149) (by decide)]; rw [pz_u1_in (r := 146) (q := 148) (by decide)]; rw [pz_u1_in (r := 146) (q := 147) (by decide)]; rw [pz_u1_top (r := 146)]; rw [pz_u1_in (r := 147) (q := 149) (by decide)]; rw [pz_u1_in (r := 147) (q := 148) (by decide)]; rw [pz_u1_top (r := 147)]; rw [pz_u1_in (r := 148) (q := 149) (by decide)]; rw [pz_u1_top (r := 148)]; rw [pz_u1_top (r := 149)] <;> rfl)
                 subst h9x
                 replace hci : q_CI k o9_9 n9_11 w9_12 d9_13 m9_14 V9_15 U9_17 (iv 129) (iv 135) := hci
                 replace hRK : q_RK k m9_14 V9_15 U9_17 := hRK
                 replace ho2 : o9_9 2 = (iv 2) 2 := ho2
                 refine w_loc rfl ?_
                 refine w_loc rfl ?_
                 refine w_getR (q := 3) is_2 rf_2_0 ?_
                 refine w_getR (q := 15) is_3 rf_3_3 ?_
                 have hc22 : pz_R (pz_Sh L) 103 [.inr (.inl 142), .inl e, .inr (.inl 15)] (pz_u1 (pz_u1 (pz_u1 (pz_u1 (pz_u1 (pz_u1 (pz_u1 (pz_u1 (pz_u1 (pz_u1 (pz_u1 (pz_u1 (pz_u1 iv 2 o9_9) 134 l9_10) 138 n9_11) 139 w9_12) 140 d9_13) 142 m9_14) 143 V9_15) 144 W9_16) 145 U9_17) 146 Y9_18) 147 p9_19) 148 q9_20) 149 r9_21) (.inl (some (.inl (q_lo (q_val k) (q_ka k) k e)))) (pz_u1 (pz_u1 (pz_u1 (pz_u1 (pz_u1 (pz_u1 (pz_u1 (pz_u1 (pz_u1 (pz_u1 (pz_u1 (pz_u1 (pz_u1 iv 2 o9_9) 134 l9_10) 138 n9_11) 139 w9_12) 140 d9_13) 142 m9_14) 143 V9_15) 144 W9_16) 145 U9_17) 146 Y9_18) 147 p9_19) 148 q9_20) 149 r9_21) := s_X8_windowLow_15 e (by show q_KR k; exact hk) (by show q_cE k (iv 3); exact hE) (by show q_cC k (iv 15) (iv 16); exact hC) (by show q_VU k (q_val k) V9_15 U9_17; exact hRK.2.2 (by assumption)) (by show q_vb (q_val k); exact q_vb_val hk (by assumption)) (by show 0 ≤ e ∧ e < k 0; omega)
                 refine w_call hc22 rfl (pz_cokI is_142 rfl) ?_
                 refine w_ret rfl ?_
                 first | exact ⟨pz_u1 (pz_u1 (pz_u1 (pz_u1 (pz_u1 (pz_u1 (pz_u1 (pz_u1 (pz_u1 (pz_u1 (pz_u1 (pz_u1 (pz_u1 iv 2 o9_9) 134 l9_10) 138 n9_11) 139 w9_12) 140 d9_13) 142 m9_14) 143 V9_15) 144 W9_16) 145 U9_17) 146 Y9_18) 147 p9_19) 148 q9_20) 149 r9_21, ⟨o9_9, l9_10, n9_11, w9_12, d9_13, m9_14, V9_15, W9_16, U9_17, Y9_18, p9_19, q9_20, r9_21, by rfl, by exact hci, by exact ho2⟩, lf_i (by first | rfl | omega) (by rfl)⟩ | (exfalso; omega))
            · first
              | (exfalso; first | omega | contradiction)
              | (have hc23 := s_X10_goodReductions_n (L := L) (iv := pz_u1 (pz_u1 (pz_u1 (pz_u1 (pz_u1 (pz_u1 (pz_u1 (pz_u1 (pz_u1 (pz_u1 (pz_u1 (pz_u1 (pz_u1 iv 2 (iv 2)) 134 (iv 134)) 138 (iv 138)) 139 (iv 139)) 140 (iv 140)) 142 (iv 142)) 143 (iv 143)) 144 (iv 144)) 145 (iv 145)) 146 (iv 146)) 147 (iv 147)) 148 (iv 148)) 149 (iv 149)) (by show q_KR k; exact hk) (by show q_cE k (iv 3); exact hE) (by show q_cB k (iv 4) (iv 5) (iv 6) (iv 7) (iv 8) (iv 9); exact hB) (by show q_cS k (iv 10) (iv 11) (iv 12) (iv 13) (iv 14); exact hS) (by show q_cC k (iv 15) (iv 16); exact hC) (by show q_cL k (iv 25); exact hL) (by show q_CI k (iv 2) (iv 138) (iv 139) (iv 140) (iv 142) (iv 143) (iv 145) (iv 129) (iv 135); exact hci) (by show ¬ q_sen k; exact h7)
                 refine w_calleE hc23 rfl (pz_cokI is_2 rfl) rfl (fun iv9 h9 => ?_)
                 obtain ⟨o9_24, l9_25, n9_26, w9_27, d9_28, m9_29, V9_30, W9_31, U9_32, Y9_33, p9_34, q9_35, r9_36, h9e, hci, ho2⟩ := h9
                 have h9x : iv9 = pz_u1 (pz_u1 (pz_u1 (pz_u1 (pz_u1 (pz_u1 (pz_u1 (pz_u1 (pz_u1 (pz_u1 (pz_u1 (pz_u1 (pz_u1 iv 2 o9_24) 134 l9_25) 138 n9_26) 139 w9_27) 140 d9_28) 142 m9_29) 143 V9_30) 144 W9_31) 145 U9_32) 146 Y9_33) 147 p9_34) 148 q9_35) 149 r9_36 := h9e.trans (by rw [pz_u1_in (r := 2) (q := 149) (by decide)]; rw [pz_u1_in (r := 2) (q := 148) (by decide)]; rw [pz_u1_in (r := 2) (q := 147) (by decide)]; rw [pz_u1_in (r := 2) (q := 146) (by decide)]; rw [pz_u1_in (r := 2) (q := 145) (by decide)]; rw [pz_u1_in (r := 2) (q := 144) (by decide)]; rw [pz_u1_in (r := 2) (q := 143) (by decide)]; rw [pz_u1_in (r := 2) (q := 142) (by decide)]; rw [pz_u1_in (r := 2) (q := 140) (by decide)]; rw [pz_u1_in (r := 2) (q := 139) (by decide)]; rw [pz_u1_in (r := 2) (q := 138) (by decide)]; rw [pz_u1_in (r := 2) (q := 134) (by decide)]; rw [pz_u1_top (r := 2)]; rw [pz_u1_in (r := 134) (q := 149) (by decide)]; rw [pz_u1_in (r := 134) (q := 148) (by decide)]; rw [pz_u1_in (r := 134) (q := 147) (by decide)]; rw [pz_u1_in (r := 134) (q := 146) (by decide)]; rw [pz_u1_in (r := 134) (q := 145) (by decide)]; rw [pz_u1_in (r := 134) (q := 144) (by decide)]; rw [pz_u1_in (r := 134) (q := 143) (by decide)]; rw [pz_u1_in (r := 134) (q := 142) (by decide)]; rw [pz_u1_in (r := 134) (q := 140) (by decide)]; rw [pz_u1_in (r := 134) (q := 139) (by decide)]; rw [pz_u1_in (r := 134) (q := 138) (by decide)]; rw [pz_u1_top (r := 134)]; rw [pz_u1_in (r := 138) (q := 149) (by decide)]; rw [pz_u1_in (r := 138) (q := 148) (by decide)]; rw [pz_u1_in (r := 138) (q := 147) (by decide)]; rw [pz_u1_in (r := 138) (q := 146) (by decide)]; rw [pz_u1_in (r := 138) (q := 145) (by decide)]; rw [pz_u1_in (r := 138) (q := 144) (by decide)]; rw [pz_u1_in (r := 138) (q := 143) (by decide)]; rw [pz_u1_in (r := 138) (q := 142) (by decide)]; rw [pz_u1_in (r := 138) (q := 140) (by decide)]; rw [pz_u1_in (r := 138) (q := 139) (by decide)]; rw [pz_u1_top (r := 138)]; rw [pz_u1_in (r := 139) (q := 149) (by decide)]; rw [pz_u1_in (r := 139) (q := 148) (by decide)]; rw [pz_u1_in (r := 139) (q := 147) (by decide)]; rw [pz_u1_in (r := 139) (q := 146) (by decide)]; rw [pz_u1_in (r := 139) (q := 145) (by decide)]; rw [pz_u1_in (r := 139) (q := 144) (by decide)]; rw [pz_u1_in (r := 139) (q := 143) (by decide)]; rw [pz_u1_in (r := 139) (q := 142) (by decide)]; rw [pz_u1_in (r := 139) (q := 140) (by decide)]; rw [pz_u1_top (r := 139)]; rw [pz_u1_in (r := 140) (q := 149) (by decide)]; rw [pz_u1_in (r := 140) (q := 148) (by decide)]; rw [pz_u1_in (r := 140) (q := 147) (by decide)]; rw [pz_u1_in (r := 140) (q := 146) (by decide)]; rw [pz_u1_in (r := 140) (q := 145) (by decide)]; rw [pz_u1_in (r := 140) (q := 144) (by decide)]; rw [pz_u1_in (r := 140) (q := 143) (by decide)]; rw [pz_u1_in (r := 140) (q := 142) (by decide)]; rw [pz_u1_top (r := 140)]; rw [pz_u1_in (r := 142) (q := 149) (by decide)]; rw [pz_u1_in (r := 142) (q := 148) (by decide)]; rw [pz_u1_in (r := 142) (q := 147) (by decide)]; rw [pz_u1_in (r := 142) (q := 146) (by decide)]; rw [pz_u1_in (r := 142) (q := 145) (by decide)]; rw [pz_u1_in (r := 142) (q := 144) (by decide)]; rw [pz_u1_in (r := 142) (q := 143) (by decide)]; rw [pz_u1_top (r := 142)]; rw [pz_u1_in (r := 143) (q := 149) (by decide)]; rw [pz_u1_in (r := 143) (q := 148) (by decide)]; rw [pz_u1_in (r := 143) (q := 147) (by decide)]; rw [pz_u1_in (r := 143) (q := 146) (by decide)]; rw [pz_u1_in (r := 143) (q := 145) (by decide)]; rw [pz_u1_in (r := 143) (q := 144) (by decide)]; rw [pz_u1_top (r := 143)]; rw [pz_u1_in (r := 144) (q := 149) (by decide)]; rw [pz_u1_in (r := 144) (q := 148) (by decide)]; rw [pz_u1_in (r := 144) (q := 147) (by decide)]; rw [pz_u1_in (r := 144) (q := 146) (by decide)]; rw [pz_u1_in (r := 144) (q := 145) (by decide)]; rw [pz_u1_top (r := 144)]; rw [pz_u1_in (r := 145) (q := 149) (by decide)]; rw [pz_u1_in (r := 145) (q := 148) (by decide)]; rw [pz_u1_in (r := 145) (q := 147) (by decide)]; rw [pz_u1_in (r := 145) (q := 146) (by decide)]; rw [pz_u1_top (r := 145)]; rw [pz_u1_in (r := 146) (q := 149) (by decide)]; rw [pz_u1_in (r := 146) (q := 148) (by decide)]; rw [pz_u1_in (r := 146) (q := 147) (by decide)]; rw [pz_u1_top (r := 146)]; rw [pz_u1_in (r := 147) (q := 149) (by decide)]; rw [pz_u1_in (r := 147) (q := 148) (by decide)]; rw [pz_u1_top (r := 147)]; rw [pz_u1_in (r := 148) (q := 149) (by decide)]; rw [pz_u1_top (r := 148)]; rw [pz_u1_top (r := 149)] <;> rfl)
                 subst h9x
                 replace hci : q_CI k o9_24 n9_26 w9_27 d9_28 m9_29 V9_30 U9_32 (iv 129) (iv 135) := hci
                 replace ho2 : o9_24 2 = (iv 2) 2 := ho2
                 first | exact ⟨pz_u1 (pz_u1 (pz_u1 (pz_u1 (pz_u1 (pz_u1 (pz_u1 (pz_u1 (pz_u1 (pz_u1 (pz_u1 (pz_u1 (pz_u1 iv 2 o9_24) 134 l9_25) 138 n9_26) 139 w9_27) 140 d9_28) 142 m9_29) 143 V9_30) 144 W9_31) 145 U9_32) 146 Y9_33) 147 p9_34) 148 q9_35) 149 r9_36, ⟨o9_24, l9_25, n9_26, w9_27, d9_28, m9_29, V9_30, W9_31, U9_32, Y9_33, p9_34, q9_35, r9_36, by rfl, by exact hci, by exact ho2⟩, lf_e (by rfl)⟩ | (exfalso; omega))))
  · first
    | (exfalso; first | omega | contradiction)
    | (have hc37 : pz_R (pz_Sh L) 170 [.inr (.inl 2), .inl e] (pz_u1 (pz_u1 (pz_u1 (pz_u1 (pz_u1 (pz_u1 (pz_u1 (pz_u1 (pz_u1 (pz_u1 (pz_u1 (pz_u1 (pz_u1 iv 2 (iv 2)) 134 (iv 134)) 138 (iv 138)) 139 (iv 139)) 140 (iv 140)) 142 (iv 142)) 143 (iv 143)) 144 (iv 144)) 145 (iv 145)) 146 (iv 146)) 147 (iv 147)) 148 (iv 148)) 149 (iv 149)) (.inr 2) (pz_u1 (pz_u1 (pz_u1 (pz_u1 (pz_u1 (pz_u1 (pz_u1 (pz_u1 (pz_u1 (pz_u1 (pz_u1 (pz_u1 (pz_u1 iv 2 (iv 2)) 134 (iv 134)) 138 (iv 138)) 139 (iv 139)) 140 (iv 140)) 142 (iv 142)) 143 (iv 143)) 144 (iv 144)) 145 (iv 145)) 146 (iv 146)) 147 (iv 147)) 148 (iv 148)) 149 (iv 149)) := s_X10_needEvent_n e (by show q_cE k (iv 3); exact hE) (by show ¬ (0 ≤ e ∧ e < k 0); exact h1)
       refine w_calle hc37 rfl (pz_cokI is_2 rfl) rfl ?_
       first | exact ⟨pz_u1 (pz_u1 (pz_u1 (pz_u1 (pz_u1 (pz_u1 (pz_u1 (pz_u1 (pz_u1 (pz_u1 (pz_u1 (pz_u1 (pz_u1 iv 2 (iv 2)) 134 (iv 134)) 138 (iv 138)) 139 (iv 139)) 140 (iv 140)) 142 (iv 142)) 143 (iv 143)) 144 (iv 144)) 145 (iv 145)) 146 (iv 146)) 147 (iv 147)) 148 (iv 148)) 149 (iv 149), ⟨(iv 2), (iv 134), (iv 138), (iv 139), (iv 140), (iv 142), (iv 143), (iv 144), (iv 145), (iv 146), (iv 147), (iv 148), (iv 149), by rfl, by exact hci, by exact ho2⟩, lf_e (by rfl)⟩ | (exfalso; omega))

theorem s_X10_lowest_0 {L : Nat} {iv : Nat → Nat → Int} (e : Int) {k : Nat → Int} (hk : q_KR k) (hE : q_cE k (iv 3)) (hB : q_cB k (iv 4) (iv 5) (iv 6) (iv 7) (iv 8) (iv 9)) (hS : q_cS k (iv 10) (iv 11) (iv 12) (iv 13) (iv 14)) (hC : q_cC k (iv 15) (iv 16)) (hA : q_cA k (iv 17) (iv 18) (iv 19) (iv 20)) (hO : q_cO k (iv 22) (iv 23) (iv 24)) (hL : q_cL k (iv 25)) (hP : q_cP k (iv 27)) (hci : q_CI k (iv 2) (iv 138) (iv 139) (iv 140) (iv 142) (iv 143) (iv 145) (iv 129) (iv 135)) (hcase0 : 0 ≤ e ∧ e ≤ k 0 - 1) (hcase1 : ¬ q_sta k e) (hcase2 : q_sen k) : pz_RE (pz_Sh L) 148 [.inr (.inl 2), .inl e] iv (.inl (some (.inl (q_lo (q_val k) (q_ka k) k e)))) (fun iv9 => ∃ (o9 : Nat → Int) (l9 : Nat → Int) (n9 : Nat → Int) (w9 : Nat → Int) (d9 : Nat → Int) (m9 : Nat → Int) (V9 : Nat → Int) (W9 : Nat → Int) (U9 : Nat → Int) (Y9 : Nat → Int) (p9 : Nat → Int) (q9 : Nat → Int) (r9 : Nat → Int), iv9 = pz_u1 (pz_u1 (pz_u1 (pz_u1 (pz_u1 (pz_u1 (pz_u1 (pz_u1 (pz_u1 (pz_u1 (pz_u1 (pz_u1 (pz_u1 iv 2 o9) 134 l9) 138 n9) 139 w9) 140 d9) 142 m9) 143 V9) 144 W9) 145 U9) 146 Y9) 147 p9) 148 q9) 149 r9 ∧ (q_CI k o9 n9 w9 d9 m9 V9 U9 (iv 129) (iv 135)) ∧ (o9 2 = (iv 2) 2)) := by
  intro dv cc ss
  have hk0 := hk.r0
  have hE0 := hE
  have hB0 := hB.1
  have hS0 := hS.1
  have hC0 := hC.1
  have hA0 := hA.1
  refine pz_G_mem (iv2 := pz_u1 (pz_u1 (pz_u1 (pz_u1 (pz_u1 (pz_u1 (pz_u1 (pz_u1 (pz_u1 (pz_u1 (pz_u1 (pz_u1 (pz_u1 iv 2 (iv 2)) 134 (iv 134)) 138 (iv 138)) 139 (iv 139)) 140 (iv 140)) 142 (iv 142)) 143 (iv 143)) 144 (iv 144)) 145 (iv 145)) 146 (iv 146)) 147 (iv 147)) 148 (iv 148)) 149 (iv 149)) (by exact (((((((((((((pz_u1_self iv 2).symm).trans (pz_u1_self (pz_u1 iv 2 (iv 2)) 134).symm).trans (pz_u1_self (pz_u1 (pz_u1 iv 2 (iv 2)) 134 (iv 134)) 138).symm).trans (pz_u1_self (pz_u1 (pz_u1 (pz_u1 iv 2 (iv 2)) 134 (iv 134)) 138 (iv 138)) 139).symm).trans (pz_u1_self (pz_u1 (pz_u1 (pz_u1 (pz_u1 iv 2 (iv 2)) 134 (iv 134)) 138 (iv 138)) 139 (iv 139)) 140).symm).trans (pz_u1_self (pz_u1 (pz_u1 (pz_u1 (pz_u1 (pz_u1 iv 2 (iv 2)) 134 (iv 134)) 138 (iv 138)) 139 (iv 139)) 140 (iv 140)) 142).symm).trans (pz_u1_self (pz_u1 (pz_u1 (pz_u1 (pz_u1 (pz_u1 (pz_u1 iv 2 (iv 2)) 134 (iv 134)) 138 (iv 138)) 139 (iv 139)) 140 (iv 140)) 142 (iv 142)) 143).symm).trans (pz_u1_self (pz_u1 (pz_u1 (pz_u1 (pz_u1 (pz_u1 (pz_u1 (pz_u1 iv 2 (iv 2)) 134 (iv 134)) 138 (iv 138)) 139 (iv 139)) 140 (iv 140)) 142 (iv 142)) 143 (iv 143)) 144).symm).trans (pz_u1_self (pz_u1 (pz_u1 (pz_u1 (pz_u1 (pz_u1 (pz_u1 (pz_u1 (pz_u1 iv 2 (iv 2)) 134 (iv 134)) 138 (iv 138)) 139 (iv 139)) 140 (iv 140)) 142 (iv 142)) 143 (iv 143)) 144 (iv 144)) 145).symm).trans (pz_u1_self (pz_u1 (pz_u1 (pz_u1 (pz_u1 (pz_u1 (pz_u1 (pz_u1 (pz_u1 (pz_u1 iv 2 (iv 2)) 134 (iv 134)) 138 (iv 138)) 139 (iv 139)) 140 (iv 140)) 142 (iv 142)) 143 (iv 143)) 144 (iv 144)) 145 (iv 145)) 146).symm).trans (pz_u1_self (pz_u1 (pz_u1 (pz_u1 (pz_u1 (pz_u1 (pz_u1 (pz_u1 (pz_u1 (pz_u1 (pz_u1 iv 2 (iv 2)) 134 (iv 134)) 138 (iv 138)) 139 (iv 139)) 140 (iv 140)) 142 (iv 142)) 143 (iv 143)) 144 (iv 144)) 145 (iv 145)) 146 (iv 146)) 147).symm).trans (pz_u1_self (pz_u1 (pz_u1 (pz_u1 (pz_u1 (pz_u1 (pz_u1 (pz_u1 (pz_u1 (pz_u1 (pz_u1 (pz_u1 iv 2 (iv 2)) 134 (iv 134)) 138 (iv 138)) 139 (iv 139)) 140 (iv 140)) 142 (iv 142)) 143 (iv 143)) 144 (iv 144)) 145 (iv 145)) 146 (iv 146)) 147 (iv 147)) 148).symm).trans (pz_u1_self (pz_u1 (pz_u1 (pz_u1 (pz_u1 (pz_u1 (pz_u1 (pz_u1 (pz_u1 (pz_u1 (pz_u1 (pz_u1 (pz_u1 iv 2 (iv 2)) 134 (iv 134)) 138 (iv 138)) 139 (iv 139)) 140 (iv 140)) 142 (iv 142)) 143 (iv 143)) 144 (iv 144)) 145 (iv 145)) 146 (iv 146)) 147 (iv 147)) 148 (iv 148)) 149).symm) ?_
  show pz_G 148 0 [some (.inr (.inl 2)), some (.inl e)] [] (pz_Sh L, pz_u1 (pz_u1 (pz_u1 (pz_u1 (pz_u1 (pz_u1 (pz_u1 (pz_u1 (pz_u1 (pz_u1 (pz_u1 (pz_u1 (pz_u1 iv 2 (iv 2)) 134 (iv 134)) 138 (iv 138)) 139 (iv 139)) 140 (iv 140)) 142 (iv 142)) 143 (iv 143)) 144 (iv 144)) 145 (iv 145)) 146 (iv 146)) 147 (iv 147)) 148 (iv 148)) 149 (iv 149), dv, cc, ss) (pz_PE (pz_Sh L) (.inl (some (.inl (q_lo (q_val k) (q_ka k) k e)))) (fun iv9 => ∃ (o9 : Nat → Int) (l9 : Nat → Int) (n9 : Nat → Int) (w9 : Nat → Int) (d9 : Nat → Int) (m9 : Nat → Int) (V9 : Nat → Int) (W9 : Nat → Int) (U9 : Nat → Int) (Y9 : Nat → Int) (p9 : Nat → Int) (q9 : Nat → Int) (r9 : Nat → Int), iv9 = pz_u1 (pz_u1 (pz_u1 (pz_u1 (pz_u1 (pz_u1 (pz_u1 (pz_u1 (pz_u1 (pz_u1 (pz_u1 (pz_u1 (pz_u1 iv 2 o9) 134 l9) 138 n9) 139 w9) 140 d9) 142 m9) 143 V9) 144 W9) 145 U9) 146 Y9) 147 p9) 148 q9) 149 r9 ∧ (q_CI k o9 n9 w9 d9 m9 V9 U9 (iv 129) (iv 135)) ∧ (o9 2 = (iv 2) 2)) dv cc ss)
  refine pz_G_of pz_b148_0 ?_
  refine w_loc rfl ?_
  refine w_loc rfl ?_
  by_cases h1 : 0 ≤ e ∧ e < k 0
  · first
    | (exfalso; first | omega | contradiction)
    | (have hc2 : pz_R (pz_Sh L) 170 [.inr (.inl 2), .inl e] (pz_u1 (pz_u1 (pz_u1 (pz_u1 (pz_u1 (pz_u1 (pz_u1 (pz_u1 (pz_u1 (pz_u1 (pz_u1 (pz_u1 (pz_u1 iv 2 (iv 2)) 134 (iv 134)) 138 (iv 138)) 139 (iv 139)) 140 (iv 140)) 142 (iv 142)) 143 (iv 143)) 144 (iv 144)) 145 (iv 145)) 146 (iv 146)) 147 (iv 147)) 148 (iv 148)) 149 (iv 149)) (.inl none) (pz_u1 (pz_u1 (pz_u1 (pz_u1 (pz_u1 (pz_u1 (pz_u1 (pz_u1 (pz_u1 (pz_u1 (pz_u1 (pz_u1 (pz_u1 iv 2 (iv 2)) 134 (iv 134)) 138 (iv 138)) 139 (iv 139)) 140 (iv 140)) 142 (iv 142)) 143 (iv 143)) 144 (iv 144)) 145 (iv 145)) 146 (iv 146)) 147 (iv 147)) 148 (iv 148)) 149 (iv 149)) := s_X10_needEvent_y e (by show q_cE k (iv 3); exact hE) (by show 0 ≤ e ∧ e < k 0; exact h1)
       refine w_callv hc2 rfl (pz_cokI is_2 rfl) ?_
       refine w_loc rfl ?_
       refine w_getR (q := 3) is_2 rf_2_0 ?_
       refine w_getR (q := 15) is_3 rf_3_3 ?_
       refine w_loc rfl ?_
       have hc3 : pz_R (pz_Sh L) 26 [.inr (.inl 15), .inl e] (pz_u1 (pz_u1 (pz_u1 (pz_u1 (pz_u1 (pz_u1 (pz_u1 (pz_u1 (pz_u1 (pz_u1 (pz_u1 (pz_u1 (pz_u1 iv 2 (iv 2)) 134 (iv 134)) 138 (iv 138)) 139 (iv 139)) 140 (iv 140)) 142 (iv 142)) 143 (iv 143)) 144 (iv 144)) 145 (iv 145)) 146 (iv 146)) 147 (iv 147)) 148 (iv 148)) 149 (iv 149)) (.inl (some (.inl (pz_bi (q_sta k e))))) (pz_u1 (pz_u1 (pz_u1 (pz_u1 (pz_u1 (pz_u1 (pz_u1 (pz_u1 (pz_u1 (pz_u1 (pz_u1 (pz_u1 (pz_u1 iv 2 (iv 2)) 134 (iv 134)) 138 (iv 138)) 139 (iv 139)) 140 (iv 140)) 142 (iv 142)) 143 (iv 143)) 144 (iv 144)) 145 (iv 145)) 146 (iv 146)) 147 (iv 147)) 148 (iv 148)) 149 (iv 149)) := s_X2_hasStarted_15 e (by show q_KR k; exact hk) (by show q_cC k (iv 15) (iv 16); exact hC) (by show 0 ≤ e ∧ e ≤ 9; omega)
       refine w_call hc3 rfl (pz_cokI is_15 rfl) ?_
       refine w_bne (fun h4 => ?_) (fun h4 => ?_)
       · first
         | (exfalso; first | omega | contradiction)
         | (refine pz_G_of pz_b148_23 ?_
            refine w_pure rfl ?_
            refine w_nil ?_
            refine pz_G_of pz_b148_24 ?_
            have hc5 : pz_R (pz_Sh L) 173 [.inl 0] (pz_u1 (pz_u1 (pz_u1 (pz_u1 (pz_u1 (pz_u1 (pz_u1 (pz_u1 (pz_u1 (pz_u1 (pz_u1 (pz_u1 (pz_u1 iv 2 (iv 2)) 134 (iv 134)) 138 (iv 138)) 139 (iv 139)) 140 (iv 140)) 142 (iv 142)) 143 (iv 143)) 144 (iv 144)) 145 (iv 145)) 146 (iv 146)) 147 (iv 147)) 148 (iv 148)) 149 (iv 149)) (.inr 0) (pz_u1 (pz_u1 (pz_u1 (pz_u1 (pz_u1 (pz_u1 (pz_u1 (pz_u1 (pz_u1 (pz_u1 (pz_u1 (pz_u1 (pz_u1 iv 2 (iv 2)) 134 (iv 134)) 138 (iv 138)) 139 (iv 139)) 140 (iv 140)) 142 (iv 142)) 143 (iv 143)) 144 (iv 144)) 145 (iv 145)) 146 (iv 146)) 147 (iv 147)) 148 (iv 148)) 149 (iv 149)) := s_X10_needState_n 0 (by show 0 = 0; omega)
            refine w_calle hc5 rfl rfl rfl ?_
            first | exact ⟨pz_u1 (pz_u1 (pz_u1 (pz_u1 (pz_u1 (pz_u1 (pz_u1 (pz_u1 (pz_u1 (pz_u1 (pz_u1 (pz_u1 (pz_u1 iv 2 (iv 2)) 134 (iv 134)) 138 (iv 138)) 139 (iv 139)) 140 (iv 140)) 142 (iv 142)) 143 (iv 143)) 144 (iv 144)) 145 (iv 145)) 146 (iv 146)) 147 (iv 147)) 148 (iv 148)) 149 (iv 149), ⟨(iv 2), (iv 134), (iv 138), (iv 139), (iv 140), (iv 142), (iv 143), (iv 144), (iv 145), (iv 146), (iv 147), (iv 148), (iv 149), by rfl, by exact hci, by exact ho2⟩, lf_e (by rfl)⟩ | (exfalso; omega))
       · first
         | (exfalso; first | omega | contradiction)
         | (refine w_pure rfl ?_
            refine w_goto ?_
            refine pz_G_of pz_b148_24 ?_
            have hc6 : pz_R (pz_Sh L) 173 [.inl 1] (pz_u1 (pz_u1 (pz_u1 (pz_u1 (pz_u1 (pz_u1 (pz_u1 (pz_u1 (pz_u1 (pz_u1 (pz_u1 (pz_u1 (pz_u1 iv 2 (iv 2)) 134 (iv 134)) 138 (iv 138)) 139 (iv 139)) 140 (iv 140)) 142 (iv 142)) 143 (iv 143)) 144 (iv 144)) 145 (iv 145)) 146 (iv 146)) 147 (iv 147)) 148 (iv 148)) 149 (iv 149)) (.inl none) (pz_u1 (pz_u1 (pz_u1 (pz_u1 (pz_u1 (pz_u1 (pz_u1 (pz_u1 (pz_u1 (pz_u1 (pz_u1 (pz_u1 (pz_u1 iv 2 (iv 2)) 134 (iv 134)) 138 (iv 138)) 139 (iv 139)) 140 (iv 140)) 142 (iv 142)) 143 (iv 143)) 144 (iv 144)) 145 (iv 145)) 146 (iv 146)) 147 (iv 147)) 148 (iv 148)) 149 (iv 149)) := s_X10_needState_y 1 (by show 1 ≠ 0; omega)
            refine w_callv hc6 rfl rfl ?_
            refine w_loc rfl ?_
            by_cases h7 : q_sen k
            · first
              | (exfalso; first | omega | contradiction)
              | (have hc8 := s_X10_goodReductions_y (L := L) (iv := pz_u1 (pz_u1 (pz_u1 (pz_u1 (pz_u1 (pz_u1 (pz_u1 (pz_u1 (pz_u1 (pz_u1 (pz_u1 (pz_u1 (pz_u1 iv 2 (iv 2)) 134 (iv 134)) 138 (iv 138)) 139 (iv 139)) 140 (iv 140)) 142 (iv 142)) 143 (iv 143)) 144 (iv 144)) 145 (iv 145)) 146 (iv 146)) 147 (iv 147)) 148 (iv 148)) 149 (iv 149)) (by show q_KR k; exact hk) (by show q_cE k (iv 3); exact hE) (by show q_cB k (iv 4) (iv 5) (iv 6) (iv 7) (iv 8) (iv 9); exact hB) (by show q_cS k (iv 10) (iv 11) (iv 12) (iv 13) (iv 14); exact hS) (by show q_cC k (iv 15) (iv 16); exact hC) (by show q_cL k (iv 25); exact hL) (by show q_CI k (iv 2) (iv 138) (iv 139) (iv 140) (iv 142) (iv 143) (iv 145) (iv 129) (iv 135); exact hci) (by show q_sen k; exact h7)
                 refine w_callE hc8 rfl (pz_cokI is_2 rfl) (fun iv9 h9 => ?_)
                 obtain ⟨o9_9, l9_10, n9_11, w9_12, d9_13, m9_14, V9_15, W9_16, U9_17, Y9_18, p9_19, q9_20, r9_21, h9e, hci, hRK, ho2⟩ := h9
                 have h9x : iv9 = pz_u1 (pz_u1 (pz_u1 (pz_u1 (pz_u1 (pz_u1 (pz_u1 (pz_u1 (pz_u1 (pz_u1 (pz_u1 (pz_u1 (pz_u1 iv 2 o9_9) 134 l9_10) 138 n9_11) 139 w9_12) 140 d9_13) 142 m9_14) 143 V9_15) 144 W9_16) 145 U9_17) 146 Y9_18) 147 p9_19) 148 q9_20) 149 r9_21 := h9e.trans (by rw [pz_u1_in (r := 2) (q := 149) (by decide)]; rw [pz_u1_in (r := 2) (q := 148) (by decide)]; rw [pz_u1_in (r := 2) (q := 147) (by decide)]; rw [pz_u1_in (r := 2) (q := 146) (by decide)]; rw [pz_u1_in (r := 2) (q := 145) (by decide)]; rw [pz_u1_in (r := 2) (q := 144) (by decide)]; rw [pz_u1_in (r := 2) (q := 143) (by decide)]; rw [pz_u1_in (r := 2) (q := 142) (by decide)]; rw [pz_u1_in (r := 2) (q := 140) (by decide)]; rw [pz_u1_in (r := 2) (q := 139) (by decide)]; rw [pz_u1_in (r := 2) (q := 138) (by decide)]; rw [pz_u1_in (r := 2) (q := 134) (by decide)]; rw [pz_u1_top (r := 2)]; rw [pz_u1_in (r := 134) (q := 149) (by decide)]; rw [pz_u1_in (r := 134) (q := 148) (by decide)]; rw [pz_u1_in (r := 134) (q := 147) (by decide)]; rw [pz_u1_in (r := 134) (q := 146) (by decide)]; rw [pz_u1_in (r := 134) (q := 145) (by decide)]; rw [pz_u1_in (r := 134) (q := 144) (by decide)]; rw [pz_u1_in (r := 134) (q := 143) (by decide)]; rw [pz_u1_in (r := 134) (q := 142) (by decide)]; rw [pz_u1_in (r := 134) (q := 140) (by decide)]; rw [pz_u1_in (r := 134) (q := 139) (by decide)]; rw [pz_u1_in (r := 134) (q := 138) (by decide)]; rw [pz_u1_top (r := 134)]; rw [pz_u1_in (r := 138) (q := 149) (by decide)]; rw [pz_u1_in (r := 138) (q := 148) (by decide)]; rw [pz_u1_in (r := 138) (q := 147) (by decide)]; rw [pz_u1_in (r := 138) (q := 146) (by decide)]; rw [pz_u1_in (r := 138) (q := 145) (by decide)]; rw [pz_u1_in (r := 138) (q := 144) (by decide)]; rw [pz_u1_in (r := 138) (q := 143) (by decide)]; rw [pz_u1_in (r := 138) (q := 142) (by decide)]; rw [pz_u1_in (r := 138) (q := 140) (by decide)]; rw [pz_u1_in (r := 138) (q := 139) (by decide)]; rw [pz_u1_top (r := 138)]; rw [pz_u1_in (r := 139) (q := 149) (by decide)]; rw [pz_u1_in (r := 139) (q := 148) (by decide)]; rw [pz_u1_in (r := 139) (q := 147) (by decide)]; rw [pz_u1_in (r := 139) (q := 146) (by decide)]; rw [pz_u1_in (r := 139) (q := 145) (by decide)]; rw [pz_u1_in (r := 139) (q := 144) (by decide)]; rw [pz_u1_in (r := 139) (q := 143) (by decide)]; rw [pz_u1_in (r := 139) (q := 142) (by decide)]; rw [pz_u1_in (r := 139) (q := 140) (by decide)]; rw [pz_u1_top (r := 139)]; rw [pz_u1_in (r := 140) (q := 149) (by decide)]; rw [pz_u1_in (r := 140) (q := 148) (by decide)]; rw [pz_u1_in (r := 140) (q := 147) (by decide)]; rw [pz_u1_in (r := 140) (q := 146) (by decide)]; rw [pz_u1_in (r := 140) (q := 145) (by decide)]; rw [pz_u1_in (r := 140) (q := 144) (by decide)]; rw [pz_u1_in (r := 140) (q := 143) (by decide)]; rw [pz_u1_in (r := 140) (q := 142) (by decide)]; rw [pz_u1_top (r := 140)]; rw [pz_u1_in (r := 142) (q := 149) (by decide)]; rw [pz_u1_in (r := 142) (q := 148) (by decide)]; rw [pz_u1_in (r := 142) (q := 147) (by decide)]; rw [pz_u1_in (r := 142) (q := 146) (by decide)]; rw [pz_u1_in (r := 142) (q := 145) (by decide)]; rw [pz_u1_in (r := 142) (q := 144) (by decide)]; rw [pz_u1_in (r := 142) (q := 143) (by decide)]; rw [pz_u1_top (r := 142)]; rw [pz_u1_in (r := 143) (q := 149) (by decide)]; rw [pz_u1_in (r := 143) (q := 148) (by decide)]; rw [pz_u1_in (r := 143) (q := 147) (by decide)]; rw [pz_u1_in (r := 143) (q := 146) (by decide)]; rw [pz_u1_in (r := 143) (q := 145) (by decide)]; rw [pz_u1_in (r := 143) (q := 144) (by decide)]; rw [pz_u1_top (r := 143)]; rw [pz_u1_in (r := 144) (q := 149) (by decide)]; rw [pz_u1_in (r := 144) (q := 148) (by decide)]; rw [pz_u1_in (r := 144) (q := 147) (by decide)]; rw [pz_u1_in (r := 144) (q := 146) (by decide)]; rw [pz_u1_in (r := 144) (q := 145) (by decide)]; rw [pz_u1_top (r := 144)]; rw [pz_u1_in (r := 145) (q := 149) (by decide)]; rw [pz_u1_in (r := 145) (q := 148) (by decide)]; rw [pz_u1_in (r := 145) (q := 147) (by decide)]; rw [pz_u1_in (r := 145) (q := 146) (by decide)]; rw [pz_u1_top (r := 145)]; rw [pz_u1_in (r := 146) (q := 149) (by decide)]; rw [pz_u1_in (r := 146) (q := 148) (by decide)]; rw [pz_u1_in (r := 146) (q := 147) (by decide)]; rw [pz_u1_top (r := 146)]; rw [pz_u1_in (r := 147) (q := 149) (by decide)]; rw [pz_u1_in (r := 147) (q := 148) (by decide)]; rw [pz_u1_top (r := 147)]; rw [pz_u1_in (r := 148) (q := 149) (by decide)]; rw [pz_u1_top (r := 148)]; rw [pz_u1_top (r := 149)] <;> rfl)
                 subst h9x
                 replace hci : q_CI k o9_9 n9_11 w9_12 d9_13 m9_14 V9_15 U9_17 (iv 129) (iv 135) := hci
                 replace hRK : q_RK k m9_14 V9_15 U9_17 := hRK
                 replace ho2 : o9_9 2 = (iv 2) 2 := ho2
                 refine w_loc rfl ?_
                 refine w_loc rfl ?_
                 refine w_getR (q := 3) is_2 rf_2_0 ?_
                 refine w_getR (q := 15) is_3 rf_3_3 ?_
                 have hc22 : pz_R (pz_Sh L) 103 [.inr (.inl 142), .inl e, .inr (.inl 15)] (pz_u1 (pz_u1 (pz_u1 (pz_u1 (pz_u1 (pz_u1 (pz_u1 (pz_u1 (pz_u1 (pz_u1 (pz_u1 (pz_u1 (pz_u1 iv 2 o9_9) 134 l9_10) 138 n9_11) 139 w9_12) 140 d9_13) 142 m9_14) 143 V9_15) 144 W9_16) 145 U9_17) 146 Y9_18) 147 p9_19) 148 q9_20) 149 r9_21) (.inl (some (.inl (q_lo (q_val k) (q_ka k) k e)))) (pz_u1 (pz_u1 (pz_u1 (pz_u1 (pz_u1 (pz_u1 (pz_u1 (pz_u1 (pz_u1 (pz_u1 (pz_u1 (pz_u1 (pz_u1 iv 2 o9_9) 134 l9_10) 138 n9_11) 139 w9_12) 140 d9_13) 142 m9_14) 143 V9_15) 144 W9_16) 145 U9_17) 146 Y9_18) 147 p9_19) 148 q9_20) 149 r9_21) := s_X8_windowLow_15 e (by show q_KR k; exact hk) (by show q_cE k (iv 3); exact hE) (by show q_cC k (iv 15) (iv 16); exact hC) (by show q_VU k (q_val k) V9_15 U9_17; exact hRK.2.2 (by assumption)) (by show q_vb (q_val k); exact q_vb_val hk (by assumption)) (by show 0 ≤ e ∧ e < k 0; omega)
                 refine w_call hc22 rfl (pz_cokI is_142 rfl) ?_
                 refine w_ret rfl ?_
                 first | exact ⟨pz_u1 (pz_u1 (pz_u1 (pz_u1 (pz_u1 (pz_u1 (pz_u1 (pz_u1 (pz_u1 (pz_u1 (pz_u1 (pz_u1 (pz_u1 iv 2 o9_9) 134 l9_10) 138 n9_11) 139 w9_12) 140 d9_13) 142 m9_14) 143 V9_15) 144 W9_16) 145 U9_17) 146 Y9_18) 147 p9_19) 148 q9_20) 149 r9_21, ⟨o9_9, l9_10, n9_11, w9_12, d9_13, m9_14, V9_15, W9_16, U9_17, Y9_18, p9_19, q9_20, r9_21, by rfl, by exact hci, by exact ho2⟩, lf_i (by first | rfl | omega) (by rfl)⟩ | (exfalso; omega))
            · first
              | (exfalso; first | omega | contradiction)
              | (have hc23 := s_X10_goodReductions_n (L := L) (iv := pz_u1 (pz_u1 (pz_u1 (pz_u1 (pz_u1 (pz_u1 (pz_u1 (pz_u1 (pz_u1 (pz_u1 (pz_u1 (pz_u1 (pz_u1 iv 2 (iv 2)) 134 (iv 134)) 138 (iv 138)) 139 (iv 139)) 140 (iv 140)) 142 (iv 142)) 143 (iv 143)) 144 (iv 144)) 145 (iv 145)) 146 (iv 146)) 147 (iv 147)) 148 (iv 148)) 149 (iv 149)) (by show q_KR k; exact hk) (by show q_cE k (iv 3); exact hE) (by show q_cB k (iv 4) (iv 5) (iv 6) (iv 7) (iv 8) (iv 9); exact hB) (by show q_cS k (iv 10) (iv 11) (iv 12) (iv 13) (iv 14); exact hS) (by show q_cC k (iv 15) (iv 16); exact hC) (by show q_cL k (iv 25); exact hL) (by show q_CI k (iv 2) (iv 138) (iv 139) (iv 140) (iv 142) (iv 143) (iv 145) (iv 129) (iv 135); exact hci) (by show ¬ q_sen k; exact h7)
                 refine w_calleE hc23 rfl (pz_cokI is_2 rfl) rfl (fun iv9 h9 => ?_)
                 obtain ⟨o9_24, l9_25, n9_26, w9_27, d9_28, m9_29, V9_30, W9_31, U9_32, Y9_33, p9_34, q9_35, r9_36, h9e, hci, ho2⟩ := h9
                 have h9x : iv9 = pz_u1 (pz_u1 (pz_u1 (pz_u1 (pz_u1 (pz_u1 (pz_u1 (pz_u1 (pz_u1 (pz_u1 (pz_u1 (pz_u1 (pz_u1 iv 2 o9_24) 134 l9_25) 138 n9_26) 139 w9_27) 140 d9_28) 142 m9_29) 143 V9_30) 144 W9_31) 145 U9_32) 146 Y9_33) 147 p9_34) 148 q9_35) 149 r9_36 := h9e.trans (by rw [pz_u1_in (r := 2) (q := 149) (by decide)]; rw [pz_u1_in (r := 2) (q := 148) (by decide)]; rw [pz_u1_in (r := 2) (q := 147) (by decide)]; rw [pz_u1_in (r := 2) (q := 146) (by decide)]; rw [pz_u1_in (r := 2) (q := 145) (by decide)]; rw [pz_u1_in (r := 2) (q := 144) (by decide)]; rw [pz_u1_in (r := 2) (q := 143) (by decide)]; rw [pz_u1_in (r := 2) (q := 142) (by decide)]; rw [pz_u1_in (r := 2) (q := 140) (by decide)]; rw [pz_u1_in (r := 2) (q := 139) (by decide)]; rw [pz_u1_in (r := 2) (q := 138) (by decide)]; rw [pz_u1_in (r := 2) (q := 134) (by decide)]; rw [pz_u1_top (r := 2)]; rw [pz_u1_in (r := 134) (q := 149) (by decide)]; rw [pz_u1_in (r := 134) (q := 148) (by decide)]; rw [pz_u1_in (r := 134) (q := 147) (by decide)]; rw [pz_u1_in (r := 134) (q := 146) (by decide)]; rw [pz_u1_in (r := 134) (q := 145) (by decide)]; rw [pz_u1_in (r := 134) (q := 144) (by decide)]; rw [pz_u1_in (r := 134) (q := 143) (by decide)]; rw [pz_u1_in (r := 134) (q := 142) (by decide)]; rw [pz_u1_in (r := 134) (q := 140) (by decide)]; rw [pz_u1_in (r := 134) (q := 139) (by decide)]; rw [pz_u1_in (r := 134) (q := 138) (by decide)]; rw [pz_u1_top (r := 134)]; rw [pz_u1_in (r := 138) (q := 149) (by decide)]; rw [pz_u1_in (r := 138) (q := 148) (by decide)]; rw [pz_u1_in (r := 138) (q := 147) (by decide)]; rw [pz_u1_in (r := 138) (q := 146) (by decide)]; rw [pz_u1_in (r := 138) (q := 145) (by decide)]; rw [pz_u1_in (r := 138) (q := 144) (by decide)]; rw [pz_u1_in (r := 138) (q := 143) (by decide)]; rw [pz_u1_in (r := 138) (q := 142) (by decide)]; rw [pz_u1_in (r := 138) (q := 140) (by decide)]; rw [pz_u1_in (r := 138) (q := 139) (by decide)]; rw [pz_u1_top (r := 138)]; rw [pz_u1_in (r := 139) (q := 149) (by decide)]; rw [pz_u1_in (r := 139) (q := 148) (by decide)]; rw [pz_u1_in (r := 139) (q := 147) (by decide)]; rw [pz_u1_in (r := 139) (q := 146) (by decide)]; rw [pz_u1_in (r := 139) (q := 145) (by decide)]; rw [pz_u1_in (r := 139) (q := 144) (by decide)]; rw [pz_u1_in (r := 139) (q := 143) (by decide)]; rw [pz_u1_in (r := 139) (q := 142) (by decide)]; rw [pz_u1_in (r := 139) (q := 140) (by decide)]; rw [pz_u1_top (r := 139)]; rw [pz_u1_in (r := 140) (q := 149) (by decide)]; rw [pz_u1_in (r := 140) (q := 148) (by decide)]; rw [pz_u1_in (r := 140) (q := 147) (by decide)]; rw [pz_u1_in (r := 140) (q := 146) (by decide)]; rw [pz_u1_in (r := 140) (q := 145) (by decide)]; rw [pz_u1_in (r := 140) (q := 144) (by decide)]; rw [pz_u1_in (r := 140) (q := 143) (by decide)]; rw [pz_u1_in (r := 140) (q := 142) (by decide)]; rw [pz_u1_top (r := 140)]; rw [pz_u1_in (r := 142) (q := 149) (by decide)]; rw [pz_u1_in (r := 142) (q := 148) (by decide)]; rw [pz_u1_in (r := 142) (q := 147) (by decide)]; rw [pz_u1_in (r := 142) (q := 146) (by decide)]; rw [pz_u1_in (r := 142) (q := 145) (by decide)]; rw [pz_u1_in (r := 142) (q := 144) (by decide)]; rw [pz_u1_in (r := 142) (q := 143) (by decide)]; rw [pz_u1_top (r := 142)]; rw [pz_u1_in (r := 143) (q := 149) (by decide)]; rw [pz_u1_in (r := 143) (q := 148) (by decide)]; rw [pz_u1_in (r := 143) (q := 147) (by decide)]; rw [pz_u1_in (r := 143) (q := 146) (by decide)]; rw [pz_u1_in (r := 143) (q := 145) (by decide)]; rw [pz_u1_in (r := 143) (q := 144) (by decide)]; rw [pz_u1_top (r := 143)]; rw [pz_u1_in (r := 144) (q := 149) (by decide)]; rw [pz_u1_in (r := 144) (q := 148) (by decide)]; rw [pz_u1_in (r := 144) (q := 147) (by decide)]; rw [pz_u1_in (r := 144) (q := 146) (by decide)]; rw [pz_u1_in (r := 144) (q := 145) (by decide)]; rw [pz_u1_top (r := 144)]; rw [pz_u1_in (r := 145) (q := 149) (by decide)]; rw [pz_u1_in (r := 145) (q := 148) (by decide)]; rw [pz_u1_in (r := 145) (q := 147) (by decide)]; rw [pz_u1_in (r := 145) (q := 146) (by decide)]; rw [pz_u1_top (r := 145)]; rw [pz_u1_in (r := 146) (q := 149) (by decide)]; rw [pz_u1_in (r := 146) (q := 148) (by decide)]; rw [pz_u1_in (r := 146) (q := 147) (by decide)]; rw [pz_u1_top (r := 146)]; rw [pz_u1_in (r := 147) (q := 149) (by decide)]; rw [pz_u1_in (r := 147) (q := 148) (by decide)]; rw [pz_u1_top (r := 147)]; rw [pz_u1_in (r := 148) (q := 149) (by decide)]; rw [pz_u1_top (r := 148)]; rw [pz_u1_top (r := 149)] <;> rfl)
                 subst h9x
                 replace hci : q_CI k o9_24 n9_26 w9_27 d9_28 m9_29 V9_30 U9_32 (iv 129) (iv 135) := hci
                 replace ho2 : o9_24 2 = (iv 2) 2 := ho2
                 first | exact ⟨pz_u1 (pz_u1 (pz_u1 (pz_u1 (pz_u1 (pz_u1 (pz_u1 (pz_u1 (pz_u1 (pz_u1 (pz_u1 (pz_u1 (pz_u1 iv 2 o9_24) 134 l9_25) 138 n9_26) 139 w9_27) 140 d9_28) 142 m9_29) 143 V9_30) 144 W9_31) 145 U9_32) 146 Y9_33) 147 p9_34) 148 q9_35) 149 r9_36, ⟨o9_24, l9_25, n9_26, w9_27, d9_28, m9_29, V9_30, W9_31, U9_32, Y9_33, p9_34, q9_35, r9_36, by rfl, by exact hci, by exact ho2⟩, lf_e (by rfl)⟩ | (exfalso; omega))))
  · first
    | (exfalso; first | omega | contradiction)
    | (have hc37 : pz_R (pz_Sh L) 170 [.inr (.inl 2), .inl e] (pz_u1 (pz_u1 (pz_u1 (pz_u1 (pz_u1 (pz_u1 (pz_u1 (pz_u1 (pz_u1 (pz_u1 (pz_u1 (pz_u1 (pz_u1 iv 2 (iv 2)) 134 (iv 134)) 138 (iv 138)) 139 (iv 139)) 140 (iv 140)) 142 (iv 142)) 143 (iv 143)) 144 (iv 144)) 145 (iv 145)) 146 (iv 146)) 147 (iv 147)) 148 (iv 148)) 149 (iv 149)) (.inr 2) (pz_u1 (pz_u1 (pz_u1 (pz_u1 (pz_u1 (pz_u1 (pz_u1 (pz_u1 (pz_u1 (pz_u1 (pz_u1 (pz_u1 (pz_u1 iv 2 (iv 2)) 134 (iv 134)) 138 (iv 138)) 139 (iv 139)) 140 (iv 140)) 142 (iv 142)) 143 (iv 143)) 144 (iv 144)) 145 (iv 145)) 146 (iv 146)) 147 (iv 147)) 148 (iv 148)) 149 (iv 149)) := s_X10_needEvent_n e (by show q_cE k (iv 3); exact hE) (by show ¬ (0 ≤ e ∧ e < k 0); exact h1)
       refine w_calle hc37 rfl (pz_cokI is_2 rfl) rfl ?_
       first | exact ⟨pz_u1 (pz_u1 (pz_u1 (pz_u1 (pz_u1 (pz_u1 (pz_u1 (pz_u1 (pz_u1 (pz_u1 (pz_u1 (pz_u1 (pz_u1 iv 2 (iv 2)) 134 (iv 134)) 138 (iv 138)) 139 (iv 139)) 140 (iv 140)) 142 (iv 142)) 143 (iv 143)) 144 (iv 144)) 145 (iv 145)) 146 (iv 146)) 147 (iv 147)) 148 (iv 148)) 149 (iv 149), ⟨(iv 2), (iv 134), (iv 138), (iv 139), (iv 140), (iv 142), (iv 143), (iv 144), (iv 145), (iv 146), (iv 147), (iv 148), (iv 149), by rfl, by exact hci, by exact ho2⟩, lf_e (by rfl)⟩ | (exfalso; omega))

theorem s_X10_uppermost_1 {L : Nat} {iv : Nat → Nat → Int} (e : Int) {k : Nat → Int} (hk : q_KR k) (hE : q_cE k (iv 3)) (hB : q_cB k (iv 4) (iv 5) (iv 6) (iv 7) (iv 8) (iv 9)) (hS : q_cS k (iv 10) (iv 11) (iv 12) (iv 13) (iv 14)) (hC : q_cC k (iv 15) (iv 16)) (hA : q_cA k (iv 17) (iv 18) (iv 19) (iv 20)) (hO : q_cO k (iv 22) (iv 23) (iv 24)) (hL : q_cL k (iv 25)) (hP : q_cP k (iv 27)) (hci : q_CI k (iv 2) (iv 138) (iv 139) (iv 140) (iv 142) (iv 143) (iv 145) (iv 129) (iv 135)) (hcase0 : ¬ (0 ≤ e ∧ e ≤ k 0 - 1)) : pz_R (pz_Sh L) 149 [.inr (.inl 2), .inl e] iv (.inr 2) iv := by
  intro dv cc ss
  have hk0 := hk.r0
  have hE0 := hE
  have hB0 := hB.1
  have hS0 := hS.1
  have hC0 := hC.1
  have hA0 := hA.1
  show pz_G 149 0 [some (.inr (.inl 2)), some (.inl e)] [] (pz_Sh L, iv, dv, cc, ss) (pz_P (pz_Sh L) (.inr 2) iv dv cc ss)
  refine pz_G_of pz_b149_0 ?_
  refine w_loc rfl ?_
  refine w_loc rfl ?_
  by_cases h1 : 0 ≤ e ∧ e < k 0
  · first
    | (exfalso; first | omega | contradiction)
    | (have hc2 : pz_R (pz_Sh L) 170 [.inr (.inl 2), .inl e] (iv) (.inl none) (iv) := s_X10_needEvent_y e (by exact hE) (by exact h1)
       refine w_callv hc2 rfl (pz_cokI is_2 rfl) ?_
       refine w_loc rfl ?_
       refine w_getR (q := 3) is_2 rf_2_0 ?_
       refine w_getR (q := 15) is_3 rf_3_3 ?_
       refine w_loc rfl ?_
       have hc3 : pz_R (pz_Sh L) 26 [.inr (.inl 15), .inl e] (iv) (.inl (some (.inl (pz_bi (q_sta k e))))) (iv) := s_X2_hasStarted_15 e (by exact hk) (by exact hC) (by omega)
       refine w_call hc3 rfl (pz_cokI is_15 rfl) ?_
       refine w_bne (fun h4 => ?_) (fun h4 => ?_)
       · first
         | (exfalso; first | omega | contradiction)
         | (refine pz_G_of pz_b149_23 ?_
            refine w_pure rfl ?_
            refine w_nil ?_
            refine pz_G_of pz_b149_24 ?_
            have hc5 : pz_R (pz_Sh L) 173 [.inl 0] (iv) (.inr 0) (iv) := s_X10_needState_n 0 (by omega)
            refine w_calle hc5 rfl rfl rfl ?_
            first | exact lf_e (by rfl) | (exfalso; omega))
       · first
         | (exfalso; first | omega | contradiction)
         | (refine w_pure rfl ?_
            refine w_goto ?_
            refine pz_G_of pz_b149_24 ?_
            have hc6 : pz_R (pz_Sh L) 173 [.inl 1] (iv) (.inl none) (iv) := s_X10_needState_y 1 (by omega)
            refine w_callv hc6 rfl rfl ?_
            refine w_loc rfl ?_
            by_cases h7 : q_sen k
            · first
              | (exfalso; first | omega | contradiction)
              | (have hc8 := s_X10_goodReductions_y (L := L) (iv := iv) (by exact hk) (by exact hE) (by exact hB) (by exact hS) (by exact hC) (by exact hL) (by exact hci) (by exact h7)
                 refine w_callE hc8 rfl (pz_cokI is_2 rfl) (fun iv9 h9 => ?_)
                 obtain ⟨o9_9, l9_10, n9_11, w9_12, d9_13, m9_14, V9_15, W9_16, U9_17, Y9_18, p9_19, q9_20, r9_21, h9e, hci, hRK, ho2⟩ := h9
                 have h9x : iv9 = pz_u1 (pz_u1 (pz_u1 (pz_u1 (pz_u1 (pz_u1 (pz_u1 (pz_u1 (pz_u1 (pz_u1 (pz_u1 (pz_u1 (pz_u1 iv 2 o9_9) 134 l9_10) 138 n9_11) 139 w9_12) 140 d9_13) 142 m9_14) 143 V9_15) 144 W9_16) 145 U9_17) 146 Y9_18) 147 p9_19) 148 q9_20) 149 r9_21 := h9e.trans (by rw [pz_u1_top (r := 2)]; rw [pz_u1_top (r := 134)]; rw [pz_u1_top (r := 138)]; rw [pz_u1_top (r := 139)]; rw [pz_u1_top (r := 140)]; rw [pz_u1_top (r := 142)]; rw [pz_u1_top (r := 143)]; rw [pz_u1_top (r := 144)]; rw [pz_u1_top (r := 145)]; rw [pz_u1_top (r := 146)]; rw [pz_u1_top (r := 147)]; rw [pz_u1_top (r := 148)]; rw [pz_u1_top (r := 149)] <;> rfl)
                 subst h9x
                 replace hci : q_CI k o9_9 n9_11 w9_12 d9_13 m9_14 V9_15 U9_17 (iv 129) (iv 135) := hci
                 replace hRK : q_RK k m9_14 V9_15 U9_17 := hRK
                 replace ho2 : o9_9 2 = (iv 2) 2 := ho2
                 refine w_loc rfl ?_
                 refine w_loc rfl ?_
                 refine w_getR (q := 3) is_2 rf_2_0 ?_
                 refine w_getR (q := 15) is_3 rf_3_3 ?_
                 have hc22 : pz_R (pz_Sh L) 104 [.inr (.inl 142), .inl e, .inr (.inl 15)] (pz_u1 (pz_u1 (pz_u1 (pz_u1 (pz_u1 (pz_u1 (pz_u1 (pz_u1 (pz_u1 (pz_u1 (pz_u1 (pz_u1 (pz_u1 iv 2 o9_9) 134 l9_10) 138 n9_11) 139 w9_12) 140 d9_13) 142 m9_14) 143 V9_15) 144 W9_16) 145 U9_17) 146 Y9_18) 147 p9_19) 148 q9_20) 149 r9_21) (.inl (some (.inl (q_hi (q_val k) (q_ka k) k e)))) (pz_u1 (pz_u1 (pz_u1 (pz_u1 (pz_u1 (pz_u1 (pz_u1 (pz_u1 (pz_u1 (pz_u1 (pz_u1 (pz_u1 (pz_u1 iv 2 o9_9) 134 l9_10) 138 n9_11) 139 w9_12) 140 d9_13) 142 m9_14) 143 V9_15) 144 W9_16) 145 U9_17) 146 Y9_18) 147 p9_19) 148 q9_20) 149 r9_21) := s_X8_windowHigh_15 e (by show q_KR k; exact hk) (by show q_cE k (iv 3); exact hE) (by show q_cC k (iv 15) (iv 16); exact hC) (by show q_VU k (q_val k) V9_15 U9_17; exact hRK.2.2 (by assumption)) (by show q_vb (q_val k); exact q_vb_val hk (by assumption)) (by show 0 ≤ e ∧ e < k 0; omega)
                 refine w_call hc22 rfl (pz_cokI is_142 rfl) ?_
                 refine w_ret rfl ?_
                 first | exact lf_i (by first | rfl | omega) (by rfl) | (exfalso; omega))
            · first
              | (exfalso; first | omega | contradiction)
              | (have hc23 := s_X10_goodReductions_n (L := L) (iv := iv) (by exact hk) (by exact hE) (by exact hB) (by exact hS) (by exact hC) (by exact hL) (by exact hci) (by exact h7)
                 refine w_calleE hc23 rfl (pz_cokI is_2 rfl) rfl (fun iv9 h9 => ?_)
                 obtain ⟨o9_24, l9_25, n9_26, w9_27, d9_28, m9_29, V9_30, W9_31, U9_32, Y9_33, p9_34, q9_35, r9_36, h9e, hci, ho2⟩ := h9
                 have h9x : iv9 = pz_u1 (pz_u1 (pz_u1 (pz_u1 (pz_u1 (pz_u1 (pz_u1 (pz_u1 (pz_u1 (pz_u1 (pz_u1 (pz_u1 (pz_u1 iv 2 o9_24) 134 l9_25) 138 n9_26) 139 w9_27) 140 d9_28) 142 m9_29) 143 V9_30) 144 W9_31) 145 U9_32) 146 Y9_33) 147 p9_34) 148 q9_35) 149 r9_36 := h9e.trans (by rw [pz_u1_top (r := 2)]; rw [pz_u1_top (r := 134)]; rw [pz_u1_top (r := 138)]; rw [pz_u1_top (r := 139)]; rw [pz_u1_top (r := 140)]; rw [pz_u1_top (r := 142)]; rw [pz_u1_top (r := 143)]; rw [pz_u1_top (r := 144)]; rw [pz_u1_top (r := 145)]; rw [pz_u1_top (r := 146)]; rw [pz_u1_top (r := 147)]; rw [pz_u1_top (r := 148)]; rw [pz_u1_top (r := 149)] <;> rfl)
                 subst h9x
                 replace hci : q_CI k o9_24 n9_26 w9_27 d9_28 m9_29 V9_30 U9_32 (iv 129) (iv 135) := hci
                 replace ho2 : o9_24 2 = (iv 2) 2 := ho2
                 first | exact lf_e (by rfl) | (exfalso; omega))))
  · first
    | (exfalso; first | omega | contradiction)
    | (have hc37 : pz_R (pz_Sh L) 170 [.inr (.inl 2), .inl e] (iv) (.inr 2) (iv) := s_X10_needEvent_n e (by exact hE) (by exact h1)
       refine w_calle hc37 rfl (pz_cokI is_2 rfl) rfl ?_
       first | exact lf_e (by rfl) | (exfalso; omega))

theorem s_X10_uppermost_2a {L : Nat} {iv : Nat → Nat → Int} (e : Int) {k : Nat → Int} (hk : q_KR k) (hE : q_cE k (iv 3)) (hB : q_cB k (iv 4) (iv 5) (iv 6) (iv 7) (iv 8) (iv 9)) (hS : q_cS k (iv 10) (iv 11) (iv 12) (iv 13) (iv 14)) (hC : q_cC k (iv 15) (iv 16)) (hA : q_cA k (iv 17) (iv 18) (iv 19) (iv 20)) (hO : q_cO k (iv 22) (iv 23) (iv 24)) (hL : q_cL k (iv 25)) (hP : q_cP k (iv 27)) (hci : q_CI k (iv 2) (iv 138) (iv 139) (iv 140) (iv 142) (iv 143) (iv 145) (iv 129) (iv 135)) (hcase0 : 0 ≤ e ∧ e ≤ k 0 - 1) (hcase1 : q_sta k e) : pz_R (pz_Sh L) 149 [.inr (.inl 2), .inl e] iv (.inr 0) iv := by
  intro dv cc ss
  have hk0 := hk.r0
  have hE0 := hE
  have hB0 := hB.1
  have hS0 := hS.1
  have hC0 := hC.1
  have hA0 := hA.1
  show pz_G 149 0 [some (.inr (.inl 2)), some (.inl e)] [] (pz_Sh L, iv, dv, cc, ss) (pz_P (pz_Sh L) (.inr 0) iv dv cc ss)
  refine pz_G_of pz_b149_0 ?_
  refine w_loc rfl ?_
  refine w_loc rfl ?_
  by_cases h1 : 0 ≤ e ∧ e < k 0
  · first
    | (exfalso; first | omega | contradiction)
    | (have hc2 : pz_R (pz_Sh L) 170 [.inr (.inl 2), .inl e] (iv) (.inl none) (iv) := s_X10_needEvent_y e (by exact hE) (by exact h1)
       refine w_callv hc2 rfl (pz_cokI is_2 rfl) ?_
       refine w_loc rfl ?_
       refine w_getR (q := 3) is_2 rf_2_0 ?_
       refine w_getR (q := 15) is_3 rf_3_3 ?_
       refine w_loc rfl ?_
       have hc3 : pz_R (pz_Sh L) 26 [.inr (.inl 15), .inl e] (iv) (.inl (some (.inl (pz_bi (q_sta k e))))) (iv) := s_X2_hasStarted_15 e (by exact hk) (by exact hC) (by omega)
       refine w_call hc3 rfl (pz_cokI is_15 rfl) ?_
       refine w_bne (fun h4 => ?_) (fun h4 => ?_)
       · first
         | (exfalso; first | omega | contradiction)
         | (refine pz_G_of pz_b149_23 ?_
            refine w_pure rfl ?_
            refine w_nil ?_
            refine pz_G_of pz_b149_24 ?_
            have hc5 : pz_R (pz_Sh L) 173 [.inl 0] (iv) (.inr 0) (iv) := s_X10_needState_n 0 (by omega)
            refine w_calle hc5 rfl rfl rfl ?_
            first | exact lf_e (by rfl) | (exfalso; omega))
       · first
         | (exfalso; first | omega | contradiction)
         | (refine w_pure rfl ?_
            refine w_goto ?_
            refine pz_G_of pz_b149_24 ?_
            have hc6 : pz_R (pz_Sh L) 173 [.inl 1] (iv) (.inl none) (iv) := s_X10_needState_y 1 (by omega)
            refine w_callv hc6 rfl rfl ?_
            refine w_loc rfl ?_
            by_cases h7 : q_sen k
            · first
              | (exfalso; first | omega | contradiction)
              | (have hc8 := s_X10_goodReductions_y (L := L) (iv := iv) (by exact hk) (by exact hE) (by exact hB) (by exact hS) (by exact hC) (by exact hL) (by exact hci) (by exact h7)
                 refine w_callE hc8 rfl (pz_cokI is_2 rfl) (fun iv9 h9 => ?_)
                 obtain ⟨o9_9, l9_10, n9_11, w9_12, d9_13, m9_14, V9_15, W9_16, U9_17, Y9_18, p9_19, q9_20, r9_21, h9e, hci, hRK, ho2⟩ := h9
                 have h9x : iv9 = pz_u1 (pz_u1 (pz_u1 (pz_u1 (pz_u1 (pz_u1 (pz_u1 (pz_u1 (pz_u1 (pz_u1 (pz_u1 (pz_u1 (pz_u1 iv 2 o9_9) 134 l9_10) 138 n9_11) 139 w9_12) 140 d9_13) 142 m9_14) 143 V9_15) 144 W9_16) 145 U9_17) 146 Y9_18) 147 p9_19) 148 q9_20) 149 r9_21 := h9e.trans (by rw [pz_u1_top (r := 2)]; rw [pz_u1_top (r := 134)]; rw [pz_u1_top (r := 138)]; rw [pz_u1_top (r := 139)]; rw [pz_u1_top (r := 140)]; rw [pz_u1_top (r := 142)]; rw [pz_u1_top (r := 143)]; rw [pz_u1_top (r := 144)]; rw [pz_u1_top (r := 145)]; rw [pz_u1_top (r := 146)]; rw [pz_u1_top (r := 147)]; rw [pz_u1_top (r := 148)]; rw [pz_u1_top (r := 149)] <;> rfl)
                 subst h9x
                 replace hci : q_CI k o9_9 n9_11 w9_12 d9_13 m9_14 V9_15 U9_17 (iv 129) (iv 135) := hci
                 replace hRK : q_RK k m9_14 V9_15 U9_17 := hRK
                 replace ho2 : o9_9 2 = (iv 2) 2 := ho2
                 refine w_loc rfl ?_
                 refine w_loc rfl ?_
                 refine w_getR (q := 3) is_2 rf_2_0 ?_
                 refine w_getR (q := 15) is_3 rf_3_3 ?_
                 have hc22 : pz_R (pz_Sh L) 104 [.inr (.inl 142), .inl e, .inr (.inl 15)] (pz_u1 (pz_u1 (pz_u1 (pz_u1 (pz_u1 (pz_u1 (pz_u1 (pz_u1 (pz_u1 (pz_u1 (pz_u1 (pz_u1 (pz_u1 iv 2 o9_9) 134 l9_10) 138 n9_11) 139 w9_12) 140 d9_13) 142 m9_14) 143 V9_15) 144 W9_16) 145 U9_17) 146 Y9_18) 147 p9_19) 148 q9_20) 149 r9_21) (.inl (some (.inl (q_hi (q_val k) (q_ka k) k e)))) (pz_u1 (pz_u1 (pz_u1 (pz_u1 (pz_u1 (pz_u1 (pz_u1 (pz_u1 (pz_u1 (pz_u1 (pz_u1 (pz_u1 (pz_u1 iv 2 o9_9) 134 l9_10) 138 n9_11) 139 w9_12) 140 d9_13) 142 m9_14) 143 V9_15) 144 W9_16) 145 U9_17) 146 Y9_18) 147 p9_19) 148 q9_20) 149 r9_21) := s_X8_windowHigh_15 e (by show q_KR k; exact hk) (by show q_cE k (iv 3); exact hE) (by show q_cC k (iv 15) (iv 16); exact hC) (by show q_VU k (q_val k) V9_15 U9_17; exact hRK.2.2 (by assumption)) (by show q_vb (q_val k); exact q_vb_val hk (by assumption)) (by show 0 ≤ e ∧ e < k 0; omega)
                 refine w_call hc22 rfl (pz_cokI is_142 rfl) ?_
                 refine w_ret rfl ?_
                 first | exact lf_i (by first | rfl | omega) (by rfl) | (exfalso; omega))
            · first
              | (exfalso; first | omega | contradiction)
              | (have hc23 := s_X10_goodReductions_n (L := L) (iv := iv) (by exact hk) (by exact hE) (by exact hB) (by exact hS) (by exact hC) (by exact hL) (by exact hci) (by exact h7)
                 refine w_calleE hc23 rfl (pz_cokI is_2 rfl) rfl (fun iv9 h9 => ?_)
                 obtain ⟨o9_24, l9_25, n9_26, w9_27, d9_28, m9_29, V9_30, W9_31, U9_32, Y9_33, p9_34, q9_35, r9_36, h9e, hci, ho2⟩ := h9
                 have h9x : iv9 = pz_u1 (pz_u1 (pz_u1 (pz_u1 (pz_u1 (pz_u1 (pz_u1 (pz_u1 (pz_u1 (pz_u1 (pz_u1 (pz_u1 (pz_u1 iv 2 o9_24) 134 l9_25) 138 n9_26) 139 w9_27) 140 d9_28) 142 m9_29) 143 V9_30) 144 W9_31) 145 U9_32) 146 Y9_33) 147 p9_34) 148 q9_35) 149 r9_36 := h9e.trans (by rw [pz_u1_top (r := 2)]; rw [pz_u1_top (r := 134)]; rw [pz_u1_top (r := 138)]; rw [pz_u1_top (r := 139)]; rw [pz_u1_top (r := 140)]; rw [pz_u1_top (r := 142)]; rw [pz_u1_top (r := 143)]; rw [pz_u1_top (r := 144)]; rw [pz_u1_top (r := 145)]; rw [pz_u1_top (r := 146)]; rw [pz_u1_top (r := 147)]; rw [pz_u1_top (r := 148)]; rw [pz_u1_top (r := 149)] <;> rfl)
                 subst h9x
                 replace hci : q_CI k o9_24 n9_26 w9_27 d9_28 m9_29 V9_30 U9_32 (iv 129) (iv 135) := hci
                 replace ho2 : o9_24 2 = (iv 2) 2 := ho2
                 first | exact lf_e (by rfl) | (exfalso; omega))))
  · first
    | (exfalso; first | omega | contradiction)
    | (have hc37 : pz_R (pz_Sh L) 170 [.inr (.inl 2), .inl e] (iv) (.inr 2) (iv) := s_X10_needEvent_n e (by exact hE) (by exact h1)
       refine w_calle hc37 rfl (pz_cokI is_2 rfl) rfl ?_
       first | exact lf_e (by rfl) | (exfalso; omega))

theorem s_X10_uppermost_2b {L : Nat} {iv : Nat → Nat → Int} (e : Int) {k : Nat → Int} (hk : q_KR k) (hE : q_cE k (iv 3)) (hB : q_cB k (iv 4) (iv 5) (iv 6) (iv 7) (iv 8) (iv 9)) (hS : q_cS k (iv 10) (iv 11) (iv 12) (iv 13) (iv 14)) (hC : q_cC k (iv 15) (iv 16)) (hA : q_cA k (iv 17) (iv 18) (iv 19) (iv 20)) (hO : q_cO k (iv 22) (iv 23) (iv 24)) (hL : q_cL k (iv 25)) (hP : q_cP k (iv 27)) (hci : q_CI k (iv 2) (iv 138) (iv 139) (iv 140) (iv 142) (iv 143) (iv 145) (iv 129) (iv 135)) (hcase0 : 0 ≤ e ∧ e ≤ k 0 - 1) (hcase1 : ¬ q_sta k e) (hcase2 : ¬ q_sen k) : pz_RE (pz_Sh L) 149 [.inr (.inl 2), .inl e] iv (.inr 0) (fun iv9 => ∃ (o9 : Nat → Int) (l9 : Nat → Int) (n9 : Nat → Int) (w9 : Nat → Int) (d9 : Nat → Int) (m9 : Nat → Int) (V9 : Nat → Int) (W9 : Nat → Int) (U9 : Nat → Int) (Y9 : Nat → Int) (p9 : Nat → Int) (q9 : Nat → Int) (r9 : Nat → Int), iv9 = pz_u1 (pz_u1 (pz_u1 (pz_u1 (pz_u1 (pz_u1 (pz_u1 (pz_u1 (pz_u1 (pz_u1 (pz_u1 (pz_u1 (pz_u1 iv 2 o9) 134 l9) 138 n9) 139 w9) 140 d9) 142 m9) 143 V9) 144 W9) 145 U9) 146 Y9) 147 p9) 148 q9) 149 r9 ∧ (q_CI k o9 n9 w9 d9 m9 V9 U9 (iv 129) (iv 135)) ∧ (o9 2 = (iv 2) 2)) := by
  intro dv cc ss
  have hk0 := hk.r0
  have hE0 := hE
  have hB0 := hB.1
  have hS0 := hS.1
  have hC0 := hC.1
  have hA0 := hA.1
  refine pz_G_mem (iv2 := pz_u1 (pz_u1 (pz_u1 (pz_u1 (pz_u1 (pz_u1 (pz_u1 (pz_u1 (pz_u1 (pz_u1 (pz_u1 (pz_u1 (pz_u1 iv 2 (iv 2)) 134 (iv 134)) 138 (iv 138)) 139 (iv 139)) 140 (iv 140)) 142 (iv 142)) 143 (iv 143)) 144 (iv 144)) 145 (iv 145)) 146 (iv 146)) 147 (iv 147)) 148 (iv 148)) 149 (iv 149)) (by exact (((((((((((((pz_u1_self iv 2).symm).trans (pz_u1_self (pz_u1 iv 2 (iv 2)) 134).symm).trans (pz_u1_self (pz_u1 (pz_u1 iv 2 (iv 2)) 134 (iv 134)) 138).symm).trans (pz_u1_self (pz_u1 (pz_u1 (pz_u1 iv 2 (iv 2)) 134 (iv 134)) 138 (iv 138)) 139).symm).trans (pz_u1_self (pz_u1 (pz_u1 (pz_u1 (pz_u1 iv 2 (iv 2)) 134 (iv 134)) 138 (iv 138)) 139 (iv 139)) 140).symm).trans (pz_u1_self (pz_u1 (pz_u1 (pz_u1 (pz_u1 (pz_u1 iv 2 (iv 2)) 134 (iv 134)) 138 (iv 138)) 139 (iv 139)) 140 (iv 140)) 142).symm).trans (pz_u1_self (pz_u1 (pz_u1 (pz_u1 (pz_u1 (pz_u1 (pz_u1 iv 2 (iv 2)) 134 (iv 134)) 138 (iv 138)) 139 (iv 139)) 140 (iv 140)) 142 (iv 142)) 143).symm).trans (pz_u1_self (pz_u1 (pz_u1 (pz_u1 (pz_u1 (pz_u1 (pz_u1 (pz_u1 iv 2 (iv 2)) 134 (iv 134)) 138 (iv 138)) 139 (iv 139)) 140 (iv 140)) 142 (iv 142)) 143 (iv 143)) 144).symm).trans (pz_u1_self (pz_u1 (pz_u1 (pz_u1 (pz_u1 (pz_u1 (pz_u1 (pz_u1 (pz_u1 iv 2 (iv 2)) 134 (iv 134)) 138 (iv 138)) 139 (iv 139)) 140 (iv 140)) 142 (iv 142)) 143 (iv 143)) 144 (iv 144)) 145).symm).trans (pz_u1_self (pz_u1 (pz_u1 (pz_u1 (pz_u1 (pz_u1 (pz_u1 (pz_u1 (pz_u1 (pz_u1 iv 2 (iv 2)) 134 (iv 134)) 138 (iv 138)) 139 (iv 139)) 140 (iv 140)) 142 (iv 142)) 143 (iv 143)) 144 (iv 144)) 145 (iv 145)) 146).symm).trans (pz_u1_self (pz_u1 (pz_u1 (pz_u1 (pz_u1 (pz_u1 (pz_u1 (pz_u1 (pz_u1 (pz_u1 (pz_u1 iv 2 (iv 2)) 134 (iv 134)) 138 (iv 138)) 139 (iv 139)) 140 (iv 140)) 142 (iv 142)) 143 (iv 143)) 144 (iv 144)) 145 (iv 145)) 146 (iv 146)) 147).symm).trans (pz_u1_self (pz_u1 (pz_u1 (pz_u1 (pz_u1 (pz_u1 (pz_u1 (pz_u1 (pz_u1 (pz_u1 (pz_u1 (pz_u1 iv 2 (iv 2)) 134 (iv 134)) 138 (iv 138)) 139 (iv 139)) 140 (iv 140)) 142 (iv 142)) 143 (iv 143)) 144 (iv 144)) 145 (iv 145)) 146 (iv 146)) 147 (iv 147)) 148).symm).trans (pz_u1_self (pz_u1 (pz_u1 (pz_u1 (pz_u1 (pz_u1 (pz_u1 (pz_u1 (pz_u1 (pz_u1 (pz_u1 (pz_u1 (pz_u1 iv 2 (iv 2)) 134 (iv 134)) 138 (iv 138)) 139 (iv 139)) 140 (iv 140)) 142 (iv 142)) 143 (iv 143)) 144 (iv 144)) 145 (iv 145)) 146 (iv 146)) 147 (iv 147)) 148 (iv 148)) 149).symm) ?_
  show pz_G 149 0 [some (.inr (.inl 2)), some (.inl e)] [] (pz_Sh L, pz_u1 (pz_u1 (pz_u1 (pz_u1 (pz_u1 (pz_u1 (pz_u1 (pz_u1 (pz_u1 (pz_u1 (pz_u1 (pz_u1 (pz_u1 iv 2 (iv 2)) 134 (iv 134)) 138 (iv 138)) 139 (iv 139)) 140 (iv 140)) 142 (iv 142)) 143 (iv 143)) 144 (iv 144)) 145 (iv 145)) 146 (iv 146)) 147 (iv 147)) 148 (iv 148)) 149 (iv 149), dv, cc, ss) (pz_PE (pz_Sh L) (.inr 0) (fun iv9 => ∃ (o9 : Nat → Int) (l9 : Nat → Int) (n9 : Nat → Int) (w9 : Nat → Int) (d9 : Nat → Int) (m9 : Nat → Int) (V9 : Nat → Int) (W9 : Nat → Int) (U9 : Nat → Int) (Y9 : Nat → Int) (p9 : Nat → Int) (q9 : Nat → Int) (r9 : Nat → Int), iv9 = pz_u1 (pz_u1 (pz_u1 (pz_u1 (pz_u1 (pz_u1 (pz_u1 (pz_u1 (pz_u1 (pz_u1 (pz_u1 (pz_u1 (pz_u1 iv 2 o9) 134 l9) 138 n9) 139 w9) 140 d9) 142 m9) 143 V9) 144 W9) 145 U9) 146 Y9) 147 p9) 148 q9) 149 r9 ∧ (q_CI k o9 n9 w9 d9 m9 V9 U9 (iv 129) (iv 135)) ∧ (o9 2 = (iv 2) 2)) dv cc ss)
  refine pz_G_of pz_b149_0 ?_
  refine w_loc rfl ?_
  refine w_loc rfl ?_
  by_cases h1 : 0 ≤ e ∧ e < k 0
  · first
    | (exfalso; first | omega | contradiction)
    | (have hc2 : pz_R (pz_Sh L) 170 [.inr (.inl 2), .inl e] (pz_u1 (pz_u1 (pz_u1 (pz_u1 (pz_u1 (pz_u1 (pz_u1 (pz_u1 (pz_u1 (pz_u1 (pz_u1 (pz_u1 (pz_u1 iv 2 (iv 2)) 134 (iv 134)) 138 (iv 138)) 139 (iv 139)) 140 (iv 140)) 142 (iv 142)) 143 (iv 143)) 144 (iv 144)) 145 (iv 145)) 146 (iv 146)) 147 (iv 147)) 148 (iv 148)) 149 (iv 149)) (.inl none) (pz_u1 (pz_u1 (pz_u1 (pz_u1 (pz_u1 (pz_u1 (pz_u1 (pz_u1 (pz_u1 (pz_u1 (pz_u1 (pz_u1 (pz_u1 iv 2 (iv 2)) 134 (iv 134)) 138 (iv 138)) 139 (iv 139)) 140 (iv 140)) 142 (iv 142)) 143 (iv 143)) 144 (iv 144)) 145 (iv 145)) 146 (iv 146)) 147 (iv 147)) 148 (iv 148)) 149 (iv 149)) := s_X10_needEvent_y e (by show q_cE k (iv 3); exact hE) (by show 0 ≤ e ∧ e < k 0; exact h1)
       refine w_callv hc2 rfl (pz_cokI is_2 rfl) ?_
       refine w_loc rfl ?_
       refine w_getR (q := 3) is_2 rf_2_0 ?_
       refine w_getR (q := 15) is_3 rf_3_3 ?_
       refine w_loc rfl ?_
       have hc3 : pz_R (pz_Sh L) 26 [.inr (.inl 15), .inl e] (pz_u1 (pz_u1 (pz_u1 (pz_u1 (pz_u1 (pz_u1 (pz_u1 (pz_u1 (pz_u1 (pz_u1 (pz_u1 (pz_u1 (pz_u1 iv 2 (iv 2)) 134 (iv 134)) 138 (iv 138)) 139 (iv 139)) 140 (iv 140)) 142 (iv 142)) 143 (iv 143)) 144 (iv 144)) 145 (iv 145)) 146 (iv 146)) 147 (iv 147)) 148 (iv 148)) 149 (iv 149)) (.inl (some (.inl (pz_bi (q_sta k e))))) (pz_u1 (pz_u1 (pz_u1 (pz_u1 (pz_u1 (pz_u1 (pz_u1 (pz_u1 (pz_u1 (pz_u1 (pz_u1 (pz_u1 (pz_u1 iv 2 (iv 2)) 134 (iv 134)) 138 (iv 138)) 139 (iv 139)) 140 (iv 140)) 142 (iv 142)) 143 (iv 143)) 144 (iv 144)) 145 (iv 145)) 146 (iv 146)) 147 (iv 147)) 148 (iv 148)) 149 (iv 149)) := s_X2_hasStarted_15 e (by show q_KR k; exact hk) (by show q_cC k (iv 15) (iv 16); exact hC) (by show 0 ≤ e ∧ e ≤ 9; omega)
       refine w_call hc3 rfl (pz_cokI is_15 rfl) ?_
       refine w_bne (fun h4 => ?_) (fun h4 => ?_)
       · first
         | (exfalso; first | omega | contradiction)
         | (refine pz_G_of pz_b149_23 ?_
            refine w_pure rfl ?_
            refine w_nil ?_
            refine pz_G_of pz_b149_24 ?_
            have hc5 : pz_R (pz_Sh L) 173 [.inl 0] (pz_u1 (pz_u1 (pz_u1 (pz_u1 (pz_u1 (pz_u1 (pz_u1 (pz_u1 (pz_u1 (pz_u1 (pz_u1 (pz_u1 (pz_u1 iv 2 (iv 2)) 134 (iv 134)) 138 (iv 138)) 139 (iv 139)) 140 (iv 140)) 142 (iv 142)) 143 (iv 143)) 144 (iv 144)) 145 (iv 145)) 146 (iv 146)) 147 (iv 147)) 148 (iv 148)) 149 (iv 149)) (.inr 0) (pz_u1 (pz_u1 (pz_u1 (pz_u1 (pz_u1 (pz_u1 (pz_u1 (pz_u1 (pz_u1 (pz_u1 (pz_u1 (pz_u1 (pz_u1 iv 2 (iv 2)) 134 (iv 134)) 138 (iv 138)) 139 (iv 139)) 140 (iv 140)) 142 (iv 142)) 143 (iv 143)) 144 (iv 144)) 145 (iv 145)) 146 (iv 146)) 147 (iv 147)) 148 (iv 148)) 149 (iv 149)) := s_X10_needState_n 0 (by show 0 = 0; omega)
            refine w_calle hc5 rfl rfl rfl ?_
            first | exact ⟨pz_u1 (pz_u1 (pz_u1 (pz_u1 (pz_u1 (pz_u1 (pz_u1 (pz_u1 (pz_u1 (pz_u1 (pz_u1 (pz_u1 (pz_u1 iv 2 (iv 2)) 134 (iv 134)) 138 (iv 138)) 139 (iv 139)) 140 (iv 140)) 142 (iv 142)) 143 (iv 143)) 144 (iv 144)) 145 (iv 145)) 146 (iv 146)) 147 (iv 147)) 148 (iv 148)) 149 (iv 149), ⟨(iv 2), (iv 134), (iv 138), (iv 139), (iv 140), (iv 142), (iv 143), (iv 144), (iv 145), (iv 146), (iv 147), (iv 148), (iv 149), by rfl, by exact hci, by exact ho2⟩, lf_e (by rfl)⟩ | (exfalso; omega))
       · first
         | (exfalso; first | omega | contradiction)
         | (refine w_pure rfl ?_
            refine w_goto ?_
            refine pz_G_of pz_b149_24 ?_
            have hc6 : pz_R (pz_Sh L) 173 [.inl 1] (pz_u1 (pz_u1 (pz_u1 (pz_u1 (pz_u1 (pz_u1 (pz_u1 (pz_u1 (pz_u1 (pz_u1 (pz_u1 (pz_u1 (pz_u1 iv 2 (iv 2)) 134 (iv 134)) 138 (iv 138)) 139 (iv 139)) 140 (iv 140)) 142 (iv 142)) 143 (iv 143)) 144 (iv 144)) 145 (iv 145)) 146 (iv 146)) 147 (iv 147)) 148 (iv 148)) 149 (iv 149)) (.inl none) (pz_u1 (pz_u1 (pz_u1 (pz_u1 (pz_u1 (pz_u1 (pz_u1 (pz_u1 (pz_u1 (pz_u1 (pz_u1 (pz_u1 (pz_u1 iv 2 (iv 2)) 134 (iv 134)) 138 (iv 138)) 139 (iv 139)) 140 (iv 140)) 142 (iv 142)) 143 (iv 143)) 144 (iv 144)) 145 (iv 145)) 146 (iv 146)) 147 (iv 147)) 148 (iv 148)) 149 (iv 149)) := s_X10_needState_y 1 (by show 1 ≠ 0; omega)
            refine w_callv hc6 rfl rfl ?_
            refine w_loc rfl ?_
            by_cases h7 : q_sen k
            · first
              | (exfalso; first | omega | contradiction)
              | (have hc8 := s_X10_goodReductions_y (L := L) (iv := pz_u1 (pz_u1 (pz_u1 (pz_u1 (pz_u1 (pz_u1 (pz_u1 (pz_u1 (pz_u1 (pz_u1 (pz_u1 (pz_u1 (pz_u1 iv 2 (iv 2)) 134 (iv 134)) 138 (iv 138)) 139 (iv 139)) 140 (iv 140)) 142 (iv 142)) 143 (iv 143)) 144 (iv 144)) 145 (iv 145)) 146 (iv 146)) 147 (iv 147)) 148 (iv 148)) 149 (iv 149)) (by show q_KR k; exact hk) (by show q_cE k (iv 3); exact hE) (by show q_cB k (iv 4) (iv 5) (iv 6) (iv 7) (iv 8) (iv 9); exact hB) (by show q_cS k (iv 10) (iv 11) (iv 12) (iv 13) (iv 14); exact hS) (by show q_cC k (iv 15) (iv 16); exact hC) (by show q_cL k (iv 25); exact hL) (by show q_CI k (iv 2) (iv 138) (iv 139) (iv 140) (iv 142) (iv 143) (iv 145) (iv 129) (iv 135); exact hci) (by show q_sen k; exact h7)
                 refine w_callE hc8 rfl (pz_cokI is_2 rfl) (fun iv9 h9 => ?_)
                 obtain ⟨o9_9, l9_10, n9_11, w9_12, d9_13, m9_14, V9_15, W9_16, U9_17, Y9_18, p9_19, q9_20, r9_21, h9e, hci, hRK, ho2⟩ := h9
                 have h9x : iv9 = pz_u1 (pz_u1 (pz_u1 (pz_u1 (pz_u1 (pz_u1 (pz_u1 (pz_u1 (pz_u1 (pz_u1 (pz_u1 (pz_u1 (pz_u1 iv 2 o9_9) 134 l9_10) 138 n9_11) 139 w9_12) 140 d9_13) 142 m9_14) 143 V9_15) 144 W9_16) 145 U9_17) 146 Y9_18) 147 p9_19) 148 q9_20) 149 r9_21 := h9e.trans (by rw [pz_u1_in (r := 2) (q := 149) (by decide)]; rw [pz_u1_in (r := 2) (q := 148) (by decide)]; rw [pz_u1_in (r := 2) (q := 147) (by decide)]; rw [pz_u1_in (r := 2) (q := 146) (by decide)]; rw [pz_u1_in (r := 2) (q := 145) (by decide)]; rw [pz_u1_in (r := 2) (q := 144) (by decide)]; rw [pz_u1_in (r := 2) (q := 143) (by decide)]; rw [pz_u1_in (r := 2) (q := 142) (by decide)]; rw [pz_u1_in (r := 2) (q := 140) (by decide)]; rw [pz_u1_in (r := 2) (q := 139) (by decide)]; rw [pz_u1_in (r := 2) (q := 138) (by decide)]; rw [pz_u1_in (r := 2) (q := 134) (by decide)]; rw [pz_u1_top (r := 2)]; rw [pz_u1_in (r := 134) (q := 149) (by decide)]; rw [pz_u1_in (r := 134) (q := 148) (by decide)]; rw [pz_u1_in (r := 134) (q := 147) (by decide)]; rw [pz_u1_in (r := 134) (q := 146) (by decide)]; rw [pz_u1_in (r := 134) (q := 145) (by decide)]; rw [pz_u1_in (r := 134) (q := 144) (by decide)]; rw [pz_u1_in (r := 134) (q := 143) (by decide)]; rw [pz_u1_in (r := 134) (q := 142) (by decide)]; rw [pz_u1_in (r := 134) (q := 140) (by decide)]; rw [pz_u1_in (r := 134) (q := 139) (by decide)]; rw [pz_u1_in (r := 134) (q := 138) (by decide)]; rw [pz_u1_top (r := 134)]; rw [pz_u1_in (r := 138) (q := 149) (by decide)]; rw [pz_u1_in (r := 138) (q := 148) (by decide)]; rw [pz_u1_in (r := 138) (q := 147) (by decide)]; rw [pz_u1_in (r := 138) (q := 146) (by decide)]; rw [pz_u1_in (r := 138) (q := 145) (by decide)]; rw [pz_u1_in (r := 138) (q := 144) (by decide)]; rw [pz_u1_in (r := 138) (q := 143) (by decide)]; rw [pz_u1_in (r := 138) (q := 142) (by decide)]; rw [pz_u1_in (r := 138) (q := 140) (by decide)]; rw [pz_u1_in (r := 138) (q := 139) (by decide)]; rw [pz_u1_top (r := 138)]; rw [pz_u1_in (r := 139) (q := 149) (by decide)]; rw [pz_u1_in (r := 139) (q := 148) (by decide)]; rw [pz_u1_in (r := 139) (q := 147) (by decide)]; rw [pz_u1_in (r := 139) (q := 146) (by decide)]; rw [pz_u1_in (r := 139) (q := 145) (by decide)]; rw [pz_u1_in (r := 139) (q := 144) (by decide)]; rw [pz_u1_in (r := 139) (q := 143) (by decide)]; rw [pz_u1_in (r := 139) (q := 142) (by decide)]; rw [pz_u1_in (r := 139) (q := 140) (by decide)]; rw [pz_u1_top (r := 139)]; rw [pz_u1_in (r := 140) (q := 149) (by decide)]; rw [pz_u1_in (r := 140) (q := 148) (by decide)]; rw [pz_u1_in (r := 140) (q := 147) (by decide)]; rw [pz_u1_in (r := 140) (q := 146) (by decide)]; rw [pz_u1_in (r := 140) (q := 145) (by decide)]; rw [pz_u1_in (r := 140) (q := 144) (by decide)]; rw [pz_u1_in (r := 140) (q := 143) (by decide)]; rw [pz_u1_in (r := 140) (q := 142) (by decide)]; rw [pz_u1_top (r := 140)]; rw [pz_u1_in (r := 142) (q := 149) (by decide)]; rw [pz_u1_in (r := 142) (q := 148) (by decide)]; rw [pz_u1_in (r := 142) (q := 147) (by decide)]; rw [pz_u1_in (r := 142) (q := 146) (by decide)]; rw [pz_u1_in (r := 142) (q := 145) (by decide)]; rw [pz_u1_in (r := 142) (q := 144) (by decide)]; rw [pz_u1_in (r := 142) (q := 143) (by decide)]; rw [pz_u1_top (r := 142)]; rw [pz_u1_in (r := 143) (q := 149) (by decide)]; rw [pz_u1_in (r := 143) (q := 148) (by decide)]; rw [pz_u1_in (r := 143) (q := 147) (by decide)]; rw [pz_u1_in (r := 143) (q := 146) (by decide)]; rw [pz_u1_in (r := 143) (q := 145) (by decide)]; rw [pz_u1_in (r := 143) (q := 144) (by decide)]; rw [pz_u1_top (r := 143)]; rw [pz_u1_in (r := 144) (q := 149) (by decide)]; rw [pz_u1_in (r := 144) (q := 148) (by decide)]; rw [pz_u1_in (r := 144) (q := 147) (by decide)]; rw [pz_u1_in (r := 144) (q := 146) (by decide)]; rw [pz_u1_in (r := 144) (q := 145) (by decide)]; rw [pz_u1_top (r := 144)]; rw [pz_u1_in (r := 145) (q := 149) (by decide)]; rw [pz_u1_in (r := 145) (q := 148) (by decide)]; rw [pz_u1_in (r := 145) (q := 147) (by decide)]; rw [pz_u1_in (r := 145) (q := 146) (by decide)]; rw [pz_u1_top (r := 145)]; rw [pz_u1_in (r := 146) (q := 149) (by decide)]; rw [pz_u1_in (r := 146) (q := 148) (by decide)]; rw [pz_u1_in (r := 146) (q := 147) (by decide)]; rw [pz_u1_top (r := 146)]; rw [pz_u1_in (r := 147) (q := 149) (by decide)]; rw [pz_u1_in (r := 147) (q := 148) (by decide)]; rw [pz_u1_top (r := 147)]; rw [pz_u1_in (r := 148) (q := 149) (by decide)]; rw [pz_u1_top (r := 148)]; rw [pz_u1_top (r := 149)] <;> rfl)
                 subst h9x
                 replace hci : q_CI k o9_9 n9_11 w9_12 d9_13 m9_14 V9_15 U9_17 (iv 129) (iv 135) := hci
                 replace hRK : q_RK k m9_14 V9_15 U9_17 := hRK
                 replace ho2 : o9_9 2 = (iv 2) 2 := ho2
                 refine w_loc rfl ?_
                 refine w_loc rfl ?_
                 refine w_getR (q := 3) is_2 rf_2_0 ?_
                 refine w_getR (q := 15) is_3 rf_3_3 ?_
                 have hc22 : pz_R (pz_Sh L) 104 [.inr (.inl 142), .inl e, .inr (.inl 15)] (pz_u1 (pz_u1 (pz_u1 (pz_u1 (pz_u1 (pz_u1 (pz_u1 (pz_u1 (pz_u1 (pz_u1 (pz_u1 (pz_u1 (pz_u1 iv 2 o9_9) 134 l9_10) 138 n9_11) 139 w9_12) 140 d9_13) 142 m9_14) 143 V9_15) 144 W9_16) 145 U9_17) 146 Y9_18) 147 p9_19) 148 q9_20) 149 r9_21) (.inl (some (.inl (q_hi (q_val k) (q_ka k) k e)))) (pz_u1 (pz_u1 (pz_u1 (pz_u1 (pz_u1 (pz_u1 (pz_u1 (pz_u1 (pz_u1 (pz_u1 (pz_u1 (pz_u1 (pz_u1 iv 2 o9_9) 134 l9_10) 138 n9_11) 139 w9_12) 140 d9_13) 142 m9_14) 143 V9_15) 144 W9_16) 145 U9_17) 146 Y9_18) 147 p9_19) 148 q9_20) 149 r9_21) := s_X8_windowHigh_15 e (by show q_KR k; exact hk) (by show q_cE k (iv 3); exact hE) (by show q_cC k (iv 15) (iv 16); exact hC) (by show q_VU k (q_val k) V9_15 U9_17; exact hRK.2.2 (by assumption)) (by show q_vb (q_val k); exact q_vb_val hk (by assumption)) (by show 0 ≤ e ∧ e < k 0; omega)
                 refine w_call hc22 rfl (pz_cokI is_142 rfl) ?_
                 refine w_ret rfl ?_
                 first | exact ⟨pz_u1 (pz_u1 (pz_u1 (pz_u1 (pz_u1 (pz_u1 (pz_u1 (pz_u1 (pz_u1 (pz_u1 (pz_u1 (pz_u1 (pz_u1 iv 2 o9_9) 134 l9_10) 138 n9_11) 139 w9_12) 140 d9_13) 142 m9_14) 143 V9_15) 144 W9_16) 145 U9_17) 146 Y9_18) 147 p9_19) 148 q9_20) 149 r9_21, ⟨o9_9, l9_10, n9_11, w9_12, d9_13, m9_14, V9_15, W9_16, U9_17, Y9_18, p9_19, q9_20, r9_21, by rfl, by exact hci, by exact ho2⟩, lf_i (by first | rfl | omega) (by rfl)⟩ | (exfalso; omega))
            · first
              | (exfalso; first | omega | contradiction)
              | (have hc23 := s_X10_goodReductions_n (L := L) (iv := pz_u1 (pz_u1 (pz_u1 (pz_u1 (pz_u1 (pz_u1 (pz_u1 (pz_u1 (pz_u1 (pz_u1 (pz_u1 (pz_u1 (pz_u1 iv 2 (iv 2)) 134 (iv 134)) 138 (iv 138)) 139 (iv 139)) 140 (iv 140)) 142 (iv 142)) 143 (iv 143)) 144 (iv 144)) 145 (iv 145)) 146 (iv 146)) 147 (iv 147)) 148 (iv 148)) 149 (iv 149)) (by show q_KR k; exact hk) (by show q_cE k (iv 3); exact hE) (by show q_cB k (iv 4) (iv 5) (iv 6) (iv 7) (iv 8) (iv 9); exact hB) (by show q_cS k (iv 10) (iv 11) (iv 12) (iv 13) (iv 14); exact hS) (by show q_cC k (iv 15) (iv 16); exact hC) (by show q_cL k (iv 25); exact hL) (by show q_CI k (iv 2) (iv 138) (iv 139) (iv 140) (iv 142) (iv 143) (iv 145) (iv 129) (iv 135); exact hci) (by show ¬ q_sen k; exact h7)
                 refine w_calleE hc23 rfl (pz_cokI is_2 rfl) rfl (fun iv9 h9 => ?_)
                 obtain ⟨o9_24, l9_25, n9_26, w9_27, d9_28, m9_29, V9_30, W9_31, U9_32, Y9_33, p9_34, q9_35, r9_36, h9e, hci, ho2⟩ := h9
                 have h9x : iv9 = pz_u1 (pz_u1 (pz_u1 (pz_u1 (pz_u1 (pz_u1 (pz_u1 (pz_u1 (pz_u1 (pz_u1 (pz_u1 (pz_u1 (pz_u1 iv 2 o9_24) 134 l9_25) 138 n9_26) 139 w9_27) 140 d9_28) 142 m9_29) 143 V9_30) 144 W9_31) 145 U9_32) 146 Y9_33) 147 p9_34) 148 q9_35) 149 r9_36 := h9e.trans (by rw [pz_u1_in (r := 2) (q := 149) (by decide)]; rw [pz_u1_in (r := 2) (q := 148) (by decide)]; rw [pz_u1_in (r := 2) (q := 147) (by decide)]; rw [pz_u1_in (r := 2) (q := 146) (by decide)]; rw [pz_u1_in (r := 2) (q := 145) (by decide)]; rw [pz_u1_in (r := 2) (q := 144) (by decide)]; rw [pz_u1_in (r := 2) (q := 143) (by decide)]; rw [pz_u1_in (r := 2) (q := 142) (by decide)]; rw [pz_u1_in (r := 2) (q := 140) (by decide)]; rw [pz_u1_in (r := 2) (q := 139) (by decide)]; rw [pz_u1_in (r := 2) (q := 138) (by decide)]; rw [pz_u1_in (r := 2) (q := 134) (by decide)]; rw [pz_u1_top (r := 2)]; rw [pz_u1_in (r := 134) (q := 149) (by decide)]; rw [pz_u1_in (r := 134) (q := 148) (by decide)]; rw [pz_u1_in (r := 134) (q := 147) (by decide)]; rw [pz_u1_in (r := 134) (q := 146) (by decide)]; rw [pz_u1_in (r := 134) (q := 145) (by decide)]; rw [pz_u1_in (r := 134) (q := 144) (by decide)]; rw [pz_u1_in (r := 134) (q := 143) (by decide)]; rw [pz_u1_in (r := 134) (q := 142) (by decide)]; rw [pz_u1_in (r := 134) (q := 140) (by decide)]; rw [pz_u1_in (r := 134) (q := 139) (by decide)]; rw [pz_u1_in (r := 134) (q := 138) (by decide)]; rw [pz_u1_top (r := 134)]; rw [pz_u1_in (r := 138) (q := 149) (by decide)]; rw [pz_u1_in (r := 138) (q := 148) (by decide)]; rw [pz_u1_in (r := 138) (q := 147) (by decide)]; rw [pz_u1_in (r := 138) (q := 146) (by decide)]; rw [pz_u1_in (r := 138) (q := 145) (by decide)]; rw [pz_u1_in (r := 138) (q := 144) (by decide)]; rw [pz_u1_in (r := 138) (q := 143) (by decide)]; rw [pz_u1_in (r := 138) (q := 142) (by decide)]; rw [pz_u1_in (r := 138) (q := 140) (by decide)]; rw [pz_u1_in (r := 138) (q := 139) (by decide)]; rw [pz_u1_top (r := 138)]; rw [pz_u1_in (r := 139) (q := 149) (by decide)]; rw [pz_u1_in (r := 139) (q := 148) (by decide)]; rw [pz_u1_in (r := 139) (q := 147) (by decide)]; rw [pz_u1_in (r := 139) (q := 146) (by decide)]; rw [pz_u1_in (r := 139) (q := 145) (by decide)]; rw [pz_u1_in (r := 139) (q := 144) (by decide)]; rw [pz_u1_in (r := 139) (q := 143) (by decide)]; rw [pz_u1_in (r := 139) (q := 142) (by decide)]; rw [pz_u1_in (r := 139) (q := 140) (by decide)]; rw [pz_u1_top (r := 139)]; rw [pz_u1_in (r := 140) (q := 149) (by decide)]; rw [pz_u1_in (r := 140) (q := 148) (by decide)]; rw [pz_u1_in (r := 140) (q := 147) (by decide)]; rw [pz_u1_in (r := 140) (q := 146) (by decide)]; rw [pz_u1_in (r := 140) (q := 145) (by decide)]; rw [pz_u1_in (r := 140) (q := 144) (by decide)]; rw [pz_u1_in (r := 140) (q := 143) (by decide)]; rw [pz_u1_in (r := 140) (q := 142) (by decide)]; rw [pz_u1_top (r := 140)]; rw [pz_u1_in (r := 142) (q := 149) (by decide)]; rw [pz_u1_in (r := 142) (q := 148) (by decide)]; rw [pz_u1_in (r := 142) (q := 147) (by decide)]; rw [pz_u1_in (r := 142) (q := 146) (by decide)]; rw [pz_u1_in (r := 142) (q := 145) (by decide)]; rw [pz_u1_in (r := 142) (q := 144) (by decide)]; rw [pz_u1_in (r := 142) (q := 143) (by decide)]; rw [pz_u1_top (r := 142)]; rw [pz_u1_in (r := 143) (q := 149) (by decide)]; rw [pz_u1_in (r := 143) (q := 148) (by decide)]; rw [pz_u1_in (r := 143) (q := 147) (by decide)]; rw [pz_u1_in (r := 143) (q := 146) (by decide)]; rw [pz_u1_in (r := 143) (q := 145) (by decide)]; rw [pz_u1_in (r := 143) (q := 144) (by decide)]; rw [pz_u1_top (r := 143)]; rw [pz_u1_in (r := 144) (q := 149) (by decide)]; rw [pz_u1_in (r := 144) (q := 148) (by decide)]; rw [pz_u1_in (r := 144) (q := 147) (by decide)]; rw [pz_u1_in (r := 144) (q := 146) (by decide)]; rw [pz_u1_in (r := 144) (q := 145) (by decide)]; rw [pz_u1_top (r := 144)]; rw [pz_u1_in (r := 145) (q := 149) (by decide)]; rw [pz_u1_in (r := 145) (q := 148) (by decide)]; rw [pz_u1_in (r := 145) (q := 147) (by decide)]; rw [pz_u1_in (r := 145) (q := 146) (by decide)]; rw [pz_u1_top (r := 145)]; rw [pz_u1_in (r := 146) (q := 149) (by decide)]; rw [pz_u1_in (r := 146) (q := 148) (by decide)]; rw [pz_u1_in (r := 146) (q := 147) (by decide)]; rw [pz_u1_top (r := 146)]; rw [pz_u1_in (r := 147) (q := 149) (by decide)]; rw [pz_u1_in (r := 147) (q := 148) (by decide)]; rw [pz_u1_top (r := 147)]; rw [pz_u1_in (r := 148) (q := 149) (by decide)]; rw [pz_u1_top (r := 148)]; rw [pz_u1_top (r := 149)] <;> rfl)
                 subst h9x
                 replace hci : q_CI k o9_24 n9_26 w9_27 d9_28 m9_29 V9_30 U9_32 (iv 129) (iv 135) := hci
                 replace ho2 : o9_24 2 = (iv 2) 2 := ho2
                 first | exact ⟨pz_u1 (pz_u1 (pz_u1 (pz_u1 (pz_u1 (pz_u1 (pz_u1 (pz_u1 (pz_u1 (pz_u1 (pz_u1 (pz_u1 (pz_u1 iv 2 o9_24) 134 l9_25) 138 n9_26) 139 w9_27) 140 d9_28) 142 m9_29) 143 V9_30) 144 W9_31) 145 U9_32) 146 Y9_33) 147 p9_34) 148 q9_35) 149 r9_36, ⟨o9_24, l9_25, n9_26, w9_27, d9_28, m9_29, V9_30, W9_31, U9_32, Y9_33, p9_34, q9_35, r9_36, by rfl, by exact hci, by exact ho2⟩, lf_e (by rfl)⟩ | (exfalso; omega))))
  · first
    | (exfalso; first | omega | contradiction)
    | (have hc37 : pz_R (pz_Sh L) 170 [.inr (.inl 2), .inl e] (pz_u1 (pz_u1 (pz_u1 (pz_u1 (pz_u1 (pz_u1 (pz_u1 (pz_u1 (pz_u1 (pz_u1 (pz_u1 (pz_u1 (pz_u1 iv 2 (iv 2)) 134 (iv 134)) 138 (iv 138)) 139 (iv 139)) 140 (iv 140)) 142 (iv 142)) 143 (iv 143)) 144 (iv 144)) 145 (iv 145)) 146 (iv 146)) 147 (iv 147)) 148 (iv 148)) 149 (iv 149)) (.inr 2) (pz_u1 (pz_u1 (pz_u1 (pz_u1 (pz_u1 (pz_u1 (pz_u1 (pz_u1 (pz_u1 (pz_u1 (pz_u1 (pz_u1 (pz_u1 iv 2 (iv 2)) 134 (iv 134)) 138 (iv 138)) 139 (iv 139)) 140 (iv 140)) 142 (iv 142)) 143 (iv 143)) 144 (iv 144)) 145 (iv 145)) 146 (iv 146)) 147 (iv 147)) 148 (iv 148)) 149 (iv 149)) := s_X10_needEvent_n e (by show q_cE k (iv 3); exact hE) (by show ¬ (0 ≤ e ∧ e < k 0); exact h1)
       refine w_calle hc37 rfl (pz_cokI is_2 rfl) rfl ?_
       first | exact ⟨pz_u1 (pz_u1 (pz_u1 (pz_u1 (pz_u1 (pz_u1 (pz_u1 (pz_u1 (pz_u1 (pz_u1 (pz_u1 (pz_u1 (pz_u1 iv 2 (iv 2)) 134 (iv 134)) 138 (iv 138)) 139 (iv 139)) 140 (iv 140)) 142 (iv 142)) 143 (iv 143)) 144 (iv 144)) 145 (iv 145)) 146 (iv 146)) 147 (iv 147)) 148 (iv 148)) 149 (iv 149), ⟨(iv 2), (iv 134), (iv 138), (iv 139), (iv 140), (iv 142), (iv 143), (iv 144), (iv 145), (iv 146), (iv 147), (iv 148), (iv 149), by rfl, by exact hci, by exact ho2⟩, lf_e (by rfl)⟩ | (exfalso; omega))

theorem s_X10_uppermost_0 {L : Nat} {iv : Nat → Nat → Int} (e : Int) {k : Nat → Int} (hk : q_KR k) (hE : q_cE k (iv 3)) (hB : q_cB k (iv 4) (iv 5) (iv 6) (iv 7) (iv 8) (iv 9)) (hS : q_cS k (iv 10) (iv 11) (iv 12) (iv 13) (iv 14)) (hC : q_cC k (iv 15) (iv 16)) (hA : q_cA k (iv 17) (iv 18) (iv 19) (iv 20)) (hO : q_cO k (iv 22) (iv 23) (iv 24)) (hL : q_cL k (iv 25)) (hP : q_cP k (iv 27)) (hci : q_CI k (iv 2) (iv 138) (iv 139) (iv 140) (iv 142) (iv 143) (iv 145) (iv 129) (iv 135)) (hcase0 : 0 ≤ e ∧ e ≤ k 0 - 1) (hcase1 : ¬ q_sta k e) (hcase2 : q_sen k) : pz_RE (pz_Sh L) 149 [.inr (.inl 2), .inl e] iv (.inl (some (.inl (q_hi (q_val k) (q_ka k) k e)))) (fun iv9 => ∃ (o9 : Nat → Int) (l9 : Nat → Int) (n9 : Nat → Int) (w9 : Nat → Int) (d9 : Nat → Int) (m9 : Nat → Int) (V9 : Nat → Int) (W9 : Nat → Int) (U9 : Nat → Int) (Y9 : Nat → Int) (p9 : Nat → Int) (q9 : Nat → Int) (r9 : Nat → Int), iv9 = pz_u1 (pz_u1 (pz_u1 (pz_u1 (pz_u1 (pz_u1 (pz_u1 (pz_u1 (pz_u1 (pz_u1 (pz_u1 (pz_u1 (pz_u1 iv 2 o9) 134 l9) 138 n9) 139 w9) 140 d9) 142 m9) 143 V9) 144 W9) 145 U9) 146 Y9) 147 p9) 148 q9) 149 r9 ∧ (q_CI k o9 n9 w9 d9 m9 V9 U9 (iv 129) (iv 135)) ∧ (o9 2 = (iv 2) 2)) := by
  intro dv cc ss
  have hk0 := hk.r0
  have hE0 := hE
  have hB0 := hB.1
  have hS0 := hS.1
  have hC0 := hC.1
  have hA0 := hA.1
  refine pz_G_mem (iv2 := pz_u1 (pz_u1 (pz_u1 (pz_u1 (pz_u1 (pz_u1 (pz_u1 (pz_u1 (pz_u1 (pz_u1 (pz_u1 (pz_u1 (pz_u1 iv 2 (iv 2)) 134 (iv 134)) 138 (iv 138)) 139 (iv 139)) 140 (iv 140)) 142 (iv 142)) 143 (iv 143)) 144 (iv 144)) 145 (iv 145)) 146 (iv 146)) 147 (iv 147)) 148 (iv 148)) 149 (iv 149)) (by exact (((((((((((((pz_u1_self iv 2).symm).trans (pz_u1_self (pz_u1 iv 2 (iv 2)) 134).symm).trans (pz_u1_self (pz_u1 (pz_u1 iv 2 (iv 2)) 134 (iv 134)) 138).symm).trans (pz_u1_self (pz_u1 (pz_u1 (pz_u1 iv 2 (iv 2)) 134 (iv 134)) 138 (iv 138)) 139).symm).trans (pz_u1_self (pz_u1 (pz_u1 (pz_u1 (pz_u1 iv 2 (iv 2)) 134 (iv 134)) 138 (iv 138)) 139 (iv 139)) 140).symm).trans (pz_u1_self (pz_u1 (pz_u1 (pz_u1 (pz_u1 (pz_u1 iv 2 (iv 2)) 134 (iv 134)) 138 (iv 138)) 139 (iv 139)) 140 (iv 140)) 142).symm).trans (pz_u1_self (pz_u1 (pz_u1 (pz_u1 (pz_u1 (pz_u1 (pz_u1 iv 2 (iv 2)) 134 (iv 134)) 138 (iv 138)) 139 (iv 139)) 140 (iv 140)) 142 (iv 142)) 143).symm).trans (pz_u1_self (pz_u1 (pz_u1 (pz_u1 (pz_u1 (pz_u1 (pz_u1 (pz_u1 iv 2 (iv 2)) 134 (iv 134)) 138 (iv 138)) 139 (iv 139)) 140 (iv 140)) 142 (iv 142)) 143 (iv 143)) 144).symm).trans (pz_u1_self (pz_u1 (pz_u1 (pz_u1 (pz_u1 (pz_u1 (pz_u1 (pz_u1 (pz_u1 iv 2 (iv 2)) 134 (iv 134)) 138 (iv 138)) 139 (iv 139)) 140 (iv 140)) 142 (iv 142)) 143 (iv 143)) 144 (iv 144)) 145).symm).trans (pz_u1_self (pz_u1 (pz_u1 (pz_u1 (pz_u1 (pz_u1 (pz_u1 (pz_u1 (pz_u1 (pz_u1 iv 2 (iv 2)) 134 (iv 134)) 138 (iv 138)) 139 (iv 139)) 140 (iv 140)) 142 (iv 142)) 143 (iv 143)) 144 (iv 144)) 145 (iv 145)) 146).symm).trans (pz_u1_self (pz_u1 (pz_u1 (pz_u1 (pz_u1 (pz_u1 (pz_u1 (pz_u1 (pz_u1 (pz_u1 (pz_u1 iv 2 (iv 2)) 134 (iv 134)) 138 (iv 138)) 139 (iv 139)) 140 (iv 140)) 142 (iv 142)) 143 (iv 143)) 144 (iv 144)) 145 (iv 145)) 146 (iv 146)) 147).symm).trans (pz_u1_self (pz_u1 (pz_u1 (pz_u1 (pz_u1 (pz_u1 (pz_u1 (pz_u1 (pz_u1 (pz_u1 (pz_u1 (pz_u1 iv 2 (iv 2)) 134 (iv 134)) 138 (iv 138)) 139 (iv 139)) 140 (iv 140)) 142 (iv 142)) 143 (iv 143)) 144 (iv 144)) 145 (iv 145)) 146 (iv 146)) 147 (iv 147)) 148).symm).trans (pz_u1_self (pz_u1 (pz_u1 (pz_u1 (pz_u1 (pz_u1 (pz_u1 (pz_u1 (pz_u1 (pz_u1 (pz_u1 (pz_u1 (pz_u1 iv 2 (iv 2)) 134 (iv 134)) 138 (iv 138)) 139 (iv 139)) 140 (iv 140)) 142 (iv 142)) 143 (iv 143)) 144 (iv 144)) 145 (iv 145)) 146 (iv 146)) 147 (iv 147)) 148 (iv 148)) 149).symm) ?_
  show pz_G 149 0 [some (.inr (.inl 2)), some (.inl e)] [] (pz_Sh L, pz_u1 (pz_u1 (pz_u1 (pz_u1 (pz_u1 (pz_u1 (pz_u1 (pz_u1 (pz_u1 (pz_u1 (pz_u1 (pz_u1 (pz_u1 iv 2 (iv 2)) 134 (iv 134)) 138 (iv 138)) 139 (iv 139)) 140 (iv 140)) 142 (iv 142)) 143 (iv 143)) 144 (iv 144)) 145 (iv 145)) 146 (iv 146)) 147 (iv 147)) 148 (iv 148)) 149 (iv 149), dv, cc, ss) (pz_PE (pz_Sh L) (.inl (some (.inl (q_hi (q_val k) (q_ka k) k e)))) (fun iv9 => ∃ (o9 : Nat → Int) (l9 : Nat → Int) (n9 : Nat → Int) (w9 : Nat → Int) (d9 : Nat → Int) (m9 : Nat → Int) (V9 : Nat → Int) (W9 : Nat → Int) (U9 : Nat → Int) (Y9 : Nat → Int) (p9 : Nat → Int) (q9 : Nat → Int) (r9 : Nat → Int), iv9 = pz_u1 (pz_u1 (pz_u1 (pz_u1 (pz_u1 (pz_u1 (pz_u1 (pz_u1 (pz_u1 (pz_u1 (pz_u1 (pz_u1 (pz_u1 iv 2 o9) 134 l9) 138 n9) 139 w9) 140 d9) 142 m9) 143 V9) 144 W9) 145 U9) 146 Y9) 147 p9) 148 q9) 149 r9 ∧ (q_CI k o9 n9 w9 d9 m9 V9 U9 (iv 129) (iv 135)) ∧ (o9 2 = (iv 2) 2)) dv cc ss)
  refine pz_G_of pz_b149_0 ?_
  refine w_loc rfl ?_
  refine w_loc rfl ?_
  by_cases h1 : 0 ≤ e ∧ e < k 0
  · first
    | (exfalso; first | omega | contradiction)
    | (have hc2 : pz_R (pz_Sh L) 170 [.inr (.inl 2), .inl e] (pz_u1 (pz_u1 (pz_u1 (pz_u1 (pz_u1 (pz_u1 (pz_u1 (pz_u1 (pz_u1 (pz_u1 (pz_u1 (pz_u1 (pz_u1 iv 2 (iv 2)) 134 (iv 134)) 138 (iv 138)) 139 (iv 139)) 140 (iv 140)) 142 (iv 142)) 143 (iv 143)) 144 (iv 144)) 145 (iv 145)) 146 (iv 146)) 147 (iv 147)) 148 (iv 148)) 149 (iv 149)) (.inl none) (pz_u1 (pz_u1 (pz_u1 (pz_u1 (pz_u1 (pz_u1 (pz_u1 (pz_u1 (pz_u1 (pz_u1 (pz_u1 (pz_u1 (pz_u1 iv 2 (iv 2)) 134 (iv 134)) 138 (iv 138)) 139 (iv 139)) 140 (iv 140)) 142 (iv 142)) 143 (iv 143)) 144 (iv 144)) 145 (iv 145)) 146 (iv 146)) 147 (iv 147)) 148 (iv 148)) 149 (iv 149)) := s_X10_needEvent_y e (by show q_cE k (iv 3); exact hE) (by show 0 ≤ e ∧ e < k 0; exact h1)
       refine w_callv hc2 rfl (pz_cokI is_2 rfl) ?_
       refine w_loc rfl ?_
       refine w_getR (q := 3) is_2 rf_2_0 ?_
       refine w_getR (q := 15) is_3 rf_3_3 ?_
       refine w_loc rfl ?_
       have hc3 : pz_R (pz_Sh L) 26 [.inr (.inl 15), .inl e] (pz_u1 (pz_u1 (pz_u1 (pz_u1 (pz_u1 (pz_u1 (pz_u1 (pz_u1 (pz_u1 (pz_u1 (pz_u1 (pz_u1 (pz_u1 iv 2 (iv 2)) 134 (iv 134)) 138 (iv 138)) 139 (iv 139)) 140 (iv 140)) 142 (iv 142)) 143 (iv 143)) 144 (iv 144)) 145 (iv 145)) 146 (iv 146)) 147 (iv 147)) 148 (iv 148)) 149 (iv 149)) (.inl (some (.inl (pz_bi (q_sta k e))))) (pz_u1 (pz_u1 (pz_u1 (pz_u1 (pz_u1 (pz_u1 (pz_u1 (pz_u1 (pz_u1 (pz_u1 (pz_u1 (pz_u1 (pz_u1 iv 2 (iv 2)) 134 (iv 134)) 138 (iv 138)) 139 (iv 139)) 140 (iv 140)) 142 (iv 142)) 143 (iv 143)) 144 (iv 144)) 145 (iv 145)) 146 (iv 146)) 147 (iv 147)) 148 (iv 148)) 149 (iv 149)) := s_X2_hasStarted_15 e (by show q_KR k; exact hk) (by show q_cC k (iv 15) (iv 16); exact hC) (by show 0 ≤ e ∧ e ≤ 9; omega)
       refine w_call hc3 rfl (pz_cokI is_15 rfl) ?_
       refine w_bne (fun h4 => ?_) (fun h4 => ?_)
       · first
         | (exfalso; first | omega | contradiction)
         | (refine pz_G_of pz_b149_23 ?_
            refine w_pure rfl ?_
            refine w_nil ?_
            refine pz_G_of pz_b149_24 ?_
            have hc5 : pz_R (pz_Sh L) 173 [.inl 0] (pz_u1 (pz_u1 (pz_u1 (pz_u1 (pz_u1 (pz_u1 (pz_u1 (pz_u1 (pz_u1 (pz_u1 (pz_u1 (pz_u1 (pz_u1 iv 2 (iv 2)) 134 (iv 134)) 138 (iv 138)) 139 (iv 139)) 140 (iv 140)) 142 (iv 142)) 143 (iv 143)) 144 (iv 144)) 145 (iv 145)) 146 (iv 146)) 147 (iv 147)) 148 (iv 148)) 149 (iv 149)) (.inr 0) (pz_u1 (pz_u1 (pz_u1 (pz_u1 (pz_u1 (pz_u1 (pz_u1 (pz_u1 (pz_u1 (pz_u1 (pz_u1 (pz_u1 (pz_u1 iv 2 (iv 2)) 134 (iv 134)) 138 (iv 138)) 139 (iv 139)) 140 (iv 140)) 142 (iv 142)) 143 (iv 143)) 144 (iv 144)) 145 (iv 145)) 146 (iv 146)) 147 (iv 147)) 148 (iv 148)) 149 (iv 149)) := s_X10_needState_n 0 (by show 0 = 0; omega)
            refine w_calle hc5 rfl rfl rfl ?_
            first | exact ⟨pz_u1 (pz_u1 (pz_u1 (pz_u1 (pz_u1 (pz_u1 (pz_u1 (pz_u1 (pz_u1 (pz_u1 (pz_u1 (pz_u1 (pz_u1 iv 2 (iv 2)) 134 (iv 134)) 138 (iv 138)) 139 (iv 139)) 140 (iv 140)) 142 (iv 142)) 143 (iv 143)) 144 (iv 144)) 145 (iv 145)) 146 (iv 146)) 147 (iv 147)) 148 (iv 148)) 149 (iv 149), ⟨(iv 2), (iv 134), (iv 138), (iv 139), (iv 140), (iv 142), (iv 143), (iv 144), (iv 145), (iv 146), (iv 147), (iv 148), (iv 149), by rfl, by exact hci, by exact ho2⟩, lf_e (by rfl)⟩ | (exfalso; omega))
       · first
         | (exfalso; first | omega | contradiction)
         | (refine w_pure rfl ?_
            refine w_goto ?_
            refine pz_G_of pz_b149_24 ?_
            have hc6 : pz_R (pz_Sh L) 173 [.inl 1] (pz_u1 (pz_u1 (pz_u1 (pz_u1 (pz_u1 (pz_u1 (pz_u1 (pz_u1 (pz_u1 (pz_u1 (pz_u1 (pz_u1 (pz_u1 iv 2 (iv 2)) 134 (iv 134)) 138 (iv 138)) 139 (iv 139)) 140 (iv 140)) 142 (iv 142)) 143 (iv 143)) 144 (iv 144)) 145 (iv 145)) 146 (iv 146)) 147 (iv 147)) 148 (iv 148)) 149 (iv 149)) (.inl none) (pz_u1 (pz_u1 (pz_u1 (pz_u1 (pz_u1 (pz_u1 (pz_u1 (pz_u1 (pz_u1 (pz_u1 (pz_u1 (pz_u1 (pz_u1 iv 2 (iv 2)) 134 (iv 134)) 138 (iv 138)) 139 (iv 139)) 140 (iv 140)) 142 (iv 142)) 143 (iv 143)) 144 (iv 144)) 145 (iv 145)) 146 (iv 146)) 147 (iv 147)) 148 (iv 148)) 149 (iv 149)) := s_X10_needState_y 1 (by show 1 ≠ 0; omega)
            refine w_callv hc6 rfl rfl ?_
            refine w_loc rfl ?_
            by_cases h7 : q_sen k
            · first
              | (exfalso; first | omega | contradiction)
              | (have hc8 := s_X10_goodReductions_y (L := L) (iv := pz_u1 (pz_u1 (pz_u1 (pz_u1 (pz_u1 (pz_u1 (pz_u1 (pz_u1 (pz_u1 (pz_u1 (pz_u1 (pz_u1 (pz_u1 iv 2 (iv 2)) 134 (iv 134)) 138 (iv 138)) 139 (iv 139)) 140 (iv 140)) 142 (iv 142)) 143 (iv 143)) 144 (iv 144)) 145 (iv 145)) 146 (iv 146)) 147 (iv 147)) 148 (iv 148)) 149 (iv 149)) (by show q_KR k; exact hk) (by show q_cE k (iv 3); exact hE) (by show q_cB k (iv 4) (iv 5) (iv 6) (iv 7) (iv 8) (iv 9); exact hB) (by show q_cS k (iv 10) (iv 11) (iv 12) (iv 13) (iv 14); exact hS) (by show q_cC k (iv 15) (iv 16); exact hC) (by show q_cL k (iv 25); exact hL) (by show q_CI k (iv 2) (iv 138) (iv 139) (iv 140) (iv 142) (iv 143) (iv 145) (iv 129) (iv 135); exact hci) (by show q_sen k; exact h7)
                 refine w_callE hc8 rfl (pz_cokI is_2 rfl) (fun iv9 h9 => ?_)
                 obtain ⟨o9_9, l9_10, n9_11, w9_12, d9_13, m9_14, V9_15, W9_16, U9_17, Y9_18, p9_19, q9_20, r9_21, h9e, hci, hRK, ho2⟩ := h9
                 have h9x : iv9 = pz_u1 (pz_u1 (pz_u1 (pz_u1 (pz_u1 (pz_u1 (pz_u1 (pz_u1 (pz_u1 (pz_u1 (pz_u1 (pz_u1 (pz_u1 iv 2 o9_9) 134 l9_10) 138 n9_11) 139 w9_12) 140 d9_13) 142 m9_14) 143 V9_15) 144 W9_16) 145 U9_17) 146 Y9_18) 147 p9_19) 148 q9_20) 149 r9_21 := h9e.trans (by rw [pz_u1_in (r := 2) (q := 149) (by decide)]; rw [pz_u1_in (r := 2) (q := 148) (by decide)]; rw [pz_u1_in (r := 2) (q := 147) (by decide)]; rw [pz_u1_in (r := 2) (q := 146) (by decide)]; rw [pz_u1_in (r := 2) (q := 145) (by decide)]; rw [pz_u1_in (r := 2) (q := 144) (by decide)]; rw [pz_u1_in (r := 2) (q := 143) (by decide)]; rw [pz_u1_in (r := 2) (q := 142) (by decide)]; rw [pz_u1_in (r := 2) (q := 140) (by decide)]; rw [pz_u1_in (r := 2) (q := 139) (by decide)]; rw [pz_u1_in (r := 2) (q := 138) (by decide)]; rw [pz_u1_in (r := 2) (q := 134) (by decide)]; rw [pz_u1_top (r := 2)]; rw [pz_u1_in (r := 134) (q := 149) (by decide)]; rw [pz_u1_in (r := 134) (q := 148) (by decide)]; rw [pz_u1_in (r := 134) (q := 147) (by decide)]; rw [pz_u1_in (r := 134) (q := 146) (by decide)]; rw [pz_u1_in (r := 134) (q := 145) (by decide)]; rw [pz_u1_in (r := 134) (q := 144) (by decide)]; rw [pz_u1_in (r := 134) (q := 143) (by decide)]; rw [pz_u1_in (r := 134) (q := 142) (by decide)]; rw [pz_u1_in (r := 134) (q := 140) (by decide)]; rw [pz_u1_in (r := 134) (q := 139) (by decide)]; rw [pz_u1_in (r := 134) (q := 138) (by decide)]; rw [pz_u1_top (r := 134)]; rw [pz_u1_in (r := 138) (q := 149) (by decide)]; rw [pz_u1_in (r := 138) (q := 148) (by decide)]; rw [pz_u1_in (r := 138) (q := 147) (by decide)]; rw [pz_u1_in (r := 138) (q := 146) (by decide)]; rw [pz_u1_in (r := 138) (q := 145) (by decide)]; rw [pz_u1_in (r := 138) (q := 144) (by decide)]; rw [pz_u1_in (r := 138) (q := 143) (by decide)]; rw [pz_u1_in (r := 138) (q := 142) (by decide)]; rw [pz_u1_in (r := 138) (q := 140) (by decide)]; rw [pz_u1_in (r := 138) (q := 139) (by decide)]; rw [pz_u1_top (r := 138)]; rw [pz_u1_in (r := 139) (q := 149) (by decide)]; rw [pz_u1_in (r := 139) (q := 148) (by decide)]; rw [pz_u1_in (r := 139) (q := 147) (by decide)]; rw [pz_u1_in (r := 139) (q := 146) (by decide)]; rw [pz_u1_in (r := 139) (q := 145) (by decide)]; rw [pz_u1_in (r := 139) (q := 144) (by decide)]; rw [pz_u1_in (r := 139) (q := 143) (by decide)]; rw [pz_u1_in (r := 139) (q := 142) (by decide)]; rw [pz_u1_in (r := 139) (q := 140) (by decide)]; rw [pz_u1_top (r := 139)]; rw [pz_u1_in (r := 140) (q := 149) (by decide)]; rw [pz_u1_in (r := 140) (q := 148) (by decide)]; rw [pz_u1_in (r := 140) (q := 147) (by decide)]; rw [pz_u1_in (r := 140) (q := 146) (by decide)]; rw [pz_u1_in (r := 140) (q := 145) (by decide)]; rw [pz_u1_in (r := 140) (q := 144) (by decide)]; rw [pz_u1_in (r := 140) (q := 143) (by decide)]; rw [pz_u1_in (r := 140) (q := 142) (by decide)]; rw [pz_u1_top (r := 140)]; rw [pz_u1_in (r := 142) (q := 149) (by decide)]; rw [pz_u1_in (r := 142) (q := 148) (by decide)]; rw [pz_u1_in (r := 142) (q := 147) (by decide)]; rw [pz_u1_in (r := 142) (q := 146) (by decide)]; rw [pz_u1_in (r := 142) (q := 145) (by decide)]; rw [pz_u1_in (r := 142) (q := 144) (by decide)]; rw [pz_u1_in (r := 142) (q := 143) (by decide)]; rw [pz_u1_top (r := 142)]; rw [pz_u1_in (r := 143) (q := 149) (by decide)]; rw [pz_u1_in (r := 143) (q := 148) (by decide)]; rw [pz_u1_in (r := 143) (q := 147) (by decide)]; rw [pz_u1_in (r := 143) (q := 146) (by decide)]; rw [pz_u1_in (r := 143) (q := 145) (by decide)]; rw [pz_u1_in (r := 143) (q := 144) (by decide)]; rw [pz_u1_top (r := 143)]; rw [pz_u1_in (r := 144) (q := 149) (by decide)]; rw [pz_u1_in (r := 144) (q := 148) (by decide)]; rw [pz_u1_in (r := 144) (q := 147) (by decide)]; rw [pz_u1_in (r := 144) (q := 146) (by decide)]; rw [pz_u1_in (r := 144) (q := 145) (by decide)]; rw [pz_u1_top (r := 144)]; rw [pz_u1_in (r := 145) (q := 149) (by decide)]; rw [pz_u1_in (r := 145) (q := 148) (by decide)]; rw [pz_u1_in (r := 145) (q := 147) (by decide)]; rw [pz_u1_in (r := 145) (q := 146) (by decide)]; rw [pz_u1_top (r := 145)]; rw [pz_u1_in (r := 146) (q := 149) (by decide)]; rw [pz_u1_in (r := 146) (q := 148) (by decide)]; rw [pz_u1_in (r := 146) (q := 147) (by decide)]; rw [pz_u1_top (r := 146)]; rw [pz_u1_in (r := 147) (q := 149) (by decide)]; rw [pz_u1_in (r := 147) (q := 148) (by decide)]; rw [pz_u1_top (r := 147)]; rw [pz_u1_in (r := 148) (q := 149) (by decide)]; rw [pz_u1_top (r := 148)]; rw [pz_u1_top (r := 149)] <;> rfl)
                 subst h9x
                 replace hci : q_CI k o9_9 n9_11 w9_12 d9_13 m9_14 V9_15 U9_17 (iv 129) (iv 135) := hci
                 replace hRK : q_RK k m9_14 V9_15 U9_17 := hRK
                 replace ho2 : o9_9 2 = (iv 2) 2 := ho2
                 refine w_loc rfl ?_
                 refine w_loc rfl ?_
                 refine w_getR (q := 3) is_2 rf_2_0 ?_
                 refine w_getR (q := 15) is_3 rf_3_3 ?_
                 have hc22 : pz_R (pz_Sh L) 104 [.inr (.inl 142), .inl e, .inr (.inl 15)] (pz_u1 (pz_u1 (pz_u1 (pz_u1 (pz_u1 (pz_u1 (pz_u1 (pz_u1 (pz_u1 (pz_u1 (pz_u1 (pz_u1 (pz_u1 iv 2 o9_9) 134 l9_10) 138 n9_11) 139 w9_12) 140 d9_13) 142 m9_14) 143 V9_15) 144 W9_16) 145 U9_17) 146 Y9_18) 147 p9_19) 148 q9_20) 149 r9_21) (.inl (some (.inl (q_hi (q_val k) (q_ka k) k e)))) (pz_u1 (pz_u1 (pz_u1 (pz_u1 (pz_u1 (pz_u1 (pz_u1 (pz_u1 (pz_u1 (pz_u1 (pz_u1 (pz_u1 (pz_u1 iv 2 o9_9) 134 l9_10) 138 n9_11) 139 w9_12) 140 d9_13) 142 m9_14) 143 V9_15) 144 W9_16) 145 U9_17) 146 Y9_18) 147 p9_19) 148 q9_20) 149 r9_21) := s_X8_windowHigh_15 e (by show q_KR k; exact hk) (by show q_cE k (iv 3); exact hE) (by show q_cC k (iv 15) (iv 16); exact hC) (by show q_VU k (q_val k) V9_15 U9_17; exact hRK.2.2 (by assumption)) (by show q_vb (q_val k); exact q_vb_val hk (by assumption)) (by show 0 ≤ e ∧ e < k 0; omega)
                 refine w_call hc22 rfl (pz_cokI is_142 rfl) ?_
                 refine w_ret rfl ?_
                 first | exact ⟨pz_u1 (pz_u1 (pz_u1 (pz_u1 (pz_u1 (pz_u1 (pz_u1 (pz_u1 (pz_u1 (pz_u1 (pz_u1 (pz_u1 (pz_u1 iv 2 o9_9) 134 l9_10) 138 n9_11) 139 w9_12) 140 d9_13) 142 m9_14) 143 V9_15) 144 W9_16) 145 U9_17) 146 Y9_18) 147 p9_19) 148 q9_20) 149 r9_21, ⟨o9_9, l9_10, n9_11, w9_12, d9_13, m9_14, V9_15, W9_16, U9_17, Y9_18, p9_19, q9_20, r9_21, by rfl, by exact hci, by exact ho2⟩, lf_i (by first | rfl | omega) (by rfl)⟩ | (exfalso; omega))
            · first
              | (exfalso; first | omega | contradiction)
              | (have hc23 := s_X10_goodReductions_n (L := L) (iv := pz_u1 (pz_u1 (pz_u1 (pz_u1 (pz_u1 (pz_u1 (pz_u1 (pz_u1 (pz_u1 (pz_u1 (pz_u1 (pz_u1 (pz_u1 iv 2 (iv 2)) 134 (iv 134)) 138 (iv 138)) 139 (iv 139)) 140 (iv 140)) 142 (iv 142)) 143 (iv 143)) 144 (iv 144)) 145 (iv 145)) 146 (iv 146)) 147 (iv 147)) 148 (iv 148)) 149 (iv 149)) (by show q_KR k; exact hk) (by show q_cE k (iv 3); exact hE) (by show q_cB k (iv 4) (iv 5) (iv 6) (iv 7) (iv 8) (iv 9); exact hB) (by show q_cS k (iv 10) (iv 11) (iv 12) (iv 13) (iv 14); exact hS) (by show q_cC k (iv 15) (iv 16); exact hC) (by show q_cL k (iv 25); exact hL) (by show q_CI k (iv 2) (iv 138) (iv 139) (iv 140) (iv 142) (iv 143) (iv 145) (iv 129) (iv 135); exact hci) (by show ¬ q_sen k; exact h7)
                 refine w_calleE hc23 rfl (pz_cokI is_2 rfl) rfl (fun iv9 h9 => ?_)
                 obtain ⟨o9_24, l9_25, n9_26, w9_27, d9_28, m9_29, V9_30, W9_31, U9_32, Y9_33, p9_34, q9_35, r9_36, h9e, hci, ho2⟩ := h9
                 have h9x : iv9 = pz_u1 (pz_u1 (pz_u1 (pz_u1 (pz_u1 (pz_u1 (pz_u1 (pz_u1 (pz_u1 (pz_u1 (pz_u1 (pz_u1 (pz_u1 iv 2 o9_24) 134 l9_25) 138 n9_26) 139 w9_27) 140 d9_28) 142 m9_29) 143 V9_30) 144 W9_31) 145 U9_32) 146 Y9_33) 147 p9_34) 148 q9_35) 149 r9_36 := h9e.trans (by rw [pz_u1_in (r := 2) (q := 149) (by decide)]; rw [pz_u1_in (r := 2) (q := 148) (by decide)]; rw [pz_u1_in (r := 2) (q := 147) (by decide)]; rw [pz_u1_in (r := 2) (q := 146) (by decide)]; rw [pz_u1_in (r := 2) (q := 145) (by decide)]; rw [pz_u1_in (r := 2) (q := 144) (by decide)]; rw [pz_u1_in (r := 2) (q := 143) (by decide)]; rw [pz_u1_in (r := 2) (q := 142) (by decide)]; rw [pz_u1_in (r := 2) (q := 140) (by decide)]; rw [pz_u1_in (r := 2) (q := 139) (by decide)]; rw [pz_u1_in (r := 2) (q := 138) (by decide)]; rw [pz_u1_in (r := 2) (q := 134) (by decide)]; rw [pz_u1_top (r := 2)]; rw [pz_u1_in (r := 134) (q := 149) (by decide)]; rw [pz_u1_in (r := 134) (q := 148) (by decide)]; rw [pz_u1_in (r := 134) (q := 147) (by decide)]; rw [pz_u1_in (r := 134) (q := 146) (by decide)]; rw [pz_u1_in (r := 134) (q := 145) (by decide)]; rw [pz_u1_in (r := 134) (q := 144) (by decide)]; rw [pz_u1_in (r := 134) (q := 143) (by decide)]; rw [pz_u1_in (r := 134) (q := 142) (by decide)]; rw [pz_u1_in (r := 134) (q := 140) (by decide)]; rw [pz_u1_in (r := 134) (q := 139) (by decide)]; rw [pz_u1_in (r := 134) (q := 138) (by decide)]; rw [pz_u1_top (r := 134)]; rw [pz_u1_in (r := 138) (q := 149) (by decide)]; rw [pz_u1_in (r := 138) (q := 148) (by decide)]; rw [pz_u1_in (r := 138) (q := 147) (by decide)]; rw [pz_u1_in (r := 138) (q := 146) (by decide)]; rw [pz_u1_in (r := 138) (q := 145) (by decide)]; rw [pz_u1_in (r := 138) (q := 144) (by decide)]; rw [pz_u1_in (r := 138) (q := 143) (by decide)]; rw [pz_u1_in (r := 138) (q := 142) (by decide)]; rw [pz_u1_in (r := 138) (q := 140) (by decide)]; rw [pz_u1_in (r := 138) (q := 139) (by decide)]; rw [pz_u1_top (r := 138)]; rw [pz_u1_in (r := 139) (q := 149) (by decide)]; rw [pz_u1_in (r := 139) (q := 148) (by decide)]; rw [pz_u1_in (r := 139) (q := 147) (by decide)]; rw [pz_u1_in (r := 139) (q := 146) (by decide)]; rw [pz_u1_in (r := 139) (q := 145) (by decide)]; rw [pz_u1_in (r := 139) (q := 144) (by decide)]; rw [pz_u1_in (r := 139) (q := 143) (by decide)]; rw [pz_u1_in (r := 139) (q := 142) (by decide)]; rw [pz_u1_in (r := 139) (q := 140) (by decide)]; rw [pz_u1_top (r := 139)]; rw [pz_u1_in (r := 140) (q := 149) (by decide)]; rw [pz_u1_in (r := 140) (q := 148) (by decide)]; rw [pz_u1_in (r := 140) (q := 147) (by decide)]; rw [pz_u1_in (r := 140) (q := 146) (by decide)]; rw [pz_u1_in (r := 140) (q := 145) (by decide)]; rw [pz_u1_in (r := 140) (q := 144) (by decide)]; rw [pz_u1_in (r := 140) (q := 143) (by decide)]; rw [pz_u1_in (r := 140) (q := 142) (by decide)]; rw [pz_u1_top (r := 140)]; rw [pz_u1_in (r := 142) (q := 149) (by decide)]; rw [pz_u1_in (r := 142) (q := 148) (by decide)]; rw [pz_u1_in (r := 142) (q := 147) (by decide)]; rw [pz_u1_in (r := 142) (q := 146) (by decide)]; rw [pz_u1_in (r := 142) (q := 145) (by decide)]; rw [pz_u1_in (r := 142) (q := 144) (by decide)]; rw [pz_u1_in (r := 142) (q := 143) (by decide)]; rw [pz_u1_top (r := 142)]; rw [pz_u1_in (r := 143) (q := 149) (by decide)]; rw [pz_u1_in (r := 143) (q := 148) (by decide)]; rw [pz_u1_in (r := 143) (q := 147) (by decide)]; rw [pz_u1_in (r := 143) (q := 146) (by decide)]; rw [pz_u1_in (r := 143) (q := 145) (by decide)]; rw [pz_u1_in (r := 143) (q := 144) (by decide)]; rw [pz_u1_top (r := 143)]; rw [pz_u1_in (r := 144) (q := 149) (by decide)]; rw [pz_u1_in (r := 144) (q := 148) (by decide)]; rw [pz_u1_in (r := 144) (q := 147) (by decide)]; rw [pz_u1_in (r := 144) (q := 146) (by decide)]; rw [pz_u1_in (r := 144) (q := 145) (by decide)]; rw [pz_u1_top (r := 144)]; rw [pz_u1_in (r := 145) (q := 149) (by decide)]; rw [pz_u1_in (r := 145) (q := 148) (by decide)]; rw [pz_u1_in (r := 145) (q := 147) (by decide)]; rw [pz_u1_in (r := 145) (q := 146) (by decide)]; rw [pz_u1_top (r := 145)]; rw [pz_u1_in (r := 146) (q := 149) (by decide)]; rw [pz_u1_in (r := 146) (q := 148) (by decide)]; rw [pz_u1_in (r := 146) (q := 147) (by decide)]; rw [pz_u1_top (r := 146)]; rw [pz_u1_in (r := 147) (q := 149) (by decide)]; rw [pz_u1_in (r := 147) (q := 148) (by decide)]; rw [pz_u1_top (r := 147)]; rw [pz_u1_in (r := 148) (q := 149) (by decide)]; rw [pz_u1_top (r := 148)]; rw [pz_u1_top (r := 149)] <;> rfl)
                 subst h9x
                 replace hci : q_CI k o9_24 n9_26 w9_27 d9_28 m9_29 V9_30 U9_32 (iv 129) (iv 135) := hci
                 replace ho2 : o9_24 2 = (iv 2) 2 := ho2
                 first | exact ⟨pz_u1 (pz_u1 (pz_u1 (pz_u1 (pz_u1 (pz_u1 (pz_u1 (pz_u1 (pz_u1 (pz_u1 (pz_u1 (pz_u1 (pz_u1 iv 2 o9_24) 134 l9_25) 138 n9_26) 139 w9_27) 140 d9_28) 142 m9_29) 143 V9_30) 144 W9_31) 145 U9_32) 146 Y9_33) 147 p9_34) 148 q9_35) 149 r9_36, ⟨o9_24, l9_25, n9_26, w9_27, d9_28, m9_29, V9_30, W9_31, U9_32, Y9_33, p9_34, q9_35, r9_36, by rfl, by exact hci, by exact ho2⟩, lf_e (by rfl)⟩ | (exfalso; omega))))
  · first
    | (exfalso; first | omega | contradiction)
    | (have hc37 : pz_R (pz_Sh L) 170 [.inr (.inl 2), .inl e] (pz_u1 (pz_u1 (pz_u1 (pz_u1 (pz_u1 (pz_u1 (pz_u1 (pz_u1 (pz_u1 (pz_u1 (pz_u1 (pz_u1 (pz_u1 iv 2 (iv 2)) 134 (iv 134)) 138 (iv 138)) 139 (iv 139)) 140 (iv 140)) 142 (iv 142)) 143 (iv 143)) 144 (iv 144)) 145 (iv 145)) 146 (iv 146)) 147 (iv 147)) 148 (iv 148)) 149 (iv 149)) (.inr 2) (pz_u1 (pz_u1 (pz_u1 (pz_u1 (pz_u1 (pz_u1 (pz_u1 (pz_u1 (pz_u1 (pz_u1 (pz_u1 (pz_u1 (pz_u1 iv 2 (iv 2)) 134 (iv 134)) 138 (iv 138)) 139 (iv 139)) 140 (iv 140)) 142 (iv 142)) 143 (iv 143)) 144 (iv 144)) 145 (iv 145)) 146 (iv 146)) 147 (iv 147)) 148 (iv 148)) 149 (iv 149)) := s_X10_needEvent_n e (by show q_cE k (iv 3); exact hE) (by show ¬ (0 ≤ e ∧ e < k 0); exact h1)
       refine w_calle hc37 rfl (pz_cokI is_2 rfl) rfl ?_
       first | exact ⟨pz_u1 (pz_u1 (pz_u1 (pz_u1 (pz_u1 (pz_u1 (pz_u1 (pz_u1 (pz_u1 (pz_u1 (pz_u1 (pz_u1 (pz_u1 iv 2 (iv 2)) 134 (iv 134)) 138 (iv 138)) 139 (iv 139)) 140 (iv 140)) 142 (iv 142)) 143 (iv 143)) 144 (iv 144)) 145 (iv 145)) 146 (iv 146)) 147 (iv 147)) 148 (iv 148)) 149 (iv 149), ⟨(iv 2), (iv 134), (iv 138), (iv 139), (iv 140), (iv 142), (iv 143), (iv 144), (iv 145), (iv 146), (iv 147), (iv 148), (iv 149), by rfl, by exact hci, by exact ho2⟩, lf_e (by rfl)⟩ | (exfalso; omega))

theorem s_X10_start_1 {L : Nat} {iv : Nat → Nat → Int} (e : Int) {k : Nat → Int} (hk : q_KR k) (hE : q_cE k (iv 3)) (hB : q_cB k (iv 4) (iv 5) (iv 6) (iv 7) (iv 8) (iv 9)) (hS : q_cS k (iv 10) (iv 11) (iv 12) (iv 13) (iv 14)) (hC : q_cC k (iv 15) (iv 16)) (hA : q_cA k (iv 17) (iv 18) (iv 19) (iv 20)) (hO : q_cO k (iv 22) (iv 23) (iv 24)) (hL : q_cL k (iv 25)) (hP : q_cP k (iv 27)) (hci : q_CI k (iv 2) (iv 138) (iv 139) (iv 140) (iv 142) (iv 143) (iv 145) (iv 129) (iv 135)) (hcase0 : ¬ (0 ≤ e ∧ e ≤ k 0 - 1)) : pz_R (pz_Sh L) 150 [.inr (.inl 2), .inl e] iv (.inr 2) iv := by
  intro dv cc ss
  have hk0 := hk.r0
  have hE0 := hE
  have hB0 := hB.1
  have hS0 := hS.1
  have hC0 := hC.1
  have hA0 := hA.1
  have hrr := q_rs_r (v := q_val k) (a := q_ka k) (k := k) (e := e) (m := k 4)
  show pz_G 150 0 [some (.inr (.inl 2)), some (.inl e)] [] (pz_Sh L, iv, dv, cc, ss) (pz_P (pz_Sh L) (.inr 2) iv dv cc ss)
  refine pz_G_of pz_b150_0 ?_
  refine w_loc rfl ?_
  refine w_loc rfl ?_
  by_cases h1 : 0 ≤ e ∧ e < k 0
  · first
    | (exfalso; first | omega | contradiction)
    | (have hc2 : pz_R (pz_Sh L) 170 [.inr (.inl 2), .inl e] (iv) (.inl none) (iv) := s_X10_needEvent_y e (by exact hE) (by exact h1)
       refine w_callv hc2 rfl (pz_cokI is_2 rfl) ?_
       refine w_loc rfl ?_
       by_cases h3 : q_sen k
       · first
         | (exfalso; first | omega | contradiction)
         | (have hc4 := s_X10_goodReductions_y (L := L) (iv := iv) (by exact hk) (by exact hE) (by exact hB) (by exact hS) (by exact hC) (by exact hL) (by exact hci) (by exact h3)
            refine w_callE hc4 rfl (pz_cokI is_2 rfl) (fun iv9 h9 => ?_)
            obtain ⟨o9_5, l9_6, n9_7, w9_8, d9_9, m9_10, V9_11, W9_12, U9_13, Y9_14, p9_15, q9_16, r9_17, h9e, hci, hRK, ho2⟩ := h9
            have h9x : iv9 = pz_u1 (pz_u1 (pz_u1 (pz_u1 (pz_u1 (pz_u1 (pz_u1 (pz_u1 (pz_u1 (pz_u1 (pz_u1 (pz_u1 (pz_u1 iv 2 o9_5) 134 l9_6) 138 n9_7) 139 w9_8) 140 d9_9) 142 m9_10) 143 V9_11) 144 W9_12) 145 U9_13) 146 Y9_14) 147 p9_15) 148 q9_16) 149 r9_17 := h9e.trans (by rw [pz_u1_top (r := 2)]; rw [pz_u1_top (r := 134)]; rw [pz_u1_top (r := 138)]; rw [pz_u1_top (r := 139)]; rw [pz_u1_top (r := 140)]; rw [pz_u1_top (r := 142)]; rw [pz_u1_top (r := 143)]; rw [pz_u1_top (r := 144)]; rw [pz_u1_top (r := 145)]; rw [pz_u1_top (r := 146)]; rw [pz_u1_top (r := 147)]; rw [pz_u1_top (r := 148)]; rw [pz_u1_top (r := 149)] <;> rfl)
            subst h9x
            replace hci : q_CI k o9_5 n9_7 w9_8 d9_9 m9_10 V9_11 U9_13 (iv 129) (iv 135) := hci
            replace hRK : q_RK k m9_10 V9_11 U9_13 := hRK
            replace ho2 : o9_5 2 = (iv 2) 2 := ho2
            refine w_loc rfl ?_
            refine w_loc rfl ?_
            refine w_getR (q := 3) is_2 rf_2_0 ?_
            refine w_getR (q := 15) is_3 rf_3_3 ?_
            have hc18 : pz_R (pz_Sh L) 105 [.inr (.inl 142), .inl e, .inr (.inl 15)] (pz_u1 (pz_u1 (pz_u1 (pz_u1 (pz_u1 (pz_u1 (pz_u1 (pz_u1 (pz_u1 (pz_u1 (pz_u1 (pz_u1 (pz_u1 iv 2 o9_5) 134 l9_6) 138 n9_7) 139 w9_8) 140 d9_9) 142 m9_10) 143 V9_11) 144 W9_12) 145 U9_13) 146 Y9_14) 147 p9_15) 148 q9_16) 149 r9_17) (.inl (some (.inl (q_rs (q_val k) (q_ka k) k e (k 4))))) (pz_u1 (pz_u1 (pz_u1 (pz_u1 (pz_u1 (pz_u1 (pz_u1 (pz_u1 (pz_u1 (pz_u1 (pz_u1 (pz_u1 (pz_u1 iv 2 o9_5) 134 l9_6) 138 n9_7) 139 w9_8) 140 d9_9) 142 m9_10) 143 V9_11) 144 W9_12) 145 U9_13) 146 Y9_14) 147 p9_15) 148 q9_16) 149 r9_17) := s_X8_reasonAgainst_15 e (by show q_KR k; exact hk) (by show q_cE k (iv 3); exact hE) (by show q_cS k (iv 10) (iv 11) (iv 12) (iv 13) (iv 14); exact hS) (by show q_cC k (iv 15) (iv 16); exact hC) (by show q_VU k (q_val k) V9_11 U9_13; exact hRK.2.2 (by assumption)) (by show q_vb (q_val k); exact q_vb_val hk (by assumption)) (by show 0 ≤ e ∧ e < k 0; omega)
            refine w_call hc18 rfl (pz_cokI is_142 rfl) ?_
            refine w_pure rfl ?_
            refine w_ieq (fun h19 => ?_) (fun h19 => ?_)
            · first
              | (exfalso; first | omega | contradiction)
              | (refine pz_G_of pz_b150_36 ?_
                 refine w_loc rfl ?_
                 refine w_getR (q := 3) is_2 rf_2_0 ?_
                 refine w_getR (q := 15) is_3 rf_3_3 ?_
                 refine w_loc rfl ?_
                 have hc20 : pz_R (pz_Sh L) 28 [.inr (.inl 15), .inl e] (pz_u1 (pz_u1 (pz_u1 (pz_u1 (pz_u1 (pz_u1 (pz_u1 (pz_u1 (pz_u1 (pz_u1 (pz_u1 (pz_u1 (pz_u1 iv 2 o9_5) 134 l9_6) 138 n9_7) 139 w9_8) 140 d9_9) 142 m9_10) 143 V9_11) 144 W9_12) 145 U9_13) 146 Y9_14) 147 p9_15) 148 q9_16) 149 r9_17) (.inl none) (pz_u1 (pz_u1 (pz_u1 (pz_u1 (pz_u1 (pz_u1 (pz_u1 (pz_u1 (pz_u1 (pz_u1 (pz_u1 (pz_u1 (pz_u1 (pz_u1 iv 2 o9_5) 16 (pz_up (iv 16) e.toNat (k 4))) 134 l9_6) 138 n9_7) 139 w9_8) 140 d9_9) 142 m9_10) 143 V9_11) 144 W9_12) 145 U9_13) 146 Y9_14) 147 p9_15) 148 q9_16) 149 r9_17) := pz_R_mem (s_X2_begin_15 e (by show q_cC k (iv 15) (iv 16); exact hC) (by show 0 ≤ e ∧ e ≤ 9; omega)) (by rw [pz_u1_in (r := 16) (q := 149) (by decide)]; rw [pz_u1_in (r := 16) (q := 148) (by decide)]; rw [pz_u1_in (r := 16) (q := 147) (by decide)]; rw [pz_u1_in (r := 16) (q := 146) (by decide)]; rw [pz_u1_in (r := 16) (q := 145) (by decide)]; rw [pz_u1_in (r := 16) (q := 144) (by decide)]; rw [pz_u1_in (r := 16) (q := 143) (by decide)]; rw [pz_u1_in (r := 16) (q := 142) (by decide)]; rw [pz_u1_in (r := 16) (q := 140) (by decide)]; rw [pz_u1_in (r := 16) (q := 139) (by decide)]; rw [pz_u1_in (r := 16) (q := 138) (by decide)]; rw [pz_u1_in (r := 16) (q := 134) (by decide)]; rw [pz_u1_top (r := 16)]; rfl)
                 refine w_callv hc20 rfl (pz_cokI is_15 rfl) ?_
                 refine w_loc rfl ?_
                 have hc21 : pz_R (pz_Sh L) 178 [.inr (.inl 2)] (pz_u1 (pz_u1 (pz_u1 (pz_u1 (pz_u1 (pz_u1 (pz_u1 (pz_u1 (pz_u1 (pz_u1 (pz_u1 (pz_u1 (pz_u1 (pz_u1 iv 2 o9_5) 16 (pz_up (iv 16) e.toNat (k 4))) 134 l9_6) 138 n9_7) 139 w9_8) 140 d9_9) 142 m9_10) 143 V9_11) 144 W9_12) 145 U9_13) 146 Y9_14) 147 p9_15) 148 q9_16) 149 r9_17) (.inl none) (pz_u1 (pz_u1 (pz_u1 (pz_u1 (pz_u1 (pz_u1 (pz_u1 (pz_u1 (pz_u1 (pz_u1 (pz_u1 (pz_u1 (pz_u1 (pz_u1 iv 2 (pz_up (pz_up (pz_up o9_5 7 0) 8 0) 9 0)) 16 (pz_up (iv 16) e.toNat (k 4))) 134 l9_6) 138 n9_7) 139 w9_8) 140 d9_9) 142 m9_10) 143 V9_11) 144 W9_12) 145 U9_13) 146 Y9_14) 147 p9_15) 148 q9_16) 149 r9_17) := pz_R_mem (s_X10_forget) (by rw [pz_u1_in (r := 2) (q := 149) (by decide)]; rw [pz_u1_in (r := 2) (q := 148) (by decide)]; rw [pz_u1_in (r := 2) (q := 147) (by decide)]; rw [pz_u1_in (r := 2) (q := 146) (by decide)]; rw [pz_u1_in (r := 2) (q := 145) (by decide)]; rw [pz_u1_in (r := 2) (q := 144) (by decide)]; rw [pz_u1_in (r := 2) (q := 143) (by decide)]; rw [pz_u1_in (r := 2) (q := 142) (by decide)]; rw [pz_u1_in (r := 2) (q := 140) (by decide)]; rw [pz_u1_in (r := 2) (q := 139) (by decide)]; rw [pz_u1_in (r := 2) (q := 138) (by decide)]; rw [pz_u1_in (r := 2) (q := 134) (by decide)]; rw [pz_u1_in (r := 2) (q := 16) (by decide)]; rw [pz_u1_top (r := 2)]; rfl)
                 refine w_callv hc21 rfl (pz_cokI is_2 rfl) ?_
                 refine w_loc rfl ?_
                 refine w_getR (q := 3) is_2 rf_2_0 ?_
                 refine w_getR (q := 15) is_3 rf_3_3 ?_
                 refine w_getI (v := (iv 15) 0) is_15 (by decide) rfl ?_
                 refine w_ret rfl ?_
                 first | exact lf_i (by first | rfl | omega) (by rfl) | (exfalso; omega))
            · first
              | (exfalso; first | omega | contradiction)
              | (refine w_thr (by decide) ?_
                 first | exact lf_e (by rfl) | (exfalso; omega)))
       · first
         | (exfalso; first | omega | contradiction)
         | (have hc22 := s_X10_goodReductions_n (L := L) (iv := iv) (by exact hk) (by exact hE) (by exact hB) (by exact hS) (by exact hC) (by exact hL) (by exact hci) (by exact h3)
            refine w_calleE hc22 rfl (pz_cokI is_2 rfl) rfl (fun iv9 h9 => ?_)
            obtain ⟨o9_23, l9_24, n9_25, w9_26, d9_27, m9_28, V9_29, W9_30, U9_31, Y9_32, p9_33, q9_34, r9_35, h9e, hci, ho2⟩ := h9
            have h9x : iv9 = pz_u1 (pz_u1 (pz_u1 (pz_u1 (pz_u1 (pz_u1 (pz_u1 (pz_u1 (pz_u1 (pz_u1 (pz_u1 (pz_u1 (pz_u1 iv 2 o9_23) 134 l9_24) 138 n9_25) 139 w9_26) 140 d9_27) 142 m9_28) 143 V9_29) 144 W9_30) 145 U9_31) 146 Y9_32) 147 p9_33) 148 q9_34) 149 r9_35 := h9e.trans (by rw [pz_u1_top (r := 2)]; rw [pz_u1_top (r := 134)]; rw [pz_u1_top (r := 138)]; rw [pz_u1_top (r := 139)]; rw [pz_u1_top (r := 140)]; rw [pz_u1_top (r := 142)]; rw [pz_u1_top (r := 143)]; rw [pz_u1_top (r := 144)]; rw [pz_u1_top (r := 145)]; rw [pz_u1_top (r := 146)]; rw [pz_u1_top (r := 147)]; rw [pz_u1_top (r := 148)]; rw [pz_u1_top (r := 149)] <;> rfl)
            subst h9x
            replace hci : q_CI k o9_23 n9_25 w9_26 d9_27 m9_28 V9_29 U9_31 (iv 129) (iv 135) := hci
            replace ho2 : o9_23 2 = (iv 2) 2 := ho2
            first | exact lf_e (by rfl) | (exfalso; omega)))
  · first
    | (exfalso; first | omega | contradiction)
    | (have hc36 : pz_R (pz_Sh L) 170 [.inr (.inl 2), .inl e] (iv) (.inr 2) (iv) := s_X10_needEvent_n e (by exact hE) (by exact h1)
       refine w_calle hc36 rfl (pz_cokI is_2 rfl) rfl ?_
       first | exact lf_e (by rfl) | (exfalso; omega))

theorem s_X10_start_2 {L : Nat} {iv : Nat → Nat → Int} (e : Int) {k : Nat → Int} (hk : q_KR k) (hE : q_cE k (iv 3)) (hB : q_cB k (iv 4) (iv 5) (iv 6) (iv 7) (iv 8) (iv 9)) (hS : q_cS k (iv 10) (iv 11) (iv 12) (iv 13) (iv 14)) (hC : q_cC k (iv 15) (iv 16)) (hA : q_cA k (iv 17) (iv 18) (iv 19) (iv 20)) (hO : q_cO k (iv 22) (iv 23) (iv 24)) (hL : q_cL k (iv 25)) (hP : q_cP k (iv 27)) (hci : q_CI k (iv 2) (iv 138) (iv 139) (iv 140) (iv 142) (iv 143) (iv 145) (iv 129) (iv 135)) (hcase0 : 0 ≤ e ∧ e ≤ k 0 - 1) (hcase1 : ¬ q_sen k) : pz_RE (pz_Sh L) 150 [.inr (.inl 2), .inl e] iv (.inr 0) (fun iv9 => ∃ (o9 : Nat → Int) (l9 : Nat → Int) (n9 : Nat → Int) (w9 : Nat → Int) (d9 : Nat → Int) (m9 : Nat → Int) (V9 : Nat → Int) (W9 : Nat → Int) (U9 : Nat → Int) (Y9 : Nat → Int) (p9 : Nat → Int) (q9 : Nat → Int) (r9 : Nat → Int), iv9 = pz_u1 (pz_u1 (pz_u1 (pz_u1 (pz_u1 (pz_u1 (pz_u1 (pz_u1 (pz_u1 (pz_u1 (pz_u1 (pz_u1 (pz_u1 iv 2 o9) 134 l9) 138 n9) 139 w9) 140 d9) 142 m9) 143 V9) 144 W9) 145 U9) 146 Y9) 147 p9) 148 q9) 149 r9 ∧ (q_CI k o9 n9 w9 d9 m9 V9 U9 (iv 129) (iv 135)) ∧ (o9 2 = (iv 2) 2)) := by
  intro dv cc ss
  have hk0 := hk.r0
  have hE0 := hE
  have hB0 := hB.1
  have hS0 := hS.1
  have hC0 := hC.1
  have hA0 := hA.1
  have hrr := q_rs_r (v := q_val k) (a := q_ka k) (k := k) (e := e) (m := k 4)
  refine pz_G_mem (iv2 := pz_u1 (pz_u1 (pz_u1 (pz_u1 (pz_u1 (pz_u1 (pz_u1 (pz_u1 (pz_u1 (pz_u1 (pz_u1 (pz_u1 (pz_u1 iv 2 (iv 2)) 134 (iv 134)) 138 (iv 138)) 139 (iv 139)) 140 (iv 140)) 142 (iv 142)) 143 (iv 143)) 144 (iv 144)) 145 (iv 145)) 146 (iv 146)) 147 (iv 147)) 148 (iv 148)) 149 (iv 149)) (by exact (((((((((((((pz_u1_self iv 2).symm).trans (pz_u1_self (pz_u1 iv 2 (iv 2)) 134).symm).trans (pz_u1_self (pz_u1 (pz_u1 iv 2 (iv 2)) 134 (iv 134)) 138).symm).trans (pz_u1_self (pz_u1 (pz_u1 (pz_u1 iv 2 (iv 2)) 134 (iv 134)) 138 (iv 138)) 139).symm).trans (pz_u1_self (pz_u1 (pz_u1 (pz_u1 (pz_u1 iv 2 (iv 2)) 134 (iv 134)) 138 (iv 138)) 139 (iv 139)) 140).symm).trans (pz_u1_self (pz_u1 (pz_u1 (pz_u1 (pz_u1 (pz_u1 iv 2 (iv 2)) 134 (iv 134)) 138 (iv 138)) 139 (iv 139)) 140 (iv 140)) 142).symm).trans (pz_u1_self (pz_u1 (pz_u1 (pz_u1 (pz_u1 (pz_u1 (pz_u1 iv 2 (iv 2)) 134 (iv 134)) 138 (iv 138)) 139 (iv 139)) 140 (iv 140)) 142 (iv 142)) 143).symm).trans (pz_u1_self (pz_u1 (pz_u1 (pz_u1 (pz_u1 (pz_u1 (pz_u1 (pz_u1 iv 2 (iv 2)) 134 (iv 134)) 138 (iv 138)) 139 (iv 139)) 140 (iv 140)) 142 (iv 142)) 143 (iv 143)) 144).symm).trans (pz_u1_self (pz_u1 (pz_u1 (pz_u1 (pz_u1 (pz_u1 (pz_u1 (pz_u1 (pz_u1 iv 2 (iv 2)) 134 (iv 134)) 138 (iv 138)) 139 (iv 139)) 140 (iv 140)) 142 (iv 142)) 143 (iv 143)) 144 (iv 144)) 145).symm).trans (pz_u1_self (pz_u1 (pz_u1 (pz_u1 (pz_u1 (pz_u1 (pz_u1 (pz_u1 (pz_u1 (pz_u1 iv 2 (iv 2)) 134 (iv 134)) 138 (iv 138)) 139 (iv 139)) 140 (iv 140)) 142 (iv 142)) 143 (iv 143)) 144 (iv 144)) 145 (iv 145)) 146).symm).trans (pz_u1_self (pz_u1 (pz_u1 (pz_u1 (pz_u1 (pz_u1 (pz_u1 (pz_u1 (pz_u1 (pz_u1 (pz_u1 iv 2 (iv 2)) 134 (iv 134)) 138 (iv 138)) 139 (iv 139)) 140 (iv 140)) 142 (iv 142)) 143 (iv 143)) 144 (iv 144)) 145 (iv 145)) 146 (iv 146)) 147).symm).trans (pz_u1_self (pz_u1 (pz_u1 (pz_u1 (pz_u1 (pz_u1 (pz_u1 (pz_u1 (pz_u1 (pz_u1 (pz_u1 (pz_u1 iv 2 (iv 2)) 134 (iv 134)) 138 (iv 138)) 139 (iv 139)) 140 (iv 140)) 142 (iv 142)) 143 (iv 143)) 144 (iv 144)) 145 (iv 145)) 146 (iv 146)) 147 (iv 147)) 148).symm).trans (pz_u1_self (pz_u1 (pz_u1 (pz_u1 (pz_u1 (pz_u1 (pz_u1 (pz_u1 (pz_u1 (pz_u1 (pz_u1 (pz_u1 (pz_u1 iv 2 (iv 2)) 134 (iv 134)) 138 (iv 138)) 139 (iv 139)) 140 (iv 140)) 142 (iv 142)) 143 (iv 143)) 144 (iv 144)) 145 (iv 145)) 146 (iv 146)) 147 (iv 147)) 148 (iv 148)) 149).symm) ?_
  show pz_G 150 0 [some (.inr (.inl 2)), some (.inl e)] [] (pz_Sh L, pz_u1 (pz_u1 (pz_u1 (pz_u1 (pz_u1 (pz_u1 (pz_u1 (pz_u1 (pz_u1 (pz_u1 (pz_u1 (pz_u1 (pz_u1 iv 2 (iv 2)) 134 (iv 134)) 138 (iv 138)) 139 (iv 139)) 140 (iv 140)) 142 (iv 142)) 143 (iv 143)) 144 (iv 144)) 145 (iv 145)) 146 (iv 146)) 147 (iv 147)) 148 (iv 148)) 149 (iv 149), dv, cc, ss) (pz_PE (pz_Sh L) (.inr 0) (fun iv9 => ∃ (o9 : Nat → Int) (l9 : Nat → Int) (n9 : Nat → Int) (w9 : Nat → Int) (d9 : Nat → Int) (m9 : Nat → Int) (V9 : Nat → Int) (W9 : Nat → Int) (U9 : Nat → Int) (Y9 : Nat → Int) (p9 : Nat → Int) (q9 : Nat → Int) (r9 : Nat → Int), iv9 = pz_u1 (pz_u1 (pz_u1 (pz_u1 (pz_u1 (pz_u1 (pz_u1 (pz_u1 (pz_u1 (pz_u1 (pz_u1 (pz_u1 (pz_u1 iv 2 o9) 134 l9) 138 n9) 139 w9) 140 d9) 142 m9) 143 V9) 144 W9) 145 U9) 146 Y9) 147 p9) 148 q9) 149 r9 ∧ (q_CI k o9 n9 w9 d9 m9 V9 U9 (iv 129) (iv 135)) ∧ (o9 2 = (iv 2) 2)) dv cc ss)
  refine pz_G_of pz_b150_0 ?_
  refine w_loc rfl ?_
  refine w_loc rfl ?_
  by_cases h1 : 0 ≤ e ∧ e < k 0
  · first
    | (exfalso; first | omega | contradiction)
    | (have hc2 : pz_R (pz_Sh L) 170 [.inr (.inl 2), .inl e] (pz_u1 (pz_u1 (pz_u1 (pz_u1 (pz_u1 (pz_u1 (pz_u1 (pz_u1 (pz_u1 (pz_u1 (pz_u1 (pz_u1 (pz_u1 iv 2 (iv 2)) 134 (iv 134)) 138 (iv 138)) 139 (iv 139)) 140 (iv 140)) 142 (iv 142)) 143 (iv 143)) 144 (iv 144)) 145 (iv 145)) 146 (iv 146)) 147 (iv 147)) 148 (iv 148)) 149 (iv 149)) (.inl none) (pz_u1 (pz_u1 (pz_u1 (pz_u1 (pz_u1 (pz_u1 (pz_u1 (pz_u1 (pz_u1 (pz_u1 (pz_u1 (pz_u1 (pz_u1 iv 2 (iv 2)) 134 (iv 134)) 138 (iv 138)) 139 (iv 139)) 140 (iv 140)) 142 (iv 142)) 143 (iv 143)) 144 (iv 144)) 145 (iv 145)) 146 (iv 146)) 147 (iv 147)) 148 (iv 148)) 149 (iv 149)) := s_X10_needEvent_y e (by show q_cE k (iv 3); exact hE) (by show 0 ≤ e ∧ e < k 0; exact h1)
       refine w_callv hc2 rfl (pz_cokI is_2 rfl) ?_
       refine w_loc rfl ?_
       by_cases h3 : q_sen k
       · first
         | (exfalso; first | omega | contradiction)
         | (have hc4 := s_X10_goodReductions_y (L := L) (iv := pz_u1 (pz_u1 (pz_u1 (pz_u1 (pz_u1 (pz_u1 (pz_u1 (pz_u1 (pz_u1 (pz_u1 (pz_u1 (pz_u1 (pz_u1 iv 2 (iv 2)) 134 (iv 134)) 138 (iv 138)) 139 (iv 139)) 140 (iv 140)) 142 (iv 142)) 143 (iv 143)) 144 (iv 144)) 145 (iv 145)) 146 (iv 146)) 147 (iv 147)) 148 (iv 148)) 149 (iv 149)) (by show q_KR k; exact hk) (by show q_cE k (iv 3); exact hE) (by show q_cB k (iv 4) (iv 5) (iv 6) (iv 7) (iv 8) (iv 9); exact hB) (by show q_cS k (iv 10) (iv 11) (iv 12) (iv 13) (iv 14); exact hS) (by show q_cC k (iv 15) (iv 16); exact hC) (by show q_cL k (iv 25); exact hL) (by show q_CI k (iv 2) (iv 138) (iv 139) (iv 140) (iv 142) (iv 143) (iv 145) (iv 129) (iv 135); exact hci) (by show q_sen k; exact h3)
            refine w_callE hc4 rfl (pz_cokI is_2 rfl) (fun iv9 h9 => ?_)
            obtain ⟨o9_5, l9_6, n9_7, w9_8, d9_9, m9_10, V9_11, W9_12, U9_13, Y9_14, p9_15, q9_16, r9_17, h9e, hci, hRK, ho2⟩ := h9
            have h9x : iv9 = pz_u1 (pz_u1 (pz_u1 (pz_u1 (pz_u1 (pz_u1 (pz_u1 (pz_u1 (pz_u1 (pz_u1 (pz_u1 (pz_u1 (pz_u1 iv 2 o9_5) 134 l9_6) 138 n9_7) 139 w9_8) 140 d9_9) 142 m9_10) 143 V9_11) 144 W9_12) 145 U9_13) 146 Y9_14) 147 p9_15) 148 q9_16) 149 r9_17 := h9e.trans (by rw [pz_u1_in (r := 2) (q := 149) (by decide)]; rw [pz_u1_in (r := 2) (q := 148) (by decide)]; rw [pz_u1_in (r := 2) (q := 147) (by decide)]; rw [pz_u1_in (r := 2) (q := 146) (by decide)]; rw [pz_u1_in (r := 2) (q := 145) (by decide)]; rw [pz_u1_in (r := 2) (q := 144) (by decide)]; rw [pz_u1_in (r := 2) (q := 143) (by decide)]; rw [pz_u1_in (r := 2) (q := 142) (by decide)]; rw [pz_u1_in (r := 2) (q := 140) (by decide)]; rw [pz_u1_in (r := 2) (q := 139) (by decide)]; rw [pz_u1_in (r := 2) (q := 138) (by decide)]; rw [pz_u1_in (r := 2) (q := 134) (by decide)]; rw [pz_u1_top (r := 2)]; rw [pz_u1_in (r := 134) (q := 149) (by decide)]; rw [pz_u1_in (r := 134) (q := 148) (by decide)]; rw [pz_u1_in (r := 134) (q := 147) (by decide)]; rw [pz_u1_in (r := 134) (q := 146) (by decide)]; rw [pz_u1_in (r := 134) (q := 145) (by decide)]; rw [pz_u1_in (r := 134) (q := 144) (by decide)]; rw [pz_u1_in (r := 134) (q := 143) (by decide)]; rw [pz_u1_in (r := 134) (q := 142) (by decide)]; rw [pz_u1_in (r := 134) (q := 140) (by decide)]; rw [pz_u1_in (r := 134) (q := 139) (by decide)]; rw [pz_u1_in (r := 134) (q := 138) (by decide)]; rw [pz_u1_top (r := 134)]; rw [pz_u1_in (r := 138) (q := 149) (by decide)]; rw [pz_u1_in (r := 138) (q := 148) (by decide)]; rw [pz_u1_in (r := 138) (q := 147) (by decide)]; rw [pz_u1_in (r := 138) (q := 146) (by decide)]; rw [pz_u1_in (r := 138) (q := 145) (by decide)]; rw [pz_u1_in (r := 138) (q := 144) (by decide)]; rw [pz_u1_in (r := 138) (q := 143) (by decide)]; rw [pz_u1_in (r := 138) (q := 142) (by decide)]; rw [pz_u1_in (r := 138) (q := 140) (by decide)]; rw [pz_u1_in (r := 138) (q := 139) (by decide)]; rw [pz_u1_top (r := 138)]; rw [pz_u1_in (r := 139) (q := 149) (by decide)]; rw [pz_u1_in (r := 139) (q := 148) (by decide)]; rw [pz_u1_in (r := 139) (q := 147) (by decide)]; rw [pz_u1_in (r := 139) (q := 146) (by decide)]; rw [pz_u1_in (r := 139) (q := 145) (by decide)]; rw [pz_u1_in (r := 139) (q := 144) (by decide)]; rw [pz_u1_in (r := 139) (q := 143) (by decide)]; rw [pz_u1_in (r := 139) (q := 142) (by decide)]; rw [pz_u1_in (r := 139) (q := 140) (by decide)]; rw [pz_u1_top (r := 139)]; rw [pz_u1_in (r := 140) (q := 149) (by decide)]; rw [pz_u1_in (r := 140) (q := 148) (by decide)]; rw [pz_u1_in (r := 140) (q := 147) (by decide)]; rw [pz_u1_in (r := 140) (q := 146) (by decide)]; rw [pz_u1_in (r := 140) (q := 145) (by decide)]; rw [pz_u1_in (r := 140) (q := 144) (by decide)]; rw [pz_u1_in (r := 140) (q := 143) (by decide)]; rw [pz_u1_in (r := 140) (q := 142) (by decide)]; rw [pz_u1_top (r := 140)]; rw [pz_u1_in (r := 142) (q := 149) (by decide)]; rw [pz_u1_in (r := 142) (q := 148) (by decide)]; rw [pz_u1_in (r := 142) (q := 147) (by decide)]; rw [pz_u1_in (r := 142) (q := 146) (by decide)]; rw [pz_u1_in (r := 142) (q := 145) (by decide)]; rw [pz_u1_in (r := 142) (q := 144) (by decide)]; rw [pz_u1_in (r := 142) (q := 143) (by decide)]; rw [pz_u1_top (r := 142)]; rw [pz_u1_in (r := 143) (q := 149) (by decide)]; rw [pz_u1_in (r := 143) (q := 148) (by decide)]; rw [pz_u1_in (r := 143) (q := 147) (by decide)]; rw [pz_u1_in (r := 143) (q := 146) (by decide)]; rw [pz_u1_in (r := 143) (q := 145) (by decide)]; rw [pz_u1_in (r := 143) (q := 144) (by decide)]; rw [pz_u1_top (r := 143)]; rw [pz_u1_in (r := 144) (q := 149) (by decide)]; rw [pz_u1_in (r := 144) (q := 148) (by decide)]; rw [pz_u1_in (r := 144) (q := 147) (by decide)]; rw [pz_u1_in (r := 144) (q := 146) (by decide)]; rw [pz_u1_in (r := 144) (q := 145) (by decide)]; rw [pz_u1_top (r := 144)]; rw [pz_u1_in (r := 145) (q := 149) (by decide)]; rw [pz_u1_in (r := 145) (q := 148) (by decide)]; rw [pz_u1_in (r := 145) (q := 147) (by decide)]; rw [pz_u1_in (r := 145) (q := 146) (by decide)]; rw [pz_u1_top (r := 145)]; rw [pz_u1_in (r := 146) (q := 149) (by decide)]; rw [pz_u1_in (r := 146) (q := 148) (by decide)]; rw [pz_u1_in (r := 146) (q := 147) (by decide)]; rw [pz_u1_top (r := 146)]; rw [pz_u1_in (r := 147) (q := 149) (by decide)]; rw [pz_u1_in (r := 147) (q := 148) (by decide)]; rw [pz_u1_top (r := 147)]; rw [pz_u1_in (r := 148) (q := 149) (by decide)]; rw [pz_u1_top (r := 148)]; rw [pz_u1_top (r := 149)] <;> rfl)
            subst h9x
            replace hci : q_CI k o9_5 n9_7 w9_8 d9_9 m9_10 V9_11 U9_13 (iv 129) (iv 135) := hci
            replace hRK : q_RK k m9_10 V9_11 U9_13 := hRK
            replace ho2 : o9_5 2 = (iv 2) 2 := ho2
            refine w_loc rfl ?_
            refine w_loc rfl ?_
            refine w_getR (q := 3) is_2 rf_2_0 ?_
            refine w_getR (q := 15) is_3 rf_3_3 ?_
            have hc18 : pz_R (pz_Sh L) 105 [.inr (.inl 142), .inl e, .inr (.inl 15)] (pz_u1 (pz_u1 (pz_u1 (pz_u1 (pz_u1 (pz_u1 (pz_u1 (pz_u1 (pz_u1 (pz_u1 (pz_u1 (pz_u1 (pz_u1 iv 2 o9_5) 134 l9_6) 138 n9_7) 139 w9_8) 140 d9_9) 142 m9_10) 143 V9_11) 144 W9_12) 145 U9_13) 146 Y9_14) 147 p9_15) 148 q9_16) 149 r9_17) (.inl (some (.inl (q_rs (q_val k) (q_ka k) k e (k 4))))) (pz_u1 (pz_u1 (pz_u1 (pz_u1 (pz_u1 (pz_u1 (pz_u1 (pz_u1 (pz_u1 (pz_u1 (pz_u1 (pz_u1 (pz_u1 iv 2 o9_5) 134 l9_6) 138 n9_7) 139 w9_8) 140 d9_9) 142 m9_10) 143 V9_11) 144 W9_12) 145 U9_13) 146 Y9_14) 147 p9_15) 148 q9_16) 149 r9_17) := s_X8_reasonAgainst_15 e (by show q_KR k; exact hk) (by show q_cE k (iv 3); exact hE) (by show q_cS k (iv 10) (iv 11) (iv 12) (iv 13) (iv 14); exact hS) (by show q_cC k (iv 15) (iv 16); exact hC) (by show q_VU k (q_val k) V9_11 U9_13; exact hRK.2.2 (by assumption)) (by show q_vb (q_val k); exact q_vb_val hk (by assumption)) (by show 0 ≤ e ∧ e < k 0; omega)
            refine w_call hc18 rfl (pz_cokI is_142 rfl) ?_
            refine w_pure rfl ?_
            refine w_ieq (fun h19 => ?_) (fun h19 => ?_)
            · first
              | (exfalso; first | omega | contradiction)
              | (refine pz_G_of pz_b150_36 ?_
                 refine w_loc rfl ?_
                 refine w_getR (q := 3) is_2 rf_2_0 ?_
                 refine w_getR (q := 15) is_3 rf_3_3 ?_
                 refine w_loc rfl ?_
                 have hc20 : pz_R (pz_Sh L) 28 [.inr (.inl 15), .inl e] (pz_u1 (pz_u1 (pz_u1 (pz_u1 (pz_u1 (pz_u1 (pz_u1 (pz_u1 (pz_u1 (pz_u1 (pz_u1 (pz_u1 (pz_u1 iv 2 o9_5) 134 l9_6) 138 n9_7) 139 w9_8) 140 d9_9) 142 m9_10) 143 V9_11) 144 W9_12) 145 U9_13) 146 Y9_14) 147 p9_15) 148 q9_16) 149 r9_17) (.inl none) (pz_u1 (pz_u1 (pz_u1 (pz_u1 (pz_u1 (pz_u1 (pz_u1 (pz_u1 (pz_u1 (pz_u1 (pz_u1 (pz_u1 (pz_u1 (pz_u1 iv 2 o9_5) 16 (pz_up (iv 16) e.toNat (k 4))) 134 l9_6) 138 n9_7) 139 w9_8) 140 d9_9) 142 m9_10) 143 V9_11) 144 W9_12) 145 U9_13) 146 Y9_14) 147 p9_15) 148 q9_16) 149 r9_17) := pz_R_mem (s_X2_begin_15 e (by show q_cC k (iv 15) (iv 16); exact hC) (by show 0 ≤ e ∧ e ≤ 9; omega)) (by rw [pz_u1_in (r := 16) (q := 149) (by decide)]; rw [pz_u1_in (r := 16) (q := 148) (by decide)]; rw [pz_u1_in (r := 16) (q := 147) (by decide)]; rw [pz_u1_in (r := 16) (q := 146) (by decide)]; rw [pz_u1_in (r := 16) (q := 145) (by decide)]; rw [pz_u1_in (r := 16) (q := 144) (by decide)]; rw [pz_u1_in (r := 16) (q := 143) (by decide)]; rw [pz_u1_in (r := 16) (q := 142) (by decide)]; rw [pz_u1_in (r := 16) (q := 140) (by decide)]; rw [pz_u1_in (r := 16) (q := 139) (by decide)]; rw [pz_u1_in (r := 16) (q := 138) (by decide)]; rw [pz_u1_in (r := 16) (q := 134) (by decide)]; rw [pz_u1_top (r := 16)]; rfl)
                 refine w_callv hc20 rfl (pz_cokI is_15 rfl) ?_
                 refine w_loc rfl ?_
                 have hc21 : pz_R (pz_Sh L) 178 [.inr (.inl 2)] (pz_u1 (pz_u1 (pz_u1 (pz_u1 (pz_u1 (pz_u1 (pz_u1 (pz_u1 (pz_u1 (pz_u1 (pz_u1 (pz_u1 (pz_u1 (pz_u1 iv 2 o9_5) 16 (pz_up (iv 16) e.toNat (k 4))) 134 l9_6) 138 n9_7) 139 w9_8) 140 d9_9) 142 m9_10) 143 V9_11) 144 W9_12) 145 U9_13) 146 Y9_14) 147 p9_15) 148 q9_16) 149 r9_17) (.inl none) (pz_u1 (pz_u1 (pz_u1 (pz_u1 (pz_u1 (pz_u1 (pz_u1 (pz_u1 (pz_u1 (pz_u1 (pz_u1 (pz_u1 (pz_u1 (pz_u1 iv 2 (pz_up (pz_up (pz_up o9_5 7 0) 8 0) 9 0)) 16 (pz_up (iv 16) e.toNat (k 4))) 134 l9_6) 138 n9_7) 139 w9_8) 140 d9_9) 142 m9_10) 143 V9_11) 144 W9_12) 145 U9_13) 146 Y9_14) 147 p9_15) 148 q9_16) 149 r9_17) := pz_R_mem (s_X10_forget) (by rw [pz_u1_in (r := 2) (q := 149) (by decide)]; rw [pz_u1_in (r := 2) (q := 148) (by decide)]; rw [pz_u1_in (r := 2) (q := 147) (by decide)]; rw [pz_u1_in (r := 2) (q := 146) (by decide)]; rw [pz_u1_in (r := 2) (q := 145) (by decide)]; rw [pz_u1_in (r := 2) (q := 144) (by decide)]; rw [pz_u1_in (r := 2) (q := 143) (by decide)]; rw [pz_u1_in (r := 2) (q := 142) (by decide)]; rw [pz_u1_in (r := 2) (q := 140) (by decide)]; rw [pz_u1_in (r := 2) (q := 139) (by decide)]; rw [pz_u1_in (r := 2) (q := 138) (by decide)]; rw [pz_u1_in (r := 2) (q := 134) (by decide)]; rw [pz_u1_in (r := 2) (q := 16) (by decide)]; rw [pz_u1_top (r := 2)]; rfl)
                 refine w_callv hc21 rfl (pz_cokI is_2 rfl) ?_
                 refine w_loc rfl ?_
                 refine w_getR (q := 3) is_2 rf_2_0 ?_
                 refine w_getR (q := 15) is_3 rf_3_3 ?_
                 refine w_getI (v := (iv 15) 0) is_15 (by decide) rfl ?_
                 refine w_ret rfl ?_
                 first | exact ⟨pz_u1 (pz_u1 (pz_u1 (pz_u1 (pz_u1 (pz_u1 (pz_u1 (pz_u1 (pz_u1 (pz_u1 (pz_u1 (pz_u1 (pz_u1 (pz_u1 iv 2 (pz_up (pz_up (pz_up o9_5 7 0) 8 0) 9 0)) 16 (pz_up (iv 16) e.toNat (k 4))) 134 l9_6) 138 n9_7) 139 w9_8) 140 d9_9) 142 m9_10) 143 V9_11) 144 W9_12) 145 U9_13) 146 Y9_14) 147 p9_15) 148 q9_16) 149 r9_17, ⟨(pz_up (pz_up (pz_up o9_5 7 0) 8 0) 9 0), l9_6, n9_7, w9_8, d9_9, m9_10, V9_11, W9_12, U9_13, Y9_14, p9_15, q9_16, r9_17, by rfl, by exact hci, by exact ho2⟩, lf_i (by first | rfl | omega) (by rfl)⟩ | (exfalso; omega))
            · first
              | (exfalso; first | omega | contradiction)
              | (refine w_thr (by decide) ?_
                 first | exact ⟨pz_u1 (pz_u1 (pz_u1 (pz_u1 (pz_u1 (pz_u1 (pz_u1 (pz_u1 (pz_u1 (pz_u1 (pz_u1 (pz_u1 (pz_u1 iv 2 o9_5) 134 l9_6) 138 n9_7) 139 w9_8) 140 d9_9) 142 m9_10) 143 V9_11) 144 W9_12) 145 U9_13) 146 Y9_14) 147 p9_15) 148 q9_16) 149 r9_17, ⟨o9_5, l9_6, n9_7, w9_8, d9_9, m9_10, V9_11, W9_12, U9_13, Y9_14, p9_15, q9_16, r9_17, by rfl, by exact hci, by exact ho2⟩, lf_e (by rfl)⟩ | (exfalso; omega)))
       · first
         | (exfalso; first | omega | contradiction)
         | (have hc22 := s_X10_goodReductions_n (L := L) (iv := pz_u1 (pz_u1 (pz_u1 (pz_u1 (pz_u1 (pz_u1 (pz_u1 (pz_u1 (pz_u1 (pz_u1 (pz_u1 (pz_u1 (pz_u1 iv 2 (iv 2)) 134 (iv 134)) 138 (iv 138)) 139 (iv 139)) 140 (iv 140)) 142 (iv 142)) 143 (iv 143)) 144 (iv 144)) 145 (iv 145)) 146 (iv 146)) 147 (iv 147)) 148 (iv 148)) 149 (iv 149)) (by show q_KR k; exact hk) (by show q_cE k (iv 3); exact hE) (by show q_cB k (iv 4) (iv 5) (iv 6) (iv 7) (iv 8) (iv 9); exact hB) (by show q_cS k (iv 10) (iv 11) (iv 12) (iv 13) (iv 14); exact hS) (by show q_cC k (iv 15) (iv 16); exact hC) (by show q_cL k (iv 25); exact hL) (by show q_CI k (iv 2) (iv 138) (iv 139) (iv 140) (iv 142) (iv 143) (iv 145) (iv 129) (iv 135); exact hci) (by show ¬ q_sen k; exact h3)
            refine w_calleE hc22 rfl (pz_cokI is_2 rfl) rfl (fun iv9 h9 => ?_)
            obtain ⟨o9_23, l9_24, n9_25, w9_26, d9_27, m9_28, V9_29, W9_30, U9_31, Y9_32, p9_33, q9_34, r9_35, h9e, hci, ho2⟩ := h9
            have h9x : iv9 = pz_u1 (pz_u1 (pz_u1 (pz_u1 (pz_u1 (pz_u1 (pz_u1 (pz_u1 (pz_u1 (pz_u1 (pz_u1 (pz_u1 (pz_u1 iv 2 o9_23) 134 l9_24) 138 n9_25) 139 w9_26) 140 d9_27) 142 m9_28) 143 V9_29) 144 W9_30) 145 U9_31) 146 Y9_32) 147 p9_33) 148 q9_34) 149 r9_35 := h9e.trans (by rw [pz_u1_in (r := 2) (q := 149) (by decide)]; rw [pz_u1_in (r := 2) (q := 148) (by decide)]; rw [pz_u1_in (r := 2) (q := 147) (by decide)]; rw [pz_u1_in (r := 2) (q := 146) (by decide)]; rw [pz_u1_in (r := 2) (q := 145) (by decide)]; rw [pz_u1_in (r := 2) (q := 144) (by decide)]; rw [pz_u1_in (r := 2) (q := 143) (by decide)]; rw [pz_u1_in (r := 2) (q := 142) (by decide)]; rw [pz_u1_in (r := 2) (q := 140) (by decide)]; rw [pz_u1_in (r := 2) (q := 139) (by decide)]; rw [pz_u1_in (r := 2) (q := 138) (by decide)]; rw [pz_u1_in (r := 2) (q := 134) (by decide)]; rw [pz_u1_top (r := 2)]; rw [pz_u1_in (r := 134) (q := 149) (by decide)]; rw [pz_u1_in (r := 134) (q := 148) (by decide)]; rw [pz_u1_in (r := 134) (q := 147) (by decide)]; rw [pz_u1_in (r := 134) (q := 146) (by decide)]; rw [pz_u1_in (r := 134) (q := 145) (by decide)]; rw [pz_u1_in (r := 134) (q := 144) (by decide)]; rw [pz_u1_in (r := 134) (q := 143) (by decide)]; rw [pz_u1_in (r := 134) (q := 142) (by decide)]; rw [pz_u1_in (r := 134) (q := 140) (by decide)]; rw [pz_u1_in (r := 134) (q := 139) (by decide)]; rw [pz_u1_in (r := 134) (q := 138) (by decide)]; rw [pz_u1_top (r := 134)]; rw [pz_u1_in (r := 138) (q := 149) (by decide)]; rw [pz_u1_in (r := 138) (q := 148) (by decide)]; rw [pz_u1_in (r := 138) (q := 147) (by decide)]; rw [pz_u1_in (r := 138) (q := 146) (by decide)]; rw [pz_u1_in (r := 138) (q := 145) (by decide)]; rw [pz_u1_in (r := 138) (q := 144) (by decide)]; rw [pz_u1_in (r := 138) (q := 143) (by decide)]; rw [pz_u1_in (r := 138) (q := 142) (by decide)]; rw [pz_u1_in (r := 138) (q := 140) (by decide)]; rw [pz_u1_in (r := 138) (q := 139) (by decide)]; rw [pz_u1_top (r := 138)]; rw [pz_u1_in (r := 139) (q := 149) (by decide)]; rw [pz_u1_in (r := 139) (q := 148) (by decide)]; rw [pz_u1_in (r := 139) (q := 147) (by decide)]; rw [pz_u1_in (r := 139) (q := 146) (by decide)]; rw [pz_u1_in (r := 139) (q := 145) (by decide)]; rw [pz_u1_in (r := 139) (q := 144) (by decide)]; rw [pz_u1_in (r := 139) (q := 143) (by decide)]; rw [pz_u1_in (r := 139) (q := 142) (by decide)]; rw [pz_u1_in (r := 139) (q := 140) (by decide)]; rw [pz_u1_top (r := 139)]; rw [pz_u1_in (r := 140) (q := 149) (by decide)]; rw [pz_u1_in (r := 140) (q := 148) (by decide)]; rw [pz_u1_in (r := 140) (q := 147) (by decide)]; rw [pz_u1_in (r := 140) (q := 146) (by decide)]; rw [pz_u1_in (r := 140) (q := 145) (by decide)]; rw [pz_u1_in (r := 140) (q := 144) (by decide)]; rw [pz_u1_in (r := 140) (q := 143) (by decide)]; rw [pz_u1_in (r := 140) (q := 142) (by decide)]; rw [pz_u1_top (r := 140)]; rw [pz_u1_in (r := 142) (q := 149) (by decide)]; rw [pz_u1_in (r := 142) (q := 148) (by decide)]; rw [pz_u1_in (r := 142) (q := 147) (by decide)]; rw [pz_u1_in (r := 142) (q := 146) (by decide)]; rw [pz_u1_in (r := 142) (q := 145) (by decide)]; rw [pz_u1_in (r := 142) (q := 144) (by decide)]; rw [pz_u1_in (r := 142) (q := 143) (by decide)]; rw [pz_u1_top (r := 142)]; rw [pz_u1_in (r := 143) (q := 149) (by decide)]; rw [pz_u1_in (r := 143) (q := 148) (by decide)]; rw [pz_u1_in (r := 143) (q := 147) (by decide)]; rw [pz_u1_in (r := 143) (q := 146) (by decide)]; rw [pz_u1_in (r := 143) (q := 145) (by decide)]; rw [pz_u1_in (r := 143) (q := 144) (by decide)]; rw [pz_u1_top (r := 143)]; rw [pz_u1_in (r := 144) (q := 149) (by decide)]; rw [pz_u1_in (r := 144) (q := 148) (by decide)]; rw [pz_u1_in (r := 144) (q := 147) (by decide)]; rw [pz_u1_in (r := 144) (q := 146) (by decide)]; rw [pz_u1_in (r := 144) (q := 145) (by decide)]; rw [pz_u1_top (r := 144)]; rw [pz_u1_in (r := 145) (q := 149) (by decide)]; rw [pz_u1_in (r := 145) (q := 148) (by decide)]; rw [pz_u1_in (r := 145) (q := 147) (by decide)]; rw [pz_u1_in (r := 145) (q := 146) (by decide)]; rw [pz_u1_top (r := 145)]; rw [pz_u1_in (r := 146) (q := 149) (by decide)]; rw [pz_u1_in (r := 146) (q := 148) (by decide)]; rw [pz_u1_in (r := 146) (q := 147) (by decide)]; rw [pz_u1_top (r := 146)]; rw [pz_u1_in (r := 147) (q := 149) (by decide)]; rw [pz_u1_in (r := 147) (q := 148) (by decide)]; rw [pz_u1_top (r := 147)]; rw [pz_u1_in (r := 148) (q := 149) (by decide)]; rw [pz_u1_top (r := 148)]; rw [pz_u1_top (r := 149)] <;> rfl)
            subst h9x
            replace hci : q_CI k o9_23 n9_25 w9_26 d9_27 m9_28 V9_29 U9_31 (iv 129) (iv 135) := hci
            replace ho2 : o9_23 2 = (iv 2) 2 := ho2
            first | exact ⟨pz_u1 (pz_u1 (pz_u1 (pz_u1 (pz_u1 (pz_u1 (pz_u1 (pz_u1 (pz_u1 (pz_u1 (pz_u1 (pz_u1 (pz_u1 iv 2 o9_23) 134 l9_24) 138 n9_25) 139 w9_26) 140 d9_27) 142 m9_28) 143 V9_29) 144 W9_30) 145 U9_31) 146 Y9_32) 147 p9_33) 148 q9_34) 149 r9_35, ⟨o9_23, l9_24, n9_25, w9_26, d9_27, m9_28, V9_29, W9_30, U9_31, Y9_32, p9_33, q9_34, r9_35, by rfl, by exact hci, by exact ho2⟩, lf_e (by rfl)⟩ | (exfalso; omega)))
  · first
    | (exfalso; first | omega | contradiction)
    | (have hc36 : pz_R (pz_Sh L) 170 [.inr (.inl 2), .inl e] (pz_u1 (pz_u1 (pz_u1 (pz_u1 (pz_u1 (pz_u1 (pz_u1 (pz_u1 (pz_u1 (pz_u1 (pz_u1 (pz_u1 (pz_u1 iv 2 (iv 2)) 134 (iv 134)) 138 (iv 138)) 139 (iv 139)) 140 (iv 140)) 142 (iv 142)) 143 (iv 143)) 144 (iv 144)) 145 (iv 145)) 146 (iv 146)) 147 (iv 147)) 148 (iv 148)) 149 (iv 149)) (.inr 2) (pz_u1 (pz_u1 (pz_u1 (pz_u1 (pz_u1 (pz_u1 (pz_u1 (pz_u1 (pz_u1 (pz_u1 (pz_u1 (pz_u1 (pz_u1 iv 2 (iv 2)) 134 (iv 134)) 138 (iv 138)) 139 (iv 139)) 140 (iv 140)) 142 (iv 142)) 143 (iv 143)) 144 (iv 144)) 145 (iv 145)) 146 (iv 146)) 147 (iv 147)) 148 (iv 148)) 149 (iv 149)) := s_X10_needEvent_n e (by show q_cE k (iv 3); exact hE) (by show ¬ (0 ≤ e ∧ e < k 0); exact h1)
       refine w_calle hc36 rfl (pz_cokI is_2 rfl) rfl ?_
       first | exact ⟨pz_u1 (pz_u1 (pz_u1 (pz_u1 (pz_u1 (pz_u1 (pz_u1 (pz_u1 (pz_u1 (pz_u1 (pz_u1 (pz_u1 (pz_u1 iv 2 (iv 2)) 134 (iv 134)) 138 (iv 138)) 139 (iv 139)) 140 (iv 140)) 142 (iv 142)) 143 (iv 143)) 144 (iv 144)) 145 (iv 145)) 146 (iv 146)) 147 (iv 147)) 148 (iv 148)) 149 (iv 149), ⟨(iv 2), (iv 134), (iv 138), (iv 139), (iv 140), (iv 142), (iv 143), (iv 144), (iv 145), (iv 146), (iv 147), (iv 148), (iv 149), by rfl, by exact hci, by exact ho2⟩, lf_e (by rfl)⟩ | (exfalso; omega))

theorem s_X10_start_3 {L : Nat} {iv : Nat → Nat → Int} (e : Int) {k : Nat → Int} (hk : q_KR k) (hE : q_cE k (iv 3)) (hB : q_cB k (iv 4) (iv 5) (iv 6) (iv 7) (iv 8) (iv 9)) (hS : q_cS k (iv 10) (iv 11) (iv 12) (iv 13) (iv 14)) (hC : q_cC k (iv 15) (iv 16)) (hA : q_cA k (iv 17) (iv 18) (iv 19) (iv 20)) (hO : q_cO k (iv 22) (iv 23) (iv 24)) (hL : q_cL k (iv 25)) (hP : q_cP k (iv 27)) (hci : q_CI k (iv 2) (iv 138) (iv 139) (iv 140) (iv 142) (iv 143) (iv 145) (iv 129) (iv 135)) (hcase0 : 0 ≤ e ∧ e ≤ k 0 - 1) (hcase1 : q_sen k) (hcase2 : q_rs (q_val k) (q_ka k) k e (k 4) ≠ 45) : pz_RE (pz_Sh L) 150 [.inr (.inl 2), .inl e] iv (.inr 3) (fun iv9 => ∃ (o9 : Nat → Int) (l9 : Nat → Int) (n9 : Nat → Int) (w9 : Nat → Int) (d9 : Nat → Int) (m9 : Nat → Int) (V9 : Nat → Int) (W9 : Nat → Int) (U9 : Nat → Int) (Y9 : Nat → Int) (p9 : Nat → Int) (q9 : Nat → Int) (r9 : Nat → Int), iv9 = pz_u1 (pz_u1 (pz_u1 (pz_u1 (pz_u1 (pz_u1 (pz_u1 (pz_u1 (pz_u1 (pz_u1 (pz_u1 (pz_u1 (pz_u1 iv 2 o9) 134 l9) 138 n9) 139 w9) 140 d9) 142 m9) 143 V9) 144 W9) 145 U9) 146 Y9) 147 p9) 148 q9) 149 r9 ∧ (q_CI k o9 n9 w9 d9 m9 V9 U9 (iv 129) (iv 135)) ∧ (o9 2 = (iv 2) 2)) := by
  intro dv cc ss
  have hk0 := hk.r0
  have hE0 := hE
  have hB0 := hB.1
  have hS0 := hS.1
  have hC0 := hC.1
  have hA0 := hA.1
  have hrr := q_rs_r (v := q_val k) (a := q_ka k) (k := k) (e := e) (m := k 4)
  refine pz_G_mem (iv2 := pz_u1 (pz_u1 (pz_u1 (pz_u1 (pz_u1 (pz_u1 (pz_u1 (pz_u1 (pz_u1 (pz_u1 (pz_u1 (pz_u1 (pz_u1 iv 2 (iv 2)) 134 (iv 134)) 138 (iv 138)) 139 (iv 139)) 140 (iv 140)) 142 (iv 142)) 143 (iv 143)) 144 (iv 144)) 145 (iv 145)) 146 (iv 146)) 147 (iv 147)) 148 (iv 148)) 149 (iv 149)) (by exact (((((((((((((pz_u1_self iv 2).symm).trans (pz_u1_self (pz_u1 iv 2 (iv 2)) 134).symm).trans (pz_u1_self (pz_u1 (pz_u1 iv 2 (iv 2)) 134 (iv 134)) 138).symm).trans (pz_u1_self (pz_u1 (pz_u1 (pz_u1 iv 2 (iv 2)) 134 (iv 134)) 138 (iv 138)) 139).symm).trans (pz_u1_self (pz_u1 (pz_u1 (pz_u1 (pz_u1 iv 2 (iv 2)) 134 (iv 134)) 138 (iv 138)) 139 (iv 139)) 140).symm).trans (pz_u1_self (pz_u1 (pz_u1 (pz_u1 (pz_u1 (pz_u1 iv 2 (iv 2)) 134 (iv 134)) 138 (iv 138)) 139 (iv 139)) 140 (iv 140)) 142).symm).trans (pz_u1_self (pz_u1 (pz_u1 (pz_u1 (pz_u1 (pz_u1 (pz_u1 iv 2 (iv 2)) 134 (iv 134)) 138 (iv 138)) 139 (iv 139)) 140 (iv 140)) 142 (iv 142)) 143).symm).trans (pz_u1_self (pz_u1 (pz_u1 (pz_u1 (pz_u1 (pz_u1 (pz_u1 (pz_u1 iv 2 (iv 2)) 134 (iv 134)) 138 (iv 138)) 139 (iv 139)) 140 (iv 140)) 142 (iv 142)) 143 (iv 143)) 144).symm).trans (pz_u1_self (pz_u1 (pz_u1 (pz_u1 (pz_u1 (pz_u1 (pz_u1 (pz_u1 (pz_u1 iv 2 (iv 2)) 134 (iv 134)) 138 (iv 138)) 139 (iv 139)) 140 (iv 140)) 142 (iv 142)) 143 (iv 143)) 144 (iv 144)) 145).symm).trans (pz_u1_self (pz_u1 (pz_u1 (pz_u1 (pz_u1 (pz_u1 (pz_u1 (pz_u1 (pz_u1 (pz_u1 iv 2 (iv 2)) 134 (iv 134)) 138 (iv 138)) 139 (iv 139)) 140 (iv 140)) 142 (iv 142)) 143 (iv 143)) 144 (iv 144)) 145 (iv 145)) 146).symm).trans (pz_u1_self (pz_u1 (pz_u1 (pz_u1 (pz_u1 (pz_u1 (pz_u1 (pz_u1 (pz_u1 (pz_u1 (pz_u1 iv 2 (iv 2)) 134 (iv 134)) 138 (iv 138)) 139 (iv 139)) 140 (iv 140)) 142 (iv 142)) 143 (iv 143)) 144 (iv 144)) 145 (iv 145)) 146 (iv 146)) 147).symm).trans (pz_u1_self (pz_u1 (pz_u1 (pz_u1 (pz_u1 (pz_u1 (pz_u1 (pz_u1 (pz_u1 (pz_u1 (pz_u1 (pz_u1 iv 2 (iv 2)) 134 (iv 134)) 138 (iv 138)) 139 (iv 139)) 140 (iv 140)) 142 (iv 142)) 143 (iv 143)) 144 (iv 144)) 145 (iv 145)) 146 (iv 146)) 147 (iv 147)) 148).symm).trans (pz_u1_self (pz_u1 (pz_u1 (pz_u1 (pz_u1 (pz_u1 (pz_u1 (pz_u1 (pz_u1 (pz_u1 (pz_u1 (pz_u1 (pz_u1 iv 2 (iv 2)) 134 (iv 134)) 138 (iv 138)) 139 (iv 139)) 140 (iv 140)) 142 (iv 142)) 143 (iv 143)) 144 (iv 144)) 145 (iv 145)) 146 (iv 146)) 147 (iv 147)) 148 (iv 148)) 149).symm) ?_
  show pz_G 150 0 [some (.inr (.inl 2)), some (.inl e)] [] (pz_Sh L, pz_u1 (pz_u1 (pz_u1 (pz_u1 (pz_u1 (pz_u1 (pz_u1 (pz_u1 (pz_u1 (pz_u1 (pz_u1 (pz_u1 (pz_u1 iv 2 (iv 2)) 134 (iv 134)) 138 (iv 138)) 139 (iv 139)) 140 (iv 140)) 142 (iv 142)) 143 (iv 143)) 144 (iv 144)) 145 (iv 145)) 146 (iv 146)) 147 (iv 147)) 148 (iv 148)) 149 (iv 149), dv, cc, ss) (pz_PE (pz_Sh L) (.inr 3) (fun iv9 => ∃ (o9 : Nat → Int) (l9 : Nat → Int) (n9 : Nat → Int) (w9 : Nat → Int) (d9 : Nat → Int) (m9 : Nat → Int) (V9 : Nat → Int) (W9 : Nat → Int) (U9 : Nat → Int) (Y9 : Nat → Int) (p9 : Nat → Int) (q9 : Nat → Int) (r9 : Nat → Int), iv9 = pz_u1 (pz_u1 (pz_u1 (pz_u1 (pz_u1 (pz_u1 (pz_u1 (pz_u1 (pz_u1 (pz_u1 (pz_u1 (pz_u1 (pz_u1 iv 2 o9) 134 l9) 138 n9) 139 w9) 140 d9) 142 m9) 143 V9) 144 W9) 145 U9) 146 Y9) 147 p9) 148 q9) 149 r9 ∧ (q_CI k o9 n9 w9 d9 m9 V9 U9 (iv 129) (iv 135)) ∧ (o9 2 = (iv 2) 2)) dv cc ss)
  refine pz_G_of pz_b150_0 ?_
  refine w_loc rfl ?_
  refine w_loc rfl ?_
  by_cases h1 : 0 ≤ e ∧ e < k 0
  · first
    | (exfalso; first | omega | contradiction)
    | (have hc2 : pz_R (pz_Sh L) 170 [.inr (.inl 2), .inl e] (pz_u1 (pz_u1 (pz_u1 (pz_u1 (pz_u1 (pz_u1 (pz_u1 (pz_u1 (pz_u1 (pz_u1 (pz_u1 (pz_u1 (pz_u1 iv 2 (iv 2)) 134 (iv 134)) 138 (iv 138)) 139 (iv 139)) 140 (iv 140)) 142 (iv 142)) 143 (iv 143)) 144 (iv 144)) 145 (iv 145)) 146 (iv 146)) 147 (iv 147)) 148 (iv 148)) 149 (iv 149)) (.inl none) (pz_u1 (pz_u1 (pz_u1 (pz_u1 (pz_u1 (pz_u1 (pz_u1 (pz_u1 (pz_u1 (pz_u1 (pz_u1 (pz_u1 (pz_u1 iv 2 (iv 2)) 134 (iv 134)) 138 (iv 138)) 139 (iv 139)) 140 (iv 140)) 142 (iv 142)) 143 (iv 143)) 144 (iv 144)) 145 (iv 145)) 146 (iv 146)) 147 (iv 147)) 148 (iv 148)) 149 (iv 149)) := s_X10_needEvent_y e (by show q_cE k (iv 3); exact hE) (by show 0 ≤ e ∧ e < k 0; exact h1)
       refine w_callv hc2 rfl (pz_cokI is_2 rfl) ?_
       refine w_loc rfl ?_
       by_cases h3 : q_sen k
       · first
         | (exfalso; first | omega | contradiction)
         | (have hc4 := s_X10_goodReductions_y (L := L) (iv := pz_u1 (pz_u1 (pz_u1 (pz_u1 (pz_u1 (pz_u1 (pz_u1 (pz_u1 (pz_u1 (pz_u1 (pz_u1 (pz_u1 (pz_u1 iv 2 (iv 2)) 134 (iv 134)) 138 (iv 138)) 139 (iv 139)) 140 (iv 140)) 142 (iv 142)) 143 (iv 143)) 144 (iv 144)) 145 (iv 145)) 146 (iv 146)) 147 (iv 147)) 148 (iv 148)) 149 (iv 149)) (by show q_KR k; exact hk) (by show q_cE k (iv 3); exact hE) (by show q_cB k (iv 4) (iv 5) (iv 6) (iv 7) (iv 8) (iv 9); exact hB) (by show q_cS k (iv 10) (iv 11) (iv 12) (iv 13) (iv 14); exact hS) (by show q_cC k (iv 15) (iv 16); exact hC) (by show q_cL k (iv 25); exact hL) (by show q_CI k (iv 2) (iv 138) (iv 139) (iv 140) (iv 142) (iv 143) (iv 145) (iv 129) (iv 135); exact hci) (by show q_sen k; exact h3)
            refine w_callE hc4 rfl (pz_cokI is_2 rfl) (fun iv9 h9 => ?_)
            obtain ⟨o9_5, l9_6, n9_7, w9_8, d9_9, m9_10, V9_11, W9_12, U9_13, Y9_14, p9_15, q9_16, r9_17, h9e, hci, hRK, ho2⟩ := h9
            have h9x : iv9 = pz_u1 (pz_u1 (pz_u1 (pz_u1 (pz_u1 (pz_u1 (pz_u1 (pz_u1 (pz_u1 (pz_u1 (pz_u1 (pz_u1 (pz_u1 iv 2 o9_5) 134 l9_6) 138 n9_7) 139 w9_8) 140 d9_9) 142 m9_10) 143 V9_11) 144 W9_12) 145 U9_13) 146 Y9_14) 147 p9_15) 148 q9_16) 149 r9_17 := h9e.trans (by rw [pz_u1_in (r := 2) (q := 149) (by decide)]; rw [pz_u1_in (r := 2) (q := 148) (by decide)]; rw [pz_u1_in (r := 2) (q := 147) (by decide)]; rw [pz_u1_in (r := 2) (q := 146) (by decide)]; rw [pz_u1_in (r := 2) (q := 145) (by decide)]; rw [pz_u1_in (r := 2) (q := 144) (by decide)]; rw [pz_u1_in (r := 2) (q := 143) (by decide)]; rw [pz_u1_in (r := 2) (q := 142) (by decide)]; rw [pz_u1_in (r := 2) (q := 140) (by decide)]; rw [pz_u1_in (r := 2) (q := 139) (by decide)]; rw [pz_u1_in (r := 2) (q := 138) (by decide)]; rw [pz_u1_in (r := 2) (q := 134) (by decide)]; rw [pz_u1_top (r := 2)]; rw [pz_u1_in (r := 134) (q := 149) (by decide)]; rw [pz_u1_in (r := 134) (q := 148) (by decide)]; rw [pz_u1_in (r := 134) (q := 147) (by decide)]; rw [pz_u1_in (r := 134) (q := 146) (by decide)]; rw [pz_u1_in (r := 134) (q := 145) (by decide)]; rw [pz_u1_in (r := 134) (q := 144) (by decide)]; rw [pz_u1_in (r := 134) (q := 143) (by decide)]; rw [pz_u1_in (r := 134) (q := 142) (by decide)]; rw [pz_u1_in (r := 134) (q := 140) (by decide)]; rw [pz_u1_in (r := 134) (q := 139) (by decide)]; rw [pz_u1_in (r := 134) (q := 138) (by decide)]; rw [pz_u1_top (r := 134)]; rw [pz_u1_in (r := 138) (q := 149) (by decide)]; rw [pz_u1_in (r := 138) (q := 148) (by decide)]; rw [pz_u1_in (r := 138) (q := 147) (by decide)]; rw [pz_u1_in (r := 138) (q := 146) (by decide)]; rw [pz_u1_in (r := 138) (q := 145) (by decide)]; rw [pz_u1_in (r := 138) (q := 144) (by decide)]; rw [pz_u1_in (r := 138) (q := 143) (by decide)]; rw [pz_u1_in (r := 138) (q := 142) (by decide)]; rw [pz_u1_in (r := 138) (q := 140) (by decide)]; rw [pz_u1_in (r := 138) (q := 139) (by decide)]; rw [pz_u1_top (r := 138)]; rw [pz_u1_in (r := 139) (q := 149) (by decide)]; rw [pz_u1_in (r := 139) (q := 148) (by decide)]; rw [pz_u1_in (r := 139) (q := 147) (by decide)]; rw [pz_u1_in (r := 139) (q := 146) (by decide)]; rw [pz_u1_in (r := 139) (q := 145) (by decide)]; rw [pz_u1_in (r := 139) (q := 144) (by decide)]; rw [pz_u1_in (r := 139) (q := 143) (by decide)]; rw [pz_u1_in (r := 139) (q := 142) (by decide)]; rw [pz_u1_in (r := 139) (q := 140) (by decide)]; rw [pz_u1_top (r := 139)]; rw [pz_u1_in (r := 140) (q := 149) (by decide)]; rw [pz_u1_in (r := 140) (q := 148) (by decide)]; rw [pz_u1_in (r := 140) (q := 147) (by decide)]; rw [pz_u1_in (r := 140) (q := 146) (by decide)]; rw [pz_u1_in (r := 140) (q := 145) (by decide)]; rw [pz_u1_in (r := 140) (q := 144) (by decide)]; rw [pz_u1_in (r := 140) (q := 143) (by decide)]; rw [pz_u1_in (r := 140) (q := 142) (by decide)]; rw [pz_u1_top (r := 140)]; rw [pz_u1_in (r := 142) (q := 149) (by decide)]; rw [pz_u1_in (r := 142) (q := 148) (by decide)]; rw [pz_u1_in (r := 142) (q := 147) (by decide)]; rw [pz_u1_in (r := 142) (q := 146) (by decide)]; rw [pz_u1_in (r := 142) (q := 145) (by decide)]; rw [pz_u1_in (r := 142) (q := 144) (by decide)]; rw [pz_u1_in (r := 142) (q := 143) (by decide)]; rw [pz_u1_top (r := 142)]; rw [pz_u1_in (r := 143) (q := 149) (by decide)]; rw [pz_u1_in (r := 143) (q := 148) (by decide)]; rw [pz_u1_in (r := 143) (q := 147) (by decide)]; rw [pz_u1_in (r := 143) (q := 146) (by decide)]; rw [pz_u1_in (r := 143) (q := 145) (by decide)]; rw [pz_u1_in (r := 143) (q := 144) (by decide)]; rw [pz_u1_top (r := 143)]; rw [pz_u1_in (r := 144) (q := 149) (by decide)]; rw [pz_u1_in (r := 144) (q := 148) (by decide)]; rw [pz_u1_in (r := 144) (q := 147) (by decide)]; rw [pz_u1_in (r := 144) (q := 146) (by decide)]; rw [pz_u1_in (r := 144) (q := 145) (by decide)]; rw [pz_u1_top (r := 144)]; rw [pz_u1_in (r := 145) (q := 149) (by decide)]; rw [pz_u1_in (r := 145) (q := 148) (by decide)]; rw [pz_u1_in (r := 145) (q := 147) (by decide)]; rw [pz_u1_in (r := 145) (q := 146) (by decide)]; rw [pz_u1_top (r := 145)]; rw [pz_u1_in (r := 146) (q := 149) (by decide)]; rw [pz_u1_in (r := 146) (q := 148) (by decide)]; rw [pz_u1_in (r := 146) (q := 147) (by decide)]; rw [pz_u1_top (r := 146)]; rw [pz_u1_in (r := 147) (q := 149) (by decide)]; rw [pz_u1_in (r := 147) (q := 148) (by decide)]; rw [pz_u1_top (r := 147)]; rw [pz_u1_in (r := 148) (q := 149) (by decide)]; rw [pz_u1_top (r := 148)]; rw [pz_u1_top (r := 149)] <;> rfl)
            subst h9x
            replace hci : q_CI k o9_5 n9_7 w9_8 d9_9 m9_10 V9_11 U9_13 (iv 129) (iv 135) := hci
            replace hRK : q_RK k m9_10 V9_11 U9_13 := hRK
            replace ho2 : o9_5 2 = (iv 2) 2 := ho2
            refine w_loc rfl ?_
            refine w_loc rfl ?_
            refine w_getR (q := 3) is_2 rf_2_0 ?_
            refine w_getR (q := 15) is_3 rf_3_3 ?_
            have hc18 : pz_R (pz_Sh L) 105 [.inr (.inl 142), .inl e, .inr (.inl 15)] (pz_u1 (pz_u1 (pz_u1 (pz_u1 (pz_u1 (pz_u1 (pz_u1 (pz_u1 (pz_u1 (pz_u1 (pz_u1 (pz_u1 (pz_u1 iv 2 o9_5) 134 l9_6) 138 n9_7) 139 w9_8) 140 d9_9) 142 m9_10) 143 V9_11) 144 W9_12) 145 U9_13) 146 Y9_14) 147 p9_15) 148 q9_16) 149 r9_17) (.inl (some (.inl (q_rs (q_val k) (q_ka k) k e (k 4))))) (pz_u1 (pz_u1 (pz_u1 (pz_u1 (pz_u1 (pz_u1 (pz_u1 (pz_u1 (pz_u1 (pz_u1 (pz_u1 (pz_u1 (pz_u1 iv 2 o9_5) 134 l9_6) 138 n9_7) 139 w9_8) 140 d9_9) 142 m9_10) 143 V9_11) 144 W9_12) 145 U9_13) 146 Y9_14) 147 p9_15) 148 q9_16) 149 r9_17) := s_X8_reasonAgainst_15 e (by show q_KR k; exact hk) (by show q_cE k (iv 3); exact hE) (by show q_cS k (iv 10) (iv 11) (iv 12) (iv 13) (iv 14); exact hS) (by show q_cC k (iv 15) (iv 16); exact hC) (by show q_VU k (q_val k) V9_11 U9_13; exact hRK.2.2 (by assumption)) (by show q_vb (q_val k); exact q_vb_val hk (by assumption)) (by show 0 ≤ e ∧ e < k 0; omega)
            refine w_call hc18 rfl (pz_cokI is_142 rfl) ?_
            refine w_pure rfl ?_
            refine w_ieq (fun h19 => ?_) (fun h19 => ?_)
            · first
              | (exfalso; first | omega | contradiction)
              | (refine pz_G_of pz_b150_36 ?_
                 refine w_loc rfl ?_
                 refine w_getR (q := 3) is_2 rf_2_0 ?_
                 refine w_getR (q := 15) is_3 rf_3_3 ?_
                 refine w_loc rfl ?_
                 have hc20 : pz_R (pz_Sh L) 28 [.inr (.inl 15), .inl e] (pz_u1 (pz_u1 (pz_u1 (pz_u1 (pz_u1 (pz_u1 (pz_u1 (pz_u1 (pz_u1 (pz_u1 (pz_u1 (pz_u1 (pz_u1 iv 2 o9_5) 134 l9_6) 138 n9_7) 139 w9_8) 140 d9_9) 142 m9_10) 143 V9_11) 144 W9_12) 145 U9_13) 146 Y9_14) 147 p9_15) 148 q9_16) 149 r9_17) (.inl none) (pz_u1 (pz_u1 (pz_u1 (pz_u1 (pz_u1 (pz_u1 (pz_u1 (pz_u1 (pz_u1 (pz_u1 (pz_u1 (pz_u1 (pz_u1 (pz_u1 iv 2 o9_5) 16 (pz_up (iv 16) e.toNat (k 4))) 134 l9_6) 138 n9_7) 139 w9_8) 140 d9_9) 142 m9_10) 143 V9_11) 144 W9_12) 145 U9_13) 146 Y9_14) 147 p9_15) 148 q9_16) 149 r9_17) := pz_R_mem (s_X2_begin_15 e (by show q_cC k (iv 15) (iv 16); exact hC) (by show 0 ≤ e ∧ e ≤ 9; omega)) (by rw [pz_u1_in (r := 16) (q := 149) (by decide)]; rw [pz_u1_in (r := 16) (q := 148) (by decide)]; rw [pz_u1_in (r := 16) (q := 147) (by decide)]; rw [pz_u1_in (r := 16) (q := 146) (by decide)]; rw [pz_u1_in (r := 16) (q := 145) (by decide)]; rw [pz_u1_in (r := 16) (q := 144) (by decide)]; rw [pz_u1_in (r := 16) (q := 143) (by decide)]; rw [pz_u1_in (r := 16) (q := 142) (by decide)]; rw [pz_u1_in (r := 16) (q := 140) (by decide)]; rw [pz_u1_in (r := 16) (q := 139) (by decide)]; rw [pz_u1_in (r := 16) (q := 138) (by decide)]; rw [pz_u1_in (r := 16) (q := 134) (by decide)]; rw [pz_u1_top (r := 16)]; rfl)
                 refine w_callv hc20 rfl (pz_cokI is_15 rfl) ?_
                 refine w_loc rfl ?_
                 have hc21 : pz_R (pz_Sh L) 178 [.inr (.inl 2)] (pz_u1 (pz_u1 (pz_u1 (pz_u1 (pz_u1 (pz_u1 (pz_u1 (pz_u1 (pz_u1 (pz_u1 (pz_u1 (pz_u1 (pz_u1 (pz_u1 iv 2 o9_5) 16 (pz_up (iv 16) e.toNat (k 4))) 134 l9_6) 138 n9_7) 139 w9_8) 140 d9_9) 142 m9_10) 143 V9_11) 144 W9_12) 145 U9_13) 146 Y9_14) 147 p9_15) 148 q9_16) 149 r9_17) (.inl none) (pz_u1 (pz_u1 (pz_u1 (pz_u1 (pz_u1 (pz_u1 (pz_u1 (pz_u1 (pz_u1 (pz_u1 (pz_u1 (pz_u1 (pz_u1 (pz_u1 iv 2 (pz_up (pz_up (pz_up o9_5 7 0) 8 0) 9 0)) 16 (pz_up (iv 16) e.toNat (k 4))) 134 l9_6) 138 n9_7) 139 w9_8) 140 d9_9) 142 m9_10) 143 V9_11) 144 W9_12) 145 U9_13) 146 Y9_14) 147 p9_15) 148 q9_16) 149 r9_17) := pz_R_mem (s_X10_forget) (by rw [pz_u1_in (r := 2) (q := 149) (by decide)]; rw [pz_u1_in (r := 2) (q := 148) (by decide)]; rw [pz_u1_in (r := 2) (q := 147) (by decide)]; rw [pz_u1_in (r := 2) (q := 146) (by decide)]; rw [pz_u1_in (r := 2) (q := 145) (by decide)]; rw [pz_u1_in (r := 2) (q := 144) (by decide)]; rw [pz_u1_in (r := 2) (q := 143) (by decide)]; rw [pz_u1_in (r := 2) (q := 142) (by decide)]; rw [pz_u1_in (r := 2) (q := 140) (by decide)]; rw [pz_u1_in (r := 2) (q := 139) (by decide)]; rw [pz_u1_in (r := 2) (q := 138) (by decide)]; rw [pz_u1_in (r := 2) (q := 134) (by decide)]; rw [pz_u1_in (r := 2) (q := 16) (by decide)]; rw [pz_u1_top (r := 2)]; rfl)
                 refine w_callv hc21 rfl (pz_cokI is_2 rfl) ?_
                 refine w_loc rfl ?_
                 refine w_getR (q := 3) is_2 rf_2_0 ?_
                 refine w_getR (q := 15) is_3 rf_3_3 ?_
                 refine w_getI (v := (iv 15) 0) is_15 (by decide) rfl ?_
                 refine w_ret rfl ?_
                 first | exact ⟨pz_u1 (pz_u1 (pz_u1 (pz_u1 (pz_u1 (pz_u1 (pz_u1 (pz_u1 (pz_u1 (pz_u1 (pz_u1 (pz_u1 (pz_u1 (pz_u1 iv 2 (pz_up (pz_up (pz_up o9_5 7 0) 8 0) 9 0)) 16 (pz_up (iv 16) e.toNat (k 4))) 134 l9_6) 138 n9_7) 139 w9_8) 140 d9_9) 142 m9_10) 143 V9_11) 144 W9_12) 145 U9_13) 146 Y9_14) 147 p9_15) 148 q9_16) 149 r9_17, ⟨(pz_up (pz_up (pz_up o9_5 7 0) 8 0) 9 0), l9_6, n9_7, w9_8, d9_9, m9_10, V9_11, W9_12, U9_13, Y9_14, p9_15, q9_16, r9_17, by rfl, by exact hci, by exact ho2⟩, lf_i (by first | rfl | omega) (by rfl)⟩ | (exfalso; omega))
            · first
              | (exfalso; first | omega | contradiction)
              | (refine w_thr (by decide) ?_
                 first | exact ⟨pz_u1 (pz_u1 (pz_u1 (pz_u1 (pz_u1 (pz_u1 (pz_u1 (pz_u1 (pz_u1 (pz_u1 (pz_u1 (pz_u1 (pz_u1 iv 2 o9_5) 134 l9_6) 138 n9_7) 139 w9_8) 140 d9_9) 142 m9_10) 143 V9_11) 144 W9_12) 145 U9_13) 146 Y9_14) 147 p9_15) 148 q9_16) 149 r9_17, ⟨o9_5, l9_6, n9_7, w9_8, d9_9, m9_10, V9_11, W9_12, U9_13, Y9_14, p9_15, q9_16, r9_17, by rfl, by exact hci, by exact ho2⟩, lf_e (by rfl)⟩ | (exfalso; omega)))
       · first
         | (exfalso; first | omega | contradiction)
         | (have hc22 := s_X10_goodReductions_n (L := L) (iv := pz_u1 (pz_u1 (pz_u1 (pz_u1 (pz_u1 (pz_u1 (pz_u1 (pz_u1 (pz_u1 (pz_u1 (pz_u1 (pz_u1 (pz_u1 iv 2 (iv 2)) 134 (iv 134)) 138 (iv 138)) 139 (iv 139)) 140 (iv 140)) 142 (iv 142)) 143 (iv 143)) 144 (iv 144)) 145 (iv 145)) 146 (iv 146)) 147 (iv 147)) 148 (iv 148)) 149 (iv 149)) (by show q_KR k; exact hk) (by show q_cE k (iv 3); exact hE) (by show q_cB k (iv 4) (iv 5) (iv 6) (iv 7) (iv 8) (iv 9); exact hB) (by show q_cS k (iv 10) (iv 11) (iv 12) (iv 13) (iv 14); exact hS) (by show q_cC k (iv 15) (iv 16); exact hC) (by show q_cL k (iv 25); exact hL) (by show q_CI k (iv 2) (iv 138) (iv 139) (iv 140) (iv 142) (iv 143) (iv 145) (iv 129) (iv 135); exact hci) (by show ¬ q_sen k; exact h3)
            refine w_calleE hc22 rfl (pz_cokI is_2 rfl) rfl (fun iv9 h9 => ?_)
            obtain ⟨o9_23, l9_24, n9_25, w9_26, d9_27, m9_28, V9_29, W9_30, U9_31, Y9_32, p9_33, q9_34, r9_35, h9e, hci, ho2⟩ := h9
            have h9x : iv9 = pz_u1 (pz_u1 (pz_u1 (pz_u1 (pz_u1 (pz_u1 (pz_u1 (pz_u1 (pz_u1 (pz_u1 (pz_u1 (pz_u1 (pz_u1 iv 2 o9_23) 134 l9_24) 138 n9_25) 139 w9_26) 140 d9_27) 142 m9_28) 143 V9_29) 144 W9_30) 145 U9_31) 146 Y9_32) 147 p9_33) 148 q9_34) 149 r9_35 := h9e.trans (by rw [pz_u1_in (r := 2) (q := 149) (by decide)]; rw [pz_u1_in (r := 2) (q := 148) (by decide)]; rw [pz_u1_in (r := 2) (q := 147) (by decide)]; rw [pz_u1_in (r := 2) (q := 146) (by decide)]; rw [pz_u1_in (r := 2) (q := 145) (by decide)]; rw [pz_u1_in (r := 2) (q := 144) (by decide)]; rw [pz_u1_in (r := 2) (q := 143) (by decide)]; rw [pz_u1_in (r := 2) (q := 142) (by decide)]; rw [pz_u1_in (r := 2) (q := 140) (by decide)]; rw [pz_u1_in (r := 2) (q := 139) (by decide)]; rw [pz_u1_in (r := 2) (q := 138) (by decide)]; rw [pz_u1_in (r := 2) (q := 134) (by decide)]; rw [pz_u1_top (r := 2)]; rw [pz_u1_in (r := 134) (q := 149) (by decide)]; rw [pz_u1_in (r := 134) (q := 148) (by decide)]; rw [pz_u1_in (r := 134) (q := 147) (by decide)]; rw [pz_u1_in (r := 134) (q := 146) (by decide)]; rw [pz_u1_in (r := 134) (q := 145) (by decide)]; rw [pz_u1_in (r := 134) (q := 144) (by decide)]; rw [pz_u1_in (r := 134) (q := 143) (by decide)]; rw [pz_u1_in (r := 134) (q := 142) (by decide)]; rw [pz_u1_in (r := 134) (q := 140) (by decide)]; rw [pz_u1_in (r := 134) (q := 139) (by decide)]; rw [pz_u1_in (r := 134) (q := 138) (by decide)]; rw [pz_u1_top (r := 134)]; rw [pz_u1_in (r := 138) (q := 149) (by decide)]; rw [pz_u1_in (r := 138) (q := 148) (by decide)]; rw [pz_u1_in (r := 138) (q := 147) (by decide)]; rw [pz_u1_in (r := 138) (q := 146) (by decide)]; rw [pz_u1_in (r := 138) (q := 145) (by decide)]; rw [pz_u1_in (r := 138) (q := 144) (by decide)]; rw [pz_u1_in (r := 138) (q := 143) (by decide)]; rw [pz_u1_in (r := 138) (q := 142) (by decide)]; rw [pz_u1_in (r := 138) (q := 140) (by decide)]; rw [pz_u1_in (r := 138) (q := 139) (by decide)]; rw [pz_u1_top (r := 138)]; rw [pz_u1_in (r := 139) (q := 149) (by decide)]; rw [pz_u1_in (r := 139) (q := 148) (by decide)]; rw [pz_u1_in (r := 139) (q := 147) (by decide)]; rw [pz_u1_in (r := 139) (q := 146) (by decide)]; rw [pz_u1_in (r := 139) (q := 145) (by decide)]; rw [pz_u1_in (r := 139) (q := 144) (by decide)]; rw [pz_u1_in (r := 139) (q := 143) (by decide)]; rw [pz_u1_in (r := 139) (q := 142) (by decide)]; rw [pz_u1_in (r := 139) (q := 140) (by decide)]; rw [pz_u1_top (r := 139)]; rw [pz_u1_in (r := 140) (q := 149) (by decide)]; rw [pz_u1_in (r := 140) (q := 148) (by decide)]; rw [pz_u1_in (r := 140) (q := 147) (by decide)]; rw [pz_u1_in (r := 140) (q := 146) (by decide)]; rw [pz_u1_in (r := 140) (q := 145) (by decide)]; rw [pz_u1_in (r := 140) (q := 144) (by decide)]; rw [pz_u1_in (r := 140) (q := 143) (by decide)]; rw [pz_u1_in (r := 140) (q := 142) (by decide)]; rw [pz_u1_top (r := 140)]; rw [pz_u1_in (r := 142) (q := 149) (by decide)]; rw [pz_u1_in (r := 142) (q := 148) (by decide)]; rw [pz_u1_in (r := 142) (q := 147) (by decide)]; rw [pz_u1_in (r := 142) (q := 146) (by decide)]; rw [pz_u1_in (r := 142) (q := 145) (by decide)]; rw [pz_u1_in (r := 142) (q := 144) (by decide)]; rw [pz_u1_in (r := 142) (q := 143) (by decide)]; rw [pz_u1_top (r := 142)]; rw [pz_u1_in (r := 143) (q := 149) (by decide)]; rw [pz_u1_in (r := 143) (q := 148) (by decide)]; rw [pz_u1_in (r := 143) (q := 147) (by decide)]; rw [pz_u1_in (r := 143) (q := 146) (by decide)]; rw [pz_u1_in (r := 143) (q := 145) (by decide)]; rw [pz_u1_in (r := 143) (q := 144) (by decide)]; rw [pz_u1_top (r := 143)]; rw [pz_u1_in (r := 144) (q := 149) (by decide)]; rw [pz_u1_in (r := 144) (q := 148) (by decide)]; rw [pz_u1_in (r := 144) (q := 147) (by decide)]; rw [pz_u1_in (r := 144) (q := 146) (by decide)]; rw [pz_u1_in (r := 144) (q := 145) (by decide)]; rw [pz_u1_top (r := 144)]; rw [pz_u1_in (r := 145) (q := 149) (by decide)]; rw [pz_u1_in (r := 145) (q := 148) (by decide)]; rw [pz_u1_in (r := 145) (q := 147) (by decide)]; rw [pz_u1_in (r := 145) (q := 146) (by decide)]; rw [pz_u1_top (r := 145)]; rw [pz_u1_in (r := 146) (q := 149) (by decide)]; rw [pz_u1_in (r := 146) (q := 148) (by decide)]; rw [pz_u1_in (r := 146) (q := 147) (by decide)]; rw [pz_u1_top (r := 146)]; rw [pz_u1_in (r := 147) (q := 149) (by decide)]; rw [pz_u1_in (r := 147) (q := 148) (by decide)]; rw [pz_u1_top (r := 147)]; rw [pz_u1_in (r := 148) (q := 149) (by decide)]; rw [pz_u1_top (r := 148)]; rw [pz_u1_top (r := 149)] <;> rfl)
            subst h9x
            replace hci : q_CI k o9_23 n9_25 w9_26 d9_27 m9_28 V9_29 U9_31 (iv 129) (iv 135) := hci
            replace ho2 : o9_23 2 = (iv 2) 2 := ho2
            first | exact ⟨pz_u1 (pz_u1 (pz_u1 (pz_u1 (pz_u1 (pz_u1 (pz_u1 (pz_u1 (pz_u1 (pz_u1 (pz_u1 (pz_u1 (pz_u1 iv 2 o9_23) 134 l9_24) 138 n9_25) 139 w9_26) 140 d9_27) 142 m9_28) 143 V9_29) 144 W9_30) 145 U9_31) 146 Y9_32) 147 p9_33) 148 q9_34) 149 r9_35, ⟨o9_23, l9_24, n9_25, w9_26, d9_27, m9_28, V9_29, W9_30, U9_31, Y9_32, p9_33, q9_34, r9_35, by rfl, by exact hci, by exact ho2⟩, lf_e (by rfl)⟩ | (exfalso; omega)))
  · first
    | (exfalso; first | omega | contradiction)
    | (have hc36 : pz_R (pz_Sh L) 170 [.inr (.inl 2), .inl e] (pz_u1 (pz_u1 (pz_u1 (pz_u1 (pz_u1 (pz_u1 (pz_u1 (pz_u1 (pz_u1 (pz_u1 (pz_u1 (pz_u1 (pz_u1 iv 2 (iv 2)) 134 (iv 134)) 138 (iv 138)) 139 (iv 139)) 140 (iv 140)) 142 (iv 142)) 143 (iv 143)) 144 (iv 144)) 145 (iv 145)) 146 (iv 146)) 147 (iv 147)) 148 (iv 148)) 149 (iv 149)) (.inr 2) (pz_u1 (pz_u1 (pz_u1 (pz_u1 (pz_u1 (pz_u1 (pz_u1 (pz_u1 (pz_u1 (pz_u1 (pz_u1 (pz_u1 (pz_u1 iv 2 (iv 2)) 134 (iv 134)) 138 (iv 138)) 139 (iv 139)) 140 (iv 140)) 142 (iv 142)) 143 (iv 143)) 144 (iv 144)) 145 (iv 145)) 146 (iv 146)) 147 (iv 147)) 148 (iv 148)) 149 (iv 149)) := s_X10_needEvent_n e (by show q_cE k (iv 3); exact hE) (by show ¬ (0 ≤ e ∧ e < k 0); exact h1)
       refine w_calle hc36 rfl (pz_cokI is_2 rfl) rfl ?_
       first | exact ⟨pz_u1 (pz_u1 (pz_u1 (pz_u1 (pz_u1 (pz_u1 (pz_u1 (pz_u1 (pz_u1 (pz_u1 (pz_u1 (pz_u1 (pz_u1 iv 2 (iv 2)) 134 (iv 134)) 138 (iv 138)) 139 (iv 139)) 140 (iv 140)) 142 (iv 142)) 143 (iv 143)) 144 (iv 144)) 145 (iv 145)) 146 (iv 146)) 147 (iv 147)) 148 (iv 148)) 149 (iv 149), ⟨(iv 2), (iv 134), (iv 138), (iv 139), (iv 140), (iv 142), (iv 143), (iv 144), (iv 145), (iv 146), (iv 147), (iv 148), (iv 149), by rfl, by exact hci, by exact ho2⟩, lf_e (by rfl)⟩ | (exfalso; omega))

theorem s_X10_start_0 {L : Nat} {iv : Nat → Nat → Int} (e : Int) {k : Nat → Int} (hk : q_KR k) (hE : q_cE k (iv 3)) (hB : q_cB k (iv 4) (iv 5) (iv 6) (iv 7) (iv 8) (iv 9)) (hS : q_cS k (iv 10) (iv 11) (iv 12) (iv 13) (iv 14)) (hC : q_cC k (iv 15) (iv 16)) (hA : q_cA k (iv 17) (iv 18) (iv 19) (iv 20)) (hO : q_cO k (iv 22) (iv 23) (iv 24)) (hL : q_cL k (iv 25)) (hP : q_cP k (iv 27)) (hci : q_CI k (iv 2) (iv 138) (iv 139) (iv 140) (iv 142) (iv 143) (iv 145) (iv 129) (iv 135)) (hcase0 : 0 ≤ e ∧ e ≤ k 0 - 1) (hcase1 : q_sen k) (hcase2 : q_rs (q_val k) (q_ka k) k e (k 4) = 45) : pz_RE (pz_Sh L) 150 [.inr (.inl 2), .inl e] iv (.inl (some (.inl (k 4)))) (fun iv9 => ∃ (o9 : Nat → Int) (l9 : Nat → Int) (n9 : Nat → Int) (w9 : Nat → Int) (d9 : Nat → Int) (m9 : Nat → Int) (V9 : Nat → Int) (W9 : Nat → Int) (U9 : Nat → Int) (Y9 : Nat → Int) (p9 : Nat → Int) (q9 : Nat → Int) (r9 : Nat → Int), iv9 = pz_u1 (pz_u1 (pz_u1 (pz_u1 (pz_u1 (pz_u1 (pz_u1 (pz_u1 (pz_u1 (pz_u1 (pz_u1 (pz_u1 (pz_u1 (pz_u1 iv 2 o9) 16 (pz_up (iv 16) e.toNat (k 4))) 134 l9) 138 n9) 139 w9) 140 d9) 142 m9) 143 V9) 144 W9) 145 U9) 146 Y9) 147 p9) 148 q9) 149 r9 ∧ ((o9 7 = 0 ∧ o9 8 = 0 ∧ o9 9 = 0) ∧ o9 2 = (iv 2) 2)) := by
  intro dv cc ss
  have hk0 := hk.r0
  have hE0 := hE
  have hB0 := hB.1
  have hS0 := hS.1
  have hC0 := hC.1
  have hA0 := hA.1
  have hrr := q_rs_r (v := q_val k) (a := q_ka k) (k := k) (e := e) (m := k 4)
  refine pz_G_mem (iv2 := pz_u1 (pz_u1 (pz_u1 (pz_u1 (pz_u1 (pz_u1 (pz_u1 (pz_u1 (pz_u1 (pz_u1 (pz_u1 (pz_u1 (pz_u1 (pz_u1 iv 2 (iv 2)) 16 (iv 16)) 134 (iv 134)) 138 (iv 138)) 139 (iv 139)) 140 (iv 140)) 142 (iv 142)) 143 (iv 143)) 144 (iv 144)) 145 (iv 145)) 146 (iv 146)) 147 (iv 147)) 148 (iv 148)) 149 (iv 149)) (by exact ((((((((((((((pz_u1_self iv 2).symm).trans (pz_u1_self (pz_u1 iv 2 (iv 2)) 16).symm).trans (pz_u1_self (pz_u1 (pz_u1 iv 2 (iv 2)) 16 (iv 16)) 134).symm).trans (pz_u1_self (pz_u1 (pz_u1 (pz_u1 iv 2 (iv 2)) 16 (iv 16)) 134 (iv 134)) 138).symm).trans (pz_u1_self (pz_u1 (pz_u1 (pz_u1 (pz_u1 iv 2 (iv 2)) 16 (iv 16)) 134 (iv 134)) 138 (iv 138)) 139).symm).trans (pz_u1_self (pz_u1 (pz_u1 (pz_u1 (pz_u1 (pz_u1 iv 2 (iv 2)) 16 (iv 16)) 134 (iv 134)) 138 (iv 138)) 139 (iv 139)) 140).symm).trans (pz_u1_self (pz_u1 (pz_u1 (pz_u1 (pz_u1 (pz_u1 (pz_u1 iv 2 (iv 2)) 16 (iv 16)) 134 (iv 134)) 138 (iv 138)) 139 (iv 139)) 140 (iv 140)) 142).symm).trans (pz_u1_self (pz_u1 (pz_u1 (pz_u1 (pz_u1 (pz_u1 (pz_u1 (pz_u1 iv 2 (iv 2)) 16 (iv 16)) 134 (iv 134)) 138 (iv 138)) 139 (iv 139)) 140 (iv 140)) 142 (iv 142)) 143).symm).trans (pz_u1_self (pz_u1 (pz_u1 (pz_u1 (pz_u1 (pz_u1 (pz_u1 (pz_u1 (pz_u1 iv 2 (iv 2)) 16 (iv 16)) 134 (iv 134)) 138 (iv 138)) 139 (iv 139)) 140 (iv 140)) 142 (iv 142)) 143 (iv 143)) 144).symm).trans (pz_u1_self (pz_u1 (pz_u1 (pz_u1 (pz_u1 (pz_u1 (pz_u1 (pz_u1 (pz_u1 (pz_u1 iv 2 (iv 2)) 16 (iv 16)) 134 (iv 134)) 138 (iv 138)) 139 (iv 139)) 140 (iv 140)) 142 (iv 142)) 143 (iv 143)) 144 (iv 144)) 145).symm).trans (pz_u1_self (pz_u1 (pz_u1 (pz_u1 (pz_u1 (pz_u1 (pz_u1 (pz_u1 (pz_u1 (pz_u1 (pz_u1 iv 2 (iv 2)) 16 (iv 16)) 134 (iv 134)) 138 (iv 138)) 139 (iv 139)) 140 (iv 140)) 142 (iv 142)) 143 (iv 143)) 144 (iv 144)) 145 (iv 145)) 146).symm).trans (pz_u1_self (pz_u1 (pz_u1 (pz_u1 (pz_u1 (pz_u1 (pz_u1 (pz_u1 (pz_u1 (pz_u1 (pz_u1 (pz_u1 iv 2 (iv 2)) 16 (iv 16)) 134 (iv 134)) 138 (iv 138)) 139 (iv 139)) 140 (iv 140)) 142 (iv 142)) 143 (iv 143)) 144 (iv 144)) 145 (iv 145)) 146 (iv 146)) 147).symm).trans (pz_u1_self (pz_u1 (pz_u1 (pz_u1 (pz_u1 (pz_u1 (pz_u1 (pz_u1 (pz_u1 (pz_u1 (pz_u1 (pz_u1 (pz_u1 iv 2 (iv 2)) 16 (iv 16)) 134 (iv 134)) 138 (iv 138)) 139 (iv 139)) 140 (iv 140)) 142 (iv 142)) 143 (iv 143)) 144 (iv 144)) 145 (iv 145)) 146 (iv 146)) 147 (iv 147)) 148).symm).trans (pz_u1_self (pz_u1 (pz_u1 (pz_u1 (pz_u1 (pz_u1 (pz_u1 (pz_u1 (pz_u1 (pz_u1 (pz_u1 (pz_u1 (pz_u1 (pz_u1 iv 2 (iv 2)) 16 (iv 16)) 134 (iv 134)) 138 (iv 138)) 139 (iv 139)) 140 (iv 140)) 142 (iv 142)) 143 (iv 143)) 144 (iv 144)) 145 (iv 145)) 146 (iv 146)) 147 (iv 147)) 148 (iv 148)) 149).symm) ?_
  show pz_G 150 0 [some (.inr (.inl 2)), some (.inl e)] [] (pz_Sh L, pz_u1 (pz_u1 (pz_u1 (pz_u1 (pz_u1 (pz_u1 (pz_u1 (pz_u1 (pz_u1 (pz_u1 (pz_u1 (pz_u1 (pz_u1 (pz_u1 iv 2 (iv 2)) 16 (iv 16)) 134 (iv 134)) 138 (iv 138)) 139 (iv 139)) 140 (iv 140)) 142 (iv 142)) 143 (iv 143)) 144 (iv 144)) 145 (iv 145)) 146 (iv 146)) 147 (iv 147)) 148 (iv 148)) 149 (iv 149), dv, cc, ss) (pz_PE (pz_Sh L) (.inl (some (.inl (k 4)))) (fun iv9 => ∃ (o9 : Nat → Int) (l9 : Nat → Int) (n9 : Nat → Int) (w9 : Nat → Int) (d9 : Nat → Int) (m9 : Nat → Int) (V9 : Nat → Int) (W9 : Nat → Int) (U9 : Nat → Int) (Y9 : Nat → Int) (p9 : Nat → Int) (q9 : Nat → Int) (r9 : Nat → Int), iv9 = pz_u1 (pz_u1 (pz_u1 (pz_u1 (pz_u1 (pz_u1 (pz_u1 (pz_u1 (pz_u1 (pz_u1 (pz_u1 (pz_u1 (pz_u1 (pz_u1 iv 2 o9) 16 (pz_up (iv 16) e.toNat (k 4))) 134 l9) 138 n9) 139 w9) 140 d9) 142 m9) 143 V9) 144 W9) 145 U9) 146 Y9) 147 p9) 148 q9) 149 r9 ∧ ((o9 7 = 0 ∧ o9 8 = 0 ∧ o9 9 = 0) ∧ o9 2 = (iv 2) 2)) dv cc ss)
  refine pz_G_of pz_b150_0 ?_
  refine w_loc rfl ?_
  refine w_loc rfl ?_
  by_cases h1 : 0 ≤ e ∧ e < k 0
  · first
    | (exfalso; first | omega | contradiction)
    | (have hc2 : pz_R (pz_Sh L) 170 [.inr (.inl 2), .inl e] (pz_u1 (pz_u1 (pz_u1 (pz_u1 (pz_u1 (pz_u1 (pz_u1 (pz_u1 (pz_u1 (pz_u1 (pz_u1 (pz_u1 (pz_u1 (pz_u1 iv 2 (iv 2)) 16 (iv 16)) 134 (iv 134)) 138 (iv 138)) 139 (iv 139)) 140 (iv 140)) 142 (iv 142)) 143 (iv 143)) 144 (iv 144)) 145 (iv 145)) 146 (iv 146)) 147 (iv 147)) 148 (iv 148)) 149 (iv 149)) (.inl none) (pz_u1 (pz_u1 (pz_u1 (pz_u1 (pz_u1 (pz_u1 (pz_u1 (pz_u1 (pz_u1 (pz_u1 (pz_u1 (pz_u1 (pz_u1 (pz_u1 iv 2 (iv 2)) 16 (iv 16)) 134 (iv 134)) 138 (iv 138)) 139 (iv 139)) 140 (iv 140)) 142 (iv 142)) 143 (iv 143)) 144 (iv 144)) 145 (iv 145)) 146 (iv 146)) 147 (iv 147)) 148 (iv 148)) 149 (iv 149)) := s_X10_needEvent_y e (by show q_cE k (iv 3); exact hE) (by show 0 ≤ e ∧ e < k 0; exact h1)
       refine w_callv hc2 rfl (pz_cokI is_2 rfl) ?_
       refine w_loc rfl ?_
       by_cases h3 : q_sen k
       · first
         | (exfalso; first | omega | contradiction)
         | (have hc4 := s_X10_goodReductions_y (L := L) (iv := pz_u1 (pz_u1 (pz_u1 (pz_u1 (pz_u1 (pz_u1 (pz_u1 (pz_u1 (pz_u1 (pz_u1 (pz_u1 (pz_u1 (pz_u1 (pz_u1 iv 2 (iv 2)) 16 (iv 16)) 134 (iv 134)) 138 (iv 138)) 139 (iv 139)) 140 (iv 140)) 142 (iv 142)) 143 (iv 143)) 144 (iv 144)) 145 (iv 145)) 146 (iv 146)) 147 (iv 147)) 148 (iv 148)) 149 (iv 149)) (by show q_KR k; exact hk) (by show q_cE k (iv 3); exact hE) (by show q_cB k (iv 4) (iv 5) (iv 6) (iv 7) (iv 8) (iv 9); exact hB) (by show q_cS k (iv 10) (iv 11) (iv 12) (iv 13) (iv 14); exact hS) (by show q_cC k (iv 15) (iv 16); exact hC) (by show q_cL k (iv 25); exact hL) (by show q_CI k (iv 2) (iv 138) (iv 139) (iv 140) (iv 142) (iv 143) (iv 145) (iv 129) (iv 135); exact hci) (by show q_sen k; exact h3)
            refine w_callE hc4 rfl (pz_cokI is_2 rfl) (fun iv9 h9 => ?_)
            obtain ⟨o9_5, l9_6, n9_7, w9_8, d9_9, m9_10, V9_11, W9_12, U9_13, Y9_14, p9_15, q9_16, r9_17, h9e, hci, hRK, ho2⟩ := h9
            have h9x : iv9 = pz_u1 (pz_u1 (pz_u1 (pz_u1 (pz_u1 (pz_u1 (pz_u1 (pz_u1 (pz_u1 (pz_u1 (pz_u1 (pz_u1 (pz_u1 (pz_u1 iv 2 o9_5) 16 (iv 16)) 134 l9_6) 138 n9_7) 139 w9_8) 140 d9_9) 142 m9_10) 143 V9_11) 144 W9_12) 145 U9_13) 146 Y9_14) 147 p9_15) 148 q9_16) 149 r9_17 := h9e.trans (by rw [pz_u1_in (r := 2) (q := 149) (by decide)]; rw [pz_u1_in (r := 2) (q := 148) (by decide)]; rw [pz_u1_in (r := 2) (q := 147) (by decide)]; rw [pz_u1_in (r := 2) (q := 146) (by decide)]; rw [pz_u1_in (r := 2) (q := 145) (by decide)]; rw [pz_u1_in (r := 2) (q := 144) (by decide)]; rw [pz_u1_in (r := 2) (q := 143) (by decide)]; rw [pz_u1_in (r := 2) (q := 142) (by decide)]; rw [pz_u1_in (r := 2) (q := 140) (by decide)]; rw [pz_u1_in (r := 2) (q := 139) (by decide)]; rw [pz_u1_in (r := 2) (q := 138) (by decide)]; rw [pz_u1_in (r := 2) (q := 134) (by decide)]; rw [pz_u1_in (r := 2) (q := 16) (by decide)]; rw [pz_u1_top (r := 2)]; rw [pz_u1_in (r := 134) (q := 149) (by decide)]; rw [pz_u1_in (r := 134) (q := 148) (by decide)]; rw [pz_u1_in (r := 134) (q := 147) (by decide)]; rw [pz_u1_in (r := 134) (q := 146) (by decide)]; rw [pz_u1_in (r := 134) (q := 145) (by decide)]; rw [pz_u1_in (r := 134) (q := 144) (by decide)]; rw [pz_u1_in (r := 134) (q := 143) (by decide)]; rw [pz_u1_in (r := 134) (q := 142) (by decide)]; rw [pz_u1_in (r := 134) (q := 140) (by decide)]; rw [pz_u1_in (r := 134) (q := 139) (by decide)]; rw [pz_u1_in (r := 134) (q := 138) (by decide)]; rw [pz_u1_top (r := 134)]; rw [pz_u1_in (r := 138) (q := 149) (by decide)]; rw [pz_u1_in (r := 138) (q := 148) (by decide)]; rw [pz_u1_in (r := 138) (q := 147) (by decide)]; rw [pz_u1_in (r := 138) (q := 146) (by decide)]; rw [pz_u1_in (r := 138) (q := 145) (by decide)]; rw [pz_u1_in (r := 138) (q := 144) (by decide)]; rw [pz_u1_in (r := 138) (q := 143) (by decide)]; rw [pz_u1_in (r := 138) (q := 142) (by decide)]; rw [pz_u1_in (r := 138) (q := 140) (by decide)]; rw [pz_u1_in (r := 138) (q := 139) (by decide)]; rw [pz_u1_top (r := 138)]; rw [pz_u1_in (r := 139) (q := 149) (by decide)]; rw [pz_u1_in (r := 139) (q := 148) (by decide)]; rw [pz_u1_in (r := 139) (q := 147) (by decide)]; rw [pz_u1_in (r := 139) (q := 146) (by decide)]; rw [pz_u1_in (r := 139) (q := 145) (by decide)]; rw [pz_u1_in (r := 139) (q := 144) (by decide)]; rw [pz_u1_in (r := 139) (q := 143) (by decide)]; rw [pz_u1_in (r := 139) (q := 142) (by decide)]; rw [pz_u1_in (r := 139) (q := 140) (by decide)]; rw [pz_u1_top (r := 139)]; rw [pz_u1_in (r := 140) (q := 149) (by decide)]; rw [pz_u1_in (r := 140) (q := 148) (by decide)]; rw [pz_u1_in (r := 140) (q := 147) (by decide)]; rw [pz_u1_in (r := 140) (q := 146) (by decide)]; rw [pz_u1_in (r := 140) (q := 145) (by decide)]; rw [pz_u1_in (r := 140) (q := 144) (by decide)]; rw [pz_u1_in (r := 140) (q := 143) (by decide)]; rw [pz_u1_in (r := 140) (q := 142) (by decide)]; rw [pz_u1_top (r := 140)]; rw [pz_u1_in (r := 142) (q := 149) (by decide)]; rw [pz_u1_in (r := 142) (q := 148) (by decide)]; rw [pz_u1_in (r := 142) (q := 147) (by decide)]; rw [pz_u1_in (r := 142) (q := 146) (by decide)]; rw [pz_u1_in (r := 142) (q := 145) (by decide)]; rw [pz_u1_in (r := 142) (q := 144) (by decide)]; rw [pz_u1_in (r := 142) (q := 143) (by decide)]; rw [pz_u1_top (r := 142)]; rw [pz_u1_in (r := 143) (q := 149) (by decide)]; rw [pz_u1_in (r := 143) (q := 148) (by decide)]; rw [pz_u1_in (r := 143) (q := 147) (by decide)]; rw [pz_u1_in (r := 143) (q := 146) (by decide)]; rw [pz_u1_in (r := 143) (q := 145) (by decide)]; rw [pz_u1_in (r := 143) (q := 144) (by decide)]; rw [pz_u1_top (r := 143)]; rw [pz_u1_in (r := 144) (q := 149) (by decide)]; rw [pz_u1_in (r := 144) (q := 148) (by decide)]; rw [pz_u1_in (r := 144) (q := 147) (by decide)]; rw [pz_u1_in (r := 144) (q := 146) (by decide)]; rw [pz_u1_in (r := 144) (q := 145) (by decide)]; rw [pz_u1_top (r := 144)]; rw [pz_u1_in (r := 145) (q := 149) (by decide)]; rw [pz_u1_in (r := 145) (q := 148) (by decide)]; rw [pz_u1_in (r := 145) (q := 147) (by decide)]; rw [pz_u1_in (r := 145) (q := 146) (by decide)]; rw [pz_u1_top (r := 145)]; rw [pz_u1_in (r := 146) (q := 149) (by decide)]; rw [pz_u1_in (r := 146) (q := 148) (by decide)]; rw [pz_u1_in (r := 146) (q := 147) (by decide)]; rw [pz_u1_top (r := 146)]; rw [pz_u1_in (r := 147) (q := 149) (by decide)]; rw [pz_u1_in (r := 147) (q := 148) (by decide)]; rw [pz_u1_top (r := 147)]; rw [pz_u1_in (r := 148) (q := 149) (by decide)]; rw [pz_u1_top (r := 148)]; rw [pz_u1_top (r := 149)] <;> rfl)
            subst h9x
            replace hci : q_CI k o9_5 n9_7 w9_8 d9_9 m9_10 V9_11 U9_13 (iv 129) (iv 135) := hci
            replace hRK : q_RK k m9_10 V9_11 U9_13 := hRK
            replace ho2 : o9_5 2 = (iv 2) 2 := ho2
            refine w_loc rfl ?_
            refine w_loc rfl ?_
            refine w_getR (q := 3) is_2 rf_2_0 ?_
            refine w_getR (q := 15) is_3 rf_3_3 ?_
            have hc18 : pz_R (pz_Sh L) 105 [.inr (.inl 142), .inl e, .inr (.inl 15)] (pz_u1 (pz_u1 (pz_u1 (pz_u1 (pz_u1 (pz_u1 (pz_u1 (pz_u1 (pz_u1 (pz_u1 (pz_u1 (pz_u1 (pz_u1 (pz_u1 iv 2 o9_5) 16 (iv 16)) 134 l9_6) 138 n9_7) 139 w9_8) 140 d9_9) 142 m9_10) 143 V9_11) 144 W9_12) 145 U9_13) 146 Y9_14) 147 p9_15) 148 q9_16) 149 r9_17) (.inl (some (.inl (q_rs (q_val k) (q_ka k) k e (k 4))))) (pz_u1 (pz_u1 (pz_u1 (pz_u1 (pz_u1 (pz_u1 (pz_u1 (pz_u1 (pz_u1 (pz_u1 (pz_u1 (pz_u1 (pz_u1 (pz_u1 iv 2 o9_5) 16 (iv 16)) 134 l9_6) 138 n9_7) 139 w9_8) 140 d9_9) 142 m9_10) 143 V9_11) 144 W9_12) 145 U9_13) 146 Y9_14) 147 p9_15) 148 q9_16) 149 r9_17) := s_X8_reasonAgainst_15 e (by show q_KR k; exact hk) (by show q_cE k (iv 3); exact hE) (by show q_cS k (iv 10) (iv 11) (iv 12) (iv 13) (iv 14); exact hS) (by show q_cC k (iv 15) (iv 16); exact hC) (by show q_VU k (q_val k) V9_11 U9_13; exact hRK.2.2 (by assumption)) (by show q_vb (q_val k); exact q_vb_val hk (by assumption)) (by show 0 ≤ e ∧ e < k 0; omega)
            refine w_call hc18 rfl (pz_cokI is_142 rfl) ?_
            refine w_pure rfl ?_
            refine w_ieq (fun h19 => ?_) (fun h19 => ?_)
            · first
              | (exfalso; first | omega | contradiction)
              | (refine pz_G_of pz_b150_36 ?_
                 refine w_loc rfl ?_
                 refine w_getR (q := 3) is_2 rf_2_0 ?_
                 refine w_getR (q := 15) is_3 rf_3_3 ?_
                 refine w_loc rfl ?_
                 have hc20 : pz_R (pz_Sh L) 28 [.inr (.inl 15), .inl e] (pz_u1 (pz_u1 (pz_u1 (pz_u1 (pz_u1 (pz_u1 (pz_u1 (pz_u1 (pz_u1 (pz_u1 (pz_u1 (pz_u1 (pz_u1 (pz_u1 iv 2 o9_5) 16 (iv 16)) 134 l9_6) 138 n9_7) 139 w9_8) 140 d9_9) 142 m9_10) 143 V9_11) 144 W9_12) 145 U9_13) 146 Y9_14) 147 p9_15) 148 q9_16) 149 r9_17) (.inl none) (pz_u1 (pz_u1 (pz_u1 (pz_u1 (pz_u1 (pz_u1 (pz_u1 (pz_u1 (pz_u1 (pz_u1 (pz_u1 (pz_u1 (pz_u1 (pz_u1 iv 2 o9_5) 16 (pz_up (iv 16) e.toNat (k 4))) 134 l9_6) 138 n9_7) 139 w9_8) 140 d9_9) 142 m9_10) 143 V9_11) 144 W9_12) 145 U9_13) 146 Y9_14) 147 p9_15) 148 q9_16) 149 r9_17) := pz_R_mem (s_X2_begin_15 e (by show q_cC k (iv 15) (iv 16); exact hC) (by show 0 ≤ e ∧ e ≤ 9; omega)) (by rw [pz_u1_in (r := 16) (q := 149) (by decide)]; rw [pz_u1_in (r := 16) (q := 148) (by decide)]; rw [pz_u1_in (r := 16) (q := 147) (by decide)]; rw [pz_u1_in (r := 16) (q := 146) (by decide)]; rw [pz_u1_in (r := 16) (q := 145) (by decide)]; rw [pz_u1_in (r := 16) (q := 144) (by decide)]; rw [pz_u1_in (r := 16) (q := 143) (by decide)]; rw [pz_u1_in (r := 16) (q := 142) (by decide)]; rw [pz_u1_in (r := 16) (q := 140) (by decide)]; rw [pz_u1_in (r := 16) (q := 139) (by decide)]; rw [pz_u1_in (r := 16) (q := 138) (by decide)]; rw [pz_u1_in (r := 16) (q := 134) (by decide)]; rw [pz_u1_top (r := 16)]; rfl)
                 refine w_callv hc20 rfl (pz_cokI is_15 rfl) ?_
                 refine w_loc rfl ?_
                 have hc21 : pz_R (pz_Sh L) 178 [.inr (.inl 2)] (pz_u1 (pz_u1 (pz_u1 (pz_u1 (pz_u1 (pz_u1 (pz_u1 (pz_u1 (pz_u1 (pz_u1 (pz_u1 (pz_u1 (pz_u1 (pz_u1 iv 2 o9_5) 16 (pz_up (iv 16) e.toNat (k 4))) 134 l9_6) 138 n9_7) 139 w9_8) 140 d9_9) 142 m9_10) 143 V9_11) 144 W9_12) 145 U9_13) 146 Y9_14) 147 p9_15) 148 q9_16) 149 r9_17) (.inl none) (pz_u1 (pz_u1 (pz_u1 (pz_u1 (pz_u1 (pz_u1 (pz_u1 (pz_u1 (pz_u1 (pz_u1 (pz_u1 (pz_u1 (pz_u1 (pz_u1 iv 2 (pz_up (pz_up (pz_up o9_5 7 0) 8 0) 9 0)) 16 (pz_up (iv 16) e.toNat (k 4))) 134 l9_6) 138 n9_7) 139 w9_8) 140 d9_9) 142 m9_10) 143 V9_11) 144 W9_12) 145 U9_13) 146 Y9_14) 147 p9_15) 148 q9_16) 149 r9_17) := pz_R_mem (s_X10_forget) (by rw [pz_u1_in (r := 2) (q := 149) (by decide)]; rw [pz_u1_in (r := 2) (q := 148) (by decide)]; rw [pz_u1_in (r := 2) (q := 147) (by decide)]; rw [pz_u1_in (r := 2) (q := 146) (by decide)]; rw [pz_u1_in (r := 2) (q := 145) (by decide)]; rw [pz_u1_in (r := 2) (q := 144) (by decide)]; rw [pz_u1_in (r := 2) (q := 143) (by decide)]; rw [pz_u1_in (r := 2) (q := 142) (by decide)]; rw [pz_u1_in (r := 2) (q := 140) (by decide)]; rw [pz_u1_in (r := 2) (q := 139) (by decide)]; rw [pz_u1_in (r := 2) (q := 138) (by decide)]; rw [pz_u1_in (r := 2) (q := 134) (by decide)]; rw [pz_u1_in (r := 2) (q := 16) (by decide)]; rw [pz_u1_top (r := 2)]; rfl)
                 refine w_callv hc21 rfl (pz_cokI is_2 rfl) ?_
                 refine w_loc rfl ?_
                 refine w_getR (q := 3) is_2 rf_2_0 ?_
                 refine w_getR (q := 15) is_3 rf_3_3 ?_
                 refine w_getI (v := (iv 15) 0) is_15 (by decide) rfl ?_
                 refine w_ret rfl ?_
                 first | exact ⟨pz_u1 (pz_u1 (pz_u1 (pz_u1 (pz_u1 (pz_u1 (pz_u1 (pz_u1 (pz_u1 (pz_u1 (pz_u1 (pz_u1 (pz_u1 (pz_u1 iv 2 (pz_up (pz_up (pz_up o9_5 7 0) 8 0) 9 0)) 16 (pz_up (iv 16) e.toNat (k 4))) 134 l9_6) 138 n9_7) 139 w9_8) 140 d9_9) 142 m9_10) 143 V9_11) 144 W9_12) 145 U9_13) 146 Y9_14) 147 p9_15) 148 q9_16) 149 r9_17, ⟨(pz_up (pz_up (pz_up o9_5 7 0) 8 0) 9 0), l9_6, n9_7, w9_8, d9_9, m9_10, V9_11, W9_12, U9_13, Y9_14, p9_15, q9_16, r9_17, by rfl, by exact ⟨⟨rfl, rfl, rfl⟩, ho2⟩⟩, lf_i (by first | rfl | omega) (by rfl)⟩ | (exfalso; omega))
            · first
              | (exfalso; first | omega | contradiction)
              | (refine w_thr (by decide) ?_
                 first | exact ⟨pz_u1 (pz_u1 (pz_u1 (pz_u1 (pz_u1 (pz_u1 (pz_u1 (pz_u1 (pz_u1 (pz_u1 (pz_u1 (pz_u1 (pz_u1 (pz_u1 iv 2 o9_5) 16 (iv 16)) 134 l9_6) 138 n9_7) 139 w9_8) 140 d9_9) 142 m9_10) 143 V9_11) 144 W9_12) 145 U9_13) 146 Y9_14) 147 p9_15) 148 q9_16) 149 r9_17, ⟨o9_5, l9_6, n9_7, w9_8, d9_9, m9_10, V9_11, W9_12, U9_13, Y9_14, p9_15, q9_16, r9_17, by rfl, by exact ⟨⟨rfl, rfl, rfl⟩, ho2⟩⟩, lf_e (by rfl)⟩ | (exfalso; omega)))
       · first
         | (exfalso; first | omega | contradiction)
         | (have hc22 := s_X10_goodReductions_n (L := L) (iv := pz_u1 (pz_u1 (pz_u1 (pz_u1 (pz_u1 (pz_u1 (pz_u1 (pz_u1 (pz_u1 (pz_u1 (pz_u1 (pz_u1 (pz_u1 (pz_u1 iv 2 (iv 2)) 16 (iv 16)) 134 (iv 134)) 138 (iv 138)) 139 (iv 139)) 140 (iv 140)) 142 (iv 142)) 143 (iv 143)) 144 (iv 144)) 145 (iv 145)) 146 (iv 146)) 147 (iv 147)) 148 (iv 148)) 149 (iv 149)) (by show q_KR k; exact hk) (by show q_cE k (iv 3); exact hE) (by show q_cB k (iv 4) (iv 5) (iv 6) (iv 7) (iv 8) (iv 9); exact hB) (by show q_cS k (iv 10) (iv 11) (iv 12) (iv 13) (iv 14); exact hS) (by show q_cC k (iv 15) (iv 16); exact hC) (by show q_cL k (iv 25); exact hL) (by show q_CI k (iv 2) (iv 138) (iv 139) (iv 140) (iv 142) (iv 143) (iv 145) (iv 129) (iv 135); exact hci) (by show ¬ q_sen k; exact h3)
            refine w_calleE hc22 rfl (pz_cokI is_2 rfl) rfl (fun iv9 h9 => ?_)
            obtain ⟨o9_23, l9_24, n9_25, w9_26, d9_27, m9_28, V9_29, W9_30, U9_31, Y9_32, p9_33, q9_34, r9_35, h9e, hci, ho2⟩ := h9
            have h9x : iv9 = pz_u1 (pz_u1 (pz_u1 (pz_u1 (pz_u1 (pz_u1 (pz_u1 (pz_u1 (pz_u1 (pz_u1 (pz_u1 (pz_u1 (pz_u1 (pz_u1 iv 2 o9_23) 16 (iv 16)) 134 l9_24) 138 n9_25) 139 w9_26) 140 d9_27) 142 m9_28) 143 V9_29) 144 W9_30) 145 U9_31) 146 Y9_32) 147 p9_33) 148 q9_34) 149 r9_35 := h9e.trans (by rw [pz_u1_in (r := 2) (q := 149) (by decide)]; rw [pz_u1_in (r := 2) (q := 148) (by decide)]; rw [pz_u1_in (r := 2) (q := 147) (by decide)]; rw [pz_u1_in (r := 2) (q := 146) (by decide)]; rw [pz_u1_in (r := 2) (q := 145) (by decide)]; rw [pz_u1_in (r := 2) (q := 144) (by decide)]; rw [pz_u1_in (r := 2) (q := 143) (by decide)]; rw [pz_u1_in (r := 2) (q := 142) (by decide)]; rw [pz_u1_in (r := 2) (q := 140) (by decide)]; rw [pz_u1_in (r := 2) (q := 139) (by decide)]; rw [pz_u1_in (r := 2) (q := 138) (by decide)]; rw [pz_u1_in (r := 2) (q := 134) (by decide)]; rw [pz_u1_in (r := 2) (q := 16) (by decide)]; rw [pz_u1_top (r := 2)]; rw [pz_u1_in (r := 134) (q := 149) (by decide)]; rw [pz_u1_in (r := 134) (q := 148) (by decide)]; rw [pz_u1_in (r := 134) (q := 147) (by decide)]; rw [pz_u1_in (r := 134) (q := 146) (by decide)]; rw [pz_u1_in (r := 134) (q := 145) (by decide)]; rw [pz_u1_in (r := 134) (q := 144) (by decide)]; rw [pz_u1_in (r := 134) (q := 143) (by decide)]; rw [pz_u1_in (r := 134) (q := 142) (by decide)]; rw [pz_u1_in (r := 134) (q := 140) (by decide)]; rw [pz_u1_in (r := 134) (q := 139) (by decide)]; rw [pz_u1_in (r := 134) (q := 138) (by decide)]; rw [pz_u1_top (r := 134)]; rw [pz_u1_in (r := 138) (q := 149) (by decide)]; rw [pz_u1_in (r := 138) (q := 148) (by decide)]; rw [pz_u1_in (r := 138) (q := 147) (by decide)]; rw [pz_u1_in (r := 138) (q := 146) (by decide)]; rw [pz_u1_in (r := 138) (q := 145) (by decide)]; rw [pz_u1_in (r := 138) (q := 144) (by decide)]; rw [pz_u1_in (r := 138) (q := 143) (by decide)]; rw [pz_u1_in (r := 138) (q := 142) (by decide)]; rw [pz_u1_in (r := 138) (q := 140) (by decide)]; rw [pz_u1_in (r := 138) (q := 139) (by decide)]; rw [pz_u1_top (r := 138)]; rw [pz_u1_in (r := 139) (q := 149) (by decide)]; rw [pz_u1_in (r := 139) (q := 148) (by decide)]; rw [pz_u1_in (r := 139) (q := 147) (by decide)]; rw [pz_u1_in (r := 139) (q := 146) (by decide)]; rw [pz_u1_in (r := 139) (q := 145) (by decide)]; rw [pz_u1_in (r := 139) (q := 144) (by decide)]; rw [pz_u1_in (r := 139) (q := 143) (by decide)]; rw [pz_u1_in (r := 139) (q := 142) (by decide)]; rw [pz_u1_in (r := 139) (q := 140) (by decide)]; rw [pz_u1_top (r := 139)]; rw [pz_u1_in (r := 140) (q := 149) (by decide)]; rw [pz_u1_in (r := 140) (q := 148) (by decide)]; rw [pz_u1_in (r := 140) (q := 147) (by decide)]; rw [pz_u1_in (r := 140) (q := 146) (by decide)]; rw [pz_u1_in (r := 140) (q := 145) (by decide)]; rw [pz_u1_in (r := 140) (q := 144) (by decide)]; rw [pz_u1_in (r := 140) (q := 143) (by decide)]; rw [pz_u1_in (r := 140) (q := 142) (by decide)]; rw [pz_u1_top (r := 140)]; rw [pz_u1_in (r := 142) (q := 149) (by decide)]; rw [pz_u1_in (r := 142) (q := 148) (by decide)]; rw [pz_u1_in (r := 142) (q := 147) (by decide)]; rw [pz_u1_in (r := 142) (q := 146) (by decide)]; rw [pz_u1_in (r := 142) (q := 145) (by decide)]; rw [pz_u1_in (r := 142) (q := 144) (by decide)]; rw [pz_u1_in (r := 142) (q := 143) (by decide)]; rw [pz_u1_top (r := 142)]; rw [pz_u1_in (r := 143) (q := 149) (by decide)]; rw [pz_u1_in (r := 143) (q := 148) (by decide)]; rw [pz_u1_in (r := 143) (q := 147) (by decide)]; rw [pz_u1_in (r := 143) (q := 146) (by decide)]; rw [pz_u1_in (r := 143) (q := 145) (by decide)]; rw [pz_u1_in (r := 143) (q := 144) (by decide)]; rw [pz_u1_top (r := 143)]; rw [pz_u1_in (r := 144) (q := 149) (by decide)]; rw [pz_u1_in (r := 144) (q := 148) (by decide)]; rw [pz_u1_in (r := 144) (q := 147) (by decide)]; rw [pz_u1_in (r := 144) (q := 146) (by decide)]; rw [pz_u1_in (r := 144) (q := 145) (by decide)]; rw [pz_u1_top (r := 144)]; rw [pz_u1_in (r := 145) (q := 149) (by decide)]; rw [pz_u1_in (r := 145) (q := 148) (by decide)]; rw [pz_u1_in (r := 145) (q := 147) (by decide)]; rw [pz_u1_in (r := 145) (q := 146) (by decide)]; rw [pz_u1_top (r := 145)]; rw [pz_u1_in (r := 146) (q := 149) (by decide)]; rw [pz_u1_in (r := 146) (q := 148) (by decide)]; rw [pz_u1_in (r := 146) (q := 147) (by decide)]; rw [pz_u1_top (r := 146)]; rw [pz_u1_in (r := 147) (q := 149) (by decide)]; rw [pz_u1_in (r := 147) (q := 148) (by decide)]; rw [pz_u1_top (r := 147)]; rw [pz_u1_in (r := 148) (q := 149) (by decide)]; rw [pz_u1_top (r := 148)]; rw [pz_u1_top (r := 149)] <;> rfl)
            subst h9x
            replace hci : q_CI k o9_23 n9_25 w9_26 d9_27 m9_28 V9_29 U9_31 (iv 129) (iv 135) := hci
            replace ho2 : o9_23 2 = (iv 2) 2 := ho2
            first | exact ⟨pz_u1 (pz_u1 (pz_u1 (pz_u1 (pz_u1 (pz_u1 (pz_u1 (pz_u1 (pz_u1 (pz_u1 (pz_u1 (pz_u1 (pz_u1 (pz_u1 iv 2 o9_23) 16 (iv 16)) 134 l9_24) 138 n9_25) 139 w9_26) 140 d9_27) 142 m9_28) 143 V9_29) 144 W9_30) 145 U9_31) 146 Y9_32) 147 p9_33) 148 q9_34) 149 r9_35, ⟨o9_23, l9_24, n9_25, w9_26, d9_27, m9_28, V9_29, W9_30, U9_31, Y9_32, p9_33, q9_34, r9_35, by rfl, by exact ⟨⟨rfl, rfl, rfl⟩, ho2⟩⟩, lf_e (by rfl)⟩ | (exfalso; omega)))
  · first
    | (exfalso; first | omega | contradiction)
    | (have hc36 : pz_R (pz_Sh L) 170 [.inr (.inl 2), .inl e] (pz_u1 (pz_u1 (pz_u1 (pz_u1 (pz_u1 (pz_u1 (pz_u1 (pz_u1 (pz_u1 (pz_u1 (pz_u1 (pz_u1 (pz_u1 (pz_u1 iv 2 (iv 2)) 16 (iv 16)) 134 (iv 134)) 138 (iv 138)) 139 (iv 139)) 140 (iv 140)) 142 (iv 142)) 143 (iv 143)) 144 (iv 144)) 145 (iv 145)) 146 (iv 146)) 147 (iv 147)) 148 (iv 148)) 149 (iv 149)) (.inr 2) (pz_u1 (pz_u1 (pz_u1 (pz_u1 (pz_u1 (pz_u1 (pz_u1 (pz_u1 (pz_u1 (pz_u1 (pz_u1 (pz_u1 (pz_u1 (pz_u1 iv 2 (iv 2)) 16 (iv 16)) 134 (iv 134)) 138 (iv 138)) 139 (iv 139)) 140 (iv 140)) 142 (iv 142)) 143 (iv 143)) 144 (iv 144)) 145 (iv 145)) 146 (iv 146)) 147 (iv 147)) 148 (iv 148)) 149 (iv 149)) := s_X10_needEvent_n e (by show q_cE k (iv 3); exact hE) (by show ¬ (0 ≤ e ∧ e < k 0); exact h1)
       refine w_calle hc36 rfl (pz_cokI is_2 rfl) rfl ?_
       first | exact ⟨pz_u1 (pz_u1 (pz_u1 (pz_u1 (pz_u1 (pz_u1 (pz_u1 (pz_u1 (pz_u1 (pz_u1 (pz_u1 (pz_u1 (pz_u1 (pz_u1 iv 2 (iv 2)) 16 (iv 16)) 134 (iv 134)) 138 (iv 138)) 139 (iv 139)) 140 (iv 140)) 142 (iv 142)) 143 (iv 143)) 144 (iv 144)) 145 (iv 145)) 146 (iv 146)) 147 (iv 147)) 148 (iv 148)) 149 (iv 149), ⟨(iv 2), (iv 134), (iv 138), (iv 139), (iv 140), (iv 142), (iv 143), (iv 144), (iv 145), (iv 146), (iv 147), (iv 148), (iv 149), by rfl, by exact ⟨⟨rfl, rfl, rfl⟩, ho2⟩⟩, lf_e (by rfl)⟩ | (exfalso; omega))

theorem s_X10_firstTime_1 {L : Nat} {iv : Nat → Nat → Int} (e : Int) {k : Nat → Int} (hk : q_KR k) (hE : q_cE k (iv 3)) (hB : q_cB k (iv 4) (iv 5) (iv 6) (iv 7) (iv 8) (iv 9)) (hS : q_cS k (iv 10) (iv 11) (iv 12) (iv 13) (iv 14)) (hC : q_cC k (iv 15) (iv 16)) (hA : q_cA k (iv 17) (iv 18) (iv 19) (iv 20)) (hO : q_cO k (iv 22) (iv 23) (iv 24)) (hL : q_cL k (iv 25)) (hP : q_cP k (iv 27)) (hci : q_CI k (iv 2) (iv 138) (iv 139) (iv 140) (iv 142) (iv 143) (iv 145) (iv 129) (iv 135)) (hcase0 : ¬ (0 ≤ e ∧ e ≤ k 0 - 1)) : pz_R (pz_Sh L) 157 [.inr (.inl 2), .inl e] iv (.inr 2) iv := by
  intro dv cc ss
  have hk0 := hk.r0
  have hE0 := hE
  have hB0 := hB.1
  have hS0 := hS.1
  have hC0 := hC.1
  have hA0 := hA.1
  show pz_G 157 0 [some (.inr (.inl 2)), some (.inl e)] [] (pz_Sh L, iv, dv, cc, ss) (pz_P (pz_Sh L) (.inr 2) iv dv cc ss)
  refine pz_G_of pz_b157_0 ?_
  refine w_loc rfl ?_
  refine w_loc rfl ?_
  by_cases h1 : 0 ≤ e ∧ e < k 0
  · first
    | (exfalso; first | omega | contradiction)
    | (have hc2 : pz_R (pz_Sh L) 170 [.inr (.inl 2), .inl e] (iv) (.inl none) (iv) := s_X10_needEvent_y e (by exact hE) (by exact h1)
       refine w_callv hc2 rfl (pz_cokI is_2 rfl) ?_
       refine w_loc rfl ?_
       by_cases h3 : q_con k (fun _ => 0)
       · first
         | (exfalso; first | omega | contradiction)
         | (have hc4 := s_X10_soundNet_y (L := L) (iv := iv) (by exact hk) (by exact hE) (by exact hB) (by exact hS) (by exact hC) (by exact hL) (by exact hci) (by exact h3)
            refine w_callE hc4 rfl (pz_cokI is_2 rfl) (fun iv9 h9 => ?_)
            obtain ⟨o9_5, l9_6, n9_7, w9_8, d9_9, h9e, hci, hNK, ho2⟩ := h9
            have h9x : iv9 = pz_u1 (pz_u1 (pz_u1 (pz_u1 (pz_u1 iv 2 o9_5) 134 l9_6) 138 n9_7) 139 w9_8) 140 d9_9 := h9e.trans (by rw [pz_u1_top (r := 2)]; rw [pz_u1_top (r := 134)]; rw [pz_u1_top (r := 138)]; rw [pz_u1_top (r := 139)]; rw [pz_u1_top (r := 140)] <;> rfl)
            subst h9x
            replace hci : q_CI k o9_5 n9_7 w9_8 d9_9 (iv 142) (iv 143) (iv 145) (iv 129) (iv 135) := hci
            replace hNK : q_NK k n9_7 w9_8 d9_9 := hNK
            replace ho2 : o9_5 2 = (iv 2) 2 := ho2
            refine w_loc rfl ?_
            have hc10 : pz_R (pz_Sh L) 63 [.inr (.inl 138), .inl e] (pz_u1 (pz_u1 (pz_u1 (pz_u1 (pz_u1 iv 2 o9_5) 134 l9_6) 138 n9_7) 139 w9_8) 140 d9_9) (.inl (some (.inl (q_ft (q_D k) e)))) (pz_u1 (pz_u1 (pz_u1 (pz_u1 (pz_u1 iv 2 o9_5) 134 l9_6) 138 n9_7) 139 w9_8) 140 d9_9) := s_X5_earliest e (by show q_KR k; exact hk) (by show q_nD k d9_9 (q_D k); exact q_NK_D hNK (by assumption)) (by show q_dR (q_D k); exact q_dR_D hk (by assumption)) (by show 0 ≤ e ∧ e < k 0; omega)
            refine w_call hc10 rfl (pz_cokI is_138 rfl) ?_
            refine w_ret rfl ?_
            first | exact lf_i (by first | rfl | omega) (by rfl) | (exfalso; omega))
       · first
         | (exfalso; first | omega | contradiction)
         | (have hc11 := s_X10_soundNet_n (L := L) (iv := iv) (by exact hk) (by exact hE) (by exact hB) (by exact hS) (by exact hC) (by exact hL) (by exact hci) (by exact h3)
            refine w_calleE hc11 rfl (pz_cokI is_2 rfl) rfl (fun iv9 h9 => ?_)
            obtain ⟨o9_12, l9_13, n9_14, w9_15, d9_16, h9e, hci, ho2⟩ := h9
            have h9x : iv9 = pz_u1 (pz_u1 (pz_u1 (pz_u1 (pz_u1 iv 2 o9_12) 134 l9_13) 138 n9_14) 139 w9_15) 140 d9_16 := h9e.trans (by rw [pz_u1_top (r := 2)]; rw [pz_u1_top (r := 134)]; rw [pz_u1_top (r := 138)]; rw [pz_u1_top (r := 139)]; rw [pz_u1_top (r := 140)] <;> rfl)
            subst h9x
            replace hci : q_CI k o9_12 n9_14 w9_15 d9_16 (iv 142) (iv 143) (iv 145) (iv 129) (iv 135) := hci
            replace ho2 : o9_12 2 = (iv 2) 2 := ho2
            first | exact lf_e (by rfl) | (exfalso; omega)))
  · first
    | (exfalso; first | omega | contradiction)
    | (have hc17 : pz_R (pz_Sh L) 170 [.inr (.inl 2), .inl e] (iv) (.inr 2) (iv) := s_X10_needEvent_n e (by exact hE) (by exact h1)
       refine w_calle hc17 rfl (pz_cokI is_2 rfl) rfl ?_
       first | exact lf_e (by rfl) | (exfalso; omega))

theorem s_X10_firstTime_2 {L : Nat} {iv : Nat → Nat → Int} (e : Int) {k : Nat → Int} (hk : q_KR k) (hE : q_cE k (iv 3)) (hB : q_cB k (iv 4) (iv 5) (iv 6) (iv 7) (iv 8) (iv 9)) (hS : q_cS k (iv 10) (iv 11) (iv 12) (iv 13) (iv 14)) (hC : q_cC k (iv 15) (iv 16)) (hA : q_cA k (iv 17) (iv 18) (iv 19) (iv 20)) (hO : q_cO k (iv 22) (iv 23) (iv 24)) (hL : q_cL k (iv 25)) (hP : q_cP k (iv 27)) (hci : q_CI k (iv 2) (iv 138) (iv 139) (iv 140) (iv 142) (iv 143) (iv 145) (iv 129) (iv 135)) (hcase0 : 0 ≤ e ∧ e ≤ k 0 - 1) (hcase1 : ¬ q_con k (fun _ => 0)) : pz_RE (pz_Sh L) 157 [.inr (.inl 2), .inl e] iv (.inr 0) (fun iv9 => ∃ (o9 : Nat → Int) (l9 : Nat → Int) (n9 : Nat → Int) (w9 : Nat → Int) (d9 : Nat → Int), iv9 = pz_u1 (pz_u1 (pz_u1 (pz_u1 (pz_u1 iv 2 o9) 134 l9) 138 n9) 139 w9) 140 d9 ∧ (q_CI k o9 n9 w9 d9 (iv 142) (iv 143) (iv 145) (iv 129) (iv 135)) ∧ (o9 2 = (iv 2) 2)) := by
  intro dv cc ss
  have hk0 := hk.r0
  have hE0 := hE
  have hB0 := hB.1
  have hS0 := hS.1
  have hC0 := hC.1
  have hA0 := hA.1
  refine pz_G_mem (iv2 := pz_u1 (pz_u1 (pz_u1 (pz_u1 (pz_u1 iv 2 (iv 2)) 134 (iv 134)) 138 (iv 138)) 139 (iv 139)) 140 (iv 140)) (by exact (((((pz_u1_self iv 2).symm).trans (pz_u1_self (pz_u1 iv 2 (iv 2)) 134).symm).trans (pz_u1_self (pz_u1 (pz_u1 iv 2 (iv 2)) 134 (iv 134)) 138).symm).trans (pz_u1_self (pz_u1 (pz_u1 (pz_u1 iv 2 (iv 2)) 134 (iv 134)) 138 (iv 138)) 139).symm).trans (pz_u1_self (pz_u1 (pz_u1 (pz_u1 (pz_u1 iv 2 (iv 2)) 134 (iv 134)) 138 (iv 138)) 139 (iv 139)) 140).symm) ?_
  show pz_G 157 0 [some (.inr (.inl 2)), some (.inl e)] [] (pz_Sh L, pz_u1 (pz_u1 (pz_u1 (pz_u1 (pz_u1 iv 2 (iv 2)) 134 (iv 134)) 138 (iv 138)) 139 (iv 139)) 140 (iv 140), dv, cc, ss) (pz_PE (pz_Sh L) (.inr 0) (fun iv9 => ∃ (o9 : Nat → Int) (l9 : Nat → Int) (n9 : Nat → Int) (w9 : Nat → Int) (d9 : Nat → Int), iv9 = pz_u1 (pz_u1 (pz_u1 (pz_u1 (pz_u1 iv 2 o9) 134 l9) 138 n9) 139 w9) 140 d9 ∧ (q_CI k o9 n9 w9 d9 (iv 142) (iv 143) (iv 145) (iv 129) (iv 135)) ∧ (o9 2 = (iv 2) 2)) dv cc ss)
  refine pz_G_of pz_b157_0 ?_
  refine w_loc rfl ?_
  refine w_loc rfl ?_
  by_cases h1 : 0 ≤ e ∧ e < k 0
  · first
    | (exfalso; first | omega | contradiction)
    | (have hc2 : pz_R (pz_Sh L) 170 [.inr (.inl 2), .inl e] (pz_u1 (pz_u1 (pz_u1 (pz_u1 (pz_u1 iv 2 (iv 2)) 134 (iv 134)) 138 (iv 138)) 139 (iv 139)) 140 (iv 140)) (.inl none) (pz_u1 (pz_u1 (pz_u1 (pz_u1 (pz_u1 iv 2 (iv 2)) 134 (iv 134)) 138 (iv 138)) 139 (iv 139)) 140 (iv 140)) := s_X10_needEvent_y e (by show q_cE k (iv 3); exact hE) (by show 0 ≤ e ∧ e < k 0; exact h1)
       refine w_callv hc2 rfl (pz_cokI is_2 rfl) ?_
       refine w_loc rfl ?_
       by_cases h3 : q_con k (fun _ => 0)
       · first
         | (exfalso; first | omega | contradiction)
         | (have hc4 := s_X10_soundNet_y (L := L) (iv := pz_u1 (pz_u1 (pz_u1 (pz_u1 (pz_u1 iv 2 (iv 2)) 134 (iv 134)) 138 (iv 138)) 139 (iv 139)) 140 (iv 140)) (by show q_KR k; exact hk) (by show q_cE k (iv 3); exact hE) (by show q_cB k (iv 4) (iv 5) (iv 6) (iv 7) (iv 8) (iv 9); exact hB) (by show q_cS k (iv 10) (iv 11) (iv 12) (iv 13) (iv 14); exact hS) (by show q_cC k (iv 15) (iv 16); exact hC) (by show q_cL k (iv 25); exact hL) (by show q_CI k (iv 2) (iv 138) (iv 139) (iv 140) (iv 142) (iv 143) (iv 145) (iv 129) (iv 135); exact hci) (by show q_con k (fun _ => 0); exact h3)
            refine w_callE hc4 rfl (pz_cokI is_2 rfl) (fun iv9 h9 => ?_)
            obtain ⟨o9_5, l9_6, n9_7, w9_8, d9_9, h9e, hci, hNK, ho2⟩ := h9
            have h9x : iv9 = pz_u1 (pz_u1 (pz_u1 (pz_u1 (pz_u1 iv 2 o9_5) 134 l9_6) 138 n9_7) 139 w9_8) 140 d9_9 := h9e.trans (by rw [pz_u1_in (r := 2) (q := 140) (by decide)]; rw [pz_u1_in (r := 2) (q := 139) (by decide)]; rw [pz_u1_in (r := 2) (q := 138) (by decide)]; rw [pz_u1_in (r := 2) (q := 134) (by decide)]; rw [pz_u1_top (r := 2)]; rw [pz_u1_in (r := 134) (q := 140) (by decide)]; rw [pz_u1_in (r := 134) (q := 139) (by decide)]; rw [pz_u1_in (r := 134) (q := 138) (by decide)]; rw [pz_u1_top (r := 134)]; rw [pz_u1_in (r := 138) (q := 140) (by decide)]; rw [pz_u1_in (r := 138) (q := 139) (by decide)]; rw [pz_u1_top (r := 138)]; rw [pz_u1_in (r := 139) (q := 140) (by decide)]; rw [pz_u1_top (r := 139)]; rw [pz_u1_top (r := 140)] <;> rfl)
            subst h9x
            replace hci : q_CI k o9_5 n9_7 w9_8 d9_9 (iv 142) (iv 143) (iv 145) (iv 129) (iv 135) := hci
            replace hNK : q_NK k n9_7 w9_8 d9_9 := hNK
            replace ho2 : o9_5 2 = (iv 2) 2 := ho2
            refine w_loc rfl ?_
            have hc10 : pz_R (pz_Sh L) 63 [.inr (.inl 138), .inl e] (pz_u1 (pz_u1 (pz_u1 (pz_u1 (pz_u1 iv 2 o9_5) 134 l9_6) 138 n9_7) 139 w9_8) 140 d9_9) (.inl (some (.inl (q_ft (q_D k) e)))) (pz_u1 (pz_u1 (pz_u1 (pz_u1 (pz_u1 iv 2 o9_5) 134 l9_6) 138 n9_7) 139 w9_8) 140 d9_9) := s_X5_earliest e (by show q_KR k; exact hk) (by show q_nD k d9_9 (q_D k); exact q_NK_D hNK (by assumption)) (by show q_dR (q_D k); exact q_dR_D hk (by assumption)) (by show 0 ≤ e ∧ e < k 0; omega)
            refine w_call hc10 rfl (pz_cokI is_138 rfl) ?_
            refine w_ret rfl ?_
            first | exact ⟨pz_u1 (pz_u1 (pz_u1 (pz_u1 (pz_u1 iv 2 o9_5) 134 l9_6) 138 n9_7) 139 w9_8) 140 d9_9, ⟨o9_5, l9_6, n9_7, w9_8, d9_9, by rfl, by exact hci, by exact ho2⟩, lf_i (by first | rfl | omega) (by rfl)⟩ | (exfalso; omega))
       · first
         | (exfalso; first | omega | contradiction)
         | (have hc11 := s_X10_soundNet_n (L := L) (iv := pz_u1 (pz_u1 (pz_u1 (pz_u1 (pz_u1 iv 2 (iv 2)) 134 (iv 134)) 138 (iv 138)) 139 (iv 139)) 140 (iv 140)) (by show q_KR k; exact hk) (by show q_cE k (iv 3); exact hE) (by show q_cB k (iv 4) (iv 5) (iv 6) (iv 7) (iv 8) (iv 9); exact hB) (by show q_cS k (iv 10) (iv 11) (iv 12) (iv 13) (iv 14); exact hS) (by show q_cC k (iv 15) (iv 16); exact hC) (by show q_cL k (iv 25); exact hL) (by show q_CI k (iv 2) (iv 138) (iv 139) (iv 140) (iv 142) (iv 143) (iv 145) (iv 129) (iv 135); exact hci) (by show ¬ q_con k (fun _ => 0); exact h3)
            refine w_calleE hc11 rfl (pz_cokI is_2 rfl) rfl (fun iv9 h9 => ?_)
            obtain ⟨o9_12, l9_13, n9_14, w9_15, d9_16, h9e, hci, ho2⟩ := h9
            have h9x : iv9 = pz_u1 (pz_u1 (pz_u1 (pz_u1 (pz_u1 iv 2 o9_12) 134 l9_13) 138 n9_14) 139 w9_15) 140 d9_16 := h9e.trans (by rw [pz_u1_in (r := 2) (q := 140) (by decide)]; rw [pz_u1_in (r := 2) (q := 139) (by decide)]; rw [pz_u1_in (r := 2) (q := 138) (by decide)]; rw [pz_u1_in (r := 2) (q := 134) (by decide)]; rw [pz_u1_top (r := 2)]; rw [pz_u1_in (r := 134) (q := 140) (by decide)]; rw [pz_u1_in (r := 134) (q := 139) (by decide)]; rw [pz_u1_in (r := 134) (q := 138) (by decide)]; rw [pz_u1_top (r := 134)]; rw [pz_u1_in (r := 138) (q := 140) (by decide)]; rw [pz_u1_in (r := 138) (q := 139) (by decide)]; rw [pz_u1_top (r := 138)]; rw [pz_u1_in (r := 139) (q := 140) (by decide)]; rw [pz_u1_top (r := 139)]; rw [pz_u1_top (r := 140)] <;> rfl)
            subst h9x
            replace hci : q_CI k o9_12 n9_14 w9_15 d9_16 (iv 142) (iv 143) (iv 145) (iv 129) (iv 135) := hci
            replace ho2 : o9_12 2 = (iv 2) 2 := ho2
            first | exact ⟨pz_u1 (pz_u1 (pz_u1 (pz_u1 (pz_u1 iv 2 o9_12) 134 l9_13) 138 n9_14) 139 w9_15) 140 d9_16, ⟨o9_12, l9_13, n9_14, w9_15, d9_16, by rfl, by exact hci, by exact ho2⟩, lf_e (by rfl)⟩ | (exfalso; omega)))
  · first
    | (exfalso; first | omega | contradiction)
    | (have hc17 : pz_R (pz_Sh L) 170 [.inr (.inl 2), .inl e] (pz_u1 (pz_u1 (pz_u1 (pz_u1 (pz_u1 iv 2 (iv 2)) 134 (iv 134)) 138 (iv 138)) 139 (iv 139)) 140 (iv 140)) (.inr 2) (pz_u1 (pz_u1 (pz_u1 (pz_u1 (pz_u1 iv 2 (iv 2)) 134 (iv 134)) 138 (iv 138)) 139 (iv 139)) 140 (iv 140)) := s_X10_needEvent_n e (by show q_cE k (iv 3); exact hE) (by show ¬ (0 ≤ e ∧ e < k 0); exact h1)
       refine w_calle hc17 rfl (pz_cokI is_2 rfl) rfl ?_
       first | exact ⟨pz_u1 (pz_u1 (pz_u1 (pz_u1 (pz_u1 iv 2 (iv 2)) 134 (iv 134)) 138 (iv 138)) 139 (iv 139)) 140 (iv 140), ⟨(iv 2), (iv 134), (iv 138), (iv 139), (iv 140), by rfl, by exact hci, by exact ho2⟩, lf_e (by rfl)⟩ | (exfalso; omega))

theorem s_X10_firstTime_0 {L : Nat} {iv : Nat → Nat → Int} (e : Int) {k : Nat → Int} (hk : q_KR k) (hE : q_cE k (iv 3)) (hB : q_cB k (iv 4) (iv 5) (iv 6) (iv 7) (iv 8) (iv 9)) (hS : q_cS k (iv 10) (iv 11) (iv 12) (iv 13) (iv 14)) (hC : q_cC k (iv 15) (iv 16)) (hA : q_cA k (iv 17) (iv 18) (iv 19) (iv 20)) (hO : q_cO k (iv 22) (iv 23) (iv 24)) (hL : q_cL k (iv 25)) (hP : q_cP k (iv 27)) (hci : q_CI k (iv 2) (iv 138) (iv 139) (iv 140) (iv 142) (iv 143) (iv 145) (iv 129) (iv 135)) (hcase0 : 0 ≤ e ∧ e ≤ k 0 - 1) (hcase1 : q_con k (fun _ => 0)) : pz_RE (pz_Sh L) 157 [.inr (.inl 2), .inl e] iv (.inl (some (.inl (q_ft (q_D k) e)))) (fun iv9 => ∃ (o9 : Nat → Int) (l9 : Nat → Int) (n9 : Nat → Int) (w9 : Nat → Int) (d9 : Nat → Int), iv9 = pz_u1 (pz_u1 (pz_u1 (pz_u1 (pz_u1 iv 2 o9) 134 l9) 138 n9) 139 w9) 140 d9 ∧ (q_CI k o9 n9 w9 d9 (iv 142) (iv 143) (iv 145) (iv 129) (iv 135)) ∧ (o9 2 = (iv 2) 2)) := by
  intro dv cc ss
  have hk0 := hk.r0
  have hE0 := hE
  have hB0 := hB.1
  have hS0 := hS.1
  have hC0 := hC.1
  have hA0 := hA.1
  refine pz_G_mem (iv2 := pz_u1 (pz_u1 (pz_u1 (pz_u1 (pz_u1 iv 2 (iv 2)) 134 (iv 134)) 138 (iv 138)) 139 (iv 139)) 140 (iv 140)) (by exact (((((pz_u1_self iv 2).symm).trans (pz_u1_self (pz_u1 iv 2 (iv 2)) 134).symm).trans (pz_u1_self (pz_u1 (pz_u1 iv 2 (iv 2)) 134 (iv 134)) 138).symm).trans (pz_u1_self (pz_u1 (pz_u1 (pz_u1 iv 2 (iv 2)) 134 (iv 134)) 138 (iv 138)) 139).symm).trans (pz_u1_self (pz_u1 (pz_u1 (pz_u1 (pz_u1 iv 2 (iv 2)) 134 (iv 134)) 138 (iv 138)) 139 (iv 139)) 140).symm) ?_
  show pz_G 157 0 [some (.inr (.inl 2)), some (.inl e)] [] (pz_Sh L, pz_u1 (pz_u1 (pz_u1 (pz_u1 (pz_u1 iv 2 (iv 2)) 134 (iv 134)) 138 (iv 138)) 139 (iv 139)) 140 (iv 140), dv, cc, ss) (pz_PE (pz_Sh L) (.inl (some (.inl (q_ft (q_D k) e)))) (fun iv9 => ∃ (o9 : Nat → Int) (l9 : Nat → Int) (n9 : Nat → Int) (w9 : Nat → Int) (d9 : Nat → Int), iv9 = pz_u1 (pz_u1 (pz_u1 (pz_u1 (pz_u1 iv 2 o9) 134 l9) 138 n9) 139 w9) 140 d9 ∧ (q_CI k o9 n9 w9 d9 (iv 142) (iv 143) (iv 145) (iv 129) (iv 135)) ∧ (o9 2 = (iv 2) 2)) dv cc ss)
  refine pz_G_of pz_b157_0 ?_
  refine w_loc rfl ?_
  refine w_loc rfl ?_
  by_cases h1 : 0 ≤ e ∧ e < k 0
  · first
    | (exfalso; first | omega | contradiction)
    | (have hc2 : pz_R (pz_Sh L) 170 [.inr (.inl 2), .inl e] (pz_u1 (pz_u1 (pz_u1 (pz_u1 (pz_u1 iv 2 (iv 2)) 134 (iv 134)) 138 (iv 138)) 139 (iv 139)) 140 (iv 140)) (.inl none) (pz_u1 (pz_u1 (pz_u1 (pz_u1 (pz_u1 iv 2 (iv 2)) 134 (iv 134)) 138 (iv 138)) 139 (iv 139)) 140 (iv 140)) := s_X10_needEvent_y e (by show q_cE k (iv 3); exact hE) (by show 0 ≤ e ∧ e < k 0; exact h1)
       refine w_callv hc2 rfl (pz_cokI is_2 rfl) ?_
       refine w_loc rfl ?_
       by_cases h3 : q_con k (fun _ => 0)
       · first
         | (exfalso; first | omega | contradiction)
         | (have hc4 := s_X10_soundNet_y (L := L) (iv := pz_u1 (pz_u1 (pz_u1 (pz_u1 (pz_u1 iv 2 (iv 2)) 134 (iv 134)) 138 (iv 138)) 139 (iv 139)) 140 (iv 140)) (by show q_KR k; exact hk) (by show q_cE k (iv 3); exact hE) (by show q_cB k (iv 4) (iv 5) (iv 6) (iv 7) (iv 8) (iv 9); exact hB) (by show q_cS k (iv 10) (iv 11) (iv 12) (iv 13) (iv 14); exact hS) (by show q_cC k (iv 15) (iv 16); exact hC) (by show q_cL k (iv 25); exact hL) (by show q_CI k (iv 2) (iv 138) (iv 139) (iv 140) (iv 142) (iv 143) (iv 145) (iv 129) (iv 135); exact hci) (by show q_con k (fun _ => 0); exact h3)
            refine w_callE hc4 rfl (pz_cokI is_2 rfl) (fun iv9 h9 => ?_)
            obtain ⟨o9_5, l9_6, n9_7, w9_8, d9_9, h9e, hci, hNK, ho2⟩ := h9
            have h9x : iv9 = pz_u1 (pz_u1 (pz_u1 (pz_u1 (pz_u1 iv 2 o9_5) 134 l9_6) 138 n9_7) 139 w9_8) 140 d9_9 := h9e.trans (by rw [pz_u1_in (r := 2) (q := 140) (by decide)]; rw [pz_u1_in (r := 2) (q := 139) (by decide)]; rw [pz_u1_in (r := 2) (q := 138) (by decide)]; rw [pz_u1_in (r := 2) (q := 134) (by decide)]; rw [pz_u1_top (r := 2)]; rw [pz_u1_in (r := 134) (q := 140) (by decide)]; rw [pz_u1_in (r := 134) (q := 139) (by decide)]; rw [pz_u1_in (r := 134) (q := 138) (by decide)]; rw [pz_u1_top (r := 134)]; rw [pz_u1_in (r := 138) (q := 140) (by decide)]; rw [pz_u1_in (r := 138) (q := 139) (by decide)]; rw [pz_u1_top (r := 138)]; rw [pz_u1_in (r := 139) (q := 140) (by decide)]; rw [pz_u1_top (r := 139)]; rw [pz_u1_top (r := 140)] <;> rfl)
            subst h9x
            replace hci : q_CI k o9_5 n9_7 w9_8 d9_9 (iv 142) (iv 143) (iv 145) (iv 129) (iv 135) := hci
            replace hNK : q_NK k n9_7 w9_8 d9_9 := hNK
            replace ho2 : o9_5 2 = (iv 2) 2 := ho2
            refine w_loc rfl ?_
            have hc10 : pz_R (pz_Sh L) 63 [.inr (.inl 138), .inl e] (pz_u1 (pz_u1 (pz_u1 (pz_u1 (pz_u1 iv 2 o9_5) 134 l9_6) 138 n9_7) 139 w9_8) 140 d9_9) (.inl (some (.inl (q_ft (q_D k) e)))) (pz_u1 (pz_u1 (pz_u1 (pz_u1 (pz_u1 iv 2 o9_5) 134 l9_6) 138 n9_7) 139 w9_8) 140 d9_9) := s_X5_earliest e (by show q_KR k; exact hk) (by show q_nD k d9_9 (q_D k); exact q_NK_D hNK (by assumption)) (by show q_dR (q_D k); exact q_dR_D hk (by assumption)) (by show 0 ≤ e ∧ e < k 0; omega)
            refine w_call hc10 rfl (pz_cokI is_138 rfl) ?_
            refine w_ret rfl ?_
            first | exact ⟨pz_u1 (pz_u1 (pz_u1 (pz_u1 (pz_u1 iv 2 o9_5) 134 l9_6) 138 n9_7) 139 w9_8) 140 d9_9, ⟨o9_5, l9_6, n9_7, w9_8, d9_9, by rfl, by exact hci, by exact ho2⟩, lf_i (by first | rfl | omega) (by rfl)⟩ | (exfalso; omega))
       · first
         | (exfalso; first | omega | contradiction)
         | (have hc11 := s_X10_soundNet_n (L := L) (iv := pz_u1 (pz_u1 (pz_u1 (pz_u1 (pz_u1 iv 2 (iv 2)) 134 (iv 134)) 138 (iv 138)) 139 (iv 139)) 140 (iv 140)) (by show q_KR k; exact hk) (by show q_cE k (iv 3); exact hE) (by show q_cB k (iv 4) (iv 5) (iv 6) (iv 7) (iv 8) (iv 9); exact hB) (by show q_cS k (iv 10) (iv 11) (iv 12) (iv 13) (iv 14); exact hS) (by show q_cC k (iv 15) (iv 16); exact hC) (by show q_cL k (iv 25); exact hL) (by show q_CI k (iv 2) (iv 138) (iv 139) (iv 140) (iv 142) (iv 143) (iv 145) (iv 129) (iv 135); exact hci) (by show ¬ q_con k (fun _ => 0); exact h3)
            refine w_calleE hc11 rfl (pz_cokI is_2 rfl) rfl (fun iv9 h9 => ?_)
            obtain ⟨o9_12, l9_13, n9_14, w9_15, d9_16, h9e, hci, ho2⟩ := h9
            have h9x : iv9 = pz_u1 (pz_u1 (pz_u1 (pz_u1 (pz_u1 iv 2 o9_12) 134 l9_13) 138 n9_14) 139 w9_15) 140 d9_16 := h9e.trans (by rw [pz_u1_in (r := 2) (q := 140) (by decide)]; rw [pz_u1_in (r := 2) (q := 139) (by decide)]; rw [pz_u1_in (r := 2) (q := 138) (by decide)]; rw [pz_u1_in (r := 2) (q := 134) (by decide)]; rw [pz_u1_top (r := 2)]; rw [pz_u1_in (r := 134) (q := 140) (by decide)]; rw [pz_u1_in (r := 134) (q := 139) (by decide)]; rw [pz_u1_in (r := 134) (q := 138) (by decide)]; rw [pz_u1_top (r := 134)]; rw [pz_u1_in (r := 138) (q := 140) (by decide)]; rw [pz_u1_in (r := 138) (q := 139) (by decide)]; rw [pz_u1_top (r := 138)]; rw [pz_u1_in (r := 139) (q := 140) (by decide)]; rw [pz_u1_top (r := 139)]; rw [pz_u1_top (r := 140)] <;> rfl)
            subst h9x
            replace hci : q_CI k o9_12 n9_14 w9_15 d9_16 (iv 142) (iv 143) (iv 145) (iv 129) (iv 135) := hci
            replace ho2 : o9_12 2 = (iv 2) 2 := ho2
            first | exact ⟨pz_u1 (pz_u1 (pz_u1 (pz_u1 (pz_u1 iv 2 o9_12) 134 l9_13) 138 n9_14) 139 w9_15) 140 d9_16, ⟨o9_12, l9_13, n9_14, w9_15, d9_16, by rfl, by exact hci, by exact ho2⟩, lf_e (by rfl)⟩ | (exfalso; omega)))
  · first
    | (exfalso; first | omega | contradiction)
    | (have hc17 : pz_R (pz_Sh L) 170 [.inr (.inl 2), .inl e] (pz_u1 (pz_u1 (pz_u1 (pz_u1 (pz_u1 iv 2 (iv 2)) 134 (iv 134)) 138 (iv 138)) 139 (iv 139)) 140 (iv 140)) (.inr 2) (pz_u1 (pz_u1 (pz_u1 (pz_u1 (pz_u1 iv 2 (iv 2)) 134 (iv 134)) 138 (iv 138)) 139 (iv 139)) 140 (iv 140)) := s_X10_needEvent_n e (by show q_cE k (iv 3); exact hE) (by show ¬ (0 ≤ e ∧ e < k 0); exact h1)
       refine w_calle hc17 rfl (pz_cokI is_2 rfl) rfl ?_
       first | exact ⟨pz_u1 (pz_u1 (pz_u1 (pz_u1 (pz_u1 iv 2 (iv 2)) 134 (iv 134)) 138 (iv 138)) 139 (iv 139)) 140 (iv 140), ⟨(iv 2), (iv 134), (iv 138), (iv 139), (iv 140), by rfl, by exact hci, by exact ho2⟩, lf_e (by rfl)⟩ | (exfalso; omega))

theorem s_X10_use_1 {L : Nat} {iv : Nat → Nat → Int} (m : Int) {k : Nat → Int} (hk : q_KR k) (hE : q_cE k (iv 3)) (hB : q_cB k (iv 4) (iv 5) (iv 6) (iv 7) (iv 8) (iv 9)) (hS : q_cS k (iv 10) (iv 11) (iv 12) (iv 13) (iv 14)) (hC : q_cC k (iv 15) (iv 16)) (hA : q_cA k (iv 17) (iv 18) (iv 19) (iv 20)) (hO : q_cO k (iv 22) (iv 23) (iv 24)) (hL : q_cL k (iv 25)) (hP : q_cP k (iv 27)) (hci : q_CI k (iv 2) (iv 138) (iv 139) (iv 140) (iv 142) (iv 143) (iv 145) (iv 129) (iv 135)) (hcase0 : ¬ (0 ≤ m ∧ m ≤ 999)) : pz_R (pz_Sh L) 158 [.inr (.inl 2), .inl m] iv (.inr 1) iv := by
  intro dv cc ss
  have hk0 := hk.r0
  have hE0 := hE
  have hB0 := hB.1
  have hS0 := hS.1
  have hC0 := hC.1
  have hA0 := hA.1
  show pz_G 158 0 [some (.inr (.inl 2)), some (.inl m)] [] (pz_Sh L, iv, dv, cc, ss) (pz_P (pz_Sh L) (.inr 1) iv dv cc ss)
  refine pz_G_of pz_b158_0 ?_
  refine w_loc rfl ?_
  refine w_pure rfl ?_
  refine w_pure rfl ?_
  have hc1 : pz_R (pz_Sh L) 185 [.inl m, .inl 0, .inl 999] (iv) (.inl (some (.inl (pz_bi (0 ≤ m ∧ m ≤ 999))))) (iv) := s_X10_isWithin m 0 999
  refine w_call hc1 rfl rfl ?_
  by_cases h2 : 0 ≤ m ∧ m ≤ 999
  · first
    | (exfalso; first | omega | contradiction)
    | (have hc3 : pz_R (pz_Sh L) 172 [.inl (pz_bi (0 ≤ m ∧ m ≤ 999))] (iv) (.inl none) (iv) := s_X10_needRange_y (pz_bi (0 ≤ m ∧ m ≤ 999)) (by exact pz_bi_p1 h2)
       refine w_callv hc3 rfl rfl ?_
       refine w_loc rfl ?_
       refine w_getR (q := 3) is_2 rf_2_0 ?_
       refine w_getR (q := 17) is_3 rf_3_4 ?_
       refine w_loc rfl ?_
       refine w_loc rfl ?_
       by_cases h4 : q_con k (fun _ => 0)
       · first
         | (exfalso; first | omega | contradiction)
         | (have hc5 := s_X10_soundNet_y (L := L) (iv := iv) (by exact hk) (by exact hE) (by exact hB) (by exact hS) (by exact hC) (by exact hL) (by exact hci) (by exact h4)
            refine w_callE hc5 rfl (pz_cokI is_2 rfl) (fun iv9 h9 => ?_)
            obtain ⟨o9_6, l9_7, n9_8, w9_9, d9_10, h9e, hci, hNK, ho2⟩ := h9
            have h9x : iv9 = pz_u1 (pz_u1 (pz_u1 (pz_u1 (pz_u1 iv 2 o9_6) 134 l9_7) 138 n9_8) 139 w9_9) 140 d9_10 := h9e.trans (by rw [pz_u1_top (r := 2)]; rw [pz_u1_top (r := 134)]; rw [pz_u1_top (r := 138)]; rw [pz_u1_top (r := 139)]; rw [pz_u1_top (r := 140)] <;> rfl)
            subst h9x
            replace hci : q_CI k o9_6 n9_8 w9_9 d9_10 (iv 142) (iv 143) (iv 145) (iv 129) (iv 135) := hci
            replace hNK : q_NK k n9_8 w9_9 d9_10 := hNK
            replace ho2 : o9_6 2 = (iv 2) 2 := ho2
            have hc11 : pz_R (pz_Sh L) 9 [.inr (.inl 17), .inl m, .inr (.inl 138)] (pz_u1 (pz_u1 (pz_u1 (pz_u1 (pz_u1 iv 2 o9_6) 134 l9_7) 138 n9_8) 139 w9_9) 140 d9_10) (.inl (some (.inl (q_use k (q_D k) m)))) (pz_u1 (pz_u1 (pz_u1 (pz_u1 (pz_u1 iv 2 o9_6) 134 l9_7) 138 n9_8) 139 w9_9) 140 d9_10) := s_X0_demandAt m (by show q_KR k; exact hk) (by show q_cA k (iv 17) (iv 18) (iv 19) (iv 20); exact hA) (by show q_nD k d9_10 (q_D k); exact q_NK_D hNK (by assumption)) (by show q_dR (q_D k); exact q_dR_D hk (by assumption))
            refine w_call hc11 rfl (pz_cokI is_17 rfl) ?_
            refine w_ret rfl ?_
            first | exact lf_i (by first | rfl | omega) (by rfl) | (exfalso; omega))
       · first
         | (exfalso; first | omega | contradiction)
         | (have hc12 := s_X10_soundNet_n (L := L) (iv := iv) (by exact hk) (by exact hE) (by exact hB) (by exact hS) (by exact hC) (by exact hL) (by exact hci) (by exact h4)
            refine w_calleE hc12 rfl (pz_cokI is_2 rfl) rfl (fun iv9 h9 => ?_)
            obtain ⟨o9_13, l9_14, n9_15, w9_16, d9_17, h9e, hci, ho2⟩ := h9
            have h9x : iv9 = pz_u1 (pz_u1 (pz_u1 (pz_u1 (pz_u1 iv 2 o9_13) 134 l9_14) 138 n9_15) 139 w9_16) 140 d9_17 := h9e.trans (by rw [pz_u1_top (r := 2)]; rw [pz_u1_top (r := 134)]; rw [pz_u1_top (r := 138)]; rw [pz_u1_top (r := 139)]; rw [pz_u1_top (r := 140)] <;> rfl)
            subst h9x
            replace hci : q_CI k o9_13 n9_15 w9_16 d9_17 (iv 142) (iv 143) (iv 145) (iv 129) (iv 135) := hci
            replace ho2 : o9_13 2 = (iv 2) 2 := ho2
            first | exact lf_e (by rfl) | (exfalso; omega)))
  · first
    | (exfalso; first | omega | contradiction)
    | (have hc18 : pz_R (pz_Sh L) 172 [.inl (pz_bi (0 ≤ m ∧ m ≤ 999))] (iv) (.inr 1) (iv) := s_X10_needRange_n (pz_bi (0 ≤ m ∧ m ≤ 999)) (by exact pz_bi_0 h2)
       refine w_calle hc18 rfl rfl rfl ?_
       first | exact lf_e (by rfl) | (exfalso; omega))

theorem s_X10_use_2 {L : Nat} {iv : Nat → Nat → Int} (m : Int) {k : Nat → Int} (hk : q_KR k) (hE : q_cE k (iv 3)) (hB : q_cB k (iv 4) (iv 5) (iv 6) (iv 7) (iv 8) (iv 9)) (hS : q_cS k (iv 10) (iv 11) (iv 12) (iv 13) (iv 14)) (hC : q_cC k (iv 15) (iv 16)) (hA : q_cA k (iv 17) (iv 18) (iv 19) (iv 20)) (hO : q_cO k (iv 22) (iv 23) (iv 24)) (hL : q_cL k (iv 25)) (hP : q_cP k (iv 27)) (hci : q_CI k (iv 2) (iv 138) (iv 139) (iv 140) (iv 142) (iv 143) (iv 145) (iv 129) (iv 135)) (hcase0 : 0 ≤ m ∧ m ≤ 999) (hcase1 : ¬ q_con k (fun _ => 0)) : pz_RE (pz_Sh L) 158 [.inr (.inl 2), .inl m] iv (.inr 0) (fun iv9 => ∃ (o9 : Nat → Int) (l9 : Nat → Int) (n9 : Nat → Int) (w9 : Nat → Int) (d9 : Nat → Int), iv9 = pz_u1 (pz_u1 (pz_u1 (pz_u1 (pz_u1 iv 2 o9) 134 l9) 138 n9) 139 w9) 140 d9 ∧ (q_CI k o9 n9 w9 d9 (iv 142) (iv 143) (iv 145) (iv 129) (iv 135)) ∧ (o9 2 = (iv 2) 2)) := by
  intro dv cc ss
  have hk0 := hk.r0
  have hE0 := hE
  have hB0 := hB.1
  have hS0 := hS.1
  have hC0 := hC.1
  have hA0 := hA.1
  refine pz_G_mem (iv2 := pz_u1 (pz_u1 (pz_u1 (pz_u1 (pz_u1 iv 2 (iv 2)) 134 (iv 134)) 138 (iv 138)) 139 (iv 139)) 140 (iv 140)) (by exact (((((pz_u1_self iv 2).symm).trans (pz_u1_self (pz_u1 iv 2 (iv 2)) 134).symm).trans (pz_u1_self (pz_u1 (pz_u1 iv 2 (iv 2)) 134 (iv 134)) 138).symm).trans (pz_u1_self (pz_u1 (pz_u1 (pz_u1 iv 2 (iv 2)) 134 (iv 134)) 138 (iv 138)) 139).symm).trans (pz_u1_self (pz_u1 (pz_u1 (pz_u1 (pz_u1 iv 2 (iv 2)) 134 (iv 134)) 138 (iv 138)) 139 (iv 139)) 140).symm) ?_
  show pz_G 158 0 [some (.inr (.inl 2)), some (.inl m)] [] (pz_Sh L, pz_u1 (pz_u1 (pz_u1 (pz_u1 (pz_u1 iv 2 (iv 2)) 134 (iv 134)) 138 (iv 138)) 139 (iv 139)) 140 (iv 140), dv, cc, ss) (pz_PE (pz_Sh L) (.inr 0) (fun iv9 => ∃ (o9 : Nat → Int) (l9 : Nat → Int) (n9 : Nat → Int) (w9 : Nat → Int) (d9 : Nat → Int), iv9 = pz_u1 (pz_u1 (pz_u1 (pz_u1 (pz_u1 iv 2 o9) 134 l9) 138 n9) 139 w9) 140 d9 ∧ (q_CI k o9 n9 w9 d9 (iv 142) (iv 143) (iv 145) (iv 129) (iv 135)) ∧ (o9 2 = (iv 2) 2)) dv cc ss)
  refine pz_G_of pz_b158_0 ?_
  refine w_loc rfl ?_
  refine w_pure rfl ?_
  refine w_pure rfl ?_
  have hc1 : pz_R (pz_Sh L) 185 [.inl m, .inl 0, .inl 999] (pz_u1 (pz_u1 (pz_u1 (pz_u1 (pz_u1 iv 2 (iv 2)) 134 (iv 134)) 138 (iv 138)) 139 (iv 139)) 140 (iv 140)) (.inl (some (.inl (pz_bi (0 ≤ m ∧ m ≤ 999))))) (pz_u1 (pz_u1 (pz_u1 (pz_u1 (pz_u1 iv 2 (iv 2)) 134 (iv 134)) 138 (iv 138)) 139 (iv 139)) 140 (iv 140)) := s_X10_isWithin m 0 999
  refine w_call hc1 rfl rfl ?_
  by_cases h2 : 0 ≤ m ∧ m ≤ 999
  · first
    | (exfalso; first | omega | contradiction)
    | (have hc3 : pz_R (pz_Sh L) 172 [.inl (pz_bi (0 ≤ m ∧ m ≤ 999))] (pz_u1 (pz_u1 (pz_u1 (pz_u1 (pz_u1 iv 2 (iv 2)) 134 (iv 134)) 138 (iv 138)) 139 (iv 139)) 140 (iv 140)) (.inl none) (pz_u1 (pz_u1 (pz_u1 (pz_u1 (pz_u1 iv 2 (iv 2)) 134 (iv 134)) 138 (iv 138)) 139 (iv 139)) 140 (iv 140)) := s_X10_needRange_y (pz_bi (0 ≤ m ∧ m ≤ 999)) (by show (pz_bi (0 ≤ m ∧ m ≤ 999)) ≠ 0; exact pz_bi_p1 h2)
       refine w_callv hc3 rfl rfl ?_
       refine w_loc rfl ?_
       refine w_getR (q := 3) is_2 rf_2_0 ?_
       refine w_getR (q := 17) is_3 rf_3_4 ?_
       refine w_loc rfl ?_
       refine w_loc rfl ?_
       by_cases h4 : q_con k (fun _ => 0)
       · first
         | (exfalso; first | omega | contradiction)
         | (have hc5 := s_X10_soundNet_y (L := L) (iv := pz_u1 (pz_u1 (pz_u1 (pz_u1 (pz_u1 iv 2 (iv 2)) 134 (iv 134)) 138 (iv 138)) 139 (iv 139)) 140 (iv 140)) (by show q_KR k; exact hk) (by show q_cE k (iv 3); exact hE) (by show q_cB k (iv 4) (iv 5) (iv 6) (iv 7) (iv 8) (iv 9); exact hB) (by show q_cS k (iv 10) (iv 11) (iv 12) (iv 13) (iv 14); exact hS) (by show q_cC k (iv 15) (iv 16); exact hC) (by show q_cL k (iv 25); exact hL) (by show q_CI k (iv 2) (iv 138) (iv 139) (iv 140) (iv 142) (iv 143) (iv 145) (iv 129) (iv 135); exact hci) (by show q_con k (fun _ => 0); exact h4)
            refine w_callE hc5 rfl (pz_cokI is_2 rfl) (fun iv9 h9 => ?_)
            obtain ⟨o9_6, l9_7, n9_8, w9_9, d9_10, h9e, hci, hNK, ho2⟩ := h9
            have h9x : iv9 = pz_u1 (pz_u1 (pz_u1 (pz_u1 (pz_u1 iv 2 o9_6) 134 l9_7) 138 n9_8) 139 w9_9) 140 d9_10 := h9e.trans (by rw [pz_u1_in (r := 2) (q := 140) (by decide)]; rw [pz_u1_in (r := 2) (q := 139) (by decide)]; rw [pz_u1_in (r := 2) (q := 138) (by decide)]; rw [pz_u1_in (r := 2) (q := 134) (by decide)]; rw [pz_u1_top (r := 2)]; rw [pz_u1_in (r := 134) (q := 140) (by decide)]; rw [pz_u1_in (r := 134) (q := 139) (by decide)]; rw [pz_u1_in (r := 134) (q := 138) (by decide)]; rw [pz_u1_top (r := 134)]; rw [pz_u1_in (r := 138) (q := 140) (by decide)]; rw [pz_u1_in (r := 138) (q := 139) (by decide)]; rw [pz_u1_top (r := 138)]; rw [pz_u1_in (r := 139) (q := 140) (by decide)]; rw [pz_u1_top (r := 139)]; rw [pz_u1_top (r := 140)] <;> rfl)
            subst h9x
            replace hci : q_CI k o9_6 n9_8 w9_9 d9_10 (iv 142) (iv 143) (iv 145) (iv 129) (iv 135) := hci
            replace hNK : q_NK k n9_8 w9_9 d9_10 := hNK
            replace ho2 : o9_6 2 = (iv 2) 2 := ho2
            have hc11 : pz_R (pz_Sh L) 9 [.inr (.inl 17), .inl m, .inr (.inl 138)] (pz_u1 (pz_u1 (pz_u1 (pz_u1 (pz_u1 iv 2 o9_6) 134 l9_7) 138 n9_8) 139 w9_9) 140 d9_10) (.inl (some (.inl (q_use k (q_D k) m)))) (pz_u1 (pz_u1 (pz_u1 (pz_u1 (pz_u1 iv 2 o9_6) 134 l9_7) 138 n9_8) 139 w9_9) 140 d9_10) := s_X0_demandAt m (by show q_KR k; exact hk) (by show q_cA k (iv 17) (iv 18) (iv 19) (iv 20); exact hA) (by show q_nD k d9_10 (q_D k); exact q_NK_D hNK (by assumption)) (by show q_dR (q_D k); exact q_dR_D hk (by assumption))
            refine w_call hc11 rfl (pz_cokI is_17 rfl) ?_
            refine w_ret rfl ?_
            first | exact ⟨pz_u1 (pz_u1 (pz_u1 (pz_u1 (pz_u1 iv 2 o9_6) 134 l9_7) 138 n9_8) 139 w9_9) 140 d9_10, ⟨o9_6, l9_7, n9_8, w9_9, d9_10, by rfl, by exact hci, by exact ho2⟩, lf_i (by first | rfl | omega) (by rfl)⟩ | (exfalso; omega))
       · first
         | (exfalso; first | omega | contradiction)
         | (have hc12 := s_X10_soundNet_n (L := L) (iv := pz_u1 (pz_u1 (pz_u1 (pz_u1 (pz_u1 iv 2 (iv 2)) 134 (iv 134)) 138 (iv 138)) 139 (iv 139)) 140 (iv 140)) (by show q_KR k; exact hk) (by show q_cE k (iv 3); exact hE) (by show q_cB k (iv 4) (iv 5) (iv 6) (iv 7) (iv 8) (iv 9); exact hB) (by show q_cS k (iv 10) (iv 11) (iv 12) (iv 13) (iv 14); exact hS) (by show q_cC k (iv 15) (iv 16); exact hC) (by show q_cL k (iv 25); exact hL) (by show q_CI k (iv 2) (iv 138) (iv 139) (iv 140) (iv 142) (iv 143) (iv 145) (iv 129) (iv 135); exact hci) (by show ¬ q_con k (fun _ => 0); exact h4)
            refine w_calleE hc12 rfl (pz_cokI is_2 rfl) rfl (fun iv9 h9 => ?_)
            obtain ⟨o9_13, l9_14, n9_15, w9_16, d9_17, h9e, hci, ho2⟩ := h9
            have h9x : iv9 = pz_u1 (pz_u1 (pz_u1 (pz_u1 (pz_u1 iv 2 o9_13) 134 l9_14) 138 n9_15) 139 w9_16) 140 d9_17 := h9e.trans (by rw [pz_u1_in (r := 2) (q := 140) (by decide)]; rw [pz_u1_in (r := 2) (q := 139) (by decide)]; rw [pz_u1_in (r := 2) (q := 138) (by decide)]; rw [pz_u1_in (r := 2) (q := 134) (by decide)]; rw [pz_u1_top (r := 2)]; rw [pz_u1_in (r := 134) (q := 140) (by decide)]; rw [pz_u1_in (r := 134) (q := 139) (by decide)]; rw [pz_u1_in (r := 134) (q := 138) (by decide)]; rw [pz_u1_top (r := 134)]; rw [pz_u1_in (r := 138) (q := 140) (by decide)]; rw [pz_u1_in (r := 138) (q := 139) (by decide)]; rw [pz_u1_top (r := 138)]; rw [pz_u1_in (r := 139) (q := 140) (by decide)]; rw [pz_u1_top (r := 139)]; rw [pz_u1_top (r := 140)] <;> rfl)
            subst h9x
            replace hci : q_CI k o9_13 n9_15 w9_16 d9_17 (iv 142) (iv 143) (iv 145) (iv 129) (iv 135) := hci
            replace ho2 : o9_13 2 = (iv 2) 2 := ho2
            first | exact ⟨pz_u1 (pz_u1 (pz_u1 (pz_u1 (pz_u1 iv 2 o9_13) 134 l9_14) 138 n9_15) 139 w9_16) 140 d9_17, ⟨o9_13, l9_14, n9_15, w9_16, d9_17, by rfl, by exact hci, by exact ho2⟩, lf_e (by rfl)⟩ | (exfalso; omega)))
  · first
    | (exfalso; first | omega | contradiction)
    | (have hc18 : pz_R (pz_Sh L) 172 [.inl (pz_bi (0 ≤ m ∧ m ≤ 999))] (pz_u1 (pz_u1 (pz_u1 (pz_u1 (pz_u1 iv 2 (iv 2)) 134 (iv 134)) 138 (iv 138)) 139 (iv 139)) 140 (iv 140)) (.inr 1) (pz_u1 (pz_u1 (pz_u1 (pz_u1 (pz_u1 iv 2 (iv 2)) 134 (iv 134)) 138 (iv 138)) 139 (iv 139)) 140 (iv 140)) := s_X10_needRange_n (pz_bi (0 ≤ m ∧ m ≤ 999)) (by show (pz_bi (0 ≤ m ∧ m ≤ 999)) = 0; exact pz_bi_0 h2)
       refine w_calle hc18 rfl rfl rfl ?_
       first | exact ⟨pz_u1 (pz_u1 (pz_u1 (pz_u1 (pz_u1 iv 2 (iv 2)) 134 (iv 134)) 138 (iv 138)) 139 (iv 139)) 140 (iv 140), ⟨(iv 2), (iv 134), (iv 138), (iv 139), (iv 140), by rfl, by exact hci, by exact ho2⟩, lf_e (by rfl)⟩ | (exfalso; omega))

theorem s_X10_use_0 {L : Nat} {iv : Nat → Nat → Int} (m : Int) {k : Nat → Int} (hk : q_KR k) (hE : q_cE k (iv 3)) (hB : q_cB k (iv 4) (iv 5) (iv 6) (iv 7) (iv 8) (iv 9)) (hS : q_cS k (iv 10) (iv 11) (iv 12) (iv 13) (iv 14)) (hC : q_cC k (iv 15) (iv 16)) (hA : q_cA k (iv 17) (iv 18) (iv 19) (iv 20)) (hO : q_cO k (iv 22) (iv 23) (iv 24)) (hL : q_cL k (iv 25)) (hP : q_cP k (iv 27)) (hci : q_CI k (iv 2) (iv 138) (iv 139) (iv 140) (iv 142) (iv 143) (iv 145) (iv 129) (iv 135)) (hcase0 : 0 ≤ m ∧ m ≤ 999) (hcase1 : q_con k (fun _ => 0)) : pz_RE (pz_Sh L) 158 [.inr (.inl 2), .inl m] iv (.inl (some (.inl (q_use k (q_D k) m)))) (fun iv9 => ∃ (o9 : Nat → Int) (l9 : Nat → Int) (n9 : Nat → Int) (w9 : Nat → Int) (d9 : Nat → Int), iv9 = pz_u1 (pz_u1 (pz_u1 (pz_u1 (pz_u1 iv 2 o9) 134 l9) 138 n9) 139 w9) 140 d9 ∧ (q_CI k o9 n9 w9 d9 (iv 142) (iv 143) (iv 145) (iv 129) (iv 135)) ∧ (o9 2 = (iv 2) 2)) := by
  intro dv cc ss
  have hk0 := hk.r0
  have hE0 := hE
  have hB0 := hB.1
  have hS0 := hS.1
  have hC0 := hC.1
  have hA0 := hA.1
  refine pz_G_mem (iv2 := pz_u1 (pz_u1 (pz_u1 (pz_u1 (pz_u1 iv 2 (iv 2)) 134 (iv 134)) 138 (iv 138)) 139 (iv 139)) 140 (iv 140)) (by exact (((((pz_u1_self iv 2).symm).trans (pz_u1_self (pz_u1 iv 2 (iv 2)) 134).symm).trans (pz_u1_self (pz_u1 (pz_u1 iv 2 (iv 2)) 134 (iv 134)) 138).symm).trans (pz_u1_self (pz_u1 (pz_u1 (pz_u1 iv 2 (iv 2)) 134 (iv 134)) 138 (iv 138)) 139).symm).trans (pz_u1_self (pz_u1 (pz_u1 (pz_u1 (pz_u1 iv 2 (iv 2)) 134 (iv 134)) 138 (iv 138)) 139 (iv 139)) 140).symm) ?_
  show pz_G 158 0 [some (.inr (.inl 2)), some (.inl m)] [] (pz_Sh L, pz_u1 (pz_u1 (pz_u1 (pz_u1 (pz_u1 iv 2 (iv 2)) 134 (iv 134)) 138 (iv 138)) 139 (iv 139)) 140 (iv 140), dv, cc, ss) (pz_PE (pz_Sh L) (.inl (some (.inl (q_use k (q_D k) m)))) (fun iv9 => ∃ (o9 : Nat → Int) (l9 : Nat → Int) (n9 : Nat → Int) (w9 : Nat → Int) (d9 : Nat → Int), iv9 = pz_u1 (pz_u1 (pz_u1 (pz_u1 (pz_u1 iv 2 o9) 134 l9) 138 n9) 139 w9) 140 d9 ∧ (q_CI k o9 n9 w9 d9 (iv 142) (iv 143) (iv 145) (iv 129) (iv 135)) ∧ (o9 2 = (iv 2) 2)) dv cc ss)
  refine pz_G_of pz_b158_0 ?_
  refine w_loc rfl ?_
  refine w_pure rfl ?_
  refine w_pure rfl ?_
  have hc1 : pz_R (pz_Sh L) 185 [.inl m, .inl 0, .inl 999] (pz_u1 (pz_u1 (pz_u1 (pz_u1 (pz_u1 iv 2 (iv 2)) 134 (iv 134)) 138 (iv 138)) 139 (iv 139)) 140 (iv 140)) (.inl (some (.inl (pz_bi (0 ≤ m ∧ m ≤ 999))))) (pz_u1 (pz_u1 (pz_u1 (pz_u1 (pz_u1 iv 2 (iv 2)) 134 (iv 134)) 138 (iv 138)) 139 (iv 139)) 140 (iv 140)) := s_X10_isWithin m 0 999
  refine w_call hc1 rfl rfl ?_
  by_cases h2 : 0 ≤ m ∧ m ≤ 999
  · first
    | (exfalso; first | omega | contradiction)
    | (have hc3 : pz_R (pz_Sh L) 172 [.inl (pz_bi (0 ≤ m ∧ m ≤ 999))] (pz_u1 (pz_u1 (pz_u1 (pz_u1 (pz_u1 iv 2 (iv 2)) 134 (iv 134)) 138 (iv 138)) 139 (iv 139)) 140 (iv 140)) (.inl none) (pz_u1 (pz_u1 (pz_u1 (pz_u1 (pz_u1 iv 2 (iv 2)) 134 (iv 134)) 138 (iv 138)) 139 (iv 139)) 140 (iv 140)) := s_X10_needRange_y (pz_bi (0 ≤ m ∧ m ≤ 999)) (by show (pz_bi (0 ≤ m ∧ m ≤ 999)) ≠ 0; exact pz_bi_p1 h2)
       refine w_callv hc3 rfl rfl ?_
       refine w_loc rfl ?_
       refine w_getR (q := 3) is_2 rf_2_0 ?_
       refine w_getR (q := 17) is_3 rf_3_4 ?_
       refine w_loc rfl ?_
       refine w_loc rfl ?_
       by_cases h4 : q_con k (fun _ => 0)
       · first
         | (exfalso; first | omega | contradiction)
         | (have hc5 := s_X10_soundNet_y (L := L) (iv := pz_u1 (pz_u1 (pz_u1 (pz_u1 (pz_u1 iv 2 (iv 2)) 134 (iv 134)) 138 (iv 138)) 139 (iv 139)) 140 (iv 140)) (by show q_KR k; exact hk) (by show q_cE k (iv 3); exact hE) (by show q_cB k (iv 4) (iv 5) (iv 6) (iv 7) (iv 8) (iv 9); exact hB) (by show q_cS k (iv 10) (iv 11) (iv 12) (iv 13) (iv 14); exact hS) (by show q_cC k (iv 15) (iv 16); exact hC) (by show q_cL k (iv 25); exact hL) (by show q_CI k (iv 2) (iv 138) (iv 139) (iv 140) (iv 142) (iv 143) (iv 145) (iv 129) (iv 135); exact hci) (by show q_con k (fun _ => 0); exact h4)
            refine w_callE hc5 rfl (pz_cokI is_2 rfl) (fun iv9 h9 => ?_)
            obtain ⟨o9_6, l9_7, n9_8, w9_9, d9_10, h9e, hci, hNK, ho2⟩ := h9
            have h9x : iv9 = pz_u1 (pz_u1 (pz_u1 (pz_u1 (pz_u1 iv 2 o9_6) 134 l9_7) 138 n9_8) 139 w9_9) 140 d9_10 := h9e.trans (by rw [pz_u1_in (r := 2) (q := 140) (by decide)]; rw [pz_u1_in (r := 2) (q := 139) (by decide)]; rw [pz_u1_in (r := 2) (q := 138) (by decide)]; rw [pz_u1_in (r := 2) (q := 134) (by decide)]; rw [pz_u1_top (r := 2)]; rw [pz_u1_in (r := 134) (q := 140) (by decide)]; rw [pz_u1_in (r := 134) (q := 139) (by decide)]; rw [pz_u1_in (r := 134) (q := 138) (by decide)]; rw [pz_u1_top (r := 134)]; rw [pz_u1_in (r := 138) (q := 140) (by decide)]; rw [pz_u1_in (r := 138) (q := 139) (by decide)]; rw [pz_u1_top (r := 138)]; rw [pz_u1_in (r := 139) (q := 140) (by decide)]; rw [pz_u1_top (r := 139)]; rw [pz_u1_top (r := 140)] <;> rfl)
            subst h9x
            replace hci : q_CI k o9_6 n9_8 w9_9 d9_10 (iv 142) (iv 143) (iv 145) (iv 129) (iv 135) := hci
            replace hNK : q_NK k n9_8 w9_9 d9_10 := hNK
            replace ho2 : o9_6 2 = (iv 2) 2 := ho2
            have hc11 : pz_R (pz_Sh L) 9 [.inr (.inl 17), .inl m, .inr (.inl 138)] (pz_u1 (pz_u1 (pz_u1 (pz_u1 (pz_u1 iv 2 o9_6) 134 l9_7) 138 n9_8) 139 w9_9) 140 d9_10) (.inl (some (.inl (q_use k (q_D k) m)))) (pz_u1 (pz_u1 (pz_u1 (pz_u1 (pz_u1 iv 2 o9_6) 134 l9_7) 138 n9_8) 139 w9_9) 140 d9_10) := s_X0_demandAt m (by show q_KR k; exact hk) (by show q_cA k (iv 17) (iv 18) (iv 19) (iv 20); exact hA) (by show q_nD k d9_10 (q_D k); exact q_NK_D hNK (by assumption)) (by show q_dR (q_D k); exact q_dR_D hk (by assumption))
            refine w_call hc11 rfl (pz_cokI is_17 rfl) ?_
            refine w_ret rfl ?_
            first | exact ⟨pz_u1 (pz_u1 (pz_u1 (pz_u1 (pz_u1 iv 2 o9_6) 134 l9_7) 138 n9_8) 139 w9_9) 140 d9_10, ⟨o9_6, l9_7, n9_8, w9_9, d9_10, by rfl, by exact hci, by exact ho2⟩, lf_i (by first | rfl | omega) (by rfl)⟩ | (exfalso; omega))
       · first
         | (exfalso; first | omega | contradiction)
         | (have hc12 := s_X10_soundNet_n (L := L) (iv := pz_u1 (pz_u1 (pz_u1 (pz_u1 (pz_u1 iv 2 (iv 2)) 134 (iv 134)) 138 (iv 138)) 139 (iv 139)) 140 (iv 140)) (by show q_KR k; exact hk) (by show q_cE k (iv 3); exact hE) (by show q_cB k (iv 4) (iv 5) (iv 6) (iv 7) (iv 8) (iv 9); exact hB) (by show q_cS k (iv 10) (iv 11) (iv 12) (iv 13) (iv 14); exact hS) (by show q_cC k (iv 15) (iv 16); exact hC) (by show q_cL k (iv 25); exact hL) (by show q_CI k (iv 2) (iv 138) (iv 139) (iv 140) (iv 142) (iv 143) (iv 145) (iv 129) (iv 135); exact hci) (by show ¬ q_con k (fun _ => 0); exact h4)
            refine w_calleE hc12 rfl (pz_cokI is_2 rfl) rfl (fun iv9 h9 => ?_)
            obtain ⟨o9_13, l9_14, n9_15, w9_16, d9_17, h9e, hci, ho2⟩ := h9
            have h9x : iv9 = pz_u1 (pz_u1 (pz_u1 (pz_u1 (pz_u1 iv 2 o9_13) 134 l9_14) 138 n9_15) 139 w9_16) 140 d9_17 := h9e.trans (by rw [pz_u1_in (r := 2) (q := 140) (by decide)]; rw [pz_u1_in (r := 2) (q := 139) (by decide)]; rw [pz_u1_in (r := 2) (q := 138) (by decide)]; rw [pz_u1_in (r := 2) (q := 134) (by decide)]; rw [pz_u1_top (r := 2)]; rw [pz_u1_in (r := 134) (q := 140) (by decide)]; rw [pz_u1_in (r := 134) (q := 139) (by decide)]; rw [pz_u1_in (r := 134) (q := 138) (by decide)]; rw [pz_u1_top (r := 134)]; rw [pz_u1_in (r := 138) (q := 140) (by decide)]; rw [pz_u1_in (r := 138) (q := 139) (by decide)]; rw [pz_u1_top (r := 138)]; rw [pz_u1_in (r := 139) (q := 140) (by decide)]; rw [pz_u1_top (r := 139)]; rw [pz_u1_top (r := 140)] <;> rfl)
            subst h9x
            replace hci : q_CI k o9_13 n9_15 w9_16 d9_17 (iv 142) (iv 143) (iv 145) (iv 129) (iv 135) := hci
            replace ho2 : o9_13 2 = (iv 2) 2 := ho2
            first | exact ⟨pz_u1 (pz_u1 (pz_u1 (pz_u1 (pz_u1 iv 2 o9_13) 134 l9_14) 138 n9_15) 139 w9_16) 140 d9_17, ⟨o9_13, l9_14, n9_15, w9_16, d9_17, by rfl, by exact hci, by exact ho2⟩, lf_e (by rfl)⟩ | (exfalso; omega)))
  · first
    | (exfalso; first | omega | contradiction)
    | (have hc18 : pz_R (pz_Sh L) 172 [.inl (pz_bi (0 ≤ m ∧ m ≤ 999))] (pz_u1 (pz_u1 (pz_u1 (pz_u1 (pz_u1 iv 2 (iv 2)) 134 (iv 134)) 138 (iv 138)) 139 (iv 139)) 140 (iv 140)) (.inr 1) (pz_u1 (pz_u1 (pz_u1 (pz_u1 (pz_u1 iv 2 (iv 2)) 134 (iv 134)) 138 (iv 138)) 139 (iv 139)) 140 (iv 140)) := s_X10_needRange_n (pz_bi (0 ≤ m ∧ m ≤ 999)) (by show (pz_bi (0 ≤ m ∧ m ≤ 999)) = 0; exact pz_bi_0 h2)
       refine w_calle hc18 rfl rfl rfl ?_
       first | exact ⟨pz_u1 (pz_u1 (pz_u1 (pz_u1 (pz_u1 iv 2 (iv 2)) 134 (iv 134)) 138 (iv 138)) 139 (iv 139)) 140 (iv 140), ⟨(iv 2), (iv 134), (iv 138), (iv 139), (iv 140), by rfl, by exact hci, by exact ho2⟩, lf_e (by rfl)⟩ | (exfalso; omega))

theorem s_X10_neededPeak_1 {L : Nat} {iv : Nat → Nat → Int} {k : Nat → Int} (hk : q_KR k) (hE : q_cE k (iv 3)) (hB : q_cB k (iv 4) (iv 5) (iv 6) (iv 7) (iv 8) (iv 9)) (hS : q_cS k (iv 10) (iv 11) (iv 12) (iv 13) (iv 14)) (hC : q_cC k (iv 15) (iv 16)) (hA : q_cA k (iv 17) (iv 18) (iv 19) (iv 20)) (hO : q_cO k (iv 22) (iv 23) (iv 24)) (hL : q_cL k (iv 25)) (hP : q_cP k (iv 27)) (hci : q_CI k (iv 2) (iv 138) (iv 139) (iv 140) (iv 142) (iv 143) (iv 145) (iv 129) (iv 135)) (hcase0 : ¬ q_con k (fun _ => 0)) : pz_RE (pz_Sh L) 176 [.inr (.inl 2)] iv (.inr 0) (fun iv9 => ∃ (o9 : Nat → Int) (l9 : Nat → Int) (n9 : Nat → Int) (w9 : Nat → Int) (d9 : Nat → Int), iv9 = pz_u1 (pz_u1 (pz_u1 (pz_u1 (pz_u1 iv 2 o9) 134 l9) 138 n9) 139 w9) 140 d9 ∧ (q_CI k o9 n9 w9 d9 (iv 142) (iv 143) (iv 145) (iv 129) (iv 135)) ∧ (o9 2 = (iv 2) 2)) := by
  intro dv cc ss
  have hk0 := hk.r0
  have hE0 := hE
  have hB0 := hB.1
  have hS0 := hS.1
  have hC0 := hC.1
  have hA0 := hA.1
  refine pz_G_mem (iv2 := pz_u1 (pz_u1 (pz_u1 (pz_u1 (pz_u1 iv 2 (iv 2)) 134 (iv 134)) 138 (iv 138)) 139 (iv 139)) 140 (iv 140)) (by exact (((((pz_u1_self iv 2).symm).trans (pz_u1_self (pz_u1 iv 2 (iv 2)) 134).symm).trans (pz_u1_self (pz_u1 (pz_u1 iv 2 (iv 2)) 134 (iv 134)) 138).symm).trans (pz_u1_self (pz_u1 (pz_u1 (pz_u1 iv 2 (iv 2)) 134 (iv 134)) 138 (iv 138)) 139).symm).trans (pz_u1_self (pz_u1 (pz_u1 (pz_u1 (pz_u1 iv 2 (iv 2)) 134 (iv 134)) 138 (iv 138)) 139 (iv 139)) 140).symm) ?_
  show pz_G 176 0 [some (.inr (.inl 2)), none] [] (pz_Sh L, pz_u1 (pz_u1 (pz_u1 (pz_u1 (pz_u1 iv 2 (iv 2)) 134 (iv 134)) 138 (iv 138)) 139 (iv 139)) 140 (iv 140), dv, cc, ss) (pz_PE (pz_Sh L) (.inr 0) (fun iv9 => ∃ (o9 : Nat → Int) (l9 : Nat → Int) (n9 : Nat → Int) (w9 : Nat → Int) (d9 : Nat → Int), iv9 = pz_u1 (pz_u1 (pz_u1 (pz_u1 (pz_u1 iv 2 o9) 134 l9) 138 n9) 139 w9) 140 d9 ∧ (q_CI k o9 n9 w9 d9 (iv 142) (iv 143) (iv 145) (iv 129) (iv 135)) ∧ (o9 2 = (iv 2) 2)) dv cc ss)
  refine pz_G_of pz_b176_0 ?_
  refine w_loc rfl ?_
  refine w_getR (q := 3) is_2 rf_2_0 ?_
  refine w_getR (q := 17) is_3 rf_3_4 ?_
  refine w_loc rfl ?_
  by_cases h1 : q_con k (fun _ => 0)
  · first
    | (exfalso; first | omega | contradiction)
    | (have hc2 := s_X10_soundNet_y (L := L) (iv := pz_u1 (pz_u1 (pz_u1 (pz_u1 (pz_u1 iv 2 (iv 2)) 134 (iv 134)) 138 (iv 138)) 139 (iv 139)) 140 (iv 140)) (by show q_KR k; exact hk) (by show q_cE k (iv 3); exact hE) (by show q_cB k (iv 4) (iv 5) (iv 6) (iv 7) (iv 8) (iv 9); exact hB) (by show q_cS k (iv 10) (iv 11) (iv 12) (iv 13) (iv 14); exact hS) (by show q_cC k (iv 15) (iv 16); exact hC) (by show q_cL k (iv 25); exact hL) (by show q_CI k (iv 2) (iv 138) (iv 139) (iv 140) (iv 142) (iv 143) (iv 145) (iv 129) (iv 135); exact hci) (by show q_con k (fun _ => 0); exact h1)
       refine w_callE hc2 rfl (pz_cokI is_2 rfl) (fun iv9 h9 => ?_)
       obtain ⟨o9_3, l9_4, n9_5, w9_6, d9_7, h9e, hci, hNK, ho2⟩ := h9
       have h9x : iv9 = pz_u1 (pz_u1 (pz_u1 (pz_u1 (pz_u1 iv 2 o9_3) 134 l9_4) 138 n9_5) 139 w9_6) 140 d9_7 := h9e.trans (by rw [pz_u1_in (r := 2) (q := 140) (by decide)]; rw [pz_u1_in (r := 2) (q := 139) (by decide)]; rw [pz_u1_in (r := 2) (q := 138) (by decide)]; rw [pz_u1_in (r := 2) (q := 134) (by decide)]; rw [pz_u1_top (r := 2)]; rw [pz_u1_in (r := 134) (q := 140) (by decide)]; rw [pz_u1_in (r := 134) (q := 139) (by decide)]; rw [pz_u1_in (r := 134) (q := 138) (by decide)]; rw [pz_u1_top (r := 134)]; rw [pz_u1_in (r := 138) (q := 140) (by decide)]; rw [pz_u1_in (r := 138) (q := 139) (by decide)]; rw [pz_u1_top (r := 138)]; rw [pz_u1_in (r := 139) (q := 140) (by decide)]; rw [pz_u1_top (r := 139)]; rw [pz_u1_top (r := 140)] <;> rfl)
       subst h9x
       replace hci : q_CI k o9_3 n9_5 w9_6 d9_7 (iv 142) (iv 143) (iv 145) (iv 129) (iv 135) := hci
       replace hNK : q_NK k n9_5 w9_6 d9_7 := hNK
       replace ho2 : o9_3 2 = (iv 2) 2 := ho2
       have hc8 : pz_R (pz_Sh L) 11 [.inr (.inl 17), .inr (.inl 138)] (pz_u1 (pz_u1 (pz_u1 (pz_u1 (pz_u1 iv 2 o9_3) 134 l9_4) 138 n9_5) 139 w9_6) 140 d9_7) (.inl (some (.inl (q_pk k (q_D k))))) (pz_u1 (pz_u1 (pz_u1 (pz_u1 (pz_u1 iv 2 o9_3) 134 l9_4) 138 n9_5) 139 w9_6) 140 d9_7) := s_X0_firstPeak (by show q_KR k; exact hk) (by show q_cA k (iv 17) (iv 18) (iv 19) (iv 20); exact hA) (by show q_nD k d9_7 (q_D k); exact q_NK_D hNK (by assumption)) (by show q_dR (q_D k); exact q_dR_D hk (by assumption))
       refine w_call hc8 rfl (pz_cokI is_17 rfl) ?_
       refine w_loc (ls' := [some (.inr (.inl 2)), some (.inl (q_pk k (q_D k)))]) (st' := []) rfl ?_
       refine w_loc rfl ?_
       refine w_pure rfl ?_
       refine w_ine (fun h9 => ?_) (fun h9 => ?_)
       · first
         | (exfalso; first | omega | contradiction)
         | (refine pz_G_of pz_b176_31 ?_
            refine w_loc rfl ?_
            refine w_ret rfl ?_
            first | exact ⟨pz_u1 (pz_u1 (pz_u1 (pz_u1 (pz_u1 iv 2 o9_3) 134 l9_4) 138 n9_5) 139 w9_6) 140 d9_7, ⟨o9_3, l9_4, n9_5, w9_6, d9_7, by rfl, by exact hci, by exact ho2⟩, lf_i (by first | rfl | omega) (by rfl)⟩ | (exfalso; omega))
       · first
         | (exfalso; first | omega | contradiction)
         | (refine w_thr (by decide) ?_
            first | exact ⟨pz_u1 (pz_u1 (pz_u1 (pz_u1 (pz_u1 iv 2 o9_3) 134 l9_4) 138 n9_5) 139 w9_6) 140 d9_7, ⟨o9_3, l9_4, n9_5, w9_6, d9_7, by rfl, by exact hci, by exact ho2⟩, lf_e (by rfl)⟩ | (exfalso; omega)))
  · first
    | (exfalso; first | omega | contradiction)
    | (have hc10 := s_X10_soundNet_n (L := L) (iv := pz_u1 (pz_u1 (pz_u1 (pz_u1 (pz_u1 iv 2 (iv 2)) 134 (iv 134)) 138 (iv 138)) 139 (iv 139)) 140 (iv 140)) (by show q_KR k; exact hk) (by show q_cE k (iv 3); exact hE) (by show q_cB k (iv 4) (iv 5) (iv 6) (iv 7) (iv 8) (iv 9); exact hB) (by show q_cS k (iv 10) (iv 11) (iv 12) (iv 13) (iv 14); exact hS) (by show q_cC k (iv 15) (iv 16); exact hC) (by show q_cL k (iv 25); exact hL) (by show q_CI k (iv 2) (iv 138) (iv 139) (iv 140) (iv 142) (iv 143) (iv 145) (iv 129) (iv 135); exact hci) (by show ¬ q_con k (fun _ => 0); exact h1)
       refine w_calleE hc10 rfl (pz_cokI is_2 rfl) rfl (fun iv9 h9 => ?_)
       obtain ⟨o9_11, l9_12, n9_13, w9_14, d9_15, h9e, hci, ho2⟩ := h9
       have h9x : iv9 = pz_u1 (pz_u1 (pz_u1 (pz_u1 (pz_u1 iv 2 o9_11) 134 l9_12) 138 n9_13) 139 w9_14) 140 d9_15 := h9e.trans (by rw [pz_u1_in (r := 2) (q := 140) (by decide)]; rw [pz_u1_in (r := 2) (q := 139) (by decide)]; rw [pz_u1_in (r := 2) (q := 138) (by decide)]; rw [pz_u1_in (r := 2) (q := 134) (by decide)]; rw [pz_u1_top (r := 2)]; rw [pz_u1_in (r := 134) (q := 140) (by decide)]; rw [pz_u1_in (r := 134) (q := 139) (by decide)]; rw [pz_u1_in (r := 134) (q := 138) (by decide)]; rw [pz_u1_top (r := 134)]; rw [pz_u1_in (r := 138) (q := 140) (by decide)]; rw [pz_u1_in (r := 138) (q := 139) (by decide)]; rw [pz_u1_top (r := 138)]; rw [pz_u1_in (r := 139) (q := 140) (by decide)]; rw [pz_u1_top (r := 139)]; rw [pz_u1_top (r := 140)] <;> rfl)
       subst h9x
       replace hci : q_CI k o9_11 n9_13 w9_14 d9_15 (iv 142) (iv 143) (iv 145) (iv 129) (iv 135) := hci
       replace ho2 : o9_11 2 = (iv 2) 2 := ho2
       first | exact ⟨pz_u1 (pz_u1 (pz_u1 (pz_u1 (pz_u1 iv 2 o9_11) 134 l9_12) 138 n9_13) 139 w9_14) 140 d9_15, ⟨o9_11, l9_12, n9_13, w9_14, d9_15, by rfl, by exact hci, by exact ho2⟩, lf_e (by rfl)⟩ | (exfalso; omega))

theorem s_X10_neededPeak_2 {L : Nat} {iv : Nat → Nat → Int} {k : Nat → Int} (hk : q_KR k) (hE : q_cE k (iv 3)) (hB : q_cB k (iv 4) (iv 5) (iv 6) (iv 7) (iv 8) (iv 9)) (hS : q_cS k (iv 10) (iv 11) (iv 12) (iv 13) (iv 14)) (hC : q_cC k (iv 15) (iv 16)) (hA : q_cA k (iv 17) (iv 18) (iv 19) (iv 20)) (hO : q_cO k (iv 22) (iv 23) (iv 24)) (hL : q_cL k (iv 25)) (hP : q_cP k (iv 27)) (hci : q_CI k (iv 2) (iv 138) (iv 139) (iv 140) (iv 142) (iv 143) (iv 145) (iv 129) (iv 135)) (hcase0 : q_con k (fun _ => 0)) (hcase1 : q_pk k (q_D k) = -1) : pz_RE (pz_Sh L) 176 [.inr (.inl 2)] iv (.inr 2) (fun iv9 => ∃ (o9 : Nat → Int) (l9 : Nat → Int) (n9 : Nat → Int) (w9 : Nat → Int) (d9 : Nat → Int), iv9 = pz_u1 (pz_u1 (pz_u1 (pz_u1 (pz_u1 iv 2 o9) 134 l9) 138 n9) 139 w9) 140 d9 ∧ (q_CI k o9 n9 w9 d9 (iv 142) (iv 143) (iv 145) (iv 129) (iv 135)) ∧ (o9 2 = (iv 2) 2)) := by
  intro dv cc ss
  have hk0 := hk.r0
  have hE0 := hE
  have hB0 := hB.1
  have hS0 := hS.1
  have hC0 := hC.1
  have hA0 := hA.1
  refine pz_G_mem (iv2 := pz_u1 (pz_u1 (pz_u1 (pz_u1 (pz_u1 iv 2 (iv 2)) 134 (iv 134)) 138 (iv 138)) 139 (iv 139)) 140 (iv 140)) (by exact (((((pz_u1_self iv 2).symm).trans (pz_u1_self (pz_u1 iv 2 (iv 2)) 134).symm).trans (pz_u1_self (pz_u1 (pz_u1 iv 2 (iv 2)) 134 (iv 134)) 138).symm).trans (pz_u1_self (pz_u1 (pz_u1 (pz_u1 iv 2 (iv 2)) 134 (iv 134)) 138 (iv 138)) 139).symm).trans (pz_u1_self (pz_u1 (pz_u1 (pz_u1 (pz_u1 iv 2 (iv 2)) 134 (iv 134)) 138 (iv 138)) 139 (iv 139)) 140).symm) ?_
  show pz_G 176 0 [some (.inr (.inl 2)), none] [] (pz_Sh L, pz_u1 (pz_u1 (pz_u1 (pz_u1 (pz_u1 iv 2 (iv 2)) 134 (iv 134)) 138 (iv 138)) 139 (iv 139)) 140 (iv 140), dv, cc, ss) (pz_PE (pz_Sh L) (.inr 2) (fun iv9 => ∃ (o9 : Nat → Int) (l9 : Nat → Int) (n9 : Nat → Int) (w9 : Nat → Int) (d9 : Nat → Int), iv9 = pz_u1 (pz_u1 (pz_u1 (pz_u1 (pz_u1 iv 2 o9) 134 l9) 138 n9) 139 w9) 140 d9 ∧ (q_CI k o9 n9 w9 d9 (iv 142) (iv 143) (iv 145) (iv 129) (iv 135)) ∧ (o9 2 = (iv 2) 2)) dv cc ss)
  refine pz_G_of pz_b176_0 ?_
  refine w_loc rfl ?_
  refine w_getR (q := 3) is_2 rf_2_0 ?_
  refine w_getR (q := 17) is_3 rf_3_4 ?_
  refine w_loc rfl ?_
  by_cases h1 : q_con k (fun _ => 0)
  · first
    | (exfalso; first | omega | contradiction)
    | (have hc2 := s_X10_soundNet_y (L := L) (iv := pz_u1 (pz_u1 (pz_u1 (pz_u1 (pz_u1 iv 2 (iv 2)) 134 (iv 134)) 138 (iv 138)) 139 (iv 139)) 140 (iv 140)) (by show q_KR k; exact hk) (by show q_cE k (iv 3); exact hE) (by show q_cB k (iv 4) (iv 5) (iv 6) (iv 7) (iv 8) (iv 9); exact hB) (by show q_cS k (iv 10) (iv 11) (iv 12) (iv 13) (iv 14); exact hS) (by show q_cC k (iv 15) (iv 16); exact hC) (by show q_cL k (iv 25); exact hL) (by show q_CI k (iv 2) (iv 138) (iv 139) (iv 140) (iv 142) (iv 143) (iv 145) (iv 129) (iv 135); exact hci) (by show q_con k (fun _ => 0); exact h1)
       refine w_callE hc2 rfl (pz_cokI is_2 rfl) (fun iv9 h9 => ?_)
       obtain ⟨o9_3, l9_4, n9_5, w9_6, d9_7, h9e, hci, hNK, ho2⟩ := h9
       have h9x : iv9 = pz_u1 (pz_u1 (pz_u1 (pz_u1 (pz_u1 iv 2 o9_3) 134 l9_4) 138 n9_5) 139 w9_6) 140 d9_7 := h9e.trans (by rw [pz_u1_in (r := 2) (q := 140) (by decide)]; rw [pz_u1_in (r := 2) (q := 139) (by decide)]; rw [pz_u1_in (r := 2) (q := 138) (by decide)]; rw [pz_u1_in (r := 2) (q := 134) (by decide)]; rw [pz_u1_top (r := 2)]; rw [pz_u1_in (r := 134) (q := 140) (by decide)]; rw [pz_u1_in (r := 134) (q := 139) (by decide)]; rw [pz_u1_in (r := 134) (q := 138) (by decide)]; rw [pz_u1_top (r := 134)]; rw [pz_u1_in (r := 138) (q := 140) (by decide)]; rw [pz_u1_in (r := 138) (q := 139) (by decide)]; rw [pz_u1_top (r := 138)]; rw [pz_u1_in (r := 139) (q := 140) (by decide)]; rw [pz_u1_top (r := 139)]; rw [pz_u1_top (r := 140)] <;> rfl)
       subst h9x
       replace hci : q_CI k o9_3 n9_5 w9_6 d9_7 (iv 142) (iv 143) (iv 145) (iv 129) (iv 135) := hci
       replace hNK : q_NK k n9_5 w9_6 d9_7 := hNK
       replace ho2 : o9_3 2 = (iv 2) 2 := ho2
       have hc8 : pz_R (pz_Sh L) 11 [.inr (.inl 17), .inr (.inl 138)] (pz_u1 (pz_u1 (pz_u1 (pz_u1 (pz_u1 iv 2 o9_3) 134 l9_4) 138 n9_5) 139 w9_6) 140 d9_7) (.inl (some (.inl (q_pk k (q_D k))))) (pz_u1 (pz_u1 (pz_u1 (pz_u1 (pz_u1 iv 2 o9_3) 134 l9_4) 138 n9_5) 139 w9_6) 140 d9_7) := s_X0_firstPeak (by show q_KR k; exact hk) (by show q_cA k (iv 17) (iv 18) (iv 19) (iv 20); exact hA) (by show q_nD k d9_7 (q_D k); exact q_NK_D hNK (by assumption)) (by show q_dR (q_D k); exact q_dR_D hk (by assumption))
       refine w_call hc8 rfl (pz_cokI is_17 rfl) ?_
       refine w_loc (ls' := [some (.inr (.inl 2)), some (.inl (q_pk k (q_D k)))]) (st' := []) rfl ?_
       refine w_loc rfl ?_
       refine w_pure rfl ?_
       refine w_ine (fun h9 => ?_) (fun h9 => ?_)
       · first
         | (exfalso; first | omega | contradiction)
         | (refine pz_G_of pz_b176_31 ?_
            refine w_loc rfl ?_
            refine w_ret rfl ?_
            first | exact ⟨pz_u1 (pz_u1 (pz_u1 (pz_u1 (pz_u1 iv 2 o9_3) 134 l9_4) 138 n9_5) 139 w9_6) 140 d9_7, ⟨o9_3, l9_4, n9_5, w9_6, d9_7, by rfl, by exact hci, by exact ho2⟩, lf_i (by first | rfl | omega) (by rfl)⟩ | (exfalso; omega))
       · first
         | (exfalso; first | omega | contradiction)
         | (refine w_thr (by decide) ?_
            first | exact ⟨pz_u1 (pz_u1 (pz_u1 (pz_u1 (pz_u1 iv 2 o9_3) 134 l9_4) 138 n9_5) 139 w9_6) 140 d9_7, ⟨o9_3, l9_4, n9_5, w9_6, d9_7, by rfl, by exact hci, by exact ho2⟩, lf_e (by rfl)⟩ | (exfalso; omega)))
  · first
    | (exfalso; first | omega | contradiction)
    | (have hc10 := s_X10_soundNet_n (L := L) (iv := pz_u1 (pz_u1 (pz_u1 (pz_u1 (pz_u1 iv 2 (iv 2)) 134 (iv 134)) 138 (iv 138)) 139 (iv 139)) 140 (iv 140)) (by show q_KR k; exact hk) (by show q_cE k (iv 3); exact hE) (by show q_cB k (iv 4) (iv 5) (iv 6) (iv 7) (iv 8) (iv 9); exact hB) (by show q_cS k (iv 10) (iv 11) (iv 12) (iv 13) (iv 14); exact hS) (by show q_cC k (iv 15) (iv 16); exact hC) (by show q_cL k (iv 25); exact hL) (by show q_CI k (iv 2) (iv 138) (iv 139) (iv 140) (iv 142) (iv 143) (iv 145) (iv 129) (iv 135); exact hci) (by show ¬ q_con k (fun _ => 0); exact h1)
       refine w_calleE hc10 rfl (pz_cokI is_2 rfl) rfl (fun iv9 h9 => ?_)
       obtain ⟨o9_11, l9_12, n9_13, w9_14, d9_15, h9e, hci, ho2⟩ := h9
       have h9x : iv9 = pz_u1 (pz_u1 (pz_u1 (pz_u1 (pz_u1 iv 2 o9_11) 134 l9_12) 138 n9_13) 139 w9_14) 140 d9_15 := h9e.trans (by rw [pz_u1_in (r := 2) (q := 140) (by decide)]; rw [pz_u1_in (r := 2) (q := 139) (by decide)]; rw [pz_u1_in (r := 2) (q := 138) (by decide)]; rw [pz_u1_in (r := 2) (q := 134) (by decide)]; rw [pz_u1_top (r := 2)]; rw [pz_u1_in (r := 134) (q := 140) (by decide)]; rw [pz_u1_in (r := 134) (q := 139) (by decide)]; rw [pz_u1_in (r := 134) (q := 138) (by decide)]; rw [pz_u1_top (r := 134)]; rw [pz_u1_in (r := 138) (q := 140) (by decide)]; rw [pz_u1_in (r := 138) (q := 139) (by decide)]; rw [pz_u1_top (r := 138)]; rw [pz_u1_in (r := 139) (q := 140) (by decide)]; rw [pz_u1_top (r := 139)]; rw [pz_u1_top (r := 140)] <;> rfl)
       subst h9x
       replace hci : q_CI k o9_11 n9_13 w9_14 d9_15 (iv 142) (iv 143) (iv 145) (iv 129) (iv 135) := hci
       replace ho2 : o9_11 2 = (iv 2) 2 := ho2
       first | exact ⟨pz_u1 (pz_u1 (pz_u1 (pz_u1 (pz_u1 iv 2 o9_11) 134 l9_12) 138 n9_13) 139 w9_14) 140 d9_15, ⟨o9_11, l9_12, n9_13, w9_14, d9_15, by rfl, by exact hci, by exact ho2⟩, lf_e (by rfl)⟩ | (exfalso; omega))

theorem s_X10_neededPeak_0 {L : Nat} {iv : Nat → Nat → Int} {k : Nat → Int} (hk : q_KR k) (hE : q_cE k (iv 3)) (hB : q_cB k (iv 4) (iv 5) (iv 6) (iv 7) (iv 8) (iv 9)) (hS : q_cS k (iv 10) (iv 11) (iv 12) (iv 13) (iv 14)) (hC : q_cC k (iv 15) (iv 16)) (hA : q_cA k (iv 17) (iv 18) (iv 19) (iv 20)) (hO : q_cO k (iv 22) (iv 23) (iv 24)) (hL : q_cL k (iv 25)) (hP : q_cP k (iv 27)) (hci : q_CI k (iv 2) (iv 138) (iv 139) (iv 140) (iv 142) (iv 143) (iv 145) (iv 129) (iv 135)) (hcase0 : q_con k (fun _ => 0)) (hcase1 : q_pk k (q_D k) ≠ -1) : pz_RE (pz_Sh L) 176 [.inr (.inl 2)] iv (.inl (some (.inl (q_pk k (q_D k))))) (fun iv9 => ∃ (o9 : Nat → Int) (l9 : Nat → Int) (n9 : Nat → Int) (w9 : Nat → Int) (d9 : Nat → Int), iv9 = pz_u1 (pz_u1 (pz_u1 (pz_u1 (pz_u1 iv 2 o9) 134 l9) 138 n9) 139 w9) 140 d9 ∧ (q_CI k o9 n9 w9 d9 (iv 142) (iv 143) (iv 145) (iv 129) (iv 135)) ∧ (o9 2 = (iv 2) 2) ∧ (q_NK k n9 w9 d9)) := by
  intro dv cc ss
  have hk0 := hk.r0
  have hE0 := hE
  have hB0 := hB.1
  have hS0 := hS.1
  have hC0 := hC.1
  have hA0 := hA.1
  refine pz_G_mem (iv2 := pz_u1 (pz_u1 (pz_u1 (pz_u1 (pz_u1 iv 2 (iv 2)) 134 (iv 134)) 138 (iv 138)) 139 (iv 139)) 140 (iv 140)) (by exact (((((pz_u1_self iv 2).symm).trans (pz_u1_self (pz_u1 iv 2 (iv 2)) 134).symm).trans (pz_u1_self (pz_u1 (pz_u1 iv 2 (iv 2)) 134 (iv 134)) 138).symm).trans (pz_u1_self (pz_u1 (pz_u1 (pz_u1 iv 2 (iv 2)) 134 (iv 134)) 138 (iv 138)) 139).symm).trans (pz_u1_self (pz_u1 (pz_u1 (pz_u1 (pz_u1 iv 2 (iv 2)) 134 (iv 134)) 138 (iv 138)) 139 (iv 139)) 140).symm) ?_
  show pz_G 176 0 [some (.inr (.inl 2)), none] [] (pz_Sh L, pz_u1 (pz_u1 (pz_u1 (pz_u1 (pz_u1 iv 2 (iv 2)) 134 (iv 134)) 138 (iv 138)) 139 (iv 139)) 140 (iv 140), dv, cc, ss) (pz_PE (pz_Sh L) (.inl (some (.inl (q_pk k (q_D k))))) (fun iv9 => ∃ (o9 : Nat → Int) (l9 : Nat → Int) (n9 : Nat → Int) (w9 : Nat → Int) (d9 : Nat → Int), iv9 = pz_u1 (pz_u1 (pz_u1 (pz_u1 (pz_u1 iv 2 o9) 134 l9) 138 n9) 139 w9) 140 d9 ∧ (q_CI k o9 n9 w9 d9 (iv 142) (iv 143) (iv 145) (iv 129) (iv 135)) ∧ (o9 2 = (iv 2) 2) ∧ (q_NK k n9 w9 d9)) dv cc ss)
  refine pz_G_of pz_b176_0 ?_
  refine w_loc rfl ?_
  refine w_getR (q := 3) is_2 rf_2_0 ?_
  refine w_getR (q := 17) is_3 rf_3_4 ?_
  refine w_loc rfl ?_
  by_cases h1 : q_con k (fun _ => 0)
  · first
    | (exfalso; first | omega | contradiction)
    | (have hc2 := s_X10_soundNet_y (L := L) (iv := pz_u1 (pz_u1 (pz_u1 (pz_u1 (pz_u1 iv 2 (iv 2)) 134 (iv 134)) 138 (iv 138)) 139 (iv 139)) 140 (iv 140)) (by show q_KR k; exact hk) (by show q_cE k (iv 3); exact hE) (by show q_cB k (iv 4) (iv 5) (iv 6) (iv 7) (iv 8) (iv 9); exact hB) (by show q_cS k (iv 10) (iv 11) (iv 12) (iv 13) (iv 14); exact hS) (by show q_cC k (iv 15) (iv 16); exact hC) (by show q_cL k (iv 25); exact hL) (by show q_CI k (iv 2) (iv 138) (iv 139) (iv 140) (iv 142) (iv 143) (iv 145) (iv 129) (iv 135); exact hci) (by show q_con k (fun _ => 0); exact h1)
       refine w_callE hc2 rfl (pz_cokI is_2 rfl) (fun iv9 h9 => ?_)
       obtain ⟨o9_3, l9_4, n9_5, w9_6, d9_7, h9e, hci, hNK, ho2⟩ := h9
       have h9x : iv9 = pz_u1 (pz_u1 (pz_u1 (pz_u1 (pz_u1 iv 2 o9_3) 134 l9_4) 138 n9_5) 139 w9_6) 140 d9_7 := h9e.trans (by rw [pz_u1_in (r := 2) (q := 140) (by decide)]; rw [pz_u1_in (r := 2) (q := 139) (by decide)]; rw [pz_u1_in (r := 2) (q := 138) (by decide)]; rw [pz_u1_in (r := 2) (q := 134) (by decide)]; rw [pz_u1_top (r := 2)]; rw [pz_u1_in (r := 134) (q := 140) (by decide)]; rw [pz_u1_in (r := 134) (q := 139) (by decide)]; rw [pz_u1_in (r := 134) (q := 138) (by decide)]; rw [pz_u1_top (r := 134)]; rw [pz_u1_in (r := 138) (q := 140) (by decide)]; rw [pz_u1_in (r := 138) (q := 139) (by decide)]; rw [pz_u1_top (r := 138)]; rw [pz_u1_in (r := 139) (q := 140) (by decide)]; rw [pz_u1_top (r := 139)]; rw [pz_u1_top (r := 140)] <;> rfl)
       subst h9x
       replace hci : q_CI k o9_3 n9_5 w9_6 d9_7 (iv 142) (iv 143) (iv 145) (iv 129) (iv 135) := hci
       replace hNK : q_NK k n9_5 w9_6 d9_7 := hNK
       replace ho2 : o9_3 2 = (iv 2) 2 := ho2
       have hc8 : pz_R (pz_Sh L) 11 [.inr (.inl 17), .inr (.inl 138)] (pz_u1 (pz_u1 (pz_u1 (pz_u1 (pz_u1 iv 2 o9_3) 134 l9_4) 138 n9_5) 139 w9_6) 140 d9_7) (.inl (some (.inl (q_pk k (q_D k))))) (pz_u1 (pz_u1 (pz_u1 (pz_u1 (pz_u1 iv 2 o9_3) 134 l9_4) 138 n9_5) 139 w9_6) 140 d9_7) := s_X0_firstPeak (by show q_KR k; exact hk) (by show q_cA k (iv 17) (iv 18) (iv 19) (iv 20); exact hA) (by show q_nD k d9_7 (q_D k); exact q_NK_D hNK (by assumption)) (by show q_dR (q_D k); exact q_dR_D hk (by assumption))
       refine w_call hc8 rfl (pz_cokI is_17 rfl) ?_
       refine w_loc (ls' := [some (.inr (.inl 2)), some (.inl (q_pk k (q_D k)))]) (st' := []) rfl ?_
       refine w_loc rfl ?_
       refine w_pure rfl ?_
       refine w_ine (fun h9 => ?_) (fun h9 => ?_)
       · first
         | (exfalso; first | omega | contradiction)
         | (refine pz_G_of pz_b176_31 ?_
            refine w_loc rfl ?_
            refine w_ret rfl ?_
            first | exact ⟨pz_u1 (pz_u1 (pz_u1 (pz_u1 (pz_u1 iv 2 o9_3) 134 l9_4) 138 n9_5) 139 w9_6) 140 d9_7, ⟨o9_3, l9_4, n9_5, w9_6, d9_7, by rfl, by exact hci, by exact ho2, by exact hNK⟩, lf_i (by first | rfl | omega) (by rfl)⟩ | (exfalso; omega))
       · first
         | (exfalso; first | omega | contradiction)
         | (refine w_thr (by decide) ?_
            first | exact ⟨pz_u1 (pz_u1 (pz_u1 (pz_u1 (pz_u1 iv 2 o9_3) 134 l9_4) 138 n9_5) 139 w9_6) 140 d9_7, ⟨o9_3, l9_4, n9_5, w9_6, d9_7, by rfl, by exact hci, by exact ho2, by exact hNK⟩, lf_e (by rfl)⟩ | (exfalso; omega)))
  · first
    | (exfalso; first | omega | contradiction)
    | (have hc10 := s_X10_soundNet_n (L := L) (iv := pz_u1 (pz_u1 (pz_u1 (pz_u1 (pz_u1 iv 2 (iv 2)) 134 (iv 134)) 138 (iv 138)) 139 (iv 139)) 140 (iv 140)) (by show q_KR k; exact hk) (by show q_cE k (iv 3); exact hE) (by show q_cB k (iv 4) (iv 5) (iv 6) (iv 7) (iv 8) (iv 9); exact hB) (by show q_cS k (iv 10) (iv 11) (iv 12) (iv 13) (iv 14); exact hS) (by show q_cC k (iv 15) (iv 16); exact hC) (by show q_cL k (iv 25); exact hL) (by show q_CI k (iv 2) (iv 138) (iv 139) (iv 140) (iv 142) (iv 143) (iv 145) (iv 129) (iv 135); exact hci) (by show ¬ q_con k (fun _ => 0); exact h1)
       refine w_calleE hc10 rfl (pz_cokI is_2 rfl) rfl (fun iv9 h9 => ?_)
       obtain ⟨o9_11, l9_12, n9_13, w9_14, d9_15, h9e, hci, ho2⟩ := h9
       have h9x : iv9 = pz_u1 (pz_u1 (pz_u1 (pz_u1 (pz_u1 iv 2 o9_11) 134 l9_12) 138 n9_13) 139 w9_14) 140 d9_15 := h9e.trans (by rw [pz_u1_in (r := 2) (q := 140) (by decide)]; rw [pz_u1_in (r := 2) (q := 139) (by decide)]; rw [pz_u1_in (r := 2) (q := 138) (by decide)]; rw [pz_u1_in (r := 2) (q := 134) (by decide)]; rw [pz_u1_top (r := 2)]; rw [pz_u1_in (r := 134) (q := 140) (by decide)]; rw [pz_u1_in (r := 134) (q := 139) (by decide)]; rw [pz_u1_in (r := 134) (q := 138) (by decide)]; rw [pz_u1_top (r := 134)]; rw [pz_u1_in (r := 138) (q := 140) (by decide)]; rw [pz_u1_in (r := 138) (q := 139) (by decide)]; rw [pz_u1_top (r := 138)]; rw [pz_u1_in (r := 139) (q := 140) (by decide)]; rw [pz_u1_top (r := 139)]; rw [pz_u1_top (r := 140)] <;> rfl)
       subst h9x
       replace hci : q_CI k o9_11 n9_13 w9_14 d9_15 (iv 142) (iv 143) (iv 145) (iv 129) (iv 135) := hci
       replace ho2 : o9_11 2 = (iv 2) 2 := ho2
       first | exact ⟨pz_u1 (pz_u1 (pz_u1 (pz_u1 (pz_u1 iv 2 o9_11) 134 l9_12) 138 n9_13) 139 w9_14) 140 d9_15, ⟨o9_11, l9_12, n9_13, w9_14, d9_15, by rfl, by exact hci, by exact ho2, by exact hNK⟩, lf_e (by rfl)⟩ | (exfalso; omega))

theorem s_X10_peak_1 {L : Nat} {iv : Nat → Nat → Int} {k : Nat → Int} (hk : q_KR k) (hE : q_cE k (iv 3)) (hB : q_cB k (iv 4) (iv 5) (iv 6) (iv 7) (iv 8) (iv 9)) (hS : q_cS k (iv 10) (iv 11) (iv 12) (iv 13) (iv 14)) (hC : q_cC k (iv 15) (iv 16)) (hA : q_cA k (iv 17) (iv 18) (iv 19) (iv 20)) (hO : q_cO k (iv 22) (iv 23) (iv 24)) (hL : q_cL k (iv 25)) (hP : q_cP k (iv 27)) (hci : q_CI k (iv 2) (iv 138) (iv 139) (iv 140) (iv 142) (iv 143) (iv 145) (iv 129) (iv 135)) (hcase0 : ¬ q_con k (fun _ => 0)) : pz_RE (pz_Sh L) 159 [.inr (.inl 2)] iv (.inr 0) (fun iv9 => ∃ (o9 : Nat → Int) (l9 : Nat → Int) (n9 : Nat → Int) (w9 : Nat → Int) (d9 : Nat → Int), iv9 = pz_u1 (pz_u1 (pz_u1 (pz_u1 (pz_u1 iv 2 o9) 134 l9) 138 n9) 139 w9) 140 d9 ∧ (q_CI k o9 n9 w9 d9 (iv 142) (iv 143) (iv 145) (iv 129) (iv 135)) ∧ (o9 2 = (iv 2) 2)) := by
  intro dv cc ss
  have hk0 := hk.r0
  have hE0 := hE
  have hB0 := hB.1
  have hS0 := hS.1
  have hC0 := hC.1
  have hA0 := hA.1
  refine pz_G_mem (iv2 := pz_u1 (pz_u1 (pz_u1 (pz_u1 (pz_u1 iv 2 (iv 2)) 134 (iv 134)) 138 (iv 138)) 139 (iv 139)) 140 (iv 140)) (by exact (((((pz_u1_self iv 2).symm).trans (pz_u1_self (pz_u1 iv 2 (iv 2)) 134).symm).trans (pz_u1_self (pz_u1 (pz_u1 iv 2 (iv 2)) 134 (iv 134)) 138).symm).trans (pz_u1_self (pz_u1 (pz_u1 (pz_u1 iv 2 (iv 2)) 134 (iv 134)) 138 (iv 138)) 139).symm).trans (pz_u1_self (pz_u1 (pz_u1 (pz_u1 (pz_u1 iv 2 (iv 2)) 134 (iv 134)) 138 (iv 138)) 139 (iv 139)) 140).symm) ?_
  show pz_G 159 0 [some (.inr (.inl 2))] [] (pz_Sh L, pz_u1 (pz_u1 (pz_u1 (pz_u1 (pz_u1 iv 2 (iv 2)) 134 (iv 134)) 138 (iv 138)) 139 (iv 139)) 140 (iv 140), dv, cc, ss) (pz_PE (pz_Sh L) (.inr 0) (fun iv9 => ∃ (o9 : Nat → Int) (l9 : Nat → Int) (n9 : Nat → Int) (w9 : Nat → Int) (d9 : Nat → Int), iv9 = pz_u1 (pz_u1 (pz_u1 (pz_u1 (pz_u1 iv 2 o9) 134 l9) 138 n9) 139 w9) 140 d9 ∧ (q_CI k o9 n9 w9 d9 (iv 142) (iv 143) (iv 145) (iv 129) (iv 135)) ∧ (o9 2 = (iv 2) 2)) dv cc ss)
  refine pz_G_of pz_b159_0 ?_
  refine w_loc rfl ?_
  have hc1 := s_X10_neededPeak_1 (L := L) (iv := pz_u1 (pz_u1 (pz_u1 (pz_u1 (pz_u1 iv 2 (iv 2)) 134 (iv 134)) 138 (iv 138)) 139 (iv 139)) 140 (iv 140)) (by show q_KR k; exact hk) (by show q_cE k (iv 3); exact hE) (by show q_cB k (iv 4) (iv 5) (iv 6) (iv 7) (iv 8) (iv 9); exact hB) (by show q_cS k (iv 10) (iv 11) (iv 12) (iv 13) (iv 14); exact hS) (by show q_cC k (iv 15) (iv 16); exact hC) (by show q_cA k (iv 17) (iv 18) (iv 19) (iv 20); exact hA) (by show q_cO k (iv 22) (iv 23) (iv 24); exact hO) (by show q_cL k (iv 25); exact hL) (by show q_cP k (iv 27); exact hP) (by show q_CI k (iv 2) (iv 138) (iv 139) (iv 140) (iv 142) (iv 143) (iv 145) (iv 129) (iv 135); exact hci) (by show ¬ q_con k (fun _ => 0); first | assumption | omega)
  refine w_calleE hc1 rfl (pz_cokI is_2 rfl) rfl (fun iv9 h9 => ?_)
  obtain ⟨o9_2, l9_3, n9_4, w9_5, d9_6, h9e, hci, ho2⟩ := h9
  have h9x : iv9 = pz_u1 (pz_u1 (pz_u1 (pz_u1 (pz_u1 iv 2 o9_2) 134 l9_3) 138 n9_4) 139 w9_5) 140 d9_6 := h9e.trans (by rw [pz_u1_in (r := 2) (q := 140) (by decide)]; rw [pz_u1_in (r := 2) (q := 139) (by decide)]; rw [pz_u1_in (r := 2) (q := 138) (by decide)]; rw [pz_u1_in (r := 2) (q := 134) (by decide)]; rw [pz_u1_top (r := 2)]; rw [pz_u1_in (r := 134) (q := 140) (by decide)]; rw [pz_u1_in (r := 134) (q := 139) (by decide)]; rw [pz_u1_in (r := 134) (q := 138) (by decide)]; rw [pz_u1_top (r := 134)]; rw [pz_u1_in (r := 138) (q := 140) (by decide)]; rw [pz_u1_in (r := 138) (q := 139) (by decide)]; rw [pz_u1_top (r := 138)]; rw [pz_u1_in (r := 139) (q := 140) (by decide)]; rw [pz_u1_top (r := 139)]; rw [pz_u1_top (r := 140)] <;> rfl)
  subst h9x
  replace hci : q_CI k o9_2 n9_4 w9_5 d9_6 (iv 142) (iv 143) (iv 145) (iv 129) (iv 135) := hci
  replace ho2 : o9_2 2 = (iv 2) 2 := ho2
  first | exact ⟨pz_u1 (pz_u1 (pz_u1 (pz_u1 (pz_u1 iv 2 o9_2) 134 l9_3) 138 n9_4) 139 w9_5) 140 d9_6, ⟨o9_2, l9_3, n9_4, w9_5, d9_6, by rfl, by exact hci, by exact ho2⟩, lf_e (by rfl)⟩ | (exfalso; omega)

theorem s_X10_peakSet_1 {L : Nat} {iv : Nat → Nat → Int} {k : Nat → Int} (hk : q_KR k) (hE : q_cE k (iv 3)) (hB : q_cB k (iv 4) (iv 5) (iv 6) (iv 7) (iv 8) (iv 9)) (hS : q_cS k (iv 10) (iv 11) (iv 12) (iv 13) (iv 14)) (hC : q_cC k (iv 15) (iv 16)) (hA : q_cA k (iv 17) (iv 18) (iv 19) (iv 20)) (hO : q_cO k (iv 22) (iv 23) (iv 24)) (hL : q_cL k (iv 25)) (hP : q_cP k (iv 27)) (hci : q_CI k (iv 2) (iv 138) (iv 139) (iv 140) (iv 142) (iv 143) (iv 145) (iv 129) (iv 135)) (hcase0 : ¬ q_con k (fun _ => 0)) : pz_RE (pz_Sh L) 160 [.inr (.inl 2)] iv (.inr 0) (fun iv9 => ∃ (o9 : Nat → Int) (l9 : Nat → Int) (n9 : Nat → Int) (w9 : Nat → Int) (d9 : Nat → Int), iv9 = pz_u1 (pz_u1 (pz_u1 (pz_u1 (pz_u1 iv 2 o9) 134 l9) 138 n9) 139 w9) 140 d9 ∧ (q_CI k o9 n9 w9 d9 (iv 142) (iv 143) (iv 145) (iv 129) (iv 135)) ∧ (o9 2 = (iv 2) 2)) := by
  intro dv cc ss
  have hk0 := hk.r0
  have hE0 := hE
  have hB0 := hB.1
  have hS0 := hS.1
  have hC0 := hC.1
  have hA0 := hA.1
  refine pz_G_mem (iv2 := pz_u1 (pz_u1 (pz_u1 (pz_u1 (pz_u1 iv 2 (iv 2)) 134 (iv 134)) 138 (iv 138)) 139 (iv 139)) 140 (iv 140)) (by exact (((((pz_u1_self iv 2).symm).trans (pz_u1_self (pz_u1 iv 2 (iv 2)) 134).symm).trans (pz_u1_self (pz_u1 (pz_u1 iv 2 (iv 2)) 134 (iv 134)) 138).symm).trans (pz_u1_self (pz_u1 (pz_u1 (pz_u1 iv 2 (iv 2)) 134 (iv 134)) 138 (iv 138)) 139).symm).trans (pz_u1_self (pz_u1 (pz_u1 (pz_u1 (pz_u1 iv 2 (iv 2)) 134 (iv 134)) 138 (iv 138)) 139 (iv 139)) 140).symm) ?_
  show pz_G 160 0 [some (.inr (.inl 2))] [] (pz_Sh L, pz_u1 (pz_u1 (pz_u1 (pz_u1 (pz_u1 iv 2 (iv 2)) 134 (iv 134)) 138 (iv 138)) 139 (iv 139)) 140 (iv 140), dv, cc, ss) (pz_PE (pz_Sh L) (.inr 0) (fun iv9 => ∃ (o9 : Nat → Int) (l9 : Nat → Int) (n9 : Nat → Int) (w9 : Nat → Int) (d9 : Nat → Int), iv9 = pz_u1 (pz_u1 (pz_u1 (pz_u1 (pz_u1 iv 2 o9) 134 l9) 138 n9) 139 w9) 140 d9 ∧ (q_CI k o9 n9 w9 d9 (iv 142) (iv 143) (iv 145) (iv 129) (iv 135)) ∧ (o9 2 = (iv 2) 2)) dv cc ss)
  refine pz_G_of pz_b160_0 ?_
  refine w_loc rfl ?_
  refine w_getR (q := 3) is_2 rf_2_0 ?_
  refine w_getR (q := 17) is_3 rf_3_4 ?_
  refine w_loc rfl ?_
  have hc1 := s_X10_neededPeak_1 (L := L) (iv := pz_u1 (pz_u1 (pz_u1 (pz_u1 (pz_u1 iv 2 (iv 2)) 134 (iv 134)) 138 (iv 138)) 139 (iv 139)) 140 (iv 140)) (by show q_KR k; exact hk) (by show q_cE k (iv 3); exact hE) (by show q_cB k (iv 4) (iv 5) (iv 6) (iv 7) (iv 8) (iv 9); exact hB) (by show q_cS k (iv 10) (iv 11) (iv 12) (iv 13) (iv 14); exact hS) (by show q_cC k (iv 15) (iv 16); exact hC) (by show q_cA k (iv 17) (iv 18) (iv 19) (iv 20); exact hA) (by show q_cO k (iv 22) (iv 23) (iv 24); exact hO) (by show q_cL k (iv 25); exact hL) (by show q_cP k (iv 27); exact hP) (by show q_CI k (iv 2) (iv 138) (iv 139) (iv 140) (iv 142) (iv 143) (iv 145) (iv 129) (iv 135); exact hci) (by show ¬ q_con k (fun _ => 0); first | assumption | omega)
  refine w_calleE hc1 rfl (pz_cokI is_2 rfl) rfl (fun iv9 h9 => ?_)
  obtain ⟨o9_2, l9_3, n9_4, w9_5, d9_6, h9e, hci, ho2⟩ := h9
  have h9x : iv9 = pz_u1 (pz_u1 (pz_u1 (pz_u1 (pz_u1 iv 2 o9_2) 134 l9_3) 138 n9_4) 139 w9_5) 140 d9_6 := h9e.trans (by rw [pz_u1_in (r := 2) (q := 140) (by decide)]; rw [pz_u1_in (r := 2) (q := 139) (by decide)]; rw [pz_u1_in (r := 2) (q := 138) (by decide)]; rw [pz_u1_in (r := 2) (q := 134) (by decide)]; rw [pz_u1_top (r := 2)]; rw [pz_u1_in (r := 134) (q := 140) (by decide)]; rw [pz_u1_in (r := 134) (q := 139) (by decide)]; rw [pz_u1_in (r := 134) (q := 138) (by decide)]; rw [pz_u1_top (r := 134)]; rw [pz_u1_in (r := 138) (q := 140) (by decide)]; rw [pz_u1_in (r := 138) (q := 139) (by decide)]; rw [pz_u1_top (r := 138)]; rw [pz_u1_in (r := 139) (q := 140) (by decide)]; rw [pz_u1_top (r := 139)]; rw [pz_u1_top (r := 140)] <;> rfl)
  subst h9x
  replace hci : q_CI k o9_2 n9_4 w9_5 d9_6 (iv 142) (iv 143) (iv 145) (iv 129) (iv 135) := hci
  replace ho2 : o9_2 2 = (iv 2) 2 := ho2
  first | exact ⟨pz_u1 (pz_u1 (pz_u1 (pz_u1 (pz_u1 iv 2 o9_2) 134 l9_3) 138 n9_4) 139 w9_5) 140 d9_6, ⟨o9_2, l9_3, n9_4, w9_5, d9_6, by rfl, by exact hci, by exact ho2⟩, lf_e (by rfl)⟩ | (exfalso; omega)

theorem s_X10_peak_2 {L : Nat} {iv : Nat → Nat → Int} {k : Nat → Int} (hk : q_KR k) (hE : q_cE k (iv 3)) (hB : q_cB k (iv 4) (iv 5) (iv 6) (iv 7) (iv 8) (iv 9)) (hS : q_cS k (iv 10) (iv 11) (iv 12) (iv 13) (iv 14)) (hC : q_cC k (iv 15) (iv 16)) (hA : q_cA k (iv 17) (iv 18) (iv 19) (iv 20)) (hO : q_cO k (iv 22) (iv 23) (iv 24)) (hL : q_cL k (iv 25)) (hP : q_cP k (iv 27)) (hci : q_CI k (iv 2) (iv 138) (iv 139) (iv 140) (iv 142) (iv 143) (iv 145) (iv 129) (iv 135)) (hcase0 : q_con k (fun _ => 0)) (hcase1 : q_pk k (q_D k) = -1) : pz_RE (pz_Sh L) 159 [.inr (.inl 2)] iv (.inr 2) (fun iv9 => ∃ (o9 : Nat → Int) (l9 : Nat → Int) (n9 : Nat → Int) (w9 : Nat → Int) (d9 : Nat → Int), iv9 = pz_u1 (pz_u1 (pz_u1 (pz_u1 (pz_u1 iv 2 o9) 134 l9) 138 n9) 139 w9) 140 d9 ∧ (q_CI k o9 n9 w9 d9 (iv 142) (iv 143) (iv 145) (iv 129) (iv 135)) ∧ (o9 2 = (iv 2) 2)) := by
  intro dv cc ss
  have hk0 := hk.r0
  have hE0 := hE
  have hB0 := hB.1
  have hS0 := hS.1
  have hC0 := hC.1
  have hA0 := hA.1
  refine pz_G_mem (iv2 := pz_u1 (pz_u1 (pz_u1 (pz_u1 (pz_u1 iv 2 (iv 2)) 134 (iv 134)) 138 (iv 138)) 139 (iv 139)) 140 (iv 140)) (by exact (((((pz_u1_self iv 2).symm).trans (pz_u1_self (pz_u1 iv 2 (iv 2)) 134).symm).trans (pz_u1_self (pz_u1 (pz_u1 iv 2 (iv 2)) 134 (iv 134)) 138).symm).trans (pz_u1_self (pz_u1 (pz_u1 (pz_u1 iv 2 (iv 2)) 134 (iv 134)) 138 (iv 138)) 139).symm).trans (pz_u1_self (pz_u1 (pz_u1 (pz_u1 (pz_u1 iv 2 (iv 2)) 134 (iv 134)) 138 (iv 138)) 139 (iv 139)) 140).symm) ?_
  show pz_G 159 0 [some (.inr (.inl 2))] [] (pz_Sh L, pz_u1 (pz_u1 (pz_u1 (pz_u1 (pz_u1 iv 2 (iv 2)) 134 (iv 134)) 138 (iv 138)) 139 (iv 139)) 140 (iv 140), dv, cc, ss) (pz_PE (pz_Sh L) (.inr 2) (fun iv9 => ∃ (o9 : Nat → Int) (l9 : Nat → Int) (n9 : Nat → Int) (w9 : Nat → Int) (d9 : Nat → Int), iv9 = pz_u1 (pz_u1 (pz_u1 (pz_u1 (pz_u1 iv 2 o9) 134 l9) 138 n9) 139 w9) 140 d9 ∧ (q_CI k o9 n9 w9 d9 (iv 142) (iv 143) (iv 145) (iv 129) (iv 135)) ∧ (o9 2 = (iv 2) 2)) dv cc ss)
  refine pz_G_of pz_b159_0 ?_
  refine w_loc rfl ?_
  have hc1 := s_X10_neededPeak_2 (L := L) (iv := pz_u1 (pz_u1 (pz_u1 (pz_u1 (pz_u1 iv 2 (iv 2)) 134 (iv 134)) 138 (iv 138)) 139 (iv 139)) 140 (iv 140)) (by show q_KR k; exact hk) (by show q_cE k (iv 3); exact hE) (by show q_cB k (iv 4) (iv 5) (iv 6) (iv 7) (iv 8) (iv 9); exact hB) (by show q_cS k (iv 10) (iv 11) (iv 12) (iv 13) (iv 14); exact hS) (by show q_cC k (iv 15) (iv 16); exact hC) (by show q_cA k (iv 17) (iv 18) (iv 19) (iv 20); exact hA) (by show q_cO k (iv 22) (iv 23) (iv 24); exact hO) (by show q_cL k (iv 25); exact hL) (by show q_cP k (iv 27); exact hP) (by show q_CI k (iv 2) (iv 138) (iv 139) (iv 140) (iv 142) (iv 143) (iv 145) (iv 129) (iv 135); exact hci) (by show q_con k (fun _ => 0); first | assumption | omega) (by show q_pk k (q_D k) = -1; first | assumption | omega)
  refine w_calleE hc1 rfl (pz_cokI is_2 rfl) rfl (fun iv9 h9 => ?_)
  obtain ⟨o9_2, l9_3, n9_4, w9_5, d9_6, h9e, hci, ho2⟩ := h9
  have h9x : iv9 = pz_u1 (pz_u1 (pz_u1 (pz_u1 (pz_u1 iv 2 o9_2) 134 l9_3) 138 n9_4) 139 w9_5) 140 d9_6 := h9e.trans (by rw [pz_u1_in (r := 2) (q := 140) (by decide)]; rw [pz_u1_in (r := 2) (q := 139) (by decide)]; rw [pz_u1_in (r := 2) (q := 138) (by decide)]; rw [pz_u1_in (r := 2) (q := 134) (by decide)]; rw [pz_u1_top (r := 2)]; rw [pz_u1_in (r := 134) (q := 140) (by decide)]; rw [pz_u1_in (r := 134) (q := 139) (by decide)]; rw [pz_u1_in (r := 134) (q := 138) (by decide)]; rw [pz_u1_top (r := 134)]; rw [pz_u1_in (r := 138) (q := 140) (by decide)]; rw [pz_u1_in (r := 138) (q := 139) (by decide)]; rw [pz_u1_top (r := 138)]; rw [pz_u1_in (r := 139) (q := 140) (by decide)]; rw [pz_u1_top (r := 139)]; rw [pz_u1_top (r := 140)] <;> rfl)
  subst h9x
  replace hci : q_CI k o9_2 n9_4 w9_5 d9_6 (iv 142) (iv 143) (iv 145) (iv 129) (iv 135) := hci
  replace ho2 : o9_2 2 = (iv 2) 2 := ho2
  first | exact ⟨pz_u1 (pz_u1 (pz_u1 (pz_u1 (pz_u1 iv 2 o9_2) 134 l9_3) 138 n9_4) 139 w9_5) 140 d9_6, ⟨o9_2, l9_3, n9_4, w9_5, d9_6, by rfl, by exact hci, by exact ho2⟩, lf_e (by rfl)⟩ | (exfalso; omega)

theorem s_X10_peakSet_2 {L : Nat} {iv : Nat → Nat → Int} {k : Nat → Int} (hk : q_KR k) (hE : q_cE k (iv 3)) (hB : q_cB k (iv 4) (iv 5) (iv 6) (iv 7) (iv 8) (iv 9)) (hS : q_cS k (iv 10) (iv 11) (iv 12) (iv 13) (iv 14)) (hC : q_cC k (iv 15) (iv 16)) (hA : q_cA k (iv 17) (iv 18) (iv 19) (iv 20)) (hO : q_cO k (iv 22) (iv 23) (iv 24)) (hL : q_cL k (iv 25)) (hP : q_cP k (iv 27)) (hci : q_CI k (iv 2) (iv 138) (iv 139) (iv 140) (iv 142) (iv 143) (iv 145) (iv 129) (iv 135)) (hcase0 : q_con k (fun _ => 0)) (hcase1 : q_pk k (q_D k) = -1) : pz_RE (pz_Sh L) 160 [.inr (.inl 2)] iv (.inr 2) (fun iv9 => ∃ (o9 : Nat → Int) (l9 : Nat → Int) (n9 : Nat → Int) (w9 : Nat → Int) (d9 : Nat → Int), iv9 = pz_u1 (pz_u1 (pz_u1 (pz_u1 (pz_u1 iv 2 o9) 134 l9) 138 n9) 139 w9) 140 d9 ∧ (q_CI k o9 n9 w9 d9 (iv 142) (iv 143) (iv 145) (iv 129) (iv 135)) ∧ (o9 2 = (iv 2) 2)) := by
  intro dv cc ss
  have hk0 := hk.r0
  have hE0 := hE
  have hB0 := hB.1
  have hS0 := hS.1
  have hC0 := hC.1
  have hA0 := hA.1
  refine pz_G_mem (iv2 := pz_u1 (pz_u1 (pz_u1 (pz_u1 (pz_u1 iv 2 (iv 2)) 134 (iv 134)) 138 (iv 138)) 139 (iv 139)) 140 (iv 140)) (by exact (((((pz_u1_self iv 2).symm).trans (pz_u1_self (pz_u1 iv 2 (iv 2)) 134).symm).trans (pz_u1_self (pz_u1 (pz_u1 iv 2 (iv 2)) 134 (iv 134)) 138).symm).trans (pz_u1_self (pz_u1 (pz_u1 (pz_u1 iv 2 (iv 2)) 134 (iv 134)) 138 (iv 138)) 139).symm).trans (pz_u1_self (pz_u1 (pz_u1 (pz_u1 (pz_u1 iv 2 (iv 2)) 134 (iv 134)) 138 (iv 138)) 139 (iv 139)) 140).symm) ?_
  show pz_G 160 0 [some (.inr (.inl 2))] [] (pz_Sh L, pz_u1 (pz_u1 (pz_u1 (pz_u1 (pz_u1 iv 2 (iv 2)) 134 (iv 134)) 138 (iv 138)) 139 (iv 139)) 140 (iv 140), dv, cc, ss) (pz_PE (pz_Sh L) (.inr 2) (fun iv9 => ∃ (o9 : Nat → Int) (l9 : Nat → Int) (n9 : Nat → Int) (w9 : Nat → Int) (d9 : Nat → Int), iv9 = pz_u1 (pz_u1 (pz_u1 (pz_u1 (pz_u1 iv 2 o9) 134 l9) 138 n9) 139 w9) 140 d9 ∧ (q_CI k o9 n9 w9 d9 (iv 142) (iv 143) (iv 145) (iv 129) (iv 135)) ∧ (o9 2 = (iv 2) 2)) dv cc ss)
  refine pz_G_of pz_b160_0 ?_
  refine w_loc rfl ?_
  refine w_getR (q := 3) is_2 rf_2_0 ?_
  refine w_getR (q := 17) is_3 rf_3_4 ?_
  refine w_loc rfl ?_
  have hc1 := s_X10_neededPeak_2 (L := L) (iv := pz_u1 (pz_u1 (pz_u1 (pz_u1 (pz_u1 iv 2 (iv 2)) 134 (iv 134)) 138 (iv 138)) 139 (iv 139)) 140 (iv 140)) (by show q_KR k; exact hk) (by show q_cE k (iv 3); exact hE) (by show q_cB k (iv 4) (iv 5) (iv 6) (iv 7) (iv 8) (iv 9); exact hB) (by show q_cS k (iv 10) (iv 11) (iv 12) (iv 13) (iv 14); exact hS) (by show q_cC k (iv 15) (iv 16); exact hC) (by show q_cA k (iv 17) (iv 18) (iv 19) (iv 20); exact hA) (by show q_cO k (iv 22) (iv 23) (iv 24); exact hO) (by show q_cL k (iv 25); exact hL) (by show q_cP k (iv 27); exact hP) (by show q_CI k (iv 2) (iv 138) (iv 139) (iv 140) (iv 142) (iv 143) (iv 145) (iv 129) (iv 135); exact hci) (by show q_con k (fun _ => 0); first | assumption | omega) (by show q_pk k (q_D k) = -1; first | assumption | omega)
  refine w_calleE hc1 rfl (pz_cokI is_2 rfl) rfl (fun iv9 h9 => ?_)
  obtain ⟨o9_2, l9_3, n9_4, w9_5, d9_6, h9e, hci, ho2⟩ := h9
  have h9x : iv9 = pz_u1 (pz_u1 (pz_u1 (pz_u1 (pz_u1 iv 2 o9_2) 134 l9_3) 138 n9_4) 139 w9_5) 140 d9_6 := h9e.trans (by rw [pz_u1_in (r := 2) (q := 140) (by decide)]; rw [pz_u1_in (r := 2) (q := 139) (by decide)]; rw [pz_u1_in (r := 2) (q := 138) (by decide)]; rw [pz_u1_in (r := 2) (q := 134) (by decide)]; rw [pz_u1_top (r := 2)]; rw [pz_u1_in (r := 134) (q := 140) (by decide)]; rw [pz_u1_in (r := 134) (q := 139) (by decide)]; rw [pz_u1_in (r := 134) (q := 138) (by decide)]; rw [pz_u1_top (r := 134)]; rw [pz_u1_in (r := 138) (q := 140) (by decide)]; rw [pz_u1_in (r := 138) (q := 139) (by decide)]; rw [pz_u1_top (r := 138)]; rw [pz_u1_in (r := 139) (q := 140) (by decide)]; rw [pz_u1_top (r := 139)]; rw [pz_u1_top (r := 140)] <;> rfl)
  subst h9x
  replace hci : q_CI k o9_2 n9_4 w9_5 d9_6 (iv 142) (iv 143) (iv 145) (iv 129) (iv 135) := hci
  replace ho2 : o9_2 2 = (iv 2) 2 := ho2
  first | exact ⟨pz_u1 (pz_u1 (pz_u1 (pz_u1 (pz_u1 iv 2 o9_2) 134 l9_3) 138 n9_4) 139 w9_5) 140 d9_6, ⟨o9_2, l9_3, n9_4, w9_5, d9_6, by rfl, by exact hci, by exact ho2⟩, lf_e (by rfl)⟩ | (exfalso; omega)

theorem s_X10_peak_0 {L : Nat} {iv : Nat → Nat → Int} {k : Nat → Int} (hk : q_KR k) (hE : q_cE k (iv 3)) (hB : q_cB k (iv 4) (iv 5) (iv 6) (iv 7) (iv 8) (iv 9)) (hS : q_cS k (iv 10) (iv 11) (iv 12) (iv 13) (iv 14)) (hC : q_cC k (iv 15) (iv 16)) (hA : q_cA k (iv 17) (iv 18) (iv 19) (iv 20)) (hO : q_cO k (iv 22) (iv 23) (iv 24)) (hL : q_cL k (iv 25)) (hP : q_cP k (iv 27)) (hci : q_CI k (iv 2) (iv 138) (iv 139) (iv 140) (iv 142) (iv 143) (iv 145) (iv 129) (iv 135)) (hcase0 : q_con k (fun _ => 0)) (hcase1 : q_pk k (q_D k) ≠ -1) : pz_RE (pz_Sh L) 159 [.inr (.inl 2)] iv (.inl (some (.inl (q_pk k (q_D k))))) (fun iv9 => ∃ (o9 : Nat → Int) (l9 : Nat → Int) (n9 : Nat → Int) (w9 : Nat → Int) (d9 : Nat → Int), iv9 = pz_u1 (pz_u1 (pz_u1 (pz_u1 (pz_u1 iv 2 o9) 134 l9) 138 n9) 139 w9) 140 d9 ∧ (q_CI k o9 n9 w9 d9 (iv 142) (iv 143) (iv 145) (iv 129) (iv 135)) ∧ (o9 2 = (iv 2) 2)) := by
  intro dv cc ss
  have hk0 := hk.r0
  have hE0 := hE
  have hB0 := hB.1
  have hS0 := hS.1
  have hC0 := hC.1
  have hA0 := hA.1
  refine pz_G_mem (iv2 := pz_u1 (pz_u1 (pz_u1 (pz_u1 (pz_u1 iv 2 (iv 2)) 134 (iv 134)) 138 (iv 138)) 139 (iv 139)) 140 (iv 140)) (by exact (((((pz_u1_self iv 2).symm).trans (pz_u1_self (pz_u1 iv 2 (iv 2)) 134).symm).trans (pz_u1_self (pz_u1 (pz_u1 iv 2 (iv 2)) 134 (iv 134)) 138).symm).trans (pz_u1_self (pz_u1 (pz_u1 (pz_u1 iv 2 (iv 2)) 134 (iv 134)) 138 (iv 138)) 139).symm).trans (pz_u1_self (pz_u1 (pz_u1 (pz_u1 (pz_u1 iv 2 (iv 2)) 134 (iv 134)) 138 (iv 138)) 139 (iv 139)) 140).symm) ?_
  show pz_G 159 0 [some (.inr (.inl 2))] [] (pz_Sh L, pz_u1 (pz_u1 (pz_u1 (pz_u1 (pz_u1 iv 2 (iv 2)) 134 (iv 134)) 138 (iv 138)) 139 (iv 139)) 140 (iv 140), dv, cc, ss) (pz_PE (pz_Sh L) (.inl (some (.inl (q_pk k (q_D k))))) (fun iv9 => ∃ (o9 : Nat → Int) (l9 : Nat → Int) (n9 : Nat → Int) (w9 : Nat → Int) (d9 : Nat → Int), iv9 = pz_u1 (pz_u1 (pz_u1 (pz_u1 (pz_u1 iv 2 o9) 134 l9) 138 n9) 139 w9) 140 d9 ∧ (q_CI k o9 n9 w9 d9 (iv 142) (iv 143) (iv 145) (iv 129) (iv 135)) ∧ (o9 2 = (iv 2) 2)) dv cc ss)
  refine pz_G_of pz_b159_0 ?_
  refine w_loc rfl ?_
  have hc1 := s_X10_neededPeak_0 (L := L) (iv := pz_u1 (pz_u1 (pz_u1 (pz_u1 (pz_u1 iv 2 (iv 2)) 134 (iv 134)) 138 (iv 138)) 139 (iv 139)) 140 (iv 140)) (by show q_KR k; exact hk) (by show q_cE k (iv 3); exact hE) (by show q_cB k (iv 4) (iv 5) (iv 6) (iv 7) (iv 8) (iv 9); exact hB) (by show q_cS k (iv 10) (iv 11) (iv 12) (iv 13) (iv 14); exact hS) (by show q_cC k (iv 15) (iv 16); exact hC) (by show q_cA k (iv 17) (iv 18) (iv 19) (iv 20); exact hA) (by show q_cO k (iv 22) (iv 23) (iv 24); exact hO) (by show q_cL k (iv 25); exact hL) (by show q_cP k (iv 27); exact hP) (by show q_CI k (iv 2) (iv 138) (iv 139) (iv 140) (iv 142) (iv 143) (iv 145) (iv 129) (iv 135); exact hci) (by show q_con k (fun _ => 0); first | assumption | omega) (by show q_pk k (q_D k) ≠ -1; first | assumption | omega)
  refine w_callE hc1 rfl (pz_cokI is_2 rfl) (fun iv9 h9 => ?_)
  obtain ⟨o9_2, l9_3, n9_4, w9_5, d9_6, h9e, hci, ho2, hNK⟩ := h9
  have h9x : iv9 = pz_u1 (pz_u1 (pz_u1 (pz_u1 (pz_u1 iv 2 o9_2) 134 l9_3) 138 n9_4) 139 w9_5) 140 d9_6 := h9e.trans (by rw [pz_u1_in (r := 2) (q := 140) (by decide)]; rw [pz_u1_in (r := 2) (q := 139) (by decide)]; rw [pz_u1_in (r := 2) (q := 138) (by decide)]; rw [pz_u1_in (r := 2) (q := 134) (by decide)]; rw [pz_u1_top (r := 2)]; rw [pz_u1_in (r := 134) (q := 140) (by decide)]; rw [pz_u1_in (r := 134) (q := 139) (by decide)]; rw [pz_u1_in (r := 134) (q := 138) (by decide)]; rw [pz_u1_top (r := 134)]; rw [pz_u1_in (r := 138) (q := 140) (by decide)]; rw [pz_u1_in (r := 138) (q := 139) (by decide)]; rw [pz_u1_top (r := 138)]; rw [pz_u1_in (r := 139) (q := 140) (by decide)]; rw [pz_u1_top (r := 139)]; rw [pz_u1_top (r := 140)] <;> rfl)
  subst h9x
  replace hci : q_CI k o9_2 n9_4 w9_5 d9_6 (iv 142) (iv 143) (iv 145) (iv 129) (iv 135) := hci
  replace ho2 : o9_2 2 = (iv 2) 2 := ho2
  replace hNK : q_NK k n9_4 w9_5 d9_6 := hNK
  refine w_ret rfl ?_
  first | exact ⟨pz_u1 (pz_u1 (pz_u1 (pz_u1 (pz_u1 iv 2 o9_2) 134 l9_3) 138 n9_4) 139 w9_5) 140 d9_6, ⟨o9_2, l9_3, n9_4, w9_5, d9_6, by rfl, by exact hci, by exact ho2⟩, lf_i (by first | rfl | omega) (by rfl)⟩ | (exfalso; omega)

theorem s_X10_peakSet_0 {L : Nat} {iv : Nat → Nat → Int} {k : Nat → Int} (hk : q_KR k) (hE : q_cE k (iv 3)) (hB : q_cB k (iv 4) (iv 5) (iv 6) (iv 7) (iv 8) (iv 9)) (hS : q_cS k (iv 10) (iv 11) (iv 12) (iv 13) (iv 14)) (hC : q_cC k (iv 15) (iv 16)) (hA : q_cA k (iv 17) (iv 18) (iv 19) (iv 20)) (hO : q_cO k (iv 22) (iv 23) (iv 24)) (hL : q_cL k (iv 25)) (hP : q_cP k (iv 27)) (hci : q_CI k (iv 2) (iv 138) (iv 139) (iv 140) (iv 142) (iv 143) (iv 145) (iv 129) (iv 135)) (hcase0 : q_con k (fun _ => 0)) (hcase1 : q_pk k (q_D k) ≠ -1) : pz_RE (pz_Sh L) 160 [.inr (.inl 2)] iv (.inl (some (.inl (q_st k (q_D k) (q_pk k (q_D k)) (k 3))))) (fun iv9 => ∃ (o9 : Nat → Int) (l9 : Nat → Int) (n9 : Nat → Int) (w9 : Nat → Int) (d9 : Nat → Int), iv9 = pz_u1 (pz_u1 (pz_u1 (pz_u1 (pz_u1 iv 2 o9) 134 l9) 138 n9) 139 w9) 140 d9 ∧ (q_CI k o9 n9 w9 d9 (iv 142) (iv 143) (iv 145) (iv 129) (iv 135)) ∧ (o9 2 = (iv 2) 2)) := by
  intro dv cc ss
  have hk0 := hk.r0
  have hE0 := hE
  have hB0 := hB.1
  have hS0 := hS.1
  have hC0 := hC.1
  have hA0 := hA.1
  refine pz_G_mem (iv2 := pz_u1 (pz_u1 (pz_u1 (pz_u1 (pz_u1 iv 2 (iv 2)) 134 (iv 134)) 138 (iv 138)) 139 (iv 139)) 140 (iv 140)) (by exact (((((pz_u1_self iv 2).symm).trans (pz_u1_self (pz_u1 iv 2 (iv 2)) 134).symm).trans (pz_u1_self (pz_u1 (pz_u1 iv 2 (iv 2)) 134 (iv 134)) 138).symm).trans (pz_u1_self (pz_u1 (pz_u1 (pz_u1 iv 2 (iv 2)) 134 (iv 134)) 138 (iv 138)) 139).symm).trans (pz_u1_self (pz_u1 (pz_u1 (pz_u1 (pz_u1 iv 2 (iv 2)) 134 (iv 134)) 138 (iv 138)) 139 (iv 139)) 140).symm) ?_
  show pz_G 160 0 [some (.inr (.inl 2))] [] (pz_Sh L, pz_u1 (pz_u1 (pz_u1 (pz_u1 (pz_u1 iv 2 (iv 2)) 134 (iv 134)) 138 (iv 138)) 139 (iv 139)) 140 (iv 140), dv, cc, ss) (pz_PE (pz_Sh L) (.inl (some (.inl (q_st k (q_D k) (q_pk k (q_D k)) (k 3))))) (fun iv9 => ∃ (o9 : Nat → Int) (l9 : Nat → Int) (n9 : Nat → Int) (w9 : Nat → Int) (d9 : Nat → Int), iv9 = pz_u1 (pz_u1 (pz_u1 (pz_u1 (pz_u1 iv 2 o9) 134 l9) 138 n9) 139 w9) 140 d9 ∧ (q_CI k o9 n9 w9 d9 (iv 142) (iv 143) (iv 145) (iv 129) (iv 135)) ∧ (o9 2 = (iv 2) 2)) dv cc ss)
  refine pz_G_of pz_b160_0 ?_
  refine w_loc rfl ?_
  refine w_getR (q := 3) is_2 rf_2_0 ?_
  refine w_getR (q := 17) is_3 rf_3_4 ?_
  refine w_loc rfl ?_
  have hc1 := s_X10_neededPeak_0 (L := L) (iv := pz_u1 (pz_u1 (pz_u1 (pz_u1 (pz_u1 iv 2 (iv 2)) 134 (iv 134)) 138 (iv 138)) 139 (iv 139)) 140 (iv 140)) (by show q_KR k; exact hk) (by show q_cE k (iv 3); exact hE) (by show q_cB k (iv 4) (iv 5) (iv 6) (iv 7) (iv 8) (iv 9); exact hB) (by show q_cS k (iv 10) (iv 11) (iv 12) (iv 13) (iv 14); exact hS) (by show q_cC k (iv 15) (iv 16); exact hC) (by show q_cA k (iv 17) (iv 18) (iv 19) (iv 20); exact hA) (by show q_cO k (iv 22) (iv 23) (iv 24); exact hO) (by show q_cL k (iv 25); exact hL) (by show q_cP k (iv 27); exact hP) (by show q_CI k (iv 2) (iv 138) (iv 139) (iv 140) (iv 142) (iv 143) (iv 145) (iv 129) (iv 135); exact hci) (by show q_con k (fun _ => 0); first | assumption | omega) (by show q_pk k (q_D k) ≠ -1; first | assumption | omega)
  refine w_callE hc1 rfl (pz_cokI is_2 rfl) (fun iv9 h9 => ?_)
  obtain ⟨o9_2, l9_3, n9_4, w9_5, d9_6, h9e, hci, ho2, hNK⟩ := h9
  have h9x : iv9 = pz_u1 (pz_u1 (pz_u1 (pz_u1 (pz_u1 iv 2 o9_2) 134 l9_3) 138 n9_4) 139 w9_5) 140 d9_6 := h9e.trans (by rw [pz_u1_in (r := 2) (q := 140) (by decide)]; rw [pz_u1_in (r := 2) (q := 139) (by decide)]; rw [pz_u1_in (r := 2) (q := 138) (by decide)]; rw [pz_u1_in (r := 2) (q := 134) (by decide)]; rw [pz_u1_top (r := 2)]; rw [pz_u1_in (r := 134) (q := 140) (by decide)]; rw [pz_u1_in (r := 134) (q := 139) (by decide)]; rw [pz_u1_in (r := 134) (q := 138) (by decide)]; rw [pz_u1_top (r := 134)]; rw [pz_u1_in (r := 138) (q := 140) (by decide)]; rw [pz_u1_in (r := 138) (q := 139) (by decide)]; rw [pz_u1_top (r := 138)]; rw [pz_u1_in (r := 139) (q := 140) (by decide)]; rw [pz_u1_top (r := 139)]; rw [pz_u1_top (r := 140)] <;> rfl)
  subst h9x
  replace hci : q_CI k o9_2 n9_4 w9_5 d9_6 (iv 142) (iv 143) (iv 145) (iv 129) (iv 135) := hci
  replace ho2 : o9_2 2 = (iv 2) 2 := ho2
  replace hNK : q_NK k n9_4 w9_5 d9_6 := hNK
  refine w_loc rfl ?_
  refine w_getR (q := 138) is_2 rf_2_4 ?_
  have hc7 : pz_R (pz_Sh L) 10 [.inr (.inl 17), .inl (q_pk k (q_D k)), .inr (.inl 138)] (pz_u1 (pz_u1 (pz_u1 (pz_u1 (pz_u1 iv 2 o9_2) 134 l9_3) 138 n9_4) 139 w9_5) 140 d9_6) (.inl (some (.inl (q_st k (q_D k) (q_pk k (q_D k)) (k 3))))) (pz_u1 (pz_u1 (pz_u1 (pz_u1 (pz_u1 iv 2 o9_2) 134 l9_3) 138 n9_4) 139 w9_5) 140 d9_6) := s_X0_setAt (q_pk k (q_D k)) (by show q_KR k; exact hk) (by show q_cA k (iv 17) (iv 18) (iv 19) (iv 20); exact hA) (by show q_nD k d9_6 (q_D k); exact q_NK_D hNK (by assumption)) (by show q_dR (q_D k); exact q_dR_D hk (by assumption))
  refine w_call hc7 rfl (pz_cokI is_17 rfl) ?_
  refine w_ret rfl ?_
  first | exact ⟨pz_u1 (pz_u1 (pz_u1 (pz_u1 (pz_u1 iv 2 o9_2) 134 l9_3) 138 n9_4) 139 w9_5) 140 d9_6, ⟨o9_2, l9_3, n9_4, w9_5, d9_6, by rfl, by exact hci, by exact ho2⟩, lf_i (by first | rfl | omega) (by rfl)⟩ | (exfalso; omega)
