
theorem s_X10_heldShare_1 {L : Nat} {iv : Nat → Nat → Int} {k : Nat → Int} (hk : q_KR k) (hE : q_cE k (iv 3)) (hB : q_cB k (iv 4) (iv 5) (iv 6) (iv 7) (iv 8) (iv 9)) (hS : q_cS k (iv 10) (iv 11) (iv 12) (iv 13) (iv 14)) (hC : q_cC k (iv 15) (iv 16)) (hA : q_cA k (iv 17) (iv 18) (iv 19) (iv 20)) (hO : q_cO k (iv 22) (iv 23) (iv 24)) (hL : q_cL k (iv 25)) (hP : q_cP k (iv 27)) (hcase0 : k 1 = 0) : pz_R (pz_Sh L) 168 [.inr (.inl 2)] iv (.inr 5) iv := by
  intro dv cc ss
  have hk0 := hk.r0
  have hE0 := hE
  have hB0 := hB.1
  have hS0 := hS.1
  have hC0 := hC.1
  have hA0 := hA.1
  show pz_G 168 0 [some (.inr (.inl 2)), none] [] (pz_Sh L, iv, dv, cc, ss) (pz_P (pz_Sh L) (.inr 5) iv dv cc ss)
  refine pz_G_of pz_b168_0 ?_
  refine w_loc rfl ?_
  refine w_getR (q := 3) is_2 rf_2_0 ?_
  refine w_getR (q := 4) is_3 rf_3_1 ?_
  refine w_getI (v := (iv 4) 0) is_4 (by decide) rfl ?_
  refine w_loc (ls' := [some (.inr (.inl 2)), some (.inl ((iv 4) 0))]) (st' := []) rfl ?_
  refine w_loc rfl ?_
  refine w_zne (fun h1 => ?_) (fun h1 => ?_)
  · first
    | (exfalso; first | omega | contradiction)
    | (refine pz_G_of pz_b168_26 ?_
       refine w_loc rfl ?_
       refine w_getR (q := 3) is_2 rf_2_0 ?_
       have hc2 : pz_R (pz_Sh L) 72 [.inr (.inl 3)] (iv) (.inl (some (.inl (q_held k)))) (iv) := s_X6_countHolding (by exact hk) (by exact hB) (by exact hL)
       refine w_call hc2 rfl (pz_cokI is_3 rfl) ?_
       refine w_pure rfl ?_
       refine w_loc rfl ?_
       refine w_pure rfl ?_
       refine w_fdiv (by omega) ?_
       refine w_ret rfl ?_
       first | exact lf_f (by rw [hB.1]) (by rfl) | (exfalso; omega))
  · first
    | (exfalso; first | omega | contradiction)
    | (refine w_thr (by decide) ?_
       first | exact lf_e (by rfl) | (exfalso; omega))

theorem s_X10_heldShare_0 {L : Nat} {iv : Nat → Nat → Int} {k : Nat → Int} (hk : q_KR k) (hE : q_cE k (iv 3)) (hB : q_cB k (iv 4) (iv 5) (iv 6) (iv 7) (iv 8) (iv 9)) (hS : q_cS k (iv 10) (iv 11) (iv 12) (iv 13) (iv 14)) (hC : q_cC k (iv 15) (iv 16)) (hA : q_cA k (iv 17) (iv 18) (iv 19) (iv 20)) (hO : q_cO k (iv 22) (iv 23) (iv 24)) (hL : q_cL k (iv 25)) (hP : q_cP k (iv 27)) (hcase0 : k 1 ≠ 0) : pz_R (pz_Sh L) 168 [.inr (.inl 2)] iv (.inl (some (.inr (.inr (.inr (.inl (t_sh (q_held k) (k 1)))))))) iv := by
  intro dv cc ss
  have hk0 := hk.r0
  have hE0 := hE
  have hB0 := hB.1
  have hS0 := hS.1
  have hC0 := hC.1
  have hA0 := hA.1
  show pz_G 168 0 [some (.inr (.inl 2)), none] [] (pz_Sh L, iv, dv, cc, ss) (pz_P (pz_Sh L) (.inl (some (.inr (.inr (.inr (.inl (t_sh (q_held k) (k 1)))))))) iv dv cc ss)
  refine pz_G_of pz_b168_0 ?_
  refine w_loc rfl ?_
  refine w_getR (q := 3) is_2 rf_2_0 ?_
  refine w_getR (q := 4) is_3 rf_3_1 ?_
  refine w_getI (v := (iv 4) 0) is_4 (by decide) rfl ?_
  refine w_loc (ls' := [some (.inr (.inl 2)), some (.inl ((iv 4) 0))]) (st' := []) rfl ?_
  refine w_loc rfl ?_
  refine w_zne (fun h1 => ?_) (fun h1 => ?_)
  · first
    | (exfalso; first | omega | contradiction)
    | (refine pz_G_of pz_b168_26 ?_
       refine w_loc rfl ?_
       refine w_getR (q := 3) is_2 rf_2_0 ?_
       have hc2 : pz_R (pz_Sh L) 72 [.inr (.inl 3)] (iv) (.inl (some (.inl (q_held k)))) (iv) := s_X6_countHolding (by exact hk) (by exact hB) (by exact hL)
       refine w_call hc2 rfl (pz_cokI is_3 rfl) ?_
       refine w_pure rfl ?_
       refine w_loc rfl ?_
       refine w_pure rfl ?_
       refine w_fdiv (by omega) ?_
       refine w_ret rfl ?_
       first | exact lf_f (by rw [hB.1]) (by rfl) | (exfalso; omega))
  · first
    | (exfalso; first | omega | contradiction)
    | (refine w_thr (by decide) ?_
       first | exact lf_e (by rfl) | (exfalso; omega))

theorem s_X10_meanSlack_1 {L : Nat} {iv : Nat → Nat → Int} {k : Nat → Int} (hk : q_KR k) (hE : q_cE k (iv 3)) (hB : q_cB k (iv 4) (iv 5) (iv 6) (iv 7) (iv 8) (iv 9)) (hS : q_cS k (iv 10) (iv 11) (iv 12) (iv 13) (iv 14)) (hC : q_cC k (iv 15) (iv 16)) (hA : q_cA k (iv 17) (iv 18) (iv 19) (iv 20)) (hO : q_cO k (iv 22) (iv 23) (iv 24)) (hL : q_cL k (iv 25)) (hP : q_cP k (iv 27)) (hci : q_CI k (iv 2) (iv 138) (iv 139) (iv 140) (iv 142) (iv 143) (iv 145) (iv 129) (iv 135)) (hcase0 : ¬ q_con k (fun _ => 0)) : pz_RE (pz_Sh L) 169 [.inr (.inl 2)] iv (.inr 0) (fun iv9 => ∃ (o9 : Nat → Int) (l9 : Nat → Int) (n9 : Nat → Int) (w9 : Nat → Int) (d9 : Nat → Int), iv9 = pz_u1 (pz_u1 (pz_u1 (pz_u1 (pz_u1 iv 2 o9) 134 l9) 138 n9) 139 w9) 140 d9 ∧ (q_CI k o9 n9 w9 d9 (iv 142) (iv 143) (iv 145) (iv 129) (iv 135)) ∧ (o9 2 = (iv 2) 2)) := by
  intro dv cc ss
  have hk0 := hk.r0
  have hE0 := hE
  have hB0 := hB.1
  have hS0 := hS.1
  have hC0 := hC.1
  have hA0 := hA.1
  refine pz_G_mem (iv2 := pz_u1 (pz_u1 (pz_u1 (pz_u1 (pz_u1 iv 2 (iv 2)) 134 (iv 134)) 138 (iv 138)) 139 (iv 139)) 140 (iv 140)) (by exact (((((pz_u1_self iv 2).symm).trans (pz_u1_self (pz_u1 iv 2 (iv 2)) 134).symm).trans (pz_u1_self (pz_u1 (pz_u1 iv 2 (iv 2)) 134 (iv 134)) 138).symm).trans (pz_u1_self (pz_u1 (pz_u1 (pz_u1 iv 2 (iv 2)) 134 (iv 134)) 138 (iv 138)) 139).symm).trans (pz_u1_self (pz_u1 (pz_u1 (pz_u1 (pz_u1 iv 2 (iv 2)) 134 (iv 134)) 138 (iv 138)) 139 (iv 139)) 140).symm) ?_
  show pz_G 169 0 [some (.inr (.inl 2)), none, none, none, none, none] [] (pz_Sh L, pz_u1 (pz_u1 (pz_u1 (pz_u1 (pz_u1 iv 2 (iv 2)) 134 (iv 134)) 138 (iv 138)) 139 (iv 139)) 140 (iv 140), dv, cc, ss) (pz_PE (pz_Sh L) (.inr 0) (fun iv9 => ∃ (o9 : Nat → Int) (l9 : Nat → Int) (n9 : Nat → Int) (w9 : Nat → Int) (d9 : Nat → Int), iv9 = pz_u1 (pz_u1 (pz_u1 (pz_u1 (pz_u1 iv 2 o9) 134 l9) 138 n9) 139 w9) 140 d9 ∧ (q_CI k o9 n9 w9 d9 (iv 142) (iv 143) (iv 145) (iv 129) (iv 135)) ∧ (o9 2 = (iv 2) 2)) dv cc ss)
  refine pz_G_of pz_b169_0 ?_
  refine w_loc rfl ?_
  by_cases h1 : q_con k (fun _ => 0)
  · first
    | (exfalso; first | omega | contradiction)
    | (have hc2 : pz_RE (pz_Sh L) 180 [.inr (.inl 2)] (pz_u1 (pz_u1 (pz_u1 (pz_u1 (pz_u1 iv 2 (iv 2)) 134 (iv 134)) 138 (iv 138)) 139 (iv 139)) 140 (iv 140)) (.inl (some (.inr (.inl 138)))) _ := s_X10_soundNet_y (L := L) (iv := pz_u1 (pz_u1 (pz_u1 (pz_u1 (pz_u1 iv 2 (iv 2)) 134 (iv 134)) 138 (iv 138)) 139 (iv 139)) 140 (iv 140)) (by show q_KR k; exact hk) (by show q_cE k (iv 3); exact hE) (by show q_cB k (iv 4) (iv 5) (iv 6) (iv 7) (iv 8) (iv 9); exact hB) (by show q_cS k (iv 10) (iv 11) (iv 12) (iv 13) (iv 14); exact hS) (by show q_cC k (iv 15) (iv 16); exact hC) (by show q_cL k (iv 25); exact hL) (by show q_CI k (iv 2) (iv 138) (iv 139) (iv 140) (iv 142) (iv 143) (iv 145) (iv 129) (iv 135); exact hci) (by show q_con k (fun _ => 0); exact h1)
       refine w_callE hc2 rfl (pz_cokI is_2 rfl) (fun iv9 h9 => ?_)
       obtain ⟨o9_3, l9_4, n9_5, w9_6, d9_7, h9e, hci, hNK, ho2⟩ := h9
       have h9x : iv9 = pz_u1 (pz_u1 (pz_u1 (pz_u1 (pz_u1 iv 2 o9_3) 134 l9_4) 138 n9_5) 139 w9_6) 140 d9_7 := h9e.trans (by rw [pz_u1_in (r := 2) (q := 140) (by decide)]; rw [pz_u1_in (r := 2) (q := 139) (by decide)]; rw [pz_u1_in (r := 2) (q := 138) (by decide)]; rw [pz_u1_in (r := 2) (q := 134) (by decide)]; rw [pz_u1_top (r := 2)]; rw [pz_u1_in (r := 134) (q := 140) (by decide)]; rw [pz_u1_in (r := 134) (q := 139) (by decide)]; rw [pz_u1_in (r := 134) (q := 138) (by decide)]; rw [pz_u1_top (r := 134)]; rw [pz_u1_in (r := 138) (q := 140) (by decide)]; rw [pz_u1_in (r := 138) (q := 139) (by decide)]; rw [pz_u1_top (r := 138)]; rw [pz_u1_in (r := 139) (q := 140) (by decide)]; rw [pz_u1_top (r := 139)]; rw [pz_u1_top (r := 140)] <;> rfl)
       subst h9x
       clear h9e hc2
       replace hci : q_CI k o9_3 n9_5 w9_6 d9_7 (iv 142) (iv 143) (iv 145) (iv 129) (iv 135) := hci
       replace hNK : q_NK k n9_5 w9_6 d9_7 := hNK
       replace ho2 : o9_3 2 = (iv 2) 2 := ho2
       refine w_loc (ls' := [some (.inr (.inl 2)), some (.inr (.inl 138)), none, none, none, none]) (st' := []) rfl ?_
       refine w_pure rfl ?_
       refine w_loc (ls' := [some (.inr (.inl 2)), some (.inr (.inl 138)), some (.inl 0), none, none, none]) (st' := []) rfl ?_
       refine w_pure rfl ?_
       refine w_loc (ls' := [some (.inr (.inl 2)), some (.inr (.inl 138)), some (.inl 0), some (.inl 0), none, none]) (st' := []) rfl ?_
       refine w_pure rfl ?_
       refine w_loc (ls' := [some (.inr (.inl 2)), some (.inr (.inl 138)), some (.inl 0), some (.inl 0), some (.inl 1), none]) (st' := []) rfl ?_
       refine w_nil ?_
       exfalso; first | omega | contradiction)
  · first
    | (exfalso; first | omega | contradiction)
    | (have hc8 : pz_RE (pz_Sh L) 180 [.inr (.inl 2)] (pz_u1 (pz_u1 (pz_u1 (pz_u1 (pz_u1 iv 2 (iv 2)) 134 (iv 134)) 138 (iv 138)) 139 (iv 139)) 140 (iv 140)) (.inr 0) _ := s_X10_soundNet_n (L := L) (iv := pz_u1 (pz_u1 (pz_u1 (pz_u1 (pz_u1 iv 2 (iv 2)) 134 (iv 134)) 138 (iv 138)) 139 (iv 139)) 140 (iv 140)) (by show q_KR k; exact hk) (by show q_cE k (iv 3); exact hE) (by show q_cB k (iv 4) (iv 5) (iv 6) (iv 7) (iv 8) (iv 9); exact hB) (by show q_cS k (iv 10) (iv 11) (iv 12) (iv 13) (iv 14); exact hS) (by show q_cC k (iv 15) (iv 16); exact hC) (by show q_cL k (iv 25); exact hL) (by show q_CI k (iv 2) (iv 138) (iv 139) (iv 140) (iv 142) (iv 143) (iv 145) (iv 129) (iv 135); exact hci) (by show ¬ q_con k (fun _ => 0); exact h1)
       refine w_calleE hc8 rfl (pz_cokI is_2 rfl) rfl (fun iv9 h9 => ?_)
       obtain ⟨o9_9, l9_10, n9_11, w9_12, d9_13, h9e, hci, ho2⟩ := h9
       have h9x : iv9 = pz_u1 (pz_u1 (pz_u1 (pz_u1 (pz_u1 iv 2 o9_9) 134 l9_10) 138 n9_11) 139 w9_12) 140 d9_13 := h9e.trans (by rw [pz_u1_in (r := 2) (q := 140) (by decide)]; rw [pz_u1_in (r := 2) (q := 139) (by decide)]; rw [pz_u1_in (r := 2) (q := 138) (by decide)]; rw [pz_u1_in (r := 2) (q := 134) (by decide)]; rw [pz_u1_top (r := 2)]; rw [pz_u1_in (r := 134) (q := 140) (by decide)]; rw [pz_u1_in (r := 134) (q := 139) (by decide)]; rw [pz_u1_in (r := 134) (q := 138) (by decide)]; rw [pz_u1_top (r := 134)]; rw [pz_u1_in (r := 138) (q := 140) (by decide)]; rw [pz_u1_in (r := 138) (q := 139) (by decide)]; rw [pz_u1_top (r := 138)]; rw [pz_u1_in (r := 139) (q := 140) (by decide)]; rw [pz_u1_top (r := 139)]; rw [pz_u1_top (r := 140)] <;> rfl)
       subst h9x
       clear h9e hc8
       replace hci : q_CI k o9_9 n9_11 w9_12 d9_13 (iv 142) (iv 143) (iv 145) (iv 129) (iv 135) := hci
       replace ho2 : o9_9 2 = (iv 2) 2 := ho2
       first | exact ⟨pz_u1 (pz_u1 (pz_u1 (pz_u1 (pz_u1 iv 2 o9_9) 134 l9_10) 138 n9_11) 139 w9_12) 140 d9_13, ⟨o9_9, l9_10, n9_11, w9_12, d9_13, by rfl, by exact hci, by exact ho2⟩, lf_e (by rfl)⟩ | (exfalso; omega))

theorem s_X10_meanSlack_2 {L : Nat} {iv : Nat → Nat → Int} {k : Nat → Int} (hk : q_KR k) (hE : q_cE k (iv 3)) (hB : q_cB k (iv 4) (iv 5) (iv 6) (iv 7) (iv 8) (iv 9)) (hS : q_cS k (iv 10) (iv 11) (iv 12) (iv 13) (iv 14)) (hC : q_cC k (iv 15) (iv 16)) (hA : q_cA k (iv 17) (iv 18) (iv 19) (iv 20)) (hO : q_cO k (iv 22) (iv 23) (iv 24)) (hL : q_cL k (iv 25)) (hP : q_cP k (iv 27)) (hci : q_CI k (iv 2) (iv 138) (iv 139) (iv 140) (iv 142) (iv 143) (iv 145) (iv 129) (iv 135)) (hcase0 : q_con k (fun _ => 0)) (hcase1 : (t_sm (q_D k) (k 0)).2 = 0) : pz_RE (pz_Sh L) 169 [.inr (.inl 2)] iv (.inr 5) (fun iv9 => ∃ (o9 : Nat → Int) (l9 : Nat → Int) (n9 : Nat → Int) (w9 : Nat → Int) (d9 : Nat → Int), iv9 = pz_u1 (pz_u1 (pz_u1 (pz_u1 (pz_u1 iv 2 o9) 134 l9) 138 n9) 139 w9) 140 d9 ∧ (q_CI k o9 n9 w9 d9 (iv 142) (iv 143) (iv 145) (iv 129) (iv 135)) ∧ (o9 2 = (iv 2) 2)) := by
  intro dv cc ss
  have hk0 := hk.r0
  have hE0 := hE
  have hB0 := hB.1
  have hS0 := hS.1
  have hC0 := hC.1
  have hA0 := hA.1
  refine pz_G_mem (iv2 := pz_u1 (pz_u1 (pz_u1 (pz_u1 (pz_u1 iv 2 (iv 2)) 134 (iv 134)) 138 (iv 138)) 139 (iv 139)) 140 (iv 140)) (by exact (((((pz_u1_self iv 2).symm).trans (pz_u1_self (pz_u1 iv 2 (iv 2)) 134).symm).trans (pz_u1_self (pz_u1 (pz_u1 iv 2 (iv 2)) 134 (iv 134)) 138).symm).trans (pz_u1_self (pz_u1 (pz_u1 (pz_u1 iv 2 (iv 2)) 134 (iv 134)) 138 (iv 138)) 139).symm).trans (pz_u1_self (pz_u1 (pz_u1 (pz_u1 (pz_u1 iv 2 (iv 2)) 134 (iv 134)) 138 (iv 138)) 139 (iv 139)) 140).symm) ?_
  show pz_G 169 0 [some (.inr (.inl 2)), none, none, none, none, none] [] (pz_Sh L, pz_u1 (pz_u1 (pz_u1 (pz_u1 (pz_u1 iv 2 (iv 2)) 134 (iv 134)) 138 (iv 138)) 139 (iv 139)) 140 (iv 140), dv, cc, ss) (pz_PE (pz_Sh L) (.inr 5) (fun iv9 => ∃ (o9 : Nat → Int) (l9 : Nat → Int) (n9 : Nat → Int) (w9 : Nat → Int) (d9 : Nat → Int), iv9 = pz_u1 (pz_u1 (pz_u1 (pz_u1 (pz_u1 iv 2 o9) 134 l9) 138 n9) 139 w9) 140 d9 ∧ (q_CI k o9 n9 w9 d9 (iv 142) (iv 143) (iv 145) (iv 129) (iv 135)) ∧ (o9 2 = (iv 2) 2)) dv cc ss)
  refine pz_G_of pz_b169_0 ?_
  refine w_loc rfl ?_
  by_cases h1 : q_con k (fun _ => 0)
  · first
    | (exfalso; first | omega | contradiction)
    | (have hc2 : pz_RE (pz_Sh L) 180 [.inr (.inl 2)] (pz_u1 (pz_u1 (pz_u1 (pz_u1 (pz_u1 iv 2 (iv 2)) 134 (iv 134)) 138 (iv 138)) 139 (iv 139)) 140 (iv 140)) (.inl (some (.inr (.inl 138)))) _ := s_X10_soundNet_y (L := L) (iv := pz_u1 (pz_u1 (pz_u1 (pz_u1 (pz_u1 iv 2 (iv 2)) 134 (iv 134)) 138 (iv 138)) 139 (iv 139)) 140 (iv 140)) (by show q_KR k; exact hk) (by show q_cE k (iv 3); exact hE) (by show q_cB k (iv 4) (iv 5) (iv 6) (iv 7) (iv 8) (iv 9); exact hB) (by show q_cS k (iv 10) (iv 11) (iv 12) (iv 13) (iv 14); exact hS) (by show q_cC k (iv 15) (iv 16); exact hC) (by show q_cL k (iv 25); exact hL) (by show q_CI k (iv 2) (iv 138) (iv 139) (iv 140) (iv 142) (iv 143) (iv 145) (iv 129) (iv 135); exact hci) (by show q_con k (fun _ => 0); exact h1)
       refine w_callE hc2 rfl (pz_cokI is_2 rfl) (fun iv9 h9 => ?_)
       obtain ⟨o9_3, l9_4, n9_5, w9_6, d9_7, h9e, hci, hNK, ho2⟩ := h9
       have h9x : iv9 = pz_u1 (pz_u1 (pz_u1 (pz_u1 (pz_u1 iv 2 o9_3) 134 l9_4) 138 n9_5) 139 w9_6) 140 d9_7 := h9e.trans (by rw [pz_u1_in (r := 2) (q := 140) (by decide)]; rw [pz_u1_in (r := 2) (q := 139) (by decide)]; rw [pz_u1_in (r := 2) (q := 138) (by decide)]; rw [pz_u1_in (r := 2) (q := 134) (by decide)]; rw [pz_u1_top (r := 2)]; rw [pz_u1_in (r := 134) (q := 140) (by decide)]; rw [pz_u1_in (r := 134) (q := 139) (by decide)]; rw [pz_u1_in (r := 134) (q := 138) (by decide)]; rw [pz_u1_top (r := 134)]; rw [pz_u1_in (r := 138) (q := 140) (by decide)]; rw [pz_u1_in (r := 138) (q := 139) (by decide)]; rw [pz_u1_top (r := 138)]; rw [pz_u1_in (r := 139) (q := 140) (by decide)]; rw [pz_u1_top (r := 139)]; rw [pz_u1_top (r := 140)] <;> rfl)
       subst h9x
       clear h9e hc2
       replace hci : q_CI k o9_3 n9_5 w9_6 d9_7 (iv 142) (iv 143) (iv 145) (iv 129) (iv 135) := hci
       replace hNK : q_NK k n9_5 w9_6 d9_7 := hNK
       replace ho2 : o9_3 2 = (iv 2) 2 := ho2
       refine w_loc (ls' := [some (.inr (.inl 2)), some (.inr (.inl 138)), none, none, none, none]) (st' := []) rfl ?_
       refine w_pure rfl ?_
       refine w_loc (ls' := [some (.inr (.inl 2)), some (.inr (.inl 138)), some (.inl 0), none, none, none]) (st' := []) rfl ?_
       refine w_pure rfl ?_
       refine w_loc (ls' := [some (.inr (.inl 2)), some (.inr (.inl 138)), some (.inl 0), some (.inl 0), none, none]) (st' := []) rfl ?_
       refine w_pure rfl ?_
       refine w_loc (ls' := [some (.inr (.inl 2)), some (.inr (.inl 138)), some (.inl 0), some (.inl 0), some (.inl 1), none]) (st' := []) rfl ?_
       refine w_nil ?_
       have lp12 : ∀ (dd : Nat) (sm : Int) (n : Int) (e : Int) (u12_5 : Option pz_V) (hu12_5 : pz_nc u12_5 = true), (k 0 - e).toNat = dd → ∀ (he : 1 ≤ e ∧ e ≤ k 0), ∀ (hs : (sm, n) = t_sm (q_D k) e), ∀ (hr : (0 ≤ n ∧ n ≤ e - 1) ∧ -20000 * (e - 1) ≤ sm ∧ sm ≤ 20000 * (e - 1)),  pz_G 169 12 [some (.inr (.inl 2)), some (.inr (.inl 138)), some (.inl sm), some (.inl n), some (.inl e), u12_5] [] (pz_Sh L, pz_u1 (pz_u1 (pz_u1 (pz_u1 (pz_u1 iv 2 o9_3) 134 l9_4) 138 n9_5) 139 w9_6) 140 d9_7, dv, cc, ss) (pz_PE (pz_Sh L) (.inr 5) (fun iv9 => ∃ (o9 : Nat → Int) (l9 : Nat → Int) (n9 : Nat → Int) (w9 : Nat → Int) (d9 : Nat → Int), iv9 = pz_u1 (pz_u1 (pz_u1 (pz_u1 (pz_u1 iv 2 o9) 134 l9) 138 n9) 139 w9) 140 d9 ∧ (q_CI k o9 n9 w9 d9 (iv 142) (iv 143) (iv 145) (iv 129) (iv 135)) ∧ (o9 2 = (iv 2) 2)) dv cc ss) := by
         intro dd12
         induction dd12 using Nat.strongRecOn with
         | _ dd12 ih12 =>
         intro sm n e u12_5 hu12_5 hd12 he hs hr
         have hNt := fun h => q_NK_at hk hNK hcase0 (f := 0) (t := e) (by omega) h
         have hz9 : (10 * 0 + e : Int).toNat = e.toNat := by omega
         have hdr := fun h => q_dd_r (lf := fun _ => 0) (g := fun _ => 0) (j := e.toNat) hk hcase0 h
         rw [show q_dd k (fun _ => 0) (fun _ => 0) = q_D k from rfl] at hdr
         have hfr := t_ft_r (d := q_D k) (e := e)
         have hd9 := fun h => q_dd_r (lf := fun _ => 0) (g := fun _ => 0) (j := (10 * e).toNat) hk hcase0 h
         rw [show q_dd k (fun _ => 0) (fun _ => 0) = q_D k from rfl] at hd9
         have hDe9 : q_D k (10 * 0 + e).toNat = q_D k e.toNat := by rw [hz9]
         refine pz_G_of pz_b169_12 ?_
         refine w_loc rfl ?_
         refine w_loc rfl ?_
         refine w_getR (q := 3) is_2 rf_2_0 ?_
         refine w_getI (v := (iv 3) 0) is_3 (by decide) rfl ?_
         refine w_ige (fun h8 => ?_) (fun h8 => ?_)
         · first
           | (exfalso; first | omega | contradiction)
           | (have hse : (sm, n) = t_sm (q_D k) (k 0) := by rw [show k 0 = e by omega]; exact hs
              have hs1 := congrArg Prod.fst hse
              have hs2 := congrArg Prod.snd hse
              dsimp only at hs1 hs2
              refine pz_G_of pz_b169_62 ?_
              refine w_loc rfl ?_
              refine w_zne (fun h9 => ?_) (fun h9 => ?_)
              · first
                | (exfalso; first | omega | contradiction)
                | (refine pz_G_of pz_b169_77 ?_
                   refine w_loc rfl ?_
                   refine w_pure rfl ?_
                   refine w_loc rfl ?_
                   refine w_pure rfl ?_
                   refine w_ddiv (by omega) ?_
                   refine w_ret rfl ?_
                   first | exact ⟨pz_u1 (pz_u1 (pz_u1 (pz_u1 (pz_u1 iv 2 o9_3) 134 l9_4) 138 n9_5) 139 w9_6) 140 d9_7, ⟨o9_3, l9_4, n9_5, w9_6, d9_7, by rfl, by exact hci, by exact ho2⟩, lf_d (by rfl) (by rfl)⟩ | (exfalso; omega))
              · first
                | (exfalso; first | omega | contradiction)
                | (refine w_thr (by decide) ?_
                   first | exact ⟨pz_u1 (pz_u1 (pz_u1 (pz_u1 (pz_u1 iv 2 o9_3) 134 l9_4) 138 n9_5) 139 w9_6) 140 d9_7, ⟨o9_3, l9_4, n9_5, w9_6, d9_7, by rfl, by exact hci, by exact ho2⟩, lf_e (by rfl)⟩ | (exfalso; omega)))
         · first
           | (exfalso; first | omega | contradiction)
           | (refine w_loc rfl ?_
              refine w_pure rfl ?_
              refine w_loc rfl ?_
              have hc10 : pz_R (pz_Sh L) 59 [.inr (.inl 138), .inl 0, .inl e] (pz_u1 (pz_u1 (pz_u1 (pz_u1 (pz_u1 iv 2 o9_3) 134 l9_4) 138 n9_5) 139 w9_6) 140 d9_7) (.inl (some (.inl (d9_7 (10 * 0 + e).toNat)))) (pz_u1 (pz_u1 (pz_u1 (pz_u1 (pz_u1 iv 2 o9_3) 134 l9_4) 138 n9_5) 139 w9_6) 140 d9_7) := s_X5_between 0 e (by show 0 ≤ 0 ∧ 0 ≤ 9; omega) (by show 0 ≤ e ∧ e ≤ 9; omega)
              refine w_call hc10 rfl (pz_cokI is_138 rfl) ?_
              refine w_loc (ls' := [some (.inr (.inl 2)), some (.inr (.inl 138)), some (.inl sm), some (.inl n), some (.inl e), some (.inl (d9_7 (10 * 0 + e).toNat))]) (st' := []) rfl ?_
              refine w_loc rfl ?_
              refine w_ldcv (v := 1000000000) rfl ?_
              refine w_ieq (fun h11 => ?_) (fun h11 => ?_)
              · first
                | (exfalso; first | omega | contradiction)
                | (refine pz_G_of pz_b169_56 ?_
                   refine w_iinc (ls' := [some (.inr (.inl 2)), some (.inr (.inl 138)), some (.inl sm), some (.inl n), some (.inl (e + 1)), some (.inl (d9_7 (10 * 0 + e).toNat))]) rfl rfl rfl (by omega) ?_
                   refine w_goto ?_
                   exact ih12 _ (by omega) sm n (e + 1) (some (.inl (d9_7 (10 * 0 + e).toNat))) rfl rfl (by omega) (by first | exact t_sm_n he.1 hs (by omega) | exact t_sm_y2 he.1 hs (by omega) (by omega)) (by omega))
              · first
                | (exfalso; first | omega | contradiction)
                | (refine w_loc rfl ?_
                   refine w_loc rfl ?_
                   refine w_loc rfl ?_
                   refine w_loc rfl ?_
                   have hc12 : pz_R (pz_Sh L) 63 [.inr (.inl 138), .inl e] (pz_u1 (pz_u1 (pz_u1 (pz_u1 (pz_u1 iv 2 o9_3) 134 l9_4) 138 n9_5) 139 w9_6) 140 d9_7) (.inl (some (.inl (q_ft (q_D k) e)))) (pz_u1 (pz_u1 (pz_u1 (pz_u1 (pz_u1 iv 2 o9_3) 134 l9_4) 138 n9_5) 139 w9_6) 140 d9_7) := s_X5_earliest e (by show q_KR k; exact hk) (by show q_nD k d9_7 (q_D k); exact q_NK_D hNK (by assumption)) (by show q_dR (q_D k); exact q_dR_D hk (by assumption)) (by show 0 ≤ e ∧ e < k 0; omega)
                   refine w_call hc12 rfl (pz_cokI is_138 rfl) ?_
                   refine w_isub (by omega) ?_
                   refine w_iadd (by omega) ?_
                   refine w_loc (ls' := [some (.inr (.inl 2)), some (.inr (.inl 138)), some (.inl (sm + ((d9_7 (10 * 0 + e).toNat) - (q_ft (q_D k) e)))), some (.inl n), some (.inl e), some (.inl (d9_7 (10 * 0 + e).toNat))]) (st' := []) rfl ?_
                   refine w_iinc (ls' := [some (.inr (.inl 2)), some (.inr (.inl 138)), some (.inl (sm + ((d9_7 (10 * 0 + e).toNat) - (q_ft (q_D k) e)))), some (.inl (n + 1)), some (.inl e), some (.inl (d9_7 (10 * 0 + e).toNat))]) rfl rfl rfl (by omega) ?_
                   refine w_nil ?_
                   refine pz_G_of pz_b169_56 ?_
                   refine w_iinc (ls' := [some (.inr (.inl 2)), some (.inr (.inl 138)), some (.inl (sm + ((d9_7 (10 * 0 + e).toNat) - (q_ft (q_D k) e)))), some (.inl (n + 1)), some (.inl (e + 1)), some (.inl (d9_7 (10 * 0 + e).toNat))]) rfl rfl rfl (by omega) ?_
                   refine w_goto ?_
                   exact ih12 _ (by omega) (sm + ((d9_7 (10 * 0 + e).toNat) - (q_ft (q_D k) e))) (n + 1) (e + 1) (some (.inl (d9_7 (10 * 0 + e).toNat))) rfl rfl (by omega) (by first | exact t_sm_n he.1 hs (by omega) | exact t_sm_y2 he.1 hs (by omega) (by omega)) (by omega)))
       exact lp12 _ 0 0 1 (none) rfl rfl (by omega) (by exact t_sm_0) (by omega))
  · first
    | (exfalso; first | omega | contradiction)
    | (have hc13 : pz_RE (pz_Sh L) 180 [.inr (.inl 2)] (pz_u1 (pz_u1 (pz_u1 (pz_u1 (pz_u1 iv 2 (iv 2)) 134 (iv 134)) 138 (iv 138)) 139 (iv 139)) 140 (iv 140)) (.inr 0) _ := s_X10_soundNet_n (L := L) (iv := pz_u1 (pz_u1 (pz_u1 (pz_u1 (pz_u1 iv 2 (iv 2)) 134 (iv 134)) 138 (iv 138)) 139 (iv 139)) 140 (iv 140)) (by show q_KR k; exact hk) (by show q_cE k (iv 3); exact hE) (by show q_cB k (iv 4) (iv 5) (iv 6) (iv 7) (iv 8) (iv 9); exact hB) (by show q_cS k (iv 10) (iv 11) (iv 12) (iv 13) (iv 14); exact hS) (by show q_cC k (iv 15) (iv 16); exact hC) (by show q_cL k (iv 25); exact hL) (by show q_CI k (iv 2) (iv 138) (iv 139) (iv 140) (iv 142) (iv 143) (iv 145) (iv 129) (iv 135); exact hci) (by show ¬ q_con k (fun _ => 0); exact h1)
       refine w_calleE hc13 rfl (pz_cokI is_2 rfl) rfl (fun iv9 h9 => ?_)
       obtain ⟨o9_14, l9_15, n9_16, w9_17, d9_18, h9e, hci, ho2⟩ := h9
       have h9x : iv9 = pz_u1 (pz_u1 (pz_u1 (pz_u1 (pz_u1 iv 2 o9_14) 134 l9_15) 138 n9_16) 139 w9_17) 140 d9_18 := h9e.trans (by rw [pz_u1_in (r := 2) (q := 140) (by decide)]; rw [pz_u1_in (r := 2) (q := 139) (by decide)]; rw [pz_u1_in (r := 2) (q := 138) (by decide)]; rw [pz_u1_in (r := 2) (q := 134) (by decide)]; rw [pz_u1_top (r := 2)]; rw [pz_u1_in (r := 134) (q := 140) (by decide)]; rw [pz_u1_in (r := 134) (q := 139) (by decide)]; rw [pz_u1_in (r := 134) (q := 138) (by decide)]; rw [pz_u1_top (r := 134)]; rw [pz_u1_in (r := 138) (q := 140) (by decide)]; rw [pz_u1_in (r := 138) (q := 139) (by decide)]; rw [pz_u1_top (r := 138)]; rw [pz_u1_in (r := 139) (q := 140) (by decide)]; rw [pz_u1_top (r := 139)]; rw [pz_u1_top (r := 140)] <;> rfl)
       subst h9x
       clear h9e hc13
       replace hci : q_CI k o9_14 n9_16 w9_17 d9_18 (iv 142) (iv 143) (iv 145) (iv 129) (iv 135) := hci
       replace ho2 : o9_14 2 = (iv 2) 2 := ho2
       first | exact ⟨pz_u1 (pz_u1 (pz_u1 (pz_u1 (pz_u1 iv 2 o9_14) 134 l9_15) 138 n9_16) 139 w9_17) 140 d9_18, ⟨o9_14, l9_15, n9_16, w9_17, d9_18, by rfl, by exact hci, by exact ho2⟩, lf_e (by rfl)⟩ | (exfalso; omega))

theorem s_X10_meanSlack_0 {L : Nat} {iv : Nat → Nat → Int} {k : Nat → Int} (hk : q_KR k) (hE : q_cE k (iv 3)) (hB : q_cB k (iv 4) (iv 5) (iv 6) (iv 7) (iv 8) (iv 9)) (hS : q_cS k (iv 10) (iv 11) (iv 12) (iv 13) (iv 14)) (hC : q_cC k (iv 15) (iv 16)) (hA : q_cA k (iv 17) (iv 18) (iv 19) (iv 20)) (hO : q_cO k (iv 22) (iv 23) (iv 24)) (hL : q_cL k (iv 25)) (hP : q_cP k (iv 27)) (hci : q_CI k (iv 2) (iv 138) (iv 139) (iv 140) (iv 142) (iv 143) (iv 145) (iv 129) (iv 135)) (hcase0 : q_con k (fun _ => 0)) (hcase1 : (t_sm (q_D k) (k 0)).2 ≠ 0) : pz_RE (pz_Sh L) 169 [.inr (.inl 2)] iv (.inl (some (.inr (.inr (.inr (.inr (t_me (t_sm (q_D k) (k 0)).1 (t_sm (q_D k) (k 0)).2))))))) (fun iv9 => ∃ (o9 : Nat → Int) (l9 : Nat → Int) (n9 : Nat → Int) (w9 : Nat → Int) (d9 : Nat → Int), iv9 = pz_u1 (pz_u1 (pz_u1 (pz_u1 (pz_u1 iv 2 o9) 134 l9) 138 n9) 139 w9) 140 d9 ∧ (q_CI k o9 n9 w9 d9 (iv 142) (iv 143) (iv 145) (iv 129) (iv 135)) ∧ (o9 2 = (iv 2) 2)) := by
  intro dv cc ss
  have hk0 := hk.r0
  have hE0 := hE
  have hB0 := hB.1
  have hS0 := hS.1
  have hC0 := hC.1
  have hA0 := hA.1
  refine pz_G_mem (iv2 := pz_u1 (pz_u1 (pz_u1 (pz_u1 (pz_u1 iv 2 (iv 2)) 134 (iv 134)) 138 (iv 138)) 139 (iv 139)) 140 (iv 140)) (by exact (((((pz_u1_self iv 2).symm).trans (pz_u1_self (pz_u1 iv 2 (iv 2)) 134).symm).trans (pz_u1_self (pz_u1 (pz_u1 iv 2 (iv 2)) 134 (iv 134)) 138).symm).trans (pz_u1_self (pz_u1 (pz_u1 (pz_u1 iv 2 (iv 2)) 134 (iv 134)) 138 (iv 138)) 139).symm).trans (pz_u1_self (pz_u1 (pz_u1 (pz_u1 (pz_u1 iv 2 (iv 2)) 134 (iv 134)) 138 (iv 138)) 139 (iv 139)) 140).symm) ?_
  show pz_G 169 0 [some (.inr (.inl 2)), none, none, none, none, none] [] (pz_Sh L, pz_u1 (pz_u1 (pz_u1 (pz_u1 (pz_u1 iv 2 (iv 2)) 134 (iv 134)) 138 (iv 138)) 139 (iv 139)) 140 (iv 140), dv, cc, ss) (pz_PE (pz_Sh L) (.inl (some (.inr (.inr (.inr (.inr (t_me (t_sm (q_D k) (k 0)).1 (t_sm (q_D k) (k 0)).2))))))) (fun iv9 => ∃ (o9 : Nat → Int) (l9 : Nat → Int) (n9 : Nat → Int) (w9 : Nat → Int) (d9 : Nat → Int), iv9 = pz_u1 (pz_u1 (pz_u1 (pz_u1 (pz_u1 iv 2 o9) 134 l9) 138 n9) 139 w9) 140 d9 ∧ (q_CI k o9 n9 w9 d9 (iv 142) (iv 143) (iv 145) (iv 129) (iv 135)) ∧ (o9 2 = (iv 2) 2)) dv cc ss)
  refine pz_G_of pz_b169_0 ?_
  refine w_loc rfl ?_
  by_cases h1 : q_con k (fun _ => 0)
  · first
    | (exfalso; first | omega | contradiction)
    | (have hc2 : pz_RE (pz_Sh L) 180 [.inr (.inl 2)] (pz_u1 (pz_u1 (pz_u1 (pz_u1 (pz_u1 iv 2 (iv 2)) 134 (iv 134)) 138 (iv 138)) 139 (iv 139)) 140 (iv 140)) (.inl (some (.inr (.inl 138)))) _ := s_X10_soundNet_y (L := L) (iv := pz_u1 (pz_u1 (pz_u1 (pz_u1 (pz_u1 iv 2 (iv 2)) 134 (iv 134)) 138 (iv 138)) 139 (iv 139)) 140 (iv 140)) (by show q_KR k; exact hk) (by show q_cE k (iv 3); exact hE) (by show q_cB k (iv 4) (iv 5) (iv 6) (iv 7) (iv 8) (iv 9); exact hB) (by show q_cS k (iv 10) (iv 11) (iv 12) (iv 13) (iv 14); exact hS) (by show q_cC k (iv 15) (iv 16); exact hC) (by show q_cL k (iv 25); exact hL) (by show q_CI k (iv 2) (iv 138) (iv 139) (iv 140) (iv 142) (iv 143) (iv 145) (iv 129) (iv 135); exact hci) (by show q_con k (fun _ => 0); exact h1)
       refine w_callE hc2 rfl (pz_cokI is_2 rfl) (fun iv9 h9 => ?_)
       obtain ⟨o9_3, l9_4, n9_5, w9_6, d9_7, h9e, hci, hNK, ho2⟩ := h9
       have h9x : iv9 = pz_u1 (pz_u1 (pz_u1 (pz_u1 (pz_u1 iv 2 o9_3) 134 l9_4) 138 n9_5) 139 w9_6) 140 d9_7 := h9e.trans (by rw [pz_u1_in (r := 2) (q := 140) (by decide)]; rw [pz_u1_in (r := 2) (q := 139) (by decide)]; rw [pz_u1_in (r := 2) (q := 138) (by decide)]; rw [pz_u1_in (r := 2) (q := 134) (by decide)]; rw [pz_u1_top (r := 2)]; rw [pz_u1_in (r := 134) (q := 140) (by decide)]; rw [pz_u1_in (r := 134) (q := 139) (by decide)]; rw [pz_u1_in (r := 134) (q := 138) (by decide)]; rw [pz_u1_top (r := 134)]; rw [pz_u1_in (r := 138) (q := 140) (by decide)]; rw [pz_u1_in (r := 138) (q := 139) (by decide)]; rw [pz_u1_top (r := 138)]; rw [pz_u1_in (r := 139) (q := 140) (by decide)]; rw [pz_u1_top (r := 139)]; rw [pz_u1_top (r := 140)] <;> rfl)
       subst h9x
       clear h9e hc2
       replace hci : q_CI k o9_3 n9_5 w9_6 d9_7 (iv 142) (iv 143) (iv 145) (iv 129) (iv 135) := hci
       replace hNK : q_NK k n9_5 w9_6 d9_7 := hNK
       replace ho2 : o9_3 2 = (iv 2) 2 := ho2
       refine w_loc (ls' := [some (.inr (.inl 2)), some (.inr (.inl 138)), none, none, none, none]) (st' := []) rfl ?_
       refine w_pure rfl ?_
       refine w_loc (ls' := [some (.inr (.inl 2)), some (.inr (.inl 138)), some (.inl 0), none, none, none]) (st' := []) rfl ?_
       refine w_pure rfl ?_
       refine w_loc (ls' := [some (.inr (.inl 2)), some (.inr (.inl 138)), some (.inl 0), some (.inl 0), none, none]) (st' := []) rfl ?_
       refine w_pure rfl ?_
       refine w_loc (ls' := [some (.inr (.inl 2)), some (.inr (.inl 138)), some (.inl 0), some (.inl 0), some (.inl 1), none]) (st' := []) rfl ?_
       refine w_nil ?_
       have lp12 : ∀ (dd : Nat) (sm : Int) (n : Int) (e : Int) (u12_5 : Option pz_V) (hu12_5 : pz_nc u12_5 = true), (k 0 - e).toNat = dd → ∀ (he : 1 ≤ e ∧ e ≤ k 0), ∀ (hs : (sm, n) = t_sm (q_D k) e), ∀ (hr : (0 ≤ n ∧ n ≤ e - 1) ∧ -20000 * (e - 1) ≤ sm ∧ sm ≤ 20000 * (e - 1)),  pz_G 169 12 [some (.inr (.inl 2)), some (.inr (.inl 138)), some (.inl sm), some (.inl n), some (.inl e), u12_5] [] (pz_Sh L, pz_u1 (pz_u1 (pz_u1 (pz_u1 (pz_u1 iv 2 o9_3) 134 l9_4) 138 n9_5) 139 w9_6) 140 d9_7, dv, cc, ss) (pz_PE (pz_Sh L) (.inl (some (.inr (.inr (.inr (.inr (t_me (t_sm (q_D k) (k 0)).1 (t_sm (q_D k) (k 0)).2))))))) (fun iv9 => ∃ (o9 : Nat → Int) (l9 : Nat → Int) (n9 : Nat → Int) (w9 : Nat → Int) (d9 : Nat → Int), iv9 = pz_u1 (pz_u1 (pz_u1 (pz_u1 (pz_u1 iv 2 o9) 134 l9) 138 n9) 139 w9) 140 d9 ∧ (q_CI k o9 n9 w9 d9 (iv 142) (iv 143) (iv 145) (iv 129) (iv 135)) ∧ (o9 2 = (iv 2) 2)) dv cc ss) := by
         intro dd12
         induction dd12 using Nat.strongRecOn with
         | _ dd12 ih12 =>
         intro sm n e u12_5 hu12_5 hd12 he hs hr
         have hNt := fun h => q_NK_at hk hNK hcase0 (f := 0) (t := e) (by omega) h
         have hz9 : (10 * 0 + e : Int).toNat = e.toNat := by omega
         have hdr := fun h => q_dd_r (lf := fun _ => 0) (g := fun _ => 0) (j := e.toNat) hk hcase0 h
         rw [show q_dd k (fun _ => 0) (fun _ => 0) = q_D k from rfl] at hdr
         have hfr := t_ft_r (d := q_D k) (e := e)
         have hd9 := fun h => q_dd_r (lf := fun _ => 0) (g := fun _ => 0) (j := (10 * e).toNat) hk hcase0 h
         rw [show q_dd k (fun _ => 0) (fun _ => 0) = q_D k from rfl] at hd9
         have hDe9 : q_D k (10 * 0 + e).toNat = q_D k e.toNat := by rw [hz9]
         refine pz_G_of pz_b169_12 ?_
         refine w_loc rfl ?_
         refine w_loc rfl ?_
         refine w_getR (q := 3) is_2 rf_2_0 ?_
         refine w_getI (v := (iv 3) 0) is_3 (by decide) rfl ?_
         refine w_ige (fun h8 => ?_) (fun h8 => ?_)
         · first
           | (exfalso; first | omega | contradiction)
           | (have hse : (sm, n) = t_sm (q_D k) (k 0) := by rw [show k 0 = e by omega]; exact hs
              have hs1 := congrArg Prod.fst hse
              have hs2 := congrArg Prod.snd hse
              dsimp only at hs1 hs2
              refine pz_G_of pz_b169_62 ?_
              refine w_loc rfl ?_
              refine w_zne (fun h9 => ?_) (fun h9 => ?_)
              · first
                | (exfalso; first | omega | contradiction)
                | (refine pz_G_of pz_b169_77 ?_
                   refine w_loc rfl ?_
                   refine w_pure rfl ?_
                   refine w_loc rfl ?_
                   refine w_pure rfl ?_
                   refine w_ddiv (by omega) ?_
                   refine w_ret rfl ?_
                   first | exact ⟨pz_u1 (pz_u1 (pz_u1 (pz_u1 (pz_u1 iv 2 o9_3) 134 l9_4) 138 n9_5) 139 w9_6) 140 d9_7, ⟨o9_3, l9_4, n9_5, w9_6, d9_7, by rfl, by exact hci, by exact ho2⟩, lf_d (by rw [hs1, hs2]) (by rfl)⟩ | (exfalso; omega))
              · first
                | (exfalso; first | omega | contradiction)
                | (refine w_thr (by decide) ?_
                   first | exact ⟨pz_u1 (pz_u1 (pz_u1 (pz_u1 (pz_u1 iv 2 o9_3) 134 l9_4) 138 n9_5) 139 w9_6) 140 d9_7, ⟨o9_3, l9_4, n9_5, w9_6, d9_7, by rfl, by exact hci, by exact ho2⟩, lf_e (by rfl)⟩ | (exfalso; omega)))
         · first
           | (exfalso; first | omega | contradiction)
           | (refine w_loc rfl ?_
              refine w_pure rfl ?_
              refine w_loc rfl ?_
              have hc10 : pz_R (pz_Sh L) 59 [.inr (.inl 138), .inl 0, .inl e] (pz_u1 (pz_u1 (pz_u1 (pz_u1 (pz_u1 iv 2 o9_3) 134 l9_4) 138 n9_5) 139 w9_6) 140 d9_7) (.inl (some (.inl (d9_7 (10 * 0 + e).toNat)))) (pz_u1 (pz_u1 (pz_u1 (pz_u1 (pz_u1 iv 2 o9_3) 134 l9_4) 138 n9_5) 139 w9_6) 140 d9_7) := s_X5_between 0 e (by show 0 ≤ 0 ∧ 0 ≤ 9; omega) (by show 0 ≤ e ∧ e ≤ 9; omega)
              refine w_call hc10 rfl (pz_cokI is_138 rfl) ?_
              refine w_loc (ls' := [some (.inr (.inl 2)), some (.inr (.inl 138)), some (.inl sm), some (.inl n), some (.inl e), some (.inl (d9_7 (10 * 0 + e).toNat))]) (st' := []) rfl ?_
              refine w_loc rfl ?_
              refine w_ldcv (v := 1000000000) rfl ?_
              refine w_ieq (fun h11 => ?_) (fun h11 => ?_)
              · first
                | (exfalso; first | omega | contradiction)
                | (refine pz_G_of pz_b169_56 ?_
                   refine w_iinc (ls' := [some (.inr (.inl 2)), some (.inr (.inl 138)), some (.inl sm), some (.inl n), some (.inl (e + 1)), some (.inl (d9_7 (10 * 0 + e).toNat))]) rfl rfl rfl (by omega) ?_
                   refine w_goto ?_
                   exact ih12 _ (by omega) sm n (e + 1) (some (.inl (d9_7 (10 * 0 + e).toNat))) rfl rfl (by omega) (by first | exact t_sm_n he.1 hs (by omega) | exact t_sm_y2 he.1 hs (by omega) (by omega)) (by omega))
              · first
                | (exfalso; first | omega | contradiction)
                | (refine w_loc rfl ?_
                   refine w_loc rfl ?_
                   refine w_loc rfl ?_
                   refine w_loc rfl ?_
                   have hc12 : pz_R (pz_Sh L) 63 [.inr (.inl 138), .inl e] (pz_u1 (pz_u1 (pz_u1 (pz_u1 (pz_u1 iv 2 o9_3) 134 l9_4) 138 n9_5) 139 w9_6) 140 d9_7) (.inl (some (.inl (q_ft (q_D k) e)))) (pz_u1 (pz_u1 (pz_u1 (pz_u1 (pz_u1 iv 2 o9_3) 134 l9_4) 138 n9_5) 139 w9_6) 140 d9_7) := s_X5_earliest e (by show q_KR k; exact hk) (by show q_nD k d9_7 (q_D k); exact q_NK_D hNK (by assumption)) (by show q_dR (q_D k); exact q_dR_D hk (by assumption)) (by show 0 ≤ e ∧ e < k 0; omega)
                   refine w_call hc12 rfl (pz_cokI is_138 rfl) ?_
                   refine w_isub (by omega) ?_
                   refine w_iadd (by omega) ?_
                   refine w_loc (ls' := [some (.inr (.inl 2)), some (.inr (.inl 138)), some (.inl (sm + ((d9_7 (10 * 0 + e).toNat) - (q_ft (q_D k) e)))), some (.inl n), some (.inl e), some (.inl (d9_7 (10 * 0 + e).toNat))]) (st' := []) rfl ?_
                   refine w_iinc (ls' := [some (.inr (.inl 2)), some (.inr (.inl 138)), some (.inl (sm + ((d9_7 (10 * 0 + e).toNat) - (q_ft (q_D k) e)))), some (.inl (n + 1)), some (.inl e), some (.inl (d9_7 (10 * 0 + e).toNat))]) rfl rfl rfl (by omega) ?_
                   refine w_nil ?_
                   refine pz_G_of pz_b169_56 ?_
                   refine w_iinc (ls' := [some (.inr (.inl 2)), some (.inr (.inl 138)), some (.inl (sm + ((d9_7 (10 * 0 + e).toNat) - (q_ft (q_D k) e)))), some (.inl (n + 1)), some (.inl (e + 1)), some (.inl (d9_7 (10 * 0 + e).toNat))]) rfl rfl rfl (by omega) ?_
                   refine w_goto ?_
                   exact ih12 _ (by omega) (sm + ((d9_7 (10 * 0 + e).toNat) - (q_ft (q_D k) e))) (n + 1) (e + 1) (some (.inl (d9_7 (10 * 0 + e).toNat))) rfl rfl (by omega) (by first | exact t_sm_n he.1 hs (by omega) | exact t_sm_y2 he.1 hs (by omega) (by omega)) (by omega)))
       exact lp12 _ 0 0 1 (none) rfl rfl (by omega) (by exact t_sm_0) (by omega))
  · first
    | (exfalso; first | omega | contradiction)
    | (have hc13 : pz_RE (pz_Sh L) 180 [.inr (.inl 2)] (pz_u1 (pz_u1 (pz_u1 (pz_u1 (pz_u1 iv 2 (iv 2)) 134 (iv 134)) 138 (iv 138)) 139 (iv 139)) 140 (iv 140)) (.inr 0) _ := s_X10_soundNet_n (L := L) (iv := pz_u1 (pz_u1 (pz_u1 (pz_u1 (pz_u1 iv 2 (iv 2)) 134 (iv 134)) 138 (iv 138)) 139 (iv 139)) 140 (iv 140)) (by show q_KR k; exact hk) (by show q_cE k (iv 3); exact hE) (by show q_cB k (iv 4) (iv 5) (iv 6) (iv 7) (iv 8) (iv 9); exact hB) (by show q_cS k (iv 10) (iv 11) (iv 12) (iv 13) (iv 14); exact hS) (by show q_cC k (iv 15) (iv 16); exact hC) (by show q_cL k (iv 25); exact hL) (by show q_CI k (iv 2) (iv 138) (iv 139) (iv 140) (iv 142) (iv 143) (iv 145) (iv 129) (iv 135); exact hci) (by show ¬ q_con k (fun _ => 0); exact h1)
       refine w_calleE hc13 rfl (pz_cokI is_2 rfl) rfl (fun iv9 h9 => ?_)
       obtain ⟨o9_14, l9_15, n9_16, w9_17, d9_18, h9e, hci, ho2⟩ := h9
       have h9x : iv9 = pz_u1 (pz_u1 (pz_u1 (pz_u1 (pz_u1 iv 2 o9_14) 134 l9_15) 138 n9_16) 139 w9_17) 140 d9_18 := h9e.trans (by rw [pz_u1_in (r := 2) (q := 140) (by decide)]; rw [pz_u1_in (r := 2) (q := 139) (by decide)]; rw [pz_u1_in (r := 2) (q := 138) (by decide)]; rw [pz_u1_in (r := 2) (q := 134) (by decide)]; rw [pz_u1_top (r := 2)]; rw [pz_u1_in (r := 134) (q := 140) (by decide)]; rw [pz_u1_in (r := 134) (q := 139) (by decide)]; rw [pz_u1_in (r := 134) (q := 138) (by decide)]; rw [pz_u1_top (r := 134)]; rw [pz_u1_in (r := 138) (q := 140) (by decide)]; rw [pz_u1_in (r := 138) (q := 139) (by decide)]; rw [pz_u1_top (r := 138)]; rw [pz_u1_in (r := 139) (q := 140) (by decide)]; rw [pz_u1_top (r := 139)]; rw [pz_u1_top (r := 140)] <;> rfl)
       subst h9x
       clear h9e hc13
       replace hci : q_CI k o9_14 n9_16 w9_17 d9_18 (iv 142) (iv 143) (iv 145) (iv 129) (iv 135) := hci
       replace ho2 : o9_14 2 = (iv 2) 2 := ho2
       first | exact ⟨pz_u1 (pz_u1 (pz_u1 (pz_u1 (pz_u1 iv 2 o9_14) 134 l9_15) 138 n9_16) 139 w9_17) 140 d9_18, ⟨o9_14, l9_15, n9_16, w9_17, d9_18, by rfl, by exact hci, by exact ho2⟩, lf_e (by rfl)⟩ | (exfalso; omega))
