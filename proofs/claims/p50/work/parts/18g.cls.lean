
theorem s_X4_leaveHolding {L : Nat} {iv : Nat → Nat → Int} (x : Int) (y : Int) {k : Nat → Int} (hk : q_KR k) (hB : q_cB k (iv 4) (iv 5) (iv 6) (iv 7) (iv 8) (iv 9)) (hT : q_cT k x y) : pz_RE (pz_Sh L) 36 [.inr (.inl 129), .inl x, .inl y] iv (.inl none) (fun iv9 => ∃ (l9 : Nat → Int), iv9 = pz_u1 iv 134 l9 ∧ (q_isl k (fun _ => 0) l9)) := by
  intro dv cc ss
  have hk0 := hk.r0
  have hB0 := hB.1
  refine pz_G_mem (iv2 := pz_u1 iv 134 (iv 134)) (by exact (pz_u1_self iv 134).symm) ?_
  show pz_G 36 0 [some (.inr (.inl 129)), some (.inl x), some (.inl y), none] [] (pz_Sh L, pz_u1 iv 134 (iv 134), dv, cc, ss) (pz_PE (pz_Sh L) (.inl none) (fun iv9 => ∃ (l9 : Nat → Int), iv9 = pz_u1 iv 134 l9 ∧ (q_isl k (fun _ => 0) l9)) dv cc ss)
  refine pz_G_of pz_b36_0 ?_
  refine w_pure rfl ?_
  refine w_loc (ls' := [some (.inr (.inl 129)), some (.inl x), some (.inl y), some (.inl 0)]) (st' := []) rfl ?_
  refine w_nil ?_
  have lp2 : ∀ (dd : Nat) (b : Int) (f : Nat → Int) , (40 - b).toNat = dd → ∀ (hb : 0 ≤ b ∧ b ≤ 40), ∀ (hf : ∀ j : Nat, f j = if (j : Int) < b then pz_bi (q_lfP k (fun _ => 0) j) else iv 134 j),  pz_G 36 2 [some (.inr (.inl 129)), some (.inl x), some (.inl y), some (.inl b)] [] (pz_Sh L, pz_u1 iv 134 f, dv, cc, ss) (pz_PE (pz_Sh L) (.inl none) (fun iv9 => ∃ (l9 : Nat → Int), iv9 = pz_u1 iv 134 l9 ∧ (q_isl k (fun _ => 0) l9)) dv cc ss) := by
    intro dd2
    induction dd2 using Nat.strongRecOn with
    | _ dd2 ih2 =>
    intro b f  hd2 hb hf
    refine pz_G_of pz_b36_2 ?_
    refine w_loc rfl ?_
    refine w_pure rfl ?_
    refine w_ige (fun h1 => ?_) (fun h1 => ?_)
    · refine pz_G_of pz_b36_55 ?_
      refine w_vret ?_
      first | exact ⟨pz_u1 iv 134 f, ⟨f, by rfl, by intro b9 g1 g2; rw [hf, if_pos (by omega), Int.toNat_of_nonneg g1]⟩, lf_v (by rfl)⟩ | (exfalso; omega)
    · refine w_loc rfl ?_
      refine w_getR (q := 134) is_129 rf_129_2 ?_
      refine w_loc rfl ?_
      refine w_loc rfl ?_
      refine w_loc rfl ?_
      refine w_getR (q := 3) is_129 rf_129_0 ?_
      refine w_getR (q := 4) is_3 rf_3_1 ?_
      refine w_getI (v := (iv 4) 0) is_4 (by decide) rfl ?_
      refine w_ige (fun h2 => ?_) (fun h2 => ?_)
      · refine pz_G_of pz_b36_47 ?_
        refine w_pure rfl ?_
        refine w_nil ?_
        refine pz_G_of pz_b36_48 ?_
        refine w_bastm (iv2 := pz_u1 iv 134 (pz_up f b.toNat 0)) is_134 ln_134 ⟨by omega, by omega⟩ (Or.inl rfl) (by exact pz_u2_top _ _ _ _ _) ?_
        refine w_iinc (ls' := [some (.inr (.inl 129)), some (.inl x), some (.inl y), some (.inl (b + 1))]) rfl rfl rfl (by omega) ?_
        refine w_goto ?_
        exact ih2 _ (by omega) (b + 1) (pz_up f b.toNat 0)  rfl (by omega) (by exact q_isl_up (P := q_lfP k (fun _ => 0)) hb.1 hf (by first | exact pz_bi_t ⟨by omega, by assumption, rfl⟩ | exact pz_bi_f (fun q => absurd q.2.1 (by assumption)) | exact pz_bi_f (fun q => by have := q.1; omega)))
      · refine w_loc rfl ?_
        refine w_getR (q := 3) is_129 rf_129_0 ?_
        refine w_getR (q := 4) is_3 rf_3_1 ?_
        refine w_loc rfl ?_
        refine w_loc rfl ?_
        refine w_loc rfl ?_
        have hc3 : pz_R (pz_Sh L) 20 [.inr (.inl 4), .inl b, .inl x, .inl y] (pz_u1 iv 134 f) (.inl (some (.inl (pz_bi (q_hld k b))))) (pz_u1 iv 134 f) := s_X1_holds b x y (by show q_KR k; exact hk) (by show q_cB k (iv 4) (iv 5) (iv 6) (iv 7) (iv 8) (iv 9); exact hB) (by show 0 ≤ b ∧ b < k 1; omega) (by show q_cT k x y; exact hT)
        refine w_call hc3 rfl (pz_cokI is_4 rfl) ?_
        refine w_beq (fun h4 => ?_) (fun h4 => ?_)
        · refine pz_G_of pz_b36_47 ?_
          refine w_pure rfl ?_
          refine w_nil ?_
          refine pz_G_of pz_b36_48 ?_
          refine w_bastm (iv2 := pz_u1 iv 134 (pz_up f b.toNat 0)) is_134 ln_134 ⟨by omega, by omega⟩ (Or.inl rfl) (by exact pz_u2_top _ _ _ _ _) ?_
          refine w_iinc (ls' := [some (.inr (.inl 129)), some (.inl x), some (.inl y), some (.inl (b + 1))]) rfl rfl rfl (by omega) ?_
          refine w_goto ?_
          exact ih2 _ (by omega) (b + 1) (pz_up f b.toNat 0)  rfl (by omega) (by exact q_isl_up (P := q_lfP k (fun _ => 0)) hb.1 hf (by first | exact pz_bi_t ⟨by omega, by assumption, rfl⟩ | exact pz_bi_f (fun q => absurd q.2.1 (by assumption)) | exact pz_bi_f (fun q => by have := q.1; omega)))
        · refine w_pure rfl ?_
          refine w_goto ?_
          refine pz_G_of pz_b36_48 ?_
          refine w_bastm (iv2 := pz_u1 iv 134 (pz_up f b.toNat 1)) is_134 ln_134 ⟨by omega, by omega⟩ (Or.inr rfl) (by exact pz_u2_top _ _ _ _ _) ?_
          refine w_iinc (ls' := [some (.inr (.inl 129)), some (.inl x), some (.inl y), some (.inl (b + 1))]) rfl rfl rfl (by omega) ?_
          refine w_goto ?_
          exact ih2 _ (by omega) (b + 1) (pz_up f b.toNat 1)  rfl (by omega) (by exact q_isl_up (P := q_lfP k (fun _ => 0)) hb.1 hf (by first | exact pz_bi_t ⟨by omega, by assumption, rfl⟩ | exact pz_bi_f (fun q => absurd q.2.1 (by assumption)) | exact pz_bi_f (fun q => by have := q.1; omega)))
  exact lp2 _ 0 (iv 134)  rfl (by omega) (by intro j; rw [if_neg (by omega)])

theorem s_X4_leaveHeld {L : Nat} {iv : Nat → Nat → Int} {k : Nat → Int} (hk : q_KR k) (hB : q_cB k (iv 4) (iv 5) (iv 6) (iv 7) (iv 8) (iv 9)) (hL : q_cL k (iv 25)) : pz_RE (pz_Sh L) 35 [.inr (.inl 129)] iv (.inl none) (fun iv9 => ∃ (l9 : Nat → Int), iv9 = pz_u1 iv 134 l9 ∧ (q_isl k (fun _ => 0) l9)) := by
  intro dv cc ss
  have hk0 := hk.r0
  have hB0 := hB.1
  refine pz_G_mem (iv2 := pz_u1 iv 134 (iv 134)) (by exact (pz_u1_self iv 134).symm) ?_
  show pz_G 35 0 [some (.inr (.inl 129))] [] (pz_Sh L, pz_u1 iv 134 (iv 134), dv, cc, ss) (pz_PE (pz_Sh L) (.inl none) (fun iv9 => ∃ (l9 : Nat → Int), iv9 = pz_u1 iv 134 l9 ∧ (q_isl k (fun _ => 0) l9)) dv cc ss)
  refine pz_G_of pz_b35_0 ?_
  refine w_loc rfl ?_
  refine w_loc rfl ?_
  refine w_getR (q := 3) is_129 rf_129_0 ?_
  have hc1 : pz_R (pz_Sh L) 69 [.inr (.inl 3)] (pz_u1 iv 134 (iv 134)) (.inl (some (.inl (q_sT k)))) (pz_u1 iv 134 (iv 134)) := s_X6_trueLabels (by show q_cL k (iv 25); exact hL)
  refine w_call hc1 rfl (pz_cokI is_3 rfl) ?_
  refine w_loc rfl ?_
  refine w_getR (q := 3) is_129 rf_129_0 ?_
  have hc2 : pz_R (pz_Sh L) 70 [.inr (.inl 3)] (pz_u1 iv 134 (iv 134)) (.inl (some (.inl (q_sF k)))) (pz_u1 iv 134 (iv 134)) := s_X6_falseLabels (by show q_cL k (iv 25); exact hL)
  refine w_call hc2 rfl (pz_cokI is_3 rfl) ?_
  have hc3 := s_X4_leaveHolding (L := L) (iv := pz_u1 iv 134 (iv 134)) (q_sT k) (q_sF k) (by show q_KR k; exact hk) (by show q_cB k (iv 4) (iv 5) (iv 6) (iv 7) (iv 8) (iv 9); exact hB) (by show q_cT k (q_sT k) (q_sF k); exact q_cT_now)
  refine w_callvE hc3 rfl (pz_cokI is_129 rfl) (fun iv9 h9 => ?_)
  obtain ⟨l9_4, h9e, hisl⟩ := h9
  have h9x : iv9 = pz_u1 iv 134 l9_4 := h9e.trans (by rw [pz_u1_top (r := 134)] <;> rfl)
  subst h9x
  replace hisl : q_isl k (fun _ => 0) l9_4 := hisl
  refine w_vret ?_
  first | exact ⟨pz_u1 iv 134 l9_4, ⟨l9_4, by rfl, by exact hisl⟩, lf_v (by rfl)⟩ | (exfalso; omega)

theorem s_X4_layBounds_130 {L : Nat} {iv : Nat → Nat → Int} {k : Nat → Int} {lf : Nat → Int} (hk : q_KR k) (hB : q_cB k (iv 4) (iv 5) (iv 6) (iv 7) (iv 8) (iv 9)) (hlf : q_isl k lf (iv 134)) : pz_R (pz_Sh L) 38 [.inr (.inl 129), .inr (.inl 130)] iv (.inl none) (pz_u1 iv 131 (q_fr (q_bdE k lf) 0 (k 1) (iv 131))) := by
  intro dv cc ss
  have hk0 := hk.r0
  have hB0 := hB.1
  refine pz_G_mem (iv2 := pz_u1 iv 131 (iv 131)) (by exact (pz_u1_self iv 131).symm) ?_
  show pz_G 38 0 [some (.inr (.inl 129)), some (.inr (.inl 130)), none, none] [] (pz_Sh L, pz_u1 iv 131 (iv 131), dv, cc, ss) (pz_P (pz_Sh L) (.inl none) (pz_u1 iv 131 (q_fr (q_bdE k lf) 0 (k 1) (iv 131))) dv cc ss)
  refine pz_G_of pz_b38_0 ?_
  refine w_loc rfl ?_
  refine w_getR (q := 3) is_129 rf_129_0 ?_
  refine w_getR (q := 4) is_3 rf_3_1 ?_
  refine w_loc (ls' := [some (.inr (.inl 129)), some (.inr (.inl 130)), some (.inr (.inl 4)), none]) (st' := []) rfl ?_
  refine w_pure rfl ?_
  refine w_loc (ls' := [some (.inr (.inl 129)), some (.inr (.inl 130)), some (.inr (.inl 4)), some (.inl 0)]) (st' := []) rfl ?_
  refine w_nil ?_
  have lp10 : ∀ (dd : Nat) (b : Int) (f : Nat → Int) , (40 - b).toNat = dd → ∀ (hb : 0 ≤ b ∧ b ≤ 40), ∀ (hf : f = q_fr (q_bdE k lf) 0 (min b (k 1)) (iv 131)),  pz_G 38 10 [some (.inr (.inl 129)), some (.inr (.inl 130)), some (.inr (.inl 4)), some (.inl b)] [] (pz_Sh L, pz_u1 iv 131 f, dv, cc, ss) (pz_P (pz_Sh L) (.inl none) (pz_u1 iv 131 (q_fr (q_bdE k lf) 0 (k 1) (iv 131))) dv cc ss) := by
    intro dd10
    induction dd10 using Nat.strongRecOn with
    | _ dd10 ih10 =>
    intro b f  hd10 hb hf
    have hBb := fun h => hB.2 b hb.1 h
    have hbd := fun h => hk.bd hb.1 h
    have hl1 := hlf b hb.1
    have hl2 : b < 40 → iv 134 b.toNat ≠ 0 → q_lfP k lf b := fun h1 h2 => pz_bi_ne (by rw [← hl1 (by omega)]; exact h2)
    have hl3 : b < 40 → iv 134 b.toNat = 0 → ¬ q_lfP k lf b := fun h1 h2 => pz_bi_eq (by rw [← hl1 (by omega)]; exact h2)
    refine pz_G_of pz_b38_10 ?_
    refine w_loc rfl ?_
    refine w_pure rfl ?_
    refine w_ige (fun h1 => ?_) (fun h1 => ?_)
    · refine pz_G_of pz_b38_53 ?_
      refine w_vret ?_
      first | exact lf_v (by rw [hf, show min b (k 1) = k 1 by omega]) | (exfalso; omega)
    · refine w_loc rfl ?_
      refine w_getR (q := 134) is_129 rf_129_2 ?_
      refine w_loc rfl ?_
      refine w_bald (v := (iv 134) b.toNat) is_134 ln_134 ⟨by omega, by omega⟩ rfl ?_
      refine w_zeq (fun h2 => ?_) (fun h2 => ?_)
      · refine pz_G_of pz_b38_47 ?_
        refine w_iinc (ls' := [some (.inr (.inl 129)), some (.inr (.inl 130)), some (.inr (.inl 4)), some (.inl (b + 1))]) rfl rfl rfl (by omega) ?_
        refine w_goto ?_
        exact ih10 _ (by omega) (b + 1) f  rfl (by omega) (by first | exact q_lb_n hb.1 (hl3 (by omega) (by assumption)) hf | exact q_lb_y hb.1 (hl2 (by omega) (by assumption)) hf (by omega) (by omega) (by omega))
      · have hl4 := hl2 (by omega) (by assumption)
        refine w_loc rfl ?_
        refine w_loc rfl ?_
        refine w_getR (q := 5) is_4 rf_4_1 ?_
        refine w_loc rfl ?_
        refine w_iald (v := (iv 5) b.toNat) is_5 ln_5 ⟨by omega, by omega⟩ rfl ?_
        refine w_loc rfl ?_
        refine w_getR (q := 6) is_4 rf_4_2 ?_
        refine w_loc rfl ?_
        refine w_iald (v := (iv 6) b.toNat) is_6 ln_6 ⟨by omega, by omega⟩ rfl ?_
        refine w_loc rfl ?_
        refine w_getR (q := 7) is_4 rf_4_3 ?_
        refine w_loc rfl ?_
        refine w_iald (v := (iv 7) b.toNat) is_7 ln_7 ⟨by omega, by omega⟩ rfl ?_
        have hc3 : pz_R (pz_Sh L) 54 [.inr (.inl 130), .inl ((iv 5) b.toNat), .inl ((iv 6) b.toNat), .inl ((iv 7) b.toNat)] (pz_u1 iv 131 f) (.inl none) (pz_u1 iv 131 (q_eg f ((iv 5) b.toNat) ((iv 6) b.toNat) ((iv 7) b.toNat))) := pz_R_mem (s_X5_addEdge_130 ((iv 5) b.toNat) ((iv 6) b.toNat) ((iv 7) b.toNat) (by show 0 ≤ ((iv 5) b.toNat) ∧ ((iv 5) b.toNat) ≤ 9; omega) (by show 0 ≤ ((iv 6) b.toNat) ∧ ((iv 6) b.toNat) ≤ 9; omega)) (by rw [pz_u1_top (r := 131)]; rfl)
        refine w_callv hc3 rfl (pz_cokI is_130 rfl) ?_
        refine w_nil ?_
        refine pz_G_of pz_b38_47 ?_
        refine w_iinc (ls' := [some (.inr (.inl 129)), some (.inr (.inl 130)), some (.inr (.inl 4)), some (.inl (b + 1))]) rfl rfl rfl (by omega) ?_
        refine w_goto ?_
        exact ih10 _ (by omega) (b + 1) (q_eg f ((iv 5) b.toNat) ((iv 6) b.toNat) ((iv 7) b.toNat))  rfl (by omega) (by first | exact q_lb_n hb.1 (hl3 (by omega) (by assumption)) hf | exact q_lb_y hb.1 (hl2 (by omega) (by assumption)) hf (by omega) (by omega) (by omega))
  exact lp10 _ 0 (iv 131)  rfl (by omega) (by rw [q_fr_0 (by omega)])

theorem s_X4_layStarts_130 {L : Nat} {iv : Nat → Nat → Int} {k : Nat → Int} (hk : q_KR k) (hE : q_cE k (iv 3)) (hC : q_cC k (iv 15) (iv 16)) : pz_R (pz_Sh L) 39 [.inr (.inl 129), .inr (.inl 130)] iv (.inl none) (pz_u1 iv 131 (q_fr (q_stE k) 1 (k 0) (iv 131))) := by
  intro dv cc ss
  have hk0 := hk.r0
  have hE0 := hE
  have hC0 := hC.1
  refine pz_G_mem (iv2 := pz_u1 iv 131 (iv 131)) (by exact (pz_u1_self iv 131).symm) ?_
  show pz_G 39 0 [some (.inr (.inl 129)), some (.inr (.inl 130)), none, none] [] (pz_Sh L, pz_u1 iv 131 (iv 131), dv, cc, ss) (pz_P (pz_Sh L) (.inl none) (pz_u1 iv 131 (q_fr (q_stE k) 1 (k 0) (iv 131))) dv cc ss)
  refine pz_G_of pz_b39_0 ?_
  refine w_pure rfl ?_
  refine w_loc (ls' := [some (.inr (.inl 129)), some (.inr (.inl 130)), some (.inl 1), none]) (st' := []) rfl ?_
  refine w_nil ?_
  have lp2 : ∀ (dd : Nat) (e : Int) (f : Nat → Int) (u2_3 : Option pz_V) (hu2_3 : pz_nc u2_3 = true), (k 0 - e).toNat = dd → ∀ (he : 1 ≤ e ∧ e ≤ k 0), ∀ (hf : f = q_fr (q_stE k) 1 e (iv 131)),  pz_G 39 2 [some (.inr (.inl 129)), some (.inr (.inl 130)), some (.inl e), u2_3] [] (pz_Sh L, pz_u1 iv 131 f, dv, cc, ss) (pz_P (pz_Sh L) (.inl none) (pz_u1 iv 131 (q_fr (q_stE k) 1 (k 0) (iv 131))) dv cc ss) := by
    intro dd2
    induction dd2 using Nat.strongRecOn with
    | _ dd2 ih2 =>
    intro e f u2_3 hu2_3 hd2 he hf
    have hst := fun h => hk.st (e := e) (by omega) h
    refine pz_G_of pz_b39_2 ?_
    refine w_loc rfl ?_
    refine w_loc rfl ?_
    refine w_getR (q := 3) is_129 rf_129_0 ?_
    refine w_getI (v := (iv 3) 0) is_3 (by decide) rfl ?_
    refine w_ige (fun h1 => ?_) (fun h1 => ?_)
    · refine pz_G_of pz_b39_53 ?_
      refine w_vret ?_
      first | exact lf_v (by rw [hf, show e = k 0 by omega]) | (exfalso; omega)
    · refine w_loc rfl ?_
      refine w_getR (q := 3) is_129 rf_129_0 ?_
      refine w_getR (q := 15) is_3 rf_3_3 ?_
      refine w_loc rfl ?_
      have hc2 : pz_R (pz_Sh L) 26 [.inr (.inl 15), .inl e] (pz_u1 iv 131 f) (.inl (some (.inl (pz_bi (q_sta k e))))) (pz_u1 iv 131 f) := s_X2_hasStarted_15 e (by show q_KR k; exact hk) (by show q_cC k (iv 15) (iv 16); exact hC) (by show 0 ≤ e ∧ e ≤ 9; omega)
      refine w_call hc2 rfl (pz_cokI is_15 rfl) ?_
      refine w_beq (fun h3 => ?_) (fun h3 => ?_)
      · refine pz_G_of pz_b39_47 ?_
        refine w_iinc (ls' := [some (.inr (.inl 129)), some (.inr (.inl 130)), some (.inl (e + 1)), u2_3]) rfl rfl rfl (by omega) ?_
        refine w_goto ?_
        exact ih2 _ (by omega) (e + 1) f u2_3 hu2_3 rfl (by omega) (by rw [q_fr_s (by omega), ← hf]; unfold q_stE; first | rw [q_if_t (by assumption)] | rw [q_if_f (by assumption)])
      · refine w_loc rfl ?_
        refine w_getR (q := 3) is_129 rf_129_0 ?_
        refine w_getR (q := 15) is_3 rf_3_3 ?_
        refine w_loc rfl ?_
        have hc4 : pz_R (pz_Sh L) 25 [.inr (.inl 15), .inl e] (pz_u1 iv 131 f) (.inl (some (.inl (k (6 + e).toNat)))) (pz_u1 iv 131 f) := s_X2_startOf_15 e (by show q_KR k; exact hk) (by show q_cC k (iv 15) (iv 16); exact hC) (by show 0 ≤ e ∧ e ≤ 9; omega)
        refine w_call hc4 rfl (pz_cokI is_15 rfl) ?_
        refine w_loc (ls' := [some (.inr (.inl 129)), some (.inr (.inl 130)), some (.inl e), some (.inl (k (6 + e).toNat))]) (st' := []) rfl ?_
        refine w_loc rfl ?_
        refine w_pure rfl ?_
        refine w_loc rfl ?_
        refine w_loc rfl ?_
        refine w_loc rfl ?_
        have hc5 : pz_R (pz_Sh L) 55 [.inr (.inl 130), .inl 0, .inl e, .inl (k (6 + e).toNat), .inl (k (6 + e).toNat)] (pz_u1 iv 131 f) (.inl none) (pz_u1 iv 131 (q_eg (q_eg f 0 e (k (6 + e).toNat)) e 0 (-(k (6 + e).toNat)))) := pz_R_mem (s_X5_addGap_130 0 e (k (6 + e).toNat) (k (6 + e).toNat) (by show 0 ≤ 0 ∧ 0 ≤ 9; omega) (by show 0 ≤ e ∧ e ≤ 9; omega) (by show -100000 ≤ (k (6 + e).toNat) ∧ (k (6 + e).toNat) ≤ 100000; omega)) (by rw [pz_u1_top (r := 131)]; rfl)
        refine w_callv hc5 rfl (pz_cokI is_130 rfl) ?_
        refine w_nil ?_
        refine pz_G_of pz_b39_47 ?_
        refine w_iinc (ls' := [some (.inr (.inl 129)), some (.inr (.inl 130)), some (.inl (e + 1)), some (.inl (k (6 + e).toNat))]) rfl rfl rfl (by omega) ?_
        refine w_goto ?_
        exact ih2 _ (by omega) (e + 1) (q_eg (q_eg f 0 e (k (6 + e).toNat)) e 0 (-(k (6 + e).toNat))) (some (.inl (k (6 + e).toNat))) rfl rfl (by omega) (by rw [q_fr_s (by omega), ← hf]; unfold q_stE; first | rw [q_if_t (by assumption)] | rw [q_if_f (by assumption)])
  exact lp2 _ 1 (iv 131) (none) rfl rfl (by omega) (by rw [q_fr_0 (by omega)])

theorem s_X4_layLeft_130 {L : Nat} {iv : Nat → Nat → Int} {k : Nat → Int} {lf : Nat → Int} (hk : q_KR k) (hE : q_cE k (iv 3)) (hB : q_cB k (iv 4) (iv 5) (iv 6) (iv 7) (iv 8) (iv 9)) (hS : q_cS k (iv 10) (iv 11) (iv 12) (iv 13) (iv 14)) (hC : q_cC k (iv 15) (iv 16)) (hlf : q_isl k lf (iv 134)) : pz_R (pz_Sh L) 37 [.inr (.inl 129), .inr (.inl 130)] iv (.inl none) (pz_u1 (pz_u1 iv 130 (pz_up (iv 130) 0 (k 0))) 131 (q_lay k lf (iv 131))) := by
  intro dv cc ss
  have hk0 := hk.r0
  have hE0 := hE
  have hB0 := hB.1
  have hS0 := hS.1
  have hC0 := hC.1
  refine pz_G_mem (iv2 := pz_u1 (pz_u1 iv 130 (iv 130)) 131 (iv 131)) (by exact ((pz_u1_self iv 130).symm).trans (pz_u1_self (pz_u1 iv 130 (iv 130)) 131).symm) ?_
  show pz_G 37 0 [some (.inr (.inl 129)), some (.inr (.inl 130)), none, none] [] (pz_Sh L, pz_u1 (pz_u1 iv 130 (iv 130)) 131 (iv 131), dv, cc, ss) (pz_P (pz_Sh L) (.inl none) (pz_u1 (pz_u1 iv 130 (pz_up (iv 130) 0 (k 0))) 131 (q_lay k lf (iv 131))) dv cc ss)
  refine pz_G_of pz_b37_0 ?_
  refine w_loc rfl ?_
  refine w_loc rfl ?_
  refine w_getR (q := 3) is_129 rf_129_0 ?_
  refine w_getI (v := (iv 3) 0) is_3 (by decide) rfl ?_
  have hc1 : pz_R (pz_Sh L) 53 [.inr (.inl 130), .inl ((iv 3) 0)] (pz_u1 (pz_u1 iv 130 (iv 130)) 131 (iv 131)) (.inl none) (pz_u1 (pz_u1 iv 130 (pz_up (iv 130) 0 ((iv 3) 0))) 131 (q_ncl ((iv 3) 0) (iv 131))) := pz_R_mem (s_X5_clear_130 ((iv 3) 0) (by show 1 ≤ ((iv 3) 0) ∧ ((iv 3) 0) ≤ 10; omega)) (by rw [pz_u1_in (r := 130) (q := 131) (by decide)]; rw [pz_u1_top (r := 130)]; rw [pz_u1_top (r := 131)]; rfl)
  refine w_callv hc1 rfl (pz_cokI is_130 rfl) ?_
  refine w_loc rfl ?_
  refine w_loc rfl ?_
  have hc2 : pz_R (pz_Sh L) 38 [.inr (.inl 129), .inr (.inl 130)] (pz_u1 (pz_u1 iv 130 (pz_up (iv 130) 0 ((iv 3) 0))) 131 (q_ncl ((iv 3) 0) (iv 131))) (.inl none) (pz_u1 (pz_u1 iv 130 (pz_up (iv 130) 0 ((iv 3) 0))) 131 (q_fr (q_bdE k lf) 0 (k 1) (q_ncl ((iv 3) 0) (iv 131)))) := pz_R_mem (s_X4_layBounds_130 (by show q_KR k; exact hk) (by show q_cB k (iv 4) (iv 5) (iv 6) (iv 7) (iv 8) (iv 9); exact hB) (by show q_isl k lf (iv 134); exact hlf)) (by rw [pz_u1_top (r := 131)]; rfl)
  refine w_callv hc2 rfl (pz_cokI is_129 rfl) ?_
  refine w_loc rfl ?_
  refine w_getR (q := 3) is_129 rf_129_0 ?_
  refine w_getR (q := 10) is_3 rf_3_2 ?_
  refine w_loc (ls' := [some (.inr (.inl 129)), some (.inr (.inl 130)), some (.inr (.inl 10)), none]) (st' := []) rfl ?_
  refine w_pure rfl ?_
  refine w_loc (ls' := [some (.inr (.inl 129)), some (.inr (.inl 130)), some (.inr (.inl 10)), some (.inl 0)]) (st' := []) rfl ?_
  refine w_nil ?_
  have lp26 : ∀ (dd : Nat) (s : Int) (f : Nat → Int) , (k 2 - s).toNat = dd → ∀ (hs : 0 ≤ s ∧ s ≤ k 2), ∀ (hf : f = q_fr (q_spE k) 0 s (q_fr (q_bdE k lf) 0 (k 1) (q_ncl (k 0) (iv 131)))),  pz_G 37 26 [some (.inr (.inl 129)), some (.inr (.inl 130)), some (.inr (.inl 10)), some (.inl s)] [] (pz_Sh L, pz_u1 (pz_u1 iv 130 (pz_up (iv 130) 0 ((iv 3) 0))) 131 f, dv, cc, ss) (pz_P (pz_Sh L) (.inl none) (pz_u1 (pz_u1 iv 130 (pz_up (iv 130) 0 (k 0))) 131 (q_lay k lf (iv 131))) dv cc ss) := by
    intro dd26
    induction dd26 using Nat.strongRecOn with
    | _ dd26 ih26 =>
    intro s f  hd26 hs hf
    have hsp := fun h => hk.sp hs.1 h
    refine pz_G_of pz_b37_26 ?_
    refine w_loc rfl ?_
    refine w_loc rfl ?_
    refine w_getI (v := (iv 10) 0) is_10 (by decide) rfl ?_
    refine w_ige (fun h3 => ?_) (fun h3 => ?_)
    · refine pz_G_of pz_b37_64 ?_
      refine w_loc rfl ?_
      refine w_loc rfl ?_
      have hc4 : pz_R (pz_Sh L) 39 [.inr (.inl 129), .inr (.inl 130)] (pz_u1 (pz_u1 iv 130 (pz_up (iv 130) 0 ((iv 3) 0))) 131 f) (.inl none) (pz_u1 (pz_u1 iv 130 (pz_up (iv 130) 0 ((iv 3) 0))) 131 (q_fr (q_stE k) 1 (k 0) f)) := pz_R_mem (s_X4_layStarts_130 (by show q_KR k; exact hk) (by show q_cE k (iv 3); exact hE) (by show q_cC k (iv 15) (iv 16); exact hC)) (by rw [pz_u1_top (r := 131)]; rfl)
      refine w_callv hc4 rfl (pz_cokI is_129 rfl) ?_
      refine w_vret ?_
      first | exact lf_v (by rw [hE.1, hf, show s = k 2 by omega]; rfl) | (exfalso; omega)
    · refine w_loc rfl ?_
      refine w_loc rfl ?_
      refine w_loc rfl ?_
      have hc5 : pz_R (pz_Sh L) 110 [.inr (.inl 10), .inl s] (pz_u1 (pz_u1 iv 130 (pz_up (iv 130) 0 ((iv 3) 0))) 131 f) (.inl (some (.inl (k (212 + 4 * s).toNat)))) (pz_u1 (pz_u1 iv 130 (pz_up (iv 130) 0 ((iv 3) 0))) 131 f) := s_X9_firstOf s (by show q_KR k; exact hk) (by show q_cS k (iv 10) (iv 11) (iv 12) (iv 13) (iv 14); exact hS) (by show 0 ≤ s ∧ s < k 2; omega)
      refine w_call hc5 rfl (pz_cokI is_10 rfl) ?_
      refine w_loc rfl ?_
      refine w_loc rfl ?_
      have hc6 : pz_R (pz_Sh L) 111 [.inr (.inl 10), .inl s] (pz_u1 (pz_u1 iv 130 (pz_up (iv 130) 0 ((iv 3) 0))) 131 f) (.inl (some (.inl (k (212 + 4 * s + 1).toNat)))) (pz_u1 (pz_u1 iv 130 (pz_up (iv 130) 0 ((iv 3) 0))) 131 f) := s_X9_endOf s (by show q_KR k; exact hk) (by show q_cS k (iv 10) (iv 11) (iv 12) (iv 13) (iv 14); exact hS) (by show 0 ≤ s ∧ s < k 2; omega)
      refine w_call hc6 rfl (pz_cokI is_10 rfl) ?_
      refine w_loc rfl ?_
      refine w_loc rfl ?_
      have hc7 : pz_R (pz_Sh L) 112 [.inr (.inl 10), .inl s] (pz_u1 (pz_u1 iv 130 (pz_up (iv 130) 0 ((iv 3) 0))) 131 f) (.inl (some (.inl (k (212 + 4 * s + 2).toNat)))) (pz_u1 (pz_u1 iv 130 (pz_up (iv 130) 0 ((iv 3) 0))) 131 f) := s_X9_leastOf s (by show q_KR k; exact hk) (by show q_cS k (iv 10) (iv 11) (iv 12) (iv 13) (iv 14); exact hS) (by show 0 ≤ s ∧ s < k 2; omega)
      refine w_call hc7 rfl (pz_cokI is_10 rfl) ?_
      refine w_loc rfl ?_
      refine w_loc rfl ?_
      have hc8 : pz_R (pz_Sh L) 113 [.inr (.inl 10), .inl s] (pz_u1 (pz_u1 iv 130 (pz_up (iv 130) 0 ((iv 3) 0))) 131 f) (.inl (some (.inl (k (212 + 4 * s + 3).toNat)))) (pz_u1 (pz_u1 iv 130 (pz_up (iv 130) 0 ((iv 3) 0))) 131 f) := s_X9_greatestOf s (by show q_KR k; exact hk) (by show q_cS k (iv 10) (iv 11) (iv 12) (iv 13) (iv 14); exact hS) (by show 0 ≤ s ∧ s < k 2; omega)
      refine w_call hc8 rfl (pz_cokI is_10 rfl) ?_
      have hc9 : pz_R (pz_Sh L) 55 [.inr (.inl 130), .inl (k (212 + 4 * s).toNat), .inl (k (212 + 4 * s + 1).toNat), .inl (k (212 + 4 * s + 2).toNat), .inl (k (212 + 4 * s + 3).toNat)] (pz_u1 (pz_u1 iv 130 (pz_up (iv 130) 0 ((iv 3) 0))) 131 f) (.inl none) (pz_u1 (pz_u1 iv 130 (pz_up (iv 130) 0 ((iv 3) 0))) 131 (q_eg (q_eg f (k (212 + 4 * s).toNat) (k (212 + 4 * s + 1).toNat) (k (212 + 4 * s + 3).toNat)) (k (212 + 4 * s + 1).toNat) (k (212 + 4 * s).toNat) (-(k (212 + 4 * s + 2).toNat)))) := pz_R_mem (s_X5_addGap_130 (k (212 + 4 * s).toNat) (k (212 + 4 * s + 1).toNat) (k (212 + 4 * s + 2).toNat) (k (212 + 4 * s + 3).toNat) (by show 0 ≤ (k (212 + 4 * s).toNat) ∧ (k (212 + 4 * s).toNat) ≤ 9; omega) (by show 0 ≤ (k (212 + 4 * s + 1).toNat) ∧ (k (212 + 4 * s + 1).toNat) ≤ 9; omega) (by show -100000 ≤ (k (212 + 4 * s + 2).toNat) ∧ (k (212 + 4 * s + 2).toNat) ≤ 100000; omega)) (by rw [pz_u1_top (r := 131)]; rfl)
      refine w_callv hc9 rfl (pz_cokI is_130 rfl) ?_
      refine w_iinc (ls' := [some (.inr (.inl 129)), some (.inr (.inl 130)), some (.inr (.inl 10)), some (.inl (s + 1))]) rfl rfl rfl (by omega) ?_
      refine w_goto ?_
      exact ih26 _ (by omega) (s + 1) (q_eg (q_eg f (k (212 + 4 * s).toNat) (k (212 + 4 * s + 1).toNat) (k (212 + 4 * s + 3).toNat)) (k (212 + 4 * s + 1).toNat) (k (212 + 4 * s).toNat) (-(k (212 + 4 * s + 2).toNat)))  rfl (by omega) (by rw [q_fr_s (by omega), ← hf]; rfl)
  exact lp26 _ 0 (q_fr (q_bdE k lf) 0 (k 1) (q_ncl ((iv 3) 0) (iv 131)))  rfl (by omega) (by rw [hE.1]; exact (q_fr_0 (Int.le_refl _)).symm)

theorem s_X4_layBounds_138 {L : Nat} {iv : Nat → Nat → Int} {k : Nat → Int} {lf : Nat → Int} (hk : q_KR k) (hB : q_cB k (iv 4) (iv 5) (iv 6) (iv 7) (iv 8) (iv 9)) (hlf : q_isl k lf (iv 134)) : pz_R (pz_Sh L) 38 [.inr (.inl 129), .inr (.inl 138)] iv (.inl none) (pz_u1 iv 139 (q_fr (q_bdE k lf) 0 (k 1) (iv 139))) := by
  intro dv cc ss
  have hk0 := hk.r0
  have hB0 := hB.1
  refine pz_G_mem (iv2 := pz_u1 iv 139 (iv 139)) (by exact (pz_u1_self iv 139).symm) ?_
  show pz_G 38 0 [some (.inr (.inl 129)), some (.inr (.inl 138)), none, none] [] (pz_Sh L, pz_u1 iv 139 (iv 139), dv, cc, ss) (pz_P (pz_Sh L) (.inl none) (pz_u1 iv 139 (q_fr (q_bdE k lf) 0 (k 1) (iv 139))) dv cc ss)
  refine pz_G_of pz_b38_0 ?_
  refine w_loc rfl ?_
  refine w_getR (q := 3) is_129 rf_129_0 ?_
  refine w_getR (q := 4) is_3 rf_3_1 ?_
  refine w_loc (ls' := [some (.inr (.inl 129)), some (.inr (.inl 138)), some (.inr (.inl 4)), none]) (st' := []) rfl ?_
  refine w_pure rfl ?_
  refine w_loc (ls' := [some (.inr (.inl 129)), some (.inr (.inl 138)), some (.inr (.inl 4)), some (.inl 0)]) (st' := []) rfl ?_
  refine w_nil ?_
  have lp10 : ∀ (dd : Nat) (b : Int) (f : Nat → Int) , (40 - b).toNat = dd → ∀ (hb : 0 ≤ b ∧ b ≤ 40), ∀ (hf : f = q_fr (q_bdE k lf) 0 (min b (k 1)) (iv 139)),  pz_G 38 10 [some (.inr (.inl 129)), some (.inr (.inl 138)), some (.inr (.inl 4)), some (.inl b)] [] (pz_Sh L, pz_u1 iv 139 f, dv, cc, ss) (pz_P (pz_Sh L) (.inl none) (pz_u1 iv 139 (q_fr (q_bdE k lf) 0 (k 1) (iv 139))) dv cc ss) := by
    intro dd10
    induction dd10 using Nat.strongRecOn with
    | _ dd10 ih10 =>
    intro b f  hd10 hb hf
    have hBb := fun h => hB.2 b hb.1 h
    have hbd := fun h => hk.bd hb.1 h
    have hl1 := hlf b hb.1
    have hl2 : b < 40 → iv 134 b.toNat ≠ 0 → q_lfP k lf b := fun h1 h2 => pz_bi_ne (by rw [← hl1 (by omega)]; exact h2)
    have hl3 : b < 40 → iv 134 b.toNat = 0 → ¬ q_lfP k lf b := fun h1 h2 => pz_bi_eq (by rw [← hl1 (by omega)]; exact h2)
    refine pz_G_of pz_b38_10 ?_
    refine w_loc rfl ?_
    refine w_pure rfl ?_
    refine w_ige (fun h1 => ?_) (fun h1 => ?_)
    · refine pz_G_of pz_b38_53 ?_
      refine w_vret ?_
      first | exact lf_v (by rw [hf, show min b (k 1) = k 1 by omega]) | (exfalso; omega)
    · refine w_loc rfl ?_
      refine w_getR (q := 134) is_129 rf_129_2 ?_
      refine w_loc rfl ?_
      refine w_bald (v := (iv 134) b.toNat) is_134 ln_134 ⟨by omega, by omega⟩ rfl ?_
      refine w_zeq (fun h2 => ?_) (fun h2 => ?_)
      · refine pz_G_of pz_b38_47 ?_
        refine w_iinc (ls' := [some (.inr (.inl 129)), some (.inr (.inl 138)), some (.inr (.inl 4)), some (.inl (b + 1))]) rfl rfl rfl (by omega) ?_
        refine w_goto ?_
        exact ih10 _ (by omega) (b + 1) f  rfl (by omega) (by first | exact q_lb_n hb.1 (hl3 (by omega) (by assumption)) hf | exact q_lb_y hb.1 (hl2 (by omega) (by assumption)) hf (by omega) (by omega) (by omega))
      · have hl4 := hl2 (by omega) (by assumption)
        refine w_loc rfl ?_
        refine w_loc rfl ?_
        refine w_getR (q := 5) is_4 rf_4_1 ?_
        refine w_loc rfl ?_
        refine w_iald (v := (iv 5) b.toNat) is_5 ln_5 ⟨by omega, by omega⟩ rfl ?_
        refine w_loc rfl ?_
        refine w_getR (q := 6) is_4 rf_4_2 ?_
        refine w_loc rfl ?_
        refine w_iald (v := (iv 6) b.toNat) is_6 ln_6 ⟨by omega, by omega⟩ rfl ?_
        refine w_loc rfl ?_
        refine w_getR (q := 7) is_4 rf_4_3 ?_
        refine w_loc rfl ?_
        refine w_iald (v := (iv 7) b.toNat) is_7 ln_7 ⟨by omega, by omega⟩ rfl ?_
        have hc3 : pz_R (pz_Sh L) 54 [.inr (.inl 138), .inl ((iv 5) b.toNat), .inl ((iv 6) b.toNat), .inl ((iv 7) b.toNat)] (pz_u1 iv 139 f) (.inl none) (pz_u1 iv 139 (q_eg f ((iv 5) b.toNat) ((iv 6) b.toNat) ((iv 7) b.toNat))) := pz_R_mem (s_X5_addEdge_138 ((iv 5) b.toNat) ((iv 6) b.toNat) ((iv 7) b.toNat) (by show 0 ≤ ((iv 5) b.toNat) ∧ ((iv 5) b.toNat) ≤ 9; omega) (by show 0 ≤ ((iv 6) b.toNat) ∧ ((iv 6) b.toNat) ≤ 9; omega)) (by rw [pz_u1_top (r := 139)]; rfl)
        refine w_callv hc3 rfl (pz_cokI is_138 rfl) ?_
        refine w_nil ?_
        refine pz_G_of pz_b38_47 ?_
        refine w_iinc (ls' := [some (.inr (.inl 129)), some (.inr (.inl 138)), some (.inr (.inl 4)), some (.inl (b + 1))]) rfl rfl rfl (by omega) ?_
        refine w_goto ?_
        exact ih10 _ (by omega) (b + 1) (q_eg f ((iv 5) b.toNat) ((iv 6) b.toNat) ((iv 7) b.toNat))  rfl (by omega) (by first | exact q_lb_n hb.1 (hl3 (by omega) (by assumption)) hf | exact q_lb_y hb.1 (hl2 (by omega) (by assumption)) hf (by omega) (by omega) (by omega))
  exact lp10 _ 0 (iv 139)  rfl (by omega) (by rw [q_fr_0 (by omega)])

theorem s_X4_layStarts_138 {L : Nat} {iv : Nat → Nat → Int} {k : Nat → Int} (hk : q_KR k) (hE : q_cE k (iv 3)) (hC : q_cC k (iv 15) (iv 16)) : pz_R (pz_Sh L) 39 [.inr (.inl 129), .inr (.inl 138)] iv (.inl none) (pz_u1 iv 139 (q_fr (q_stE k) 1 (k 0) (iv 139))) := by
  intro dv cc ss
  have hk0 := hk.r0
  have hE0 := hE
  have hC0 := hC.1
  refine pz_G_mem (iv2 := pz_u1 iv 139 (iv 139)) (by exact (pz_u1_self iv 139).symm) ?_
  show pz_G 39 0 [some (.inr (.inl 129)), some (.inr (.inl 138)), none, none] [] (pz_Sh L, pz_u1 iv 139 (iv 139), dv, cc, ss) (pz_P (pz_Sh L) (.inl none) (pz_u1 iv 139 (q_fr (q_stE k) 1 (k 0) (iv 139))) dv cc ss)
  refine pz_G_of pz_b39_0 ?_
  refine w_pure rfl ?_
  refine w_loc (ls' := [some (.inr (.inl 129)), some (.inr (.inl 138)), some (.inl 1), none]) (st' := []) rfl ?_
  refine w_nil ?_
  have lp2 : ∀ (dd : Nat) (e : Int) (f : Nat → Int) (u2_3 : Option pz_V) (hu2_3 : pz_nc u2_3 = true), (k 0 - e).toNat = dd → ∀ (he : 1 ≤ e ∧ e ≤ k 0), ∀ (hf : f = q_fr (q_stE k) 1 e (iv 139)),  pz_G 39 2 [some (.inr (.inl 129)), some (.inr (.inl 138)), some (.inl e), u2_3] [] (pz_Sh L, pz_u1 iv 139 f, dv, cc, ss) (pz_P (pz_Sh L) (.inl none) (pz_u1 iv 139 (q_fr (q_stE k) 1 (k 0) (iv 139))) dv cc ss) := by
    intro dd2
    induction dd2 using Nat.strongRecOn with
    | _ dd2 ih2 =>
    intro e f u2_3 hu2_3 hd2 he hf
    have hst := fun h => hk.st (e := e) (by omega) h
    refine pz_G_of pz_b39_2 ?_
    refine w_loc rfl ?_
    refine w_loc rfl ?_
    refine w_getR (q := 3) is_129 rf_129_0 ?_
    refine w_getI (v := (iv 3) 0) is_3 (by decide) rfl ?_
    refine w_ige (fun h1 => ?_) (fun h1 => ?_)
    · refine pz_G_of pz_b39_53 ?_
      refine w_vret ?_
      first | exact lf_v (by rw [hf, show e = k 0 by omega]) | (exfalso; omega)
    · refine w_loc rfl ?_
      refine w_getR (q := 3) is_129 rf_129_0 ?_
      refine w_getR (q := 15) is_3 rf_3_3 ?_
      refine w_loc rfl ?_
      have hc2 : pz_R (pz_Sh L) 26 [.inr (.inl 15), .inl e] (pz_u1 iv 139 f) (.inl (some (.inl (pz_bi (q_sta k e))))) (pz_u1 iv 139 f) := s_X2_hasStarted_15 e (by show q_KR k; exact hk) (by show q_cC k (iv 15) (iv 16); exact hC) (by show 0 ≤ e ∧ e ≤ 9; omega)
      refine w_call hc2 rfl (pz_cokI is_15 rfl) ?_
      refine w_beq (fun h3 => ?_) (fun h3 => ?_)
      · refine pz_G_of pz_b39_47 ?_
        refine w_iinc (ls' := [some (.inr (.inl 129)), some (.inr (.inl 138)), some (.inl (e + 1)), u2_3]) rfl rfl rfl (by omega) ?_
        refine w_goto ?_
        exact ih2 _ (by omega) (e + 1) f u2_3 hu2_3 rfl (by omega) (by rw [q_fr_s (by omega), ← hf]; unfold q_stE; first | rw [q_if_t (by assumption)] | rw [q_if_f (by assumption)])
      · refine w_loc rfl ?_
        refine w_getR (q := 3) is_129 rf_129_0 ?_
        refine w_getR (q := 15) is_3 rf_3_3 ?_
        refine w_loc rfl ?_
        have hc4 : pz_R (pz_Sh L) 25 [.inr (.inl 15), .inl e] (pz_u1 iv 139 f) (.inl (some (.inl (k (6 + e).toNat)))) (pz_u1 iv 139 f) := s_X2_startOf_15 e (by show q_KR k; exact hk) (by show q_cC k (iv 15) (iv 16); exact hC) (by show 0 ≤ e ∧ e ≤ 9; omega)
        refine w_call hc4 rfl (pz_cokI is_15 rfl) ?_
        refine w_loc (ls' := [some (.inr (.inl 129)), some (.inr (.inl 138)), some (.inl e), some (.inl (k (6 + e).toNat))]) (st' := []) rfl ?_
        refine w_loc rfl ?_
        refine w_pure rfl ?_
        refine w_loc rfl ?_
        refine w_loc rfl ?_
        refine w_loc rfl ?_
        have hc5 : pz_R (pz_Sh L) 55 [.inr (.inl 138), .inl 0, .inl e, .inl (k (6 + e).toNat), .inl (k (6 + e).toNat)] (pz_u1 iv 139 f) (.inl none) (pz_u1 iv 139 (q_eg (q_eg f 0 e (k (6 + e).toNat)) e 0 (-(k (6 + e).toNat)))) := pz_R_mem (s_X5_addGap_138 0 e (k (6 + e).toNat) (k (6 + e).toNat) (by show 0 ≤ 0 ∧ 0 ≤ 9; omega) (by show 0 ≤ e ∧ e ≤ 9; omega) (by show -100000 ≤ (k (6 + e).toNat) ∧ (k (6 + e).toNat) ≤ 100000; omega)) (by rw [pz_u1_top (r := 139)]; rfl)
        refine w_callv hc5 rfl (pz_cokI is_138 rfl) ?_
        refine w_nil ?_
        refine pz_G_of pz_b39_47 ?_
        refine w_iinc (ls' := [some (.inr (.inl 129)), some (.inr (.inl 138)), some (.inl (e + 1)), some (.inl (k (6 + e).toNat))]) rfl rfl rfl (by omega) ?_
        refine w_goto ?_
        exact ih2 _ (by omega) (e + 1) (q_eg (q_eg f 0 e (k (6 + e).toNat)) e 0 (-(k (6 + e).toNat))) (some (.inl (k (6 + e).toNat))) rfl rfl (by omega) (by rw [q_fr_s (by omega), ← hf]; unfold q_stE; first | rw [q_if_t (by assumption)] | rw [q_if_f (by assumption)])
  exact lp2 _ 1 (iv 139) (none) rfl rfl (by omega) (by rw [q_fr_0 (by omega)])

theorem s_X4_layLeft_138 {L : Nat} {iv : Nat → Nat → Int} {k : Nat → Int} {lf : Nat → Int} (hk : q_KR k) (hE : q_cE k (iv 3)) (hB : q_cB k (iv 4) (iv 5) (iv 6) (iv 7) (iv 8) (iv 9)) (hS : q_cS k (iv 10) (iv 11) (iv 12) (iv 13) (iv 14)) (hC : q_cC k (iv 15) (iv 16)) (hlf : q_isl k lf (iv 134)) : pz_R (pz_Sh L) 37 [.inr (.inl 129), .inr (.inl 138)] iv (.inl none) (pz_u1 (pz_u1 iv 138 (pz_up (iv 138) 0 (k 0))) 139 (q_lay k lf (iv 139))) := by
  intro dv cc ss
  have hk0 := hk.r0
  have hE0 := hE
  have hB0 := hB.1
  have hS0 := hS.1
  have hC0 := hC.1
  refine pz_G_mem (iv2 := pz_u1 (pz_u1 iv 138 (iv 138)) 139 (iv 139)) (by exact ((pz_u1_self iv 138).symm).trans (pz_u1_self (pz_u1 iv 138 (iv 138)) 139).symm) ?_
  show pz_G 37 0 [some (.inr (.inl 129)), some (.inr (.inl 138)), none, none] [] (pz_Sh L, pz_u1 (pz_u1 iv 138 (iv 138)) 139 (iv 139), dv, cc, ss) (pz_P (pz_Sh L) (.inl none) (pz_u1 (pz_u1 iv 138 (pz_up (iv 138) 0 (k 0))) 139 (q_lay k lf (iv 139))) dv cc ss)
  refine pz_G_of pz_b37_0 ?_
  refine w_loc rfl ?_
  refine w_loc rfl ?_
  refine w_getR (q := 3) is_129 rf_129_0 ?_
  refine w_getI (v := (iv 3) 0) is_3 (by decide) rfl ?_
  have hc1 : pz_R (pz_Sh L) 53 [.inr (.inl 138), .inl ((iv 3) 0)] (pz_u1 (pz_u1 iv 138 (iv 138)) 139 (iv 139)) (.inl none) (pz_u1 (pz_u1 iv 138 (pz_up (iv 138) 0 ((iv 3) 0))) 139 (q_ncl ((iv 3) 0) (iv 139))) := pz_R_mem (s_X5_clear_138 ((iv 3) 0) (by show 1 ≤ ((iv 3) 0) ∧ ((iv 3) 0) ≤ 10; omega)) (by rw [pz_u1_in (r := 138) (q := 139) (by decide)]; rw [pz_u1_top (r := 138)]; rw [pz_u1_top (r := 139)]; rfl)
  refine w_callv hc1 rfl (pz_cokI is_138 rfl) ?_
  refine w_loc rfl ?_
  refine w_loc rfl ?_
  have hc2 : pz_R (pz_Sh L) 38 [.inr (.inl 129), .inr (.inl 138)] (pz_u1 (pz_u1 iv 138 (pz_up (iv 138) 0 ((iv 3) 0))) 139 (q_ncl ((iv 3) 0) (iv 139))) (.inl none) (pz_u1 (pz_u1 iv 138 (pz_up (iv 138) 0 ((iv 3) 0))) 139 (q_fr (q_bdE k lf) 0 (k 1) (q_ncl ((iv 3) 0) (iv 139)))) := pz_R_mem (s_X4_layBounds_138 (by show q_KR k; exact hk) (by show q_cB k (iv 4) (iv 5) (iv 6) (iv 7) (iv 8) (iv 9); exact hB) (by show q_isl k lf (iv 134); exact hlf)) (by rw [pz_u1_top (r := 139)]; rfl)
  refine w_callv hc2 rfl (pz_cokI is_129 rfl) ?_
  refine w_loc rfl ?_
  refine w_getR (q := 3) is_129 rf_129_0 ?_
  refine w_getR (q := 10) is_3 rf_3_2 ?_
  refine w_loc (ls' := [some (.inr (.inl 129)), some (.inr (.inl 138)), some (.inr (.inl 10)), none]) (st' := []) rfl ?_
  refine w_pure rfl ?_
  refine w_loc (ls' := [some (.inr (.inl 129)), some (.inr (.inl 138)), some (.inr (.inl 10)), some (.inl 0)]) (st' := []) rfl ?_
  refine w_nil ?_
  have lp26 : ∀ (dd : Nat) (s : Int) (f : Nat → Int) , (k 2 - s).toNat = dd → ∀ (hs : 0 ≤ s ∧ s ≤ k 2), ∀ (hf : f = q_fr (q_spE k) 0 s (q_fr (q_bdE k lf) 0 (k 1) (q_ncl (k 0) (iv 139)))),  pz_G 37 26 [some (.inr (.inl 129)), some (.inr (.inl 138)), some (.inr (.inl 10)), some (.inl s)] [] (pz_Sh L, pz_u1 (pz_u1 iv 138 (pz_up (iv 138) 0 ((iv 3) 0))) 139 f, dv, cc, ss) (pz_P (pz_Sh L) (.inl none) (pz_u1 (pz_u1 iv 138 (pz_up (iv 138) 0 (k 0))) 139 (q_lay k lf (iv 139))) dv cc ss) := by
    intro dd26
    induction dd26 using Nat.strongRecOn with
    | _ dd26 ih26 =>
    intro s f  hd26 hs hf
    have hsp := fun h => hk.sp hs.1 h
    refine pz_G_of pz_b37_26 ?_
    refine w_loc rfl ?_
    refine w_loc rfl ?_
    refine w_getI (v := (iv 10) 0) is_10 (by decide) rfl ?_
    refine w_ige (fun h3 => ?_) (fun h3 => ?_)
    · refine pz_G_of pz_b37_64 ?_
      refine w_loc rfl ?_
      refine w_loc rfl ?_
      have hc4 : pz_R (pz_Sh L) 39 [.inr (.inl 129), .inr (.inl 138)] (pz_u1 (pz_u1 iv 138 (pz_up (iv 138) 0 ((iv 3) 0))) 139 f) (.inl none) (pz_u1 (pz_u1 iv 138 (pz_up (iv 138) 0 ((iv 3) 0))) 139 (q_fr (q_stE k) 1 (k 0) f)) := pz_R_mem (s_X4_layStarts_138 (by show q_KR k; exact hk) (by show q_cE k (iv 3); exact hE) (by show q_cC k (iv 15) (iv 16); exact hC)) (by rw [pz_u1_top (r := 139)]; rfl)
      refine w_callv hc4 rfl (pz_cokI is_129 rfl) ?_
      refine w_vret ?_
      first | exact lf_v (by rw [hE.1, hf, show s = k 2 by omega]; rfl) | (exfalso; omega)
    · refine w_loc rfl ?_
      refine w_loc rfl ?_
      refine w_loc rfl ?_
      have hc5 : pz_R (pz_Sh L) 110 [.inr (.inl 10), .inl s] (pz_u1 (pz_u1 iv 138 (pz_up (iv 138) 0 ((iv 3) 0))) 139 f) (.inl (some (.inl (k (212 + 4 * s).toNat)))) (pz_u1 (pz_u1 iv 138 (pz_up (iv 138) 0 ((iv 3) 0))) 139 f) := s_X9_firstOf s (by show q_KR k; exact hk) (by show q_cS k (iv 10) (iv 11) (iv 12) (iv 13) (iv 14); exact hS) (by show 0 ≤ s ∧ s < k 2; omega)
      refine w_call hc5 rfl (pz_cokI is_10 rfl) ?_
      refine w_loc rfl ?_
      refine w_loc rfl ?_
      have hc6 : pz_R (pz_Sh L) 111 [.inr (.inl 10), .inl s] (pz_u1 (pz_u1 iv 138 (pz_up (iv 138) 0 ((iv 3) 0))) 139 f) (.inl (some (.inl (k (212 + 4 * s + 1).toNat)))) (pz_u1 (pz_u1 iv 138 (pz_up (iv 138) 0 ((iv 3) 0))) 139 f) := s_X9_endOf s (by show q_KR k; exact hk) (by show q_cS k (iv 10) (iv 11) (iv 12) (iv 13) (iv 14); exact hS) (by show 0 ≤ s ∧ s < k 2; omega)
      refine w_call hc6 rfl (pz_cokI is_10 rfl) ?_
      refine w_loc rfl ?_
      refine w_loc rfl ?_
      have hc7 : pz_R (pz_Sh L) 112 [.inr (.inl 10), .inl s] (pz_u1 (pz_u1 iv 138 (pz_up (iv 138) 0 ((iv 3) 0))) 139 f) (.inl (some (.inl (k (212 + 4 * s + 2).toNat)))) (pz_u1 (pz_u1 iv 138 (pz_up (iv 138) 0 ((iv 3) 0))) 139 f) := s_X9_leastOf s (by show q_KR k; exact hk) (by show q_cS k (iv 10) (iv 11) (iv 12) (iv 13) (iv 14); exact hS) (by show 0 ≤ s ∧ s < k 2; omega)
      refine w_call hc7 rfl (pz_cokI is_10 rfl) ?_
      refine w_loc rfl ?_
      refine w_loc rfl ?_
      have hc8 : pz_R (pz_Sh L) 113 [.inr (.inl 10), .inl s] (pz_u1 (pz_u1 iv 138 (pz_up (iv 138) 0 ((iv 3) 0))) 139 f) (.inl (some (.inl (k (212 + 4 * s + 3).toNat)))) (pz_u1 (pz_u1 iv 138 (pz_up (iv 138) 0 ((iv 3) 0))) 139 f) := s_X9_greatestOf s (by show q_KR k; exact hk) (by show q_cS k (iv 10) (iv 11) (iv 12) (iv 13) (iv 14); exact hS) (by show 0 ≤ s ∧ s < k 2; omega)
      refine w_call hc8 rfl (pz_cokI is_10 rfl) ?_
      have hc9 : pz_R (pz_Sh L) 55 [.inr (.inl 138), .inl (k (212 + 4 * s).toNat), .inl (k (212 + 4 * s + 1).toNat), .inl (k (212 + 4 * s + 2).toNat), .inl (k (212 + 4 * s + 3).toNat)] (pz_u1 (pz_u1 iv 138 (pz_up (iv 138) 0 ((iv 3) 0))) 139 f) (.inl none) (pz_u1 (pz_u1 iv 138 (pz_up (iv 138) 0 ((iv 3) 0))) 139 (q_eg (q_eg f (k (212 + 4 * s).toNat) (k (212 + 4 * s + 1).toNat) (k (212 + 4 * s + 3).toNat)) (k (212 + 4 * s + 1).toNat) (k (212 + 4 * s).toNat) (-(k (212 + 4 * s + 2).toNat)))) := pz_R_mem (s_X5_addGap_138 (k (212 + 4 * s).toNat) (k (212 + 4 * s + 1).toNat) (k (212 + 4 * s + 2).toNat) (k (212 + 4 * s + 3).toNat) (by show 0 ≤ (k (212 + 4 * s).toNat) ∧ (k (212 + 4 * s).toNat) ≤ 9; omega) (by show 0 ≤ (k (212 + 4 * s + 1).toNat) ∧ (k (212 + 4 * s + 1).toNat) ≤ 9; omega) (by show -100000 ≤ (k (212 + 4 * s + 2).toNat) ∧ (k (212 + 4 * s + 2).toNat) ≤ 100000; omega)) (by rw [pz_u1_top (r := 139)]; rfl)
      refine w_callv hc9 rfl (pz_cokI is_138 rfl) ?_
      refine w_iinc (ls' := [some (.inr (.inl 129)), some (.inr (.inl 138)), some (.inr (.inl 10)), some (.inl (s + 1))]) rfl rfl rfl (by omega) ?_
      refine w_goto ?_
      exact ih26 _ (by omega) (s + 1) (q_eg (q_eg f (k (212 + 4 * s).toNat) (k (212 + 4 * s + 1).toNat) (k (212 + 4 * s + 3).toNat)) (k (212 + 4 * s + 1).toNat) (k (212 + 4 * s).toNat) (-(k (212 + 4 * s + 2).toNat)))  rfl (by omega) (by rw [q_fr_s (by omega), ← hf]; rfl)
  exact lp26 _ 0 (q_fr (q_bdE k lf) 0 (k 1) (q_ncl ((iv 3) 0) (iv 139)))  rfl (by omega) (by rw [hE.1]; exact (q_fr_0 (Int.le_refl _)).symm)

theorem s_X4_isSoundLeft {L : Nat} {iv : Nat → Nat → Int} {k : Nat → Int} {lf : Nat → Int} (hk : q_KR k) (hE : q_cE k (iv 3)) (hB : q_cB k (iv 4) (iv 5) (iv 6) (iv 7) (iv 8) (iv 9)) (hS : q_cS k (iv 10) (iv 11) (iv 12) (iv 13) (iv 14)) (hC : q_cC k (iv 15) (iv 16)) (hlf : q_isl k lf (iv 134)) : pz_RE (pz_Sh L) 40 [.inr (.inl 129)] iv (.inl (some (.inl (pz_bi (q_con k lf))))) (fun iv9 => ∃ (n9 : Nat → Int) (w9 : Nat → Int) (d9 : Nat → Int), iv9 = pz_u1 (pz_u1 (pz_u1 iv 130 n9) 131 w9) 132 d9) := by
  intro dv cc ss
  have hk0 := hk.r0
  have hE0 := hE
  have hB0 := hB.1
  have hS0 := hS.1
  have hC0 := hC.1
  refine pz_G_mem (iv2 := pz_u1 (pz_u1 (pz_u1 iv 130 (iv 130)) 131 (iv 131)) 132 (iv 132)) (by exact (((pz_u1_self iv 130).symm).trans (pz_u1_self (pz_u1 iv 130 (iv 130)) 131).symm).trans (pz_u1_self (pz_u1 (pz_u1 iv 130 (iv 130)) 131 (iv 131)) 132).symm) ?_
  show pz_G 40 0 [some (.inr (.inl 129))] [] (pz_Sh L, pz_u1 (pz_u1 (pz_u1 iv 130 (iv 130)) 131 (iv 131)) 132 (iv 132), dv, cc, ss) (pz_PE (pz_Sh L) (.inl (some (.inl (pz_bi (q_con k lf))))) (fun iv9 => ∃ (n9 : Nat → Int) (w9 : Nat → Int) (d9 : Nat → Int), iv9 = pz_u1 (pz_u1 (pz_u1 iv 130 n9) 131 w9) 132 d9) dv cc ss)
  refine pz_G_of pz_b40_0 ?_
  refine w_loc rfl ?_
  refine w_loc rfl ?_
  refine w_getR (q := 130) is_129 rf_129_1 ?_
  have hc1 : pz_R (pz_Sh L) 37 [.inr (.inl 129), .inr (.inl 130)] (pz_u1 (pz_u1 (pz_u1 iv 130 (iv 130)) 131 (iv 131)) 132 (iv 132)) (.inl none) (pz_u1 (pz_u1 (pz_u1 iv 130 (pz_up (iv 130) 0 (k 0))) 131 (q_lay k lf (iv 131))) 132 (iv 132)) := pz_R_mem (s_X4_layLeft_130 (by show q_KR k; exact hk) (by show q_cE k (iv 3); exact hE) (by show q_cB k (iv 4) (iv 5) (iv 6) (iv 7) (iv 8) (iv 9); exact hB) (by show q_cS k (iv 10) (iv 11) (iv 12) (iv 13) (iv 14); exact hS) (by show q_cC k (iv 15) (iv 16); exact hC) (by show q_isl k lf (iv 134); exact hlf)) (by rw [pz_u1_in (r := 130) (q := 132) (by decide)]; rw [pz_u1_in (r := 130) (q := 131) (by decide)]; rw [pz_u1_top (r := 130)]; rw [pz_u1_in (r := 131) (q := 132) (by decide)]; rw [pz_u1_top (r := 131)]; rfl)
  refine w_callv hc1 rfl (pz_cokI is_129 rfl) ?_
  refine w_loc rfl ?_
  refine w_getR (q := 130) is_129 rf_129_1 ?_
  have hc2 : pz_R (pz_Sh L) 56 [.inr (.inl 130)] (pz_u1 (pz_u1 (pz_u1 iv 130 (pz_up (iv 130) 0 (k 0))) 131 (q_lay k lf (iv 131))) 132 (iv 132)) (.inl none) (pz_u1 (pz_u1 (pz_u1 iv 130 (pz_up (pz_up (iv 130) 0 (k 0)) 1 (pz_bi (q_okc (k 0) (q_cI (k 0) (q_cz (k 0) (q_cp 100 (q_lay k lf (iv 131)) (iv 132))) (q_cp 100 (q_lay k lf (iv 131)) (iv 132))))))) 131 (q_lay k lf (iv 131))) 132 (q_cI (k 0) (q_cz (k 0) (q_cp 100 (q_lay k lf (iv 131)) (iv 132))) (q_cp 100 (q_lay k lf (iv 131)) (iv 132)))) := pz_R_mem (s_X5_close_130 (by show (pz_up (iv 130) 0 (k 0)) 0 = (k 0) ∧ 1 ≤ (k 0) ∧ (k 0) ≤ 10; first | exact ⟨rfl, by omega, by omega⟩ | exact ⟨hE.1, by omega, by omega⟩) (by show q_cw (k 0) (q_cp 100 (q_lay k lf (iv 131)) (iv 132)); exact q_cw_lay hk)) (by rw [pz_u1_in (r := 130) (q := 132) (by decide)]; rw [pz_u1_in (r := 130) (q := 131) (by decide)]; rw [pz_u1_top (r := 130)]; rw [pz_u1_top (r := 132)]; rfl)
  refine w_callv hc2 rfl (pz_cokI is_130 rfl) ?_
  refine w_loc rfl ?_
  refine w_getR (q := 130) is_129 rf_129_1 ?_
  refine w_getI (v := pz_bi (q_okc (k 0) (q_cI (k 0) (q_cz (k 0) (q_cp 100 (q_lay k lf (iv 131)) (iv 132))) (q_cp 100 (q_lay k lf (iv 131)) (iv 132))))) is_130 (by decide) rfl ?_
  refine w_ret (pz_rok1 (pz_bi01 _)) ?_
  first | exact ⟨pz_u1 (pz_u1 (pz_u1 iv 130 (pz_up (pz_up (iv 130) 0 (k 0)) 1 (pz_bi (q_okc (k 0) (q_cI (k 0) (q_cz (k 0) (q_cp 100 (q_lay k lf (iv 131)) (iv 132))) (q_cp 100 (q_lay k lf (iv 131)) (iv 132))))))) 131 (q_lay k lf (iv 131))) 132 (q_cI (k 0) (q_cz (k 0) (q_cp 100 (q_lay k lf (iv 131)) (iv 132))) (q_cp 100 (q_lay k lf (iv 131)) (iv 132))), ⟨(pz_up (pz_up (iv 130) 0 (k 0)) 1 (pz_bi (q_okc (k 0) (q_cI (k 0) (q_cz (k 0) (q_cp 100 (q_lay k lf (iv 131)) (iv 132))) (q_cp 100 (q_lay k lf (iv 131)) (iv 132)))))), (q_lay k lf (iv 131)), (q_cI (k 0) (q_cz (k 0) (q_cp 100 (q_lay k lf (iv 131)) (iv 132))) (q_cp 100 (q_lay k lf (iv 131)) (iv 132))), by rfl⟩, lf_i (pz_bi_iff (by exact q_lay_con hk)) (by rfl)⟩ | (exfalso; omega)

theorem s_X4_isSoundWith {L : Nat} {iv : Nat → Nat → Int} (x : Int) (y : Int) {k : Nat → Int} (hk : q_KR k) (hE : q_cE k (iv 3)) (hB : q_cB k (iv 4) (iv 5) (iv 6) (iv 7) (iv 8) (iv 9)) (hS : q_cS k (iv 10) (iv 11) (iv 12) (iv 13) (iv 14)) (hC : q_cC k (iv 15) (iv 16)) (hT : q_cT k x y) : pz_RE (pz_Sh L) 41 [.inr (.inl 129), .inl x, .inl y] iv (.inl (some (.inl (pz_bi (q_con k (fun _ => 0)))))) (fun iv9 => ∃ (n9 : Nat → Int) (w9 : Nat → Int) (d9 : Nat → Int) (l9 : Nat → Int), iv9 = pz_u1 (pz_u1 (pz_u1 (pz_u1 iv 130 n9) 131 w9) 132 d9) 134 l9) := by
  intro dv cc ss
  have hk0 := hk.r0
  have hE0 := hE
  have hB0 := hB.1
  have hS0 := hS.1
  have hC0 := hC.1
  refine pz_G_mem (iv2 := pz_u1 (pz_u1 (pz_u1 (pz_u1 iv 130 (iv 130)) 131 (iv 131)) 132 (iv 132)) 134 (iv 134)) (by exact ((((pz_u1_self iv 130).symm).trans (pz_u1_self (pz_u1 iv 130 (iv 130)) 131).symm).trans (pz_u1_self (pz_u1 (pz_u1 iv 130 (iv 130)) 131 (iv 131)) 132).symm).trans (pz_u1_self (pz_u1 (pz_u1 (pz_u1 iv 130 (iv 130)) 131 (iv 131)) 132 (iv 132)) 134).symm) ?_
  show pz_G 41 0 [some (.inr (.inl 129)), some (.inl x), some (.inl y)] [] (pz_Sh L, pz_u1 (pz_u1 (pz_u1 (pz_u1 iv 130 (iv 130)) 131 (iv 131)) 132 (iv 132)) 134 (iv 134), dv, cc, ss) (pz_PE (pz_Sh L) (.inl (some (.inl (pz_bi (q_con k (fun _ => 0)))))) (fun iv9 => ∃ (n9 : Nat → Int) (w9 : Nat → Int) (d9 : Nat → Int) (l9 : Nat → Int), iv9 = pz_u1 (pz_u1 (pz_u1 (pz_u1 iv 130 n9) 131 w9) 132 d9) 134 l9) dv cc ss)
  refine pz_G_of pz_b41_0 ?_
  refine w_loc rfl ?_
  refine w_loc rfl ?_
  refine w_loc rfl ?_
  have hc1 := s_X4_leaveHolding (L := L) (iv := pz_u1 (pz_u1 (pz_u1 (pz_u1 iv 130 (iv 130)) 131 (iv 131)) 132 (iv 132)) 134 (iv 134)) x y (by show q_KR k; exact hk) (by show q_cB k (iv 4) (iv 5) (iv 6) (iv 7) (iv 8) (iv 9); exact hB) (by show q_cT k x y; exact hT)
  refine w_callvE hc1 rfl (pz_cokI is_129 rfl) (fun iv9 h9 => ?_)
  obtain ⟨l9_2, h9e, hisl⟩ := h9
  have h9x : iv9 = pz_u1 (pz_u1 (pz_u1 (pz_u1 iv 130 (iv 130)) 131 (iv 131)) 132 (iv 132)) 134 l9_2 := h9e.trans (by rw [pz_u1_top (r := 134)] <;> rfl)
  subst h9x
  replace hisl : q_isl k (fun _ => 0) l9_2 := hisl
  refine w_loc rfl ?_
  have hc3 := s_X4_isSoundLeft (L := L) (iv := pz_u1 (pz_u1 (pz_u1 (pz_u1 iv 130 (iv 130)) 131 (iv 131)) 132 (iv 132)) 134 l9_2) (by show q_KR k; exact hk) (by show q_cE k (iv 3); exact hE) (by show q_cB k (iv 4) (iv 5) (iv 6) (iv 7) (iv 8) (iv 9); exact hB) (by show q_cS k (iv 10) (iv 11) (iv 12) (iv 13) (iv 14); exact hS) (by show q_cC k (iv 15) (iv 16); exact hC) (by show q_isl k (fun _ => 0) l9_2; exact hisl)
  refine w_callE hc3 rfl (pz_cokI is_129 rfl) (fun iv9 h9 => ?_)
  obtain ⟨n9_4, w9_5, d9_6, h9e⟩ := h9
  have h9x : iv9 = pz_u1 (pz_u1 (pz_u1 (pz_u1 iv 130 n9_4) 131 w9_5) 132 d9_6) 134 l9_2 := h9e.trans (by rw [pz_u1_in (r := 130) (q := 134) (by decide)]; rw [pz_u1_in (r := 130) (q := 132) (by decide)]; rw [pz_u1_in (r := 130) (q := 131) (by decide)]; rw [pz_u1_top (r := 130)]; rw [pz_u1_in (r := 131) (q := 134) (by decide)]; rw [pz_u1_in (r := 131) (q := 132) (by decide)]; rw [pz_u1_top (r := 131)]; rw [pz_u1_in (r := 132) (q := 134) (by decide)]; rw [pz_u1_top (r := 132)] <;> rfl)
  subst h9x
  refine w_ret (pz_rok1 (pz_bi01 _)) ?_
  first | exact ⟨pz_u1 (pz_u1 (pz_u1 (pz_u1 iv 130 n9_4) 131 w9_5) 132 d9_6) 134 l9_2, ⟨n9_4, w9_5, d9_6, l9_2, by rfl⟩, lf_i (pz_bi_iff (by exact Iff.rfl)) (by rfl)⟩ | (exfalso; omega)

theorem s_X4_truesOfWay {L : Nat} {iv : Nat → Nat → Int} (w : Int) (hw : 0 ≤ w ∧ w ≤ 15) : pz_R (pz_Sh L) 44 [.inl w] iv (.inl (some (.inl (q_wayT w)))) iv := by
  intro dv cc ss
  show pz_G 44 0 [some (.inl w), none, none] [] (pz_Sh L, iv, dv, cc, ss) (pz_P (pz_Sh L) (.inl (some (.inl (q_wayT w)))) iv dv cc ss)
  refine pz_G_of pz_b44_0 ?_
  refine w_pure rfl ?_
  refine w_loc (ls' := [some (.inl w), some (.inl 0), none]) (st' := []) rfl ?_
  refine w_pure rfl ?_
  refine w_loc (ls' := [some (.inl w), some (.inl 0), some (.inl 0)]) (st' := []) rfl ?_
  refine w_nil ?_
  have lp4 : ∀ (dd : Nat) (n : Int) (i : Int) , (4 - i).toNat = dd → ∀ (hi : 0 ≤ i ∧ i ≤ 4), ∀ (hn : n = q_fr (q_wayS w) 1 (i + 1) 0), ∀ (hr : 0 ≤ n ∧ n < q_p2 i),  pz_G 44 4 [some (.inl w), some (.inl n), some (.inl i)] [] (pz_Sh L, iv, dv, cc, ss) (pz_P (pz_Sh L) (.inl (some (.inl (q_wayT w)))) iv dv cc ss) := by
    intro dd4
    induction dd4 using Nat.strongRecOn with
    | _ dd4 ih4 =>
    intro n i  hd4 hi hn hr
    have hbt := fun h => q_bit (x := w) (i := 3 - i) (by omega) (by omega) h (by omega)
    have hp2 := q_p2_s (a := i) (by omega)
    have hp9 := q_p2_r (a := i) (by omega) (by omega)
    refine pz_G_of pz_b44_4 ?_
    refine w_loc rfl ?_
    refine w_pure rfl ?_
    refine w_ige (fun h1 => ?_) (fun h1 => ?_)
    · refine pz_G_of pz_b44_33 ?_
      refine w_loc rfl ?_
      refine w_ret rfl ?_
      exact lf_i (by rw [hn, show i = 4 by omega]; rfl) rfl
    · refine w_loc rfl ?_
      refine w_pure rfl ?_
      refine w_loc rfl ?_
      refine w_isub (by omega) ?_
      have hc2 : pz_R (pz_Sh L) 186 [.inl (3 - i)] (iv) (.inl (some (.inl (pz_shl 1 (3 - i))))) (iv) := s_X10_bit (3 - i)
      refine w_call hc2 rfl rfl ?_
      refine w_iand ?_
      refine w_zne (fun h3 => ?_) (fun h3 => ?_)
      · refine pz_G_of pz_b44_27 ?_
        refine w_iinc (ls' := [some (.inl w), some (.inl n), some (.inl (i + 1))]) rfl rfl rfl (by omega) ?_
        refine w_goto ?_
        exact ih4 _ (by omega) n (i + 1)  rfl (by omega) (by rw [q_fr_s (a := 1) (i := i + 1) (by omega), ← hn]; unfold q_wayS; rw [show 4 - (i + 1) = 3 - i by omega, show i + 1 - 1 = i by omega]; first | (rw [q_if_t (by omega), q_or_p2 (by omega) (by omega) hr.1 hr.2, q_shl_p2 (by omega) (by omega)]) | (rw [q_if_f (by omega)]; omega)) (by first | (rw [q_or_p2 (by omega) (by omega) hr.1 hr.2]; omega) | omega)
      · refine w_loc rfl ?_
        refine w_loc rfl ?_
        have hc4 : pz_R (pz_Sh L) 186 [.inl i] (iv) (.inl (some (.inl (pz_shl 1 i)))) (iv) := s_X10_bit i
        refine w_call hc4 rfl rfl ?_
        refine w_ior ?_
        refine w_loc (ls' := [some (.inl w), some (.inl (pz_or n (pz_shl 1 i))), some (.inl i)]) (st' := []) rfl ?_
        refine w_nil ?_
        refine pz_G_of pz_b44_27 ?_
        refine w_iinc (ls' := [some (.inl w), some (.inl (pz_or n (pz_shl 1 i))), some (.inl (i + 1))]) rfl rfl rfl (by omega) ?_
        refine w_goto ?_
        exact ih4 _ (by omega) (pz_or n (pz_shl 1 i)) (i + 1)  rfl (by omega) (by rw [q_fr_s (a := 1) (i := i + 1) (by omega), ← hn]; unfold q_wayS; rw [show 4 - (i + 1) = 3 - i by omega, show i + 1 - 1 = i by omega]; first | (rw [q_if_t (by omega), q_or_p2 (by omega) (by omega) hr.1 hr.2, q_shl_p2 (by omega) (by omega)]) | (rw [q_if_f (by omega)]; omega)) (by first | (rw [q_or_p2 (by omega) (by omega) hr.1 hr.2]; omega) | omega)
  exact lp4 _ 0 0  rfl (by omega) (by rw [q_fr_0 (by omega)]) (by exact ⟨by omega, by decide⟩)

theorem s_X4_firstSoundWay {L : Nat} {iv : Nat → Nat → Int} {k : Nat → Int} (hk : q_KR k) (hE : q_cE k (iv 3)) (hB : q_cB k (iv 4) (iv 5) (iv 6) (iv 7) (iv 8) (iv 9)) (hS : q_cS k (iv 10) (iv 11) (iv 12) (iv 13) (iv 14)) (hC : q_cC k (iv 15) (iv 16)) (hL : q_cL k (iv 25)) : pz_RE (pz_Sh L) 42 [.inr (.inl 129)] iv (.inl (some (.inl (q_fsw k)))) (fun iv9 => ∃ (n9 : Nat → Int) (w9 : Nat → Int) (d9 : Nat → Int) (l9 : Nat → Int), iv9 = pz_u1 (pz_u1 (pz_u1 (pz_u1 iv 130 n9) 131 w9) 132 d9) 134 l9) := by
  intro dv cc ss
  have hk0 := hk.r0
  have hE0 := hE
  have hB0 := hB.1
  have hS0 := hS.1
  have hC0 := hC.1
  refine pz_G_mem (iv2 := pz_u1 (pz_u1 (pz_u1 (pz_u1 iv 130 (iv 130)) 131 (iv 131)) 132 (iv 132)) 134 (iv 134)) (by exact ((((pz_u1_self iv 130).symm).trans (pz_u1_self (pz_u1 iv 130 (iv 130)) 131).symm).trans (pz_u1_self (pz_u1 (pz_u1 iv 130 (iv 130)) 131 (iv 131)) 132).symm).trans (pz_u1_self (pz_u1 (pz_u1 (pz_u1 iv 130 (iv 130)) 131 (iv 131)) 132 (iv 132)) 134).symm) ?_
  show pz_G 42 0 [some (.inr (.inl 129)), none, none, none, none] [] (pz_Sh L, pz_u1 (pz_u1 (pz_u1 (pz_u1 iv 130 (iv 130)) 131 (iv 131)) 132 (iv 132)) 134 (iv 134), dv, cc, ss) (pz_PE (pz_Sh L) (.inl (some (.inl (q_fsw k)))) (fun iv9 => ∃ (n9 : Nat → Int) (w9 : Nat → Int) (d9 : Nat → Int) (l9 : Nat → Int), iv9 = pz_u1 (pz_u1 (pz_u1 (pz_u1 iv 130 n9) 131 w9) 132 d9) 134 l9) dv cc ss)
  refine pz_G_of pz_b42_0 ?_
  refine w_loc rfl ?_
  have hc1 : pz_R (pz_Sh L) 43 [.inr (.inl 129)] (pz_u1 (pz_u1 (pz_u1 (pz_u1 iv 130 (iv 130)) 131 (iv 131)) 132 (iv 132)) 134 (iv 134)) (.inl (some (.inl (q_sO k)))) (pz_u1 (pz_u1 (pz_u1 (pz_u1 iv 130 (iv 130)) 131 (iv 131)) 132 (iv 132)) 134 (iv 134)) := s_X4_observedLabels (by show q_cL k (iv 25); exact hL)
  refine w_call hc1 rfl (pz_cokI is_129 rfl) ?_
  refine w_loc (ls' := [some (.inr (.inl 129)), some (.inl (q_sO k)), none, none, none]) (st' := []) rfl ?_
  refine w_loc rfl ?_
  refine w_getR (q := 3) is_129 rf_129_0 ?_
  have hc2 : pz_R (pz_Sh L) 69 [.inr (.inl 3)] (pz_u1 (pz_u1 (pz_u1 (pz_u1 iv 130 (iv 130)) 131 (iv 131)) 132 (iv 132)) 134 (iv 134)) (.inl (some (.inl (q_sT k)))) (pz_u1 (pz_u1 (pz_u1 (pz_u1 iv 130 (iv 130)) 131 (iv 131)) 132 (iv 132)) 134 (iv 134)) := s_X6_trueLabels (by show q_cL k (iv 25); exact hL)
  refine w_call hc2 rfl (pz_cokI is_3 rfl) ?_
  refine w_loc rfl ?_
  refine w_iand ?_
  refine w_loc (ls' := [some (.inr (.inl 129)), some (.inl (q_sO k)), some (.inl (pz_and (q_sT k) (q_sO k))), none, none]) (st' := []) rfl ?_
  refine w_pure rfl ?_
  refine w_loc (ls' := [some (.inr (.inl 129)), some (.inl (q_sO k)), some (.inl (pz_and (q_sT k) (q_sO k))), some (.inl 0), none]) (st' := []) rfl ?_
  refine w_nil ?_
  have lp17 : ∀ (dd : Nat) (w : Int) (f1 : Nat → Int) (f2 : Nat → Int) (f3 : Nat → Int) (f4 : Nat → Int) (u17_4 : Option pz_V) (hu17_4 : pz_nc u17_4 = true), (16 - w).toNat = dd → ∀ (hw : 0 ≤ w ∧ w ≤ 16), ∀ (hno : ∀ v : Int, 0 ≤ v → v < w → ¬ q_con (q_kw k (q_trw k v)) (fun _ => 0)),  pz_G 42 17 [some (.inr (.inl 129)), some (.inl (q_sO k)), some (.inl (pz_and (q_sT k) (q_sO k))), some (.inl w), u17_4] [] (pz_Sh L, pz_u1 (pz_u1 (pz_u1 (pz_u1 iv 130 f1) 131 f2) 132 f3) 134 f4, dv, cc, ss) (pz_PE (pz_Sh L) (.inl (some (.inl (q_fsw k)))) (fun iv9 => ∃ (n9 : Nat → Int) (w9 : Nat → Int) (d9 : Nat → Int) (l9 : Nat → Int), iv9 = pz_u1 (pz_u1 (pz_u1 (pz_u1 iv 130 n9) 131 w9) 132 d9) 134 l9) dv cc ss) := by
    intro dd17
    induction dd17 using Nat.strongRecOn with
    | _ dd17 ih17 =>
    intro w f1 f2 f3 f4 u17_4 hu17_4 hd17 hw hno
    refine pz_G_of pz_b42_17 ?_
    refine w_loc rfl ?_
    refine w_pure rfl ?_
    refine w_igt (fun h3 => ?_) (fun h3 => ?_)
    · refine pz_G_of pz_b42_60 ?_
      refine w_pure rfl ?_
      refine w_ret rfl ?_
      exact ⟨pz_u1 (pz_u1 (pz_u1 (pz_u1 iv 130 f1) 131 f2) 132 f3) 134 f4, ⟨f1, f2, f3, f4, by rfl⟩, (by first | exact lf_i (q_fsw_is (Or.inl ⟨w, hw.1, by omega, by assumption, hno, rfl⟩)).symm rfl | exact lf_i (q_fsw_is (Or.inr ⟨rfl, fun v g1 g2 => hno v g1 (by omega)⟩)).symm rfl)⟩
    · refine w_loc rfl ?_
      have hc4 : pz_R (pz_Sh L) 44 [.inl w] (pz_u1 (pz_u1 (pz_u1 (pz_u1 iv 130 f1) 131 f2) 132 f3) 134 f4) (.inl (some (.inl (q_wayT w)))) (pz_u1 (pz_u1 (pz_u1 (pz_u1 iv 130 f1) 131 f2) 132 f3) 134 f4) := s_X4_truesOfWay w (by show 0 ≤ w ∧ w ≤ 15; omega)
      refine w_call hc4 rfl rfl ?_
      refine w_loc rfl ?_
      refine w_pure rfl ?_
      refine w_ixor ?_
      refine w_iand ?_
      refine w_loc rfl ?_
      refine w_ior ?_
      refine w_loc (ls' := [some (.inr (.inl 129)), some (.inl (q_sO k)), some (.inl (pz_and (q_sT k) (q_sO k))), some (.inl w), some (.inl (pz_or (pz_and (q_wayT w) (pz_xor (q_sO k) (-1))) (pz_and (q_sT k) (q_sO k))))]) (st' := []) rfl ?_
      refine w_loc rfl ?_
      refine w_loc rfl ?_
      refine w_pure rfl ?_
      refine w_loc rfl ?_
      refine w_pure rfl ?_
      refine w_ixor ?_
      refine w_iand ?_
      have hc5 := s_X4_isSoundWith (L := L) (iv := pz_u1 (pz_u1 (pz_u1 (pz_u1 iv 130 f1) 131 f2) 132 f3) 134 f4) (pz_or (pz_and (q_wayT w) (pz_xor (q_sO k) (-1))) (pz_and (q_sT k) (q_sO k))) (pz_and 15 (pz_xor (pz_or (pz_and (q_wayT w) (pz_xor (q_sO k) (-1))) (pz_and (q_sT k) (q_sO k))) (-1))) (by show q_KR (q_kw k (q_trw k w)); first | exact hk | exact q_KR_kw hk) (by show q_cE (q_kw k (q_trw k w)) (iv 3); first | exact hE | exact q_cE_kw hE) (by show q_cB (q_kw k (q_trw k w)) (iv 4) (iv 5) (iv 6) (iv 7) (iv 8) (iv 9); first | exact hB | exact q_cB_kw hB hk) (by show q_cS (q_kw k (q_trw k w)) (iv 10) (iv 11) (iv 12) (iv 13) (iv 14); first | exact hS | exact q_cS_kw hS) (by show q_cC (q_kw k (q_trw k w)) (iv 15) (iv 16); first | exact hC | exact q_cC_kw hC) (by show q_cT (q_kw k (q_trw k w)) (pz_or (pz_and (q_wayT w) (pz_xor (q_sO k) (-1))) (pz_and (q_sT k) (q_sO k))) (pz_and 15 (pz_xor (pz_or (pz_and (q_wayT w) (pz_xor (q_sO k) (-1))) (pz_and (q_sT k) (q_sO k))) (-1))); exact q_trw_r hw.1 (by omega))
      refine w_callE hc5 rfl (pz_cokI is_129 rfl) (fun iv9 h9 => ?_)
      obtain ⟨n9_6, w9_7, d9_8, l9_9, h9e⟩ := h9
      have h9x : iv9 = pz_u1 (pz_u1 (pz_u1 (pz_u1 iv 130 n9_6) 131 w9_7) 132 d9_8) 134 l9_9 := h9e.trans (by rw [pz_u1_in (r := 130) (q := 134) (by decide)]; rw [pz_u1_in (r := 130) (q := 132) (by decide)]; rw [pz_u1_in (r := 130) (q := 131) (by decide)]; rw [pz_u1_top (r := 130)]; rw [pz_u1_in (r := 131) (q := 134) (by decide)]; rw [pz_u1_in (r := 131) (q := 132) (by decide)]; rw [pz_u1_top (r := 131)]; rw [pz_u1_in (r := 132) (q := 134) (by decide)]; rw [pz_u1_top (r := 132)]; rw [pz_u1_top (r := 134)] <;> rfl)
      subst h9x
      refine w_beq (fun h10 => ?_) (fun h10 => ?_)
      · refine pz_G_of pz_b42_54 ?_
        refine w_iinc (ls' := [some (.inr (.inl 129)), some (.inl (q_sO k)), some (.inl (pz_and (q_sT k) (q_sO k))), some (.inl (w + 1)), some (.inl (pz_or (pz_and (q_wayT w) (pz_xor (q_sO k) (-1))) (pz_and (q_sT k) (q_sO k))))]) rfl rfl rfl (by omega) ?_
        refine w_goto ?_
        exact ih17 _ (by omega) (w + 1) n9_6 w9_7 d9_8 l9_9 (some (.inl (pz_or (pz_and (q_wayT w) (pz_xor (q_sO k) (-1))) (pz_and (q_sT k) (q_sO k))))) rfl rfl (by omega) (by intro v g1 g2; by_cases g3 : v = w; (rw [g3]; assumption); exact hno v g1 (by omega))
      · refine w_loc rfl ?_
        refine w_ret rfl ?_
        exact ⟨pz_u1 (pz_u1 (pz_u1 (pz_u1 iv 130 n9_6) 131 w9_7) 132 d9_8) 134 l9_9, ⟨n9_6, w9_7, d9_8, l9_9, by rfl⟩, (by first | exact lf_i (q_fsw_is (Or.inl ⟨w, hw.1, by omega, by assumption, hno, rfl⟩)).symm rfl | exact lf_i (q_fsw_is (Or.inr ⟨rfl, fun v g1 g2 => hno v g1 (by omega)⟩)).symm rfl)⟩
  exact lp17 _ 0 (iv 130) (iv 131) (iv 132) (iv 134) (none) rfl rfl (by omega) (by intro v g1 g2; omega)

theorem s_X4_conflictBound {L : Nat} {iv : Nat → Nat → Int} (i : Int) (hi : 0 ≤ i ∧ i ≤ 39) : pz_R (pz_Sh L) 46 [.inr (.inl 129), .inl i] iv (.inl (some (.inl ((iv 135) i.toNat)))) iv := by
  intro dv cc ss
  show pz_G 46 0 [some (.inr (.inl 129)), some (.inl i)] [] (pz_Sh L, iv, dv, cc, ss) (pz_P (pz_Sh L) (.inl (some (.inl ((iv 135) i.toNat)))) iv dv cc ss)
  refine pz_G_of pz_b46_0 ?_
  refine w_loc rfl ?_
  refine w_zlt (fun h1 => ?_) (fun h1 => ?_)
  · refine pz_G_of pz_b46_19 ?_
    refine w_pure rfl ?_
    refine w_nil ?_
    refine pz_G_of pz_b46_20 ?_
    refine w_ret rfl ?_
    first | exact lf_i (by first | rfl | omega) (by rfl) | (exfalso; omega)
  · refine w_loc rfl ?_
    refine w_pure rfl ?_
    refine w_ige (fun h2 => ?_) (fun h2 => ?_)
    · refine pz_G_of pz_b46_19 ?_
      refine w_pure rfl ?_
      refine w_nil ?_
      refine pz_G_of pz_b46_20 ?_
      refine w_ret rfl ?_
      first | exact lf_i (by first | rfl | omega) (by rfl) | (exfalso; omega)
    · refine w_loc rfl ?_
      refine w_getR (q := 135) is_129 rf_129_4 ?_
      refine w_loc rfl ?_
      refine w_iald (v := (iv 135) i.toNat) is_135 ln_135 ⟨by omega, by omega⟩ rfl ?_
      refine w_goto ?_
      refine pz_G_of pz_b46_20 ?_
      refine w_ret rfl ?_
      first | exact lf_i (by first | rfl | omega) (by rfl) | (exfalso; omega)

theorem s_X4_findConflict {L : Nat} {iv : Nat → Nat → Int} {k : Nat → Int} (hk : q_KR k) (hE : q_cE k (iv 3)) (hB : q_cB k (iv 4) (iv 5) (iv 6) (iv 7) (iv 8) (iv 9)) (hS : q_cS k (iv 10) (iv 11) (iv 12) (iv 13) (iv 14)) (hC : q_cC k (iv 15) (iv 16)) (hL : q_cL k (iv 25)) : pz_RE (pz_Sh L) 45 [.inr (.inl 129)] iv (.inl none) (fun iv9 => ∃ (j9 : Nat → Int) (n9 : Nat → Int) (w9 : Nat → Int) (d9 : Nat → Int) (l9 : Nat → Int) (c9 : Nat → Int), iv9 = pz_u1 (pz_u1 (pz_u1 (pz_u1 (pz_u1 (pz_u1 iv 129 j9) 130 n9) 131 w9) 132 d9) 134 l9) 135 c9 ∧ (j9 3 = q_cnt (q_kp k) (k 1)) ∧ (q_cfl k c9 (k 1))) := by
  intro dv cc ss
  have hk0 := hk.r0
  have hE0 := hE
  have hB0 := hB.1
  have hS0 := hS.1
  have hC0 := hC.1
  refine pz_G_mem (iv2 := pz_u1 (pz_u1 (pz_u1 (pz_u1 (pz_u1 (pz_u1 iv 129 (iv 129)) 130 (iv 130)) 131 (iv 131)) 132 (iv 132)) 134 (iv 134)) 135 (iv 135)) (by exact ((((((pz_u1_self iv 129).symm).trans (pz_u1_self (pz_u1 iv 129 (iv 129)) 130).symm).trans (pz_u1_self (pz_u1 (pz_u1 iv 129 (iv 129)) 130 (iv 130)) 131).symm).trans (pz_u1_self (pz_u1 (pz_u1 (pz_u1 iv 129 (iv 129)) 130 (iv 130)) 131 (iv 131)) 132).symm).trans (pz_u1_self (pz_u1 (pz_u1 (pz_u1 (pz_u1 iv 129 (iv 129)) 130 (iv 130)) 131 (iv 131)) 132 (iv 132)) 134).symm).trans (pz_u1_self (pz_u1 (pz_u1 (pz_u1 (pz_u1 (pz_u1 iv 129 (iv 129)) 130 (iv 130)) 131 (iv 131)) 132 (iv 132)) 134 (iv 134)) 135).symm) ?_
  show pz_G 45 0 [some (.inr (.inl 129)), none] [] (pz_Sh L, pz_u1 (pz_u1 (pz_u1 (pz_u1 (pz_u1 (pz_u1 iv 129 (iv 129)) 130 (iv 130)) 131 (iv 131)) 132 (iv 132)) 134 (iv 134)) 135 (iv 135), dv, cc, ss) (pz_PE (pz_Sh L) (.inl none) (fun iv9 => ∃ (j9 : Nat → Int) (n9 : Nat → Int) (w9 : Nat → Int) (d9 : Nat → Int) (l9 : Nat → Int) (c9 : Nat → Int), iv9 = pz_u1 (pz_u1 (pz_u1 (pz_u1 (pz_u1 (pz_u1 iv 129 j9) 130 n9) 131 w9) 132 d9) 134 l9) 135 c9 ∧ (j9 3 = q_cnt (q_kp k) (k 1)) ∧ (q_cfl k c9 (k 1))) dv cc ss)
  refine pz_G_of pz_b45_0 ?_
  refine w_loc rfl ?_
  have hc1 := s_X4_leaveHeld (L := L) (iv := pz_u1 (pz_u1 (pz_u1 (pz_u1 (pz_u1 (pz_u1 iv 129 (iv 129)) 130 (iv 130)) 131 (iv 131)) 132 (iv 132)) 134 (iv 134)) 135 (iv 135)) (by show q_KR k; exact hk) (by show q_cB k (iv 4) (iv 5) (iv 6) (iv 7) (iv 8) (iv 9); exact hB) (by show q_cL k (iv 25); exact hL)
  refine w_callvE hc1 rfl (pz_cokI is_129 rfl) (fun iv9 h9 => ?_)
  obtain ⟨l9_2, h9e, hisl⟩ := h9
  have h9x : iv9 = pz_u1 (pz_u1 (pz_u1 (pz_u1 (pz_u1 (pz_u1 iv 129 (iv 129)) 130 (iv 130)) 131 (iv 131)) 132 (iv 132)) 134 l9_2) 135 (iv 135) := h9e.trans (by rw [pz_u1_in (r := 134) (q := 135) (by decide)]; rw [pz_u1_top (r := 134)] <;> rfl)
  subst h9x
  replace hisl : q_isl k (fun _ => 0) l9_2 := hisl
  refine w_loc rfl ?_
  refine w_pure rfl ?_
  refine w_putIm (iv2 := pz_u1 (pz_u1 (pz_u1 (pz_u1 (pz_u1 (pz_u1 iv 129 (pz_up (iv 129) 3 0)) 130 (iv 130)) 131 (iv 131)) 132 (iv 132)) 134 l9_2) 135 (iv 135)) is_129 pz_fit0 (by rw [pz_u2_in (r := 129) (q := 135) (by decide)]; rw [pz_u2_in (r := 129) (q := 134) (by decide)]; rw [pz_u2_in (r := 129) (q := 132) (by decide)]; rw [pz_u2_in (r := 129) (q := 131) (by decide)]; rw [pz_u2_in (r := 129) (q := 130) (by decide)]; rw [pz_u2_top] <;> rfl) ?_
  refine w_pure rfl ?_
  refine w_loc (ls' := [some (.inr (.inl 129)), some (.inl 0)]) (st' := []) rfl ?_
  refine w_nil ?_
  have lp11 : ∀ (dd : Nat) (b : Int) (j : Nat → Int) (f1 : Nat → Int) (f2 : Nat → Int) (f3 : Nat → Int) (f4 : Nat → Int) (c : Nat → Int) , (40 - b).toNat = dd → ∀ (hb : 0 ≤ b ∧ b ≤ 40), ∀ (hlb : q_isl k (q_lo0 k b) f4), ∀ (hjn : j 3 = q_cnt (q_kp k) (min b (k 1))), ∀ (hcf : q_cfl k c (min b (k 1))),  pz_G 45 11 [some (.inr (.inl 129)), some (.inl b)] [] (pz_Sh L, pz_u1 (pz_u1 (pz_u1 (pz_u1 (pz_u1 (pz_u1 iv 129 j) 130 f1) 131 f2) 132 f3) 134 f4) 135 c, dv, cc, ss) (pz_PE (pz_Sh L) (.inl none) (fun iv9 => ∃ (j9 : Nat → Int) (n9 : Nat → Int) (w9 : Nat → Int) (d9 : Nat → Int) (l9 : Nat → Int) (c9 : Nat → Int), iv9 = pz_u1 (pz_u1 (pz_u1 (pz_u1 (pz_u1 (pz_u1 iv 129 j9) 130 n9) 131 w9) 132 d9) 134 l9) 135 c9 ∧ (j9 3 = q_cnt (q_kp k) (k 1)) ∧ (q_cfl k c9 (k 1))) dv cc ss) := by
    intro dd11
    induction dd11 using Nat.strongRecOn with
    | _ dd11 ih11 =>
    intro b j f1 f2 f3 f4 c  hd11 hb hlb hjn hcf
    have hl1 := hlb b hb.1
    have hl2 : b < 40 → f4 b.toNat ≠ 0 → q_lfP k (q_lo0 k b) b := fun h1 h2 => pz_bi_ne (by rw [← hl1 (by omega)]; exact h2)
    have hl3 : b < 40 → f4 b.toNat = 0 → ¬ q_lfP k (q_lo0 k b) b := fun h1 h2 => pz_bi_eq (by rw [← hl1 (by omega)]; exact h2)
    have hz0 := q_lo0_0 (k := k) hb.1 b.toNat (by omega)
    have hcr := q_cnt_r (q_kp k) (n := (min b (k 1))) (by omega)
    refine pz_G_of pz_b45_11 ?_
    refine w_loc rfl ?_
    refine w_pure rfl ?_
    refine w_ige (fun h3 => ?_) (fun h3 => ?_)
    · refine pz_G_of pz_b45_90 ?_
      refine w_vret ?_
      first | exact ⟨pz_u1 (pz_u1 (pz_u1 (pz_u1 (pz_u1 (pz_u1 iv 129 j) 130 f1) 131 f2) 132 f3) 134 f4) 135 c, ⟨j, f1, f2, f3, f4, c, by rfl, by rw [hjn, show min b (k 1) = k 1 by omega], by rw [show min b (k 1) = k 1 by omega] at hcf; exact hcf⟩, lf_v (by rfl)⟩ | (exfalso; omega)
    · refine w_loc rfl ?_
      refine w_getR (q := 134) is_129 rf_129_2 ?_
      refine w_loc rfl ?_
      refine w_bald (v := f4 b.toNat) is_134 ln_134 ⟨by omega, by omega⟩ rfl ?_
      refine w_zne (fun h4 => ?_) (fun h4 => ?_)
      · refine pz_G_of pz_b45_29 ?_
        have hl4 := hl2 (by omega) (by assumption)
        refine w_loc rfl ?_
        refine w_getR (q := 134) is_129 rf_129_2 ?_
        refine w_loc rfl ?_
        refine w_pure rfl ?_
        refine w_bastm (iv2 := pz_u1 (pz_u1 (pz_u1 (pz_u1 (pz_u1 (pz_u1 iv 129 j) 130 f1) 131 f2) 132 f3) 134 (pz_up f4 b.toNat 0)) 135 c) is_134 ln_134 ⟨by omega, by omega⟩ (Or.inl rfl) (by rw [pz_u2_in (r := 134) (q := 135) (by decide)]; rw [pz_u2_top] <;> rfl) ?_
        refine w_loc rfl ?_
        refine w_getR (q := 134) is_129 rf_129_2 ?_
        refine w_loc rfl ?_
        refine w_loc rfl ?_
        have hc5 := s_X4_isSoundLeft (L := L) (iv := pz_u1 (pz_u1 (pz_u1 (pz_u1 (pz_u1 (pz_u1 iv 129 j) 130 f1) 131 f2) 132 f3) 134 (pz_up f4 b.toNat 0)) 135 c) (by show q_KR k; exact hk) (by show q_cE k (iv 3); exact hE) (by show q_cB k (iv 4) (iv 5) (iv 6) (iv 7) (iv 8) (iv 9); exact hB) (by show q_cS k (iv 10) (iv 11) (iv 12) (iv 13) (iv 14); exact hS) (by show q_cC k (iv 15) (iv 16); exact hC) (by show q_isl k (pz_up (q_lo0 k b) b.toNat 1) (pz_up f4 b.toNat 0); exact q_isl_off hlb (by omega))
        refine w_callE hc5 rfl (pz_cokI is_129 rfl) (fun iv9 h9 => ?_)
        obtain ⟨n9_6, w9_7, d9_8, h9e⟩ := h9
        have h9x : iv9 = pz_u1 (pz_u1 (pz_u1 (pz_u1 (pz_u1 (pz_u1 iv 129 j) 130 n9_6) 131 w9_7) 132 d9_8) 134 (pz_up f4 b.toNat 0)) 135 c := h9e.trans (by rw [pz_u1_in (r := 130) (q := 135) (by decide)]; rw [pz_u1_in (r := 130) (q := 134) (by decide)]; rw [pz_u1_in (r := 130) (q := 132) (by decide)]; rw [pz_u1_in (r := 130) (q := 131) (by decide)]; rw [pz_u1_top (r := 130)]; rw [pz_u1_in (r := 131) (q := 135) (by decide)]; rw [pz_u1_in (r := 131) (q := 134) (by decide)]; rw [pz_u1_in (r := 131) (q := 132) (by decide)]; rw [pz_u1_top (r := 131)]; rw [pz_u1_in (r := 132) (q := 135) (by decide)]; rw [pz_u1_in (r := 132) (q := 134) (by decide)]; rw [pz_u1_top (r := 132)] <;> rfl)
        subst h9x
        refine w_bastm (iv2 := pz_u1 (pz_u1 (pz_u1 (pz_u1 (pz_u1 (pz_u1 iv 129 j) 130 n9_6) 131 w9_7) 132 d9_8) 134 (pz_up (pz_up f4 b.toNat 0) b.toNat (pz_bi (q_con k (pz_up (q_lo0 k b) b.toNat 1))))) 135 c) is_134 ln_134 ⟨by omega, by omega⟩ (pz_bi01 _) (by rw [pz_u2_in (r := 134) (q := 135) (by decide)]; rw [pz_u2_top] <;> rfl) ?_
        refine w_loc rfl ?_
        refine w_getR (q := 134) is_129 rf_129_2 ?_
        refine w_loc rfl ?_
        refine w_bald (v := (pz_up (pz_up f4 b.toNat 0) b.toNat (pz_bi (q_con k (pz_up (q_lo0 k b) b.toNat 1)))) b.toNat) is_134 ln_134 ⟨by omega, by omega⟩ rfl ?_
        refine w_zeq (fun h9 => ?_) (fun h9 => ?_)
        · refine pz_G_of pz_b45_84 ?_
          refine w_iinc (ls' := [some (.inr (.inl 129)), some (.inl (b + 1))]) rfl rfl rfl (by omega) ?_
          refine w_goto ?_
          exact ih11 _ (by omega) (b + 1) j n9_6 w9_7 d9_8 (pz_up (pz_up f4 b.toNat 0) b.toNat (pz_bi (q_con k (pz_up (q_lo0 k b) b.toNat 1)))) c  rfl (by omega) (by first | exact q_lo0_n hb.1 hlb (fun q => hl3 (by omega) (by assumption) ⟨q.1, q.2, hz0⟩) | exact q_lo0_y hb.1 hl4.1 hlb hl4.2.1 rfl) (by first | (rw [q_cx_s hb.1 (by omega), ← hjn, pz_bi_0 (fun q => hl3 (by omega) (by assumption) ⟨q.1, q.2.1, hz0⟩)]; omega) | (rw [q_cx_s hb.1 (by omega), pz_bi_1 ⟨hl4.1, hl4.2.1, q_by3 (by assumption)⟩, ← hjn]; rfl) | (rw [q_cx_s hb.1 (by omega), ← hjn, pz_bi_0 (fun q => q_bn3 (by assumption) q.2.2)]; omega) | (exfalso; omega)) (by first | exact q_cx_n hcf (fun q => hl3 (by omega) (by assumption) ⟨q.1, q.2.1, hz0⟩) | exact q_cx_y hb.1 hl4.1 hcf hjn | exact q_cx_n hcf (fun q => q_bn3 (by assumption) q.2.2) | (exfalso; omega))
        · refine w_loc rfl ?_
          refine w_getI (v := j 3) is_129 (by decide) rfl ?_
          refine w_pure rfl ?_
          refine w_ige (fun h10 => ?_) (fun h10 => ?_)
          · refine pz_G_of pz_b45_84 ?_
            refine w_iinc (ls' := [some (.inr (.inl 129)), some (.inl (b + 1))]) rfl rfl rfl (by omega) ?_
            refine w_goto ?_
            exact ih11 _ (by omega) (b + 1) j n9_6 w9_7 d9_8 (pz_up (pz_up f4 b.toNat 0) b.toNat (pz_bi (q_con k (pz_up (q_lo0 k b) b.toNat 1)))) c  rfl (by omega) (by first | exact q_lo0_n hb.1 hlb (fun q => hl3 (by omega) (by assumption) ⟨q.1, q.2, hz0⟩) | exact q_lo0_y hb.1 hl4.1 hlb hl4.2.1 rfl) (by first | (rw [q_cx_s hb.1 (by omega), ← hjn, pz_bi_0 (fun q => hl3 (by omega) (by assumption) ⟨q.1, q.2.1, hz0⟩)]; omega) | (rw [q_cx_s hb.1 (by omega), pz_bi_1 ⟨hl4.1, hl4.2.1, q_by3 (by assumption)⟩, ← hjn]; rfl) | (rw [q_cx_s hb.1 (by omega), ← hjn, pz_bi_0 (fun q => q_bn3 (by assumption) q.2.2)]; omega) | (exfalso; omega)) (by first | exact q_cx_n hcf (fun q => hl3 (by omega) (by assumption) ⟨q.1, q.2.1, hz0⟩) | exact q_cx_y hb.1 hl4.1 hcf hjn | exact q_cx_n hcf (fun q => q_bn3 (by assumption) q.2.2) | (exfalso; omega))
          · refine w_loc rfl ?_
            refine w_getR (q := 135) is_129 rf_129_4 ?_
            refine w_loc rfl ?_
            refine w_getI (v := j 3) is_129 (by decide) rfl ?_
            refine w_loc rfl ?_
            refine w_iastm (iv2 := pz_u1 (pz_u1 (pz_u1 (pz_u1 (pz_u1 (pz_u1 iv 129 j) 130 n9_6) 131 w9_7) 132 d9_8) 134 (pz_up (pz_up f4 b.toNat 0) b.toNat (pz_bi (q_con k (pz_up (q_lo0 k b) b.toNat 1))))) 135 (pz_up c (j 3).toNat b)) is_135 ln_135 ⟨by omega, by omega⟩ (by exact pz_u2_top _ _ _ _ _) ?_
            refine w_loc rfl ?_
            refine w_pure rfl ?_
            refine w_getI (v := j 3) is_129 (by decide) rfl ?_
            refine w_pure rfl ?_
            refine w_iadd (by omega) ?_
            refine w_putIm (iv2 := pz_u1 (pz_u1 (pz_u1 (pz_u1 (pz_u1 (pz_u1 iv 129 (pz_up j 3 ((j 3) + 1))) 130 n9_6) 131 w9_7) 132 d9_8) 134 (pz_up (pz_up f4 b.toNat 0) b.toNat (pz_bi (q_con k (pz_up (q_lo0 k b) b.toNat 1))))) 135 (pz_up c (j 3).toNat b)) is_129 pz_fit0 (by rw [pz_u2_in (r := 129) (q := 135) (by decide)]; rw [pz_u2_in (r := 129) (q := 134) (by decide)]; rw [pz_u2_in (r := 129) (q := 132) (by decide)]; rw [pz_u2_in (r := 129) (q := 131) (by decide)]; rw [pz_u2_in (r := 129) (q := 130) (by decide)]; rw [pz_u2_top] <;> rfl) ?_
            refine w_nil ?_
            refine pz_G_of pz_b45_84 ?_
            refine w_iinc (ls' := [some (.inr (.inl 129)), some (.inl (b + 1))]) rfl rfl rfl (by omega) ?_
            refine w_goto ?_
            exact ih11 _ (by omega) (b + 1) (pz_up j 3 ((j 3) + 1)) n9_6 w9_7 d9_8 (pz_up (pz_up f4 b.toNat 0) b.toNat (pz_bi (q_con k (pz_up (q_lo0 k b) b.toNat 1)))) (pz_up c (j 3).toNat b)  rfl (by omega) (by first | exact q_lo0_n hb.1 hlb (fun q => hl3 (by omega) (by assumption) ⟨q.1, q.2, hz0⟩) | exact q_lo0_y hb.1 hl4.1 hlb hl4.2.1 rfl) (by first | (rw [q_cx_s hb.1 (by omega), ← hjn, pz_bi_0 (fun q => hl3 (by omega) (by assumption) ⟨q.1, q.2.1, hz0⟩)]; omega) | (rw [q_cx_s hb.1 (by omega), pz_bi_1 ⟨hl4.1, hl4.2.1, q_by3 (by assumption)⟩, ← hjn]; rfl) | (rw [q_cx_s hb.1 (by omega), ← hjn, pz_bi_0 (fun q => q_bn3 (by assumption) q.2.2)]; omega) | (exfalso; omega)) (by first | exact q_cx_n hcf (fun q => hl3 (by omega) (by assumption) ⟨q.1, q.2.1, hz0⟩) | exact q_cx_y hb.1 hl4.1 hcf hjn | exact q_cx_n hcf (fun q => q_bn3 (by assumption) q.2.2) | (exfalso; omega))
      · refine w_goto ?_
        refine pz_G_of pz_b45_84 ?_
        refine w_iinc (ls' := [some (.inr (.inl 129)), some (.inl (b + 1))]) rfl rfl rfl (by omega) ?_
        refine w_goto ?_
        exact ih11 _ (by omega) (b + 1) j f1 f2 f3 f4 c  rfl (by omega) (by first | exact q_lo0_n hb.1 hlb (fun q => hl3 (by omega) (by assumption) ⟨q.1, q.2, hz0⟩) | exact q_lo0_y hb.1 hl4.1 hlb hl4.2.1 rfl) (by first | (rw [q_cx_s hb.1 (by omega), ← hjn, pz_bi_0 (fun q => hl3 (by omega) (by assumption) ⟨q.1, q.2.1, hz0⟩)]; omega) | (rw [q_cx_s hb.1 (by omega), pz_bi_1 ⟨hl4.1, hl4.2.1, q_by3 (by assumption)⟩, ← hjn]; rfl) | (rw [q_cx_s hb.1 (by omega), ← hjn, pz_bi_0 (fun q => q_bn3 (by assumption) q.2.2)]; omega) | (exfalso; omega)) (by first | exact q_cx_n hcf (fun q => hl3 (by omega) (by assumption) ⟨q.1, q.2.1, hz0⟩) | exact q_cx_y hb.1 hl4.1 hcf hjn | exact q_cx_n hcf (fun q => q_bn3 (by assumption) q.2.2) | (exfalso; omega))
  exact lp11 _ 0 (pz_up (iv 129) 3 0) (iv 130) (iv 131) (iv 132) l9_2 (iv 135)  rfl (by omega) (by unfold q_lo0; rw [q_fr_0 (by omega)]; exact hisl) (by rw [pz_up_eq, show min 0 (k 1) = 0 by omega]; rfl) (by intro i g1 g2; omega)

theorem s_X4_layPicked {L : Nat} {iv : Nat → Nat → Int} (p : Int) {k : Nat → Int} (hk : q_KR k) (hS : q_cS k (iv 10) (iv 11) (iv 12) (iv 13) (iv 14)) (hC : q_cC k (iv 15) (iv 16)) (hp : 0 ≤ p ∧ p ≤ 15) : pz_R (pz_Sh L) 48 [.inr (.inl 129), .inl p] iv (.inl none) (pz_u1 iv 131 (q_fr (q_lpE k p) 0 (k 2) (iv 131))) := by
  intro dv cc ss
  have hk0 := hk.r0
  have hS0 := hS.1
  have hC0 := hC.1
  refine pz_G_mem (iv2 := pz_u1 iv 131 (iv 131)) (by exact (pz_u1_self iv 131).symm) ?_
  show pz_G 48 0 [some (.inr (.inl 129)), some (.inl p), none, none, none] [] (pz_Sh L, pz_u1 iv 131 (iv 131), dv, cc, ss) (pz_P (pz_Sh L) (.inl none) (pz_u1 iv 131 (q_fr (q_lpE k p) 0 (k 2) (iv 131))) dv cc ss)
  refine pz_G_of pz_b48_0 ?_
  refine w_loc rfl ?_
  refine w_getR (q := 3) is_129 rf_129_0 ?_
  refine w_getR (q := 10) is_3 rf_3_2 ?_
  refine w_loc (ls' := [some (.inr (.inl 129)), some (.inl p), some (.inr (.inl 10)), none, none]) (st' := []) rfl ?_
  refine w_pure rfl ?_
  refine w_loc (ls' := [some (.inr (.inl 129)), some (.inl p), some (.inr (.inl 10)), some (.inl 0), none]) (st' := []) rfl ?_
  refine w_nil ?_
  have lp10 : ∀ (dd : Nat) (s : Int) (f : Nat → Int) (u10_4 : Option pz_V) (hu10_4 : pz_nc u10_4 = true), (k 2 - s).toNat = dd → ∀ (hs : 0 ≤ s ∧ s ≤ k 2), ∀ (hf : f = q_fr (q_lpE k p) 0 s (iv 131)),  pz_G 48 10 [some (.inr (.inl 129)), some (.inl p), some (.inr (.inl 10)), some (.inl s), u10_4] [] (pz_Sh L, pz_u1 iv 131 f, dv, cc, ss) (pz_P (pz_Sh L) (.inl none) (pz_u1 iv 131 (q_fr (q_lpE k p) 0 (k 2) (iv 131))) dv cc ss) := by
    intro dd10
    induction dd10 using Nat.strongRecOn with
    | _ dd10 ih10 =>
    intro s f u10_4 hu10_4 hd10 hs hf
    have hsp := fun h => hk.sp hs.1 h
    have hpr := fun h => q_pck_r (p := p) hk hs.1 h
    refine pz_G_of pz_b48_10 ?_
    refine w_loc rfl ?_
    refine w_loc rfl ?_
    refine w_getI (v := (iv 10) 0) is_10 (by decide) rfl ?_
    refine w_ige (fun h1 => ?_) (fun h1 => ?_)
    · refine pz_G_of pz_b48_68 ?_
      refine w_vret ?_
      first | exact lf_v (by rw [hf, show s = k 2 by omega]) | (exfalso; omega)
    · refine w_loc rfl ?_
      refine w_loc rfl ?_
      refine w_loc rfl ?_
      refine w_getR (q := 3) is_129 rf_129_0 ?_
      refine w_getR (q := 15) is_3 rf_3_3 ?_
      have hc2 : pz_R (pz_Sh L) 116 [.inr (.inl 10), .inl s, .inr (.inl 15)] (pz_u1 iv 131 f) (.inl (some (.inl (pz_bi (q_sta k (k (212 + 4 * s + 1).toNat)))))) (pz_u1 iv 131 f) := s_X9_hasEnded_15 s (by show q_KR k; exact hk) (by show q_cS k (iv 10) (iv 11) (iv 12) (iv 13) (iv 14); exact hS) (by show q_cC k (iv 15) (iv 16); exact hC) (by show 0 ≤ s ∧ s < k 2; omega)
      refine w_call hc2 rfl (pz_cokI is_10 rfl) ?_
      refine w_bne (fun h3 => ?_) (fun h3 => ?_)
      · refine pz_G_of pz_b48_62 ?_
        refine w_iinc (ls' := [some (.inr (.inl 129)), some (.inl p), some (.inr (.inl 10)), some (.inl (s + 1)), u10_4]) rfl rfl rfl (by omega) ?_
        refine w_goto ?_
        exact ih10 _ (by omega) (s + 1) f u10_4 hu10_4 rfl (by omega) (by rw [q_fr_s (by omega), ← hf]; unfold q_lpE; first | rw [q_if_t (by assumption)] | rw [q_if_f (by assumption)])
      · refine w_loc rfl ?_
        refine w_loc rfl ?_
        refine w_loc rfl ?_
        have hc4 : pz_R (pz_Sh L) 114 [.inr (.inl 10), .inl s, .inl p] (pz_u1 iv 131 f) (.inl (some (.inl (q_pck k p s)))) (pz_u1 iv 131 f) := s_X9_pickedOf s p (by show q_KR k; exact hk) (by show q_cS k (iv 10) (iv 11) (iv 12) (iv 13) (iv 14); exact hS) (by show 0 ≤ s ∧ s < k 2; omega) (by show 0 ≤ p ∧ p ≤ 15; omega)
        refine w_call hc4 rfl (pz_cokI is_10 rfl) ?_
        refine w_loc (ls' := [some (.inr (.inl 129)), some (.inl p), some (.inr (.inl 10)), some (.inl s), some (.inl (q_pck k p s))]) (st' := []) rfl ?_
        refine w_loc rfl ?_
        refine w_getR (q := 130) is_129 rf_129_1 ?_
        refine w_loc rfl ?_
        refine w_loc rfl ?_
        have hc5 : pz_R (pz_Sh L) 110 [.inr (.inl 10), .inl s] (pz_u1 iv 131 f) (.inl (some (.inl (k (212 + 4 * s).toNat)))) (pz_u1 iv 131 f) := s_X9_firstOf s (by show q_KR k; exact hk) (by show q_cS k (iv 10) (iv 11) (iv 12) (iv 13) (iv 14); exact hS) (by show 0 ≤ s ∧ s < k 2; omega)
        refine w_call hc5 rfl (pz_cokI is_10 rfl) ?_
        refine w_loc rfl ?_
        refine w_loc rfl ?_
        have hc6 : pz_R (pz_Sh L) 111 [.inr (.inl 10), .inl s] (pz_u1 iv 131 f) (.inl (some (.inl (k (212 + 4 * s + 1).toNat)))) (pz_u1 iv 131 f) := s_X9_endOf s (by show q_KR k; exact hk) (by show q_cS k (iv 10) (iv 11) (iv 12) (iv 13) (iv 14); exact hS) (by show 0 ≤ s ∧ s < k 2; omega)
        refine w_call hc6 rfl (pz_cokI is_10 rfl) ?_
        refine w_loc rfl ?_
        refine w_loc rfl ?_
        have hc7 : pz_R (pz_Sh L) 55 [.inr (.inl 130), .inl (k (212 + 4 * s).toNat), .inl (k (212 + 4 * s + 1).toNat), .inl (q_pck k p s), .inl (q_pck k p s)] (pz_u1 iv 131 f) (.inl none) (pz_u1 iv 131 (q_eg (q_eg f (k (212 + 4 * s).toNat) (k (212 + 4 * s + 1).toNat) (q_pck k p s)) (k (212 + 4 * s + 1).toNat) (k (212 + 4 * s).toNat) (-(q_pck k p s)))) := pz_R_mem (s_X5_addGap_130 (k (212 + 4 * s).toNat) (k (212 + 4 * s + 1).toNat) (q_pck k p s) (q_pck k p s) (by show 0 ≤ (k (212 + 4 * s).toNat) ∧ (k (212 + 4 * s).toNat) ≤ 9; omega) (by show 0 ≤ (k (212 + 4 * s + 1).toNat) ∧ (k (212 + 4 * s + 1).toNat) ≤ 9; omega) (by show -100000 ≤ (q_pck k p s) ∧ (q_pck k p s) ≤ 100000; omega)) (by rw [pz_u1_top (r := 131)]; rfl)
        refine w_callv hc7 rfl (pz_cokI is_130 rfl) ?_
        refine w_nil ?_
        refine pz_G_of pz_b48_62 ?_
        refine w_iinc (ls' := [some (.inr (.inl 129)), some (.inl p), some (.inr (.inl 10)), some (.inl (s + 1)), some (.inl (q_pck k p s))]) rfl rfl rfl (by omega) ?_
        refine w_goto ?_
        exact ih10 _ (by omega) (s + 1) (q_eg (q_eg f (k (212 + 4 * s).toNat) (k (212 + 4 * s + 1).toNat) (q_pck k p s)) (k (212 + 4 * s + 1).toNat) (k (212 + 4 * s).toNat) (-(q_pck k p s))) (some (.inl (q_pck k p s))) rfl rfl (by omega) (by rw [q_fr_s (by omega), ← hf]; unfold q_lpE; first | rw [q_if_t (by assumption)] | rw [q_if_f (by assumption)])
  exact lp10 _ 0 (iv 131) (none) rfl rfl (by omega) (by rw [q_fr_0 (by omega)])

theorem s_X4_isSoundAtCorners {L : Nat} {iv : Nat → Nat → Int} {k : Nat → Int} (hk : q_KR k) (hE : q_cE k (iv 3)) (hB : q_cB k (iv 4) (iv 5) (iv 6) (iv 7) (iv 8) (iv 9)) (hS : q_cS k (iv 10) (iv 11) (iv 12) (iv 13) (iv 14)) (hC : q_cC k (iv 15) (iv 16)) (hL : q_cL k (iv 25)) : pz_RE (pz_Sh L) 47 [.inr (.inl 129)] iv (.inl (some (.inl (pz_bi (q_all (q_wkP k (fun _ => 0)) (q_p2 (k 2))))))) (fun iv9 => ∃ (n9 : Nat → Int) (w9 : Nat → Int) (d9 : Nat → Int) (l9 : Nat → Int), iv9 = pz_u1 (pz_u1 (pz_u1 (pz_u1 iv 130 n9) 131 w9) 132 d9) 134 l9) := by
  intro dv cc ss
  have hk0 := hk.r0
  have hE0 := hE
  have hB0 := hB.1
  have hS0 := hS.1
  have hC0 := hC.1
  have hsh := q_shl_p2 (a := k 2) (by omega) (by omega)
  have hp2 := q_p2_r (a := k 2) (by omega) (by omega)
  have hp3 := q_p2_le (a := k 2) (b := 3) (by omega) (by omega)
  have hp8 : q_p2 3 = 8 := rfl
  have hsc : pz_shl 1 (iv 10 0) = q_p2 (k 2) := by
    rw [hS.1]; exact hsh
  refine pz_G_mem (iv2 := pz_u1 (pz_u1 (pz_u1 (pz_u1 iv 130 (iv 130)) 131 (iv 131)) 132 (iv 132)) 134 (iv 134)) (by exact ((((pz_u1_self iv 130).symm).trans (pz_u1_self (pz_u1 iv 130 (iv 130)) 131).symm).trans (pz_u1_self (pz_u1 (pz_u1 iv 130 (iv 130)) 131 (iv 131)) 132).symm).trans (pz_u1_self (pz_u1 (pz_u1 (pz_u1 iv 130 (iv 130)) 131 (iv 131)) 132 (iv 132)) 134).symm) ?_
  show pz_G 47 0 [some (.inr (.inl 129)), none] [] (pz_Sh L, pz_u1 (pz_u1 (pz_u1 (pz_u1 iv 130 (iv 130)) 131 (iv 131)) 132 (iv 132)) 134 (iv 134), dv, cc, ss) (pz_PE (pz_Sh L) (.inl (some (.inl (pz_bi (q_all (q_wkP k (fun _ => 0)) (q_p2 (k 2))))))) (fun iv9 => ∃ (n9 : Nat → Int) (w9 : Nat → Int) (d9 : Nat → Int) (l9 : Nat → Int), iv9 = pz_u1 (pz_u1 (pz_u1 (pz_u1 iv 130 n9) 131 w9) 132 d9) 134 l9) dv cc ss)
  refine pz_G_of pz_b47_0 ?_
  refine w_loc rfl ?_
  have hc1 := s_X4_leaveHeld (L := L) (iv := pz_u1 (pz_u1 (pz_u1 (pz_u1 iv 130 (iv 130)) 131 (iv 131)) 132 (iv 132)) 134 (iv 134)) (by show q_KR k; exact hk) (by show q_cB k (iv 4) (iv 5) (iv 6) (iv 7) (iv 8) (iv 9); exact hB) (by show q_cL k (iv 25); exact hL)
  refine w_callvE hc1 rfl (pz_cokI is_129 rfl) (fun iv9 h9 => ?_)
  obtain ⟨l9_2, h9e, hisl⟩ := h9
  have h9x : iv9 = pz_u1 (pz_u1 (pz_u1 (pz_u1 iv 130 (iv 130)) 131 (iv 131)) 132 (iv 132)) 134 l9_2 := h9e.trans (by rw [pz_u1_top (r := 134)] <;> rfl)
  subst h9x
  replace hisl : q_isl k (fun _ => 0) l9_2 := hisl
  refine w_pure rfl ?_
  refine w_loc (ls' := [some (.inr (.inl 129)), some (.inl 0)]) (st' := []) rfl ?_
  refine w_nil ?_
  have lp6 : ∀ (dd : Nat) (p : Int) (f1 : Nat → Int) (f2 : Nat → Int) (f3 : Nat → Int) (f4 : Nat → Int) , (q_p2 (k 2) - p).toNat = dd → ∀ (hp : 0 ≤ p ∧ p ≤ q_p2 (k 2)), ∀ (hlb : q_isl k (fun _ => 0) f4), ∀ (hno : ∀ v : Int, 0 ≤ v → v < p → q_wkP k (fun _ => 0) v),  pz_G 47 6 [some (.inr (.inl 129)), some (.inl p)] [] (pz_Sh L, pz_u1 (pz_u1 (pz_u1 (pz_u1 iv 130 f1) 131 f2) 132 f3) 134 f4, dv, cc, ss) (pz_PE (pz_Sh L) (.inl (some (.inl (pz_bi (q_all (q_wkP k (fun _ => 0)) (q_p2 (k 2))))))) (fun iv9 => ∃ (n9 : Nat → Int) (w9 : Nat → Int) (d9 : Nat → Int) (l9 : Nat → Int), iv9 = pz_u1 (pz_u1 (pz_u1 (pz_u1 iv 130 n9) 131 w9) 132 d9) 134 l9) dv cc ss) := by
    intro dd6
    induction dd6 using Nat.strongRecOn with
    | _ dd6 ih6 =>
    intro p f1 f2 f3 f4  hd6 hp hlb hno
    refine pz_G_of pz_b47_6 ?_
    refine w_loc rfl ?_
    refine w_loc rfl ?_
    refine w_getR (q := 3) is_129 rf_129_0 ?_
    refine w_getR (q := 10) is_3 rf_3_2 ?_
    refine w_getI (v := (iv 10) 0) is_10 (by decide) rfl ?_
    have hc3 : pz_R (pz_Sh L) 186 [.inl ((iv 10) 0)] (pz_u1 (pz_u1 (pz_u1 (pz_u1 iv 130 f1) 131 f2) 132 f3) 134 f4) (.inl (some (.inl (pz_shl 1 ((iv 10) 0))))) (pz_u1 (pz_u1 (pz_u1 (pz_u1 iv 130 f1) 131 f2) 132 f3) 134 f4) := s_X10_bit ((iv 10) 0)
    refine w_call hc3 rfl rfl ?_
    refine w_ige (fun h4 => ?_) (fun h4 => ?_)
    · refine pz_G_of pz_b47_61 ?_
      refine w_pure rfl ?_
      refine w_ret (pz_rok1 (Or.inr rfl)) ?_
      exact ⟨pz_u1 (pz_u1 (pz_u1 (pz_u1 iv 130 f1) 131 f2) 132 f3) 134 f4, ⟨f1, f2, f3, f4, by rfl⟩, (by first | exact lf_i (pz_bi_t (fun v g1 g2 => hno v g1 (by omega))) rfl | exact lf_i (pz_bi_f (fun q => (by assumption : ¬ _) ((q_lay_wk hk (by omega)).mpr (q p hp.1 (by omega))))) rfl)⟩
    · refine w_loc rfl ?_
      refine w_loc rfl ?_
      refine w_getR (q := 130) is_129 rf_129_1 ?_
      have hc5 : pz_R (pz_Sh L) 37 [.inr (.inl 129), .inr (.inl 130)] (pz_u1 (pz_u1 (pz_u1 (pz_u1 iv 130 f1) 131 f2) 132 f3) 134 f4) (.inl none) (pz_u1 (pz_u1 (pz_u1 (pz_u1 iv 130 (pz_up f1 0 (k 0))) 131 (q_lay k (fun _ => 0) f2)) 132 f3) 134 f4) := pz_R_mem (s_X4_layLeft_130 (by show q_KR k; exact hk) (by show q_cE k (iv 3); exact hE) (by show q_cB k (iv 4) (iv 5) (iv 6) (iv 7) (iv 8) (iv 9); exact hB) (by show q_cS k (iv 10) (iv 11) (iv 12) (iv 13) (iv 14); exact hS) (by show q_cC k (iv 15) (iv 16); exact hC) (by show q_isl k (fun _ => 0) f4; exact hlb)) (by rw [pz_u1_in (r := 130) (q := 134) (by decide)]; rw [pz_u1_in (r := 130) (q := 132) (by decide)]; rw [pz_u1_in (r := 130) (q := 131) (by decide)]; rw [pz_u1_top (r := 130)]; rw [pz_u1_in (r := 131) (q := 134) (by decide)]; rw [pz_u1_in (r := 131) (q := 132) (by decide)]; rw [pz_u1_top (r := 131)]; rfl)
      refine w_callv hc5 rfl (pz_cokI is_129 rfl) ?_
      refine w_loc rfl ?_
      refine w_loc rfl ?_
      have hc6 : pz_R (pz_Sh L) 48 [.inr (.inl 129), .inl p] (pz_u1 (pz_u1 (pz_u1 (pz_u1 iv 130 (pz_up f1 0 (k 0))) 131 (q_lay k (fun _ => 0) f2)) 132 f3) 134 f4) (.inl none) (pz_u1 (pz_u1 (pz_u1 (pz_u1 iv 130 (pz_up f1 0 (k 0))) 131 (q_fr (q_lpE k p) 0 (k 2) (q_lay k (fun _ => 0) f2))) 132 f3) 134 f4) := pz_R_mem (s_X4_layPicked p (by show q_KR k; exact hk) (by show q_cS k (iv 10) (iv 11) (iv 12) (iv 13) (iv 14); exact hS) (by show q_cC k (iv 15) (iv 16); exact hC) (by show 0 ≤ p ∧ p ≤ 15; omega)) (by rw [pz_u1_in (r := 131) (q := 134) (by decide)]; rw [pz_u1_in (r := 131) (q := 132) (by decide)]; rw [pz_u1_top (r := 131)]; rfl)
      refine w_callv hc6 rfl (pz_cokI is_129 rfl) ?_
      refine w_loc rfl ?_
      refine w_getR (q := 130) is_129 rf_129_1 ?_
      have hc7 : pz_R (pz_Sh L) 56 [.inr (.inl 130)] (pz_u1 (pz_u1 (pz_u1 (pz_u1 iv 130 (pz_up f1 0 (k 0))) 131 (q_fr (q_lpE k p) 0 (k 2) (q_lay k (fun _ => 0) f2))) 132 f3) 134 f4) (.inl none) (pz_u1 (pz_u1 (pz_u1 (pz_u1 iv 130 (pz_up (pz_up f1 0 (k 0)) 1 (pz_bi (q_okc (k 0) (q_cI (k 0) (q_cz (k 0) (q_cp 100 (q_fr (q_lpE k p) 0 (k 2) (q_lay k (fun _ => 0) f2)) f3)) (q_cp 100 (q_fr (q_lpE k p) 0 (k 2) (q_lay k (fun _ => 0) f2)) f3)))))) 131 (q_fr (q_lpE k p) 0 (k 2) (q_lay k (fun _ => 0) f2))) 132 (q_cI (k 0) (q_cz (k 0) (q_cp 100 (q_fr (q_lpE k p) 0 (k 2) (q_lay k (fun _ => 0) f2)) f3)) (q_cp 100 (q_fr (q_lpE k p) 0 (k 2) (q_lay k (fun _ => 0) f2)) f3))) 134 f4) := pz_R_mem (s_X5_close_130 (by show (pz_up f1 0 (k 0)) 0 = (k 0) ∧ 1 ≤ (k 0) ∧ (k 0) ≤ 10; first | exact ⟨rfl, by omega, by omega⟩ | exact ⟨hE.1, by omega, by omega⟩) (by show q_cw (k 0) (q_cp 100 (q_fr (q_lpE k p) 0 (k 2) (q_lay k (fun _ => 0) f2)) f3); exact q_cw_wk hk (by omega))) (by rw [pz_u1_in (r := 130) (q := 134) (by decide)]; rw [pz_u1_in (r := 130) (q := 132) (by decide)]; rw [pz_u1_in (r := 130) (q := 131) (by decide)]; rw [pz_u1_top (r := 130)]; rw [pz_u1_in (r := 132) (q := 134) (by decide)]; rw [pz_u1_top (r := 132)]; rfl)
      refine w_callv hc7 rfl (pz_cokI is_130 rfl) ?_
      refine w_loc rfl ?_
      refine w_getR (q := 130) is_129 rf_129_1 ?_
      refine w_getI (v := pz_bi (q_okc (k 0) (q_cI (k 0) (q_cz (k 0) (q_cp 100 (q_fr (q_lpE k p) 0 (k 2) (q_lay k (fun _ => 0) f2)) f3)) (q_cp 100 (q_fr (q_lpE k p) 0 (k 2) (q_lay k (fun _ => 0) f2)) f3)))) is_130 (by decide) rfl ?_
      refine w_bne (fun h8 => ?_) (fun h8 => ?_)
      · refine pz_G_of pz_b47_55 ?_
        refine w_iinc (ls' := [some (.inr (.inl 129)), some (.inl (p + 1))]) rfl rfl rfl (by omega) ?_
        refine w_goto ?_
        exact ih6 _ (by omega) (p + 1) (pz_up (pz_up f1 0 (k 0)) 1 (pz_bi (q_okc (k 0) (q_cI (k 0) (q_cz (k 0) (q_cp 100 (q_fr (q_lpE k p) 0 (k 2) (q_lay k (fun _ => 0) f2)) f3)) (q_cp 100 (q_fr (q_lpE k p) 0 (k 2) (q_lay k (fun _ => 0) f2)) f3))))) (q_fr (q_lpE k p) 0 (k 2) (q_lay k (fun _ => 0) f2)) (q_cI (k 0) (q_cz (k 0) (q_cp 100 (q_fr (q_lpE k p) 0 (k 2) (q_lay k (fun _ => 0) f2)) f3)) (q_cp 100 (q_fr (q_lpE k p) 0 (k 2) (q_lay k (fun _ => 0) f2)) f3)) f4  rfl (by omega) (by exact hlb) (by intro v g1 g2; by_cases g3 : v = p; (rw [g3]; exact (q_lay_wk hk (by omega)).mp (by assumption)); exact hno v g1 (by omega))
      · refine w_pure rfl ?_
        refine w_ret (pz_rok1 (Or.inl rfl)) ?_
        exact ⟨pz_u1 (pz_u1 (pz_u1 (pz_u1 iv 130 (pz_up (pz_up f1 0 (k 0)) 1 (pz_bi (q_okc (k 0) (q_cI (k 0) (q_cz (k 0) (q_cp 100 (q_fr (q_lpE k p) 0 (k 2) (q_lay k (fun _ => 0) f2)) f3)) (q_cp 100 (q_fr (q_lpE k p) 0 (k 2) (q_lay k (fun _ => 0) f2)) f3)))))) 131 (q_fr (q_lpE k p) 0 (k 2) (q_lay k (fun _ => 0) f2))) 132 (q_cI (k 0) (q_cz (k 0) (q_cp 100 (q_fr (q_lpE k p) 0 (k 2) (q_lay k (fun _ => 0) f2)) f3)) (q_cp 100 (q_fr (q_lpE k p) 0 (k 2) (q_lay k (fun _ => 0) f2)) f3))) 134 f4, ⟨(pz_up (pz_up f1 0 (k 0)) 1 (pz_bi (q_okc (k 0) (q_cI (k 0) (q_cz (k 0) (q_cp 100 (q_fr (q_lpE k p) 0 (k 2) (q_lay k (fun _ => 0) f2)) f3)) (q_cp 100 (q_fr (q_lpE k p) 0 (k 2) (q_lay k (fun _ => 0) f2)) f3))))), (q_fr (q_lpE k p) 0 (k 2) (q_lay k (fun _ => 0) f2)), (q_cI (k 0) (q_cz (k 0) (q_cp 100 (q_fr (q_lpE k p) 0 (k 2) (q_lay k (fun _ => 0) f2)) f3)) (q_cp 100 (q_fr (q_lpE k p) 0 (k 2) (q_lay k (fun _ => 0) f2)) f3)), f4, by rfl⟩, (by first | exact lf_i (pz_bi_t (fun v g1 g2 => hno v g1 (by omega))) rfl | exact lf_i (pz_bi_f (fun q => (by assumption : ¬ _) ((q_lay_wk hk (by omega)).mpr (q p hp.1 (by omega))))) rfl)⟩
  exact lp6 _ 0 (iv 130) (iv 131) (iv 132) l9_2  rfl (by omega) (by exact hisl) (by intro v g1 g2; omega)

theorem s_X9_firstOf_g {L : Nat} {iv : Nat → Nat → Int} (s : Int) {k : Nat → Int} (hk : q_KR k) (hS : q_cS k (iv 10) (iv 11) (iv 12) (iv 13) (iv 14)) (hs : s = -1 ∨ (0 ≤ s ∧ s < k 2)) : pz_R (pz_Sh L) 110 [.inr (.inl 10), .inl s] iv (.inl (some (.inl (q_if (s = -1) 0 (k (212 + 4 * s).toNat))))) iv := by
  intro dv cc ss
  have hk0 := hk.r0
  have hS0 := hS.1
  have hSs := hS.2 s
  have hsp := fun h1 h2 => hk.sp (s := s) h1 h2
  show pz_G 110 0 [some (.inr (.inl 10)), some (.inl s)] [] (pz_Sh L, iv, dv, cc, ss) (pz_P (pz_Sh L) (.inl (some (.inl (q_if (s = -1) 0 (k (212 + 4 * s).toNat))))) iv dv cc ss)
  refine pz_G_of pz_b110_0 ?_
  refine w_loc rfl ?_
  refine w_zlt (fun h1 => ?_) (fun h1 => ?_)
  · refine pz_G_of pz_b110_18 ?_
    refine w_pure rfl ?_
    refine w_nil ?_
    refine pz_G_of pz_b110_19 ?_
    refine w_ret rfl ?_
    first | exact lf_i (by first | (rw [q_if_t (by omega)]) | (rw [q_if_f (by omega)]; omega)) rfl | (exfalso; omega)
  · refine w_loc rfl ?_
    refine w_pure rfl ?_
    refine w_ige (fun h2 => ?_) (fun h2 => ?_)
    · refine pz_G_of pz_b110_18 ?_
      refine w_pure rfl ?_
      refine w_nil ?_
      refine pz_G_of pz_b110_19 ?_
      refine w_ret rfl ?_
      first | exact lf_i (by first | (rw [q_if_t (by omega)]) | (rw [q_if_f (by omega)]; omega)) rfl | (exfalso; omega)
    · refine w_loc rfl ?_
      refine w_getR (q := 11) is_10 rf_10_1 ?_
      refine w_loc rfl ?_
      refine w_iald (v := (iv 11) s.toNat) is_11 ln_11 ⟨by omega, by omega⟩ rfl ?_
      refine w_goto ?_
      refine pz_G_of pz_b110_19 ?_
      refine w_ret rfl ?_
      first | exact lf_i (by first | (rw [q_if_t (by omega)]) | (rw [q_if_f (by omega)]; omega)) rfl | (exfalso; omega)

theorem s_X4_findRoots {L : Nat} {iv : Nat → Nat → Int} (p : Int) {k : Nat → Int} (hk : q_KR k) (hS : q_cS k (iv 10) (iv 11) (iv 12) (iv 13) (iv 14)) (hC : q_cC k (iv 15) (iv 16)) (hp : 0 ≤ p ∧ p ≤ 15) : pz_RE (pz_Sh L) 50 [.inr (.inl 129), .inl p] iv (.inl none) (fun iv9 => ∃ (r9 : Nat → Int) (h9 : Nat → Int), iv9 = pz_u1 (pz_u1 iv 136 r9) 137 h9 ∧ (q_rtK k p r9 h9 10)) := by
  intro dv cc ss
  have hk0 := hk.r0
  have hS0 := hS.1
  have hC0 := hC.1
  refine pz_G_mem (iv2 := pz_u1 (pz_u1 iv 136 (iv 136)) 137 (iv 137)) (by exact ((pz_u1_self iv 136).symm).trans (pz_u1_self (pz_u1 iv 136 (iv 136)) 137).symm) ?_
  show pz_G 50 0 [some (.inr (.inl 129)), some (.inl p), none, none, none, none] [] (pz_Sh L, pz_u1 (pz_u1 iv 136 (iv 136)) 137 (iv 137), dv, cc, ss) (pz_PE (pz_Sh L) (.inl none) (fun iv9 => ∃ (r9 : Nat → Int) (h9 : Nat → Int), iv9 = pz_u1 (pz_u1 iv 136 r9) 137 h9 ∧ (q_rtK k p r9 h9 10)) dv cc ss)
  refine pz_G_of pz_b50_0 ?_
  refine w_loc rfl ?_
  refine w_getR (q := 3) is_129 rf_129_0 ?_
  refine w_getR (q := 10) is_3 rf_3_2 ?_
  refine w_loc (ls' := [some (.inr (.inl 129)), some (.inl p), some (.inr (.inl 10)), none, none, none]) (st' := []) rfl ?_
  refine w_pure rfl ?_
  refine w_loc (ls' := [some (.inr (.inl 129)), some (.inl p), some (.inr (.inl 10)), some (.inl 0), none, none]) (st' := []) rfl ?_
  refine w_nil ?_
  have lp10 : ∀ (dd : Nat) (e : Int) (r : Nat → Int) (h : Nat → Int) (u10_4 : Option pz_V) (hu10_4 : pz_nc u10_4 = true) (u10_5 : Option pz_V) (hu10_5 : pz_nc u10_5 = true), (10 - e).toNat = dd → ∀ (he : 0 ≤ e ∧ e ≤ 10), ∀ (hr : q_rtK k p r h e), ∀ (hb : q_rb r h e),  pz_G 50 10 [some (.inr (.inl 129)), some (.inl p), some (.inr (.inl 10)), some (.inl e), u10_4, u10_5] [] (pz_Sh L, pz_u1 (pz_u1 iv 136 r) 137 h, dv, cc, ss) (pz_PE (pz_Sh L) (.inl none) (fun iv9 => ∃ (r9 : Nat → Int) (h9 : Nat → Int), iv9 = pz_u1 (pz_u1 iv 136 r9) 137 h9 ∧ (q_rtK k p r9 h9 10)) dv cc ss) := by
    intro dd10
    induction dd10 using Nat.strongRecOn with
    | _ dd10 ih10 =>
    intro e r h u10_4 hu10_4 u10_5 hu10_5 hd10 he hr hb
    have hwe := q_we_spec (k := k) (e := e) (by omega)
    have hsp := fun h1 h2 => hk.sp (s := q_we k e) h1 h2
    have hfs : q_we k e ≠ -1 → q_if (q_we k e = -1) 0 (k (212 + 4 * q_we k e).toNat) = k (212 + 4 * q_we k e).toNat := fun h => q_if_f h
    have hpr := fun h1 h2 => q_pck_r (p := p) (s := q_we k e) hk h1 h2
    have hbf := fun h1 h2 => hb (k (212 + 4 * q_we k e).toNat) h1 h2
    have hrf := fun h1 h2 => hr (k (212 + 4 * q_we k e).toNat) h1 h2
    refine pz_G_of pz_b50_10 ?_
    refine w_loc rfl ?_
    refine w_pure rfl ?_
    refine w_ige (fun h1 => ?_) (fun h1 => ?_)
    · refine pz_G_of pz_b50_115 ?_
      refine w_vret ?_
      first | exact ⟨pz_u1 (pz_u1 iv 136 r) 137 h, ⟨r, h, by rfl, by rw [show (10 : Int) = e by omega]; exact hr⟩, lf_v (by rfl)⟩ | (exfalso; omega)
    · refine w_loc rfl ?_
      refine w_getR (q := 136) is_129 rf_129_5 ?_
      refine w_loc rfl ?_
      refine w_loc rfl ?_
      refine w_iastm (iv2 := pz_u1 (pz_u1 iv 136 (pz_up r e.toNat e)) 137 h) is_136 ln_136 ⟨by omega, by omega⟩ (by rw [pz_u2_in (r := 136) (q := 137) (by decide)]; rw [pz_u2_top] <;> rfl) ?_
      refine w_loc rfl ?_
      refine w_getR (q := 137) is_129 rf_129_6 ?_
      refine w_loc rfl ?_
      refine w_pure rfl ?_
      refine w_iastm (iv2 := pz_u1 (pz_u1 iv 136 (pz_up r e.toNat e)) 137 (pz_up h e.toNat 0)) is_137 ln_137 ⟨by omega, by omega⟩ (by exact pz_u2_top _ _ _ _ _) ?_
      refine w_loc rfl ?_
      refine w_loc rfl ?_
      have hc2 : pz_R (pz_Sh L) 115 [.inr (.inl 10), .inl e] (pz_u1 (pz_u1 iv 136 (pz_up r e.toNat e)) 137 (pz_up h e.toNat 0)) (.inl (some (.inl (q_we k e)))) (pz_u1 (pz_u1 iv 136 (pz_up r e.toNat e)) 137 (pz_up h e.toNat 0)) := s_X9_withEnd e (by show q_KR k; exact hk) (by show q_cS k (iv 10) (iv 11) (iv 12) (iv 13) (iv 14); exact hS)
      refine w_call hc2 rfl (pz_cokI is_10 rfl) ?_
      refine w_loc (ls' := [some (.inr (.inl 129)), some (.inl p), some (.inr (.inl 10)), some (.inl e), some (.inl (q_we k e)), u10_5]) (st' := []) rfl ?_
      refine w_loc rfl ?_
      refine w_loc rfl ?_
      have hc3 : pz_R (pz_Sh L) 110 [.inr (.inl 10), .inl (q_we k e)] (pz_u1 (pz_u1 iv 136 (pz_up r e.toNat e)) 137 (pz_up h e.toNat 0)) (.inl (some (.inl (q_if ((q_we k e) = -1) 0 (k (212 + 4 * (q_we k e)).toNat))))) (pz_u1 (pz_u1 iv 136 (pz_up r e.toNat e)) 137 (pz_up h e.toNat 0)) := s_X9_firstOf_g (q_we k e) (by show q_KR k; exact hk) (by show q_cS k (iv 10) (iv 11) (iv 12) (iv 13) (iv 14); exact hS) (by show (q_we k e) = -1 ∨ (0 ≤ (q_we k e) ∧ (q_we k e) < k 2); omega)
      refine w_call hc3 rfl (pz_cokI is_10 rfl) ?_
      refine w_loc (ls' := [some (.inr (.inl 129)), some (.inl p), some (.inr (.inl 10)), some (.inl e), some (.inl (q_we k e)), some (.inl (q_if ((q_we k e) = -1) 0 (k (212 + 4 * (q_we k e)).toNat)))]) (st' := []) rfl ?_
      refine w_loc rfl ?_
      refine w_pure rfl ?_
      refine w_ieq (fun h4 => ?_) (fun h4 => ?_)
      · refine pz_G_of pz_b50_109 ?_
        refine w_iinc (ls' := [some (.inr (.inl 129)), some (.inl p), some (.inr (.inl 10)), some (.inl (e + 1)), some (.inl (q_we k e)), some (.inl (q_if ((q_we k e) = -1) 0 (k (212 + 4 * (q_we k e)).toNat)))]) rfl rfl rfl (by omega) ?_
        refine w_goto ?_
        exact ih10 _ (by omega) (e + 1) (pz_up r e.toNat e) (pz_up h e.toNat 0) (some (.inl (q_we k e))) rfl (some (.inl (q_if ((q_we k e) = -1) 0 (k (212 + 4 * (q_we k e)).toNat)))) rfl rfl (by omega) (by first | exact q_rtK_n (by omega) hr (by omega) (q_rt_n hk (by omega) (by first | exact Or.inl (by assumption) | exact Or.inr (by assumption))) | exact q_rtK_y (by omega) hr (by omega) (q_rt_y hk (by omega) (by omega) (by assumption)) (hfs (by assumption)) (by omega) | (exfalso; omega)) (by first | exact q_rbK_n (by omega) hb | exact q_rbK_y (by omega) hb (hfs (by assumption)) (by omega) (by omega) | (exfalso; omega))
      · refine w_loc rfl ?_
        refine w_loc rfl ?_
        refine w_loc rfl ?_
        refine w_getR (q := 3) is_129 rf_129_0 ?_
        refine w_getR (q := 15) is_3 rf_3_3 ?_
        have hc5 : pz_R (pz_Sh L) 116 [.inr (.inl 10), .inl (q_we k e), .inr (.inl 15)] (pz_u1 (pz_u1 iv 136 (pz_up r e.toNat e)) 137 (pz_up h e.toNat 0)) (.inl (some (.inl (pz_bi (q_sta k (k (212 + 4 * (q_we k e) + 1).toNat)))))) (pz_u1 (pz_u1 iv 136 (pz_up r e.toNat e)) 137 (pz_up h e.toNat 0)) := s_X9_hasEnded_15 (q_we k e) (by show q_KR k; exact hk) (by show q_cS k (iv 10) (iv 11) (iv 12) (iv 13) (iv 14); exact hS) (by show q_cC k (iv 15) (iv 16); exact hC) (by show 0 ≤ (q_we k e) ∧ (q_we k e) < k 2; omega)
        refine w_call hc5 rfl (pz_cokI is_10 rfl) ?_
        refine w_bne (fun h6 => ?_) (fun h6 => ?_)
        · refine pz_G_of pz_b50_109 ?_
          refine w_iinc (ls' := [some (.inr (.inl 129)), some (.inl p), some (.inr (.inl 10)), some (.inl (e + 1)), some (.inl (q_we k e)), some (.inl (q_if ((q_we k e) = -1) 0 (k (212 + 4 * (q_we k e)).toNat)))]) rfl rfl rfl (by omega) ?_
          refine w_goto ?_
          exact ih10 _ (by omega) (e + 1) (pz_up r e.toNat e) (pz_up h e.toNat 0) (some (.inl (q_we k e))) rfl (some (.inl (q_if ((q_we k e) = -1) 0 (k (212 + 4 * (q_we k e)).toNat)))) rfl rfl (by omega) (by first | exact q_rtK_n (by omega) hr (by omega) (q_rt_n hk (by omega) (by first | exact Or.inl (by assumption) | exact Or.inr (by assumption))) | exact q_rtK_y (by omega) hr (by omega) (q_rt_y hk (by omega) (by omega) (by assumption)) (hfs (by assumption)) (by omega) | (exfalso; omega)) (by first | exact q_rbK_n (by omega) hb | exact q_rbK_y (by omega) hb (hfs (by assumption)) (by omega) (by omega) | (exfalso; omega))
        · refine w_loc rfl ?_
          have hc7 : pz_R (pz_Sh L) 187 [.inl (q_if ((q_we k e) = -1) 0 (k (212 + 4 * (q_we k e)).toNat))] (pz_u1 (pz_u1 iv 136 (pz_up r e.toNat e)) 137 (pz_up h e.toNat 0)) (.inl (some (.inl (pz_bi (0 ≤ (q_if ((q_we k e) = -1) 0 (k (212 + 4 * (q_we k e)).toNat)) ∧ (q_if ((q_we k e) = -1) 0 (k (212 + 4 * (q_we k e)).toNat)) < 10))))) (pz_u1 (pz_u1 iv 136 (pz_up r e.toNat e)) 137 (pz_up h e.toNat 0)) := s_X10_isEventNumber (q_if ((q_we k e) = -1) 0 (k (212 + 4 * (q_we k e)).toNat))
          refine w_call hc7 rfl rfl ?_
          refine w_beq (fun h8 => ?_) (fun h8 => ?_)
          · refine pz_G_of pz_b50_109 ?_
            refine w_iinc (ls' := [some (.inr (.inl 129)), some (.inl p), some (.inr (.inl 10)), some (.inl (e + 1)), some (.inl (q_we k e)), some (.inl (q_if ((q_we k e) = -1) 0 (k (212 + 4 * (q_we k e)).toNat)))]) rfl rfl rfl (by omega) ?_
            refine w_goto ?_
            exact ih10 _ (by omega) (e + 1) (pz_up r e.toNat e) (pz_up h e.toNat 0) (some (.inl (q_we k e))) rfl (some (.inl (q_if ((q_we k e) = -1) 0 (k (212 + 4 * (q_we k e)).toNat)))) rfl rfl (by omega) (by first | exact q_rtK_n (by omega) hr (by omega) (q_rt_n hk (by omega) (by first | exact Or.inl (by assumption) | exact Or.inr (by assumption))) | exact q_rtK_y (by omega) hr (by omega) (q_rt_y hk (by omega) (by omega) (by assumption)) (hfs (by assumption)) (by omega) | (exfalso; omega)) (by first | exact q_rbK_n (by omega) hb | exact q_rbK_y (by omega) hb (hfs (by assumption)) (by omega) (by omega) | (exfalso; omega))
          · refine w_loc rfl ?_
            refine w_getR (q := 136) is_129 rf_129_5 ?_
            refine w_loc rfl ?_
            refine w_loc rfl ?_
            refine w_getR (q := 136) is_129 rf_129_5 ?_
            refine w_loc rfl ?_
            refine w_iald (v := (pz_up r e.toNat e) (q_if ((q_we k e) = -1) 0 (k (212 + 4 * (q_we k e)).toNat)).toNat) is_136 ln_136 ⟨by omega, by omega⟩ rfl ?_
            refine w_iastm (iv2 := pz_u1 (pz_u1 iv 136 (pz_up (pz_up r e.toNat e) e.toNat ((pz_up r e.toNat e) (q_if ((q_we k e) = -1) 0 (k (212 + 4 * (q_we k e)).toNat)).toNat))) 137 (pz_up h e.toNat 0)) is_136 ln_136 ⟨by omega, by omega⟩ (by rw [pz_u2_in (r := 136) (q := 137) (by decide)]; rw [pz_u2_top] <;> rfl) ?_
            refine w_loc rfl ?_
            refine w_getR (q := 137) is_129 rf_129_6 ?_
            refine w_loc rfl ?_
            refine w_loc rfl ?_
            refine w_getR (q := 137) is_129 rf_129_6 ?_
            refine w_loc rfl ?_
            refine w_iald (v := (pz_up h e.toNat 0) (q_if ((q_we k e) = -1) 0 (k (212 + 4 * (q_we k e)).toNat)).toNat) is_137 ln_137 ⟨by omega, by omega⟩ rfl ?_
            refine w_loc rfl ?_
            refine w_loc rfl ?_
            refine w_loc rfl ?_
            have hc9 : pz_R (pz_Sh L) 114 [.inr (.inl 10), .inl (q_we k e), .inl p] (pz_u1 (pz_u1 iv 136 (pz_up (pz_up r e.toNat e) e.toNat ((pz_up r e.toNat e) (q_if ((q_we k e) = -1) 0 (k (212 + 4 * (q_we k e)).toNat)).toNat))) 137 (pz_up h e.toNat 0)) (.inl (some (.inl (q_pck k p (q_we k e))))) (pz_u1 (pz_u1 iv 136 (pz_up (pz_up r e.toNat e) e.toNat ((pz_up r e.toNat e) (q_if ((q_we k e) = -1) 0 (k (212 + 4 * (q_we k e)).toNat)).toNat))) 137 (pz_up h e.toNat 0)) := s_X9_pickedOf (q_we k e) p (by show q_KR k; exact hk) (by show q_cS k (iv 10) (iv 11) (iv 12) (iv 13) (iv 14); exact hS) (by show 0 ≤ (q_we k e) ∧ (q_we k e) < k 2; omega) (by show 0 ≤ p ∧ p ≤ 15; omega)
            refine w_call hc9 rfl (pz_cokI is_10 rfl) ?_
            refine w_iadd (by rw [hfs (by assumption), pz_up_ne (by omega)]; omega) ?_
            refine w_iastm (iv2 := pz_u1 (pz_u1 iv 136 (pz_up (pz_up r e.toNat e) e.toNat ((pz_up r e.toNat e) (q_if ((q_we k e) = -1) 0 (k (212 + 4 * (q_we k e)).toNat)).toNat))) 137 (pz_up (pz_up h e.toNat 0) e.toNat (((pz_up h e.toNat 0) (q_if ((q_we k e) = -1) 0 (k (212 + 4 * (q_we k e)).toNat)).toNat) + (q_pck k p (q_we k e))))) is_137 ln_137 ⟨by omega, by omega⟩ (by exact pz_u2_top _ _ _ _ _) ?_
            refine w_nil ?_
            refine pz_G_of pz_b50_109 ?_
            refine w_iinc (ls' := [some (.inr (.inl 129)), some (.inl p), some (.inr (.inl 10)), some (.inl (e + 1)), some (.inl (q_we k e)), some (.inl (q_if ((q_we k e) = -1) 0 (k (212 + 4 * (q_we k e)).toNat)))]) rfl rfl rfl (by omega) ?_
            refine w_goto ?_
            exact ih10 _ (by omega) (e + 1) (pz_up (pz_up r e.toNat e) e.toNat ((pz_up r e.toNat e) (q_if ((q_we k e) = -1) 0 (k (212 + 4 * (q_we k e)).toNat)).toNat)) (pz_up (pz_up h e.toNat 0) e.toNat (((pz_up h e.toNat 0) (q_if ((q_we k e) = -1) 0 (k (212 + 4 * (q_we k e)).toNat)).toNat) + (q_pck k p (q_we k e)))) (some (.inl (q_we k e))) rfl (some (.inl (q_if ((q_we k e) = -1) 0 (k (212 + 4 * (q_we k e)).toNat)))) rfl rfl (by omega) (by first | exact q_rtK_n (by omega) hr (by omega) (q_rt_n hk (by omega) (by first | exact Or.inl (by assumption) | exact Or.inr (by assumption))) | exact q_rtK_y (by omega) hr (by omega) (q_rt_y hk (by omega) (by omega) (by assumption)) (hfs (by assumption)) (by omega) | (exfalso; omega)) (by first | exact q_rbK_n (by omega) hb | exact q_rbK_y (by omega) hb (hfs (by assumption)) (by omega) (by omega) | (exfalso; omega))
  exact lp10 _ 0 (iv 136) (iv 137) (none) rfl (none) rfl rfl (by omega) (by intro i g1 g2; omega) (by intro i g1 g2; omega)

theorem s_X4_layBoundsOfRoots {L : Nat} {iv : Nat → Nat → Int} {k : Nat → Int} (hk : q_KR k) (hB : q_cB k (iv 4) (iv 5) (iv 6) (iv 7) (iv 8) (iv 9)) (hlf : q_isl k (fun _ => 0) (iv 134)) (hrb : q_rb (iv 136) (iv 137) 10) : pz_R (pz_Sh L) 51 [.inr (.inl 129)] iv (.inl none) (pz_u1 iv 131 (q_sb k (iv 136) (iv 137) (iv 131))) := by
  intro dv cc ss
  have hk0 := hk.r0
  have hB0 := hB.1
  refine pz_G_mem (iv2 := pz_u1 iv 131 (iv 131)) (by exact (pz_u1_self iv 131).symm) ?_
  show pz_G 51 0 [some (.inr (.inl 129)), none, none, none, none] [] (pz_Sh L, pz_u1 iv 131 (iv 131), dv, cc, ss) (pz_P (pz_Sh L) (.inl none) (pz_u1 iv 131 (q_sb k (iv 136) (iv 137) (iv 131))) dv cc ss)
  refine pz_G_of pz_b51_0 ?_
  refine w_loc rfl ?_
  refine w_getR (q := 3) is_129 rf_129_0 ?_
  refine w_getR (q := 4) is_3 rf_3_1 ?_
  refine w_loc (ls' := [some (.inr (.inl 129)), some (.inr (.inl 4)), none, none, none]) (st' := []) rfl ?_
  refine w_pure rfl ?_
  refine w_loc (ls' := [some (.inr (.inl 129)), some (.inr (.inl 4)), some (.inl 0), none, none]) (st' := []) rfl ?_
  refine w_nil ?_
  have lp10 : ∀ (dd : Nat) (b : Int) (f : Nat → Int) (u10_3 : Option pz_V) (hu10_3 : pz_nc u10_3 = true) (u10_4 : Option pz_V) (hu10_4 : pz_nc u10_4 = true), (40 - b).toNat = dd → ∀ (hb : 0 ≤ b ∧ b ≤ 40), ∀ (hf : f = q_fr (q_sbE k (iv 136) (iv 137)) 0 (min b (k 1)) (iv 131)),  pz_G 51 10 [some (.inr (.inl 129)), some (.inr (.inl 4)), some (.inl b), u10_3, u10_4] [] (pz_Sh L, pz_u1 iv 131 f, dv, cc, ss) (pz_P (pz_Sh L) (.inl none) (pz_u1 iv 131 (q_sb k (iv 136) (iv 137) (iv 131))) dv cc ss) := by
    intro dd10
    induction dd10 using Nat.strongRecOn with
    | _ dd10 ih10 =>
    intro b f u10_3 hu10_3 u10_4 hu10_4 hd10 hb hf
    have hBb := fun h => hB.2 b hb.1 h
    have hbd := fun h => hk.bd hb.1 h
    have hl1 := hlf b hb.1
    have hl2 : b < 40 → iv 134 b.toNat ≠ 0 → q_lfP k (fun _ => 0) b := fun h1 h2 => pz_bi_ne (by rw [← hl1 (by omega)]; exact h2)
    have hl3 : b < 40 → iv 134 b.toNat = 0 → ¬ q_lfP k (fun _ => 0) b := fun h1 h2 => pz_bi_eq (by rw [← hl1 (by omega)]; exact h2)
    refine pz_G_of pz_b51_10 ?_
    refine w_loc rfl ?_
    refine w_pure rfl ?_
    refine w_ige (fun h1 => ?_) (fun h1 => ?_)
    · refine pz_G_of pz_b51_102 ?_
      refine w_vret ?_
      first | exact lf_v (by rw [hf, show min b (k 1) = k 1 by omega]; rfl) | (exfalso; omega)
    · refine w_loc rfl ?_
      refine w_getR (q := 5) is_4 rf_4_1 ?_
      refine w_loc rfl ?_
      refine w_iald (v := (iv 5) b.toNat) is_5 ln_5 ⟨by omega, by omega⟩ rfl ?_
      refine w_loc (ls' := [some (.inr (.inl 129)), some (.inr (.inl 4)), some (.inl b), some (.inl ((iv 5) b.toNat)), u10_4]) (st' := []) rfl ?_
      refine w_loc rfl ?_
      refine w_getR (q := 6) is_4 rf_4_2 ?_
      refine w_loc rfl ?_
      refine w_iald (v := (iv 6) b.toNat) is_6 ln_6 ⟨by omega, by omega⟩ rfl ?_
      refine w_loc (ls' := [some (.inr (.inl 129)), some (.inr (.inl 4)), some (.inl b), some (.inl ((iv 5) b.toNat)), some (.inl ((iv 6) b.toNat))]) (st' := []) rfl ?_
      refine w_loc rfl ?_
      refine w_getR (q := 134) is_129 rf_129_2 ?_
      refine w_loc rfl ?_
      refine w_bald (v := (iv 134) b.toNat) is_134 ln_134 ⟨by omega, by omega⟩ rfl ?_
      refine w_zeq (fun h2 => ?_) (fun h2 => ?_)
      · refine pz_G_of pz_b51_96 ?_
        refine w_iinc (ls' := [some (.inr (.inl 129)), some (.inr (.inl 4)), some (.inl (b + 1)), some (.inl ((iv 5) b.toNat)), some (.inl ((iv 6) b.toNat))]) rfl rfl rfl (by omega) ?_
        refine w_goto ?_
        exact ih10 _ (by omega) (b + 1) f (some (.inl ((iv 5) b.toNat))) rfl (some (.inl ((iv 6) b.toNat))) rfl rfl (by omega) (by first | exact q_sb_n hb.1 (fun q => hl3 (by omega) (by assumption) ⟨q.1, q.2, rfl⟩) hf | (exfalso; omega) | exact q_sb_y hb.1 hl4.1 hl4.2.1 hf (by rw [hq1]) (by rw [hq2]) (by rw [hq1, hq2]; omega))
      · have hl4 := hl2 (by omega) (by assumption)
        have hq1 : iv 5 b.toNat = k (52 + 4 * b).toNat := by omega
        have hq2 : iv 6 b.toNat = k (52 + 4 * b + 1).toNat := by omega
        have hrb1 := hrb (iv 5 b.toNat) (by omega) (by omega)
        have hrb2 := hrb (iv 6 b.toNat) (by omega) (by omega)
        refine w_loc rfl ?_
        have hc3 : pz_R (pz_Sh L) 187 [.inl ((iv 5) b.toNat)] (pz_u1 iv 131 f) (.inl (some (.inl (pz_bi (0 ≤ ((iv 5) b.toNat) ∧ ((iv 5) b.toNat) < 10))))) (pz_u1 iv 131 f) := s_X10_isEventNumber ((iv 5) b.toNat)
        refine w_call hc3 rfl rfl ?_
        refine w_beq (fun h4 => ?_) (fun h4 => ?_)
        · refine pz_G_of pz_b51_96 ?_
          refine w_iinc (ls' := [some (.inr (.inl 129)), some (.inr (.inl 4)), some (.inl (b + 1)), some (.inl ((iv 5) b.toNat)), some (.inl ((iv 6) b.toNat))]) rfl rfl rfl (by omega) ?_
          refine w_goto ?_
          exact ih10 _ (by omega) (b + 1) f (some (.inl ((iv 5) b.toNat))) rfl (some (.inl ((iv 6) b.toNat))) rfl rfl (by omega) (by first | exact q_sb_n hb.1 (fun q => hl3 (by omega) (by assumption) ⟨q.1, q.2, rfl⟩) hf | (exfalso; omega) | exact q_sb_y hb.1 hl4.1 hl4.2.1 hf (by rw [hq1]) (by rw [hq2]) (by rw [hq1, hq2]; omega))
        · refine w_loc rfl ?_
          have hc5 : pz_R (pz_Sh L) 187 [.inl ((iv 6) b.toNat)] (pz_u1 iv 131 f) (.inl (some (.inl (pz_bi (0 ≤ ((iv 6) b.toNat) ∧ ((iv 6) b.toNat) < 10))))) (pz_u1 iv 131 f) := s_X10_isEventNumber ((iv 6) b.toNat)
          refine w_call hc5 rfl rfl ?_
          refine w_beq (fun h6 => ?_) (fun h6 => ?_)
          · refine pz_G_of pz_b51_96 ?_
            refine w_iinc (ls' := [some (.inr (.inl 129)), some (.inr (.inl 4)), some (.inl (b + 1)), some (.inl ((iv 5) b.toNat)), some (.inl ((iv 6) b.toNat))]) rfl rfl rfl (by omega) ?_
            refine w_goto ?_
            exact ih10 _ (by omega) (b + 1) f (some (.inl ((iv 5) b.toNat))) rfl (some (.inl ((iv 6) b.toNat))) rfl rfl (by omega) (by first | exact q_sb_n hb.1 (fun q => hl3 (by omega) (by assumption) ⟨q.1, q.2, rfl⟩) hf | (exfalso; omega) | exact q_sb_y hb.1 hl4.1 hl4.2.1 hf (by rw [hq1]) (by rw [hq2]) (by rw [hq1, hq2]; omega))
          · refine w_loc rfl ?_
            refine w_getR (q := 130) is_129 rf_129_1 ?_
            refine w_loc rfl ?_
            refine w_getR (q := 136) is_129 rf_129_5 ?_
            refine w_loc rfl ?_
            refine w_iald (v := (iv 136) ((iv 5) b.toNat).toNat) is_136 ln_136 ⟨by omega, by omega⟩ rfl ?_
            refine w_loc rfl ?_
            refine w_getR (q := 136) is_129 rf_129_5 ?_
            refine w_loc rfl ?_
            refine w_iald (v := (iv 136) ((iv 6) b.toNat).toNat) is_136 ln_136 ⟨by omega, by omega⟩ rfl ?_
            refine w_loc rfl ?_
            refine w_getR (q := 7) is_4 rf_4_3 ?_
            refine w_loc rfl ?_
            refine w_iald (v := (iv 7) b.toNat) is_7 ln_7 ⟨by omega, by omega⟩ rfl ?_
            refine w_loc rfl ?_
            refine w_getR (q := 137) is_129 rf_129_6 ?_
            refine w_loc rfl ?_
            refine w_iald (v := (iv 137) ((iv 6) b.toNat).toNat) is_137 ln_137 ⟨by omega, by omega⟩ rfl ?_
            refine w_isub (by omega) ?_
            refine w_loc rfl ?_
            refine w_getR (q := 137) is_129 rf_129_6 ?_
            refine w_loc rfl ?_
            refine w_iald (v := (iv 137) ((iv 5) b.toNat).toNat) is_137 ln_137 ⟨by omega, by omega⟩ rfl ?_
            refine w_iadd (by omega) ?_
            have hc7 : pz_R (pz_Sh L) 54 [.inr (.inl 130), .inl ((iv 136) ((iv 5) b.toNat).toNat), .inl ((iv 136) ((iv 6) b.toNat).toNat), .inl ((((iv 7) b.toNat) - ((iv 137) ((iv 6) b.toNat).toNat)) + ((iv 137) ((iv 5) b.toNat).toNat))] (pz_u1 iv 131 f) (.inl none) (pz_u1 iv 131 (q_eg f ((iv 136) ((iv 5) b.toNat).toNat) ((iv 136) ((iv 6) b.toNat).toNat) ((((iv 7) b.toNat) - ((iv 137) ((iv 6) b.toNat).toNat)) + ((iv 137) ((iv 5) b.toNat).toNat)))) := pz_R_mem (s_X5_addEdge_130 ((iv 136) ((iv 5) b.toNat).toNat) ((iv 136) ((iv 6) b.toNat).toNat) ((((iv 7) b.toNat) - ((iv 137) ((iv 6) b.toNat).toNat)) + ((iv 137) ((iv 5) b.toNat).toNat)) (by show 0 ≤ ((iv 136) ((iv 5) b.toNat).toNat) ∧ ((iv 136) ((iv 5) b.toNat).toNat) ≤ 9; omega) (by show 0 ≤ ((iv 136) ((iv 6) b.toNat).toNat) ∧ ((iv 136) ((iv 6) b.toNat).toNat) ≤ 9; omega)) (by rw [pz_u1_top (r := 131)]; rfl)
            refine w_callv hc7 rfl (pz_cokI is_130 rfl) ?_
            refine w_nil ?_
            refine pz_G_of pz_b51_96 ?_
            refine w_iinc (ls' := [some (.inr (.inl 129)), some (.inr (.inl 4)), some (.inl (b + 1)), some (.inl ((iv 5) b.toNat)), some (.inl ((iv 6) b.toNat))]) rfl rfl rfl (by omega) ?_
            refine w_goto ?_
            exact ih10 _ (by omega) (b + 1) (q_eg f ((iv 136) ((iv 5) b.toNat).toNat) ((iv 136) ((iv 6) b.toNat).toNat) ((((iv 7) b.toNat) - ((iv 137) ((iv 6) b.toNat).toNat)) + ((iv 137) ((iv 5) b.toNat).toNat))) (some (.inl ((iv 5) b.toNat))) rfl (some (.inl ((iv 6) b.toNat))) rfl rfl (by omega) (by first | exact q_sb_n hb.1 (fun q => hl3 (by omega) (by assumption) ⟨q.1, q.2, rfl⟩) hf | (exfalso; omega) | exact q_sb_y hb.1 hl4.1 hl4.2.1 hf (by rw [hq1]) (by rw [hq2]) (by rw [hq1, hq2]; omega))
  exact lp10 _ 0 (iv 131) (none) rfl (none) rfl rfl (by omega) (by rw [q_fr_0 (by omega)])

theorem s_X4_hasFixedTimes {L : Nat} {iv : Nat → Nat → Int} {k : Nat → Int} (hk : q_KR k) (hE : q_cE k (iv 3)) (hB : q_cB k (iv 4) (iv 5) (iv 6) (iv 7) (iv 8) (iv 9)) (hS : q_cS k (iv 10) (iv 11) (iv 12) (iv 13) (iv 14)) (hC : q_cC k (iv 15) (iv 16)) (hL : q_cL k (iv 25)) : pz_RE (pz_Sh L) 49 [.inr (.inl 129)] iv (.inl (some (.inl (pz_bi (q_strong k))))) (fun iv9 => ∃ (n9 : Nat → Int) (w9 : Nat → Int) (d9 : Nat → Int) (l9 : Nat → Int) (r9 : Nat → Int) (h9 : Nat → Int), iv9 = pz_u1 (pz_u1 (pz_u1 (pz_u1 (pz_u1 (pz_u1 iv 130 n9) 131 w9) 132 d9) 134 l9) 136 r9) 137 h9) := by
  intro dv cc ss
  have hk0 := hk.r0
  have hE0 := hE
  have hB0 := hB.1
  have hS0 := hS.1
  have hC0 := hC.1
  have hsh := q_shl_p2 (a := k 2) (by omega) (by omega)
  have hp2 := q_p2_r (a := k 2) (by omega) (by omega)
  have hp3 := q_p2_le (a := k 2) (b := 3) (by omega) (by omega)
  have hp8 : q_p2 3 = 8 := rfl
  have hsc : pz_shl 1 (iv 10 0) = q_p2 (k 2) := by
    rw [hS.1]; exact hsh
  refine pz_G_mem (iv2 := pz_u1 (pz_u1 (pz_u1 (pz_u1 (pz_u1 (pz_u1 iv 130 (iv 130)) 131 (iv 131)) 132 (iv 132)) 134 (iv 134)) 136 (iv 136)) 137 (iv 137)) (by exact ((((((pz_u1_self iv 130).symm).trans (pz_u1_self (pz_u1 iv 130 (iv 130)) 131).symm).trans (pz_u1_self (pz_u1 (pz_u1 iv 130 (iv 130)) 131 (iv 131)) 132).symm).trans (pz_u1_self (pz_u1 (pz_u1 (pz_u1 iv 130 (iv 130)) 131 (iv 131)) 132 (iv 132)) 134).symm).trans (pz_u1_self (pz_u1 (pz_u1 (pz_u1 (pz_u1 iv 130 (iv 130)) 131 (iv 131)) 132 (iv 132)) 134 (iv 134)) 136).symm).trans (pz_u1_self (pz_u1 (pz_u1 (pz_u1 (pz_u1 (pz_u1 iv 130 (iv 130)) 131 (iv 131)) 132 (iv 132)) 134 (iv 134)) 136 (iv 136)) 137).symm) ?_
  show pz_G 49 0 [some (.inr (.inl 129)), none] [] (pz_Sh L, pz_u1 (pz_u1 (pz_u1 (pz_u1 (pz_u1 (pz_u1 iv 130 (iv 130)) 131 (iv 131)) 132 (iv 132)) 134 (iv 134)) 136 (iv 136)) 137 (iv 137), dv, cc, ss) (pz_PE (pz_Sh L) (.inl (some (.inl (pz_bi (q_strong k))))) (fun iv9 => ∃ (n9 : Nat → Int) (w9 : Nat → Int) (d9 : Nat → Int) (l9 : Nat → Int) (r9 : Nat → Int) (h9 : Nat → Int), iv9 = pz_u1 (pz_u1 (pz_u1 (pz_u1 (pz_u1 (pz_u1 iv 130 n9) 131 w9) 132 d9) 134 l9) 136 r9) 137 h9) dv cc ss)
  refine pz_G_of pz_b49_0 ?_
  refine w_loc rfl ?_
  have hc1 := s_X4_leaveHeld (L := L) (iv := pz_u1 (pz_u1 (pz_u1 (pz_u1 (pz_u1 (pz_u1 iv 130 (iv 130)) 131 (iv 131)) 132 (iv 132)) 134 (iv 134)) 136 (iv 136)) 137 (iv 137)) (by show q_KR k; exact hk) (by show q_cB k (iv 4) (iv 5) (iv 6) (iv 7) (iv 8) (iv 9); exact hB) (by show q_cL k (iv 25); exact hL)
  refine w_callvE hc1 rfl (pz_cokI is_129 rfl) (fun iv9 h9 => ?_)
  obtain ⟨l9_2, h9e, hisl⟩ := h9
  have h9x : iv9 = pz_u1 (pz_u1 (pz_u1 (pz_u1 (pz_u1 (pz_u1 iv 130 (iv 130)) 131 (iv 131)) 132 (iv 132)) 134 l9_2) 136 (iv 136)) 137 (iv 137) := h9e.trans (by rw [pz_u1_in (r := 134) (q := 137) (by decide)]; rw [pz_u1_in (r := 134) (q := 136) (by decide)]; rw [pz_u1_top (r := 134)] <;> rfl)
  subst h9x
  replace hisl : q_isl k (fun _ => 0) l9_2 := hisl
  refine w_loc rfl ?_
  refine w_getR (q := 130) is_129 rf_129_1 ?_
  refine w_loc rfl ?_
  refine w_getR (q := 3) is_129 rf_129_0 ?_
  refine w_getI (v := (iv 3) 0) is_3 (by decide) rfl ?_
  have hc3 : pz_R (pz_Sh L) 53 [.inr (.inl 130), .inl ((iv 3) 0)] (pz_u1 (pz_u1 (pz_u1 (pz_u1 (pz_u1 (pz_u1 iv 130 (iv 130)) 131 (iv 131)) 132 (iv 132)) 134 l9_2) 136 (iv 136)) 137 (iv 137)) (.inl none) (pz_u1 (pz_u1 (pz_u1 (pz_u1 (pz_u1 (pz_u1 iv 130 (pz_up (iv 130) 0 ((iv 3) 0))) 131 (q_ncl ((iv 3) 0) (iv 131))) 132 (iv 132)) 134 l9_2) 136 (iv 136)) 137 (iv 137)) := pz_R_mem (s_X5_clear_130 ((iv 3) 0) (by show 1 ≤ ((iv 3) 0) ∧ ((iv 3) 0) ≤ 10; omega)) (by rw [pz_u1_in (r := 130) (q := 137) (by decide)]; rw [pz_u1_in (r := 130) (q := 136) (by decide)]; rw [pz_u1_in (r := 130) (q := 134) (by decide)]; rw [pz_u1_in (r := 130) (q := 132) (by decide)]; rw [pz_u1_in (r := 130) (q := 131) (by decide)]; rw [pz_u1_top (r := 130)]; rw [pz_u1_in (r := 131) (q := 137) (by decide)]; rw [pz_u1_in (r := 131) (q := 136) (by decide)]; rw [pz_u1_in (r := 131) (q := 134) (by decide)]; rw [pz_u1_in (r := 131) (q := 132) (by decide)]; rw [pz_u1_top (r := 131)]; rfl)
  refine w_callv hc3 rfl (pz_cokI is_130 rfl) ?_
  refine w_loc rfl ?_
  refine w_loc rfl ?_
  refine w_getR (q := 130) is_129 rf_129_1 ?_
  have hc4 : pz_R (pz_Sh L) 39 [.inr (.inl 129), .inr (.inl 130)] (pz_u1 (pz_u1 (pz_u1 (pz_u1 (pz_u1 (pz_u1 iv 130 (pz_up (iv 130) 0 ((iv 3) 0))) 131 (q_ncl ((iv 3) 0) (iv 131))) 132 (iv 132)) 134 l9_2) 136 (iv 136)) 137 (iv 137)) (.inl none) (pz_u1 (pz_u1 (pz_u1 (pz_u1 (pz_u1 (pz_u1 iv 130 (pz_up (iv 130) 0 ((iv 3) 0))) 131 (q_fr (q_stE k) 1 (k 0) (q_ncl ((iv 3) 0) (iv 131)))) 132 (iv 132)) 134 l9_2) 136 (iv 136)) 137 (iv 137)) := pz_R_mem (s_X4_layStarts_130 (by show q_KR k; exact hk) (by show q_cE k (iv 3); exact hE) (by show q_cC k (iv 15) (iv 16); exact hC)) (by rw [pz_u1_in (r := 131) (q := 137) (by decide)]; rw [pz_u1_in (r := 131) (q := 136) (by decide)]; rw [pz_u1_in (r := 131) (q := 134) (by decide)]; rw [pz_u1_in (r := 131) (q := 132) (by decide)]; rw [pz_u1_top (r := 131)]; rfl)
  refine w_callv hc4 rfl (pz_cokI is_129 rfl) ?_
  refine w_pure rfl ?_
  refine w_loc (ls' := [some (.inr (.inl 129)), some (.inl 0)]) (st' := []) rfl ?_
  refine w_nil ?_
  have lp28 : ∀ (dd : Nat) (p : Int) (f : Nat → Int) (f4 : Nat → Int) (r : Nat → Int) (h : Nat → Int) , (q_p2 (k 2) - p).toNat = dd → ∀ (hp : 0 ≤ p ∧ p ≤ q_p2 (k 2)), ∀ (hlb : q_isl k (fun _ => 0) f4), ∀ (hf : f = q_fr (q_fxS k) 0 p (q_fr (q_stE k) 1 (k 0) (q_ncl (k 0) (iv 131)))),  pz_G 49 28 [some (.inr (.inl 129)), some (.inl p)] [] (pz_Sh L, pz_u1 (pz_u1 (pz_u1 (pz_u1 (pz_u1 (pz_u1 iv 130 (pz_up (iv 130) 0 ((iv 3) 0))) 131 f) 132 (iv 132)) 134 f4) 136 r) 137 h, dv, cc, ss) (pz_PE (pz_Sh L) (.inl (some (.inl (pz_bi (q_strong k))))) (fun iv9 => ∃ (n9 : Nat → Int) (w9 : Nat → Int) (d9 : Nat → Int) (l9 : Nat → Int) (r9 : Nat → Int) (h9 : Nat → Int), iv9 = pz_u1 (pz_u1 (pz_u1 (pz_u1 (pz_u1 (pz_u1 iv 130 n9) 131 w9) 132 d9) 134 l9) 136 r9) 137 h9) dv cc ss) := by
    intro dd28
    induction dd28 using Nat.strongRecOn with
    | _ dd28 ih28 =>
    intro p f f4 r h  hd28 hp hlb hf
    refine pz_G_of pz_b49_28 ?_
    refine w_loc rfl ?_
    refine w_loc rfl ?_
    refine w_getR (q := 3) is_129 rf_129_0 ?_
    refine w_getR (q := 10) is_3 rf_3_2 ?_
    refine w_getI (v := (iv 10) 0) is_10 (by decide) rfl ?_
    have hc5 : pz_R (pz_Sh L) 186 [.inl ((iv 10) 0)] (pz_u1 (pz_u1 (pz_u1 (pz_u1 (pz_u1 (pz_u1 iv 130 (pz_up (iv 130) 0 ((iv 3) 0))) 131 f) 132 (iv 132)) 134 f4) 136 r) 137 h) (.inl (some (.inl (pz_shl 1 ((iv 10) 0))))) (pz_u1 (pz_u1 (pz_u1 (pz_u1 (pz_u1 (pz_u1 iv 130 (pz_up (iv 130) 0 ((iv 3) 0))) 131 f) 132 (iv 132)) 134 f4) 136 r) 137 h) := s_X10_bit ((iv 10) 0)
    refine w_call hc5 rfl rfl ?_
    refine w_ige (fun h6 => ?_) (fun h6 => ?_)
    · refine pz_G_of pz_b49_60 ?_
      refine w_loc rfl ?_
      refine w_getR (q := 130) is_129 rf_129_1 ?_
      have hc7 : pz_R (pz_Sh L) 56 [.inr (.inl 130)] (pz_u1 (pz_u1 (pz_u1 (pz_u1 (pz_u1 (pz_u1 iv 130 (pz_up (iv 130) 0 ((iv 3) 0))) 131 f) 132 (iv 132)) 134 f4) 136 r) 137 h) (.inl none) (pz_u1 (pz_u1 (pz_u1 (pz_u1 (pz_u1 (pz_u1 iv 130 (pz_up (pz_up (iv 130) 0 ((iv 3) 0)) 1 (pz_bi (q_okc (k 0) (q_cI (k 0) (q_cz (k 0) (q_cp 100 f (iv 132))) (q_cp 100 f (iv 132))))))) 131 f) 132 (q_cI (k 0) (q_cz (k 0) (q_cp 100 f (iv 132))) (q_cp 100 f (iv 132)))) 134 f4) 136 r) 137 h) := pz_R_mem (s_X5_close_130 (by show (pz_up (iv 130) 0 ((iv 3) 0)) 0 = (k 0) ∧ 1 ≤ (k 0) ∧ (k 0) ≤ 10; first | exact ⟨rfl, by omega, by omega⟩ | exact ⟨hE.1, by omega, by omega⟩) (by show q_cw (k 0) (q_cp 100 f (iv 132)); rw [show p = q_p2 (k 2) by omega] at hf; rw [hf]; exact q_cw_fx hk)) (by rw [pz_u1_in (r := 130) (q := 137) (by decide)]; rw [pz_u1_in (r := 130) (q := 136) (by decide)]; rw [pz_u1_in (r := 130) (q := 134) (by decide)]; rw [pz_u1_in (r := 130) (q := 132) (by decide)]; rw [pz_u1_in (r := 130) (q := 131) (by decide)]; rw [pz_u1_top (r := 130)]; rw [pz_u1_in (r := 132) (q := 137) (by decide)]; rw [pz_u1_in (r := 132) (q := 136) (by decide)]; rw [pz_u1_in (r := 132) (q := 134) (by decide)]; rw [pz_u1_top (r := 132)]; rfl)
      refine w_callv hc7 rfl (pz_cokI is_130 rfl) ?_
      refine w_loc rfl ?_
      refine w_getR (q := 130) is_129 rf_129_1 ?_
      refine w_getI (v := pz_bi (q_okc (k 0) (q_cI (k 0) (q_cz (k 0) (q_cp 100 f (iv 132))) (q_cp 100 f (iv 132))))) is_130 (by decide) rfl ?_
      refine w_ret (pz_rok1 (pz_bi01 _)) ?_
      exact ⟨pz_u1 (pz_u1 (pz_u1 (pz_u1 (pz_u1 (pz_u1 iv 130 (pz_up (pz_up (iv 130) 0 ((iv 3) 0)) 1 (pz_bi (q_okc (k 0) (q_cI (k 0) (q_cz (k 0) (q_cp 100 f (iv 132))) (q_cp 100 f (iv 132))))))) 131 f) 132 (q_cI (k 0) (q_cz (k 0) (q_cp 100 f (iv 132))) (q_cp 100 f (iv 132)))) 134 f4) 136 r) 137 h, ⟨(pz_up (pz_up (iv 130) 0 ((iv 3) 0)) 1 (pz_bi (q_okc (k 0) (q_cI (k 0) (q_cz (k 0) (q_cp 100 f (iv 132))) (q_cp 100 f (iv 132)))))), f, (q_cI (k 0) (q_cz (k 0) (q_cp 100 f (iv 132))) (q_cp 100 f (iv 132))), f4, r, h, by rfl⟩, lf_i (pz_bi_iff (by rw [show p = q_p2 (k 2) by omega] at hf; rw [hf]; exact q_fx_strong hk)) (by rfl)⟩
    · refine w_loc rfl ?_
      refine w_loc rfl ?_
      have hc8 := s_X4_findRoots (L := L) (iv := pz_u1 (pz_u1 (pz_u1 (pz_u1 (pz_u1 (pz_u1 iv 130 (pz_up (iv 130) 0 ((iv 3) 0))) 131 f) 132 (iv 132)) 134 f4) 136 r) 137 h) p (by show q_KR k; exact hk) (by show q_cS k (iv 10) (iv 11) (iv 12) (iv 13) (iv 14); exact hS) (by show q_cC k (iv 15) (iv 16); exact hC) (by show 0 ≤ p ∧ p ≤ 15; omega)
      refine w_callvE hc8 rfl (pz_cokI is_129 rfl) (fun iv9 h9 => ?_)
      obtain ⟨r9_9, h9_10, h9e, hrt⟩ := h9
      have h9x : iv9 = pz_u1 (pz_u1 (pz_u1 (pz_u1 (pz_u1 (pz_u1 iv 130 (pz_up (iv 130) 0 ((iv 3) 0))) 131 f) 132 (iv 132)) 134 f4) 136 r9_9) 137 h9_10 := h9e.trans (by rw [pz_u1_in (r := 136) (q := 137) (by decide)]; rw [pz_u1_top (r := 136)]; rw [pz_u1_top (r := 137)] <;> rfl)
      subst h9x
      replace hrt : q_rtK k p r9_9 h9_10 10 := hrt
      refine w_loc rfl ?_
      have hc11 : pz_R (pz_Sh L) 51 [.inr (.inl 129)] (pz_u1 (pz_u1 (pz_u1 (pz_u1 (pz_u1 (pz_u1 iv 130 (pz_up (iv 130) 0 ((iv 3) 0))) 131 f) 132 (iv 132)) 134 f4) 136 r9_9) 137 h9_10) (.inl none) (pz_u1 (pz_u1 (pz_u1 (pz_u1 (pz_u1 (pz_u1 iv 130 (pz_up (iv 130) 0 ((iv 3) 0))) 131 (q_sb k r9_9 h9_10 f)) 132 (iv 132)) 134 f4) 136 r9_9) 137 h9_10) := pz_R_mem (s_X4_layBoundsOfRoots (by show q_KR k; exact hk) (by show q_cB k (iv 4) (iv 5) (iv 6) (iv 7) (iv 8) (iv 9); exact hB) (by show q_isl k (fun _ => 0) f4; exact hlb) (by show q_rb r9_9 h9_10 10; exact q_rtK_rb hk hrt)) (by rw [pz_u1_in (r := 131) (q := 137) (by decide)]; rw [pz_u1_in (r := 131) (q := 136) (by decide)]; rw [pz_u1_in (r := 131) (q := 134) (by decide)]; rw [pz_u1_in (r := 131) (q := 132) (by decide)]; rw [pz_u1_top (r := 131)]; rfl)
      refine w_callv hc11 rfl (pz_cokI is_129 rfl) ?_
      refine w_iinc (ls' := [some (.inr (.inl 129)), some (.inl (p + 1))]) rfl rfl rfl (by omega) ?_
      refine w_goto ?_
      exact ih28 _ (by omega) (p + 1) (q_sb k r9_9 h9_10 f) f4 r9_9 h9_10  rfl (by omega) (by exact hlb) (by rw [q_fr_s (by omega), ← hf]; exact q_sb_congr hk hrt)
  exact lp28 _ 0 (q_fr (q_stE k) 1 (k 0) (q_ncl ((iv 3) 0) (iv 131))) l9_2 (iv 136) (iv 137)  rfl (by omega) (by exact hisl) (by rw [hE.1]; exact (q_fr_0 (Int.le_refl _)).symm)
