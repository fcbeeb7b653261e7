
theorem s_X7_haveAllStarted {L : Nat} {iv : Nat → Nat → Int} {k : Nat → Int} (hk : q_KR k) (hE : q_cE k (iv 3)) : pz_R (pz_Sh L) 77 [.inr (.inl 151)] iv (.inl (some (.inl (pz_bi (q_aa k (iv 153)))))) iv := by
  intro dv cc ss
  have hk0 := hk.r0
  have hE0 := hE
  show pz_G 77 0 [some (.inr (.inl 151)), none] [] (pz_Sh L, iv, dv, cc, ss) (pz_P (pz_Sh L) (.inl (some (.inl (pz_bi (q_aa k (iv 153)))))) iv dv cc ss)
  refine pz_G_of pz_b77_0 ?_
  refine w_pure rfl ?_
  refine w_loc (ls' := [some (.inr (.inl 151)), some (.inl 0)]) (st' := []) rfl ?_
  refine w_nil ?_
  have lp2 : ∀ (dd : Nat) (e : Int) , (k 0 - e).toNat = dd → ∀ (he : 0 ≤ e ∧ e ≤ k 0), ∀ (hno : ∀ i : Int, 0 ≤ i → i < e → iv 153 i.toNat ≠ -1),  pz_G 77 2 [some (.inr (.inl 151)), some (.inl e)] [] (pz_Sh L, iv, dv, cc, ss) (pz_P (pz_Sh L) (.inl (some (.inl (pz_bi (q_aa k (iv 153)))))) iv dv cc ss) := by
    intro dd2
    induction dd2 using Nat.strongRecOn with
    | _ dd2 ih2 =>
    intro e  hd2 he hno
    refine pz_G_of pz_b77_2 ?_
    refine w_loc rfl ?_
    refine w_loc rfl ?_
    refine w_getR (q := 3) is_151 rf_151_0 ?_
    refine w_getI (v := (iv 3) 0) is_3 (by decide) rfl ?_
    refine w_ige (fun h1 => ?_) (fun h1 => ?_)
    · refine pz_G_of pz_b77_32 ?_
      refine w_pure rfl ?_
      refine w_ret (pz_rok1 (Or.inr rfl)) ?_
      first | exact lf_i (pz_bi_t (fun i g1 g2 => hno i g1 (by omega))) rfl | exact lf_i (pz_bi_f (fun q => absurd (q e he.1 (by omega)) (by assumption))) rfl
    · refine w_loc rfl ?_
      refine w_getR (q := 152) is_151 rf_151_2 ?_
      refine w_loc rfl ?_
      have hc2 : pz_R (pz_Sh L) 26 [.inr (.inl 152), .inl e] (iv) (.inl (some (.inl (pz_bi ((iv 153) e.toNat ≠ -1))))) (iv) := s_X2_hasStarted_152 e (by omega)
      refine w_call hc2 rfl (pz_cokI is_152 rfl) ?_
      refine w_bne (fun h3 => ?_) (fun h3 => ?_)
      · refine pz_G_of pz_b77_26 ?_
        refine w_iinc (ls' := [some (.inr (.inl 151)), some (.inl (e + 1))]) rfl rfl rfl (by omega) ?_
        refine w_goto ?_
        exact ih2 _ (by omega) (e + 1)  rfl (by omega) (by intro i g1 g2; by_cases g3 : i = e; (rw [g3]; assumption); exact hno i g1 (by omega))
      · refine w_pure rfl ?_
        refine w_ret (pz_rok1 (Or.inl rfl)) ?_
        first | exact lf_i (pz_bi_t (fun i g1 g2 => hno i g1 (by omega))) rfl | exact lf_i (pz_bi_f (fun q => absurd (q e he.1 (by omega)) (by assumption))) rfl
  exact lp2 _ 0  rfl (by omega) (by intro i g1 g2; omega)

theorem s_X7_areBoundsRight {L : Nat} {iv : Nat → Nat → Int} {k : Nat → Int} (hk : q_KR k) (hE : q_cE k (iv 3)) (hB : q_cB k (iv 4) (iv 5) (iv 6) (iv 7) (iv 8) (iv 9)) (hL : q_cL k (iv 25)) (hal : q_al (iv 153)) (hmr : 0 ≤ (iv 152) 0 ∧ (iv 152) 0 ≤ 600) : pz_R (pz_Sh L) 78 [.inr (.inl 151)] iv (.inl (some (.inl (pz_bi (q_all (q_kpP k (iv 153)) (k 1)))))) iv := by
  intro dv cc ss
  have hk0 := hk.r0
  have hE0 := hE
  have hB0 := hB.1
  show pz_G 78 0 [some (.inr (.inl 151)), none, none, none] [] (pz_Sh L, iv, dv, cc, ss) (pz_P (pz_Sh L) (.inl (some (.inl (pz_bi (q_all (q_kpP k (iv 153)) (k 1)))))) iv dv cc ss)
  refine pz_G_of pz_b78_0 ?_
  refine w_loc rfl ?_
  refine w_getR (q := 3) is_151 rf_151_0 ?_
  have hc1 : pz_R (pz_Sh L) 69 [.inr (.inl 3)] (iv) (.inl (some (.inl (q_sT k)))) (iv) := s_X6_trueLabels (by exact hL)
  refine w_call hc1 rfl (pz_cokI is_3 rfl) ?_
  refine w_loc (ls' := [some (.inr (.inl 151)), some (.inl (q_sT k)), none, none]) (st' := []) rfl ?_
  refine w_loc rfl ?_
  refine w_getR (q := 3) is_151 rf_151_0 ?_
  have hc2 : pz_R (pz_Sh L) 70 [.inr (.inl 3)] (iv) (.inl (some (.inl (q_sF k)))) (iv) := s_X6_falseLabels (by exact hL)
  refine w_call hc2 rfl (pz_cokI is_3 rfl) ?_
  refine w_loc (ls' := [some (.inr (.inl 151)), some (.inl (q_sT k)), some (.inl (q_sF k)), none]) (st' := []) rfl ?_
  refine w_pure rfl ?_
  refine w_loc (ls' := [some (.inr (.inl 151)), some (.inl (q_sT k)), some (.inl (q_sF k)), some (.inl 0)]) (st' := []) rfl ?_
  refine w_nil ?_
  have lp18 : ∀ (dd : Nat) (b : Int) , (k 1 - b).toNat = dd → ∀ (hb : 0 ≤ b ∧ b ≤ k 1), ∀ (hno : ∀ i : Int, 0 ≤ i → i < b → q_kpP k (iv 153) i),  pz_G 78 18 [some (.inr (.inl 151)), some (.inl (q_sT k)), some (.inl (q_sF k)), some (.inl b)] [] (pz_Sh L, iv, dv, cc, ss) (pz_P (pz_Sh L) (.inl (some (.inl (pz_bi (q_all (q_kpP k (iv 153)) (k 1)))))) iv dv cc ss) := by
    intro dd18
    induction dd18 using Nat.strongRecOn with
    | _ dd18 ih18 =>
    intro b  hd18 hb hno
    refine pz_G_of pz_b78_18 ?_
    refine w_loc rfl ?_
    refine w_loc rfl ?_
    refine w_getR (q := 3) is_151 rf_151_0 ?_
    refine w_getR (q := 4) is_3 rf_3_1 ?_
    refine w_getI (v := (iv 4) 0) is_4 (by decide) rfl ?_
    refine w_ige (fun h3 => ?_) (fun h3 => ?_)
    · refine pz_G_of pz_b78_74 ?_
      refine w_pure rfl ?_
      refine w_ret (pz_rok1 (Or.inr rfl)) ?_
      first | exact lf_i (pz_bi_t (fun i g1 g2 => hno i g1 (by omega))) rfl | exact lf_i (pz_bi_f (fun q => absurd (q b hb.1 (by omega) (by assumption)) (by assumption))) rfl
    · refine w_loc rfl ?_
      refine w_getR (q := 3) is_151 rf_151_0 ?_
      refine w_getR (q := 4) is_3 rf_3_1 ?_
      refine w_loc rfl ?_
      refine w_loc rfl ?_
      refine w_loc rfl ?_
      have hc4 : pz_R (pz_Sh L) 20 [.inr (.inl 4), .inl b, .inl (q_sT k), .inl (q_sF k)] (iv) (.inl (some (.inl (pz_bi (q_hld k b))))) (iv) := s_X1_holds b (q_sT k) (q_sF k) (by exact hk) (by exact hB) (by omega) (by exact q_cT_now)
      refine w_call hc4 rfl (pz_cokI is_4 rfl) ?_
      refine w_beq (fun h5 => ?_) (fun h5 => ?_)
      · refine pz_G_of pz_b78_68 ?_
        refine w_iinc (ls' := [some (.inr (.inl 151)), some (.inl (q_sT k)), some (.inl (q_sF k)), some (.inl (b + 1))]) rfl rfl rfl (by omega) ?_
        refine w_goto ?_
        exact ih18 _ (by omega) (b + 1)  rfl (by omega) (by intro i g1 g2; by_cases g3 : i = b; (rw [g3]; intro g4; first | exact absurd g4 (by assumption) | assumption); exact hno i g1 (by omega))
      · refine w_loc rfl ?_
        refine w_getR (q := 3) is_151 rf_151_0 ?_
        refine w_getR (q := 4) is_3 rf_3_1 ?_
        refine w_loc rfl ?_
        refine w_loc rfl ?_
        refine w_getR (q := 152) is_151 rf_151_2 ?_
        have hc6 : pz_R (pz_Sh L) 21 [.inr (.inl 4), .inl b, .inr (.inl 152)] (iv) (.inl (some (.inl (pz_bi ((iv 153) (k (52 + 4 * b + 1).toNat).toNat - (iv 153) (k (52 + 4 * b).toNat).toNat ≤ k (52 + 4 * b + 2).toNat))))) (iv) := s_X1_areMinutesRight b (by exact hk) (by exact hB) (by omega) (by exact ⟨by omega, hal⟩)
        refine w_call hc6 rfl (pz_cokI is_4 rfl) ?_
        refine w_bne (fun h7 => ?_) (fun h7 => ?_)
        · refine pz_G_of pz_b78_68 ?_
          refine w_iinc (ls' := [some (.inr (.inl 151)), some (.inl (q_sT k)), some (.inl (q_sF k)), some (.inl (b + 1))]) rfl rfl rfl (by omega) ?_
          refine w_goto ?_
          exact ih18 _ (by omega) (b + 1)  rfl (by omega) (by intro i g1 g2; by_cases g3 : i = b; (rw [g3]; intro g4; first | exact absurd g4 (by assumption) | assumption); exact hno i g1 (by omega))
        · refine w_pure rfl ?_
          refine w_ret (pz_rok1 (Or.inl rfl)) ?_
          first | exact lf_i (pz_bi_t (fun i g1 g2 => hno i g1 (by omega))) rfl | exact lf_i (pz_bi_f (fun q => absurd (q b hb.1 (by omega) (by assumption)) (by assumption))) rfl
  exact lp18 _ 0  rfl (by omega) (by intro i g1 g2; omega)

theorem s_X7_startEnds {L : Nat} {iv : Nat → Nat → Int} (p : Int) {k : Nat → Int} (hk : q_KR k) (hE : q_cE k (iv 3)) (hS : q_cS k (iv 10) (iv 11) (iv 12) (iv 13) (iv 14)) (hp : 0 ≤ p ∧ p ≤ 15) (hmr : 0 ≤ (iv 152) 0 ∧ (iv 152) 0 ≤ 600) (hub : q_ub (iv 153) ((iv 152) 0)) : pz_R (pz_Sh L) 79 [.inr (.inl 151), .inl p] iv (.inl none) (pz_u1 iv 153 (q_fr (q_enS k p ((iv 152) 0)) 0 (k 2) (iv 153))) := by
  intro dv cc ss
  have hk0 := hk.r0
  have hE0 := hE
  have hS0 := hS.1
  refine pz_G_mem (iv2 := pz_u1 iv 153 (iv 153)) (by exact (pz_u1_self iv 153).symm) ?_
  show pz_G 79 0 [some (.inr (.inl 151)), some (.inl p), none, none] [] (pz_Sh L, pz_u1 iv 153 (iv 153), dv, cc, ss) (pz_P (pz_Sh L) (.inl none) (pz_u1 iv 153 (q_fr (q_enS k p ((iv 152) 0)) 0 (k 2) (iv 153))) dv cc ss)
  refine pz_G_of pz_b79_0 ?_
  refine w_pure rfl ?_
  refine w_loc (ls' := [some (.inr (.inl 151)), some (.inl p), some (.inl 0), none]) (st' := []) rfl ?_
  refine w_nil ?_
  have lp2 : ∀ (dd : Nat) (s : Int) (a : Nat → Int) (u2_3 : Option pz_V) (hu2_3 : pz_nc u2_3 = true), (k 2 - s).toNat = dd → ∀ (hs : 0 ≤ s ∧ s ≤ k 2), ∀ (ha : a = q_fr (q_enS k p (iv 152 0)) 0 s (iv 153)), ∀ (hua : q_ub a (iv 152 0)),  pz_G 79 2 [some (.inr (.inl 151)), some (.inl p), some (.inl s), u2_3] [] (pz_Sh L, pz_u1 iv 153 a, dv, cc, ss) (pz_P (pz_Sh L) (.inl none) (pz_u1 iv 153 (q_fr (q_enS k p ((iv 152) 0)) 0 (k 2) (iv 153))) dv cc ss) := by
    intro dd2
    induction dd2 using Nat.strongRecOn with
    | _ dd2 ih2 =>
    intro s a u2_3 hu2_3 hd2 hs ha hua
    have hsp := fun h => hk.sp hs.1 h
    have hpk : q_if (q_up p s) (k (212 + 4 * s + 3).toNat) (k (212 + 4 * s + 2).toNat) = q_pck k p s := rfl
    refine pz_G_of pz_b79_2 ?_
    refine w_loc rfl ?_
    refine w_loc rfl ?_
    refine w_getR (q := 3) is_151 rf_151_0 ?_
    refine w_getR (q := 10) is_3 rf_3_2 ?_
    refine w_getI (v := (iv 10) 0) is_10 (by decide) rfl ?_
    refine w_ige (fun h1 => ?_) (fun h1 => ?_)
    · refine pz_G_of pz_b79_90 ?_
      refine w_vret ?_
      first | exact lf_v (by rw [ha, show s = k 2 by omega]) | (exfalso; omega)
    · refine w_loc rfl ?_
      refine w_getR (q := 3) is_151 rf_151_0 ?_
      refine w_getR (q := 10) is_3 rf_3_2 ?_
      refine w_loc rfl ?_
      refine w_loc rfl ?_
      refine w_getR (q := 152) is_151 rf_151_2 ?_
      have hc2 : pz_R (pz_Sh L) 117 [.inr (.inl 10), .inl s, .inr (.inl 152)] (pz_u1 iv 153 a) (.inl (some (.inl (pz_bi ((a (k (212 + 4 * s).toNat).toNat ≠ -1) ∧ ¬ (a (k (212 + 4 * s + 1).toNat).toNat ≠ -1)))))) (pz_u1 iv 153 a) := s_X9_isRunning_152 s (by show q_KR k; exact hk) (by show q_cS k (iv 10) (iv 11) (iv 12) (iv 13) (iv 14); exact hS) (by show 0 ≤ s ∧ s < k 2; omega)
      refine w_call hc2 rfl (pz_cokI is_10 rfl) ?_
      refine w_loc (ls' := [some (.inr (.inl 151)), some (.inl p), some (.inl s), some (.inl (pz_bi ((a (k (212 + 4 * s).toNat).toNat ≠ -1) ∧ ¬ (a (k (212 + 4 * s + 1).toNat).toNat ≠ -1))))]) (st' := []) rfl ?_
      refine w_loc rfl ?_
      refine w_beq (fun h3 => ?_) (fun h3 => ?_)
      · refine pz_G_of pz_b79_84 ?_
        refine w_iinc (ls' := [some (.inr (.inl 151)), some (.inl p), some (.inl (s + 1)), some (.inl (pz_bi ((a (k (212 + 4 * s).toNat).toNat ≠ -1) ∧ ¬ (a (k (212 + 4 * s + 1).toNat).toNat ≠ -1))))]) rfl rfl rfl (by omega) ?_
        refine w_goto ?_
        exact ih2 _ (by omega) (s + 1) a (some (.inl (pz_bi ((a (k (212 + 4 * s).toNat).toNat ≠ -1) ∧ ¬ (a (k (212 + 4 * s + 1).toNat).toNat ≠ -1))))) rfl rfl (by omega) (by rw [q_fr_s (by omega), ← ha]; unfold q_enS; first | rw [q_if_t (by omega)] | rw [q_if_f (by omega)]) (by first | exact hua | exact q_ub_up hua (by omega))
      · refine w_loc rfl ?_
        refine w_getR (q := 3) is_151 rf_151_0 ?_
        refine w_getR (q := 10) is_3 rf_3_2 ?_
        refine w_loc rfl ?_
        refine w_loc rfl ?_
        refine w_getR (q := 152) is_151 rf_151_2 ?_
        have hc4 : pz_R (pz_Sh L) 118 [.inr (.inl 10), .inl s, .inr (.inl 152)] (pz_u1 iv 153 a) (.inl (some (.inl ((iv 152) 0 - a (k (212 + 4 * s).toNat).toNat)))) (pz_u1 iv 153 a) := s_X9_minutesGone_152 s (by show q_KR k; exact hk) (by show q_cS k (iv 10) (iv 11) (iv 12) (iv 13) (iv 14); exact hS) (by show 0 ≤ s ∧ s < k 2; omega) (by show (-1 ≤ (iv 152) 0 ∧ (iv 152) 0 ≤ 1000000000) ∧ q_al a; exact ⟨by omega, q_ub_al hua (by omega)⟩)
        refine w_call hc4 rfl (pz_cokI is_10 rfl) ?_
        refine w_loc rfl ?_
        refine w_getR (q := 3) is_151 rf_151_0 ?_
        refine w_getR (q := 10) is_3 rf_3_2 ?_
        refine w_loc rfl ?_
        refine w_loc rfl ?_
        have hc5 : pz_R (pz_Sh L) 114 [.inr (.inl 10), .inl s, .inl p] (pz_u1 iv 153 a) (.inl (some (.inl (q_pck k p s)))) (pz_u1 iv 153 a) := s_X9_pickedOf s p (by show q_KR k; exact hk) (by show q_cS k (iv 10) (iv 11) (iv 12) (iv 13) (iv 14); exact hS) (by show 0 ≤ s ∧ s < k 2; omega) (by show 0 ≤ p ∧ p ≤ 15; omega)
        refine w_call hc5 rfl (pz_cokI is_10 rfl) ?_
        refine w_ine (fun h6 => ?_) (fun h6 => ?_)
        · refine pz_G_of pz_b79_84 ?_
          refine w_iinc (ls' := [some (.inr (.inl 151)), some (.inl p), some (.inl (s + 1)), some (.inl (pz_bi ((a (k (212 + 4 * s).toNat).toNat ≠ -1) ∧ ¬ (a (k (212 + 4 * s + 1).toNat).toNat ≠ -1))))]) rfl rfl rfl (by omega) ?_
          refine w_goto ?_
          exact ih2 _ (by omega) (s + 1) a (some (.inl (pz_bi ((a (k (212 + 4 * s).toNat).toNat ≠ -1) ∧ ¬ (a (k (212 + 4 * s + 1).toNat).toNat ≠ -1))))) rfl rfl (by omega) (by rw [q_fr_s (by omega), ← ha]; unfold q_enS; first | rw [q_if_t (by omega)] | rw [q_if_f (by omega)]) (by first | exact hua | exact q_ub_up hua (by omega))
        · refine w_loc rfl ?_
          refine w_getR (q := 152) is_151 rf_151_2 ?_
          refine w_loc rfl ?_
          refine w_getR (q := 3) is_151 rf_151_0 ?_
          refine w_getR (q := 10) is_3 rf_3_2 ?_
          refine w_loc rfl ?_
          have hc7 : pz_R (pz_Sh L) 111 [.inr (.inl 10), .inl s] (pz_u1 iv 153 a) (.inl (some (.inl (k (212 + 4 * s + 1).toNat)))) (pz_u1 iv 153 a) := s_X9_endOf s (by show q_KR k; exact hk) (by show q_cS k (iv 10) (iv 11) (iv 12) (iv 13) (iv 14); exact hS) (by show 0 ≤ s ∧ s < k 2; omega)
          refine w_call hc7 rfl (pz_cokI is_10 rfl) ?_
          have hc8 : pz_R (pz_Sh L) 28 [.inr (.inl 152), .inl (k (212 + 4 * s + 1).toNat)] (pz_u1 iv 153 a) (.inl none) (pz_u1 iv 153 (pz_up a (k (212 + 4 * s + 1).toNat).toNat ((iv 152) 0))) := pz_R_mem (s_X2_begin_152 (k (212 + 4 * s + 1).toNat) (by show 0 ≤ (k (212 + 4 * s + 1).toNat) ∧ (k (212 + 4 * s + 1).toNat) ≤ 9; omega)) (by rw [pz_u1_top (r := 153)]; rfl)
          refine w_callv hc8 rfl (pz_cokI is_152 rfl) ?_
          refine w_nil ?_
          refine pz_G_of pz_b79_84 ?_
          refine w_iinc (ls' := [some (.inr (.inl 151)), some (.inl p), some (.inl (s + 1)), some (.inl (pz_bi ((a (k (212 + 4 * s).toNat).toNat ≠ -1) ∧ ¬ (a (k (212 + 4 * s + 1).toNat).toNat ≠ -1))))]) rfl rfl rfl (by omega) ?_
          refine w_goto ?_
          exact ih2 _ (by omega) (s + 1) (pz_up a (k (212 + 4 * s + 1).toNat).toNat ((iv 152) 0)) (some (.inl (pz_bi ((a (k (212 + 4 * s).toNat).toNat ≠ -1) ∧ ¬ (a (k (212 + 4 * s + 1).toNat).toNat ≠ -1))))) rfl rfl (by omega) (by rw [q_fr_s (by omega), ← ha]; unfold q_enS; first | rw [q_if_t (by omega)] | rw [q_if_f (by omega)]) (by first | exact hua | exact q_ub_up hua (by omega))
  exact lp2 _ 0 (iv 153) (none) rfl rfl (by omega) (by rw [q_fr_0 (by omega)]) (by exact hub)

theorem s_X7_firstReady {L : Nat} {iv : Nat → Nat → Int} {k : Nat → Int} {v : Nat → Int} (hk : q_KR k) (hE : q_cE k (iv 3)) (hS : q_cS k (iv 10) (iv 11) (iv 12) (iv 13) (iv 14)) (hmr : 0 ≤ (iv 152) 0 ∧ (iv 152) 0 ≤ 600) (hub : q_ub (iv 153) ((iv 152) 0)) (hVU : q_VU k v (iv 143) (iv 145)) (hvb : q_vb v) : pz_R (pz_Sh L) 81 [.inr (.inl 151)] iv (.inl (some (.inl (q_nxt v k ((iv 152) 0) (iv 153))))) iv := by
  intro dv cc ss
  have hk0 := hk.r0
  have hE0 := hE
  have hS0 := hS.1
  show pz_G 81 0 [some (.inr (.inl 151)), none] [] (pz_Sh L, iv, dv, cc, ss) (pz_P (pz_Sh L) (.inl (some (.inl (q_nxt v k ((iv 152) 0) (iv 153))))) iv dv cc ss)
  refine pz_G_of pz_b81_0 ?_
  refine w_pure rfl ?_
  refine w_loc (ls' := [some (.inr (.inl 151)), some (.inl 0)]) (st' := []) rfl ?_
  refine w_nil ?_
  have lp2 : ∀ (dd : Nat) (e : Int) , (k 0 - e).toNat = dd → ∀ (he : 0 ≤ e ∧ e ≤ k 0), ∀ (hno : ∀ i : Int, 0 ≤ i → i < e → q_rs v (iv 153) k i (iv 152 0) ≠ 45),  pz_G 81 2 [some (.inr (.inl 151)), some (.inl e)] [] (pz_Sh L, iv, dv, cc, ss) (pz_P (pz_Sh L) (.inl (some (.inl (q_nxt v k ((iv 152) 0) (iv 153))))) iv dv cc ss) := by
    intro dd2
    induction dd2 using Nat.strongRecOn with
    | _ dd2 ih2 =>
    intro e  hd2 he hno
    refine pz_G_of pz_b81_2 ?_
    refine w_loc rfl ?_
    refine w_loc rfl ?_
    refine w_getR (q := 3) is_151 rf_151_0 ?_
    refine w_getI (v := (iv 3) 0) is_3 (by decide) rfl ?_
    refine w_ige (fun h1 => ?_) (fun h1 => ?_)
    · refine pz_G_of pz_b81_38 ?_
      refine w_pure rfl ?_
      refine w_ret rfl ?_
      first | exact lf_i (q_nxt_is (Or.inl ⟨he.1, by omega, by assumption, hno⟩)).symm rfl | exact lf_i (q_nxt_is (Or.inr ⟨rfl, fun i g1 g2 => hno i g1 (by omega)⟩)).symm rfl
    · refine w_loc rfl ?_
      refine w_getR (q := 142) is_151 rf_151_1 ?_
      refine w_loc rfl ?_
      refine w_loc rfl ?_
      refine w_getR (q := 152) is_151 rf_151_2 ?_
      have hc2 : pz_R (pz_Sh L) 105 [.inr (.inl 142), .inl e, .inr (.inl 152)] (iv) (.inl (some (.inl (q_rs v (iv 153) k e ((iv 152) 0))))) (iv) := s_X8_reasonAgainst_152 e (by exact hk) (by exact hE) (by exact hS) (by exact ⟨by omega, q_ub_al hub (by omega)⟩) (by exact hVU) (by exact hvb) (by omega)
      refine w_call hc2 rfl (pz_cokI is_142 rfl) ?_
      refine w_pure rfl ?_
      refine w_ine (fun h3 => ?_) (fun h3 => ?_)
      · refine pz_G_of pz_b81_32 ?_
        refine w_iinc (ls' := [some (.inr (.inl 151)), some (.inl (e + 1))]) rfl rfl rfl (by omega) ?_
        refine w_goto ?_
        exact ih2 _ (by omega) (e + 1)  rfl (by omega) (by intro i g1 g2; by_cases g3 : i = e; (rw [g3]; assumption); exact hno i g1 (by omega))
      · refine w_loc rfl ?_
        refine w_ret rfl ?_
        first | exact lf_i (q_nxt_is (Or.inl ⟨he.1, by omega, by assumption, hno⟩)).symm rfl | exact lf_i (q_nxt_is (Or.inr ⟨rfl, fun i g1 g2 => hno i g1 (by omega)⟩)).symm rfl
  exact lp2 _ 0  rfl (by omega) (by intro i g1 g2; omega)

theorem s_X7_startReady {L : Nat} {iv : Nat → Nat → Int} {k : Nat → Int} {v : Nat → Int} (hk : q_KR k) (hE : q_cE k (iv 3)) (hS : q_cS k (iv 10) (iv 11) (iv 12) (iv 13) (iv 14)) (hmr : 0 ≤ (iv 152) 0 ∧ (iv 152) 0 ≤ 600) (hub : q_ub (iv 153) ((iv 152) 0)) (hVU : q_VU k v (iv 143) (iv 145)) (hvb : q_vb v) : pz_R (pz_Sh L) 80 [.inr (.inl 151)] iv (.inl none) (pz_u1 iv 153 (q_sts v k ((iv 152) 0) 10 (iv 153))) := by
  intro dv cc ss
  have hk0 := hk.r0
  have hE0 := hE
  have hS0 := hS.1
  refine pz_G_mem (iv2 := pz_u1 iv 153 (iv 153)) (by exact (pz_u1_self iv 153).symm) ?_
  show pz_G 80 0 [some (.inr (.inl 151)), none, none] [] (pz_Sh L, pz_u1 iv 153 (iv 153), dv, cc, ss) (pz_P (pz_Sh L) (.inl none) (pz_u1 iv 153 (q_sts v k ((iv 152) 0) 10 (iv 153))) dv cc ss)
  refine pz_G_of pz_b80_0 ?_
  refine w_pure rfl ?_
  refine w_loc (ls' := [some (.inr (.inl 151)), some (.inl 0), none]) (st' := []) rfl ?_
  refine w_nil ?_
  have lp2 : ∀ (dd : Nat) (n : Int) (a : Nat → Int) (u2_2 : Option pz_V) (hu2_2 : pz_nc u2_2 = true), (10 - n).toNat = dd → ∀ (hn : 0 ≤ n ∧ n ≤ 10), ∀ (ha : a = q_sts v k (iv 152 0) n (iv 153)), ∀ (hua : q_ub a (iv 152 0)),  pz_G 80 2 [some (.inr (.inl 151)), some (.inl n), u2_2] [] (pz_Sh L, pz_u1 iv 153 a, dv, cc, ss) (pz_P (pz_Sh L) (.inl none) (pz_u1 iv 153 (q_sts v k ((iv 152) 0) 10 (iv 153))) dv cc ss) := by
    intro dd2
    induction dd2 using Nat.strongRecOn with
    | _ dd2 ih2 =>
    intro n a u2_2 hu2_2 hd2 hn ha hua
    have hnr := fun h => q_nxt_r (v := v) (a := a) (m := (iv 152 0)) hk h
    refine pz_G_of pz_b80_2 ?_
    refine w_loc rfl ?_
    refine w_pure rfl ?_
    refine w_ige (fun h1 => ?_) (fun h1 => ?_)
    · refine pz_G_of pz_b80_33 ?_
      refine w_vret ?_
      first | exact lf_v (by first | rw [← q_sts_e hn ha (by assumption)] | rw [ha, show n = 10 by omega]) | (exfalso; omega)
    · refine w_loc rfl ?_
      have hc2 : pz_R (pz_Sh L) 81 [.inr (.inl 151)] (pz_u1 iv 153 a) (.inl (some (.inl (q_nxt v k ((iv 152) 0) a)))) (pz_u1 iv 153 a) := s_X7_firstReady (by show q_KR k; exact hk) (by show q_cE k (iv 3); exact hE) (by show q_cS k (iv 10) (iv 11) (iv 12) (iv 13) (iv 14); exact hS) (by show 0 ≤ (iv 152) 0 ∧ (iv 152) 0 ≤ 600; first | assumption | omega) (by show q_ub a ((iv 152) 0); assumption) (by show q_VU k v (iv 143) (iv 145); exact hVU) (by show q_vb v; exact hvb)
      refine w_call hc2 rfl (pz_cokI is_151 rfl) ?_
      refine w_loc (ls' := [some (.inr (.inl 151)), some (.inl n), some (.inl (q_nxt v k ((iv 152) 0) a))]) (st' := []) rfl ?_
      refine w_loc rfl ?_
      refine w_pure rfl ?_
      refine w_ine (fun h3 => ?_) (fun h3 => ?_)
      · refine pz_G_of pz_b80_19 ?_
        refine w_loc rfl ?_
        refine w_getR (q := 152) is_151 rf_151_2 ?_
        refine w_loc rfl ?_
        have hc4 : pz_R (pz_Sh L) 28 [.inr (.inl 152), .inl (q_nxt v k ((iv 152) 0) a)] (pz_u1 iv 153 a) (.inl none) (pz_u1 iv 153 (pz_up a (q_nxt v k ((iv 152) 0) a).toNat ((iv 152) 0))) := pz_R_mem (s_X2_begin_152 (q_nxt v k ((iv 152) 0) a) (by show 0 ≤ (q_nxt v k ((iv 152) 0) a) ∧ (q_nxt v k ((iv 152) 0) a) ≤ 9; omega)) (by rw [pz_u1_top (r := 153)]; rfl)
        refine w_callv hc4 rfl (pz_cokI is_152 rfl) ?_
        refine w_iinc (ls' := [some (.inr (.inl 151)), some (.inl (n + 1)), some (.inl (q_nxt v k ((iv 152) 0) a))]) rfl rfl rfl (by omega) ?_
        refine w_goto ?_
        exact ih2 _ (by omega) (n + 1) (pz_up a (q_nxt v k ((iv 152) 0) a).toNat ((iv 152) 0)) (some (.inl (q_nxt v k ((iv 152) 0) a))) rfl rfl (by omega) (by exact q_sts_s hn.1 ha (by assumption)) (by exact q_ub_up hua (by omega))
      · refine w_vret ?_
        first | exact lf_v (by first | rw [← q_sts_e hn ha (by assumption)] | rw [ha, show n = 10 by omega]) | (exfalso; omega)
  exact lp2 _ 0 (iv 153) (none) rfl rfl (by omega) (by unfold q_sts; rw [q_fr_0 (by omega)]) (by exact hub)

theorem s_X7_startOfSpan {L : Nat} {iv : Nat → Nat → Int} (s : Int) {k : Nat → Int} (hk : q_KR k) (hS : q_cS k (iv 10) (iv 11) (iv 12) (iv 13) (iv 14)) (hs : 0 ≤ s ∧ s < k 2) : pz_R (pz_Sh L) 84 [.inr (.inl 151), .inl s] iv (.inl (some (.inl ((iv 153) (k (212 + 4 * s).toNat).toNat)))) iv := by
  intro dv cc ss
  have hk0 := hk.r0
  have hS0 := hS.1
  have hsp := hk.sp hs.1 hs.2
  show pz_G 84 0 [some (.inr (.inl 151)), some (.inl s)] [] (pz_Sh L, iv, dv, cc, ss) (pz_P (pz_Sh L) (.inl (some (.inl ((iv 153) (k (212 + 4 * s).toNat).toNat)))) iv dv cc ss)
  refine pz_G_of pz_b84_0 ?_
  refine w_loc rfl ?_
  refine w_getR (q := 152) is_151 rf_151_2 ?_
  refine w_loc rfl ?_
  refine w_getR (q := 3) is_151 rf_151_0 ?_
  refine w_getR (q := 10) is_3 rf_3_2 ?_
  refine w_loc rfl ?_
  have hc1 : pz_R (pz_Sh L) 110 [.inr (.inl 10), .inl s] (iv) (.inl (some (.inl (k (212 + 4 * s).toNat)))) (iv) := s_X9_firstOf s (by exact hk) (by exact hS) (by omega)
  refine w_call hc1 rfl (pz_cokI is_10 rfl) ?_
  have hc2 : pz_R (pz_Sh L) 25 [.inr (.inl 152), .inl (k (212 + 4 * s).toNat)] (iv) (.inl (some (.inl ((iv 153) (k (212 + 4 * s).toNat).toNat)))) (iv) := s_X2_startOf_152 (k (212 + 4 * s).toNat) (by omega)
  refine w_call hc2 rfl (pz_cokI is_152 rfl) ?_
  refine w_ret rfl ?_
  first | exact lf_i (by first | rfl | omega) (by rfl) | (exfalso; omega)

theorem s_X7_sooner {L : Nat} {iv : Nat → Nat → Int} (n : Int) (x : Int) : pz_R (pz_Sh L) 85 [.inr (.inl 151), .inl n, .inl x] iv (.inl (some (.inl (q_so ((iv 152) 0) n x)))) iv := by
  intro dv cc ss
  show pz_G 85 0 [some (.inr (.inl 151)), some (.inl n), some (.inl x)] [] (pz_Sh L, iv, dv, cc, ss) (pz_P (pz_Sh L) (.inl (some (.inl (q_so ((iv 152) 0) n x)))) iv dv cc ss)
  refine pz_G_of pz_b85_0 ?_
  refine w_loc rfl ?_
  refine w_loc rfl ?_
  refine w_getR (q := 152) is_151 rf_151_2 ?_
  refine w_getI (v := (iv 152) 0) is_152 (by decide) rfl ?_
  refine w_ile (fun h1 => ?_) (fun h1 => ?_)
  · refine pz_G_of pz_b85_19 ?_
    refine w_loc rfl ?_
    refine w_nil ?_
    refine pz_G_of pz_b85_20 ?_
    refine w_ret rfl ?_
    first | exact lf_i (by unfold q_so; split <;> omega) rfl | (exfalso; omega)
  · refine w_loc rfl ?_
    refine w_loc rfl ?_
    have hc2 : pz_R (pz_Sh L) 2 [.inl n, .inl x] (iv) (.inl (some (.inl (min n x)))) (iv) := s_J_min n x
    refine w_call hc2 rfl rfl ?_
    refine w_goto ?_
    refine pz_G_of pz_b85_20 ?_
    refine w_ret rfl ?_
    first | exact lf_i (by unfold q_so; split <;> omega) rfl | (exfalso; omega)

theorem s_X7_nextWaitOver {L : Nat} {iv : Nat → Nat → Int} (n : Int) (e : Int) {k : Nat → Int} {v : Nat → Int} (hk : q_KR k) (hE : q_cE k (iv 3)) (hS : q_cS k (iv 10) (iv 11) (iv 12) (iv 13) (iv 14)) (hmr : 0 ≤ (iv 152) 0 ∧ (iv 152) 0 ≤ 600) (hub : q_ub (iv 153) ((iv 152) 0)) (hVU : q_VU k v (iv 143) (iv 145)) (hvb : q_vb v) (he : 0 ≤ e ∧ e < k 0) : pz_R (pz_Sh L) 83 [.inr (.inl 151), .inl n, .inl e] iv (.inl (some (.inl (q_nw v k (iv 153) e ((iv 152) 0) n)))) iv := by
  intro dv cc ss
  have hk0 := hk.r0
  have hE0 := hE
  have hS0 := hS.1
  show pz_G 83 0 [some (.inr (.inl 151)), some (.inl n), some (.inl e), none, none] [] (pz_Sh L, iv, dv, cc, ss) (pz_P (pz_Sh L) (.inl (some (.inl (q_nw v k (iv 153) e ((iv 152) 0) n)))) iv dv cc ss)
  refine pz_G_of pz_b83_0 ?_
  refine w_loc rfl ?_
  refine w_loc (ls' := [some (.inr (.inl 151)), some (.inl n), some (.inl e), some (.inl n), none]) (st' := []) rfl ?_
  refine w_pure rfl ?_
  refine w_loc (ls' := [some (.inr (.inl 151)), some (.inl n), some (.inl e), some (.inl n), some (.inl 0)]) (st' := []) rfl ?_
  refine w_nil ?_
  have lp5 : ∀ (dd : Nat) (x : Int) (s : Int) , (k 2 - s).toNat = dd → ∀ (hs : 0 ≤ s ∧ s ≤ k 2), ∀ (hx : x = q_fr (q_nwS v k (iv 153) e (iv 152 0)) 0 s n),  pz_G 83 5 [some (.inr (.inl 151)), some (.inl n), some (.inl e), some (.inl x), some (.inl s)] [] (pz_Sh L, iv, dv, cc, ss) (pz_P (pz_Sh L) (.inl (some (.inl (q_nw v k (iv 153) e ((iv 152) 0) n)))) iv dv cc ss) := by
    intro dd5
    induction dd5 using Nat.strongRecOn with
    | _ dd5 ih5 =>
    intro x s  hd5 hs hx
    have hsp := fun h => hk.sp hs.1 h
    have hwt := fun h => q_wt_r (v := v) (k := k) (e := e) (s := s) (fun j hj => (hvb j hj).1) h
    have hal := fun h1 h2 => hub (k (212 + 4 * s).toNat) h1 h2
    refine pz_G_of pz_b83_5 ?_
    refine w_loc rfl ?_
    refine w_loc rfl ?_
    refine w_getR (q := 3) is_151 rf_151_0 ?_
    refine w_getR (q := 10) is_3 rf_3_2 ?_
    refine w_getI (v := (iv 10) 0) is_10 (by decide) rfl ?_
    refine w_ige (fun h1 => ?_) (fun h1 => ?_)
    · refine pz_G_of pz_b83_68 ?_
      refine w_loc rfl ?_
      refine w_ret rfl ?_
      exact lf_i (by rw [hx, show s = k 2 by omega]; rfl) rfl
    · refine w_loc rfl ?_
      refine w_getR (q := 3) is_151 rf_151_0 ?_
      refine w_getR (q := 10) is_3 rf_3_2 ?_
      refine w_loc rfl ?_
      refine w_loc rfl ?_
      refine w_getR (q := 152) is_151 rf_151_2 ?_
      have hc2 : pz_R (pz_Sh L) 117 [.inr (.inl 10), .inl s, .inr (.inl 152)] (iv) (.inl (some (.inl (pz_bi (((iv 153) (k (212 + 4 * s).toNat).toNat ≠ -1) ∧ ¬ ((iv 153) (k (212 + 4 * s + 1).toNat).toNat ≠ -1)))))) (iv) := s_X9_isRunning_152 s (by exact hk) (by exact hS) (by omega)
      refine w_call hc2 rfl (pz_cokI is_10 rfl) ?_
      refine w_beq (fun h3 => ?_) (fun h3 => ?_)
      · refine pz_G_of pz_b83_62 ?_
        refine w_iinc (ls' := [some (.inr (.inl 151)), some (.inl n), some (.inl e), some (.inl x), some (.inl (s + 1))]) rfl rfl rfl (by omega) ?_
        refine w_goto ?_
        exact ih5 _ (by omega) x (s + 1)  rfl (by omega) (by rw [q_fr_s (by omega), ← hx]; unfold q_nwS; first | rw [q_if_t (by assumption)] | rw [q_if_f (by assumption)])
      · refine w_loc rfl ?_
        refine w_loc rfl ?_
        refine w_loc rfl ?_
        refine w_loc rfl ?_
        have hc4 : pz_R (pz_Sh L) 84 [.inr (.inl 151), .inl s] (iv) (.inl (some (.inl ((iv 153) (k (212 + 4 * s).toNat).toNat)))) (iv) := s_X7_startOfSpan s (by exact hk) (by exact hS) (by omega)
        refine w_call hc4 rfl (pz_cokI is_151 rfl) ?_
        refine w_loc rfl ?_
        refine w_getR (q := 142) is_151 rf_151_1 ?_
        refine w_loc rfl ?_
        refine w_loc rfl ?_
        have hc5 : pz_R (pz_Sh L) 102 [.inr (.inl 142), .inl e, .inl s] (iv) (.inl (some (.inl (q_wt v k e s)))) (iv) := s_X8_waitOf e s (by exact hk) (by exact hVU) (by exact hvb) (by omega) (by omega)
        refine w_call hc5 rfl (pz_cokI is_142 rfl) ?_
        refine w_iadd (by omega) ?_
        have hc6 : pz_R (pz_Sh L) 85 [.inr (.inl 151), .inl x, .inl (((iv 153) (k (212 + 4 * s).toNat).toNat) + (q_wt v k e s))] (iv) (.inl (some (.inl (q_so ((iv 152) 0) x (((iv 153) (k (212 + 4 * s).toNat).toNat) + (q_wt v k e s)))))) (iv) := s_X7_sooner x (((iv 153) (k (212 + 4 * s).toNat).toNat) + (q_wt v k e s))
        refine w_call hc6 rfl (pz_cokI is_151 rfl) ?_
        refine w_loc (ls' := [some (.inr (.inl 151)), some (.inl n), some (.inl e), some (.inl (q_so ((iv 152) 0) x (((iv 153) (k (212 + 4 * s).toNat).toNat) + (q_wt v k e s)))), some (.inl s)]) (st' := []) rfl ?_
        refine w_nil ?_
        refine pz_G_of pz_b83_62 ?_
        refine w_iinc (ls' := [some (.inr (.inl 151)), some (.inl n), some (.inl e), some (.inl (q_so ((iv 152) 0) x (((iv 153) (k (212 + 4 * s).toNat).toNat) + (q_wt v k e s)))), some (.inl (s + 1))]) rfl rfl rfl (by omega) ?_
        refine w_goto ?_
        exact ih5 _ (by omega) (q_so ((iv 152) 0) x (((iv 153) (k (212 + 4 * s).toNat).toNat) + (q_wt v k e s))) (s + 1)  rfl (by omega) (by rw [q_fr_s (by omega), ← hx]; unfold q_nwS; first | rw [q_if_t (by assumption)] | rw [q_if_f (by assumption)])
  exact lp5 _ n 0  rfl (by omega) (by rw [q_fr_0 (by omega)])

theorem s_X7_nextMinute {L : Nat} {iv : Nat → Nat → Int} (p : Int) {k : Nat → Int} {v : Nat → Int} (hk : q_KR k) (hE : q_cE k (iv 3)) (hS : q_cS k (iv 10) (iv 11) (iv 12) (iv 13) (iv 14)) (hp : 0 ≤ p ∧ p ≤ 15) (hmr : 0 ≤ (iv 152) 0 ∧ (iv 152) 0 ≤ 600) (hub : q_ub (iv 153) ((iv 152) 0)) (hVU : q_VU k v (iv 143) (iv 145)) (hvb : q_vb v) : pz_R (pz_Sh L) 82 [.inr (.inl 151), .inl p] iv (.inl (some (.inl (q_nm v k p ((iv 152) 0) (iv 153))))) iv := by
  intro dv cc ss
  have hk0 := hk.r0
  have hE0 := hE
  have hS0 := hS.1
  show pz_G 82 0 [some (.inr (.inl 151)), some (.inl p), none, none] [] (pz_Sh L, iv, dv, cc, ss) (pz_P (pz_Sh L) (.inl (some (.inl (q_nm v k p ((iv 152) 0) (iv 153))))) iv dv cc ss)
  refine pz_G_of pz_b82_0 ?_
  refine w_pure rfl ?_
  refine w_loc (ls' := [some (.inr (.inl 151)), some (.inl p), some (.inl 601), none]) (st' := []) rfl ?_
  refine w_pure rfl ?_
  refine w_loc (ls' := [some (.inr (.inl 151)), some (.inl p), some (.inl 601), some (.inl 0)]) (st' := []) rfl ?_
  refine w_nil ?_
  have lp6 : ∀ (dd : Nat) (x : Int) (e : Int) , (k 0 - e).toNat = dd → ∀ (he : 0 ≤ e ∧ e ≤ k 0), ∀ (hx : x = q_fr (q_neS v k (iv 153) (iv 152 0)) 0 e 601),  pz_G 82 6 [some (.inr (.inl 151)), some (.inl p), some (.inl x), some (.inl e)] [] (pz_Sh L, iv, dv, cc, ss) (pz_P (pz_Sh L) (.inl (some (.inl (q_nm v k p ((iv 152) 0) (iv 153))))) iv dv cc ss) := by
    intro dd6
    induction dd6 using Nat.strongRecOn with
    | _ dd6 ih6 =>
    intro x e  hd6 he hx
    refine pz_G_of pz_b82_6 ?_
    refine w_loc rfl ?_
    refine w_loc rfl ?_
    refine w_getR (q := 3) is_151 rf_151_0 ?_
    refine w_getI (v := (iv 3) 0) is_3 (by decide) rfl ?_
    refine w_ige (fun h1 => ?_) (fun h1 => ?_)
    · refine pz_G_of pz_b82_59 ?_
      refine w_pure rfl ?_
      refine w_loc (ls' := [some (.inr (.inl 151)), some (.inl p), some (.inl x), some (.inl 0)]) (st' := []) rfl ?_
      refine w_nil ?_
      have lp61 : ∀ (dd : Nat) (y : Int) (s : Int) , (k 2 - s).toNat = dd → ∀ (hs : 0 ≤ s ∧ s ≤ k 2), ∀ (hy : y = q_fr (q_nsS k (iv 153) p (iv 152 0)) 0 s x),  pz_G 82 61 [some (.inr (.inl 151)), some (.inl p), some (.inl y), some (.inl s)] [] (pz_Sh L, iv, dv, cc, ss) (pz_P (pz_Sh L) (.inl (some (.inl (q_nm v k p ((iv 152) 0) (iv 153))))) iv dv cc ss) := by
        intro dd61
        induction dd61 using Nat.strongRecOn with
        | _ dd61 ih61 =>
        intro y s  hd61 hs hy
        have hsp := fun h => hk.sp hs.1 h
        have hpr := fun h => q_pck_r (p := p) hk hs.1 h
        have hal := fun h1 h2 => hub (k (212 + 4 * s).toNat) h1 h2
        refine pz_G_of pz_b82_61 ?_
        refine w_loc rfl ?_
        refine w_loc rfl ?_
        refine w_getR (q := 3) is_151 rf_151_0 ?_
        refine w_getR (q := 10) is_3 rf_3_2 ?_
        refine w_getI (v := (iv 10) 0) is_10 (by decide) rfl ?_
        refine w_ige (fun h2 => ?_) (fun h2 => ?_)
        · refine pz_G_of pz_b82_123 ?_
          refine w_loc rfl ?_
          refine w_ret rfl ?_
          exact lf_i (by rw [hy, show s = k 2 by omega, hx, show e = k 0 by omega]; rfl) rfl
        · refine w_loc rfl ?_
          refine w_getR (q := 3) is_151 rf_151_0 ?_
          refine w_getR (q := 10) is_3 rf_3_2 ?_
          refine w_loc rfl ?_
          refine w_loc rfl ?_
          refine w_getR (q := 152) is_151 rf_151_2 ?_
          have hc3 : pz_R (pz_Sh L) 117 [.inr (.inl 10), .inl s, .inr (.inl 152)] (iv) (.inl (some (.inl (pz_bi (((iv 153) (k (212 + 4 * s).toNat).toNat ≠ -1) ∧ ¬ ((iv 153) (k (212 + 4 * s + 1).toNat).toNat ≠ -1)))))) (iv) := s_X9_isRunning_152 s (by exact hk) (by exact hS) (by omega)
          refine w_call hc3 rfl (pz_cokI is_10 rfl) ?_
          refine w_beq (fun h4 => ?_) (fun h4 => ?_)
          · refine pz_G_of pz_b82_117 ?_
            refine w_iinc (ls' := [some (.inr (.inl 151)), some (.inl p), some (.inl y), some (.inl (s + 1))]) rfl rfl rfl (by omega) ?_
            refine w_goto ?_
            exact ih61 _ (by omega) y (s + 1)  rfl (by omega) (by rw [q_fr_s (by omega), ← hy]; unfold q_nsS; first | rw [q_if_t (by assumption)] | rw [q_if_f (by assumption)])
          · refine w_loc rfl ?_
            refine w_loc rfl ?_
            refine w_loc rfl ?_
            refine w_loc rfl ?_
            have hc5 : pz_R (pz_Sh L) 84 [.inr (.inl 151), .inl s] (iv) (.inl (some (.inl ((iv 153) (k (212 + 4 * s).toNat).toNat)))) (iv) := s_X7_startOfSpan s (by exact hk) (by exact hS) (by omega)
            refine w_call hc5 rfl (pz_cokI is_151 rfl) ?_
            refine w_loc rfl ?_
            refine w_getR (q := 3) is_151 rf_151_0 ?_
            refine w_getR (q := 10) is_3 rf_3_2 ?_
            refine w_loc rfl ?_
            refine w_loc rfl ?_
            have hc6 : pz_R (pz_Sh L) 114 [.inr (.inl 10), .inl s, .inl p] (iv) (.inl (some (.inl (q_pck k p s)))) (iv) := s_X9_pickedOf s p (by exact hk) (by exact hS) (by omega) (by omega)
            refine w_call hc6 rfl (pz_cokI is_10 rfl) ?_
            refine w_iadd (by omega) ?_
            have hc7 : pz_R (pz_Sh L) 85 [.inr (.inl 151), .inl y, .inl (((iv 153) (k (212 + 4 * s).toNat).toNat) + (q_pck k p s))] (iv) (.inl (some (.inl (q_so ((iv 152) 0) y (((iv 153) (k (212 + 4 * s).toNat).toNat) + (q_pck k p s)))))) (iv) := s_X7_sooner y (((iv 153) (k (212 + 4 * s).toNat).toNat) + (q_pck k p s))
            refine w_call hc7 rfl (pz_cokI is_151 rfl) ?_
            refine w_loc (ls' := [some (.inr (.inl 151)), some (.inl p), some (.inl (q_so ((iv 152) 0) y (((iv 153) (k (212 + 4 * s).toNat).toNat) + (q_pck k p s)))), some (.inl s)]) (st' := []) rfl ?_
            refine w_nil ?_
            refine pz_G_of pz_b82_117 ?_
            refine w_iinc (ls' := [some (.inr (.inl 151)), some (.inl p), some (.inl (q_so ((iv 152) 0) y (((iv 153) (k (212 + 4 * s).toNat).toNat) + (q_pck k p s)))), some (.inl (s + 1))]) rfl rfl rfl (by omega) ?_
            refine w_goto ?_
            exact ih61 _ (by omega) (q_so ((iv 152) 0) y (((iv 153) (k (212 + 4 * s).toNat).toNat) + (q_pck k p s))) (s + 1)  rfl (by omega) (by rw [q_fr_s (by omega), ← hy]; unfold q_nsS; first | rw [q_if_t (by assumption)] | rw [q_if_f (by assumption)])
      exact lp61 _ x 0  rfl (by omega) (by rw [q_fr_0 (by omega)])
    · refine w_loc rfl ?_
      refine w_getR (q := 152) is_151 rf_151_2 ?_
      refine w_loc rfl ?_
      have hc8 : pz_R (pz_Sh L) 26 [.inr (.inl 152), .inl e] (iv) (.inl (some (.inl (pz_bi ((iv 153) e.toNat ≠ -1))))) (iv) := s_X2_hasStarted_152 e (by omega)
      refine w_call hc8 rfl (pz_cokI is_152 rfl) ?_
      refine w_bne (fun h9 => ?_) (fun h9 => ?_)
      · refine pz_G_of pz_b82_53 ?_
        refine w_iinc (ls' := [some (.inr (.inl 151)), some (.inl p), some (.inl x), some (.inl (e + 1))]) rfl rfl rfl (by omega) ?_
        refine w_goto ?_
        exact ih6 _ (by omega) x (e + 1)  rfl (by omega) (by rw [q_fr_s (by omega), ← hx]; unfold q_neS; first | rw [q_if_t (Classical.not_not.mp (by assumption))] | rw [q_if_f (by assumption)])
      · refine w_loc rfl ?_
        refine w_loc rfl ?_
        refine w_loc rfl ?_
        refine w_getR (q := 142) is_151 rf_151_1 ?_
        refine w_loc rfl ?_
        refine w_loc rfl ?_
        refine w_getR (q := 152) is_151 rf_151_2 ?_
        have hc10 : pz_R (pz_Sh L) 103 [.inr (.inl 142), .inl e, .inr (.inl 152)] (iv) (.inl (some (.inl (q_lo v (iv 153) k e)))) (iv) := s_X8_windowLow_152 e (by exact hk) (by exact hE) (by exact ⟨by omega, q_ub_al hub (by omega)⟩) (by exact hVU) (by exact hvb) (by omega)
        refine w_call hc10 rfl (pz_cokI is_142 rfl) ?_
        have hc11 : pz_R (pz_Sh L) 85 [.inr (.inl 151), .inl x, .inl (q_lo v (iv 153) k e)] (iv) (.inl (some (.inl (q_so ((iv 152) 0) x (q_lo v (iv 153) k e))))) (iv) := s_X7_sooner x (q_lo v (iv 153) k e)
        refine w_call hc11 rfl (pz_cokI is_151 rfl) ?_
        refine w_loc (ls' := [some (.inr (.inl 151)), some (.inl p), some (.inl (q_so ((iv 152) 0) x (q_lo v (iv 153) k e))), some (.inl e)]) (st' := []) rfl ?_
        refine w_loc rfl ?_
        refine w_loc rfl ?_
        refine w_loc rfl ?_
        have hc12 : pz_R (pz_Sh L) 83 [.inr (.inl 151), .inl (q_so ((iv 152) 0) x (q_lo v (iv 153) k e)), .inl e] (iv) (.inl (some (.inl (q_nw v k (iv 153) e ((iv 152) 0) (q_so ((iv 152) 0) x (q_lo v (iv 153) k e)))))) (iv) := s_X7_nextWaitOver (q_so ((iv 152) 0) x (q_lo v (iv 153) k e)) e (by exact hk) (by exact hE) (by exact hS) (by first | assumption | omega) (by assumption) (by exact hVU) (by exact hvb) (by omega)
        refine w_call hc12 rfl (pz_cokI is_151 rfl) ?_
        refine w_loc (ls' := [some (.inr (.inl 151)), some (.inl p), some (.inl (q_nw v k (iv 153) e ((iv 152) 0) (q_so ((iv 152) 0) x (q_lo v (iv 153) k e)))), some (.inl e)]) (st' := []) rfl ?_
        refine w_nil ?_
        refine pz_G_of pz_b82_53 ?_
        refine w_iinc (ls' := [some (.inr (.inl 151)), some (.inl p), some (.inl (q_nw v k (iv 153) e ((iv 152) 0) (q_so ((iv 152) 0) x (q_lo v (iv 153) k e)))), some (.inl (e + 1))]) rfl rfl rfl (by omega) ?_
        refine w_goto ?_
        exact ih6 _ (by omega) (q_nw v k (iv 153) e ((iv 152) 0) (q_so ((iv 152) 0) x (q_lo v (iv 153) k e))) (e + 1)  rfl (by omega) (by rw [q_fr_s (by omega), ← hx]; unfold q_neS; first | rw [q_if_t (Classical.not_not.mp (by assumption))] | rw [q_if_f (by assumption)])
  exact lp6 _ 601 0  rfl (by omega) (by rw [q_fr_0 (by omega)])

theorem s_X7_lastStart {L : Nat} {iv : Nat → Nat → Int} {k : Nat → Int} (hk : q_KR k) (hE3 : (iv 3) 0 = k 0) : pz_R (pz_Sh L) 86 [.inr (.inl 151)] iv (.inl (some (.inl (q_la (iv 153) (k 0))))) iv := by
  intro dv cc ss
  have hk0 := hk.r0
  show pz_G 86 0 [some (.inr (.inl 151)), none, none] [] (pz_Sh L, iv, dv, cc, ss) (pz_P (pz_Sh L) (.inl (some (.inl (q_la (iv 153) (k 0))))) iv dv cc ss)
  refine pz_G_of pz_b86_0 ?_
  refine w_pure rfl ?_
  refine w_loc (ls' := [some (.inr (.inl 151)), some (.inl 0), none]) (st' := []) rfl ?_
  refine w_pure rfl ?_
  refine w_loc (ls' := [some (.inr (.inl 151)), some (.inl 0), some (.inl 0)]) (st' := []) rfl ?_
  refine w_nil ?_
  have lp4 : ∀ (dd : Nat) (x : Int) (e : Int) , (k 0 - e).toNat = dd → ∀ (he : 0 ≤ e ∧ e ≤ k 0), ∀ (hx : x = q_la (iv 153) e),  pz_G 86 4 [some (.inr (.inl 151)), some (.inl x), some (.inl e)] [] (pz_Sh L, iv, dv, cc, ss) (pz_P (pz_Sh L) (.inl (some (.inl (q_la (iv 153) (k 0))))) iv dv cc ss) := by
    intro dd4
    induction dd4 using Nat.strongRecOn with
    | _ dd4 ih4 =>
    intro x e  hd4 he hx
    refine pz_G_of pz_b86_4 ?_
    refine w_loc rfl ?_
    refine w_loc rfl ?_
    refine w_getR (q := 3) is_151 rf_151_0 ?_
    refine w_getI (v := (iv 3) 0) is_3 (by decide) rfl ?_
    refine w_ige (fun h1 => ?_) (fun h1 => ?_)
    · refine pz_G_of pz_b86_34 ?_
      refine w_loc rfl ?_
      refine w_ret rfl ?_
      first | exact lf_i (by rw [hx, show e = k 0 by omega]) rfl | (exfalso; omega)
    · refine w_loc rfl ?_
      refine w_loc rfl ?_
      refine w_getR (q := 152) is_151 rf_151_2 ?_
      refine w_loc rfl ?_
      have hc2 : pz_R (pz_Sh L) 25 [.inr (.inl 152), .inl e] (iv) (.inl (some (.inl ((iv 153) e.toNat)))) (iv) := s_X2_startOf_152 e (by omega)
      refine w_call hc2 rfl (pz_cokI is_152 rfl) ?_
      have hc3 : pz_R (pz_Sh L) 1 [.inl x, .inl ((iv 153) e.toNat)] (iv) (.inl (some (.inl (max x ((iv 153) e.toNat))))) (iv) := s_J_max x ((iv 153) e.toNat)
      refine w_call hc3 rfl rfl ?_
      refine w_loc (ls' := [some (.inr (.inl 151)), some (.inl (max x ((iv 153) e.toNat))), some (.inl e)]) (st' := []) rfl ?_
      refine w_iinc (ls' := [some (.inr (.inl 151)), some (.inl (max x ((iv 153) e.toNat))), some (.inl (e + 1))]) rfl rfl rfl (by omega) ?_
      refine w_goto ?_
      exact ih4 _ (by omega) (max x ((iv 153) e.toNat)) (e + 1)  rfl (by omega) (by unfold q_la; rw [q_fr_s (by omega), show q_fr (q_laS (iv 153)) 0 e 0 = x from hx.symm]; unfold q_laS; by_cases hq : x < iv 153 e.toNat; (rw [q_if_t hq]; omega); (rw [q_if_f hq]; omega))
  exact lp4 _ 0 0  rfl (by omega) (by unfold q_la; rw [q_fr_0 (by omega)])

theorem s_X7_failureOf {L : Nat} {iv : Nat → Nat → Int} (p : Int) {k : Nat → Int} {v : Nat → Int} (hk : q_KR k) (hE : q_cE k (iv 3)) (hB : q_cB k (iv 4) (iv 5) (iv 6) (iv 7) (iv 8) (iv 9)) (hS : q_cS k (iv 10) (iv 11) (iv 12) (iv 13) (iv 14)) (hL : q_cL k (iv 25)) (hp : 0 ≤ p ∧ p ≤ 15) (hVU : q_VU k v (iv 143) (iv 145)) (hvb : q_vb v) : pz_RE (pz_Sh L) 76 [.inr (.inl 151), .inl p] iv (.inl (some (.inl (q_fl v k p (iv 153))))) (fun iv9 => ∃ (x9 : Nat → Int), iv9 = pz_u1 (pz_u1 iv 152 x9) 153 (q_pl v k p (iv 153)) ∧ (0 ≤ x9 0 ∧ x9 0 ≤ 601)) := by
  intro dv cc ss
  have hk0 := hk.r0
  have hE0 := hE
  have hB0 := hB.1
  have hS0 := hS.1
  refine pz_G_mem (iv2 := pz_u1 (pz_u1 iv 152 (iv 152)) 153 (iv 153)) (by exact ((pz_u1_self iv 152).symm).trans (pz_u1_self (pz_u1 iv 152 (iv 152)) 153).symm) ?_
  show pz_G 76 0 [some (.inr (.inl 151)), some (.inl p), none] [] (pz_Sh L, pz_u1 (pz_u1 iv 152 (iv 152)) 153 (iv 153), dv, cc, ss) (pz_PE (pz_Sh L) (.inl (some (.inl (q_fl v k p (iv 153))))) (fun iv9 => ∃ (x9 : Nat → Int), iv9 = pz_u1 (pz_u1 iv 152 x9) 153 (q_pl v k p (iv 153)) ∧ (0 ≤ x9 0 ∧ x9 0 ≤ 601)) dv cc ss)
  refine pz_G_of pz_b76_0 ?_
  refine w_loc rfl ?_
  refine w_getR (q := 152) is_151 rf_151_2 ?_
  have hc1 : pz_R (pz_Sh L) 24 [.inr (.inl 152)] (pz_u1 (pz_u1 iv 152 (iv 152)) 153 (iv 153)) (.inl none) (pz_u1 (pz_u1 iv 152 (pz_up (iv 152) 0 0)) 153 (q_a0 (iv 153))) := pz_R_mem (s_X2_rewind) (by rw [pz_u1_in (r := 152) (q := 153) (by decide)]; rw [pz_u1_top (r := 152)]; rw [pz_u1_top (r := 153)]; rfl)
  refine w_callv hc1 rfl (pz_cokI is_152 rfl) ?_
  refine w_pure rfl ?_
  refine w_loc (ls' := [some (.inr (.inl 151)), some (.inl p), some (.inl 0)]) (st' := []) rfl ?_
  refine w_nil ?_
  have lp9 : ∀ (dd : Nat) (n : Int) (x : Nat → Int) (a : Nat → Int) , (601 - n).toNat = dd → ∀ (hn : 0 ≤ n ∧ n ≤ x 0), ∀ (hx : 0 ≤ x 0 ∧ x 0 ≤ 601), ∀ (ha : a = q_fr (q_plS v k p) 0 (x 0) (q_a0 (iv 153))), ∀ (hua : q_ub a (x 0)), ∀ (hna : x 0 = 0 ∨ ¬ q_aa k a),  pz_G 76 9 [some (.inr (.inl 151)), some (.inl p), some (.inl n)] [] (pz_Sh L, pz_u1 (pz_u1 iv 152 x) 153 a, dv, cc, ss) (pz_PE (pz_Sh L) (.inl (some (.inl (q_fl v k p (iv 153))))) (fun iv9 => ∃ (x9 : Nat → Int), iv9 = pz_u1 (pz_u1 iv 152 x9) 153 (q_pl v k p (iv 153)) ∧ (0 ≤ x9 0 ∧ x9 0 ≤ 601)) dv cc ss) := by
    intro dd9
    induction dd9 using Nat.strongRecOn with
    | _ dd9 ih9 =>
    intro n x a  hd9 hn hx ha hua hna
    have hna2 : ¬ q_aa k a ∨ q_aa k a := by
      by_cases h : q_aa k a; exact Or.inr h; exact Or.inl h
    refine pz_G_of pz_b76_9 ?_
    refine w_loc rfl ?_
    refine w_pure rfl ?_
    refine w_igt (fun h2 => ?_) (fun h2 => ?_)
    · have hpl : a = (q_pl v k p (iv 153)) := by
        rw [ha, show x 0 = 601 by omega]; rfl
      have hna9 : ¬ q_aa k a := by
        rcases hna with h | h
        · omega
        · exact h
      refine pz_G_of pz_b76_78 ?_
      refine w_pure rfl ?_
      refine w_ret (pz_rok2 (by omega)) ?_
      exact ⟨pz_u1 (pz_u1 iv 152 x) 153 a, ⟨x, by rw [← hpl], by exact hx⟩, lf_i (by unfold q_fl; rw [← hpl]; first | rw [q_if_f (by assumption)] | (rw [q_if_t (by assumption)]; first | rw [q_if_t (by assumption)] | rw [q_if_f (by assumption)])) rfl⟩
    · refine w_loc rfl ?_
      refine w_getR (q := 152) is_151 rf_151_2 ?_
      refine w_getI (v := x 0) is_152 (by decide) rfl ?_
      refine w_pure rfl ?_
      refine w_igt (fun h3 => ?_) (fun h3 => ?_)
      · have hpl : a = (q_pl v k p (iv 153)) := by
          rw [ha, show x 0 = 601 by omega]; rfl
        have hna9 : ¬ q_aa k a := by
          rcases hna with h | h
          · omega
          · exact h
        refine pz_G_of pz_b76_78 ?_
        refine w_pure rfl ?_
        refine w_ret (pz_rok2 (by omega)) ?_
        exact ⟨pz_u1 (pz_u1 iv 152 x) 153 a, ⟨x, by rw [← hpl], by exact hx⟩, lf_i (by unfold q_fl; rw [← hpl]; first | rw [q_if_f (by assumption)] | (rw [q_if_t (by assumption)]; first | rw [q_if_t (by assumption)] | rw [q_if_f (by assumption)])) rfl⟩
      · refine w_loc rfl ?_
        refine w_loc rfl ?_
        have hc4 : pz_R (pz_Sh L) 79 [.inr (.inl 151), .inl p] (pz_u1 (pz_u1 iv 152 x) 153 a) (.inl none) (pz_u1 (pz_u1 iv 152 x) 153 (q_fr (q_enS k p (x 0)) 0 (k 2) a)) := pz_R_mem (s_X7_startEnds p (by show q_KR k; exact hk) (by show q_cE k (iv 3); exact hE) (by show q_cS k (iv 10) (iv 11) (iv 12) (iv 13) (iv 14); exact hS) (by show 0 ≤ p ∧ p ≤ 15; omega) (by show 0 ≤ x 0 ∧ x 0 ≤ 600; omega) (by show q_ub a (x 0); first | exact hua | exact q_en_ub hua hx.1 (by omega) | exact q_mi_ub hua hk hx.1)) (by rw [pz_u1_top (r := 153)]; rfl)
        refine w_callv hc4 rfl (pz_cokI is_151 rfl) ?_
        refine w_loc rfl ?_
        have hc5 : pz_R (pz_Sh L) 80 [.inr (.inl 151)] (pz_u1 (pz_u1 iv 152 x) 153 (q_fr (q_enS k p (x 0)) 0 (k 2) a)) (.inl none) (pz_u1 (pz_u1 iv 152 x) 153 (q_sts v k (x 0) 10 (q_fr (q_enS k p (x 0)) 0 (k 2) a))) := pz_R_mem (s_X7_startReady (by show q_KR k; exact hk) (by show q_cE k (iv 3); exact hE) (by show q_cS k (iv 10) (iv 11) (iv 12) (iv 13) (iv 14); exact hS) (by show 0 ≤ x 0 ∧ x 0 ≤ 600; omega) (by show q_ub (q_fr (q_enS k p (x 0)) 0 (k 2) a) (x 0); first | exact hua | exact q_en_ub hua hx.1 (by omega) | exact q_mi_ub hua hk hx.1) (by show q_VU k v (iv 143) (iv 145); exact hVU) (by show q_vb v; exact hvb)) (by rw [pz_u1_top (r := 153)]; rfl)
        refine w_callv hc5 rfl (pz_cokI is_151 rfl) ?_
        refine w_loc rfl ?_
        have hc6 : pz_R (pz_Sh L) 77 [.inr (.inl 151)] (pz_u1 (pz_u1 iv 152 x) 153 (q_sts v k (x 0) 10 (q_fr (q_enS k p (x 0)) 0 (k 2) a))) (.inl (some (.inl (pz_bi (q_aa k (q_sts v k (x 0) 10 (q_fr (q_enS k p (x 0)) 0 (k 2) a))))))) (pz_u1 (pz_u1 iv 152 x) 153 (q_sts v k (x 0) 10 (q_fr (q_enS k p (x 0)) 0 (k 2) a))) := s_X7_haveAllStarted (by show q_KR k; exact hk) (by show q_cE k (iv 3); exact hE)
        refine w_call hc6 rfl (pz_cokI is_151 rfl) ?_
        refine w_beq (fun h7 => ?_) (fun h7 => ?_)
        · have hnm := q_nm_r (v := v) (p := p) (a := (q_sts v k (x 0) 10 (q_fr (q_enS k p (x 0)) 0 (k 2) a))) (m := x 0) hk (by omega)
          have hnb : ¬ q_aa k a := by
            intro h
            have h8 : q_aa k (q_mi v k p (x 0) a) := by
              rw [q_mi_aa hk h]; exact h
            exact absurd h8 (by assumption)
          have hpj := q_pl_jump (p := p) hk hvb ha hua ⟨hx.1, by omega⟩ rfl hnb rfl
          refine pz_G_of pz_b76_60 ?_
          refine w_loc rfl ?_
          refine w_getR (q := 152) is_151 rf_151_2 ?_
          refine w_loc rfl ?_
          refine w_loc rfl ?_
          have hc8 : pz_R (pz_Sh L) 82 [.inr (.inl 151), .inl p] (pz_u1 (pz_u1 iv 152 x) 153 (q_sts v k (x 0) 10 (q_fr (q_enS k p (x 0)) 0 (k 2) a))) (.inl (some (.inl (q_nm v k p (x 0) (q_sts v k (x 0) 10 (q_fr (q_enS k p (x 0)) 0 (k 2) a)))))) (pz_u1 (pz_u1 iv 152 x) 153 (q_sts v k (x 0) 10 (q_fr (q_enS k p (x 0)) 0 (k 2) a))) := s_X7_nextMinute p (by show q_KR k; exact hk) (by show q_cE k (iv 3); exact hE) (by show q_cS k (iv 10) (iv 11) (iv 12) (iv 13) (iv 14); exact hS) (by show 0 ≤ p ∧ p ≤ 15; omega) (by show 0 ≤ x 0 ∧ x 0 ≤ 600; omega) (by show q_ub (q_sts v k (x 0) 10 (q_fr (q_enS k p (x 0)) 0 (k 2) a)) (x 0); first | exact hua | exact q_en_ub hua hx.1 (by omega) | exact q_mi_ub hua hk hx.1) (by show q_VU k v (iv 143) (iv 145); exact hVU) (by show q_vb v; exact hvb)
          refine w_call hc8 rfl (pz_cokI is_151 rfl) ?_
          refine w_putIm (iv2 := pz_u1 (pz_u1 iv 152 (pz_up x 0 (q_nm v k p (x 0) (q_sts v k (x 0) 10 (q_fr (q_enS k p (x 0)) 0 (k 2) a))))) 153 (q_sts v k (x 0) 10 (q_fr (q_enS k p (x 0)) 0 (k 2) a))) is_152 pz_fit0 (by rw [pz_u2_in (r := 152) (q := 153) (by decide)]; rw [pz_u2_top] <;> rfl) ?_
          refine w_iinc (ls' := [some (.inr (.inl 151)), some (.inl p), some (.inl (n + 1))]) rfl rfl rfl (by omega) ?_
          refine w_goto ?_
          exact ih9 _ (by omega) (n + 1) (pz_up x 0 (q_nm v k p (x 0) (q_sts v k (x 0) 10 (q_fr (q_enS k p (x 0)) 0 (k 2) a)))) (q_sts v k (x 0) 10 (q_fr (q_enS k p (x 0)) 0 (k 2) a))  rfl (by rw [pz_up_eq]; omega) (by rw [pz_up_eq]; omega) (by rw [pz_up_eq]; exact hpj) (by rw [pz_up_eq]; exact q_ub_le (q_mi_ub hua hk hx.1) (by omega)) (by exact Or.inr (by assumption))
        · refine w_loc rfl ?_
          have hc9 : pz_R (pz_Sh L) 78 [.inr (.inl 151)] (pz_u1 (pz_u1 iv 152 x) 153 (q_sts v k (x 0) 10 (q_fr (q_enS k p (x 0)) 0 (k 2) a))) (.inl (some (.inl (pz_bi (q_all (q_kpP k (q_sts v k (x 0) 10 (q_fr (q_enS k p (x 0)) 0 (k 2) a))) (k 1)))))) (pz_u1 (pz_u1 iv 152 x) 153 (q_sts v k (x 0) 10 (q_fr (q_enS k p (x 0)) 0 (k 2) a))) := s_X7_areBoundsRight (by show q_KR k; exact hk) (by show q_cE k (iv 3); exact hE) (by show q_cB k (iv 4) (iv 5) (iv 6) (iv 7) (iv 8) (iv 9); exact hB) (by show q_cL k (iv 25); exact hL) (by show q_al (q_sts v k (x 0) 10 (q_fr (q_enS k p (x 0)) 0 (k 2) a)); exact q_ub_al (q_mi_ub hua hk hx.1) (by omega)) (by show 0 ≤ x 0 ∧ x 0 ≤ 600; omega)
          refine w_call hc9 rfl (pz_cokI is_151 rfl) ?_
          refine w_beq (fun h10 => ?_) (fun h10 => ?_)
          · refine pz_G_of pz_b76_57 ?_
            refine w_pure rfl ?_
            refine w_nil ?_
            have hpl : (q_sts v k (x 0) 10 (q_fr (q_enS k p (x 0)) 0 (k 2) a)) = (q_pl v k p (iv 153)) := by
              refine q_pl_e (m := x 0 + 1) (by omega) ?_ (Or.inr (by assumption))
              rw [q_fr_s hx.1, ← ha]
              unfold q_plS
              by_cases h : q_aa k a
              · rw [q_if_t h]; exact q_mi_aa hk h
              · rw [q_if_f h]; rfl
            refine pz_G_of pz_b76_59 ?_
            refine w_ret (pz_rok2 (by omega)) ?_
            exact ⟨pz_u1 (pz_u1 iv 152 x) 153 (q_sts v k (x 0) 10 (q_fr (q_enS k p (x 0)) 0 (k 2) a)), ⟨x, by rw [← hpl], by exact hx⟩, lf_i (by unfold q_fl; rw [← hpl]; first | rw [q_if_f (by assumption)] | (rw [q_if_t (by assumption)]; first | rw [q_if_t (by assumption)] | rw [q_if_f (by assumption)])) rfl⟩
          · refine w_pure rfl ?_
            refine w_goto ?_
            have hpl : (q_sts v k (x 0) 10 (q_fr (q_enS k p (x 0)) 0 (k 2) a)) = (q_pl v k p (iv 153)) := by
              refine q_pl_e (m := x 0 + 1) (by omega) ?_ (Or.inr (by assumption))
              rw [q_fr_s hx.1, ← ha]
              unfold q_plS
              by_cases h : q_aa k a
              · rw [q_if_t h]; exact q_mi_aa hk h
              · rw [q_if_f h]; rfl
            refine pz_G_of pz_b76_59 ?_
            refine w_ret (pz_rok2 (by omega)) ?_
            exact ⟨pz_u1 (pz_u1 iv 152 x) 153 (q_sts v k (x 0) 10 (q_fr (q_enS k p (x 0)) 0 (k 2) a)), ⟨x, by rw [← hpl], by exact hx⟩, lf_i (by unfold q_fl; rw [← hpl]; first | rw [q_if_f (by assumption)] | (rw [q_if_t (by assumption)]; first | rw [q_if_t (by assumption)] | rw [q_if_f (by assumption)])) rfl⟩
  exact lp9 _ 0 (pz_up (iv 152) 0 0) (q_a0 (iv 153))  rfl (by refine ⟨by omega, ?_⟩; show (0 : Int) ≤ 0; omega) (by show (0 : Int) ≤ 0 ∧ (0 : Int) ≤ 601; omega) (by rw [pz_up_eq, q_fr_0 (by omega)]) (by rw [pz_up_eq]; exact q_a0_ub) (by exact Or.inl pz_up_eq)
