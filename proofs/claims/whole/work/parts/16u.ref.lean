
theorem s_X11_round {L : Nat} {iv : Nat → Nat → Int} (hk : q_KR (iv 155)) (hvb : q_vb (iv 158)) : pz_R (pz_Sh L) 243 [.inr (.inl 154)] iv (.inl none) (pz_u1 (pz_u1 iv 158 (q_rd (iv 155) (q_c4 (iv 158) (iv 159)) (iv 158))) 159 (q_c4 (iv 158) (iv 159))) := by
  intro dv cc ss
  have hk0 := hk.r0
  refine pz_G_mem (iv2 := pz_u1 (pz_u1 iv 158 (iv 158)) 159 (iv 159)) (by exact ((pz_u1_self iv 158).symm).trans (pz_u1_self (pz_u1 iv 158 (iv 158)) 159).symm) ?_
  show pz_G 243 0 [some (.inr (.inl 154)), none, none, none, none, none] [] (pz_Sh L, pz_u1 (pz_u1 iv 158 (iv 158)) 159 (iv 159), dv, cc, ss) (pz_P (pz_Sh L) (.inl none) (pz_u1 (pz_u1 iv 158 (q_rd (iv 155) (q_c4 (iv 158) (iv 159)) (iv 158))) 159 (q_c4 (iv 158) (iv 159))) dv cc ss)
  refine pz_G_of pz_b243_0 ?_
  refine w_pure rfl ?_
  refine w_loc (ls' := [some (.inr (.inl 154)), some (.inl 0), none, none, none, none]) (st' := []) rfl ?_
  refine w_nil ?_
  have lp2 : ∀ (dd : Nat) (i : Int) (f : Nat → Int) (u2_2 : Option pz_V) (hu2_2 : pz_nc u2_2 = true) (u2_3 : Option pz_V) (hu2_3 : pz_nc u2_3 = true) (u2_4 : Option pz_V) (hu2_4 : pz_nc u2_4 = true) (u2_5 : Option pz_V) (hu2_5 : pz_nc u2_5 = true), (400 - i).toNat = dd → ∀ (hi : 0 ≤ i ∧ i ≤ 400), ∀ (hf : ∀ j : Nat, f j = if (j : Int) < i then iv 158 j else iv 159 j),  pz_G 243 2 [some (.inr (.inl 154)), some (.inl i), u2_2, u2_3, u2_4, u2_5] [] (pz_Sh L, pz_u1 (pz_u1 iv 158 (iv 158)) 159 f, dv, cc, ss) (pz_P (pz_Sh L) (.inl none) (pz_u1 (pz_u1 iv 158 (q_rd (iv 155) (q_c4 (iv 158) (iv 159)) (iv 158))) 159 (q_c4 (iv 158) (iv 159))) dv cc ss) := by
    intro dd2
    induction dd2 using Nat.strongRecOn with
    | _ dd2 ih2 =>
    intro i f u2_2 hu2_2 u2_3 hu2_3 u2_4 hu2_4 u2_5 hu2_5 hd2 hi hf
    refine pz_G_of pz_b243_2 ?_
    refine w_loc rfl ?_
    refine w_pure rfl ?_
    refine w_ige (fun h1 => ?_) (fun h1 => ?_)
    · have hfa : f = q_c4 (iv 158) (iv 159) := by
        funext j
        rw [hf j]
        unfold q_c4
        (repeat' split) <;> first | rfl | omega
      have hvf : q_vb f := by
        intro j hj
        rw [hf j, if_pos (by omega)]
        exact hvb j hj
      refine pz_G_of pz_b243_27 ?_
      refine w_pure rfl ?_
      refine w_loc (ls' := [some (.inr (.inl 154)), some (.inl 0), u2_2, u2_3, u2_4, u2_5]) (st' := []) rfl ?_
      refine w_nil ?_
      have lp29 : ∀ (dd : Nat) (x : Int) (v : Nat → Int) (u29_2 : Option pz_V) (hu29_2 : pz_nc u29_2 = true) (u29_3 : Option pz_V) (hu29_3 : pz_nc u29_3 = true) (u29_4 : Option pz_V) (hu29_4 : pz_nc u29_4 = true) (u29_5 : Option pz_V) (hu29_5 : pz_nc u29_5 = true), (10 - x).toNat = dd → ∀ (hx : 0 ≤ x ∧ x ≤ 10), ∀ (hv : v = q_fr (q_rdF (iv 155) f) 0 x (iv 158)),  pz_G 243 29 [some (.inr (.inl 154)), some (.inl x), u29_2, u29_3, u29_4, u29_5] [] (pz_Sh L, pz_u1 (pz_u1 iv 158 v) 159 f, dv, cc, ss) (pz_P (pz_Sh L) (.inl none) (pz_u1 (pz_u1 iv 158 (q_rd (iv 155) (q_c4 (iv 158) (iv 159)) (iv 158))) 159 (q_c4 (iv 158) (iv 159))) dv cc ss) := by
        intro dd29
        induction dd29 using Nat.strongRecOn with
        | _ dd29 ih29 =>
        intro x v u29_2 hu29_2 u29_3 hu29_3 u29_4 hu29_4 u29_5 hu29_5 hd29 hx hv
        refine pz_G_of pz_b243_29 ?_
        refine w_loc rfl ?_
        refine w_pure rfl ?_
        refine w_ige (fun h2 => ?_) (fun h2 => ?_)
        · refine pz_G_of pz_b243_157 ?_
          refine w_pure rfl ?_
          refine w_loc (ls' := [some (.inr (.inl 154)), some (.inl 0), u29_2, u29_3, u29_4, u29_5]) (st' := []) rfl ?_
          refine w_nil ?_
          have lp159 : ∀ (dd : Nat) (s : Int) (v5 : Nat → Int) (u159_2 : Option pz_V) (hu159_2 : pz_nc u159_2 = true) (u159_3 : Option pz_V) (hu159_3 : pz_nc u159_3 = true) (u159_4 : Option pz_V) (hu159_4 : pz_nc u159_4 = true) (u159_5 : Option pz_V) (hu159_5 : pz_nc u159_5 = true), (iv 155 2 - s).toNat = dd → ∀ (hs : 0 ≤ s ∧ s ≤ iv 155 2), ∀ (hv5 : v5 = q_fr (q_rdS (iv 155) f) 0 s v),  pz_G 243 159 [some (.inr (.inl 154)), some (.inl s), u159_2, u159_3, u159_4, u159_5] [] (pz_Sh L, pz_u1 (pz_u1 iv 158 v5) 159 f, dv, cc, ss) (pz_P (pz_Sh L) (.inl none) (pz_u1 (pz_u1 iv 158 (q_rd (iv 155) (q_c4 (iv 158) (iv 159)) (iv 158))) 159 (q_c4 (iv 158) (iv 159))) dv cc ss) := by
            intro dd159
            induction dd159 using Nat.strongRecOn with
            | _ dd159 ih159 =>
            intro s v5 u159_2 hu159_2 u159_3 hu159_3 u159_4 hu159_4 u159_5 hu159_5 hd159 hs hv5
            refine pz_G_of pz_b243_159 ?_
            refine w_loc rfl ?_
            refine w_loc rfl ?_
            refine w_getR (q := 155) is_154 rf_154_1 ?_
            refine w_pure rfl ?_
            refine w_iald (v := (iv 155) 2) is_155 ln_155 ⟨by omega, by omega⟩ rfl ?_
            refine w_ige (fun h3 => ?_) (fun h3 => ?_)
            · refine pz_G_of pz_b243_188 ?_
              refine w_vret ?_
              exact lf_v (by rw [← hfa, hv5, show s = iv 155 2 by omega, hv, show x = 10 by omega]; rfl)
            · refine w_loc rfl ?_
              refine w_loc rfl ?_
              have hc4 : pz_R (pz_Sh L) 210 [.inr (.inl 154), .inl s] (pz_u1 (pz_u1 iv 158 v5) 159 f) (.inl (some (.inl (pz_bi (q_sta (iv 155) ((iv 155) (212 + 4 * s + 1).toNat)))))) (pz_u1 (pz_u1 iv 158 v5) 159 f) := s_X11_hasEnded s (by show q_KR (iv 155); exact hk) (by show 0 ≤ s ∧ s < (iv 155) 2; omega)
              refine w_call hc4 rfl (pz_cokI is_154 rfl) ?_
              refine w_bne (fun h5 => ?_) (fun h5 => ?_)
              · refine pz_G_of pz_b243_182 ?_
                refine w_iinc (ls' := [some (.inr (.inl 154)), some (.inl (s + 1)), u159_2, u159_3, u159_4, u159_5]) rfl rfl rfl (by omega) ?_
                refine w_goto ?_
                exact ih159 _ (by omega) (s + 1) v5 u159_2 hu159_2 u159_3 hu159_3 u159_4 hu159_4 u159_5 hu159_5 rfl (by omega) (by rw [q_fr_s (by omega), ← hv5]; unfold q_rdS; first | rw [q_if_t (by omega)] | rw [q_if_f (by omega)])
              · refine w_loc rfl ?_
                refine w_loc rfl ?_
                have hc6 : pz_R (pz_Sh L) 244 [.inr (.inl 154), .inl s] (pz_u1 (pz_u1 iv 158 v5) 159 f) (.inl none) (pz_u1 (pz_u1 iv 158 (q_spn (iv 155) f s v5)) 159 f) := pz_R_mem (s_X11_spanRound s (by show q_KR (iv 155); exact hk) (by show 0 ≤ s ∧ s < (iv 155) 2; omega) (by show q_vb f; exact hvf)) (by rw [pz_u1_in (r := 158) (q := 159) (by decide)]; rw [pz_u1_top (r := 158)]; rfl)
                refine w_callv hc6 rfl (pz_cokI is_154 rfl) ?_
                refine w_nil ?_
                refine pz_G_of pz_b243_182 ?_
                refine w_iinc (ls' := [some (.inr (.inl 154)), some (.inl (s + 1)), u159_2, u159_3, u159_4, u159_5]) rfl rfl rfl (by omega) ?_
                refine w_goto ?_
                exact ih159 _ (by omega) (s + 1) (q_spn (iv 155) f s v5) u159_2 hu159_2 u159_3 hu159_3 u159_4 hu159_4 u159_5 hu159_5 rfl (by omega) (by rw [q_fr_s (by omega), ← hv5]; unfold q_rdS; first | rw [q_if_t (by omega)] | rw [q_if_f (by omega)])
          exact lp159 _ 0 v u29_2 hu29_2 u29_3 hu29_3 u29_4 hu29_4 u29_5 hu29_5 rfl (by omega) (by rw [q_fr_0 (by omega)])
        · refine w_pure rfl ?_
          refine w_loc (ls' := [some (.inr (.inl 154)), some (.inl x), some (.inl 0), u29_3, u29_4, u29_5]) (st' := []) rfl ?_
          refine w_nil ?_
          have lp37 : ∀ (dd : Nat) (c : Int) (v2 : Nat → Int) (u37_3 : Option pz_V) (hu37_3 : pz_nc u37_3 = true) (u37_4 : Option pz_V) (hu37_4 : pz_nc u37_4 = true) (u37_5 : Option pz_V) (hu37_5 : pz_nc u37_5 = true), (10 - c).toNat = dd → ∀ (hc : 0 ≤ c ∧ c ≤ 10), ∀ (hv2 : v2 = q_fr (q_rdC (iv 155) f x) 0 c v),  pz_G 243 37 [some (.inr (.inl 154)), some (.inl x), some (.inl c), u37_3, u37_4, u37_5] [] (pz_Sh L, pz_u1 (pz_u1 iv 158 v2) 159 f, dv, cc, ss) (pz_P (pz_Sh L) (.inl none) (pz_u1 (pz_u1 iv 158 (q_rd (iv 155) (q_c4 (iv 158) (iv 159)) (iv 158))) 159 (q_c4 (iv 158) (iv 159))) dv cc ss) := by
            intro dd37
            induction dd37 using Nat.strongRecOn with
            | _ dd37 ih37 =>
            intro c v2 u37_3 hu37_3 u37_4 hu37_4 u37_5 hu37_5 hd37 hc hv2
            have hw := fun h => hvf (100 * 0 + 10 * x + c).toNat h
            refine pz_G_of pz_b243_37 ?_
            refine w_loc rfl ?_
            refine w_pure rfl ?_
            refine w_ige (fun h7 => ?_) (fun h7 => ?_)
            · refine pz_G_of pz_b243_151 ?_
              refine w_iinc (ls' := [some (.inr (.inl 154)), some (.inl (x + 1)), some (.inl c), u37_3, u37_4, u37_5]) rfl rfl rfl (by omega) ?_
              refine w_goto ?_
              exact ih29 _ (by omega) (x + 1) v2 (some (.inl c)) rfl u37_3 hu37_3 u37_4 hu37_4 u37_5 hu37_5 rfl (by omega) (by rw [q_fr_s (by omega), ← hv, hv2, show c = 10 by omega]; rfl)
            · refine w_loc rfl ?_
              refine w_getR (q := 159) is_154 rf_154_6 ?_
              refine w_pure rfl ?_
              refine w_loc rfl ?_
              refine w_loc rfl ?_
              have hc8 : pz_R (pz_Sh L) 241 [.inl 0, .inl x, .inl c] (pz_u1 (pz_u1 iv 158 v2) 159 f) (.inl (some (.inl (100 * 0 + 10 * x + c)))) (pz_u1 (pz_u1 iv 158 v2) 159 f) := s_X11_cell 0 x c (by show 0 ≤ 0 ∧ 0 ≤ 3; omega) (by show 0 ≤ x ∧ x ≤ 9; omega) (by show 0 ≤ c ∧ c ≤ 9; omega)
              refine w_call hc8 rfl rfl ?_
              refine w_iald (v := f (100 * 0 + 10 * x + c).toNat) is_159 ln_159 ⟨by omega, by omega⟩ rfl ?_
              refine w_loc (ls' := [some (.inr (.inl 154)), some (.inl x), some (.inl c), some (.inl (f (100 * 0 + 10 * x + c).toNat)), u37_4, u37_5]) (st' := []) rfl ?_
              refine w_loc rfl ?_
              refine w_ldcv (v := 1000000) rfl ?_
              refine w_ine (fun h9 => ?_) (fun h9 => ?_)
              · refine pz_G_of pz_b243_64 ?_
                refine w_pure rfl ?_
                refine w_loc (ls' := [some (.inr (.inl 154)), some (.inl x), some (.inl c), some (.inl (f (100 * 0 + 10 * x + c).toNat)), some (.inl 0), u37_5]) (st' := []) rfl ?_
                refine w_nil ?_
                have lp67 : ∀ (dd : Nat) (q : Int) (v3 : Nat → Int) (u67_5 : Option pz_V) (hu67_5 : pz_nc u67_5 = true), (iv 155 2 + 1 - q).toNat = dd → ∀ (hq : 0 ≤ q ∧ q ≤ iv 155 2 + 1), ∀ (hv3 : v3 = q_fr (q_rdQ f x c) 0 q v2),  pz_G 243 67 [some (.inr (.inl 154)), some (.inl x), some (.inl c), some (.inl (f (100 * 0 + 10 * x + c).toNat)), some (.inl q), u67_5] [] (pz_Sh L, pz_u1 (pz_u1 iv 158 v3) 159 f, dv, cc, ss) (pz_P (pz_Sh L) (.inl none) (pz_u1 (pz_u1 iv 158 (q_rd (iv 155) (q_c4 (iv 158) (iv 159)) (iv 158))) 159 (q_c4 (iv 158) (iv 159))) dv cc ss) := by
                  intro dd67
                  induction dd67 using Nat.strongRecOn with
                  | _ dd67 ih67 =>
                  intro q v3 u67_5 hu67_5 hd67 hq hv3
                  refine pz_G_of pz_b243_67 ?_
                  refine w_loc rfl ?_
                  refine w_loc rfl ?_
                  refine w_getR (q := 155) is_154 rf_154_1 ?_
                  refine w_pure rfl ?_
                  refine w_iald (v := (iv 155) 2) is_155 ln_155 ⟨by omega, by omega⟩ rfl ?_
                  refine w_igt (fun h10 => ?_) (fun h10 => ?_)
                  · refine pz_G_of pz_b243_145 ?_
                    refine w_iinc (ls' := [some (.inr (.inl 154)), some (.inl x), some (.inl (c + 1)), some (.inl (f (100 * 0 + 10 * x + c).toNat)), some (.inl q), u67_5]) rfl rfl rfl (by omega) ?_
                    refine w_goto ?_
                    exact ih37 _ (by omega) (c + 1) v3 (some (.inl (f (100 * 0 + 10 * x + c).toNat))) rfl (some (.inl q)) rfl u67_5 hu67_5 rfl (by omega) (by rw [q_fr_s (by omega), ← hv2]; unfold q_rdC; first | rw [q_if_t (by omega)] | rw [q_if_f (by omega), hv3, show q = iv 155 2 + 1 by omega])
                  · refine w_pure rfl ?_
                    refine w_loc (ls' := [some (.inr (.inl 154)), some (.inl x), some (.inl c), some (.inl (f (100 * 0 + 10 * x + c).toNat)), some (.inl q), some (.inl 0)]) (st' := []) rfl ?_
                    refine w_nil ?_
                    have lp81 : ∀ (dd : Nat) (t : Int) (v4 : Nat → Int) , (10 - t).toNat = dd → ∀ (ht : 0 ≤ t ∧ t ≤ 10), ∀ (hv4 : v4 = q_fr (q_rdT f x c q) 0 t v3),  pz_G 243 81 [some (.inr (.inl 154)), some (.inl x), some (.inl c), some (.inl (f (100 * 0 + 10 * x + c).toNat)), some (.inl q), some (.inl t)] [] (pz_Sh L, pz_u1 (pz_u1 iv 158 v4) 159 f, dv, cc, ss) (pz_P (pz_Sh L) (.inl none) (pz_u1 (pz_u1 iv 158 (q_rd (iv 155) (q_c4 (iv 158) (iv 159)) (iv 158))) 159 (q_c4 (iv 158) (iv 159))) dv cc ss) := by
                      intro dd81
                      induction dd81 using Nat.strongRecOn with
                      | _ dd81 ih81 =>
                      intro t v4  hd81 ht hv4
                      have hw2 := fun h => hvf (100 * q + 10 * c + t).toNat h
                      refine pz_G_of pz_b243_81 ?_
                      refine w_loc rfl ?_
                      refine w_pure rfl ?_
                      refine w_ige (fun h11 => ?_) (fun h11 => ?_)
                      · refine pz_G_of pz_b243_139 ?_
                        refine w_iinc (ls' := [some (.inr (.inl 154)), some (.inl x), some (.inl c), some (.inl (f (100 * 0 + 10 * x + c).toNat)), some (.inl (q + 1)), some (.inl t)]) rfl rfl rfl (by omega) ?_
                        refine w_goto ?_
                        exact ih67 _ (by omega) (q + 1) v4 (some (.inl t)) rfl rfl (by omega) (by rw [q_fr_s (by omega), ← hv3, hv4, show t = 10 by omega]; rfl)
                      · refine w_loc rfl ?_
                        refine w_getR (q := 159) is_154 rf_154_6 ?_
                        refine w_loc rfl ?_
                        refine w_loc rfl ?_
                        refine w_loc rfl ?_
                        have hc12 : pz_R (pz_Sh L) 241 [.inl q, .inl c, .inl t] (pz_u1 (pz_u1 iv 158 v4) 159 f) (.inl (some (.inl (100 * q + 10 * c + t)))) (pz_u1 (pz_u1 iv 158 v4) 159 f) := s_X11_cell q c t (by show 0 ≤ q ∧ q ≤ 3; omega) (by show 0 ≤ c ∧ c ≤ 9; omega) (by show 0 ≤ t ∧ t ≤ 9; omega)
                        refine w_call hc12 rfl rfl ?_
                        refine w_iald (v := f (100 * q + 10 * c + t).toNat) is_159 ln_159 ⟨by omega, by omega⟩ rfl ?_
                        refine w_ldcv (v := 1000000) rfl ?_
                        refine w_ige (fun h13 => ?_) (fun h13 => ?_)
                        · refine pz_G_of pz_b243_133 ?_
                          refine w_iinc (ls' := [some (.inr (.inl 154)), some (.inl x), some (.inl c), some (.inl (f (100 * 0 + 10 * x + c).toNat)), some (.inl q), some (.inl (t + 1))]) rfl rfl rfl (by omega) ?_
                          refine w_goto ?_
                          exact ih81 _ (by omega) (t + 1) v4  rfl (by omega) (by rw [q_fr_s (by omega), ← hv4]; unfold q_rdT; first | rw [q_if_t (by omega)] | rw [q_if_f (by omega)])
                        · refine w_loc rfl ?_
                          refine w_loc rfl ?_
                          refine w_loc rfl ?_
                          refine w_loc rfl ?_
                          have hc14 : pz_R (pz_Sh L) 241 [.inl q, .inl x, .inl t] (pz_u1 (pz_u1 iv 158 v4) 159 f) (.inl (some (.inl (100 * q + 10 * x + t)))) (pz_u1 (pz_u1 iv 158 v4) 159 f) := s_X11_cell q x t (by show 0 ≤ q ∧ q ≤ 3; omega) (by show 0 ≤ x ∧ x ≤ 9; omega) (by show 0 ≤ t ∧ t ≤ 9; omega)
                          refine w_call hc14 rfl rfl ?_
                          refine w_loc rfl ?_
                          refine w_loc rfl ?_
                          refine w_getR (q := 159) is_154 rf_154_6 ?_
                          refine w_loc rfl ?_
                          refine w_loc rfl ?_
                          refine w_loc rfl ?_
                          have hc15 : pz_R (pz_Sh L) 241 [.inl q, .inl c, .inl t] (pz_u1 (pz_u1 iv 158 v4) 159 f) (.inl (some (.inl (100 * q + 10 * c + t)))) (pz_u1 (pz_u1 iv 158 v4) 159 f) := s_X11_cell q c t (by show 0 ≤ q ∧ q ≤ 3; omega) (by show 0 ≤ c ∧ c ≤ 9; omega) (by show 0 ≤ t ∧ t ≤ 9; omega)
                          refine w_call hc15 rfl rfl ?_
                          refine w_iald (v := f (100 * q + 10 * c + t).toNat) is_159 ln_159 ⟨by omega, by omega⟩ rfl ?_
                          refine w_iadd (by omega) ?_
                          have hc16 : pz_R (pz_Sh L) 242 [.inr (.inl 154), .inl (100 * q + 10 * x + t), .inl ((f (100 * 0 + 10 * x + c).toNat) + (f (100 * q + 10 * c + t).toNat))] (pz_u1 (pz_u1 iv 158 v4) 159 f) (.inl none) (pz_u1 (pz_u1 iv 158 (q_lw v4 (100 * q + 10 * x + t) ((f (100 * 0 + 10 * x + c).toNat) + (f (100 * q + 10 * c + t).toNat)))) 159 f) := pz_R_mem (s_X11_lowers (100 * q + 10 * x + t) ((f (100 * 0 + 10 * x + c).toNat) + (f (100 * q + 10 * c + t).toNat)) (by show 0 ≤ (100 * q + 10 * x + t) ∧ (100 * q + 10 * x + t) ≤ 399; omega)) (by rw [pz_u1_in (r := 158) (q := 159) (by decide)]; rw [pz_u1_top (r := 158)]; rfl)
                          refine w_callv hc16 rfl (pz_cokI is_154 rfl) ?_
                          refine w_nil ?_
                          refine pz_G_of pz_b243_133 ?_
                          refine w_iinc (ls' := [some (.inr (.inl 154)), some (.inl x), some (.inl c), some (.inl (f (100 * 0 + 10 * x + c).toNat)), some (.inl q), some (.inl (t + 1))]) rfl rfl rfl (by omega) ?_
                          refine w_goto ?_
                          exact ih81 _ (by omega) (t + 1) (q_lw v4 (100 * q + 10 * x + t) ((f (100 * 0 + 10 * x + c).toNat) + (f (100 * q + 10 * c + t).toNat)))  rfl (by omega) (by rw [q_fr_s (by omega), ← hv4]; unfold q_rdT; first | rw [q_if_t (by omega)] | rw [q_if_f (by omega)])
                    exact lp81 _ 0 v3  rfl (by omega) (by rw [q_fr_0 (by omega)])
                exact lp67 _ 0 v2 u37_5 hu37_5 rfl (by omega) (by rw [q_fr_0 (by omega)])
              · refine w_goto ?_
                refine pz_G_of pz_b243_145 ?_
                refine w_iinc (ls' := [some (.inr (.inl 154)), some (.inl x), some (.inl (c + 1)), some (.inl (f (100 * 0 + 10 * x + c).toNat)), u37_4, u37_5]) rfl rfl rfl (by omega) ?_
                refine w_goto ?_
                exact ih37 _ (by omega) (c + 1) v2 (some (.inl (f (100 * 0 + 10 * x + c).toNat))) rfl u37_4 hu37_4 u37_5 hu37_5 rfl (by omega) (by rw [q_fr_s (by omega), ← hv2]; unfold q_rdC; first | rw [q_if_t (by omega)] | rw [q_if_f (by omega), hv3, show q = iv 155 2 + 1 by omega])
          exact lp37 _ 0 v u29_3 hu29_3 u29_4 hu29_4 u29_5 hu29_5 rfl (by omega) (by rw [q_fr_0 (by omega)])
      exact lp29 _ 0 (iv 158) u2_2 hu2_2 u2_3 hu2_3 u2_4 hu2_4 u2_5 hu2_5 rfl (by omega) (by rw [q_fr_0 (by omega)])
    · refine w_loc rfl ?_
      refine w_getR (q := 159) is_154 rf_154_6 ?_
      refine w_loc rfl ?_
      refine w_loc rfl ?_
      refine w_getR (q := 158) is_154 rf_154_5 ?_
      refine w_loc rfl ?_
      refine w_iald (v := (iv 158) i.toNat) is_158 ln_158 ⟨by omega, by omega⟩ rfl ?_
      refine w_iastm (iv2 := pz_u1 (pz_u1 iv 158 (iv 158)) 159 (pz_up f i.toNat ((iv 158) i.toNat))) is_159 ln_159 ⟨by omega, by omega⟩ (by exact pz_u2_top _ _ _ _ _) ?_
      refine w_iinc (ls' := [some (.inr (.inl 154)), some (.inl (i + 1)), u2_2, u2_3, u2_4, u2_5]) rfl rfl rfl (by omega) ?_
      refine w_goto ?_
      exact ih2 _ (by omega) (i + 1) (pz_up f i.toNat ((iv 158) i.toNat)) u2_2 hu2_2 u2_3 hu2_3 u2_4 hu2_4 u2_5 hu2_5 rfl (by omega) (by intro j; rw [pz_up_at, hf j]; (repeat' split) <;> first | rfl | omega | (congr 1; omega))
  exact lp2 _ 0 (iv 159) (none) rfl (none) rfl (none) rfl (none) rfl rfl (by omega) (by intro j; rw [if_neg (by omega)])
