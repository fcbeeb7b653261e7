
theorem s_X11_plays {L : Nat} {iv : Nat → Nat → Int} (p : Int) (hk : q_KR (iv 155)) (hv : q_vl (iv 158)) : pz_R (pz_Sh L) 261 [.inr (.inl 154), .inl p] iv (.inl none) (pz_u1 iv 160 (q_pl (iv 158) (iv 155) p (iv 160))) := by
  intro dv cc ss
  have hk0 := hk.r0
  refine pz_G_mem (iv2 := pz_u1 iv 160 (iv 160)) (by exact (pz_u1_self iv 160).symm) ?_
  show pz_G 261 0 [some (.inr (.inl 154)), some (.inl p), none, none, none] [] (pz_Sh L, pz_u1 iv 160 (iv 160), dv, cc, ss) (pz_P (pz_Sh L) (.inl none) (pz_u1 iv 160 (q_pl (iv 158) (iv 155) p (iv 160))) dv cc ss)
  refine pz_G_of pz_b261_0 ?_
  refine w_pure rfl ?_
  refine w_loc (ls' := [some (.inr (.inl 154)), some (.inl p), some (.inl 0), none, none]) (st' := []) rfl ?_
  refine w_nil ?_
  have lp2 : ∀ (dd : Nat) (i : Int) (f : Nat → Int) (u2_3 : Option pz_V) (hu2_3 : pz_nc u2_3 = true) (u2_4 : Option pz_V) (hu2_4 : pz_nc u2_4 = true), (10 - i).toNat = dd → ∀ (hi : 0 ≤ i ∧ i ≤ 10), ∀ (hf : ∀ j : Nat, f j = if (j : Int) < i then -1 else iv 160 j),  pz_G 261 2 [some (.inr (.inl 154)), some (.inl p), some (.inl i), u2_3, u2_4] [] (pz_Sh L, pz_u1 iv 160 f, dv, cc, ss) (pz_P (pz_Sh L) (.inl none) (pz_u1 iv 160 (q_pl (iv 158) (iv 155) p (iv 160))) dv cc ss) := by
    intro dd2
    induction dd2 using Nat.strongRecOn with
    | _ dd2 ih2 =>
    intro i f u2_3 hu2_3 u2_4 hu2_4 hd2 hi hf
    refine pz_G_of pz_b261_2 ?_
    refine w_loc rfl ?_
    refine w_pure rfl ?_
    refine w_ige (fun h1 => ?_) (fun h1 => ?_)
    · refine pz_G_of pz_b261_21 ?_
      refine w_loc rfl ?_
      refine w_getR (q := 160) is_154 rf_154_9 ?_
      refine w_pure rfl ?_
      refine w_pure rfl ?_
      refine w_iastm (iv2 := pz_u1 iv 160 (pz_up f 0 0)) is_160 ln_160 ⟨by omega, by omega⟩ (by exact pz_u2_top _ _ _ _ _) ?_
      refine w_pure rfl ?_
      refine w_loc (ls' := [some (.inr (.inl 154)), some (.inl p), some (.inl 0), u2_3, u2_4]) (st' := []) rfl ?_
      refine w_nil ?_
      have lp30 : ∀ (dd : Nat) (m : Int) (a : Nat → Int) (u30_3 : Option pz_V) (hu30_3 : pz_nc u30_3 = true) (u30_4 : Option pz_V) (hu30_4 : pz_nc u30_4 = true), (601 - m).toNat = dd → ∀ (hm : 0 ≤ m ∧ m ≤ 601), ∀ (hA : a = q_fr (q_plS (iv 158) (iv 155) p) 0 m (q_a0 (iv 160))), ∀ (hal : q_al a),  pz_G 261 30 [some (.inr (.inl 154)), some (.inl p), some (.inl m), u30_3, u30_4] [] (pz_Sh L, pz_u1 iv 160 a, dv, cc, ss) (pz_P (pz_Sh L) (.inl none) (pz_u1 iv 160 (q_pl (iv 158) (iv 155) p (iv 160))) dv cc ss) := by
        intro dd30
        induction dd30 using Nat.strongRecOn with
        | _ dd30 ih30 =>
        intro m a u30_3 hu30_3 u30_4 hu30_4 hd30 hm hA hal
        refine pz_G_of pz_b261_30 ?_
        refine w_loc rfl ?_
        refine w_pure rfl ?_
        refine w_igt (fun h2 => ?_) (fun h2 => ?_)
        · refine pz_G_of pz_b261_175 ?_
          refine w_vret ?_
          exact lf_v (by rw [show a = q_pl (iv 158) (iv 155) p (iv 160) from q_pl_e hm hA (by first | exact Or.inl (by omega) | exact Or.inr (by assumption))])
        · refine w_loc rfl ?_
          have hc3 : pz_R (pz_Sh L) 260 [.inr (.inl 154)] (pz_u1 iv 160 a) (.inl (some (.inl (pz_bi (q_aa (iv 155) a))))) (pz_u1 iv 160 a) := s_X11_areAll (by show q_KR (iv 155); exact hk)
          refine w_call hc3 rfl (pz_cokI is_154 rfl) ?_
          refine w_bne (fun h4 => ?_) (fun h4 => ?_)
          · refine pz_G_of pz_b261_175 ?_
            refine w_vret ?_
            exact lf_v (by rw [show a = q_pl (iv 158) (iv 155) p (iv 160) from q_pl_e hm hA (by first | exact Or.inl (by omega) | exact Or.inr (by assumption))])
          · refine w_pure rfl ?_
            refine w_loc (ls' := [some (.inr (.inl 154)), some (.inl p), some (.inl m), some (.inl 0), u30_4]) (st' := []) rfl ?_
            refine w_nil ?_
            have lp46 : ∀ (dd : Nat) (s : Int) (b : Nat → Int) (u46_4 : Option pz_V) (hu46_4 : pz_nc u46_4 = true), (iv 155 2 - s).toNat = dd → ∀ (hs : 0 ≤ s ∧ s ≤ iv 155 2), ∀ (hb : b = q_fr (q_enS (iv 155) p m) 0 s a), ∀ (halb : q_al b),  pz_G 261 46 [some (.inr (.inl 154)), some (.inl p), some (.inl m), some (.inl s), u46_4] [] (pz_Sh L, pz_u1 iv 160 b, dv, cc, ss) (pz_P (pz_Sh L) (.inl none) (pz_u1 iv 160 (q_pl (iv 158) (iv 155) p (iv 160))) dv cc ss) := by
              intro dd46
              induction dd46 using Nat.strongRecOn with
              | _ dd46 ih46 =>
              intro s b u46_4 hu46_4 hd46 hs hb halb
              have hsp := fun h => hk.sp hs.1 h
              have hb1 := fun h1 h2 => halb (iv 155 (212 + 4 * s + 1).toNat) h1 h2
              have hb2 := fun h1 h2 => halb (iv 155 (212 + 4 * s).toNat) h1 h2
              refine pz_G_of pz_b261_46 ?_
              refine w_loc rfl ?_
              refine w_loc rfl ?_
              refine w_getR (q := 155) is_154 rf_154_1 ?_
              refine w_pure rfl ?_
              refine w_iald (v := (iv 155) 2) is_155 ln_155 ⟨by omega, by omega⟩ rfl ?_
              refine w_ige (fun h5 => ?_) (fun h5 => ?_)
              · refine pz_G_of pz_b261_142 ?_
                refine w_loc rfl ?_
                refine w_loc rfl ?_
                have hc6 : pz_R (pz_Sh L) 259 [.inr (.inl 154), .inl m] (pz_u1 iv 160 b) (.inl (some (.inl (q_nxt (iv 158) (iv 155) m b)))) (pz_u1 iv 160 b) := s_X11_next_f m (by show q_KR (iv 155); exact hk) (by show 0 ≤ m ∧ m ≤ 1000; omega) (by show q_vl (iv 158); exact hv) (by show q_al b; first | exact halb | exact q_al_up halc (by omega) (by omega))
                refine w_call hc6 rfl (pz_cokI is_154 rfl) ?_
                refine w_loc (ls' := [some (.inr (.inl 154)), some (.inl p), some (.inl m), some (.inl (q_nxt (iv 158) (iv 155) m b)), u46_4]) (st' := []) rfl ?_
                refine w_nil ?_
                have lp148 : ∀ (dd : Nat) (e : Int) (n : Int) (c : Nat → Int) (u148_4 : Option pz_V) (hu148_4 : pz_nc u148_4 = true), (10 - n).toNat = dd → ∀ (hn : 0 ≤ n ∧ n + q_un0 c (iv 155 0) ≤ 10), ∀ (hc : c = q_sts (iv 158) (iv 155) m n (q_fr (q_enS (iv 155) p m) 0 (iv 155 2) a)), ∀ (he : e = q_nxt (iv 158) (iv 155) m c), ∀ (halc : q_al c),  pz_G 261 148 [some (.inr (.inl 154)), some (.inl p), some (.inl m), some (.inl e), u148_4] [] (pz_Sh L, pz_u1 iv 160 c, dv, cc, ss) (pz_P (pz_Sh L) (.inl none) (pz_u1 iv 160 (q_pl (iv 158) (iv 155) p (iv 160))) dv cc ss) := by
                  intro dd148
                  induction dd148 using Nat.strongRecOn with
                  | _ dd148 ih148 =>
                  intro e n c u148_4 hu148_4 hd148 hn hc he halc
                  have hr : e ≠ -1 → 0 ≤ e ∧ e < iv 155 0 ∧ c e.toNat = -1 := by
                    rw [he]
                    exact fun h => q_nxt_r hk h
                  have hu : e ≠ -1 → q_un0 (pz_up c e.toNat m) (iv 155 0) = q_un0 c (iv 155 0) - 1 := fun h => q_un0_s (hr h).1 (hr h).2.1 (hr h).2.2 (by omega)
                  have hu0 : 0 ≤ q_un0 (pz_up c e.toNat m) (iv 155 0) := (q_cnt_r _ (by omega)).1
                  have hu1 : 0 ≤ q_un0 c (iv 155 0) := (q_cnt_r _ (by omega)).1
                  refine pz_G_of pz_b261_148 ?_
                  refine w_loc rfl ?_
                  refine w_pure rfl ?_
                  refine w_ieq (fun h7 => ?_) (fun h7 => ?_)
                  · refine pz_G_of pz_b261_169 ?_
                    refine w_iinc (ls' := [some (.inr (.inl 154)), some (.inl p), some (.inl (m + 1)), some (.inl e), u148_4]) rfl rfl rfl (by omega) ?_
                    refine w_goto ?_
                    exact ih30 _ (by omega) (m + 1) c (some (.inl e)) rfl u148_4 hu148_4 rfl (by omega) (by rw [q_fr_s (by omega), ← hA]; unfold q_plS; rw [q_if_f (by assumption)]; exact q_sts_e ⟨hn.1, by omega⟩ hc (by rw [← he]; omega)) (by exact halc)
                  · refine w_loc rfl ?_
                    refine w_getR (q := 160) is_154 rf_154_9 ?_
                    refine w_loc rfl ?_
                    refine w_loc rfl ?_
                    refine w_iastm (iv2 := pz_u1 iv 160 (pz_up c e.toNat m)) is_160 ln_160 ⟨by omega, by omega⟩ (by exact pz_u2_top _ _ _ _ _) ?_
                    refine w_loc rfl ?_
                    refine w_loc rfl ?_
                    have hc8 : pz_R (pz_Sh L) 259 [.inr (.inl 154), .inl m] (pz_u1 iv 160 (pz_up c e.toNat m)) (.inl (some (.inl (q_nxt (iv 158) (iv 155) m (pz_up c e.toNat m))))) (pz_u1 iv 160 (pz_up c e.toNat m)) := s_X11_next_f m (by show q_KR (iv 155); exact hk) (by show 0 ≤ m ∧ m ≤ 1000; omega) (by show q_vl (iv 158); exact hv) (by show q_al (pz_up c e.toNat m); first | exact halb | exact q_al_up halc (by omega) (by omega))
                    refine w_call hc8 rfl (pz_cokI is_154 rfl) ?_
                    refine w_loc (ls' := [some (.inr (.inl 154)), some (.inl p), some (.inl m), some (.inl (q_nxt (iv 158) (iv 155) m (pz_up c e.toNat m))), u148_4]) (st' := []) rfl ?_
                    refine w_goto ?_
                    exact ih148 _ (by omega) (q_nxt (iv 158) (iv 155) m (pz_up c e.toNat m)) (n + 1) (pz_up c e.toNat m) u148_4 hu148_4 rfl (by omega) (by rw [he]; exact q_sts_s hn.1 hc (by rw [← he]; assumption)) (by rfl) (by exact q_al_up halc (by omega) (by omega))
                exact lp148 _ (q_nxt (iv 158) (iv 155) m b) 0 b u46_4 hu46_4 rfl (by have hu9 : q_un0 b (iv 155 0) ≤ iv 155 0 := (q_cnt_r _ (by omega)).2; omega) (by rw [hb, show s = iv 155 2 by omega]; exact (q_fr_0 (by omega)).symm) (by rfl) (by exact halb)
              · refine w_loc rfl ?_
                refine w_loc rfl ?_
                refine w_ishr ?_
                refine w_pure rfl ?_
                refine w_iand ?_
                refine w_pure rfl ?_
                refine w_ine (fun h9 => ?_) (fun h9 => ?_)
                · refine pz_G_of pz_b261_73 ?_
                  refine w_loc rfl ?_
                  refine w_loc rfl ?_
                  have hc10 : pz_R (pz_Sh L) 208 [.inr (.inl 154), .inl s] (pz_u1 iv 160 b) (.inl (some (.inl ((iv 155) (212 + 4 * s + 2).toNat)))) (pz_u1 iv 160 b) := s_X11_least s (by show 0 ≤ s ∧ s ≤ 2; omega)
                  refine w_call hc10 rfl (pz_cokI is_154 rfl) ?_
                  refine w_nil ?_
                  refine pz_G_of pz_b261_78 ?_
                  refine w_loc (ls' := [some (.inr (.inl 154)), some (.inl p), some (.inl m), some (.inl s), some (.inl ((iv 155) (212 + 4 * s + 2).toNat))]) (st' := []) rfl ?_
                  refine w_loc rfl ?_
                  refine w_getR (q := 160) is_154 rf_154_9 ?_
                  refine w_loc rfl ?_
                  refine w_loc rfl ?_
                  have hc11 : pz_R (pz_Sh L) 207 [.inr (.inl 154), .inl s] (pz_u1 iv 160 b) (.inl (some (.inl ((iv 155) (212 + 4 * s + 1).toNat)))) (pz_u1 iv 160 b) := s_X11_endOf s (by show 0 ≤ s ∧ s ≤ 2; omega)
                  refine w_call hc11 rfl (pz_cokI is_154 rfl) ?_
                  refine w_iald (v := b ((iv 155) (212 + 4 * s + 1).toNat).toNat) is_160 ln_160 ⟨by omega, by omega⟩ rfl ?_
                  refine w_pure rfl ?_
                  refine w_ine (fun h12 => ?_) (fun h12 => ?_)
                  · refine pz_G_of pz_b261_136 ?_
                    refine w_iinc (ls' := [some (.inr (.inl 154)), some (.inl p), some (.inl m), some (.inl (s + 1)), some (.inl ((iv 155) (212 + 4 * s + 2).toNat))]) rfl rfl rfl (by omega) ?_
                    refine w_goto ?_
                    exact ih46 _ (by omega) (s + 1) b (some (.inl ((iv 155) (212 + 4 * s + 2).toNat))) rfl rfl (by omega) (by rw [q_fr_s (by omega), ← hb]; unfold q_enS; (first | rw [q_if_t (p := q_up p s) (by omega)] | rw [q_if_f (p := q_up p s) (by omega)]); first | rw [q_if_t (by omega)] | rw [q_if_f (by omega)]) (by first | exact halb | exact q_al_up halb (by omega) (by omega))
                  · refine w_loc rfl ?_
                    refine w_getR (q := 160) is_154 rf_154_9 ?_
                    refine w_loc rfl ?_
                    refine w_loc rfl ?_
                    have hc13 : pz_R (pz_Sh L) 206 [.inr (.inl 154), .inl s] (pz_u1 iv 160 b) (.inl (some (.inl ((iv 155) (212 + 4 * s).toNat)))) (pz_u1 iv 160 b) := s_X11_first s (by show 0 ≤ s ∧ s ≤ 2; omega)
                    refine w_call hc13 rfl (pz_cokI is_154 rfl) ?_
                    refine w_iald (v := b ((iv 155) (212 + 4 * s).toNat).toNat) is_160 ln_160 ⟨by omega, by omega⟩ rfl ?_
                    refine w_pure rfl ?_
                    refine w_ieq (fun h14 => ?_) (fun h14 => ?_)
                    · refine pz_G_of pz_b261_136 ?_
                      refine w_iinc (ls' := [some (.inr (.inl 154)), some (.inl p), some (.inl m), some (.inl (s + 1)), some (.inl ((iv 155) (212 + 4 * s + 2).toNat))]) rfl rfl rfl (by omega) ?_
                      refine w_goto ?_
                      exact ih46 _ (by omega) (s + 1) b (some (.inl ((iv 155) (212 + 4 * s + 2).toNat))) rfl rfl (by omega) (by rw [q_fr_s (by omega), ← hb]; unfold q_enS; (first | rw [q_if_t (p := q_up p s) (by omega)] | rw [q_if_f (p := q_up p s) (by omega)]); first | rw [q_if_t (by omega)] | rw [q_if_f (by omega)]) (by first | exact halb | exact q_al_up halb (by omega) (by omega))
                    · refine w_loc rfl ?_
                      refine w_loc rfl ?_
                      refine w_getR (q := 160) is_154 rf_154_9 ?_
                      refine w_loc rfl ?_
                      refine w_loc rfl ?_
                      have hc15 : pz_R (pz_Sh L) 206 [.inr (.inl 154), .inl s] (pz_u1 iv 160 b) (.inl (some (.inl ((iv 155) (212 + 4 * s).toNat)))) (pz_u1 iv 160 b) := s_X11_first s (by show 0 ≤ s ∧ s ≤ 2; omega)
                      refine w_call hc15 rfl (pz_cokI is_154 rfl) ?_
                      refine w_iald (v := b ((iv 155) (212 + 4 * s).toNat).toNat) is_160 ln_160 ⟨by omega, by omega⟩ rfl ?_
                      refine w_isub (by omega) ?_
                      refine w_loc rfl ?_
                      refine w_ine (fun h16 => ?_) (fun h16 => ?_)
                      · refine pz_G_of pz_b261_136 ?_
                        refine w_iinc (ls' := [some (.inr (.inl 154)), some (.inl p), some (.inl m), some (.inl (s + 1)), some (.inl ((iv 155) (212 + 4 * s + 2).toNat))]) rfl rfl rfl (by omega) ?_
                        refine w_goto ?_
                        exact ih46 _ (by omega) (s + 1) b (some (.inl ((iv 155) (212 + 4 * s + 2).toNat))) rfl rfl (by omega) (by rw [q_fr_s (by omega), ← hb]; unfold q_enS; (first | rw [q_if_t (p := q_up p s) (by omega)] | rw [q_if_f (p := q_up p s) (by omega)]); first | rw [q_if_t (by omega)] | rw [q_if_f (by omega)]) (by first | exact halb | exact q_al_up halb (by omega) (by omega))
                      · refine w_loc rfl ?_
                        refine w_getR (q := 160) is_154 rf_154_9 ?_
                        refine w_loc rfl ?_
                        refine w_loc rfl ?_
                        have hc17 : pz_R (pz_Sh L) 207 [.inr (.inl 154), .inl s] (pz_u1 iv 160 b) (.inl (some (.inl ((iv 155) (212 + 4 * s + 1).toNat)))) (pz_u1 iv 160 b) := s_X11_endOf s (by show 0 ≤ s ∧ s ≤ 2; omega)
                        refine w_call hc17 rfl (pz_cokI is_154 rfl) ?_
                        refine w_loc rfl ?_
                        refine w_iastm (iv2 := pz_u1 iv 160 (pz_up b ((iv 155) (212 + 4 * s + 1).toNat).toNat m)) is_160 ln_160 ⟨by omega, by omega⟩ (by exact pz_u2_top _ _ _ _ _) ?_
                        refine w_nil ?_
                        refine pz_G_of pz_b261_136 ?_
                        refine w_iinc (ls' := [some (.inr (.inl 154)), some (.inl p), some (.inl m), some (.inl (s + 1)), some (.inl ((iv 155) (212 + 4 * s + 2).toNat))]) rfl rfl rfl (by omega) ?_
                        refine w_goto ?_
                        exact ih46 _ (by omega) (s + 1) (pz_up b ((iv 155) (212 + 4 * s + 1).toNat).toNat m) (some (.inl ((iv 155) (212 + 4 * s + 2).toNat))) rfl rfl (by omega) (by rw [q_fr_s (by omega), ← hb]; unfold q_enS; (first | rw [q_if_t (p := q_up p s) (by omega)] | rw [q_if_f (p := q_up p s) (by omega)]); first | rw [q_if_t (by omega)] | rw [q_if_f (by omega)]) (by first | exact halb | exact q_al_up halb (by omega) (by omega))
                · refine w_loc rfl ?_
                  refine w_loc rfl ?_
                  have hc18 : pz_R (pz_Sh L) 209 [.inr (.inl 154), .inl s] (pz_u1 iv 160 b) (.inl (some (.inl ((iv 155) (212 + 4 * s + 3).toNat)))) (pz_u1 iv 160 b) := s_X11_greatest s (by show 0 ≤ s ∧ s ≤ 2; omega)
                  refine w_call hc18 rfl (pz_cokI is_154 rfl) ?_
                  refine w_goto ?_
                  refine pz_G_of pz_b261_78 ?_
                  refine w_loc (ls' := [some (.inr (.inl 154)), some (.inl p), some (.inl m), some (.inl s), some (.inl ((iv 155) (212 + 4 * s + 3).toNat))]) (st' := []) rfl ?_
                  refine w_loc rfl ?_
                  refine w_getR (q := 160) is_154 rf_154_9 ?_
                  refine w_loc rfl ?_
                  refine w_loc rfl ?_
                  have hc19 : pz_R (pz_Sh L) 207 [.inr (.inl 154), .inl s] (pz_u1 iv 160 b) (.inl (some (.inl ((iv 155) (212 + 4 * s + 1).toNat)))) (pz_u1 iv 160 b) := s_X11_endOf s (by show 0 ≤ s ∧ s ≤ 2; omega)
                  refine w_call hc19 rfl (pz_cokI is_154 rfl) ?_
                  refine w_iald (v := b ((iv 155) (212 + 4 * s + 1).toNat).toNat) is_160 ln_160 ⟨by omega, by omega⟩ rfl ?_
                  refine w_pure rfl ?_
                  refine w_ine (fun h20 => ?_) (fun h20 => ?_)
                  · refine pz_G_of pz_b261_136 ?_
                    refine w_iinc (ls' := [some (.inr (.inl 154)), some (.inl p), some (.inl m), some (.inl (s + 1)), some (.inl ((iv 155) (212 + 4 * s + 3).toNat))]) rfl rfl rfl (by omega) ?_
                    refine w_goto ?_
                    exact ih46 _ (by omega) (s + 1) b (some (.inl ((iv 155) (212 + 4 * s + 3).toNat))) rfl rfl (by omega) (by rw [q_fr_s (by omega), ← hb]; unfold q_enS; (first | rw [q_if_t (p := q_up p s) (by omega)] | rw [q_if_f (p := q_up p s) (by omega)]); first | rw [q_if_t (by omega)] | rw [q_if_f (by omega)]) (by first | exact halb | exact q_al_up halb (by omega) (by omega))
                  · refine w_loc rfl ?_
                    refine w_getR (q := 160) is_154 rf_154_9 ?_
                    refine w_loc rfl ?_
                    refine w_loc rfl ?_
                    have hc21 : pz_R (pz_Sh L) 206 [.inr (.inl 154), .inl s] (pz_u1 iv 160 b) (.inl (some (.inl ((iv 155) (212 + 4 * s).toNat)))) (pz_u1 iv 160 b) := s_X11_first s (by show 0 ≤ s ∧ s ≤ 2; omega)
                    refine w_call hc21 rfl (pz_cokI is_154 rfl) ?_
                    refine w_iald (v := b ((iv 155) (212 + 4 * s).toNat).toNat) is_160 ln_160 ⟨by omega, by omega⟩ rfl ?_
                    refine w_pure rfl ?_
                    refine w_ieq (fun h22 => ?_) (fun h22 => ?_)
                    · refine pz_G_of pz_b261_136 ?_
                      refine w_iinc (ls' := [some (.inr (.inl 154)), some (.inl p), some (.inl m), some (.inl (s + 1)), some (.inl ((iv 155) (212 + 4 * s + 3).toNat))]) rfl rfl rfl (by omega) ?_
                      refine w_goto ?_
                      exact ih46 _ (by omega) (s + 1) b (some (.inl ((iv 155) (212 + 4 * s + 3).toNat))) rfl rfl (by omega) (by rw [q_fr_s (by omega), ← hb]; unfold q_enS; (first | rw [q_if_t (p := q_up p s) (by omega)] | rw [q_if_f (p := q_up p s) (by omega)]); first | rw [q_if_t (by omega)] | rw [q_if_f (by omega)]) (by first | exact halb | exact q_al_up halb (by omega) (by omega))
                    · refine w_loc rfl ?_
                      refine w_loc rfl ?_
                      refine w_getR (q := 160) is_154 rf_154_9 ?_
                      refine w_loc rfl ?_
                      refine w_loc rfl ?_
                      have hc23 : pz_R (pz_Sh L) 206 [.inr (.inl 154), .inl s] (pz_u1 iv 160 b) (.inl (some (.inl ((iv 155) (212 + 4 * s).toNat)))) (pz_u1 iv 160 b) := s_X11_first s (by show 0 ≤ s ∧ s ≤ 2; omega)
                      refine w_call hc23 rfl (pz_cokI is_154 rfl) ?_
                      refine w_iald (v := b ((iv 155) (212 + 4 * s).toNat).toNat) is_160 ln_160 ⟨by omega, by omega⟩ rfl ?_
                      refine w_isub (by omega) ?_
                      refine w_loc rfl ?_
                      refine w_ine (fun h24 => ?_) (fun h24 => ?_)
                      · refine pz_G_of pz_b261_136 ?_
                        refine w_iinc (ls' := [some (.inr (.inl 154)), some (.inl p), some (.inl m), some (.inl (s + 1)), some (.inl ((iv 155) (212 + 4 * s + 3).toNat))]) rfl rfl rfl (by omega) ?_
                        refine w_goto ?_
                        exact ih46 _ (by omega) (s + 1) b (some (.inl ((iv 155) (212 + 4 * s + 3).toNat))) rfl rfl (by omega) (by rw [q_fr_s (by omega), ← hb]; unfold q_enS; (first | rw [q_if_t (p := q_up p s) (by omega)] | rw [q_if_f (p := q_up p s) (by omega)]); first | rw [q_if_t (by omega)] | rw [q_if_f (by omega)]) (by first | exact halb | exact q_al_up halb (by omega) (by omega))
                      · refine w_loc rfl ?_
                        refine w_getR (q := 160) is_154 rf_154_9 ?_
                        refine w_loc rfl ?_
                        refine w_loc rfl ?_
                        have hc25 : pz_R (pz_Sh L) 207 [.inr (.inl 154), .inl s] (pz_u1 iv 160 b) (.inl (some (.inl ((iv 155) (212 + 4 * s + 1).toNat)))) (pz_u1 iv 160 b) := s_X11_endOf s (by show 0 ≤ s ∧ s ≤ 2; omega)
                        refine w_call hc25 rfl (pz_cokI is_154 rfl) ?_
                        refine w_loc rfl ?_
                        refine w_iastm (iv2 := pz_u1 iv 160 (pz_up b ((iv 155) (212 + 4 * s + 1).toNat).toNat m)) is_160 ln_160 ⟨by omega, by omega⟩ (by exact pz_u2_top _ _ _ _ _) ?_
                        refine w_nil ?_
                        refine pz_G_of pz_b261_136 ?_
                        refine w_iinc (ls' := [some (.inr (.inl 154)), some (.inl p), some (.inl m), some (.inl (s + 1)), some (.inl ((iv 155) (212 + 4 * s + 3).toNat))]) rfl rfl rfl (by omega) ?_
                        refine w_goto ?_
                        exact ih46 _ (by omega) (s + 1) (pz_up b ((iv 155) (212 + 4 * s + 1).toNat).toNat m) (some (.inl ((iv 155) (212 + 4 * s + 3).toNat))) rfl rfl (by omega) (by rw [q_fr_s (by omega), ← hb]; unfold q_enS; (first | rw [q_if_t (p := q_up p s) (by omega)] | rw [q_if_f (p := q_up p s) (by omega)]); first | rw [q_if_t (by omega)] | rw [q_if_f (by omega)]) (by first | exact halb | exact q_al_up halb (by omega) (by omega))
            exact lp46 _ 0 a u30_4 hu30_4 rfl (by omega) (by rw [q_fr_0 (by omega)]) (by exact hal)
      exact lp30 _ 0 (pz_up f 0 0) u2_3 hu2_3 u2_4 hu2_4 rfl (by omega) (by rw [q_fr_0 (by omega)]; funext j; rw [pz_up_at, hf j]; unfold q_a0; (repeat' split) <;> first | rfl | omega) (by intro e g1 g2; rw [pz_up_at, hf]; (repeat' split) <;> omega)
    · refine w_loc rfl ?_
      refine w_getR (q := 160) is_154 rf_154_9 ?_
      refine w_loc rfl ?_
      refine w_pure rfl ?_
      refine w_iastm (iv2 := pz_u1 iv 160 (pz_up f i.toNat (-1))) is_160 ln_160 ⟨by omega, by omega⟩ (by exact pz_u2_top _ _ _ _ _) ?_
      refine w_iinc (ls' := [some (.inr (.inl 154)), some (.inl p), some (.inl (i + 1)), u2_3, u2_4]) rfl rfl rfl (by omega) ?_
      refine w_goto ?_
      exact ih2 _ (by omega) (i + 1) (pz_up f i.toNat (-1)) u2_3 hu2_3 u2_4 hu2_4 rfl (by omega) (by intro j; rw [pz_up_at, hf j]; (repeat' split) <;> first | rfl | omega)
  exact lp2 _ 0 (iv 160) (none) rfl (none) rfl rfl (by omega) (by intro j; rw [if_neg (by omega)])
