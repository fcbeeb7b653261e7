
theorem s_X11_failureOf {L : Nat} {iv : Nat → Nat → Int} (p : Int) (hk : q_KR (iv 155)) (hv : q_vl (iv 158)) : pz_R (pz_Sh L) 262 [.inr (.inl 154), .inl p] iv (.inl (some (.inl (q_fl (iv 158) (iv 155) p (iv 160))))) (pz_u1 iv 160 (q_pl (iv 158) (iv 155) p (iv 160))) := by
  intro dv cc ss
  have hk0 := hk.r0
  refine pz_G_mem (iv2 := pz_u1 iv 160 (iv 160)) (by exact (pz_u1_self iv 160).symm) ?_
  show pz_G 262 0 [some (.inr (.inl 154)), some (.inl p), none, none] [] (pz_Sh L, pz_u1 iv 160 (iv 160), dv, cc, ss) (pz_P (pz_Sh L) (.inl (some (.inl (q_fl (iv 158) (iv 155) p (iv 160))))) (pz_u1 iv 160 (q_pl (iv 158) (iv 155) p (iv 160))) dv cc ss)
  refine pz_G_of pz_b262_0 ?_
  refine w_loc rfl ?_
  refine w_loc rfl ?_
  have hc1 : pz_R (pz_Sh L) 261 [.inr (.inl 154), .inl p] (pz_u1 iv 160 (iv 160)) (.inl none) (pz_u1 iv 160 (q_pl (iv 158) (iv 155) p (iv 160))) := pz_R_mem (s_X11_plays p (by show q_KR (iv 155); exact hk) (by show q_vl (iv 158); exact hv)) (by rw [pz_u1_top (r := 160)]; rfl)
  refine w_callv hc1 rfl (pz_cokI is_154 rfl) ?_
  refine w_loc rfl ?_
  have hc2 : pz_R (pz_Sh L) 260 [.inr (.inl 154)] (pz_u1 iv 160 (q_pl (iv 158) (iv 155) p (iv 160))) (.inl (some (.inl (pz_bi (q_aa (iv 155) (q_pl (iv 158) (iv 155) p (iv 160))))))) (pz_u1 iv 160 (q_pl (iv 158) (iv 155) p (iv 160))) := s_X11_areAll (by show q_KR (iv 155); exact hk)
  refine w_call hc2 rfl (pz_cokI is_154 rfl) ?_
  refine w_bne (fun h3 => ?_) (fun h3 => ?_)
  · refine pz_G_of pz_b262_15 ?_
    refine w_pure rfl ?_
    refine w_loc (ls' := [some (.inr (.inl 154)), some (.inl p), some (.inl 1), none]) (st' := []) rfl ?_
    refine w_pure rfl ?_
    refine w_loc (ls' := [some (.inr (.inl 154)), some (.inl p), some (.inl 1), some (.inl 0)]) (st' := []) rfl ?_
    refine w_nil ?_
    have lp19 : ∀ (dd : Nat) (z : Int) (b : Int) , (iv 155 1 - b).toNat = dd → ∀ (hb : 0 ≤ b ∧ b ≤ iv 155 1), ∀ (hz : z = pz_bi (q_all (q_kpP (iv 155) (q_pl (iv 158) (iv 155) p (iv 160))) b)),  pz_G 262 19 [some (.inr (.inl 154)), some (.inl p), some (.inl z), some (.inl b)] [] (pz_Sh L, pz_u1 iv 160 (q_pl (iv 158) (iv 155) p (iv 160)), dv, cc, ss) (pz_P (pz_Sh L) (.inl (some (.inl (q_fl (iv 158) (iv 155) p (iv 160))))) (pz_u1 iv 160 (q_pl (iv 158) (iv 155) p (iv 160))) dv cc ss) := by
      intro dd19
      induction dd19 using Nat.strongRecOn with
      | _ dd19 ih19 =>
      intro z b  hd19 hb hz
      have hbr := fun h => hk.bd hb.1 h
      have hal := q_pl_al (v := iv 158) (p := p) (a := iv 160) hk
      have hb1 := fun h1 h2 => hal (iv 155 (52 + 4 * b).toNat) h1 h2
      have hb2 := fun h1 h2 => hal (iv 155 (52 + 4 * b + 1).toNat) h1 h2
      refine pz_G_of pz_b262_19 ?_
      refine w_loc rfl ?_
      refine w_loc rfl ?_
      refine w_getR (q := 155) is_154 rf_154_1 ?_
      refine w_pure rfl ?_
      refine w_iald (v := (iv 155) 1) is_155 ln_155 ⟨by omega, by omega⟩ rfl ?_
      refine w_ige (fun h4 => ?_) (fun h4 => ?_)
      · have hz9 : z = pz_bi (q_all (q_kpP (iv 155) (q_pl (iv 158) (iv 155) p (iv 160))) (iv 155 1)) := by
          rw [hz, show b = iv 155 1 by omega]
        refine pz_G_of pz_b262_104 ?_
        refine w_loc rfl ?_
        refine w_zeq (fun h5 => ?_) (fun h5 => ?_)
        · refine pz_G_of pz_b262_113 ?_
          refine w_pure rfl ?_
          refine w_nil ?_
          refine pz_G_of pz_b262_115 ?_
          refine w_ret (pz_rok2 (by omega)) ?_
          exact lf_i (by unfold q_fl; first | rw [q_if_f (by assumption)] | (rw [q_if_t (by assumption)]; first | rw [q_if_t (pz_bi_ne (by rw [← hz9]; assumption))] | rw [q_if_f (pz_bi_eq (by rw [← hz9]; assumption))])) rfl
        · refine w_pure rfl ?_
          refine w_goto ?_
          refine pz_G_of pz_b262_115 ?_
          refine w_ret (pz_rok2 (by omega)) ?_
          exact lf_i (by unfold q_fl; first | rw [q_if_f (by assumption)] | (rw [q_if_t (by assumption)]; first | rw [q_if_t (pz_bi_ne (by rw [← hz9]; assumption))] | rw [q_if_f (pz_bi_eq (by rw [← hz9]; assumption))])) rfl
      · refine w_loc rfl ?_
        refine w_zeq (fun h6 => ?_) (fun h6 => ?_)
        · refine pz_G_of pz_b262_96 ?_
          refine w_pure rfl ?_
          refine w_nil ?_
          refine pz_G_of pz_b262_97 ?_
          refine w_loc (ls' := [some (.inr (.inl 154)), some (.inl p), some (.inl 0), some (.inl b)]) (st' := []) rfl ?_
          refine w_iinc (ls' := [some (.inr (.inl 154)), some (.inl p), some (.inl 0), some (.inl (b + 1))]) rfl rfl rfl (by omega) ?_
          refine w_goto ?_
          exact ih19 _ (by omega) 0 (b + 1)  rfl (by omega) (by first | (exfalso; omega) | exact q_all_f1 hz (by omega) (by omega) | exact q_all_t hz (by omega) (by omega) (by omega) | exact q_all_f2 (by omega) (by omega))
        · refine w_loc rfl ?_
          refine w_loc rfl ?_
          have hc7 : pz_R (pz_Sh L) 203 [.inr (.inl 154), .inl b] (pz_u1 iv 160 (q_pl (iv 158) (iv 155) p (iv 160))) (.inl (some (.inl (pz_bi (q_hld (iv 155) b))))) (pz_u1 iv 160 (q_pl (iv 158) (iv 155) p (iv 160))) := s_X11_holds b (by show 0 ≤ b ∧ b ≤ 39; omega) (by show (-4 ≤ (iv 155) (52 + 4 * b + 3).toNat ∧ (iv 155) (52 + 4 * b + 3).toNat ≤ 4) ∨ (iv 155) (52 + 4 * b + 3).toNat = 99; omega)
          refine w_call hc7 rfl (pz_cokI is_154 rfl) ?_
          refine w_beq (fun h8 => ?_) (fun h8 => ?_)
          · refine pz_G_of pz_b262_92 ?_
            refine w_pure rfl ?_
            refine w_goto ?_
            refine pz_G_of pz_b262_97 ?_
            refine w_loc (ls' := [some (.inr (.inl 154)), some (.inl p), some (.inl 1), some (.inl b)]) (st' := []) rfl ?_
            refine w_iinc (ls' := [some (.inr (.inl 154)), some (.inl p), some (.inl 1), some (.inl (b + 1))]) rfl rfl rfl (by omega) ?_
            refine w_goto ?_
            exact ih19 _ (by omega) 1 (b + 1)  rfl (by omega) (by first | (exfalso; omega) | exact q_all_f1 hz (by omega) (by omega) | exact q_all_t hz (by omega) (by omega) (by omega) | exact q_all_f2 (by omega) (by omega))
          · refine w_loc rfl ?_
            refine w_getR (q := 160) is_154 rf_154_9 ?_
            refine w_loc rfl ?_
            refine w_getR (q := 155) is_154 rf_154_1 ?_
            refine w_pure rfl ?_
            refine w_pure rfl ?_
            refine w_loc rfl ?_
            refine w_imul (by omega) ?_
            refine w_iadd (by omega) ?_
            refine w_pure rfl ?_
            refine w_iadd (by omega) ?_
            refine w_iald (v := (iv 155) ((52 + (4 * b)) + 1).toNat) is_155 ln_155 ⟨by omega, by omega⟩ rfl ?_
            refine w_iald (v := (q_pl (iv 158) (iv 155) p (iv 160)) ((iv 155) ((52 + (4 * b)) + 1).toNat).toNat) is_160 ln_160 ⟨by omega, by omega⟩ rfl ?_
            refine w_loc rfl ?_
            refine w_getR (q := 160) is_154 rf_154_9 ?_
            refine w_loc rfl ?_
            refine w_getR (q := 155) is_154 rf_154_1 ?_
            refine w_pure rfl ?_
            refine w_pure rfl ?_
            refine w_loc rfl ?_
            refine w_imul (by omega) ?_
            refine w_iadd (by omega) ?_
            refine w_iald (v := (iv 155) (52 + (4 * b)).toNat) is_155 ln_155 ⟨by omega, by omega⟩ rfl ?_
            refine w_iald (v := (q_pl (iv 158) (iv 155) p (iv 160)) ((iv 155) (52 + (4 * b)).toNat).toNat) is_160 ln_160 ⟨by omega, by omega⟩ rfl ?_
            refine w_isub (by omega) ?_
            refine w_loc rfl ?_
            refine w_getR (q := 155) is_154 rf_154_1 ?_
            refine w_pure rfl ?_
            refine w_pure rfl ?_
            refine w_loc rfl ?_
            refine w_imul (by omega) ?_
            refine w_iadd (by omega) ?_
            refine w_pure rfl ?_
            refine w_iadd (by omega) ?_
            refine w_iald (v := (iv 155) ((52 + (4 * b)) + 2).toNat) is_155 ln_155 ⟨by omega, by omega⟩ rfl ?_
            refine w_igt (fun h9 => ?_) (fun h9 => ?_)
            · refine pz_G_of pz_b262_96 ?_
              refine w_pure rfl ?_
              refine w_nil ?_
              refine pz_G_of pz_b262_97 ?_
              refine w_loc (ls' := [some (.inr (.inl 154)), some (.inl p), some (.inl 0), some (.inl b)]) (st' := []) rfl ?_
              refine w_iinc (ls' := [some (.inr (.inl 154)), some (.inl p), some (.inl 0), some (.inl (b + 1))]) rfl rfl rfl (by omega) ?_
              refine w_goto ?_
              exact ih19 _ (by omega) 0 (b + 1)  rfl (by omega) (by first | (exfalso; omega) | exact q_all_f1 hz (by omega) (by omega) | exact q_all_t hz (by omega) (by omega) (by omega) | exact q_all_f2 (by omega) (by omega))
            · refine w_nil ?_
              refine pz_G_of pz_b262_92 ?_
              refine w_pure rfl ?_
              refine w_goto ?_
              refine pz_G_of pz_b262_97 ?_
              refine w_loc (ls' := [some (.inr (.inl 154)), some (.inl p), some (.inl 1), some (.inl b)]) (st' := []) rfl ?_
              refine w_iinc (ls' := [some (.inr (.inl 154)), some (.inl p), some (.inl 1), some (.inl (b + 1))]) rfl rfl rfl (by omega) ?_
              refine w_goto ?_
              exact ih19 _ (by omega) 1 (b + 1)  rfl (by omega) (by first | (exfalso; omega) | exact q_all_f1 hz (by omega) (by omega) | exact q_all_t hz (by omega) (by omega) (by omega) | exact q_all_f2 (by omega) (by omega))
    exact lp19 _ 1 0  rfl (by omega) (by exact q_all_0 (by omega))
  · refine w_pure rfl ?_
    refine w_ret (pz_rok2 (by omega)) ?_
    exact lf_i (by unfold q_fl; first | rw [q_if_f (by assumption)] | (rw [q_if_t (by assumption)]; first | rw [q_if_t (pz_bi_ne (by rw [← hz9]; assumption))] | rw [q_if_f (pz_bi_eq (by rw [← hz9]; assumption))])) rfl
