
theorem s_X11_sets {L : Nat} {iv : Nat → Nat → Int} (tr : Int) (fa : Int) : pz_R (pz_Sh L) 216 [.inr (.inl 154), .inl tr, .inl fa] iv (.inl none) (pz_u1 iv 155 (q_sets tr fa (iv 155))) := by
  intro dv cc ss
  refine pz_G_mem (iv2 := pz_u1 iv 155 (iv 155)) (by exact (pz_u1_self iv 155).symm) ?_
  show pz_G 216 0 [some (.inr (.inl 154)), some (.inl tr), some (.inl fa), none] [] (pz_Sh L, pz_u1 iv 155 (iv 155), dv, cc, ss) (pz_P (pz_Sh L) (.inl none) (pz_u1 iv 155 (q_sets tr fa (iv 155))) dv cc ss)
  refine pz_G_of pz_b216_0 ?_
  refine w_pure rfl ?_
  refine w_loc (ls' := [some (.inr (.inl 154)), some (.inl tr), some (.inl fa), some (.inl 1)]) (st' := []) rfl ?_
  refine w_nil ?_
  have lp2 : ∀ (dd : Nat) (l : Int) (f : Nat → Int) , (5 - l).toNat = dd → ∀ (hl : 1 ≤ l ∧ l ≤ 5), ∀ (hf : f = q_fr (q_seS tr fa) 1 l (iv 155)),  pz_G 216 2 [some (.inr (.inl 154)), some (.inl tr), some (.inl fa), some (.inl l)] [] (pz_Sh L, pz_u1 iv 155 f, dv, cc, ss) (pz_P (pz_Sh L) (.inl none) (pz_u1 iv 155 (q_sets tr fa (iv 155))) dv cc ss) := by
    intro dd2
    induction dd2 using Nat.strongRecOn with
    | _ dd2 ih2 =>
    intro l f  hd2 hl hf
    refine pz_G_of pz_b216_2 ?_
    refine w_loc rfl ?_
    refine w_pure rfl ?_
    refine w_igt (fun h1 => ?_) (fun h1 => ?_)
    · refine pz_G_of pz_b216_67 ?_
      refine w_vret ?_
      exact lf_v (by rw [hf, show l = 5 by omega]; rfl)
    · refine w_loc rfl ?_
      refine w_loc rfl ?_
      have hc2 : pz_R (pz_Sh L) 214 [.inr (.inl 154), .inl l] (pz_u1 iv 155 f) (.inl (some (.inl (pz_bi (q_obs f l))))) (pz_u1 iv 155 f) := s_X11_isObserved l (by show 0 ≤ l ∧ l ≤ 4; omega)
      refine w_call hc2 rfl (pz_cokI is_154 rfl) ?_
      refine w_beq (fun h3 => ?_) (fun h3 => ?_)
      · refine pz_G_of pz_b216_18 ?_
        refine w_loc rfl ?_
        refine w_getR (q := 155) is_154 rf_154_1 ?_
        refine w_pure rfl ?_
        refine w_loc rfl ?_
        refine w_iadd (by omega) ?_
        refine w_loc rfl ?_
        refine w_loc rfl ?_
        refine w_pure rfl ?_
        refine w_isub (by omega) ?_
        refine w_ishr ?_
        refine w_pure rfl ?_
        refine w_iand ?_
        refine w_pure rfl ?_
        refine w_ine (fun h4 => ?_) (fun h4 => ?_)
        · refine pz_G_of pz_b216_42 ?_
          refine w_loc rfl ?_
          refine w_loc rfl ?_
          refine w_pure rfl ?_
          refine w_isub (by omega) ?_
          refine w_ishr ?_
          refine w_pure rfl ?_
          refine w_iand ?_
          refine w_pure rfl ?_
          refine w_ine (fun h5 => ?_) (fun h5 => ?_)
          · refine pz_G_of pz_b216_58 ?_
            refine w_pure rfl ?_
            refine w_nil ?_
            refine pz_G_of pz_b216_60 ?_
            refine w_iastm (iv2 := pz_u1 iv 155 (pz_up f (46 + l).toNat 111)) is_155 ln_155 ⟨by omega, by omega⟩ (by exact pz_u2_top _ _ _ _ _) ?_
            refine w_nil ?_
            refine pz_G_of pz_b216_61 ?_
            refine w_iinc (ls' := [some (.inr (.inl 154)), some (.inl tr), some (.inl fa), some (.inl (l + 1))]) rfl rfl rfl (by omega) ?_
            refine w_goto ?_
            exact ih2 _ (by omega) (l + 1) (pz_up f (46 + l).toNat 111)  rfl (by omega) (by rw [q_fr_s (by omega), ← hf]; unfold q_seS; first | rw [q_if_t (by assumption)] | rw [q_if_f (by assumption), q_if_t (by omega)] | rw [q_if_f (by assumption), q_if_f (by omega), q_if_t (by omega)] | rw [q_if_f (by assumption), q_if_f (by omega), q_if_f (by omega)])
          · refine w_pure rfl ?_
            refine w_goto ?_
            refine pz_G_of pz_b216_60 ?_
            refine w_iastm (iv2 := pz_u1 iv 155 (pz_up f (46 + l).toNat 70)) is_155 ln_155 ⟨by omega, by omega⟩ (by exact pz_u2_top _ _ _ _ _) ?_
            refine w_nil ?_
            refine pz_G_of pz_b216_61 ?_
            refine w_iinc (ls' := [some (.inr (.inl 154)), some (.inl tr), some (.inl fa), some (.inl (l + 1))]) rfl rfl rfl (by omega) ?_
            refine w_goto ?_
            exact ih2 _ (by omega) (l + 1) (pz_up f (46 + l).toNat 70)  rfl (by omega) (by rw [q_fr_s (by omega), ← hf]; unfold q_seS; first | rw [q_if_t (by assumption)] | rw [q_if_f (by assumption), q_if_t (by omega)] | rw [q_if_f (by assumption), q_if_f (by omega), q_if_t (by omega)] | rw [q_if_f (by assumption), q_if_f (by omega), q_if_f (by omega)])
        · refine w_pure rfl ?_
          refine w_goto ?_
          refine pz_G_of pz_b216_60 ?_
          refine w_iastm (iv2 := pz_u1 iv 155 (pz_up f (46 + l).toNat 84)) is_155 ln_155 ⟨by omega, by omega⟩ (by exact pz_u2_top _ _ _ _ _) ?_
          refine w_nil ?_
          refine pz_G_of pz_b216_61 ?_
          refine w_iinc (ls' := [some (.inr (.inl 154)), some (.inl tr), some (.inl fa), some (.inl (l + 1))]) rfl rfl rfl (by omega) ?_
          refine w_goto ?_
          exact ih2 _ (by omega) (l + 1) (pz_up f (46 + l).toNat 84)  rfl (by omega) (by rw [q_fr_s (by omega), ← hf]; unfold q_seS; first | rw [q_if_t (by assumption)] | rw [q_if_f (by assumption), q_if_t (by omega)] | rw [q_if_f (by assumption), q_if_f (by omega), q_if_t (by omega)] | rw [q_if_f (by assumption), q_if_f (by omega), q_if_f (by omega)])
      · refine w_goto ?_
        refine pz_G_of pz_b216_61 ?_
        refine w_iinc (ls' := [some (.inr (.inl 154)), some (.inl tr), some (.inl fa), some (.inl (l + 1))]) rfl rfl rfl (by omega) ?_
        refine w_goto ?_
        exact ih2 _ (by omega) (l + 1) f  rfl (by omega) (by rw [q_fr_s (by omega), ← hf]; unfold q_seS; first | rw [q_if_t (by assumption)] | rw [q_if_f (by assumption), q_if_t (by omega)] | rw [q_if_f (by assumption), q_if_f (by omega), q_if_t (by omega)] | rw [q_if_f (by assumption), q_if_f (by omega), q_if_f (by omega)])
  exact lp2 _ 1 (iv 155)  rfl (by omega) (by rw [q_fr_0 (by omega)])

theorem s_X11_fitsObserved {L : Nat} {iv : Nat → Nat → Int} (tr : Int) : pz_R (pz_Sh L) 218 [.inr (.inl 154), .inl tr] iv (.inl (some (.inl (pz_bi (q_fit (iv 155) tr))))) iv := by
  intro dv cc ss
  show pz_G 218 0 [some (.inr (.inl 154)), some (.inl tr), none, none] [] (pz_Sh L, iv, dv, cc, ss) (pz_P (pz_Sh L) (.inl (some (.inl (pz_bi (q_fit (iv 155) tr))))) iv dv cc ss)
  refine pz_G_of pz_b218_0 ?_
  refine w_pure rfl ?_
  refine w_loc (ls' := [some (.inr (.inl 154)), some (.inl tr), some (.inl 1), none]) (st' := []) rfl ?_
  refine w_pure rfl ?_
  refine w_loc (ls' := [some (.inr (.inl 154)), some (.inl tr), some (.inl 1), some (.inl 1)]) (st' := []) rfl ?_
  refine w_nil ?_
  have lp4 : ∀ (dd : Nat) (z : Int) (l : Int) , (5 - l).toNat = dd → ∀ (hl : 1 ≤ l ∧ l ≤ 5), ∀ (hz : z = pz_bi (q_all (q_fitP (iv 155) tr) l)),  pz_G 218 4 [some (.inr (.inl 154)), some (.inl tr), some (.inl z), some (.inl l)] [] (pz_Sh L, iv, dv, cc, ss) (pz_P (pz_Sh L) (.inl (some (.inl (pz_bi (q_fit (iv 155) tr))))) iv dv cc ss) := by
    intro dd4
    induction dd4 using Nat.strongRecOn with
    | _ dd4 ih4 =>
    intro z l  hd4 hl hz
    have hb1 := pz_bi01 (q_tru (iv 155) l)
    have hb2 : q_tru (iv 155) l → pz_bi (q_tru (iv 155) l) = 1 := pz_bi_1
    have hb3 : ¬ q_tru (iv 155) l → pz_bi (q_tru (iv 155) l) = 0 := pz_bi_0
    refine pz_G_of pz_b218_4 ?_
    refine w_loc rfl ?_
    refine w_pure rfl ?_
    refine w_igt (fun h1 => ?_) (fun h1 => ?_)
    · refine pz_G_of pz_b218_57 ?_
      refine w_loc rfl ?_
      refine w_ret (pz_rok1 (by first | omega | (rw [hz]; exact pz_bi01 _))) ?_
      exact lf_i (by rw [hz, show l = 5 by omega]; rfl) rfl
    · refine w_loc rfl ?_
      refine w_zeq (fun h2 => ?_) (fun h2 => ?_)
      · refine pz_G_of pz_b218_49 ?_
        refine w_pure rfl ?_
        refine w_nil ?_
        refine pz_G_of pz_b218_50 ?_
        refine w_loc (ls' := [some (.inr (.inl 154)), some (.inl tr), some (.inl 0), some (.inl l)]) (st' := []) rfl ?_
        refine w_iinc (ls' := [some (.inr (.inl 154)), some (.inl tr), some (.inl 0), some (.inl (l + 1))]) rfl rfl rfl (by omega) ?_
        refine w_goto ?_
        exact ih4 _ (by omega) 0 (l + 1)  rfl (by omega) (by first | (exfalso; omega) | exact q_all_f1 hz (by omega) (by omega) | exact q_all_t hz (by omega) (by omega) (by omega) | exact q_all_f2 (by omega) (by omega))
      · refine w_loc rfl ?_
        refine w_loc rfl ?_
        have hc3 : pz_R (pz_Sh L) 214 [.inr (.inl 154), .inl l] (iv) (.inl (some (.inl (pz_bi (q_obs (iv 155) l))))) (iv) := s_X11_isObserved l (by omega)
        refine w_call hc3 rfl (pz_cokI is_154 rfl) ?_
        refine w_beq (fun h4 => ?_) (fun h4 => ?_)
        · refine pz_G_of pz_b218_45 ?_
          refine w_pure rfl ?_
          refine w_goto ?_
          refine pz_G_of pz_b218_50 ?_
          refine w_loc (ls' := [some (.inr (.inl 154)), some (.inl tr), some (.inl 1), some (.inl l)]) (st' := []) rfl ?_
          refine w_iinc (ls' := [some (.inr (.inl 154)), some (.inl tr), some (.inl 1), some (.inl (l + 1))]) rfl rfl rfl (by omega) ?_
          refine w_goto ?_
          exact ih4 _ (by omega) 1 (l + 1)  rfl (by omega) (by first | (exfalso; omega) | exact q_all_f1 hz (by omega) (by omega) | exact q_all_t hz (by omega) (by omega) (by omega) | exact q_all_f2 (by omega) (by omega))
        · refine w_loc rfl ?_
          refine w_loc rfl ?_
          have hc5 : pz_R (pz_Sh L) 200 [.inr (.inl 154), .inl l] (iv) (.inl (some (.inl (pz_bi (q_tru (iv 155) l))))) (iv) := s_X11_isTrue l (by omega)
          refine w_call hc5 rfl (pz_cokI is_154 rfl) ?_
          refine w_loc rfl ?_
          refine w_loc rfl ?_
          refine w_pure rfl ?_
          refine w_isub (by omega) ?_
          refine w_ishr ?_
          refine w_pure rfl ?_
          refine w_iand ?_
          refine w_pure rfl ?_
          refine w_ine (fun h6 => ?_) (fun h6 => ?_)
          · refine pz_G_of pz_b218_41 ?_
            refine w_pure rfl ?_
            refine w_nil ?_
            refine pz_G_of pz_b218_42 ?_
            refine w_ine (fun h7 => ?_) (fun h7 => ?_)
            · refine pz_G_of pz_b218_49 ?_
              refine w_pure rfl ?_
              refine w_nil ?_
              refine pz_G_of pz_b218_50 ?_
              refine w_loc (ls' := [some (.inr (.inl 154)), some (.inl tr), some (.inl 0), some (.inl l)]) (st' := []) rfl ?_
              refine w_iinc (ls' := [some (.inr (.inl 154)), some (.inl tr), some (.inl 0), some (.inl (l + 1))]) rfl rfl rfl (by omega) ?_
              refine w_goto ?_
              exact ih4 _ (by omega) 0 (l + 1)  rfl (by omega) (by first | (exfalso; omega) | exact q_all_f1 hz (by omega) (by omega) | exact q_all_t hz (by omega) (by omega) (by omega) | exact q_all_f2 (by omega) (by omega))
            · refine w_nil ?_
              refine pz_G_of pz_b218_45 ?_
              refine w_pure rfl ?_
              refine w_goto ?_
              refine pz_G_of pz_b218_50 ?_
              refine w_loc (ls' := [some (.inr (.inl 154)), some (.inl tr), some (.inl 1), some (.inl l)]) (st' := []) rfl ?_
              refine w_iinc (ls' := [some (.inr (.inl 154)), some (.inl tr), some (.inl 1), some (.inl (l + 1))]) rfl rfl rfl (by omega) ?_
              refine w_goto ?_
              exact ih4 _ (by omega) 1 (l + 1)  rfl (by omega) (by first | (exfalso; omega) | exact q_all_f1 hz (by omega) (by omega) | exact q_all_t hz (by omega) (by omega) (by omega) | exact q_all_f2 (by omega) (by omega))
          · refine w_pure rfl ?_
            refine w_goto ?_
            refine pz_G_of pz_b218_42 ?_
            refine w_ine (fun h8 => ?_) (fun h8 => ?_)
            · refine pz_G_of pz_b218_49 ?_
              refine w_pure rfl ?_
              refine w_nil ?_
              refine pz_G_of pz_b218_50 ?_
              refine w_loc (ls' := [some (.inr (.inl 154)), some (.inl tr), some (.inl 0), some (.inl l)]) (st' := []) rfl ?_
              refine w_iinc (ls' := [some (.inr (.inl 154)), some (.inl tr), some (.inl 0), some (.inl (l + 1))]) rfl rfl rfl (by omega) ?_
              refine w_goto ?_
              exact ih4 _ (by omega) 0 (l + 1)  rfl (by omega) (by first | (exfalso; omega) | exact q_all_f1 hz (by omega) (by omega) | exact q_all_t hz (by omega) (by omega) (by omega) | exact q_all_f2 (by omega) (by omega))
            · refine w_nil ?_
              refine pz_G_of pz_b218_45 ?_
              refine w_pure rfl ?_
              refine w_goto ?_
              refine pz_G_of pz_b218_50 ?_
              refine w_loc (ls' := [some (.inr (.inl 154)), some (.inl tr), some (.inl 1), some (.inl l)]) (st' := []) rfl ?_
              refine w_iinc (ls' := [some (.inr (.inl 154)), some (.inl tr), some (.inl 1), some (.inl (l + 1))]) rfl rfl rfl (by omega) ?_
              refine w_goto ?_
              exact ih4 _ (by omega) 1 (l + 1)  rfl (by omega) (by first | (exfalso; omega) | exact q_all_f1 hz (by omega) (by omega) | exact q_all_t hz (by omega) (by omega) (by omega) | exact q_all_f2 (by omega) (by omega))
  exact lp4 _ 1 1  rfl (by omega) (by exact pz_bi_t (fun i g1 g2 g3 => by omega))

theorem s_X11_packed {L : Nat} {iv : Nat → Nat → Int} : pz_R (pz_Sh L) 219 [.inr (.inl 154)] iv (.inl (some (.inl (q_pkd (iv 155))))) iv := by
  intro dv cc ss
  show pz_G 219 0 [some (.inr (.inl 154)), none, none, none] [] (pz_Sh L, iv, dv, cc, ss) (pz_P (pz_Sh L) (.inl (some (.inl (q_pkd (iv 155))))) iv dv cc ss)
  refine pz_G_of pz_b219_0 ?_
  refine w_pure rfl ?_
  refine w_loc (ls' := [some (.inr (.inl 154)), some (.inl 0), none, none]) (st' := []) rfl ?_
  refine w_pure rfl ?_
  refine w_loc (ls' := [some (.inr (.inl 154)), some (.inl 0), some (.inl 4), none]) (st' := []) rfl ?_
  refine w_nil ?_
  have lp4 : ∀ (dd : Nat) (n : Int) (l : Int) (u4_3 : Option pz_V) (hu4_3 : pz_nc u4_3 = true), l.toNat = dd → ∀ (hl : 0 ≤ l ∧ l ≤ 4), ∀ (hn : n = q_fr (q_pdS (iv 155)) 0 (4 - l) 0), ∀ (hr : 0 ≤ n ∧ (l = 4 → n ≤ 0) ∧ (l = 3 → n ≤ 4) ∧ (l = 2 → n ≤ 24) ∧ (l = 1 → n ≤ 124) ∧ n ≤ 624),  pz_G 219 4 [some (.inr (.inl 154)), some (.inl n), some (.inl l), u4_3] [] (pz_Sh L, iv, dv, cc, ss) (pz_P (pz_Sh L) (.inl (some (.inl (q_pkd (iv 155))))) iv dv cc ss) := by
    intro dd4
    induction dd4 using Nat.strongRecOn with
    | _ dd4 ih4 =>
    intro n l u4_3 hu4_3 hd4 hl hn hr
    refine pz_G_of pz_b219_4 ?_
    refine w_loc rfl ?_
    refine w_pure rfl ?_
    refine w_ilt (fun h1 => ?_) (fun h1 => ?_)
    · refine pz_G_of pz_b219_71 ?_
      refine w_loc rfl ?_
      refine w_ret rfl ?_
      exact lf_i (by rw [hn, show l = 0 by omega]; rfl) rfl
    · refine w_loc rfl ?_
      refine w_getR (q := 155) is_154 rf_154_1 ?_
      refine w_pure rfl ?_
      refine w_loc rfl ?_
      refine w_iadd (by omega) ?_
      refine w_iald (v := (iv 155) (46 + l).toNat) is_155 ln_155 ⟨by omega, by omega⟩ rfl ?_
      refine w_loc (ls' := [some (.inr (.inl 154)), some (.inl n), some (.inl l), some (.inl ((iv 155) (46 + l).toNat))]) (st' := []) rfl ?_
      refine w_pure rfl ?_
      refine w_loc rfl ?_
      refine w_imul (by omega) ?_
      refine w_loc rfl ?_
      refine w_pure rfl ?_
      refine w_ine (fun h2 => ?_) (fun h2 => ?_)
      · refine pz_G_of pz_b219_32 ?_
        refine w_loc rfl ?_
        refine w_pure rfl ?_
        refine w_ine (fun h3 => ?_) (fun h3 => ?_)
        · refine pz_G_of pz_b219_42 ?_
          refine w_loc rfl ?_
          refine w_pure rfl ?_
          refine w_ine (fun h4 => ?_) (fun h4 => ?_)
          · refine pz_G_of pz_b219_52 ?_
            refine w_loc rfl ?_
            refine w_pure rfl ?_
            refine w_ine (fun h5 => ?_) (fun h5 => ?_)
            · refine pz_G_of pz_b219_62 ?_
              refine w_pure rfl ?_
              refine w_nil ?_
              refine pz_G_of pz_b219_63 ?_
              refine w_iadd (by omega) ?_
              refine w_loc (ls' := [some (.inr (.inl 154)), some (.inl ((5 * n) + 0)), some (.inl l), some (.inl ((iv 155) (46 + l).toNat))]) (st' := []) rfl ?_
              refine w_iinc (ls' := [some (.inr (.inl 154)), some (.inl ((5 * n) + 0)), some (.inl (l + (-1))), some (.inl ((iv 155) (46 + l).toNat))]) rfl rfl rfl (by omega) ?_
              refine w_goto ?_
              exact ih4 _ (by omega) ((5 * n) + 0) (l + (-1)) (some (.inl ((iv 155) (46 + l).toNat))) rfl rfl (by omega) (by rw [show 4 - (l + (-1)) = (4 - l) + 1 by omega, q_fr_s (by omega), ← hn]; unfold q_pdS; rw [show 4 - (4 - l) = l by omega]; unfold q_cd; (repeat' split) <;> omega) (by omega)
            · refine w_pure rfl ?_
              refine w_goto ?_
              refine pz_G_of pz_b219_63 ?_
              refine w_iadd (by omega) ?_
              refine w_loc (ls' := [some (.inr (.inl 154)), some (.inl ((5 * n) + 4)), some (.inl l), some (.inl ((iv 155) (46 + l).toNat))]) (st' := []) rfl ?_
              refine w_iinc (ls' := [some (.inr (.inl 154)), some (.inl ((5 * n) + 4)), some (.inl (l + (-1))), some (.inl ((iv 155) (46 + l).toNat))]) rfl rfl rfl (by omega) ?_
              refine w_goto ?_
              exact ih4 _ (by omega) ((5 * n) + 4) (l + (-1)) (some (.inl ((iv 155) (46 + l).toNat))) rfl rfl (by omega) (by rw [show 4 - (l + (-1)) = (4 - l) + 1 by omega, q_fr_s (by omega), ← hn]; unfold q_pdS; rw [show 4 - (4 - l) = l by omega]; unfold q_cd; (repeat' split) <;> omega) (by omega)
          · refine w_pure rfl ?_
            refine w_goto ?_
            refine pz_G_of pz_b219_63 ?_
            refine w_iadd (by omega) ?_
            refine w_loc (ls' := [some (.inr (.inl 154)), some (.inl ((5 * n) + 3)), some (.inl l), some (.inl ((iv 155) (46 + l).toNat))]) (st' := []) rfl ?_
            refine w_iinc (ls' := [some (.inr (.inl 154)), some (.inl ((5 * n) + 3)), some (.inl (l + (-1))), some (.inl ((iv 155) (46 + l).toNat))]) rfl rfl rfl (by omega) ?_
            refine w_goto ?_
            exact ih4 _ (by omega) ((5 * n) + 3) (l + (-1)) (some (.inl ((iv 155) (46 + l).toNat))) rfl rfl (by omega) (by rw [show 4 - (l + (-1)) = (4 - l) + 1 by omega, q_fr_s (by omega), ← hn]; unfold q_pdS; rw [show 4 - (4 - l) = l by omega]; unfold q_cd; (repeat' split) <;> omega) (by omega)
        · refine w_pure rfl ?_
          refine w_goto ?_
          refine pz_G_of pz_b219_63 ?_
          refine w_iadd (by omega) ?_
          refine w_loc (ls' := [some (.inr (.inl 154)), some (.inl ((5 * n) + 2)), some (.inl l), some (.inl ((iv 155) (46 + l).toNat))]) (st' := []) rfl ?_
          refine w_iinc (ls' := [some (.inr (.inl 154)), some (.inl ((5 * n) + 2)), some (.inl (l + (-1))), some (.inl ((iv 155) (46 + l).toNat))]) rfl rfl rfl (by omega) ?_
          refine w_goto ?_
          exact ih4 _ (by omega) ((5 * n) + 2) (l + (-1)) (some (.inl ((iv 155) (46 + l).toNat))) rfl rfl (by omega) (by rw [show 4 - (l + (-1)) = (4 - l) + 1 by omega, q_fr_s (by omega), ← hn]; unfold q_pdS; rw [show 4 - (4 - l) = l by omega]; unfold q_cd; (repeat' split) <;> omega) (by omega)
      · refine w_pure rfl ?_
        refine w_goto ?_
        refine pz_G_of pz_b219_63 ?_
        refine w_iadd (by omega) ?_
        refine w_loc (ls' := [some (.inr (.inl 154)), some (.inl ((5 * n) + 1)), some (.inl l), some (.inl ((iv 155) (46 + l).toNat))]) (st' := []) rfl ?_
        refine w_iinc (ls' := [some (.inr (.inl 154)), some (.inl ((5 * n) + 1)), some (.inl (l + (-1))), some (.inl ((iv 155) (46 + l).toNat))]) rfl rfl rfl (by omega) ?_
        refine w_goto ?_
        exact ih4 _ (by omega) ((5 * n) + 1) (l + (-1)) (some (.inl ((iv 155) (46 + l).toNat))) rfl rfl (by omega) (by rw [show 4 - (l + (-1)) = (4 - l) + 1 by omega, q_fr_s (by omega), ← hn]; unfold q_pdS; rw [show 4 - (4 - l) = l by omega]; unfold q_cd; (repeat' split) <;> omega) (by omega)
  exact lp4 _ 0 4 (none) rfl rfl (by omega) (by rw [q_fr_0 (by omega)]) (by omega)

theorem s_X11_unpacks {L : Nat} {iv : Nat → Nat → Int} (n : Int) (hn : 0 ≤ n ∧ n ≤ 624) : pz_R (pz_Sh L) 220 [.inr (.inl 154), .inl n] iv (.inl none) (pz_u1 iv 155 (q_un n (iv 155))) := by
  intro dv cc ss
  refine pz_G_mem (iv2 := pz_u1 iv 155 (iv 155)) (by exact (pz_u1_self iv 155).symm) ?_
  show pz_G 220 0 [some (.inr (.inl 154)), some (.inl n), none, none, none] [] (pz_Sh L, pz_u1 iv 155 (iv 155), dv, cc, ss) (pz_P (pz_Sh L) (.inl none) (pz_u1 iv 155 (q_un n (iv 155))) dv cc ss)
  refine pz_G_of pz_b220_0 ?_
  refine w_loc rfl ?_
  refine w_loc (ls' := [some (.inr (.inl 154)), some (.inl n), some (.inl n), none, none]) (st' := []) rfl ?_
  refine w_pure rfl ?_
  refine w_loc (ls' := [some (.inr (.inl 154)), some (.inl n), some (.inl n), some (.inl 1), none]) (st' := []) rfl ?_
  refine w_nil ?_
  have lp4 : ∀ (dd : Nat) (m : Int) (l : Int) (f : Nat → Int) (u4_4 : Option pz_V) (hu4_4 : pz_nc u4_4 = true), (5 - l).toNat = dd → ∀ (hl : 1 ≤ l ∧ l ≤ 5), ∀ (hm : 0 ≤ m ∧ m ≤ 624), ∀ (hf : (m, f) = q_fr q_unP 1 l (n, iv 155)),  pz_G 220 4 [some (.inr (.inl 154)), some (.inl n), some (.inl m), some (.inl l), u4_4] [] (pz_Sh L, pz_u1 iv 155 f, dv, cc, ss) (pz_P (pz_Sh L) (.inl none) (pz_u1 iv 155 (q_un n (iv 155))) dv cc ss) := by
    intro dd4
    induction dd4 using Nat.strongRecOn with
    | _ dd4 ih4 =>
    intro m l f u4_4 hu4_4 hd4 hl hm hf
    refine pz_G_of pz_b220_4 ?_
    refine w_loc rfl ?_
    refine w_pure rfl ?_
    refine w_igt (fun h1 => ?_) (fun h1 => ?_)
    · refine pz_G_of pz_b220_79 ?_
      refine w_vret ?_
      exact lf_v (by unfold q_un; rw [← show l = 5 by omega, ← hf])
    · refine w_loc rfl ?_
      refine w_pure rfl ?_
      refine w_iremp (by omega) ?_
      refine w_loc (ls' := [some (.inr (.inl 154)), some (.inl n), some (.inl m), some (.inl l), some (.inl (m % 5))]) (st' := []) rfl ?_
      refine w_loc rfl ?_
      refine w_getR (q := 155) is_154 rf_154_1 ?_
      refine w_pure rfl ?_
      refine w_loc rfl ?_
      refine w_iadd (by omega) ?_
      refine w_loc rfl ?_
      refine w_pure rfl ?_
      refine w_ine (fun h2 => ?_) (fun h2 => ?_)
      · refine pz_G_of pz_b220_33 ?_
        refine w_loc rfl ?_
        refine w_pure rfl ?_
        refine w_ine (fun h3 => ?_) (fun h3 => ?_)
        · refine pz_G_of pz_b220_44 ?_
          refine w_loc rfl ?_
          refine w_pure rfl ?_
          refine w_ine (fun h4 => ?_) (fun h4 => ?_)
          · refine pz_G_of pz_b220_55 ?_
            refine w_loc rfl ?_
            refine w_pure rfl ?_
            refine w_ine (fun h5 => ?_) (fun h5 => ?_)
            · refine pz_G_of pz_b220_66 ?_
              refine w_pure rfl ?_
              refine w_nil ?_
              refine pz_G_of pz_b220_68 ?_
              refine w_iastm (iv2 := pz_u1 iv 155 (pz_up f (46 + l).toNat 111)) is_155 ln_155 ⟨by omega, by omega⟩ (by exact pz_u2_top _ _ _ _ _) ?_
              refine w_loc rfl ?_
              refine w_pure rfl ?_
              refine w_idivp (by omega) ?_
              refine w_loc (ls' := [some (.inr (.inl 154)), some (.inl n), some (.inl (m / 5)), some (.inl l), some (.inl (m % 5))]) (st' := []) rfl ?_
              refine w_iinc (ls' := [some (.inr (.inl 154)), some (.inl n), some (.inl (m / 5)), some (.inl (l + 1)), some (.inl (m % 5))]) rfl rfl rfl (by omega) ?_
              refine w_goto ?_
              exact ih4 _ (by omega) (m / 5) (l + 1) (pz_up f (46 + l).toNat 111) (some (.inl (m % 5))) rfl rfl (by omega) (by omega) (by rw [q_fr_s (by omega), ← hf]; unfold q_unP q_dec; dsimp only; (repeat' split) <;> first | rfl | (exfalso; omega))
            · refine w_pure rfl ?_
              refine w_goto ?_
              refine pz_G_of pz_b220_68 ?_
              refine w_iastm (iv2 := pz_u1 iv 155 (pz_up f (46 + l).toNat 70)) is_155 ln_155 ⟨by omega, by omega⟩ (by exact pz_u2_top _ _ _ _ _) ?_
              refine w_loc rfl ?_
              refine w_pure rfl ?_
              refine w_idivp (by omega) ?_
              refine w_loc (ls' := [some (.inr (.inl 154)), some (.inl n), some (.inl (m / 5)), some (.inl l), some (.inl (m % 5))]) (st' := []) rfl ?_
              refine w_iinc (ls' := [some (.inr (.inl 154)), some (.inl n), some (.inl (m / 5)), some (.inl (l + 1)), some (.inl (m % 5))]) rfl rfl rfl (by omega) ?_
              refine w_goto ?_
              exact ih4 _ (by omega) (m / 5) (l + 1) (pz_up f (46 + l).toNat 70) (some (.inl (m % 5))) rfl rfl (by omega) (by omega) (by rw [q_fr_s (by omega), ← hf]; unfold q_unP q_dec; dsimp only; (repeat' split) <;> first | rfl | (exfalso; omega))
          · refine w_pure rfl ?_
            refine w_goto ?_
            refine pz_G_of pz_b220_68 ?_
            refine w_iastm (iv2 := pz_u1 iv 155 (pz_up f (46 + l).toNat 84)) is_155 ln_155 ⟨by omega, by omega⟩ (by exact pz_u2_top _ _ _ _ _) ?_
            refine w_loc rfl ?_
            refine w_pure rfl ?_
            refine w_idivp (by omega) ?_
            refine w_loc (ls' := [some (.inr (.inl 154)), some (.inl n), some (.inl (m / 5)), some (.inl l), some (.inl (m % 5))]) (st' := []) rfl ?_
            refine w_iinc (ls' := [some (.inr (.inl 154)), some (.inl n), some (.inl (m / 5)), some (.inl (l + 1)), some (.inl (m % 5))]) rfl rfl rfl (by omega) ?_
            refine w_goto ?_
            exact ih4 _ (by omega) (m / 5) (l + 1) (pz_up f (46 + l).toNat 84) (some (.inl (m % 5))) rfl rfl (by omega) (by omega) (by rw [q_fr_s (by omega), ← hf]; unfold q_unP q_dec; dsimp only; (repeat' split) <;> first | rfl | (exfalso; omega))
        · refine w_pure rfl ?_
          refine w_goto ?_
          refine pz_G_of pz_b220_68 ?_
          refine w_iastm (iv2 := pz_u1 iv 155 (pz_up f (46 + l).toNat 102)) is_155 ln_155 ⟨by omega, by omega⟩ (by exact pz_u2_top _ _ _ _ _) ?_
          refine w_loc rfl ?_
          refine w_pure rfl ?_
          refine w_idivp (by omega) ?_
          refine w_loc (ls' := [some (.inr (.inl 154)), some (.inl n), some (.inl (m / 5)), some (.inl l), some (.inl (m % 5))]) (st' := []) rfl ?_
          refine w_iinc (ls' := [some (.inr (.inl 154)), some (.inl n), some (.inl (m / 5)), some (.inl (l + 1)), some (.inl (m % 5))]) rfl rfl rfl (by omega) ?_
          refine w_goto ?_
          exact ih4 _ (by omega) (m / 5) (l + 1) (pz_up f (46 + l).toNat 102) (some (.inl (m % 5))) rfl rfl (by omega) (by omega) (by rw [q_fr_s (by omega), ← hf]; unfold q_unP q_dec; dsimp only; (repeat' split) <;> first | rfl | (exfalso; omega))
      · refine w_pure rfl ?_
        refine w_goto ?_
        refine pz_G_of pz_b220_68 ?_
        refine w_iastm (iv2 := pz_u1 iv 155 (pz_up f (46 + l).toNat 116)) is_155 ln_155 ⟨by omega, by omega⟩ (by exact pz_u2_top _ _ _ _ _) ?_
        refine w_loc rfl ?_
        refine w_pure rfl ?_
        refine w_idivp (by omega) ?_
        refine w_loc (ls' := [some (.inr (.inl 154)), some (.inl n), some (.inl (m / 5)), some (.inl l), some (.inl (m % 5))]) (st' := []) rfl ?_
        refine w_iinc (ls' := [some (.inr (.inl 154)), some (.inl n), some (.inl (m / 5)), some (.inl (l + 1)), some (.inl (m % 5))]) rfl rfl rfl (by omega) ?_
        refine w_goto ?_
        exact ih4 _ (by omega) (m / 5) (l + 1) (pz_up f (46 + l).toNat 116) (some (.inl (m % 5))) rfl rfl (by omega) (by omega) (by rw [q_fr_s (by omega), ← hf]; unfold q_unP q_dec; dsimp only; (repeat' split) <;> first | rfl | (exfalso; omega))
  exact lp4 _ n 1 (iv 155) (none) rfl rfl (by omega) (by omega) (by rw [q_fr_0 (by omega)])

theorem s_X11_isPossible_1 {L : Nat} {iv : Nat → Nat → Int} (tr : Int) (fa : Int) (hk : q_KR (iv 155)) (hcase0 : ¬ (0 ≤ tr ∧ tr ≤ 15 ∧ 0 ≤ fa ∧ fa ≤ 15 ∧ pz_and tr fa = 0)) : pz_R (pz_Sh L) 222 [.inr (.inl 154), .inl tr, .inl fa] iv (.inl (some (.inl 0))) (pz_u1 (pz_u1 (pz_u1 iv 154 (pz_up (iv 154) 0 1)) 155 (iv 155)) 157 (iv 157)) := by
  intro dv cc ss
  have hk0 := hk.r0
  refine pz_G_mem (iv2 := pz_u1 (pz_u1 (pz_u1 iv 154 (iv 154)) 155 (iv 155)) 157 (iv 157)) (by exact (((pz_u1_self iv 154).symm).trans (pz_u1_self (pz_u1 iv 154 (iv 154)) 155).symm).trans (pz_u1_self (pz_u1 (pz_u1 iv 154 (iv 154)) 155 (iv 155)) 157).symm) ?_
  show pz_G 222 0 [some (.inr (.inl 154)), some (.inl tr), some (.inl fa), none, none] [] (pz_Sh L, pz_u1 (pz_u1 (pz_u1 iv 154 (iv 154)) 155 (iv 155)) 157 (iv 157), dv, cc, ss) (pz_P (pz_Sh L) (.inl (some (.inl 0))) (pz_u1 (pz_u1 (pz_u1 iv 154 (pz_up (iv 154) 0 1)) 155 (iv 155)) 157 (iv 157)) dv cc ss)
  refine pz_G_of pz_b222_0 ?_
  refine w_loc rfl ?_
  refine w_pure rfl ?_
  refine w_pure rfl ?_
  have hc1 : pz_R (pz_Sh L) 190 [.inl tr, .inl 0, .inl 15] (pz_u1 (pz_u1 (pz_u1 iv 154 (iv 154)) 155 (iv 155)) 157 (iv 157)) (.inl (some (.inl (pz_bi (0 ≤ tr ∧ tr ≤ 15))))) (pz_u1 (pz_u1 (pz_u1 iv 154 (iv 154)) 155 (iv 155)) 157 (iv 157)) := s_X11_in tr 0 15
  refine w_call hc1 rfl rfl ?_
  refine w_beq (fun h2 => ?_) (fun h2 => ?_)
  · first
    | (exfalso; first | omega | contradiction)
    | (refine pz_G_of pz_b222_26 ?_
       refine w_loc rfl ?_
       refine w_pure rfl ?_
       refine w_pure rfl ?_
       have hc3 : pz_R (pz_Sh L) 193 [.inr (.inl 154), .inl 1, .inl 0] (pz_u1 (pz_u1 (pz_u1 iv 154 (iv 154)) 155 (iv 155)) 157 (iv 157)) (.inl (some (.inl (pz_bi ((1 : Int) = 0 ∧ (0 : Int) = 1))))) (pz_u1 (pz_u1 (pz_u1 iv 154 (pz_up (iv 154) 0 1)) 155 (iv 155)) 157 (iv 157)) := pz_R_mem (s_X11_asks 1 0 (by show 0 = 0 ∨ 0 = 1; omega)) (by rw [pz_u1_in (r := 154) (q := 157) (by decide)]; rw [pz_u1_in (r := 154) (q := 155) (by decide)]; rw [pz_u1_top (r := 154)]; rfl)
       refine w_call hc3 rfl (pz_cokI is_154 rfl) ?_
       refine w_ret (pz_rok1 (pz_bi01 _)) ?_
       first | exact lf_i (pz_bi_0 (by omega)) (by rfl) | (exfalso; omega))
  · first
    | (exfalso; first | omega | contradiction)
    | (refine w_loc rfl ?_
       refine w_pure rfl ?_
       refine w_pure rfl ?_
       have hc4 : pz_R (pz_Sh L) 190 [.inl fa, .inl 0, .inl 15] (pz_u1 (pz_u1 (pz_u1 iv 154 (iv 154)) 155 (iv 155)) 157 (iv 157)) (.inl (some (.inl (pz_bi (0 ≤ fa ∧ fa ≤ 15))))) (pz_u1 (pz_u1 (pz_u1 iv 154 (iv 154)) 155 (iv 155)) 157 (iv 157)) := s_X11_in fa 0 15
       refine w_call hc4 rfl rfl ?_
       refine w_beq (fun h5 => ?_) (fun h5 => ?_)
       · first
         | (exfalso; first | omega | contradiction)
         | (refine pz_G_of pz_b222_26 ?_
            refine w_loc rfl ?_
            refine w_pure rfl ?_
            refine w_pure rfl ?_
            have hc6 : pz_R (pz_Sh L) 193 [.inr (.inl 154), .inl 1, .inl 0] (pz_u1 (pz_u1 (pz_u1 iv 154 (iv 154)) 155 (iv 155)) 157 (iv 157)) (.inl (some (.inl (pz_bi ((1 : Int) = 0 ∧ (0 : Int) = 1))))) (pz_u1 (pz_u1 (pz_u1 iv 154 (pz_up (iv 154) 0 1)) 155 (iv 155)) 157 (iv 157)) := pz_R_mem (s_X11_asks 1 0 (by show 0 = 0 ∨ 0 = 1; omega)) (by rw [pz_u1_in (r := 154) (q := 157) (by decide)]; rw [pz_u1_in (r := 154) (q := 155) (by decide)]; rw [pz_u1_top (r := 154)]; rfl)
            refine w_call hc6 rfl (pz_cokI is_154 rfl) ?_
            refine w_ret (pz_rok1 (pz_bi01 _)) ?_
            first | exact lf_i (pz_bi_0 (by omega)) (by rfl) | (exfalso; omega))
       · first
         | (exfalso; first | omega | contradiction)
         | (refine w_loc rfl ?_
            refine w_loc rfl ?_
            refine w_iand ?_
            refine w_zeq (fun h7 => ?_) (fun h7 => ?_)
            · first
              | (exfalso; first | omega | contradiction)
              | (refine pz_G_of pz_b222_33 ?_
                 refine w_loc rfl ?_
                 have hc8 : pz_R (pz_Sh L) 219 [.inr (.inl 154)] (pz_u1 (pz_u1 (pz_u1 iv 154 (iv 154)) 155 (iv 155)) 157 (iv 157)) (.inl (some (.inl (q_pkd (iv 155))))) (pz_u1 (pz_u1 (pz_u1 iv 154 (iv 154)) 155 (iv 155)) 157 (iv 157)) := s_X11_packed
                 refine w_call hc8 rfl (pz_cokI is_154 rfl) ?_
                 refine w_loc (ls' := [some (.inr (.inl 154)), some (.inl tr), some (.inl fa), some (.inl (q_pkd (iv 155))), none]) (st' := []) rfl ?_
                 refine w_pure rfl ?_
                 refine w_loc (ls' := [some (.inr (.inl 154)), some (.inl tr), some (.inl fa), some (.inl (q_pkd (iv 155))), some (.inl 1)]) (st' := []) rfl ?_
                 refine w_nil ?_
                 exfalso; first | omega | contradiction)
            · first
              | (exfalso; first | omega | contradiction)
              | (refine w_nil ?_
                 refine pz_G_of pz_b222_26 ?_
                 refine w_loc rfl ?_
                 refine w_pure rfl ?_
                 refine w_pure rfl ?_
                 have hc9 : pz_R (pz_Sh L) 193 [.inr (.inl 154), .inl 1, .inl 0] (pz_u1 (pz_u1 (pz_u1 iv 154 (iv 154)) 155 (iv 155)) 157 (iv 157)) (.inl (some (.inl (pz_bi ((1 : Int) = 0 ∧ (0 : Int) = 1))))) (pz_u1 (pz_u1 (pz_u1 iv 154 (pz_up (iv 154) 0 1)) 155 (iv 155)) 157 (iv 157)) := pz_R_mem (s_X11_asks 1 0 (by show 0 = 0 ∨ 0 = 1; omega)) (by rw [pz_u1_in (r := 154) (q := 157) (by decide)]; rw [pz_u1_in (r := 154) (q := 155) (by decide)]; rw [pz_u1_top (r := 154)]; rfl)
                 refine w_call hc9 rfl (pz_cokI is_154 rfl) ?_
                 refine w_ret (pz_rok1 (pz_bi01 _)) ?_
                 first | exact lf_i (pz_bi_0 (by omega)) (by rfl) | (exfalso; omega))))
