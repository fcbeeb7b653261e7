
theorem s_X11_isStrong {L : Nat} {iv : Nat → Nat → Int} (hk : q_KR (iv 155)) : pz_R (pz_Sh L) 240 [.inr (.inl 154)] iv (.inl (some (.inl (pz_bi (q_ok (q_sgF (iv 155) (q_clr (iv 157), (iv 162), (iv 163))) ∧ q_all (q_sgA (iv 155) (q_clr (iv 157), (iv 162), (iv 163))) (q_p2 ((iv 155) 2))))))) (pz_u1 (pz_u1 (pz_u1 (pz_u1 iv 154 (pz_up (iv 154) 0 0)) 157 (q_cg (q_sgF (iv 155) (q_clr (iv 157), (iv 162), (iv 163))))) 162 ((q_sg (iv 155) (q_p2 ((iv 155) 2)) (q_clr (iv 157), (iv 162), (iv 163))).2.1)) 163 ((q_sg (iv 155) (q_p2 ((iv 155) 2)) (q_clr (iv 157), (iv 162), (iv 163))).2.2)) := by
  intro dv cc ss
  have hk0 := hk.r0
  have hsh := q_shl_p2 (a := iv 155 2) (by omega) (by omega)
  have hp2 := q_p2_r (a := iv 155 2) (by omega) (by omega)
  refine pz_G_mem (iv2 := pz_u1 (pz_u1 (pz_u1 (pz_u1 iv 154 (iv 154)) 157 (iv 157)) 162 (iv 162)) 163 (iv 163)) (by exact ((((pz_u1_self iv 154).symm).trans (pz_u1_self (pz_u1 iv 154 (iv 154)) 157).symm).trans (pz_u1_self (pz_u1 (pz_u1 iv 154 (iv 154)) 157 (iv 157)) 162).symm).trans (pz_u1_self (pz_u1 (pz_u1 (pz_u1 iv 154 (iv 154)) 157 (iv 157)) 162 (iv 162)) 163).symm) ?_
  show pz_G 240 0 [some (.inr (.inl 154)), none, none, none, none, none, none] [] (pz_Sh L, pz_u1 (pz_u1 (pz_u1 (pz_u1 iv 154 (iv 154)) 157 (iv 157)) 162 (iv 162)) 163 (iv 163), dv, cc, ss) (pz_P (pz_Sh L) (.inl (some (.inl (pz_bi (q_ok (q_sgF (iv 155) (q_clr (iv 157), (iv 162), (iv 163))) ∧ q_all (q_sgA (iv 155) (q_clr (iv 157), (iv 162), (iv 163))) (q_p2 ((iv 155) 2))))))) (pz_u1 (pz_u1 (pz_u1 (pz_u1 iv 154 (pz_up (iv 154) 0 0)) 157 (q_cg (q_sgF (iv 155) (q_clr (iv 157), (iv 162), (iv 163))))) 162 ((q_sg (iv 155) (q_p2 ((iv 155) 2)) (q_clr (iv 157), (iv 162), (iv 163))).2.1)) 163 ((q_sg (iv 155) (q_p2 ((iv 155) 2)) (q_clr (iv 157), (iv 162), (iv 163))).2.2)) dv cc ss)
  refine pz_G_of pz_b240_0 ?_
  refine w_loc rfl ?_
  have hc1 : pz_R (pz_Sh L) 223 [.inr (.inl 154)] (pz_u1 (pz_u1 (pz_u1 (pz_u1 iv 154 (iv 154)) 157 (iv 157)) 162 (iv 162)) 163 (iv 163)) (.inl none) (pz_u1 (pz_u1 (pz_u1 (pz_u1 iv 154 (iv 154)) 157 (q_clr (iv 157))) 162 (iv 162)) 163 (iv 163)) := pz_R_mem (s_X11_clears) (by rw [pz_u1_in (r := 157) (q := 163) (by decide)]; rw [pz_u1_in (r := 157) (q := 162) (by decide)]; rw [pz_u1_top (r := 157)]; rfl)
  refine w_callv hc1 rfl (pz_cokI is_154 rfl) ?_
  refine w_pure rfl ?_
  refine w_loc (ls' := [some (.inr (.inl 154)), some (.inl 1), none, none, none, none, none]) (st' := []) rfl ?_
  refine w_pure rfl ?_
  refine w_loc (ls' := [some (.inr (.inl 154)), some (.inl 1), some (.inl 0), none, none, none, none]) (st' := []) rfl ?_
  refine w_nil ?_
  have lp8 : ∀ (dd : Nat) (z : Int) (p : Int) (f : Nat → Int) (r : Nat → Int) (h : Nat → Int) (u8_3 : Option pz_V) (hu8_3 : pz_nc u8_3 = true) (u8_4 : Option pz_V) (hu8_4 : pz_nc u8_4 = true) (u8_5 : Option pz_V) (hu8_5 : pz_nc u8_5 = true) (u8_6 : Option pz_V) (hu8_6 : pz_nc u8_6 = true), (q_p2 (iv 155 2) - p).toNat = dd → ∀ (hp : 0 ≤ p ∧ p ≤ q_p2 (iv 155 2)), ∀ (hy : (f, r, h) = q_sg (iv 155) p (q_clr (iv 157), iv 162, iv 163)), ∀ (hz : z = pz_bi (q_all (q_sgA (iv 155) (q_clr (iv 157), iv 162, iv 163)) p)),  pz_G 240 8 [some (.inr (.inl 154)), some (.inl z), some (.inl p), u8_3, u8_4, u8_5, u8_6] [] (pz_Sh L, pz_u1 (pz_u1 (pz_u1 (pz_u1 iv 154 (iv 154)) 157 f) 162 r) 163 h, dv, cc, ss) (pz_P (pz_Sh L) (.inl (some (.inl (pz_bi (q_ok (q_sgF (iv 155) (q_clr (iv 157), (iv 162), (iv 163))) ∧ q_all (q_sgA (iv 155) (q_clr (iv 157), (iv 162), (iv 163))) (q_p2 ((iv 155) 2))))))) (pz_u1 (pz_u1 (pz_u1 (pz_u1 iv 154 (pz_up (iv 154) 0 0)) 157 (q_cg (q_sgF (iv 155) (q_clr (iv 157), (iv 162), (iv 163))))) 162 ((q_sg (iv 155) (q_p2 ((iv 155) 2)) (q_clr (iv 157), (iv 162), (iv 163))).2.1)) 163 ((q_sg (iv 155) (q_p2 ((iv 155) 2)) (q_clr (iv 157), (iv 162), (iv 163))).2.2)) dv cc ss) := by
    intro dd8
    induction dd8 using Nat.strongRecOn with
    | _ dd8 ih8 =>
    intro z p f r h u8_3 hu8_3 u8_4 hu8_4 u8_5 hu8_5 u8_6 hu8_6 hd8 hp hy hz
    refine pz_G_of pz_b240_8 ?_
    refine w_loc rfl ?_
    refine w_pure rfl ?_
    refine w_loc rfl ?_
    refine w_getR (q := 155) is_154 rf_154_1 ?_
    refine w_pure rfl ?_
    refine w_iald (v := (iv 155) 2) is_155 ln_155 ⟨by omega, by omega⟩ rfl ?_
    refine w_ishl ?_
    refine w_ige (fun h2 => ?_) (fun h2 => ?_)
    · refine pz_G_of pz_b240_188 ?_
      refine w_pure rfl ?_
      refine w_loc (ls' := [some (.inr (.inl 154)), some (.inl z), some (.inl 0), u8_3, u8_4, u8_5, u8_6]) (st' := []) rfl ?_
      refine w_nil ?_
      have lp190 : ∀ (dd : Nat) (s : Int) (f3 : Nat → Int) (u190_3 : Option pz_V) (hu190_3 : pz_nc u190_3 = true) (u190_4 : Option pz_V) (hu190_4 : pz_nc u190_4 = true) (u190_5 : Option pz_V) (hu190_5 : pz_nc u190_5 = true) (u190_6 : Option pz_V) (hu190_6 : pz_nc u190_6 = true), (iv 155 2 - s).toNat = dd → ∀ (hs : 0 ≤ s ∧ s ≤ iv 155 2), ∀ (hf3 : f3 = q_fr (q_sgS (iv 155)) 0 s f),  pz_G 240 190 [some (.inr (.inl 154)), some (.inl z), some (.inl s), u190_3, u190_4, u190_5, u190_6] [] (pz_Sh L, pz_u1 (pz_u1 (pz_u1 (pz_u1 iv 154 (iv 154)) 157 f3) 162 r) 163 h, dv, cc, ss) (pz_P (pz_Sh L) (.inl (some (.inl (pz_bi (q_ok (q_sgF (iv 155) (q_clr (iv 157), (iv 162), (iv 163))) ∧ q_all (q_sgA (iv 155) (q_clr (iv 157), (iv 162), (iv 163))) (q_p2 ((iv 155) 2))))))) (pz_u1 (pz_u1 (pz_u1 (pz_u1 iv 154 (pz_up (iv 154) 0 0)) 157 (q_cg (q_sgF (iv 155) (q_clr (iv 157), (iv 162), (iv 163))))) 162 ((q_sg (iv 155) (q_p2 ((iv 155) 2)) (q_clr (iv 157), (iv 162), (iv 163))).2.1)) 163 ((q_sg (iv 155) (q_p2 ((iv 155) 2)) (q_clr (iv 157), (iv 162), (iv 163))).2.2)) dv cc ss) := by
        intro dd190
        induction dd190 using Nat.strongRecOn with
        | _ dd190 ih190 =>
        intro s f3 u190_3 hu190_3 u190_4 hu190_4 u190_5 hu190_5 u190_6 hu190_6 hd190 hs hf3
        have hsr := fun h => hk.sp hs.1 h
        refine pz_G_of pz_b240_190 ?_
        refine w_loc rfl ?_
        refine w_loc rfl ?_
        refine w_getR (q := 155) is_154 rf_154_1 ?_
        refine w_pure rfl ?_
        refine w_iald (v := (iv 155) 2) is_155 ln_155 ⟨by omega, by omega⟩ rfl ?_
        refine w_ige (fun h3 => ?_) (fun h3 => ?_)
        · refine pz_G_of pz_b240_256 ?_
          refine w_pure rfl ?_
          refine w_loc (ls' := [some (.inr (.inl 154)), some (.inl z), some (.inl 1), u190_3, u190_4, u190_5, u190_6]) (st' := []) rfl ?_
          refine w_nil ?_
          have lp258 : ∀ (dd : Nat) (e : Int) (f4 : Nat → Int) (u258_3 : Option pz_V) (hu258_3 : pz_nc u258_3 = true) (u258_4 : Option pz_V) (hu258_4 : pz_nc u258_4 = true) (u258_5 : Option pz_V) (hu258_5 : pz_nc u258_5 = true) (u258_6 : Option pz_V) (hu258_6 : pz_nc u258_6 = true), (iv 155 0 - e).toNat = dd → ∀ (he : 1 ≤ e ∧ e ≤ iv 155 0), ∀ (hf4 : f4 = q_fr (q_stE (iv 155)) 1 e (q_fr (q_sgS (iv 155)) 0 (iv 155 2) f)),  pz_G 240 258 [some (.inr (.inl 154)), some (.inl z), some (.inl e), u258_3, u258_4, u258_5, u258_6] [] (pz_Sh L, pz_u1 (pz_u1 (pz_u1 (pz_u1 iv 154 (iv 154)) 157 f4) 162 r) 163 h, dv, cc, ss) (pz_P (pz_Sh L) (.inl (some (.inl (pz_bi (q_ok (q_sgF (iv 155) (q_clr (iv 157), (iv 162), (iv 163))) ∧ q_all (q_sgA (iv 155) (q_clr (iv 157), (iv 162), (iv 163))) (q_p2 ((iv 155) 2))))))) (pz_u1 (pz_u1 (pz_u1 (pz_u1 iv 154 (pz_up (iv 154) 0 0)) 157 (q_cg (q_sgF (iv 155) (q_clr (iv 157), (iv 162), (iv 163))))) 162 ((q_sg (iv 155) (q_p2 ((iv 155) 2)) (q_clr (iv 157), (iv 162), (iv 163))).2.1)) 163 ((q_sg (iv 155) (q_p2 ((iv 155) 2)) (q_clr (iv 157), (iv 162), (iv 163))).2.2)) dv cc ss) := by
            intro dd258
            induction dd258 using Nat.strongRecOn with
            | _ dd258 ih258 =>
            intro e f4 u258_3 hu258_3 u258_4 hu258_4 u258_5 hu258_5 u258_6 hu258_6 hd258 he hf4
            have her := hk.st (e := e) (by omega)
            refine pz_G_of pz_b240_258 ?_
            refine w_loc rfl ?_
            refine w_loc rfl ?_
            refine w_getR (q := 155) is_154 rf_154_1 ?_
            refine w_pure rfl ?_
            refine w_iald (v := (iv 155) 0) is_155 ln_155 ⟨by omega, by omega⟩ rfl ?_
            refine w_ige (fun h4 => ?_) (fun h4 => ?_)
            · have hpe : p = q_p2 (iv 155 2) := by omega
              have hF : f4 = q_sgF (iv 155) (q_clr (iv 157), iv 162, iv 163) := by
                rw [hf4, show e = iv 155 0 by omega]
                unfold q_sgF
                rw [← hpe, ← hy]
              have hA : z = pz_bi (q_all (q_sgA (iv 155) (q_clr (iv 157), iv 162, iv 163)) (q_p2 (iv 155 2))) := by
                rw [← hpe]
                exact hz
              refine pz_G_of pz_b240_316 ?_
              refine w_loc rfl ?_
              refine w_pure rfl ?_
              refine w_loc rfl ?_
              have hc5 : pz_R (pz_Sh L) 226 [.inr (.inl 154)] (pz_u1 (pz_u1 (pz_u1 (pz_u1 iv 154 (iv 154)) 157 f4) 162 r) 163 h) (.inl (some (.inl (pz_bi (q_ok f4))))) (pz_u1 (pz_u1 (pz_u1 (pz_u1 iv 154 (iv 154)) 157 (q_cg f4)) 162 r) 163 h) := pz_R_mem (s_X11_closes (by show q_cb f4; rw [hF]; exact q_cb_strong hk)) (by rw [pz_u1_in (r := 157) (q := 163) (by decide)]; rw [pz_u1_in (r := 157) (q := 162) (by decide)]; rw [pz_u1_top (r := 157)]; rfl)
              refine w_call hc5 rfl (pz_cokI is_154 rfl) ?_
              refine w_beq (fun h6 => ?_) (fun h6 => ?_)
              · refine pz_G_of pz_b240_333 ?_
                refine w_pure rfl ?_
                refine w_nil ?_
                refine pz_G_of pz_b240_334 ?_
                have hc7 : pz_R (pz_Sh L) 193 [.inr (.inl 154), .inl 0, .inl 0] (pz_u1 (pz_u1 (pz_u1 (pz_u1 iv 154 (iv 154)) 157 (q_cg f4)) 162 r) 163 h) (.inl (some (.inl (pz_bi ((0 : Int) = 0 ∧ (0 : Int) = 1))))) (pz_u1 (pz_u1 (pz_u1 (pz_u1 iv 154 (pz_up (iv 154) 0 0)) 157 (q_cg f4)) 162 r) 163 h) := pz_R_mem (s_X11_asks 0 0 (by show 0 = 0 ∨ 0 = 1; first | omega | (rw [hz]; exact pz_bi01 _))) (by rw [pz_u1_in (r := 154) (q := 163) (by decide)]; rw [pz_u1_in (r := 154) (q := 162) (by decide)]; rw [pz_u1_in (r := 154) (q := 157) (by decide)]; rw [pz_u1_top (r := 154)]; rfl)
                refine w_call hc7 rfl (pz_cokI is_154 rfl) ?_
                refine w_ret (pz_rok1 (pz_bi01 _)) ?_
                exact lf_i (pz_bi_iff (by first | exact ⟨fun _ => ⟨by rw [← hF]; assumption, pz_bi_ne (by rw [← hA]; assumption)⟩, fun _ => ⟨rfl, rfl⟩⟩ | exact ⟨fun q => absurd q.2 (by decide), fun q => absurd q.1 (by rw [← hF]; assumption)⟩ | exact ⟨fun q => absurd q.2 (by decide), fun q => absurd (pz_bi_1 q.2) (by rw [← hA]; omega)⟩)) (by rw [← hF, ← hpe, ← hy])
              · refine w_loc rfl ?_
                refine w_zeq (fun h8 => ?_) (fun h8 => ?_)
                · refine pz_G_of pz_b240_333 ?_
                  refine w_pure rfl ?_
                  refine w_nil ?_
                  refine pz_G_of pz_b240_334 ?_
                  have hc9 : pz_R (pz_Sh L) 193 [.inr (.inl 154), .inl 0, .inl 0] (pz_u1 (pz_u1 (pz_u1 (pz_u1 iv 154 (iv 154)) 157 (q_cg f4)) 162 r) 163 h) (.inl (some (.inl (pz_bi ((0 : Int) = 0 ∧ (0 : Int) = 1))))) (pz_u1 (pz_u1 (pz_u1 (pz_u1 iv 154 (pz_up (iv 154) 0 0)) 157 (q_cg f4)) 162 r) 163 h) := pz_R_mem (s_X11_asks 0 0 (by show 0 = 0 ∨ 0 = 1; first | omega | (rw [hz]; exact pz_bi01 _))) (by rw [pz_u1_in (r := 154) (q := 163) (by decide)]; rw [pz_u1_in (r := 154) (q := 162) (by decide)]; rw [pz_u1_in (r := 154) (q := 157) (by decide)]; rw [pz_u1_top (r := 154)]; rfl)
                  refine w_call hc9 rfl (pz_cokI is_154 rfl) ?_
                  refine w_ret (pz_rok1 (pz_bi01 _)) ?_
                  exact lf_i (pz_bi_iff (by first | exact ⟨fun _ => ⟨by rw [← hF]; assumption, pz_bi_ne (by rw [← hA]; assumption)⟩, fun _ => ⟨rfl, rfl⟩⟩ | exact ⟨fun q => absurd q.2 (by decide), fun q => absurd q.1 (by rw [← hF]; assumption)⟩ | exact ⟨fun q => absurd q.2 (by decide), fun q => absurd (pz_bi_1 q.2) (by rw [← hA]; omega)⟩)) (by rw [← hF, ← hpe, ← hy])
                · refine w_pure rfl ?_
                  refine w_goto ?_
                  refine pz_G_of pz_b240_334 ?_
                  have hc10 : pz_R (pz_Sh L) 193 [.inr (.inl 154), .inl 0, .inl 1] (pz_u1 (pz_u1 (pz_u1 (pz_u1 iv 154 (iv 154)) 157 (q_cg f4)) 162 r) 163 h) (.inl (some (.inl (pz_bi ((0 : Int) = 0 ∧ (1 : Int) = 1))))) (pz_u1 (pz_u1 (pz_u1 (pz_u1 iv 154 (pz_up (iv 154) 0 0)) 157 (q_cg f4)) 162 r) 163 h) := pz_R_mem (s_X11_asks 0 1 (by show 1 = 0 ∨ 1 = 1; first | omega | (rw [hz]; exact pz_bi01 _))) (by rw [pz_u1_in (r := 154) (q := 163) (by decide)]; rw [pz_u1_in (r := 154) (q := 162) (by decide)]; rw [pz_u1_in (r := 154) (q := 157) (by decide)]; rw [pz_u1_top (r := 154)]; rfl)
                  refine w_call hc10 rfl (pz_cokI is_154 rfl) ?_
                  refine w_ret (pz_rok1 (pz_bi01 _)) ?_
                  exact lf_i (pz_bi_iff (by first | exact ⟨fun _ => ⟨by rw [← hF]; assumption, pz_bi_ne (by rw [← hA]; assumption)⟩, fun _ => ⟨rfl, rfl⟩⟩ | exact ⟨fun q => absurd q.2 (by decide), fun q => absurd q.1 (by rw [← hF]; assumption)⟩ | exact ⟨fun q => absurd q.2 (by decide), fun q => absurd (pz_bi_1 q.2) (by rw [← hA]; omega)⟩)) (by rw [← hF, ← hpe, ← hy])
            · refine w_loc rfl ?_
              refine w_loc rfl ?_
              have hc11 : pz_R (pz_Sh L) 196 [.inr (.inl 154), .inl e] (pz_u1 (pz_u1 (pz_u1 (pz_u1 iv 154 (iv 154)) 157 f4) 162 r) 163 h) (.inl (some (.inl (pz_bi (q_sta (iv 155) e))))) (pz_u1 (pz_u1 (pz_u1 (pz_u1 iv 154 (iv 154)) 157 f4) 162 r) 163 h) := s_X11_hasStarted e (by show 0 ≤ e ∧ e ≤ 9; omega)
              refine w_call hc11 rfl (pz_cokI is_154 rfl) ?_
              refine w_bne (fun h12 => ?_) (fun h12 => ?_)
              · refine pz_G_of pz_b240_279 ?_
                refine w_loc rfl ?_
                refine w_pure rfl ?_
                refine w_loc rfl ?_
                refine w_loc rfl ?_
                refine w_getR (q := 155) is_154 rf_154_1 ?_
                refine w_pure rfl ?_
                refine w_loc rfl ?_
                refine w_iadd (by omega) ?_
                refine w_iald (v := (iv 155) (6 + e).toNat) is_155 ln_155 ⟨by omega, by omega⟩ rfl ?_
                have hc13 : pz_R (pz_Sh L) 224 [.inr (.inl 154), .inl 0, .inl e, .inl ((iv 155) (6 + e).toNat)] (pz_u1 (pz_u1 (pz_u1 (pz_u1 iv 154 (iv 154)) 157 f4) 162 r) 163 h) (.inl none) (pz_u1 (pz_u1 (pz_u1 (pz_u1 iv 154 (iv 154)) 157 (q_eg f4 0 e ((iv 155) (6 + e).toNat))) 162 r) 163 h) := pz_R_mem (s_X11_edge 0 e ((iv 155) (6 + e).toNat) (by show 0 ≤ 0 ∧ 0 ≤ 9; omega) (by show 0 ≤ e ∧ e ≤ 9; omega)) (by rw [pz_u1_in (r := 157) (q := 163) (by decide)]; rw [pz_u1_in (r := 157) (q := 162) (by decide)]; rw [pz_u1_top (r := 157)]; rfl)
                refine w_callv hc13 rfl (pz_cokI is_154 rfl) ?_
                refine w_loc rfl ?_
                refine w_loc rfl ?_
                refine w_pure rfl ?_
                refine w_loc rfl ?_
                refine w_getR (q := 155) is_154 rf_154_1 ?_
                refine w_pure rfl ?_
                refine w_loc rfl ?_
                refine w_iadd (by omega) ?_
                refine w_iald (v := (iv 155) (6 + e).toNat) is_155 ln_155 ⟨by omega, by omega⟩ rfl ?_
                refine w_ineg (by omega) ?_
                have hc14 : pz_R (pz_Sh L) 224 [.inr (.inl 154), .inl e, .inl 0, .inl (-((iv 155) (6 + e).toNat))] (pz_u1 (pz_u1 (pz_u1 (pz_u1 iv 154 (iv 154)) 157 (q_eg f4 0 e ((iv 155) (6 + e).toNat))) 162 r) 163 h) (.inl none) (pz_u1 (pz_u1 (pz_u1 (pz_u1 iv 154 (iv 154)) 157 (q_eg (q_eg f4 0 e ((iv 155) (6 + e).toNat)) e 0 (-((iv 155) (6 + e).toNat)))) 162 r) 163 h) := pz_R_mem (s_X11_edge e 0 (-((iv 155) (6 + e).toNat)) (by show 0 ≤ e ∧ e ≤ 9; omega) (by show 0 ≤ 0 ∧ 0 ≤ 9; omega)) (by rw [pz_u1_in (r := 157) (q := 163) (by decide)]; rw [pz_u1_in (r := 157) (q := 162) (by decide)]; rw [pz_u1_top (r := 157)]; rfl)
                refine w_callv hc14 rfl (pz_cokI is_154 rfl) ?_
                refine w_nil ?_
                refine pz_G_of pz_b240_310 ?_
                refine w_iinc (ls' := [some (.inr (.inl 154)), some (.inl z), some (.inl (e + 1)), u258_3, u258_4, u258_5, u258_6]) rfl rfl rfl (by omega) ?_
                refine w_goto ?_
                exact ih258 _ (by omega) (e + 1) (q_eg (q_eg f4 0 e ((iv 155) (6 + e).toNat)) e 0 (-((iv 155) (6 + e).toNat))) u258_3 hu258_3 u258_4 hu258_4 u258_5 hu258_5 u258_6 hu258_6 rfl (by omega) (by rw [q_fr_s (by omega), ← hf4]; unfold q_stE; first | rw [q_if_t (by omega)] | rw [q_if_f (by omega)])
              · refine w_goto ?_
                refine pz_G_of pz_b240_310 ?_
                refine w_iinc (ls' := [some (.inr (.inl 154)), some (.inl z), some (.inl (e + 1)), u258_3, u258_4, u258_5, u258_6]) rfl rfl rfl (by omega) ?_
                refine w_goto ?_
                exact ih258 _ (by omega) (e + 1) f4 u258_3 hu258_3 u258_4 hu258_4 u258_5 hu258_5 u258_6 hu258_6 rfl (by omega) (by rw [q_fr_s (by omega), ← hf4]; unfold q_stE; first | rw [q_if_t (by omega)] | rw [q_if_f (by omega)])
          exact lp258 _ 1 f3 u190_3 hu190_3 u190_4 hu190_4 u190_5 hu190_5 u190_6 hu190_6 rfl (by omega) (by rw [q_fr_0 (by omega), hf3, show s = iv 155 2 by omega])
        · refine w_loc rfl ?_
          refine w_loc rfl ?_
          have hc15 : pz_R (pz_Sh L) 210 [.inr (.inl 154), .inl s] (pz_u1 (pz_u1 (pz_u1 (pz_u1 iv 154 (iv 154)) 157 f3) 162 r) 163 h) (.inl (some (.inl (pz_bi (q_sta (iv 155) ((iv 155) (212 + 4 * s + 1).toNat)))))) (pz_u1 (pz_u1 (pz_u1 (pz_u1 iv 154 (iv 154)) 157 f3) 162 r) 163 h) := s_X11_hasEnded s (by show q_KR (iv 155); exact hk) (by show 0 ≤ s ∧ s < (iv 155) 2; omega)
          refine w_call hc15 rfl (pz_cokI is_154 rfl) ?_
          refine w_bne (fun h16 => ?_) (fun h16 => ?_)
          · refine pz_G_of pz_b240_211 ?_
            refine w_loc rfl ?_
            refine w_loc rfl ?_
            refine w_loc rfl ?_
            have hc17 : pz_R (pz_Sh L) 206 [.inr (.inl 154), .inl s] (pz_u1 (pz_u1 (pz_u1 (pz_u1 iv 154 (iv 154)) 157 f3) 162 r) 163 h) (.inl (some (.inl ((iv 155) (212 + 4 * s).toNat)))) (pz_u1 (pz_u1 (pz_u1 (pz_u1 iv 154 (iv 154)) 157 f3) 162 r) 163 h) := s_X11_first s (by show 0 ≤ s ∧ s ≤ 2; omega)
            refine w_call hc17 rfl (pz_cokI is_154 rfl) ?_
            refine w_loc rfl ?_
            refine w_loc rfl ?_
            have hc18 : pz_R (pz_Sh L) 207 [.inr (.inl 154), .inl s] (pz_u1 (pz_u1 (pz_u1 (pz_u1 iv 154 (iv 154)) 157 f3) 162 r) 163 h) (.inl (some (.inl ((iv 155) (212 + 4 * s + 1).toNat)))) (pz_u1 (pz_u1 (pz_u1 (pz_u1 iv 154 (iv 154)) 157 f3) 162 r) 163 h) := s_X11_endOf s (by show 0 ≤ s ∧ s ≤ 2; omega)
            refine w_call hc18 rfl (pz_cokI is_154 rfl) ?_
            refine w_loc rfl ?_
            refine w_loc rfl ?_
            have hc19 : pz_R (pz_Sh L) 209 [.inr (.inl 154), .inl s] (pz_u1 (pz_u1 (pz_u1 (pz_u1 iv 154 (iv 154)) 157 f3) 162 r) 163 h) (.inl (some (.inl ((iv 155) (212 + 4 * s + 3).toNat)))) (pz_u1 (pz_u1 (pz_u1 (pz_u1 iv 154 (iv 154)) 157 f3) 162 r) 163 h) := s_X11_greatest s (by show 0 ≤ s ∧ s ≤ 2; omega)
            refine w_call hc19 rfl (pz_cokI is_154 rfl) ?_
            have hc20 : pz_R (pz_Sh L) 224 [.inr (.inl 154), .inl ((iv 155) (212 + 4 * s).toNat), .inl ((iv 155) (212 + 4 * s + 1).toNat), .inl ((iv 155) (212 + 4 * s + 3).toNat)] (pz_u1 (pz_u1 (pz_u1 (pz_u1 iv 154 (iv 154)) 157 f3) 162 r) 163 h) (.inl none) (pz_u1 (pz_u1 (pz_u1 (pz_u1 iv 154 (iv 154)) 157 (q_eg f3 ((iv 155) (212 + 4 * s).toNat) ((iv 155) (212 + 4 * s + 1).toNat) ((iv 155) (212 + 4 * s + 3).toNat))) 162 r) 163 h) := pz_R_mem (s_X11_edge ((iv 155) (212 + 4 * s).toNat) ((iv 155) (212 + 4 * s + 1).toNat) ((iv 155) (212 + 4 * s + 3).toNat) (by show 0 ≤ ((iv 155) (212 + 4 * s).toNat) ∧ ((iv 155) (212 + 4 * s).toNat) ≤ 9; omega) (by show 0 ≤ ((iv 155) (212 + 4 * s + 1).toNat) ∧ ((iv 155) (212 + 4 * s + 1).toNat) ≤ 9; omega)) (by rw [pz_u1_in (r := 157) (q := 163) (by decide)]; rw [pz_u1_in (r := 157) (q := 162) (by decide)]; rw [pz_u1_top (r := 157)]; rfl)
            refine w_callv hc20 rfl (pz_cokI is_154 rfl) ?_
            refine w_loc rfl ?_
            refine w_loc rfl ?_
            refine w_loc rfl ?_
            have hc21 : pz_R (pz_Sh L) 207 [.inr (.inl 154), .inl s] (pz_u1 (pz_u1 (pz_u1 (pz_u1 iv 154 (iv 154)) 157 (q_eg f3 ((iv 155) (212 + 4 * s).toNat) ((iv 155) (212 + 4 * s + 1).toNat) ((iv 155) (212 + 4 * s + 3).toNat))) 162 r) 163 h) (.inl (some (.inl ((iv 155) (212 + 4 * s + 1).toNat)))) (pz_u1 (pz_u1 (pz_u1 (pz_u1 iv 154 (iv 154)) 157 (q_eg f3 ((iv 155) (212 + 4 * s).toNat) ((iv 155) (212 + 4 * s + 1).toNat) ((iv 155) (212 + 4 * s + 3).toNat))) 162 r) 163 h) := s_X11_endOf s (by show 0 ≤ s ∧ s ≤ 2; omega)
            refine w_call hc21 rfl (pz_cokI is_154 rfl) ?_
            refine w_loc rfl ?_
            refine w_loc rfl ?_
            have hc22 : pz_R (pz_Sh L) 206 [.inr (.inl 154), .inl s] (pz_u1 (pz_u1 (pz_u1 (pz_u1 iv 154 (iv 154)) 157 (q_eg f3 ((iv 155) (212 + 4 * s).toNat) ((iv 155) (212 + 4 * s + 1).toNat) ((iv 155) (212 + 4 * s + 3).toNat))) 162 r) 163 h) (.inl (some (.inl ((iv 155) (212 + 4 * s).toNat)))) (pz_u1 (pz_u1 (pz_u1 (pz_u1 iv 154 (iv 154)) 157 (q_eg f3 ((iv 155) (212 + 4 * s).toNat) ((iv 155) (212 + 4 * s + 1).toNat) ((iv 155) (212 + 4 * s + 3).toNat))) 162 r) 163 h) := s_X11_first s (by show 0 ≤ s ∧ s ≤ 2; omega)
            refine w_call hc22 rfl (pz_cokI is_154 rfl) ?_
            refine w_loc rfl ?_
            refine w_loc rfl ?_
            have hc23 : pz_R (pz_Sh L) 208 [.inr (.inl 154), .inl s] (pz_u1 (pz_u1 (pz_u1 (pz_u1 iv 154 (iv 154)) 157 (q_eg f3 ((iv 155) (212 + 4 * s).toNat) ((iv 155) (212 + 4 * s + 1).toNat) ((iv 155) (212 + 4 * s + 3).toNat))) 162 r) 163 h) (.inl (some (.inl ((iv 155) (212 + 4 * s + 2).toNat)))) (pz_u1 (pz_u1 (pz_u1 (pz_u1 iv 154 (iv 154)) 157 (q_eg f3 ((iv 155) (212 + 4 * s).toNat) ((iv 155) (212 + 4 * s + 1).toNat) ((iv 155) (212 + 4 * s + 3).toNat))) 162 r) 163 h) := s_X11_least s (by show 0 ≤ s ∧ s ≤ 2; omega)
            refine w_call hc23 rfl (pz_cokI is_154 rfl) ?_
            refine w_ineg (by omega) ?_
            have hc24 : pz_R (pz_Sh L) 224 [.inr (.inl 154), .inl ((iv 155) (212 + 4 * s + 1).toNat), .inl ((iv 155) (212 + 4 * s).toNat), .inl (-((iv 155) (212 + 4 * s + 2).toNat))] (pz_u1 (pz_u1 (pz_u1 (pz_u1 iv 154 (iv 154)) 157 (q_eg f3 ((iv 155) (212 + 4 * s).toNat) ((iv 155) (212 + 4 * s + 1).toNat) ((iv 155) (212 + 4 * s + 3).toNat))) 162 r) 163 h) (.inl none) (pz_u1 (pz_u1 (pz_u1 (pz_u1 iv 154 (iv 154)) 157 (q_eg (q_eg f3 ((iv 155) (212 + 4 * s).toNat) ((iv 155) (212 + 4 * s + 1).toNat) ((iv 155) (212 + 4 * s + 3).toNat)) ((iv 155) (212 + 4 * s + 1).toNat) ((iv 155) (212 + 4 * s).toNat) (-((iv 155) (212 + 4 * s + 2).toNat)))) 162 r) 163 h) := pz_R_mem (s_X11_edge ((iv 155) (212 + 4 * s + 1).toNat) ((iv 155) (212 + 4 * s).toNat) (-((iv 155) (212 + 4 * s + 2).toNat)) (by show 0 ≤ ((iv 155) (212 + 4 * s + 1).toNat) ∧ ((iv 155) (212 + 4 * s + 1).toNat) ≤ 9; omega) (by show 0 ≤ ((iv 155) (212 + 4 * s).toNat) ∧ ((iv 155) (212 + 4 * s).toNat) ≤ 9; omega)) (by rw [pz_u1_in (r := 157) (q := 163) (by decide)]; rw [pz_u1_in (r := 157) (q := 162) (by decide)]; rw [pz_u1_top (r := 157)]; rfl)
            refine w_callv hc24 rfl (pz_cokI is_154 rfl) ?_
            refine w_nil ?_
            refine pz_G_of pz_b240_250 ?_
            refine w_iinc (ls' := [some (.inr (.inl 154)), some (.inl z), some (.inl (s + 1)), u190_3, u190_4, u190_5, u190_6]) rfl rfl rfl (by omega) ?_
            refine w_goto ?_
            exact ih190 _ (by omega) (s + 1) (q_eg (q_eg f3 ((iv 155) (212 + 4 * s).toNat) ((iv 155) (212 + 4 * s + 1).toNat) ((iv 155) (212 + 4 * s + 3).toNat)) ((iv 155) (212 + 4 * s + 1).toNat) ((iv 155) (212 + 4 * s).toNat) (-((iv 155) (212 + 4 * s + 2).toNat))) u190_3 hu190_3 u190_4 hu190_4 u190_5 hu190_5 u190_6 hu190_6 rfl (by omega) (by rw [q_fr_s (by omega), ← hf3]; unfold q_sgS; first | rw [q_if_t (by omega)] | rw [q_if_f (by omega)])
          · refine w_goto ?_
            refine pz_G_of pz_b240_250 ?_
            refine w_iinc (ls' := [some (.inr (.inl 154)), some (.inl z), some (.inl (s + 1)), u190_3, u190_4, u190_5, u190_6]) rfl rfl rfl (by omega) ?_
            refine w_goto ?_
            exact ih190 _ (by omega) (s + 1) f3 u190_3 hu190_3 u190_4 hu190_4 u190_5 hu190_5 u190_6 hu190_6 rfl (by omega) (by rw [q_fr_s (by omega), ← hf3]; unfold q_sgS; first | rw [q_if_t (by omega)] | rw [q_if_f (by omega)])
      exact lp190 _ 0 f u8_3 hu8_3 u8_4 hu8_4 u8_5 hu8_5 u8_6 hu8_6 rfl (by omega) (by rw [q_fr_0 (by omega)])
    · refine w_loc rfl ?_
      refine w_loc rfl ?_
      have hc25 : pz_R (pz_Sh L) 239 [.inr (.inl 154), .inl p] (pz_u1 (pz_u1 (pz_u1 (pz_u1 iv 154 (iv 154)) 157 f) 162 r) 163 h) (.inl none) (pz_u1 (pz_u1 (pz_u1 (pz_u1 iv 154 (iv 154)) 157 f) 162 ((q_rt (iv 155) p (r, h)).1)) 163 ((q_rt (iv 155) p (r, h)).2)) := pz_R_mem (s_X11_roots p (by show q_KR (iv 155); exact hk)) (by rw [pz_u1_in (r := 162) (q := 163) (by decide)]; rw [pz_u1_top (r := 162)]; rw [pz_u1_top (r := 163)]; rfl)
      refine w_callv hc25 rfl (pz_cokI is_154 rfl) ?_
      refine w_pure rfl ?_
      refine w_loc (ls' := [some (.inr (.inl 154)), some (.inl z), some (.inl p), some (.inl 0), u8_4, u8_5, u8_6]) (st' := []) rfl ?_
      refine w_nil ?_
      have lp27 : ∀ (dd : Nat) (z2 : Int) (b : Int) (f2 : Nat → Int) (u27_4 : Option pz_V) (hu27_4 : pz_nc u27_4 = true) (u27_5 : Option pz_V) (hu27_5 : pz_nc u27_5 = true) (u27_6 : Option pz_V) (hu27_6 : pz_nc u27_6 = true), (iv 155 1 - b).toNat = dd → ∀ (hb : 0 ≤ b ∧ b ≤ iv 155 1), ∀ (hf2 : f2 = q_fr (q_sgB (iv 155) (q_rt (iv 155) p (r, h)).1 (q_rt (iv 155) p (r, h)).2) 0 b f), ∀ (hz2 : z2 = pz_bi (q_all (q_sgA (iv 155) (q_clr (iv 157), iv 162, iv 163)) p ∧ q_all (q_sgO (iv 155) (q_rt (iv 155) p (r, h)).1 (q_rt (iv 155) p (r, h)).2) b)),  pz_G 240 27 [some (.inr (.inl 154)), some (.inl z2), some (.inl p), some (.inl b), u27_4, u27_5, u27_6] [] (pz_Sh L, pz_u1 (pz_u1 (pz_u1 (pz_u1 iv 154 (iv 154)) 157 f2) 162 ((q_rt (iv 155) p (r, h)).1)) 163 ((q_rt (iv 155) p (r, h)).2), dv, cc, ss) (pz_P (pz_Sh L) (.inl (some (.inl (pz_bi (q_ok (q_sgF (iv 155) (q_clr (iv 157), (iv 162), (iv 163))) ∧ q_all (q_sgA (iv 155) (q_clr (iv 157), (iv 162), (iv 163))) (q_p2 ((iv 155) 2))))))) (pz_u1 (pz_u1 (pz_u1 (pz_u1 iv 154 (pz_up (iv 154) 0 0)) 157 (q_cg (q_sgF (iv 155) (q_clr (iv 157), (iv 162), (iv 163))))) 162 ((q_sg (iv 155) (q_p2 ((iv 155) 2)) (q_clr (iv 157), (iv 162), (iv 163))).2.1)) 163 ((q_sg (iv 155) (q_p2 ((iv 155) 2)) (q_clr (iv 157), (iv 162), (iv 163))).2.2)) dv cc ss) := by
        intro dd27
        induction dd27 using Nat.strongRecOn with
        | _ dd27 ih27 =>
        intro z2 b f2 u27_4 hu27_4 u27_5 hu27_5 u27_6 hu27_6 hd27 hb hf2 hz2
        have hbr := fun h => hk.bd hb.1 h
        have hrr := q_rt_r (p := p) (x := (r, h)) hk
        have hr1 := fun h1 h2 => hrr (iv 155 (52 + 4 * b).toNat) h1 h2
        have hr2 := fun h1 h2 => hrr (iv 155 (52 + 4 * b + 1).toNat) h1 h2
        refine pz_G_of pz_b240_27 ?_
        refine w_loc rfl ?_
        refine w_loc rfl ?_
        refine w_getR (q := 155) is_154 rf_154_1 ?_
        refine w_pure rfl ?_
        refine w_iald (v := (iv 155) 1) is_155 ln_155 ⟨by omega, by omega⟩ rfl ?_
        refine w_ige (fun h26 => ?_) (fun h26 => ?_)
        · refine pz_G_of pz_b240_182 ?_
          refine w_iinc (ls' := [some (.inr (.inl 154)), some (.inl z2), some (.inl (p + 1)), some (.inl b), u27_4, u27_5, u27_6]) rfl rfl rfl (by omega) ?_
          refine w_goto ?_
          exact ih8 _ (by omega) z2 (p + 1) f2 ((q_rt (iv 155) p (r, h)).1) ((q_rt (iv 155) p (r, h)).2) (some (.inl b)) rfl u27_4 hu27_4 u27_5 hu27_5 u27_6 hu27_6 rfl (by omega) (by rw [hf2, show b = iv 155 1 by omega]; exact q_sg_s hp.1 hy) (by exact q_sgA_s hp.1 hy (by omega) hz2)
        · refine w_loc rfl ?_
          refine w_loc rfl ?_
          have hc27 : pz_R (pz_Sh L) 203 [.inr (.inl 154), .inl b] (pz_u1 (pz_u1 (pz_u1 (pz_u1 iv 154 (iv 154)) 157 f2) 162 ((q_rt (iv 155) p (r, h)).1)) 163 ((q_rt (iv 155) p (r, h)).2)) (.inl (some (.inl (pz_bi (q_hld (iv 155) b))))) (pz_u1 (pz_u1 (pz_u1 (pz_u1 iv 154 (iv 154)) 157 f2) 162 ((q_rt (iv 155) p (r, h)).1)) 163 ((q_rt (iv 155) p (r, h)).2)) := s_X11_holds b (by show 0 ≤ b ∧ b ≤ 39; omega) (by show (-4 ≤ (iv 155) (52 + 4 * b + 3).toNat ∧ (iv 155) (52 + 4 * b + 3).toNat ≤ 4) ∨ (iv 155) (52 + 4 * b + 3).toNat = 99; omega)
          refine w_call hc27 rfl (pz_cokI is_154 rfl) ?_
          refine w_bne (fun h28 => ?_) (fun h28 => ?_)
          · refine pz_G_of pz_b240_48 ?_
            refine w_loc rfl ?_
            refine w_getR (q := 155) is_154 rf_154_1 ?_
            refine w_pure rfl ?_
            refine w_pure rfl ?_
            refine w_loc rfl ?_
            refine w_imul (by omega) ?_
            refine w_iadd (by omega) ?_
            refine w_iald (v := (iv 155) (52 + (4 * b)).toNat) is_155 ln_155 ⟨by omega, by omega⟩ rfl ?_
            refine w_loc (ls' := [some (.inr (.inl 154)), some (.inl z2), some (.inl p), some (.inl b), some (.inl ((iv 155) (52 + (4 * b)).toNat)), u27_5, u27_6]) (st' := []) rfl ?_
            refine w_loc rfl ?_
            refine w_getR (q := 155) is_154 rf_154_1 ?_
            refine w_pure rfl ?_
            refine w_pure rfl ?_
            refine w_loc rfl ?_
            refine w_imul (by omega) ?_
            refine w_iadd (by omega) ?_
            refine w_pure rfl ?_
            refine w_iadd (by omega) ?_
            refine w_iald (v := (iv 155) ((52 + (4 * b)) + 1).toNat) is_155 ln_155 ⟨by omega, by omega⟩ rfl ?_
            refine w_loc (ls' := [some (.inr (.inl 154)), some (.inl z2), some (.inl p), some (.inl b), some (.inl ((iv 155) (52 + (4 * b)).toNat)), some (.inl ((iv 155) ((52 + (4 * b)) + 1).toNat)), u27_6]) (st' := []) rfl ?_
            refine w_loc rfl ?_
            refine w_getR (q := 155) is_154 rf_154_1 ?_
            refine w_pure rfl ?_
            refine w_pure rfl ?_
            refine w_loc rfl ?_
            refine w_imul (by omega) ?_
            refine w_iadd (by omega) ?_
            refine w_pure rfl ?_
            refine w_iadd (by omega) ?_
            refine w_iald (v := (iv 155) ((52 + (4 * b)) + 2).toNat) is_155 ln_155 ⟨by omega, by omega⟩ rfl ?_
            refine w_loc rfl ?_
            refine w_getR (q := 163) is_154 rf_154_12 ?_
            refine w_loc rfl ?_
            refine w_iald (v := (q_rt (iv 155) p (r, h)).2 ((iv 155) (52 + (4 * b)).toNat).toNat) is_163 ln_163 ⟨by omega, by omega⟩ rfl ?_
            refine w_iadd (by omega) ?_
            refine w_loc rfl ?_
            refine w_getR (q := 163) is_154 rf_154_12 ?_
            refine w_loc rfl ?_
            refine w_iald (v := (q_rt (iv 155) p (r, h)).2 ((iv 155) ((52 + (4 * b)) + 1).toNat).toNat) is_163 ln_163 ⟨by omega, by omega⟩ rfl ?_
            refine w_isub (by omega) ?_
            refine w_loc (ls' := [some (.inr (.inl 154)), some (.inl z2), some (.inl p), some (.inl b), some (.inl ((iv 155) (52 + (4 * b)).toNat)), some (.inl ((iv 155) ((52 + (4 * b)) + 1).toNat)), some (.inl ((((iv 155) ((52 + (4 * b)) + 2).toNat) + ((q_rt (iv 155) p (r, h)).2 ((iv 155) (52 + (4 * b)).toNat).toNat)) - ((q_rt (iv 155) p (r, h)).2 ((iv 155) ((52 + (4 * b)) + 1).toNat).toNat)))]) (st' := []) rfl ?_
            refine w_loc rfl ?_
            refine w_zeq (fun h29 => ?_) (fun h29 => ?_)
            · refine pz_G_of pz_b240_137 ?_
              refine w_pure rfl ?_
              refine w_nil ?_
              refine pz_G_of pz_b240_138 ?_
              refine w_loc (ls' := [some (.inr (.inl 154)), some (.inl 0), some (.inl p), some (.inl b), some (.inl ((iv 155) (52 + (4 * b)).toNat)), some (.inl ((iv 155) ((52 + (4 * b)) + 1).toNat)), some (.inl ((((iv 155) ((52 + (4 * b)) + 2).toNat) + ((q_rt (iv 155) p (r, h)).2 ((iv 155) (52 + (4 * b)).toNat).toNat)) - ((q_rt (iv 155) p (r, h)).2 ((iv 155) ((52 + (4 * b)) + 1).toNat).toNat)))]) (st' := []) rfl ?_
              refine w_loc rfl ?_
              refine w_getR (q := 162) is_154 rf_154_11 ?_
              refine w_loc rfl ?_
              refine w_iald (v := (q_rt (iv 155) p (r, h)).1 ((iv 155) (52 + (4 * b)).toNat).toNat) is_162 ln_162 ⟨by omega, by omega⟩ rfl ?_
              refine w_loc rfl ?_
              refine w_getR (q := 162) is_154 rf_154_11 ?_
              refine w_loc rfl ?_
              refine w_iald (v := (q_rt (iv 155) p (r, h)).1 ((iv 155) ((52 + (4 * b)) + 1).toNat).toNat) is_162 ln_162 ⟨by omega, by omega⟩ rfl ?_
              refine w_ieq (fun h30 => ?_) (fun h30 => ?_)
              · refine pz_G_of pz_b240_176 ?_
                refine w_iinc (ls' := [some (.inr (.inl 154)), some (.inl 0), some (.inl p), some (.inl (b + 1)), some (.inl ((iv 155) (52 + (4 * b)).toNat)), some (.inl ((iv 155) ((52 + (4 * b)) + 1).toNat)), some (.inl ((((iv 155) ((52 + (4 * b)) + 2).toNat) + ((q_rt (iv 155) p (r, h)).2 ((iv 155) (52 + (4 * b)).toNat).toNat)) - ((q_rt (iv 155) p (r, h)).2 ((iv 155) ((52 + (4 * b)) + 1).toNat).toNat)))]) rfl rfl rfl (by omega) ?_
                refine w_goto ?_
                exact ih27 _ (by omega) 0 (b + 1) f2 (some (.inl ((iv 155) (52 + (4 * b)).toNat))) rfl (some (.inl ((iv 155) ((52 + (4 * b)) + 1).toNat))) rfl (some (.inl ((((iv 155) ((52 + (4 * b)) + 2).toNat) + ((q_rt (iv 155) p (r, h)).2 ((iv 155) (52 + (4 * b)).toNat).toNat)) - ((q_rt (iv 155) p (r, h)).2 ((iv 155) ((52 + (4 * b)) + 1).toNat).toNat)))) rfl rfl (by omega) (by rw [q_fr_s (by omega), ← hf2]; unfold q_sgB; first | (exfalso; omega) | rw [q_if_f (by omega)] | rw [q_if_t (by omega), q_if_t (by omega)] | rw [q_if_t (by omega), q_if_f (by omega)]) (by first | exact q_aal_t hz2 (by omega) (by omega) (by omega) | exact q_aal_f1 hz2 (by omega) (by omega) | exact q_aal_f2 (by omega) (by omega) | exact q_aal_k hz2 (by omega) (by omega))
              · refine w_loc rfl ?_
                refine w_loc rfl ?_
                refine w_getR (q := 162) is_154 rf_154_11 ?_
                refine w_loc rfl ?_
                refine w_iald (v := (q_rt (iv 155) p (r, h)).1 ((iv 155) (52 + (4 * b)).toNat).toNat) is_162 ln_162 ⟨by omega, by omega⟩ rfl ?_
                refine w_loc rfl ?_
                refine w_getR (q := 162) is_154 rf_154_11 ?_
                refine w_loc rfl ?_
                refine w_iald (v := (q_rt (iv 155) p (r, h)).1 ((iv 155) ((52 + (4 * b)) + 1).toNat).toNat) is_162 ln_162 ⟨by omega, by omega⟩ rfl ?_
                refine w_loc rfl ?_
                have hc31 : pz_R (pz_Sh L) 224 [.inr (.inl 154), .inl ((q_rt (iv 155) p (r, h)).1 ((iv 155) (52 + (4 * b)).toNat).toNat), .inl ((q_rt (iv 155) p (r, h)).1 ((iv 155) ((52 + (4 * b)) + 1).toNat).toNat), .inl ((((iv 155) ((52 + (4 * b)) + 2).toNat) + ((q_rt (iv 155) p (r, h)).2 ((iv 155) (52 + (4 * b)).toNat).toNat)) - ((q_rt (iv 155) p (r, h)).2 ((iv 155) ((52 + (4 * b)) + 1).toNat).toNat))] (pz_u1 (pz_u1 (pz_u1 (pz_u1 iv 154 (iv 154)) 157 f2) 162 ((q_rt (iv 155) p (r, h)).1)) 163 ((q_rt (iv 155) p (r, h)).2)) (.inl none) (pz_u1 (pz_u1 (pz_u1 (pz_u1 iv 154 (iv 154)) 157 (q_eg f2 ((q_rt (iv 155) p (r, h)).1 ((iv 155) (52 + (4 * b)).toNat).toNat) ((q_rt (iv 155) p (r, h)).1 ((iv 155) ((52 + (4 * b)) + 1).toNat).toNat) ((((iv 155) ((52 + (4 * b)) + 2).toNat) + ((q_rt (iv 155) p (r, h)).2 ((iv 155) (52 + (4 * b)).toNat).toNat)) - ((q_rt (iv 155) p (r, h)).2 ((iv 155) ((52 + (4 * b)) + 1).toNat).toNat)))) 162 ((q_rt (iv 155) p (r, h)).1)) 163 ((q_rt (iv 155) p (r, h)).2)) := pz_R_mem (s_X11_edge ((q_rt (iv 155) p (r, h)).1 ((iv 155) (52 + (4 * b)).toNat).toNat) ((q_rt (iv 155) p (r, h)).1 ((iv 155) ((52 + (4 * b)) + 1).toNat).toNat) ((((iv 155) ((52 + (4 * b)) + 2).toNat) + ((q_rt (iv 155) p (r, h)).2 ((iv 155) (52 + (4 * b)).toNat).toNat)) - ((q_rt (iv 155) p (r, h)).2 ((iv 155) ((52 + (4 * b)) + 1).toNat).toNat)) (by show 0 ≤ ((q_rt (iv 155) p (r, h)).1 ((iv 155) (52 + (4 * b)).toNat).toNat) ∧ ((q_rt (iv 155) p (r, h)).1 ((iv 155) (52 + (4 * b)).toNat).toNat) ≤ 9; omega) (by show 0 ≤ ((q_rt (iv 155) p (r, h)).1 ((iv 155) ((52 + (4 * b)) + 1).toNat).toNat) ∧ ((q_rt (iv 155) p (r, h)).1 ((iv 155) ((52 + (4 * b)) + 1).toNat).toNat) ≤ 9; omega)) (by rw [pz_u1_in (r := 157) (q := 163) (by decide)]; rw [pz_u1_in (r := 157) (q := 162) (by decide)]; rw [pz_u1_top (r := 157)]; rfl)
                refine w_callv hc31 rfl (pz_cokI is_154 rfl) ?_
                refine w_nil ?_
                refine pz_G_of pz_b240_176 ?_
                refine w_iinc (ls' := [some (.inr (.inl 154)), some (.inl 0), some (.inl p), some (.inl (b + 1)), some (.inl ((iv 155) (52 + (4 * b)).toNat)), some (.inl ((iv 155) ((52 + (4 * b)) + 1).toNat)), some (.inl ((((iv 155) ((52 + (4 * b)) + 2).toNat) + ((q_rt (iv 155) p (r, h)).2 ((iv 155) (52 + (4 * b)).toNat).toNat)) - ((q_rt (iv 155) p (r, h)).2 ((iv 155) ((52 + (4 * b)) + 1).toNat).toNat)))]) rfl rfl rfl (by omega) ?_
                refine w_goto ?_
                exact ih27 _ (by omega) 0 (b + 1) (q_eg f2 ((q_rt (iv 155) p (r, h)).1 ((iv 155) (52 + (4 * b)).toNat).toNat) ((q_rt (iv 155) p (r, h)).1 ((iv 155) ((52 + (4 * b)) + 1).toNat).toNat) ((((iv 155) ((52 + (4 * b)) + 2).toNat) + ((q_rt (iv 155) p (r, h)).2 ((iv 155) (52 + (4 * b)).toNat).toNat)) - ((q_rt (iv 155) p (r, h)).2 ((iv 155) ((52 + (4 * b)) + 1).toNat).toNat))) (some (.inl ((iv 155) (52 + (4 * b)).toNat))) rfl (some (.inl ((iv 155) ((52 + (4 * b)) + 1).toNat))) rfl (some (.inl ((((iv 155) ((52 + (4 * b)) + 2).toNat) + ((q_rt (iv 155) p (r, h)).2 ((iv 155) (52 + (4 * b)).toNat).toNat)) - ((q_rt (iv 155) p (r, h)).2 ((iv 155) ((52 + (4 * b)) + 1).toNat).toNat)))) rfl rfl (by omega) (by rw [q_fr_s (by omega), ← hf2]; unfold q_sgB; first | (exfalso; omega) | rw [q_if_f (by omega)] | rw [q_if_t (by omega), q_if_t (by omega)] | rw [q_if_t (by omega), q_if_f (by omega)]) (by first | exact q_aal_t hz2 (by omega) (by omega) (by omega) | exact q_aal_f1 hz2 (by omega) (by omega) | exact q_aal_f2 (by omega) (by omega) | exact q_aal_k hz2 (by omega) (by omega))
            · refine w_loc rfl ?_
              refine w_getR (q := 162) is_154 rf_154_11 ?_
              refine w_loc rfl ?_
              refine w_iald (v := (q_rt (iv 155) p (r, h)).1 ((iv 155) (52 + (4 * b)).toNat).toNat) is_162 ln_162 ⟨by omega, by omega⟩ rfl ?_
              refine w_loc rfl ?_
              refine w_getR (q := 162) is_154 rf_154_11 ?_
              refine w_loc rfl ?_
              refine w_iald (v := (q_rt (iv 155) p (r, h)).1 ((iv 155) ((52 + (4 * b)) + 1).toNat).toNat) is_162 ln_162 ⟨by omega, by omega⟩ rfl ?_
              refine w_ine (fun h32 => ?_) (fun h32 => ?_)
              · refine pz_G_of pz_b240_133 ?_
                refine w_pure rfl ?_
                refine w_goto ?_
                refine pz_G_of pz_b240_138 ?_
                refine w_loc (ls' := [some (.inr (.inl 154)), some (.inl 1), some (.inl p), some (.inl b), some (.inl ((iv 155) (52 + (4 * b)).toNat)), some (.inl ((iv 155) ((52 + (4 * b)) + 1).toNat)), some (.inl ((((iv 155) ((52 + (4 * b)) + 2).toNat) + ((q_rt (iv 155) p (r, h)).2 ((iv 155) (52 + (4 * b)).toNat).toNat)) - ((q_rt (iv 155) p (r, h)).2 ((iv 155) ((52 + (4 * b)) + 1).toNat).toNat)))]) (st' := []) rfl ?_
                refine w_loc rfl ?_
                refine w_getR (q := 162) is_154 rf_154_11 ?_
                refine w_loc rfl ?_
                refine w_iald (v := (q_rt (iv 155) p (r, h)).1 ((iv 155) (52 + (4 * b)).toNat).toNat) is_162 ln_162 ⟨by omega, by omega⟩ rfl ?_
                refine w_loc rfl ?_
                refine w_getR (q := 162) is_154 rf_154_11 ?_
                refine w_loc rfl ?_
                refine w_iald (v := (q_rt (iv 155) p (r, h)).1 ((iv 155) ((52 + (4 * b)) + 1).toNat).toNat) is_162 ln_162 ⟨by omega, by omega⟩ rfl ?_
                refine w_ieq (fun h33 => ?_) (fun h33 => ?_)
                · refine pz_G_of pz_b240_176 ?_
                  refine w_iinc (ls' := [some (.inr (.inl 154)), some (.inl 1), some (.inl p), some (.inl (b + 1)), some (.inl ((iv 155) (52 + (4 * b)).toNat)), some (.inl ((iv 155) ((52 + (4 * b)) + 1).toNat)), some (.inl ((((iv 155) ((52 + (4 * b)) + 2).toNat) + ((q_rt (iv 155) p (r, h)).2 ((iv 155) (52 + (4 * b)).toNat).toNat)) - ((q_rt (iv 155) p (r, h)).2 ((iv 155) ((52 + (4 * b)) + 1).toNat).toNat)))]) rfl rfl rfl (by omega) ?_
                  refine w_goto ?_
                  exact ih27 _ (by omega) 1 (b + 1) f2 (some (.inl ((iv 155) (52 + (4 * b)).toNat))) rfl (some (.inl ((iv 155) ((52 + (4 * b)) + 1).toNat))) rfl (some (.inl ((((iv 155) ((52 + (4 * b)) + 2).toNat) + ((q_rt (iv 155) p (r, h)).2 ((iv 155) (52 + (4 * b)).toNat).toNat)) - ((q_rt (iv 155) p (r, h)).2 ((iv 155) ((52 + (4 * b)) + 1).toNat).toNat)))) rfl rfl (by omega) (by rw [q_fr_s (by omega), ← hf2]; unfold q_sgB; first | (exfalso; omega) | rw [q_if_f (by omega)] | rw [q_if_t (by omega), q_if_t (by omega)] | rw [q_if_t (by omega), q_if_f (by omega)]) (by first | exact q_aal_t hz2 (by omega) (by omega) (by omega) | exact q_aal_f1 hz2 (by omega) (by omega) | exact q_aal_f2 (by omega) (by omega) | exact q_aal_k hz2 (by omega) (by omega))
                · refine w_loc rfl ?_
                  refine w_loc rfl ?_
                  refine w_getR (q := 162) is_154 rf_154_11 ?_
                  refine w_loc rfl ?_
                  refine w_iald (v := (q_rt (iv 155) p (r, h)).1 ((iv 155) (52 + (4 * b)).toNat).toNat) is_162 ln_162 ⟨by omega, by omega⟩ rfl ?_
                  refine w_loc rfl ?_
                  refine w_getR (q := 162) is_154 rf_154_11 ?_
                  refine w_loc rfl ?_
                  refine w_iald (v := (q_rt (iv 155) p (r, h)).1 ((iv 155) ((52 + (4 * b)) + 1).toNat).toNat) is_162 ln_162 ⟨by omega, by omega⟩ rfl ?_
                  refine w_loc rfl ?_
                  have hc34 : pz_R (pz_Sh L) 224 [.inr (.inl 154), .inl ((q_rt (iv 155) p (r, h)).1 ((iv 155) (52 + (4 * b)).toNat).toNat), .inl ((q_rt (iv 155) p (r, h)).1 ((iv 155) ((52 + (4 * b)) + 1).toNat).toNat), .inl ((((iv 155) ((52 + (4 * b)) + 2).toNat) + ((q_rt (iv 155) p (r, h)).2 ((iv 155) (52 + (4 * b)).toNat).toNat)) - ((q_rt (iv 155) p (r, h)).2 ((iv 155) ((52 + (4 * b)) + 1).toNat).toNat))] (pz_u1 (pz_u1 (pz_u1 (pz_u1 iv 154 (iv 154)) 157 f2) 162 ((q_rt (iv 155) p (r, h)).1)) 163 ((q_rt (iv 155) p (r, h)).2)) (.inl none) (pz_u1 (pz_u1 (pz_u1 (pz_u1 iv 154 (iv 154)) 157 (q_eg f2 ((q_rt (iv 155) p (r, h)).1 ((iv 155) (52 + (4 * b)).toNat).toNat) ((q_rt (iv 155) p (r, h)).1 ((iv 155) ((52 + (4 * b)) + 1).toNat).toNat) ((((iv 155) ((52 + (4 * b)) + 2).toNat) + ((q_rt (iv 155) p (r, h)).2 ((iv 155) (52 + (4 * b)).toNat).toNat)) - ((q_rt (iv 155) p (r, h)).2 ((iv 155) ((52 + (4 * b)) + 1).toNat).toNat)))) 162 ((q_rt (iv 155) p (r, h)).1)) 163 ((q_rt (iv 155) p (r, h)).2)) := pz_R_mem (s_X11_edge ((q_rt (iv 155) p (r, h)).1 ((iv 155) (52 + (4 * b)).toNat).toNat) ((q_rt (iv 155) p (r, h)).1 ((iv 155) ((52 + (4 * b)) + 1).toNat).toNat) ((((iv 155) ((52 + (4 * b)) + 2).toNat) + ((q_rt (iv 155) p (r, h)).2 ((iv 155) (52 + (4 * b)).toNat).toNat)) - ((q_rt (iv 155) p (r, h)).2 ((iv 155) ((52 + (4 * b)) + 1).toNat).toNat)) (by show 0 ≤ ((q_rt (iv 155) p (r, h)).1 ((iv 155) (52 + (4 * b)).toNat).toNat) ∧ ((q_rt (iv 155) p (r, h)).1 ((iv 155) (52 + (4 * b)).toNat).toNat) ≤ 9; omega) (by show 0 ≤ ((q_rt (iv 155) p (r, h)).1 ((iv 155) ((52 + (4 * b)) + 1).toNat).toNat) ∧ ((q_rt (iv 155) p (r, h)).1 ((iv 155) ((52 + (4 * b)) + 1).toNat).toNat) ≤ 9; omega)) (by rw [pz_u1_in (r := 157) (q := 163) (by decide)]; rw [pz_u1_in (r := 157) (q := 162) (by decide)]; rw [pz_u1_top (r := 157)]; rfl)
                  refine w_callv hc34 rfl (pz_cokI is_154 rfl) ?_
                  refine w_nil ?_
                  refine pz_G_of pz_b240_176 ?_
                  refine w_iinc (ls' := [some (.inr (.inl 154)), some (.inl 1), some (.inl p), some (.inl (b + 1)), some (.inl ((iv 155) (52 + (4 * b)).toNat)), some (.inl ((iv 155) ((52 + (4 * b)) + 1).toNat)), some (.inl ((((iv 155) ((52 + (4 * b)) + 2).toNat) + ((q_rt (iv 155) p (r, h)).2 ((iv 155) (52 + (4 * b)).toNat).toNat)) - ((q_rt (iv 155) p (r, h)).2 ((iv 155) ((52 + (4 * b)) + 1).toNat).toNat)))]) rfl rfl rfl (by omega) ?_
                  refine w_goto ?_
                  exact ih27 _ (by omega) 1 (b + 1) (q_eg f2 ((q_rt (iv 155) p (r, h)).1 ((iv 155) (52 + (4 * b)).toNat).toNat) ((q_rt (iv 155) p (r, h)).1 ((iv 155) ((52 + (4 * b)) + 1).toNat).toNat) ((((iv 155) ((52 + (4 * b)) + 2).toNat) + ((q_rt (iv 155) p (r, h)).2 ((iv 155) (52 + (4 * b)).toNat).toNat)) - ((q_rt (iv 155) p (r, h)).2 ((iv 155) ((52 + (4 * b)) + 1).toNat).toNat))) (some (.inl ((iv 155) (52 + (4 * b)).toNat))) rfl (some (.inl ((iv 155) ((52 + (4 * b)) + 1).toNat))) rfl (some (.inl ((((iv 155) ((52 + (4 * b)) + 2).toNat) + ((q_rt (iv 155) p (r, h)).2 ((iv 155) (52 + (4 * b)).toNat).toNat)) - ((q_rt (iv 155) p (r, h)).2 ((iv 155) ((52 + (4 * b)) + 1).toNat).toNat)))) rfl rfl (by omega) (by rw [q_fr_s (by omega), ← hf2]; unfold q_sgB; first | (exfalso; omega) | rw [q_if_f (by omega)] | rw [q_if_t (by omega), q_if_t (by omega)] | rw [q_if_t (by omega), q_if_f (by omega)]) (by first | exact q_aal_t hz2 (by omega) (by omega) (by omega) | exact q_aal_f1 hz2 (by omega) (by omega) | exact q_aal_f2 (by omega) (by omega) | exact q_aal_k hz2 (by omega) (by omega))
              · refine w_loc rfl ?_
                refine w_zlt (fun h35 => ?_) (fun h35 => ?_)
                · refine pz_G_of pz_b240_137 ?_
                  refine w_pure rfl ?_
                  refine w_nil ?_
                  refine pz_G_of pz_b240_138 ?_
                  refine w_loc (ls' := [some (.inr (.inl 154)), some (.inl 0), some (.inl p), some (.inl b), some (.inl ((iv 155) (52 + (4 * b)).toNat)), some (.inl ((iv 155) ((52 + (4 * b)) + 1).toNat)), some (.inl ((((iv 155) ((52 + (4 * b)) + 2).toNat) + ((q_rt (iv 155) p (r, h)).2 ((iv 155) (52 + (4 * b)).toNat).toNat)) - ((q_rt (iv 155) p (r, h)).2 ((iv 155) ((52 + (4 * b)) + 1).toNat).toNat)))]) (st' := []) rfl ?_
                  refine w_loc rfl ?_
                  refine w_getR (q := 162) is_154 rf_154_11 ?_
                  refine w_loc rfl ?_
                  refine w_iald (v := (q_rt (iv 155) p (r, h)).1 ((iv 155) (52 + (4 * b)).toNat).toNat) is_162 ln_162 ⟨by omega, by omega⟩ rfl ?_
                  refine w_loc rfl ?_
                  refine w_getR (q := 162) is_154 rf_154_11 ?_
                  refine w_loc rfl ?_
                  refine w_iald (v := (q_rt (iv 155) p (r, h)).1 ((iv 155) ((52 + (4 * b)) + 1).toNat).toNat) is_162 ln_162 ⟨by omega, by omega⟩ rfl ?_
                  refine w_ieq (fun h36 => ?_) (fun h36 => ?_)
                  · refine pz_G_of pz_b240_176 ?_
                    refine w_iinc (ls' := [some (.inr (.inl 154)), some (.inl 0), some (.inl p), some (.inl (b + 1)), some (.inl ((iv 155) (52 + (4 * b)).toNat)), some (.inl ((iv 155) ((52 + (4 * b)) + 1).toNat)), some (.inl ((((iv 155) ((52 + (4 * b)) + 2).toNat) + ((q_rt (iv 155) p (r, h)).2 ((iv 155) (52 + (4 * b)).toNat).toNat)) - ((q_rt (iv 155) p (r, h)).2 ((iv 155) ((52 + (4 * b)) + 1).toNat).toNat)))]) rfl rfl rfl (by omega) ?_
                    refine w_goto ?_
                    exact ih27 _ (by omega) 0 (b + 1) f2 (some (.inl ((iv 155) (52 + (4 * b)).toNat))) rfl (some (.inl ((iv 155) ((52 + (4 * b)) + 1).toNat))) rfl (some (.inl ((((iv 155) ((52 + (4 * b)) + 2).toNat) + ((q_rt (iv 155) p (r, h)).2 ((iv 155) (52 + (4 * b)).toNat).toNat)) - ((q_rt (iv 155) p (r, h)).2 ((iv 155) ((52 + (4 * b)) + 1).toNat).toNat)))) rfl rfl (by omega) (by rw [q_fr_s (by omega), ← hf2]; unfold q_sgB; first | (exfalso; omega) | rw [q_if_f (by omega)] | rw [q_if_t (by omega), q_if_t (by omega)] | rw [q_if_t (by omega), q_if_f (by omega)]) (by first | exact q_aal_t hz2 (by omega) (by omega) (by omega) | exact q_aal_f1 hz2 (by omega) (by omega) | exact q_aal_f2 (by omega) (by omega) | exact q_aal_k hz2 (by omega) (by omega))
                  · refine w_loc rfl ?_
                    refine w_loc rfl ?_
                    refine w_getR (q := 162) is_154 rf_154_11 ?_
                    refine w_loc rfl ?_
                    refine w_iald (v := (q_rt (iv 155) p (r, h)).1 ((iv 155) (52 + (4 * b)).toNat).toNat) is_162 ln_162 ⟨by omega, by omega⟩ rfl ?_
                    refine w_loc rfl ?_
                    refine w_getR (q := 162) is_154 rf_154_11 ?_
                    refine w_loc rfl ?_
                    refine w_iald (v := (q_rt (iv 155) p (r, h)).1 ((iv 155) ((52 + (4 * b)) + 1).toNat).toNat) is_162 ln_162 ⟨by omega, by omega⟩ rfl ?_
                    refine w_loc rfl ?_
                    have hc37 : pz_R (pz_Sh L) 224 [.inr (.inl 154), .inl ((q_rt (iv 155) p (r, h)).1 ((iv 155) (52 + (4 * b)).toNat).toNat), .inl ((q_rt (iv 155) p (r, h)).1 ((iv 155) ((52 + (4 * b)) + 1).toNat).toNat), .inl ((((iv 155) ((52 + (4 * b)) + 2).toNat) + ((q_rt (iv 155) p (r, h)).2 ((iv 155) (52 + (4 * b)).toNat).toNat)) - ((q_rt (iv 155) p (r, h)).2 ((iv 155) ((52 + (4 * b)) + 1).toNat).toNat))] (pz_u1 (pz_u1 (pz_u1 (pz_u1 iv 154 (iv 154)) 157 f2) 162 ((q_rt (iv 155) p (r, h)).1)) 163 ((q_rt (iv 155) p (r, h)).2)) (.inl none) (pz_u1 (pz_u1 (pz_u1 (pz_u1 iv 154 (iv 154)) 157 (q_eg f2 ((q_rt (iv 155) p (r, h)).1 ((iv 155) (52 + (4 * b)).toNat).toNat) ((q_rt (iv 155) p (r, h)).1 ((iv 155) ((52 + (4 * b)) + 1).toNat).toNat) ((((iv 155) ((52 + (4 * b)) + 2).toNat) + ((q_rt (iv 155) p (r, h)).2 ((iv 155) (52 + (4 * b)).toNat).toNat)) - ((q_rt (iv 155) p (r, h)).2 ((iv 155) ((52 + (4 * b)) + 1).toNat).toNat)))) 162 ((q_rt (iv 155) p (r, h)).1)) 163 ((q_rt (iv 155) p (r, h)).2)) := pz_R_mem (s_X11_edge ((q_rt (iv 155) p (r, h)).1 ((iv 155) (52 + (4 * b)).toNat).toNat) ((q_rt (iv 155) p (r, h)).1 ((iv 155) ((52 + (4 * b)) + 1).toNat).toNat) ((((iv 155) ((52 + (4 * b)) + 2).toNat) + ((q_rt (iv 155) p (r, h)).2 ((iv 155) (52 + (4 * b)).toNat).toNat)) - ((q_rt (iv 155) p (r, h)).2 ((iv 155) ((52 + (4 * b)) + 1).toNat).toNat)) (by show 0 ≤ ((q_rt (iv 155) p (r, h)).1 ((iv 155) (52 + (4 * b)).toNat).toNat) ∧ ((q_rt (iv 155) p (r, h)).1 ((iv 155) (52 + (4 * b)).toNat).toNat) ≤ 9; omega) (by show 0 ≤ ((q_rt (iv 155) p (r, h)).1 ((iv 155) ((52 + (4 * b)) + 1).toNat).toNat) ∧ ((q_rt (iv 155) p (r, h)).1 ((iv 155) ((52 + (4 * b)) + 1).toNat).toNat) ≤ 9; omega)) (by rw [pz_u1_in (r := 157) (q := 163) (by decide)]; rw [pz_u1_in (r := 157) (q := 162) (by decide)]; rw [pz_u1_top (r := 157)]; rfl)
                    refine w_callv hc37 rfl (pz_cokI is_154 rfl) ?_
                    refine w_nil ?_
                    refine pz_G_of pz_b240_176 ?_
                    refine w_iinc (ls' := [some (.inr (.inl 154)), some (.inl 0), some (.inl p), some (.inl (b + 1)), some (.inl ((iv 155) (52 + (4 * b)).toNat)), some (.inl ((iv 155) ((52 + (4 * b)) + 1).toNat)), some (.inl ((((iv 155) ((52 + (4 * b)) + 2).toNat) + ((q_rt (iv 155) p (r, h)).2 ((iv 155) (52 + (4 * b)).toNat).toNat)) - ((q_rt (iv 155) p (r, h)).2 ((iv 155) ((52 + (4 * b)) + 1).toNat).toNat)))]) rfl rfl rfl (by omega) ?_
                    refine w_goto ?_
                    exact ih27 _ (by omega) 0 (b + 1) (q_eg f2 ((q_rt (iv 155) p (r, h)).1 ((iv 155) (52 + (4 * b)).toNat).toNat) ((q_rt (iv 155) p (r, h)).1 ((iv 155) ((52 + (4 * b)) + 1).toNat).toNat) ((((iv 155) ((52 + (4 * b)) + 2).toNat) + ((q_rt (iv 155) p (r, h)).2 ((iv 155) (52 + (4 * b)).toNat).toNat)) - ((q_rt (iv 155) p (r, h)).2 ((iv 155) ((52 + (4 * b)) + 1).toNat).toNat))) (some (.inl ((iv 155) (52 + (4 * b)).toNat))) rfl (some (.inl ((iv 155) ((52 + (4 * b)) + 1).toNat))) rfl (some (.inl ((((iv 155) ((52 + (4 * b)) + 2).toNat) + ((q_rt (iv 155) p (r, h)).2 ((iv 155) (52 + (4 * b)).toNat).toNat)) - ((q_rt (iv 155) p (r, h)).2 ((iv 155) ((52 + (4 * b)) + 1).toNat).toNat)))) rfl rfl (by omega) (by rw [q_fr_s (by omega), ← hf2]; unfold q_sgB; first | (exfalso; omega) | rw [q_if_f (by omega)] | rw [q_if_t (by omega), q_if_t (by omega)] | rw [q_if_t (by omega), q_if_f (by omega)]) (by first | exact q_aal_t hz2 (by omega) (by omega) (by omega) | exact q_aal_f1 hz2 (by omega) (by omega) | exact q_aal_f2 (by omega) (by omega) | exact q_aal_k hz2 (by omega) (by omega))
                · refine w_nil ?_
                  refine pz_G_of pz_b240_133 ?_
                  refine w_pure rfl ?_
                  refine w_goto ?_
                  refine pz_G_of pz_b240_138 ?_
                  refine w_loc (ls' := [some (.inr (.inl 154)), some (.inl 1), some (.inl p), some (.inl b), some (.inl ((iv 155) (52 + (4 * b)).toNat)), some (.inl ((iv 155) ((52 + (4 * b)) + 1).toNat)), some (.inl ((((iv 155) ((52 + (4 * b)) + 2).toNat) + ((q_rt (iv 155) p (r, h)).2 ((iv 155) (52 + (4 * b)).toNat).toNat)) - ((q_rt (iv 155) p (r, h)).2 ((iv 155) ((52 + (4 * b)) + 1).toNat).toNat)))]) (st' := []) rfl ?_
                  refine w_loc rfl ?_
                  refine w_getR (q := 162) is_154 rf_154_11 ?_
                  refine w_loc rfl ?_
                  refine w_iald (v := (q_rt (iv 155) p (r, h)).1 ((iv 155) (52 + (4 * b)).toNat).toNat) is_162 ln_162 ⟨by omega, by omega⟩ rfl ?_
                  refine w_loc rfl ?_
                  refine w_getR (q := 162) is_154 rf_154_11 ?_
                  refine w_loc rfl ?_
                  refine w_iald (v := (q_rt (iv 155) p (r, h)).1 ((iv 155) ((52 + (4 * b)) + 1).toNat).toNat) is_162 ln_162 ⟨by omega, by omega⟩ rfl ?_
                  refine w_ieq (fun h38 => ?_) (fun h38 => ?_)
                  · refine pz_G_of pz_b240_176 ?_
                    refine w_iinc (ls' := [some (.inr (.inl 154)), some (.inl 1), some (.inl p), some (.inl (b + 1)), some (.inl ((iv 155) (52 + (4 * b)).toNat)), some (.inl ((iv 155) ((52 + (4 * b)) + 1).toNat)), some (.inl ((((iv 155) ((52 + (4 * b)) + 2).toNat) + ((q_rt (iv 155) p (r, h)).2 ((iv 155) (52 + (4 * b)).toNat).toNat)) - ((q_rt (iv 155) p (r, h)).2 ((iv 155) ((52 + (4 * b)) + 1).toNat).toNat)))]) rfl rfl rfl (by omega) ?_
                    refine w_goto ?_
                    exact ih27 _ (by omega) 1 (b + 1) f2 (some (.inl ((iv 155) (52 + (4 * b)).toNat))) rfl (some (.inl ((iv 155) ((52 + (4 * b)) + 1).toNat))) rfl (some (.inl ((((iv 155) ((52 + (4 * b)) + 2).toNat) + ((q_rt (iv 155) p (r, h)).2 ((iv 155) (52 + (4 * b)).toNat).toNat)) - ((q_rt (iv 155) p (r, h)).2 ((iv 155) ((52 + (4 * b)) + 1).toNat).toNat)))) rfl rfl (by omega) (by rw [q_fr_s (by omega), ← hf2]; unfold q_sgB; first | (exfalso; omega) | rw [q_if_f (by omega)] | rw [q_if_t (by omega), q_if_t (by omega)] | rw [q_if_t (by omega), q_if_f (by omega)]) (by first | exact q_aal_t hz2 (by omega) (by omega) (by omega) | exact q_aal_f1 hz2 (by omega) (by omega) | exact q_aal_f2 (by omega) (by omega) | exact q_aal_k hz2 (by omega) (by omega))
                  · refine w_loc rfl ?_
                    refine w_loc rfl ?_
                    refine w_getR (q := 162) is_154 rf_154_11 ?_
                    refine w_loc rfl ?_
                    refine w_iald (v := (q_rt (iv 155) p (r, h)).1 ((iv 155) (52 + (4 * b)).toNat).toNat) is_162 ln_162 ⟨by omega, by omega⟩ rfl ?_
                    refine w_loc rfl ?_
                    refine w_getR (q := 162) is_154 rf_154_11 ?_
                    refine w_loc rfl ?_
                    refine w_iald (v := (q_rt (iv 155) p (r, h)).1 ((iv 155) ((52 + (4 * b)) + 1).toNat).toNat) is_162 ln_162 ⟨by omega, by omega⟩ rfl ?_
                    refine w_loc rfl ?_
                    have hc39 : pz_R (pz_Sh L) 224 [.inr (.inl 154), .inl ((q_rt (iv 155) p (r, h)).1 ((iv 155) (52 + (4 * b)).toNat).toNat), .inl ((q_rt (iv 155) p (r, h)).1 ((iv 155) ((52 + (4 * b)) + 1).toNat).toNat), .inl ((((iv 155) ((52 + (4 * b)) + 2).toNat) + ((q_rt (iv 155) p (r, h)).2 ((iv 155) (52 + (4 * b)).toNat).toNat)) - ((q_rt (iv 155) p (r, h)).2 ((iv 155) ((52 + (4 * b)) + 1).toNat).toNat))] (pz_u1 (pz_u1 (pz_u1 (pz_u1 iv 154 (iv 154)) 157 f2) 162 ((q_rt (iv 155) p (r, h)).1)) 163 ((q_rt (iv 155) p (r, h)).2)) (.inl none) (pz_u1 (pz_u1 (pz_u1 (pz_u1 iv 154 (iv 154)) 157 (q_eg f2 ((q_rt (iv 155) p (r, h)).1 ((iv 155) (52 + (4 * b)).toNat).toNat) ((q_rt (iv 155) p (r, h)).1 ((iv 155) ((52 + (4 * b)) + 1).toNat).toNat) ((((iv 155) ((52 + (4 * b)) + 2).toNat) + ((q_rt (iv 155) p (r, h)).2 ((iv 155) (52 + (4 * b)).toNat).toNat)) - ((q_rt (iv 155) p (r, h)).2 ((iv 155) ((52 + (4 * b)) + 1).toNat).toNat)))) 162 ((q_rt (iv 155) p (r, h)).1)) 163 ((q_rt (iv 155) p (r, h)).2)) := pz_R_mem (s_X11_edge ((q_rt (iv 155) p (r, h)).1 ((iv 155) (52 + (4 * b)).toNat).toNat) ((q_rt (iv 155) p (r, h)).1 ((iv 155) ((52 + (4 * b)) + 1).toNat).toNat) ((((iv 155) ((52 + (4 * b)) + 2).toNat) + ((q_rt (iv 155) p (r, h)).2 ((iv 155) (52 + (4 * b)).toNat).toNat)) - ((q_rt (iv 155) p (r, h)).2 ((iv 155) ((52 + (4 * b)) + 1).toNat).toNat)) (by show 0 ≤ ((q_rt (iv 155) p (r, h)).1 ((iv 155) (52 + (4 * b)).toNat).toNat) ∧ ((q_rt (iv 155) p (r, h)).1 ((iv 155) (52 + (4 * b)).toNat).toNat) ≤ 9; omega) (by show 0 ≤ ((q_rt (iv 155) p (r, h)).1 ((iv 155) ((52 + (4 * b)) + 1).toNat).toNat) ∧ ((q_rt (iv 155) p (r, h)).1 ((iv 155) ((52 + (4 * b)) + 1).toNat).toNat) ≤ 9; omega)) (by rw [pz_u1_in (r := 157) (q := 163) (by decide)]; rw [pz_u1_in (r := 157) (q := 162) (by decide)]; rw [pz_u1_top (r := 157)]; rfl)
                    refine w_callv hc39 rfl (pz_cokI is_154 rfl) ?_
                    refine w_nil ?_
                    refine pz_G_of pz_b240_176 ?_
                    refine w_iinc (ls' := [some (.inr (.inl 154)), some (.inl 1), some (.inl p), some (.inl (b + 1)), some (.inl ((iv 155) (52 + (4 * b)).toNat)), some (.inl ((iv 155) ((52 + (4 * b)) + 1).toNat)), some (.inl ((((iv 155) ((52 + (4 * b)) + 2).toNat) + ((q_rt (iv 155) p (r, h)).2 ((iv 155) (52 + (4 * b)).toNat).toNat)) - ((q_rt (iv 155) p (r, h)).2 ((iv 155) ((52 + (4 * b)) + 1).toNat).toNat)))]) rfl rfl rfl (by omega) ?_
                    refine w_goto ?_
                    exact ih27 _ (by omega) 1 (b + 1) (q_eg f2 ((q_rt (iv 155) p (r, h)).1 ((iv 155) (52 + (4 * b)).toNat).toNat) ((q_rt (iv 155) p (r, h)).1 ((iv 155) ((52 + (4 * b)) + 1).toNat).toNat) ((((iv 155) ((52 + (4 * b)) + 2).toNat) + ((q_rt (iv 155) p (r, h)).2 ((iv 155) (52 + (4 * b)).toNat).toNat)) - ((q_rt (iv 155) p (r, h)).2 ((iv 155) ((52 + (4 * b)) + 1).toNat).toNat))) (some (.inl ((iv 155) (52 + (4 * b)).toNat))) rfl (some (.inl ((iv 155) ((52 + (4 * b)) + 1).toNat))) rfl (some (.inl ((((iv 155) ((52 + (4 * b)) + 2).toNat) + ((q_rt (iv 155) p (r, h)).2 ((iv 155) (52 + (4 * b)).toNat).toNat)) - ((q_rt (iv 155) p (r, h)).2 ((iv 155) ((52 + (4 * b)) + 1).toNat).toNat)))) rfl rfl (by omega) (by rw [q_fr_s (by omega), ← hf2]; unfold q_sgB; first | (exfalso; omega) | rw [q_if_f (by omega)] | rw [q_if_t (by omega), q_if_t (by omega)] | rw [q_if_t (by omega), q_if_f (by omega)]) (by first | exact q_aal_t hz2 (by omega) (by omega) (by omega) | exact q_aal_f1 hz2 (by omega) (by omega) | exact q_aal_f2 (by omega) (by omega) | exact q_aal_k hz2 (by omega) (by omega))
          · refine w_goto ?_
            refine pz_G_of pz_b240_176 ?_
            refine w_iinc (ls' := [some (.inr (.inl 154)), some (.inl z2), some (.inl p), some (.inl (b + 1)), u27_4, u27_5, u27_6]) rfl rfl rfl (by omega) ?_
            refine w_goto ?_
            exact ih27 _ (by omega) z2 (b + 1) f2 u27_4 hu27_4 u27_5 hu27_5 u27_6 hu27_6 rfl (by omega) (by rw [q_fr_s (by omega), ← hf2]; unfold q_sgB; first | (exfalso; omega) | rw [q_if_f (by omega)] | rw [q_if_t (by omega), q_if_t (by omega)] | rw [q_if_t (by omega), q_if_f (by omega)]) (by first | exact q_aal_t hz2 (by omega) (by omega) (by omega) | exact q_aal_f1 hz2 (by omega) (by omega) | exact q_aal_f2 (by omega) (by omega) | exact q_aal_k hz2 (by omega) (by omega))
      exact lp27 _ z 0 f u8_4 hu8_4 u8_5 hu8_5 u8_6 hu8_6 rfl (by omega) (by rw [q_fr_0 (by omega)]) (by rw [hz]; exact pz_bi_iff ⟨fun q => ⟨q, fun i g1 g2 => by omega⟩, fun q => q.1⟩)
  exact lp8 _ 1 0 (q_clr (iv 157)) (iv 162) (iv 163) (none) rfl (none) rfl (none) rfl (none) rfl rfl (by omega) (by exact (q_fr_0 (by omega)).symm) (by exact q_all_0 (by omega))
