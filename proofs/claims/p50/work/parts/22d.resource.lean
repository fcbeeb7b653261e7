/-! the law's resource -/
theorem t_res_e {L C S : Nat} {sc k d kf : Nat → Int} {n : Int} {Q : pz_Q} (hd : t_d k d) (hk : q_KR k) (fn : c_isConsistent k = 1) (K : ∀ (e sm : Int) (x5 x6 : Option pz_V) (iv : Nat → Nat → Int) (dv : Nat → Nat → UInt64) (cc ss : Nat), t_I sc k d n kf iv → 0 ≤ sm → cc ≤ C → ss ≤ S → pz_G 229 126 [some (.inr (.inl 2)), some (.inr (.inl 154)), some (.inr (.inr (.inl (sm)))), none, some (.inl (e)), x5, x6] [] (pz_Sh L, iv, dv, cc, ss) Q) : ∀ (m9 : Nat) (e sm : Int) (x5 x6 : Option pz_V) (iv : Nat → Nat → Int) (dv : Nat → Nat → UInt64) (cc ss : Nat), 0 ≤ e → e ≤ k 0 → k 0 - e < m9 → 0 ≤ sm → sm ≤ 99000000 * e → t_I sc k d n kf iv → (cc : Int) + 3 * (k 0 - e) ≤ C → (ss : Int) + 18 * (k 0 - e) ≤ S → pz_G 229 46 [some (.inr (.inl 2)), some (.inr (.inl 154)), some (.inr (.inr (.inl (sm)))), none, some (.inl (e)), x5, x6] [] (pz_Sh L, iv, dv, cc, ss) Q := by
  intro m9
  have h0 := hk.r0
  induction m9 with
  | zero => intro e sm x5 x6 iv dv cc ss l1 l2 l3; omega
  | succ m9 ih =>
    intro e sm x5 x6 iv dv cc ss l1 l2 l3 b1 b2 hI l4 l5
    refine pz_G_of pz_b229_46 ?_
    refine w_loc rfl ?_
    refine w_loc rfl ?_
    refine w_pure rfl ?_
    refine w_iald is_154 ln_154 ⟨by omega, by omega⟩ (t_I_d0 hI hd) ?_
    refine w_ige (fun h1 => ?_) (fun h1 => ?_)
    · skip
      exact K e sm _ _ _ _ _ _ hI (by omega) (by omega) (by omega)
    · skip
      have f1 := f_fti hk (e := e) (by omega) fn
      have f2 : c_firstTime k e < 1000 → 0 ≤ c_costOf k e (c_firstTime k e) ∧ c_costOf k e (c_firstTime k e) ≤ 99000000 := fun q => f_cst hk (by omega) (by omega)
      refine w_loc rfl ?_
      refine w_loc rfl ?_
      refine w_callO (t_S_firstTime (e := e) hI) rfl rfl (fun iv2 dv3 cc4 ss5 hI6 hc7 hs8 => ?_)
      refine w_loc (ls' := [some (.inr (.inl 2)), some (.inr (.inl 154)), some (.inr (.inr (.inl (sm)))), none, some (.inl (e)), some (.inl (c_firstTime k e)), x6]) (st' := []) rfl ?_
      refine w_loc rfl ?_
      refine w_loc rfl ?_
      refine w_pure rfl ?_
      refine w_callO (t_S_distance (f := e) (t := 0) hI6) rfl rfl (fun iv9 dv10 cc11 ss12 hI13 hc14 hs15 => ?_)
      refine w_loc (ls' := [some (.inr (.inl 2)), some (.inr (.inl 154)), some (.inr (.inr (.inl (sm)))), none, some (.inl (e)), some (.inl (c_firstTime k e)), some (.inl (c_distance k e 0))]) (st' := []) rfl ?_
      refine w_loc rfl ?_
      refine w_loc rfl ?_
      refine w_ldcn ?_
      refine w_ine (fun h16 => ?_) (fun h16 => ?_)
      · skip
        refine pz_G_of pz_b229_84 ?_
        refine w_pure rfl ?_
        refine w_loc rfl ?_
        refine w_ineg ⟨by omega, by omega⟩ ?_
        refine w_call (s_J_max (0) (-(c_distance k e 0))) rfl rfl ?_
        refine w_nil ?_
        refine pz_G_of pz_b229_91 ?_
        refine w_ieq (fun h17 => ?_) (fun h17 => ?_)
        · skip
          refine pz_G_of pz_b229_96 ?_
          refine w_loc rfl ?_
          refine w_loc rfl ?_
          refine w_pure rfl ?_
          refine w_ige (fun h18 => ?_) (fun h18 => ?_)
          · skip
            refine pz_G_of pz_b229_117 ?_
            refine w_pure rfl ?_
            refine w_nil ?_
            refine pz_G_of pz_b229_118 ?_
            refine w_ladd ⟨by omega, by omega⟩ ?_
            refine w_loc (ls' := [some (.inr (.inl 2)), some (.inr (.inl 154)), some (.inr (.inr (.inl (sm + 0)))), none, some (.inl (e)), some (.inl (c_firstTime k e)), some (.inl (c_distance k e 0))]) (st' := []) rfl ?_
            refine w_iinc rfl rfl (ls' := [some (.inr (.inl 2)), some (.inr (.inl 154)), some (.inr (.inr (.inl (sm + 0)))), none, some (.inl (e + 1)), some (.inl (c_firstTime k e)), some (.inl (c_distance k e 0))]) rfl ⟨by omega, by omega⟩ ?_
            refine w_goto ?_
            exact ih (e + 1) _ _ _ _ _ _ _ (by omega) (by omega) (by omega) (by omega) (by omega) hI13 (by omega) (by omega)
          · skip
            refine w_loc rfl ?_
            refine w_loc rfl ?_
            refine w_loc rfl ?_
            refine w_callO (t_S_costOf (e := e) (m := c_firstTime k e) hI13) rfl rfl (fun iv19 dv20 cc21 ss22 hI23 hc24 hs25 => ?_)
            refine w_pure rfl ?_
            refine w_goto ?_
            refine pz_G_of pz_b229_118 ?_
            refine w_ladd ⟨by omega, by omega⟩ ?_
            refine w_loc (ls' := [some (.inr (.inl 2)), some (.inr (.inl 154)), some (.inr (.inr (.inl (sm + c_costOf k e (c_firstTime k e))))), none, some (.inl (e)), some (.inl (c_firstTime k e)), some (.inl (c_distance k e 0))]) (st' := []) rfl ?_
            refine w_iinc rfl rfl (ls' := [some (.inr (.inl 2)), some (.inr (.inl 154)), some (.inr (.inr (.inl (sm + c_costOf k e (c_firstTime k e))))), none, some (.inl (e + 1)), some (.inl (c_firstTime k e)), some (.inl (c_distance k e 0))]) rfl ⟨by omega, by omega⟩ ?_
            refine w_goto ?_
            exact ih (e + 1) _ _ _ _ _ _ _ (by omega) (by omega) (by omega) (by omega) (by omega) hI23 (by omega) (by omega)
        · skip
          refine w_pure rfl ?_
          exfalso
          omega
      · skip
        refine w_pure rfl ?_
        refine w_goto ?_
        refine pz_G_of pz_b229_91 ?_
        refine w_ieq (fun h26 => ?_) (fun h26 => ?_)
        · skip
          refine pz_G_of pz_b229_96 ?_
          refine w_loc rfl ?_
          refine w_loc rfl ?_
          refine w_pure rfl ?_
          refine w_ige (fun h27 => ?_) (fun h27 => ?_)
          · skip
            refine pz_G_of pz_b229_117 ?_
            refine w_pure rfl ?_
            refine w_nil ?_
            refine pz_G_of pz_b229_118 ?_
            refine w_ladd ⟨by omega, by omega⟩ ?_
            refine w_loc (ls' := [some (.inr (.inl 2)), some (.inr (.inl 154)), some (.inr (.inr (.inl (sm + 0)))), none, some (.inl (e)), some (.inl (c_firstTime k e)), some (.inl (c_distance k e 0))]) (st' := []) rfl ?_
            refine w_iinc rfl rfl (ls' := [some (.inr (.inl 2)), some (.inr (.inl 154)), some (.inr (.inr (.inl (sm + 0)))), none, some (.inl (e + 1)), some (.inl (c_firstTime k e)), some (.inl (c_distance k e 0))]) rfl ⟨by omega, by omega⟩ ?_
            refine w_goto ?_
            exact ih (e + 1) _ _ _ _ _ _ _ (by omega) (by omega) (by omega) (by omega) (by omega) hI13 (by omega) (by omega)
          · skip
            refine w_loc rfl ?_
            refine w_loc rfl ?_
            refine w_loc rfl ?_
            refine w_callO (t_S_costOf (e := e) (m := c_firstTime k e) hI13) rfl rfl (fun iv28 dv29 cc30 ss31 hI32 hc33 hs34 => ?_)
            refine w_pure rfl ?_
            refine w_goto ?_
            refine pz_G_of pz_b229_118 ?_
            refine w_ladd ⟨by omega, by omega⟩ ?_
            refine w_loc (ls' := [some (.inr (.inl 2)), some (.inr (.inl 154)), some (.inr (.inr (.inl (sm + c_costOf k e (c_firstTime k e))))), none, some (.inl (e)), some (.inl (c_firstTime k e)), some (.inl (c_distance k e 0))]) (st' := []) rfl ?_
            refine w_iinc rfl rfl (ls' := [some (.inr (.inl 2)), some (.inr (.inl 154)), some (.inr (.inr (.inl (sm + c_costOf k e (c_firstTime k e))))), none, some (.inl (e + 1)), some (.inl (c_firstTime k e)), some (.inl (c_distance k e 0))]) rfl ⟨by omega, by omega⟩ ?_
            refine w_goto ?_
            exact ih (e + 1) _ _ _ _ _ _ _ (by omega) (by omega) (by omega) (by omega) (by omega) hI32 (by omega) (by omega)
        · skip
          refine w_pure rfl ?_
          exfalso
          omega
theorem t_L_resource {L : Nat} {sc k d kf : Nat → Int} {n : Int} {iv : Nat → Nat → Int} (hI : t_I sc k d n kf iv) (hd : t_d k d) (h5 : k 5 = 9) : t_O L 229 [.inr (.inl 2), .inr (.inl 154)] iv (.inl 1) 60 (t_I sc k d n kf) := by
  intro dv cc ss
  have hk := hI.2.1
  have h0 := hk.r0
  show pz_G 229 0 [some (.inr (.inl 2)), some (.inr (.inl 154)), none, none, none, none, none] [] (pz_Sh L, iv, dv, cc, ss) (t_OP L (.inl 1) 60 (t_I sc k d n kf) cc ss)
  rcases f_con01 k with fn | fn
  · obtain ⟨r1, r2, r3, r4⟩ := f_res0 hk fn
    refine pz_G_of pz_b229_0 ?_
    refine w_loc rfl ?_
    refine w_callO (t_S_isConsistent hI) rfl (pz_cokI is_2 rfl) (fun iv1 dv2 cc3 ss4 hI5 hc6 hs7 => ?_)
    refine w_zne (fun h8 => absurd h8 (by omega)) (fun h8 => ?_)
    refine w_loc rfl ?_
    refine w_callO (t_S_peak hI5) rfl rfl (fun iv9 dv10 cc11 ss12 hI13 hc14 hs15 => ?_)
    refine w_ldcn ?_
    refine w_ine (fun h16 => absurd h16 (by omega)) (fun h16 => ?_)
    refine w_loc rfl ?_
    refine w_pure rfl ?_
    refine w_callO (t_S_firstTime (e := 0) hI13) rfl rfl (fun iv17 dv18 cc19 ss20 hI21 hc22 hs23 => ?_)
    refine w_ldcn ?_
    refine w_ine (fun h24 => absurd h24 (by omega)) (fun h24 => ?_)
    refine w_loc rfl ?_
    refine w_callO (t_S_level hI21) rfl rfl (fun iv25 dv26 cc27 ss28 hI29 hc30 hs31 => ?_)
    rw [r4] at hI29
    refine w_ldcn ?_
    refine w_ine (fun h32 => absurd h32 (by omega)) (fun h32 => ?_)
    refine w_pure rfl ?_
    refine w_goto ?_
    refine pz_G_of pz_b229_40 ?_
    refine w_ret rfl ?_
    exact ⟨_, _, _, _, rfl, rfl, by omega, by omega, hI29⟩
  · obtain ⟨r1, r2⟩ := f_cap h5
    have f1 := f_peak hk fn
    refine pz_G_of pz_b229_0 ?_
    refine w_loc rfl ?_
    refine w_callO (t_S_isConsistent hI) rfl (pz_cokI is_2 rfl) (fun iv33 dv34 cc35 ss36 hI37 hc38 hs39 => ?_)
    refine w_zne (fun h40 => ?_) (fun h40 => absurd h40 (by omega))
    refine pz_G_of pz_b229_41 ?_
    refine w_pure rfl ?_
    refine w_loc (ls' := [some (.inr (.inl 2)), some (.inr (.inl 154)), some (.inr (.inr (.inl (0)))), none, none, none, none]) (st' := []) rfl ?_
    refine w_pure rfl ?_
    refine w_loc (ls' := [some (.inr (.inl 2)), some (.inr (.inl 154)), some (.inr (.inr (.inl (0)))), none, some (.inl (0)), none, none]) (st' := []) rfl ?_
    refine w_nil ?_
    refine t_res_e (C := cc35 + 30) (S := ss36 + 180) hd hk fn (fun e9 sm y5 y6 iv9 dv9 cc9 ss9 hI9 q9 hC9 hS9 => ?_) (k 0 + 1).toNat 0 0 _ _ _ _ _ _ (by omega) (by omega) (by omega) (by omega) (by omega) hI37 (by omega) (by omega)
    have f9 := f_sg_r sm
    refine pz_G_of pz_b229_126 ?_
    refine w_loc rfl ?_
    refine w_callO (t_S_peak hI9) rfl rfl (fun iv41 dv42 cc43 ss44 hI45 hc46 hs47 => ?_)
    refine w_loc (ls' := [some (.inr (.inl 2)), some (.inr (.inl 154)), some (.inr (.inr (.inl (sm)))), none, some (.inl (c_peak k)), y5, y6]) (st' := []) rfl ?_
    refine w_loc rfl ?_
    refine w_ldcn ?_
    refine w_ine (fun h48 => ?_) (fun h48 => ?_)
    · skip
      refine pz_G_of pz_b229_143 ?_
      refine w_pure rfl ?_
      refine w_nil ?_
      refine pz_G_of pz_b229_144 ?_
      refine w_loc rfl ?_
      refine w_callO (t_S_peakSet hI45) rfl rfl (fun iv49 dv50 cc51 ss52 hI53 hc54 hs55 => ?_)
      refine w_ldcn ?_
      refine w_ine (fun h56 => ?_) (fun h56 => ?_)
      · skip
        refine pz_G_of pz_b229_157 ?_
        refine w_pure rfl ?_
        refine w_nil ?_
        refine pz_G_of pz_b229_158 ?_
        refine w_ine (fun h57 => absurd h57 (by omega)) (fun h57 => ?_)
        refine w_loc rfl ?_
        refine w_zlt (fun h58 => ?_) (fun h58 => ?_)
        · skip
          refine pz_G_of pz_b229_200 ?_
          refine w_loc rfl ?_
          refine w_pure rfl ?_
          refine w_lcmpg (by omega) ?_
          refine w_zlt (fun h59 => ?_) (fun h59 => ?_)
          · skip
            refine pz_G_of pz_b229_210 ?_
            refine w_pure rfl ?_
            refine w_nil ?_
            refine pz_G_of pz_b229_211 ?_
            exfalso
            omega
          · skip
            refine w_pure rfl ?_
            refine w_goto ?_
            refine pz_G_of pz_b229_211 ?_
            refine w_ret rfl ?_
            exact ⟨_, _, _, _, rfl, rfl, by omega, by omega, hI53⟩
        · skip
          refine w_loc rfl ?_
          refine w_pure rfl ?_
          refine w_igt (fun h60 => ?_) (fun h60 => ?_)
          · skip
            refine pz_G_of pz_b229_200 ?_
            refine w_loc rfl ?_
            refine w_pure rfl ?_
            refine w_lcmpg (by omega) ?_
            refine w_zlt (fun h61 => ?_) (fun h61 => ?_)
            · skip
              refine pz_G_of pz_b229_210 ?_
              refine w_pure rfl ?_
              refine w_nil ?_
              refine pz_G_of pz_b229_211 ?_
              exfalso
              omega
            · skip
              refine w_pure rfl ?_
              refine w_goto ?_
              refine pz_G_of pz_b229_211 ?_
              refine w_ret rfl ?_
              exact ⟨_, _, _, _, rfl, rfl, by omega, by omega, hI53⟩
          · skip
            refine w_loc rfl ?_
            refine w_loc rfl ?_
            refine w_callO (t_S_use (m := c_peak k) hI53) rfl rfl (fun iv62 dv63 cc64 ss65 hI66 hc67 hs68 => ?_)
            refine w_loc rfl ?_
            refine w_pure rfl ?_
            refine w_callO (t_S_setCapacity (c := 9) hI66) rfl rfl (fun iv69 dv70 cc71 ss72 hI73 hc74 hs75 => ?_)
            rw [r2] at hI73
            refine w_ile (fun h76 => ?_) (fun h76 => ?_)
            · skip
              refine pz_G_of pz_b229_210 ?_
              refine w_pure rfl ?_
              refine w_nil ?_
              refine pz_G_of pz_b229_211 ?_
              exfalso
              omega
            · skip
              refine w_loc rfl ?_
              refine w_pure rfl ?_
              refine w_callO (t_S_setCapacity (c := 9) hI73) rfl rfl (fun iv77 dv78 cc79 ss80 hI81 hc82 hs83 => ?_)
              rw [r2] at hI81
              refine w_pure rfl ?_
              refine w_ine (fun h84 => ?_) (fun h84 => ?_)
              · skip
                refine pz_G_of pz_b229_210 ?_
                refine w_pure rfl ?_
                refine w_nil ?_
                refine pz_G_of pz_b229_211 ?_
                exfalso
                omega
              · skip
                refine w_nil ?_
                refine pz_G_of pz_b229_200 ?_
                refine w_loc rfl ?_
                refine w_pure rfl ?_
                refine w_lcmpg (by omega) ?_
                refine w_zlt (fun h85 => ?_) (fun h85 => ?_)
                · skip
                  refine pz_G_of pz_b229_210 ?_
                  refine w_pure rfl ?_
                  refine w_nil ?_
                  refine pz_G_of pz_b229_211 ?_
                  exfalso
                  omega
                · skip
                  refine w_pure rfl ?_
                  refine w_goto ?_
                  refine pz_G_of pz_b229_211 ?_
                  refine w_ret rfl ?_
                  exact ⟨_, _, _, _, rfl, rfl, by omega, by omega, hI81⟩
      · skip
        refine w_pure rfl ?_
        refine w_goto ?_
        refine pz_G_of pz_b229_158 ?_
        refine w_ine (fun h86 => ?_) (fun h86 => absurd h86 (by omega))
        refine pz_G_of pz_b229_210 ?_
        refine w_pure rfl ?_
        refine w_nil ?_
        refine pz_G_of pz_b229_211 ?_
        exfalso
        omega
    · skip
      refine w_pure rfl ?_
      refine w_goto ?_
      refine pz_G_of pz_b229_144 ?_
      refine w_loc rfl ?_
      refine w_callO (t_S_peakSet hI45) rfl rfl (fun iv87 dv88 cc89 ss90 hI91 hc92 hs93 => ?_)
      refine w_ldcn ?_
      refine w_ine (fun h94 => ?_) (fun h94 => ?_)
      · skip
        refine pz_G_of pz_b229_157 ?_
        refine w_pure rfl ?_
        refine w_nil ?_
        refine pz_G_of pz_b229_158 ?_
        refine w_ine (fun h95 => ?_) (fun h95 => absurd h95 (by omega))
        refine pz_G_of pz_b229_210 ?_
        refine w_pure rfl ?_
        refine w_nil ?_
        refine pz_G_of pz_b229_211 ?_
        exfalso
        omega
      · skip
        refine w_pure rfl ?_
        refine w_goto ?_
        refine pz_G_of pz_b229_158 ?_
        refine w_ine (fun h96 => absurd h96 (by omega)) (fun h96 => ?_)
        refine w_loc rfl ?_
        refine w_zlt (fun h97 => ?_) (fun h97 => ?_)
        · skip
          refine pz_G_of pz_b229_200 ?_
          refine w_loc rfl ?_
          refine w_pure rfl ?_
          refine w_lcmpg (by omega) ?_
          refine w_zlt (fun h98 => ?_) (fun h98 => ?_)
          · skip
            refine pz_G_of pz_b229_210 ?_
            refine w_pure rfl ?_
            refine w_nil ?_
            refine pz_G_of pz_b229_211 ?_
            exfalso
            omega
          · skip
            refine w_pure rfl ?_
            refine w_goto ?_
            refine pz_G_of pz_b229_211 ?_
            refine w_ret rfl ?_
            exact ⟨_, _, _, _, rfl, rfl, by omega, by omega, hI91⟩
        · skip
          refine w_loc rfl ?_
          refine w_pure rfl ?_
          refine w_igt (fun h99 => ?_) (fun h99 => ?_)
          · skip
            refine pz_G_of pz_b229_200 ?_
            refine w_loc rfl ?_
            refine w_pure rfl ?_
            refine w_lcmpg (by omega) ?_
            refine w_zlt (fun h100 => ?_) (fun h100 => ?_)
            · skip
              refine pz_G_of pz_b229_210 ?_
              refine w_pure rfl ?_
              refine w_nil ?_
              refine pz_G_of pz_b229_211 ?_
              exfalso
              omega
            · skip
              refine w_pure rfl ?_
              refine w_goto ?_
              refine pz_G_of pz_b229_211 ?_
              refine w_ret rfl ?_
              exact ⟨_, _, _, _, rfl, rfl, by omega, by omega, hI91⟩
          · skip
            refine w_loc rfl ?_
            refine w_loc rfl ?_
            refine w_callO (t_S_use (m := c_peak k) hI91) rfl rfl (fun iv101 dv102 cc103 ss104 hI105 hc106 hs107 => ?_)
            refine w_loc rfl ?_
            refine w_pure rfl ?_
            refine w_callO (t_S_setCapacity (c := 9) hI105) rfl rfl (fun iv108 dv109 cc110 ss111 hI112 hc113 hs114 => ?_)
            rw [r2] at hI112
            refine w_ile (fun h115 => ?_) (fun h115 => ?_)
            · skip
              refine pz_G_of pz_b229_210 ?_
              refine w_pure rfl ?_
              refine w_nil ?_
              refine pz_G_of pz_b229_211 ?_
              exfalso
              omega
            · skip
              refine w_loc rfl ?_
              refine w_pure rfl ?_
              refine w_callO (t_S_setCapacity (c := 9) hI112) rfl rfl (fun iv116 dv117 cc118 ss119 hI120 hc121 hs122 => ?_)
              rw [r2] at hI120
              refine w_pure rfl ?_
              refine w_ine (fun h123 => ?_) (fun h123 => ?_)
              · skip
                refine pz_G_of pz_b229_210 ?_
                refine w_pure rfl ?_
                refine w_nil ?_
                refine pz_G_of pz_b229_211 ?_
                exfalso
                omega
              · skip
                refine w_nil ?_
                refine pz_G_of pz_b229_200 ?_
                refine w_loc rfl ?_
                refine w_pure rfl ?_
                refine w_lcmpg (by omega) ?_
                refine w_zlt (fun h124 => ?_) (fun h124 => ?_)
                · skip
                  refine pz_G_of pz_b229_210 ?_
                  refine w_pure rfl ?_
                  refine w_nil ?_
                  refine pz_G_of pz_b229_211 ?_
                  exfalso
                  omega
                · skip
                  refine w_pure rfl ?_
                  refine w_goto ?_
                  refine pz_G_of pz_b229_211 ?_
                  refine w_ret rfl ?_
                  exact ⟨_, _, _, _, rfl, rfl, by omega, by omega, hI120⟩
