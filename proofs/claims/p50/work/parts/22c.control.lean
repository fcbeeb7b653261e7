/-! the law's control -/
theorem t_ctl_b0 {L C S : Nat} {sc k d kf : Nat → Int} {n : Int} {a : Int} {Q : pz_Q} (hd : t_d k d) (hk : q_KR k) (sn : c_isSeen k = 0) (ha : 0 ≤ a ∧ a < k 0) (K : ∀ (b : Int) (x4 : Option pz_V) (iv : Nat → Nat → Int) (dv : Nat → Nat → UInt64) (cc ss : Nat), t_I sc k d n kf iv → 0 ≤ b → cc ≤ C → ss ≤ S → pz_G 227 151 [some (.inr (.inl 2)), some (.inr (.inl 154)), some (.inl (a)), some (.inl (b)), x4] [] (pz_Sh L, iv, dv, cc, ss) Q) : ∀ (m9 : Nat) (b : Int) (x4 : Option pz_V) (iv : Nat → Nat → Int) (dv : Nat → Nat → UInt64) (cc ss : Nat), 0 ≤ b → b ≤ k 0 → k 0 - b < m9 → t_I sc k d n kf iv → (cc : Int) + 4 * (k 0 - b) ≤ C → (ss : Int) + 24 * (k 0 - b) ≤ S → pz_G 227 71 [some (.inr (.inl 2)), some (.inr (.inl 154)), some (.inl (a)), some (.inl (b)), x4] [] (pz_Sh L, iv, dv, cc, ss) Q := by
  intro m9
  have h0 := hk.r0
  induction m9 with
  | zero => intro b x4 iv dv cc ss l1 l2 l3; omega
  | succ m9 ih =>
    intro b x4 iv dv cc ss l1 l2 l3 hI l4 l5
    refine pz_G_of pz_b227_71 ?_
    refine w_loc rfl ?_
    refine w_loc rfl ?_
    refine w_pure rfl ?_
    refine w_iald is_154 ln_154 ⟨by omega, by omega⟩ (t_I_d0 hI hd) ?_
    refine w_ige (fun h1 => ?_) (fun h1 => ?_)
    · skip
      exact K b _ _ _ _ _ hI (by omega) (by omega) (by omega)
    · skip
      have f1 := f_red hk ha (b := b) (by omega)
      have f2 := f_dis hk ha (b := b) (by omega)
      refine w_loc rfl ?_
      refine w_loc rfl ?_
      refine w_loc rfl ?_
      refine w_callO (t_S_reduced (f := a) (t := b) hI) rfl rfl (fun iv2 dv3 cc4 ss5 hI6 hc7 hs8 => ?_)
      refine w_loc (ls' := [some (.inr (.inl 2)), some (.inr (.inl 154)), some (.inl (a)), some (.inl (b)), some (.inl (c_reduced k a b))]) (st' := []) rfl ?_
      refine w_loc rfl ?_
      refine w_ldcn ?_
      refine w_ine (fun h9 => ?_) (fun h9 => ?_)
      · skip
        refine pz_G_of pz_b227_97 ?_
        refine w_pure rfl ?_
        refine w_nil ?_
        refine pz_G_of pz_b227_98 ?_
        refine w_loc rfl ?_
        refine w_callO (t_S_isSeen hI6) rfl (pz_cokI is_2 rfl) (fun iv10 dv11 cc12 ss13 hI14 hc15 hs16 => ?_)
        refine w_ine (fun h17 => absurd h17 (by omega)) (fun h17 => ?_)
        refine w_pure rfl ?_
        exfalso
        omega
      · skip
        refine w_pure rfl ?_
        refine w_goto ?_
        refine pz_G_of pz_b227_98 ?_
        refine w_loc rfl ?_
        refine w_callO (t_S_isSeen hI6) rfl (pz_cokI is_2 rfl) (fun iv18 dv19 cc20 ss21 hI22 hc23 hs24 => ?_)
        refine w_ine (fun h25 => ?_) (fun h25 => absurd h25 (by omega))
        refine pz_G_of pz_b227_107 ?_
        refine w_loc rfl ?_
        refine w_callO (t_S_isSeen hI22) rfl (pz_cokI is_2 rfl) (fun iv26 dv27 cc28 ss29 hI30 hc31 hs32 => ?_)
        refine w_zeq (fun h33 => ?_) (fun h33 => absurd h33 (by omega))
        refine pz_G_of pz_b227_145 ?_
        refine w_iinc rfl rfl (ls' := [some (.inr (.inl 2)), some (.inr (.inl 154)), some (.inl (a)), some (.inl (b + 1)), some (.inl (c_reduced k a b))]) rfl ⟨by omega, by omega⟩ ?_
        refine w_goto ?_
        exact ih (b + 1) _ _ _ _ _ (by omega) (by omega) (by omega) hI30 (by omega) (by omega)
theorem t_ctl_a0 {L C S : Nat} {sc k d kf : Nat → Int} {n : Int} {Q : pz_Q} (hd : t_d k d) (hk : q_KR k) (sn : c_isSeen k = 0) (K : ∀ (a : Int) (x3 x4 : Option pz_V) (iv : Nat → Nat → Int) (dv : Nat → Nat → UInt64) (cc ss : Nat), t_I sc k d n kf iv → 0 ≤ a → cc ≤ C → ss ≤ S → pz_G 227 285 [some (.inr (.inl 2)), some (.inr (.inl 154)), some (.inl (a)), x3, x4] [] (pz_Sh L, iv, dv, cc, ss) Q) : ∀ (m9 : Nat) (a : Int) (x3 x4 : Option pz_V) (iv : Nat → Nat → Int) (dv : Nat → Nat → UInt64) (cc ss : Nat), 0 ≤ a → a ≤ k 0 → k 0 - a < m9 → t_I sc k d n kf iv → (cc : Int) + 50 * (k 0 - a) ≤ C → (ss : Int) + 300 * (k 0 - a) ≤ S → pz_G 227 62 [some (.inr (.inl 2)), some (.inr (.inl 154)), some (.inl (a)), x3, x4] [] (pz_Sh L, iv, dv, cc, ss) Q := by
  intro m9
  have h0 := hk.r0
  induction m9 with
  | zero => intro a x3 x4 iv dv cc ss l1 l2 l3; omega
  | succ m9 ih =>
    intro a x3 x4 iv dv cc ss l1 l2 l3 hI l4 l5
    refine pz_G_of pz_b227_62 ?_
    refine w_loc rfl ?_
    refine w_loc rfl ?_
    refine w_pure rfl ?_
    refine w_iald is_154 ln_154 ⟨by omega, by omega⟩ (t_I_d0 hI hd) ?_
    refine w_ige (fun h1 => ?_) (fun h1 => ?_)
    · skip
      exact K a _ _ _ _ _ _ hI (by omega) (by omega) (by omega)
    · skip
      have f1 := f_rea hk (e := a) (by omega)
      refine w_pure rfl ?_
      refine w_loc (ls' := [some (.inr (.inl 2)), some (.inr (.inl 154)), some (.inl (a)), some (.inl (0)), x4]) (st' := []) rfl ?_
      refine w_nil ?_
      refine t_ctl_b0 (C := cc + 40) (S := ss + 240) hd hk sn (a := a) (by omega) (fun b9 y4 iv9 dv9 cc9 ss9 hI9 q9 hC9 hS9 => ?_) (k 0 + 1).toNat 0 _ _ _ _ _ (by omega) (by omega) (by omega) hI (by omega) (by omega)
      refine pz_G_of pz_b227_151 ?_
      refine w_loc rfl ?_
      refine w_loc rfl ?_
      refine w_callO (t_S_reason (e := a) hI9) rfl rfl (fun iv2 dv3 cc4 ss5 hI6 hc7 hs8 => ?_)
      refine w_loc (ls' := [some (.inr (.inl 2)), some (.inr (.inl 154)), some (.inl (a)), some (.inl (c_reason k a)), y4]) (st' := []) rfl ?_
      refine w_loc rfl ?_
      refine w_ldcn ?_
      refine w_ine (fun h9 => ?_) (fun h9 => ?_)
      · skip
        refine pz_G_of pz_b227_167 ?_
        refine w_pure rfl ?_
        refine w_nil ?_
        refine pz_G_of pz_b227_168 ?_
        refine w_loc rfl ?_
        refine w_callO (t_S_isSeen hI6) rfl (pz_cokI is_2 rfl) (fun iv10 dv11 cc12 ss13 hI14 hc15 hs16 => ?_)
        refine w_ieq (fun h17 => ?_) (fun h17 => absurd h17 (by omega))
        refine pz_G_of pz_b227_209 ?_
        refine w_pure rfl ?_
        exfalso
        omega
      · skip
        refine w_pure rfl ?_
        refine w_goto ?_
        refine pz_G_of pz_b227_168 ?_
        refine w_loc rfl ?_
        refine w_callO (t_S_isSeen hI6) rfl (pz_cokI is_2 rfl) (fun iv18 dv19 cc20 ss21 hI22 hc23 hs24 => ?_)
        refine w_ieq (fun h25 => absurd h25 (by omega)) (fun h25 => ?_)
        refine w_loc rfl ?_
        refine w_callO (t_S_isSeen hI22) rfl (pz_cokI is_2 rfl) (fun iv26 dv27 cc28 ss29 hI30 hc31 hs32 => ?_)
        refine w_zeq (fun h33 => ?_) (fun h33 => absurd h33 (by omega))
        refine pz_G_of pz_b227_211 ?_
        refine w_loc rfl ?_
        refine w_pure rfl ?_
        refine w_ine (fun h34 => ?_) (fun h34 => ?_)
        · skip
          refine pz_G_of pz_b227_229 ?_
          refine w_loc rfl ?_
          refine w_pure rfl ?_
          refine w_ine (fun h35 => ?_) (fun h35 => ?_)
          · skip
            refine pz_G_of pz_b227_247 ?_
            refine w_loc rfl ?_
            refine w_pure rfl ?_
            refine w_ine (fun h36 => ?_) (fun h36 => ?_)
            · skip
              refine pz_G_of pz_b227_279 ?_
              refine w_iinc rfl rfl (ls' := [some (.inr (.inl 2)), some (.inr (.inl 154)), some (.inl (a + 1)), some (.inl (c_reason k a)), y4]) rfl ⟨by omega, by omega⟩ ?_
              refine w_goto ?_
              exact ih (a + 1) _ _ _ _ _ _ (by omega) (by omega) (by omega) hI30 (by omega) (by omega)
            · skip
              refine w_loc rfl ?_
              refine w_loc rfl ?_
              refine w_callO (t_S_lowest (e := a) hI30) rfl rfl (fun iv37 dv38 cc39 ss40 hI41 hc42 hs43 => ?_)
              refine w_loc rfl ?_
              refine w_callO (t_S_now hI41) rfl (pz_cokI is_2 rfl) (fun iv44 dv45 cc46 ss47 hI48 hc49 hs50 => ?_)
              refine w_igt (fun h51 => ?_) (fun h51 => ?_)
              · skip
                refine pz_G_of pz_b227_277 ?_
                refine w_pure rfl ?_
                exfalso
                omega
              · skip
                refine w_loc rfl ?_
                refine w_loc rfl ?_
                refine w_callO (t_S_uppermost (e := a) hI48) rfl rfl (fun iv52 dv53 cc54 ss55 hI56 hc57 hs58 => ?_)
                refine w_loc rfl ?_
                refine w_callO (t_S_now hI56) rfl (pz_cokI is_2 rfl) (fun iv59 dv60 cc61 ss62 hI63 hc64 hs65 => ?_)
                refine w_ige (fun h66 => ?_) (fun h66 => ?_)
                · skip
                  refine pz_G_of pz_b227_279 ?_
                  refine w_iinc rfl rfl (ls' := [some (.inr (.inl 2)), some (.inr (.inl 154)), some (.inl (a + 1)), some (.inl (c_reason k a)), y4]) rfl ⟨by omega, by omega⟩ ?_
                  refine w_goto ?_
                  exact ih (a + 1) _ _ _ _ _ _ (by omega) (by omega) (by omega) hI63 (by omega) (by omega)
                · skip
                  refine w_nil ?_
                  refine pz_G_of pz_b227_277 ?_
                  refine w_pure rfl ?_
                  exfalso
                  omega
          · skip
            refine w_loc rfl ?_
            refine w_loc rfl ?_
            refine w_callO (t_S_uppermost (e := a) hI30) rfl rfl (fun iv67 dv68 cc69 ss70 hI71 hc72 hs73 => ?_)
            refine w_loc rfl ?_
            refine w_callO (t_S_now hI71) rfl (pz_cokI is_2 rfl) (fun iv74 dv75 cc76 ss77 hI78 hc79 hs80 => ?_)
            refine w_ige (fun h81 => ?_) (fun h81 => ?_)
            · skip
              refine pz_G_of pz_b227_277 ?_
              refine w_pure rfl ?_
              exfalso
              omega
            · skip
              refine w_nil ?_
              refine pz_G_of pz_b227_247 ?_
              refine w_loc rfl ?_
              refine w_pure rfl ?_
              refine w_ine (fun h82 => ?_) (fun h82 => ?_)
              · skip
                refine pz_G_of pz_b227_279 ?_
                refine w_iinc rfl rfl (ls' := [some (.inr (.inl 2)), some (.inr (.inl 154)), some (.inl (a + 1)), some (.inl (c_reason k a)), y4]) rfl ⟨by omega, by omega⟩ ?_
                refine w_goto ?_
                exact ih (a + 1) _ _ _ _ _ _ (by omega) (by omega) (by omega) hI78 (by omega) (by omega)
              · skip
                refine w_loc rfl ?_
                refine w_loc rfl ?_
                refine w_callO (t_S_lowest (e := a) hI78) rfl rfl (fun iv83 dv84 cc85 ss86 hI87 hc88 hs89 => ?_)
                refine w_loc rfl ?_
                refine w_callO (t_S_now hI87) rfl (pz_cokI is_2 rfl) (fun iv90 dv91 cc92 ss93 hI94 hc95 hs96 => ?_)
                refine w_igt (fun h97 => ?_) (fun h97 => ?_)
                · skip
                  refine pz_G_of pz_b227_277 ?_
                  refine w_pure rfl ?_
                  exfalso
                  omega
                · skip
                  refine w_loc rfl ?_
                  refine w_loc rfl ?_
                  refine w_callO (t_S_uppermost (e := a) hI94) rfl rfl (fun iv98 dv99 cc100 ss101 hI102 hc103 hs104 => ?_)
                  refine w_loc rfl ?_
                  refine w_callO (t_S_now hI102) rfl (pz_cokI is_2 rfl) (fun iv105 dv106 cc107 ss108 hI109 hc110 hs111 => ?_)
                  refine w_ige (fun h112 => ?_) (fun h112 => ?_)
                  · skip
                    refine pz_G_of pz_b227_279 ?_
                    refine w_iinc rfl rfl (ls' := [some (.inr (.inl 2)), some (.inr (.inl 154)), some (.inl (a + 1)), some (.inl (c_reason k a)), y4]) rfl ⟨by omega, by omega⟩ ?_
                    refine w_goto ?_
                    exact ih (a + 1) _ _ _ _ _ _ (by omega) (by omega) (by omega) hI109 (by omega) (by omega)
                  · skip
                    refine w_nil ?_
                    refine pz_G_of pz_b227_277 ?_
                    refine w_pure rfl ?_
                    exfalso
                    omega
        · skip
          refine w_loc rfl ?_
          refine w_loc rfl ?_
          refine w_callO (t_S_lowest (e := a) hI30) rfl rfl (fun iv113 dv114 cc115 ss116 hI117 hc118 hs119 => ?_)
          refine w_loc rfl ?_
          refine w_callO (t_S_now hI117) rfl (pz_cokI is_2 rfl) (fun iv120 dv121 cc122 ss123 hI124 hc125 hs126 => ?_)
          refine w_ile (fun h127 => ?_) (fun h127 => ?_)
          · skip
            refine pz_G_of pz_b227_277 ?_
            refine w_pure rfl ?_
            exfalso
            omega
          · skip
            refine w_nil ?_
            refine pz_G_of pz_b227_229 ?_
            refine w_loc rfl ?_
            refine w_pure rfl ?_
            refine w_ine (fun h128 => ?_) (fun h128 => ?_)
            · skip
              refine pz_G_of pz_b227_247 ?_
              refine w_loc rfl ?_
              refine w_pure rfl ?_
              refine w_ine (fun h129 => ?_) (fun h129 => ?_)
              · skip
                refine pz_G_of pz_b227_279 ?_
                refine w_iinc rfl rfl (ls' := [some (.inr (.inl 2)), some (.inr (.inl 154)), some (.inl (a + 1)), some (.inl (c_reason k a)), y4]) rfl ⟨by omega, by omega⟩ ?_
                refine w_goto ?_
                exact ih (a + 1) _ _ _ _ _ _ (by omega) (by omega) (by omega) hI124 (by omega) (by omega)
              · skip
                refine w_loc rfl ?_
                refine w_loc rfl ?_
                refine w_callO (t_S_lowest (e := a) hI124) rfl rfl (fun iv130 dv131 cc132 ss133 hI134 hc135 hs136 => ?_)
                refine w_loc rfl ?_
                refine w_callO (t_S_now hI134) rfl (pz_cokI is_2 rfl) (fun iv137 dv138 cc139 ss140 hI141 hc142 hs143 => ?_)
                refine w_igt (fun h144 => ?_) (fun h144 => ?_)
                · skip
                  refine pz_G_of pz_b227_277 ?_
                  refine w_pure rfl ?_
                  exfalso
                  omega
                · skip
                  refine w_loc rfl ?_
                  refine w_loc rfl ?_
                  refine w_callO (t_S_uppermost (e := a) hI141) rfl rfl (fun iv145 dv146 cc147 ss148 hI149 hc150 hs151 => ?_)
                  refine w_loc rfl ?_
                  refine w_callO (t_S_now hI149) rfl (pz_cokI is_2 rfl) (fun iv152 dv153 cc154 ss155 hI156 hc157 hs158 => ?_)
                  refine w_ige (fun h159 => ?_) (fun h159 => ?_)
                  · skip
                    refine pz_G_of pz_b227_279 ?_
                    refine w_iinc rfl rfl (ls' := [some (.inr (.inl 2)), some (.inr (.inl 154)), some (.inl (a + 1)), some (.inl (c_reason k a)), y4]) rfl ⟨by omega, by omega⟩ ?_
                    refine w_goto ?_
                    exact ih (a + 1) _ _ _ _ _ _ (by omega) (by omega) (by omega) hI156 (by omega) (by omega)
                  · skip
                    refine w_nil ?_
                    refine pz_G_of pz_b227_277 ?_
                    refine w_pure rfl ?_
                    exfalso
                    omega
            · skip
              refine w_loc rfl ?_
              refine w_loc rfl ?_
              refine w_callO (t_S_uppermost (e := a) hI124) rfl rfl (fun iv160 dv161 cc162 ss163 hI164 hc165 hs166 => ?_)
              refine w_loc rfl ?_
              refine w_callO (t_S_now hI164) rfl (pz_cokI is_2 rfl) (fun iv167 dv168 cc169 ss170 hI171 hc172 hs173 => ?_)
              refine w_ige (fun h174 => ?_) (fun h174 => ?_)
              · skip
                refine pz_G_of pz_b227_277 ?_
                refine w_pure rfl ?_
                exfalso
                omega
              · skip
                refine w_nil ?_
                refine pz_G_of pz_b227_247 ?_
                refine w_loc rfl ?_
                refine w_pure rfl ?_
                refine w_ine (fun h175 => ?_) (fun h175 => ?_)
                · skip
                  refine pz_G_of pz_b227_279 ?_
                  refine w_iinc rfl rfl (ls' := [some (.inr (.inl 2)), some (.inr (.inl 154)), some (.inl (a + 1)), some (.inl (c_reason k a)), y4]) rfl ⟨by omega, by omega⟩ ?_
                  refine w_goto ?_
                  exact ih (a + 1) _ _ _ _ _ _ (by omega) (by omega) (by omega) hI171 (by omega) (by omega)
                · skip
                  refine w_loc rfl ?_
                  refine w_loc rfl ?_
                  refine w_callO (t_S_lowest (e := a) hI171) rfl rfl (fun iv176 dv177 cc178 ss179 hI180 hc181 hs182 => ?_)
                  refine w_loc rfl ?_
                  refine w_callO (t_S_now hI180) rfl (pz_cokI is_2 rfl) (fun iv183 dv184 cc185 ss186 hI187 hc188 hs189 => ?_)
                  refine w_igt (fun h190 => ?_) (fun h190 => ?_)
                  · skip
                    refine pz_G_of pz_b227_277 ?_
                    refine w_pure rfl ?_
                    exfalso
                    omega
                  · skip
                    refine w_loc rfl ?_
                    refine w_loc rfl ?_
                    refine w_callO (t_S_uppermost (e := a) hI187) rfl rfl (fun iv191 dv192 cc193 ss194 hI195 hc196 hs197 => ?_)
                    refine w_loc rfl ?_
                    refine w_callO (t_S_now hI195) rfl (pz_cokI is_2 rfl) (fun iv198 dv199 cc200 ss201 hI202 hc203 hs204 => ?_)
                    refine w_ige (fun h205 => ?_) (fun h205 => ?_)
                    · skip
                      refine pz_G_of pz_b227_279 ?_
                      refine w_iinc rfl rfl (ls' := [some (.inr (.inl 2)), some (.inr (.inl 154)), some (.inl (a + 1)), some (.inl (c_reason k a)), y4]) rfl ⟨by omega, by omega⟩ ?_
                      refine w_goto ?_
                      exact ih (a + 1) _ _ _ _ _ _ (by omega) (by omega) (by omega) hI202 (by omega) (by omega)
                    · skip
                      refine w_nil ?_
                      refine pz_G_of pz_b227_277 ?_
                      refine w_pure rfl ?_
                      exfalso
                      omega
theorem t_ctl_s0 {L C S : Nat} {sc k d kf : Nat → Int} {n : Int} {Q : pz_Q} (hd : t_d k d) (hk : q_KR k) (sn : c_isSeen k = 0) (K : ∀ (s : Int) (x3 x4 : Option pz_V) (iv : Nat → Nat → Int) (dv : Nat → Nat → UInt64) (cc ss : Nat), t_I sc k d n kf iv → 0 ≤ s → cc ≤ C → ss ≤ S → pz_G 227 351 [some (.inr (.inl 2)), some (.inr (.inl 154)), some (.inl (s)), x3, x4] [] (pz_Sh L, iv, dv, cc, ss) Q) : ∀ (m9 : Nat) (s : Int) (x3 x4 : Option pz_V) (iv : Nat → Nat → Int) (dv : Nat → Nat → UInt64) (cc ss : Nat), 0 ≤ s → s ≤ k 2 → k 2 - s < m9 → t_I sc k d n kf iv → (cc : Int) + 2 * (k 2 - s) ≤ C → (ss : Int) + 12 * (k 2 - s) ≤ S → pz_G 227 287 [some (.inr (.inl 2)), some (.inr (.inl 154)), some (.inl (s)), x3, x4] [] (pz_Sh L, iv, dv, cc, ss) Q := by
  intro m9
  have h0 := hk.r0
  induction m9 with
  | zero => intro s x3 x4 iv dv cc ss l1 l2 l3; omega
  | succ m9 ih =>
    intro s x3 x4 iv dv cc ss l1 l2 l3 hI l4 l5
    refine pz_G_of pz_b227_287 ?_
    refine w_loc rfl ?_
    refine w_loc rfl ?_
    refine w_pure rfl ?_
    refine w_iald is_154 ln_154 ⟨by omega, by omega⟩ (t_I_d2 hI hd) ?_
    refine w_ige (fun h1 => ?_) (fun h1 => ?_)
    · skip
      exact K s _ _ _ _ _ _ hI (by omega) (by omega) (by omega)
    · skip
      have f1 : c_startedAt k (k (212 + 4 * s + 1).toNat) < 0 → c_isSeen k = 1 → k (212 + 4 * s + 3).toNat ≤ c_waitFor k (k (212 + 4 * s + 1).toNat) s := fun q r => f_wai hk (by omega) r q
      refine w_loc rfl ?_
      refine w_callO (t_S_isSeen hI) rfl (pz_cokI is_2 rfl) (fun iv2 dv3 cc4 ss5 hI6 hc7 hs8 => ?_)
      refine w_zeq (fun h9 => ?_) (fun h9 => absurd h9 (by omega))
      refine pz_G_of pz_b227_345 ?_
      refine w_iinc rfl rfl (ls' := [some (.inr (.inl 2)), some (.inr (.inl 154)), some (.inl (s + 1)), x3, x4]) rfl ⟨by omega, by omega⟩ ?_
      refine w_goto ?_
      exact ih (s + 1) _ _ _ _ _ _ (by omega) (by omega) (by omega) hI6 (by omega) (by omega)
theorem t_ctl_b1 {L C S : Nat} {sc k d kf : Nat → Int} {n : Int} {a : Int} {Q : pz_Q} (hd : t_d k d) (hk : q_KR k) (sn : c_isSeen k = 1) (ha : 0 ≤ a ∧ a < k 0) (K : ∀ (b : Int) (x4 : Option pz_V) (iv : Nat → Nat → Int) (dv : Nat → Nat → UInt64) (cc ss : Nat), t_I sc k d n kf iv → 0 ≤ b → cc ≤ C → ss ≤ S → pz_G 227 151 [some (.inr (.inl 2)), some (.inr (.inl 154)), some (.inl (a)), some (.inl (b)), x4] [] (pz_Sh L, iv, dv, cc, ss) Q) : ∀ (m9 : Nat) (b : Int) (x4 : Option pz_V) (iv : Nat → Nat → Int) (dv : Nat → Nat → UInt64) (cc ss : Nat), 0 ≤ b → b ≤ k 0 → k 0 - b < m9 → t_I sc k d n kf iv → (cc : Int) + 4 * (k 0 - b) ≤ C → (ss : Int) + 24 * (k 0 - b) ≤ S → pz_G 227 71 [some (.inr (.inl 2)), some (.inr (.inl 154)), some (.inl (a)), some (.inl (b)), x4] [] (pz_Sh L, iv, dv, cc, ss) Q := by
  intro m9
  have h0 := hk.r0
  induction m9 with
  | zero => intro b x4 iv dv cc ss l1 l2 l3; omega
  | succ m9 ih =>
    intro b x4 iv dv cc ss l1 l2 l3 hI l4 l5
    refine pz_G_of pz_b227_71 ?_
    refine w_loc rfl ?_
    refine w_loc rfl ?_
    refine w_pure rfl ?_
    refine w_iald is_154 ln_154 ⟨by omega, by omega⟩ (t_I_d0 hI hd) ?_
    refine w_ige (fun h1 => ?_) (fun h1 => ?_)
    · skip
      exact K b _ _ _ _ _ hI (by omega) (by omega) (by omega)
    · skip
      have f1 := f_red hk ha (b := b) (by omega)
      have f2 := f_dis hk ha (b := b) (by omega)
      refine w_loc rfl ?_
      refine w_loc rfl ?_
      refine w_loc rfl ?_
      refine w_callO (t_S_reduced (f := a) (t := b) hI) rfl rfl (fun iv2 dv3 cc4 ss5 hI6 hc7 hs8 => ?_)
      refine w_loc (ls' := [some (.inr (.inl 2)), some (.inr (.inl 154)), some (.inl (a)), some (.inl (b)), some (.inl (c_reduced k a b))]) (st' := []) rfl ?_
      refine w_loc rfl ?_
      refine w_ldcn ?_
      refine w_ine (fun h9 => ?_) (fun h9 => ?_)
      · skip
        refine pz_G_of pz_b227_97 ?_
        refine w_pure rfl ?_
        refine w_nil ?_
        refine pz_G_of pz_b227_98 ?_
        refine w_loc rfl ?_
        refine w_callO (t_S_isSeen hI6) rfl (pz_cokI is_2 rfl) (fun iv10 dv11 cc12 ss13 hI14 hc15 hs16 => ?_)
        refine w_ine (fun h17 => ?_) (fun h17 => absurd h17 (by omega))
        refine pz_G_of pz_b227_107 ?_
        refine w_loc rfl ?_
        refine w_callO (t_S_isSeen hI14) rfl (pz_cokI is_2 rfl) (fun iv18 dv19 cc20 ss21 hI22 hc23 hs24 => ?_)
        refine w_zeq (fun h25 => absurd h25 (by omega)) (fun h25 => ?_)
        refine w_loc rfl ?_
        refine w_loc rfl ?_
        refine w_loc rfl ?_
        refine w_callO (t_S_distance (f := a) (t := b) hI22) rfl rfl (fun iv26 dv27 cc28 ss29 hI30 hc31 hs32 => ?_)
        refine w_ldcn ?_
        refine w_ieq (fun h33 => ?_) (fun h33 => ?_)
        · skip
          refine pz_G_of pz_b227_145 ?_
          refine w_iinc rfl rfl (ls' := [some (.inr (.inl 2)), some (.inr (.inl 154)), some (.inl (a)), some (.inl (b + 1)), some (.inl (c_reduced k a b))]) rfl ⟨by omega, by omega⟩ ?_
          refine w_goto ?_
          exact ih (b + 1) _ _ _ _ _ (by omega) (by omega) (by omega) hI30 (by omega) (by omega)
        · skip
          refine w_loc rfl ?_
          refine w_ldcn ?_
          refine w_ieq (fun h34 => ?_) (fun h34 => ?_)
          · skip
            refine pz_G_of pz_b227_143 ?_
            refine w_pure rfl ?_
            exfalso
            omega
          · skip
            refine w_loc rfl ?_
            refine w_loc rfl ?_
            refine w_loc rfl ?_
            refine w_loc rfl ?_
            refine w_callO (t_S_distance (f := a) (t := b) hI30) rfl rfl (fun iv35 dv36 cc37 ss38 hI39 hc40 hs41 => ?_)
            refine w_ile (fun h42 => ?_) (fun h42 => ?_)
            · skip
              refine pz_G_of pz_b227_145 ?_
              refine w_iinc rfl rfl (ls' := [some (.inr (.inl 2)), some (.inr (.inl 154)), some (.inl (a)), some (.inl (b + 1)), some (.inl (c_reduced k a b))]) rfl ⟨by omega, by omega⟩ ?_
              refine w_goto ?_
              exact ih (b + 1) _ _ _ _ _ (by omega) (by omega) (by omega) hI39 (by omega) (by omega)
            · skip
              refine w_nil ?_
              refine pz_G_of pz_b227_143 ?_
              refine w_pure rfl ?_
              exfalso
              omega
      · skip
        refine w_pure rfl ?_
        refine w_goto ?_
        refine pz_G_of pz_b227_98 ?_
        refine w_loc rfl ?_
        refine w_callO (t_S_isSeen hI6) rfl (pz_cokI is_2 rfl) (fun iv43 dv44 cc45 ss46 hI47 hc48 hs49 => ?_)
        refine w_ine (fun h50 => absurd h50 (by omega)) (fun h50 => ?_)
        refine w_pure rfl ?_
        exfalso
        omega
theorem t_ctl_a1 {L C S : Nat} {sc k d kf : Nat → Int} {n : Int} {Q : pz_Q} (hd : t_d k d) (hk : q_KR k) (sn : c_isSeen k = 1) (K : ∀ (a : Int) (x3 x4 : Option pz_V) (iv : Nat → Nat → Int) (dv : Nat → Nat → UInt64) (cc ss : Nat), t_I sc k d n kf iv → 0 ≤ a → cc ≤ C → ss ≤ S → pz_G 227 285 [some (.inr (.inl 2)), some (.inr (.inl 154)), some (.inl (a)), x3, x4] [] (pz_Sh L, iv, dv, cc, ss) Q) : ∀ (m9 : Nat) (a : Int) (x3 x4 : Option pz_V) (iv : Nat → Nat → Int) (dv : Nat → Nat → UInt64) (cc ss : Nat), 0 ≤ a → a ≤ k 0 → k 0 - a < m9 → t_I sc k d n kf iv → (cc : Int) + 50 * (k 0 - a) ≤ C → (ss : Int) + 300 * (k 0 - a) ≤ S → pz_G 227 62 [some (.inr (.inl 2)), some (.inr (.inl 154)), some (.inl (a)), x3, x4] [] (pz_Sh L, iv, dv, cc, ss) Q := by
  intro m9
  have h0 := hk.r0
  induction m9 with
  | zero => intro a x3 x4 iv dv cc ss l1 l2 l3; omega
  | succ m9 ih =>
    intro a x3 x4 iv dv cc ss l1 l2 l3 hI l4 l5
    refine pz_G_of pz_b227_62 ?_
    refine w_loc rfl ?_
    refine w_loc rfl ?_
    refine w_pure rfl ?_
    refine w_iald is_154 ln_154 ⟨by omega, by omega⟩ (t_I_d0 hI hd) ?_
    refine w_ige (fun h1 => ?_) (fun h1 => ?_)
    · skip
      exact K a _ _ _ _ _ _ hI (by omega) (by omega) (by omega)
    · skip
      have f1 := f_rea hk (e := a) (by omega)
      refine w_pure rfl ?_
      refine w_loc (ls' := [some (.inr (.inl 2)), some (.inr (.inl 154)), some (.inl (a)), some (.inl (0)), x4]) (st' := []) rfl ?_
      refine w_nil ?_
      refine t_ctl_b1 (C := cc + 40) (S := ss + 240) hd hk sn (a := a) (by omega) (fun b9 y4 iv9 dv9 cc9 ss9 hI9 q9 hC9 hS9 => ?_) (k 0 + 1).toNat 0 _ _ _ _ _ (by omega) (by omega) (by omega) hI (by omega) (by omega)
      refine pz_G_of pz_b227_151 ?_
      refine w_loc rfl ?_
      refine w_loc rfl ?_
      refine w_callO (t_S_reason (e := a) hI9) rfl rfl (fun iv2 dv3 cc4 ss5 hI6 hc7 hs8 => ?_)
      refine w_loc (ls' := [some (.inr (.inl 2)), some (.inr (.inl 154)), some (.inl (a)), some (.inl (c_reason k a)), y4]) (st' := []) rfl ?_
      refine w_loc rfl ?_
      refine w_ldcn ?_
      refine w_ine (fun h9 => ?_) (fun h9 => ?_)
      · skip
        refine pz_G_of pz_b227_167 ?_
        refine w_pure rfl ?_
        refine w_nil ?_
        refine pz_G_of pz_b227_168 ?_
        refine w_loc rfl ?_
        refine w_callO (t_S_isSeen hI6) rfl (pz_cokI is_2 rfl) (fun iv10 dv11 cc12 ss13 hI14 hc15 hs16 => ?_)
        refine w_ieq (fun h17 => absurd h17 (by omega)) (fun h17 => ?_)
        refine w_loc rfl ?_
        refine w_callO (t_S_isSeen hI14) rfl (pz_cokI is_2 rfl) (fun iv18 dv19 cc20 ss21 hI22 hc23 hs24 => ?_)
        refine w_zeq (fun h25 => absurd h25 (by omega)) (fun h25 => ?_)
        refine w_loc rfl ?_
        refine w_pure rfl ?_
        refine w_ine (fun h26 => ?_) (fun h26 => ?_)
        · skip
          refine pz_G_of pz_b227_192 ?_
          refine w_pure rfl ?_
          refine w_nil ?_
          refine pz_G_of pz_b227_193 ?_
          refine w_loc rfl ?_
          refine w_loc rfl ?_
          refine w_callO (t_S_startedAt (e := a) hI22) rfl rfl (fun iv27 dv28 cc29 ss30 hI31 hc32 hs33 => ?_)
          refine w_zlt (fun h34 => ?_) (fun h34 => ?_)
          · skip
            refine pz_G_of pz_b227_205 ?_
            refine w_pure rfl ?_
            refine w_nil ?_
            refine pz_G_of pz_b227_206 ?_
            refine w_ieq (fun h35 => ?_) (fun h35 => absurd h35 (by omega))
            refine pz_G_of pz_b227_211 ?_
            refine w_loc rfl ?_
            refine w_pure rfl ?_
            refine w_ine (fun h36 => ?_) (fun h36 => ?_)
            · skip
              refine pz_G_of pz_b227_229 ?_
              refine w_loc rfl ?_
              refine w_pure rfl ?_
              refine w_ine (fun h37 => ?_) (fun h37 => ?_)
              · skip
                refine pz_G_of pz_b227_247 ?_
                refine w_loc rfl ?_
                refine w_pure rfl ?_
                refine w_ine (fun h38 => ?_) (fun h38 => ?_)
                · skip
                  refine pz_G_of pz_b227_279 ?_
                  refine w_iinc rfl rfl (ls' := [some (.inr (.inl 2)), some (.inr (.inl 154)), some (.inl (a + 1)), some (.inl (c_reason k a)), y4]) rfl ⟨by omega, by omega⟩ ?_
                  refine w_goto ?_
                  exact ih (a + 1) _ _ _ _ _ _ (by omega) (by omega) (by omega) hI31 (by omega) (by omega)
                · skip
                  refine w_loc rfl ?_
                  refine w_loc rfl ?_
                  refine w_callO (t_S_lowest (e := a) hI31) rfl rfl (fun iv39 dv40 cc41 ss42 hI43 hc44 hs45 => ?_)
                  refine w_loc rfl ?_
                  refine w_callO (t_S_now hI43) rfl (pz_cokI is_2 rfl) (fun iv46 dv47 cc48 ss49 hI50 hc51 hs52 => ?_)
                  refine w_igt (fun h53 => ?_) (fun h53 => ?_)
                  · skip
                    refine pz_G_of pz_b227_277 ?_
                    refine w_pure rfl ?_
                    exfalso
                    omega
                  · skip
                    refine w_loc rfl ?_
                    refine w_loc rfl ?_
                    refine w_callO (t_S_uppermost (e := a) hI50) rfl rfl (fun iv54 dv55 cc56 ss57 hI58 hc59 hs60 => ?_)
                    refine w_loc rfl ?_
                    refine w_callO (t_S_now hI58) rfl (pz_cokI is_2 rfl) (fun iv61 dv62 cc63 ss64 hI65 hc66 hs67 => ?_)
                    refine w_ige (fun h68 => ?_) (fun h68 => ?_)
                    · skip
                      refine pz_G_of pz_b227_279 ?_
                      refine w_iinc rfl rfl (ls' := [some (.inr (.inl 2)), some (.inr (.inl 154)), some (.inl (a + 1)), some (.inl (c_reason k a)), y4]) rfl ⟨by omega, by omega⟩ ?_
                      refine w_goto ?_
                      exact ih (a + 1) _ _ _ _ _ _ (by omega) (by omega) (by omega) hI65 (by omega) (by omega)
                    · skip
                      refine w_nil ?_
                      refine pz_G_of pz_b227_277 ?_
                      refine w_pure rfl ?_
                      exfalso
                      omega
              · skip
                refine w_loc rfl ?_
                refine w_loc rfl ?_
                refine w_callO (t_S_uppermost (e := a) hI31) rfl rfl (fun iv69 dv70 cc71 ss72 hI73 hc74 hs75 => ?_)
                refine w_loc rfl ?_
                refine w_callO (t_S_now hI73) rfl (pz_cokI is_2 rfl) (fun iv76 dv77 cc78 ss79 hI80 hc81 hs82 => ?_)
                refine w_ige (fun h83 => ?_) (fun h83 => ?_)
                · skip
                  refine pz_G_of pz_b227_277 ?_
                  refine w_pure rfl ?_
                  exfalso
                  omega
                · skip
                  refine w_nil ?_
                  refine pz_G_of pz_b227_247 ?_
                  refine w_loc rfl ?_
                  refine w_pure rfl ?_
                  refine w_ine (fun h84 => ?_) (fun h84 => ?_)
                  · skip
                    refine pz_G_of pz_b227_279 ?_
                    refine w_iinc rfl rfl (ls' := [some (.inr (.inl 2)), some (.inr (.inl 154)), some (.inl (a + 1)), some (.inl (c_reason k a)), y4]) rfl ⟨by omega, by omega⟩ ?_
                    refine w_goto ?_
                    exact ih (a + 1) _ _ _ _ _ _ (by omega) (by omega) (by omega) hI80 (by omega) (by omega)
                  · skip
                    refine w_loc rfl ?_
                    refine w_loc rfl ?_
                    refine w_callO (t_S_lowest (e := a) hI80) rfl rfl (fun iv85 dv86 cc87 ss88 hI89 hc90 hs91 => ?_)
                    refine w_loc rfl ?_
                    refine w_callO (t_S_now hI89) rfl (pz_cokI is_2 rfl) (fun iv92 dv93 cc94 ss95 hI96 hc97 hs98 => ?_)
                    refine w_igt (fun h99 => ?_) (fun h99 => ?_)
                    · skip
                      refine pz_G_of pz_b227_277 ?_
                      refine w_pure rfl ?_
                      exfalso
                      omega
                    · skip
                      refine w_loc rfl ?_
                      refine w_loc rfl ?_
                      refine w_callO (t_S_uppermost (e := a) hI96) rfl rfl (fun iv100 dv101 cc102 ss103 hI104 hc105 hs106 => ?_)
                      refine w_loc rfl ?_
                      refine w_callO (t_S_now hI104) rfl (pz_cokI is_2 rfl) (fun iv107 dv108 cc109 ss110 hI111 hc112 hs113 => ?_)
                      refine w_ige (fun h114 => ?_) (fun h114 => ?_)
                      · skip
                        refine pz_G_of pz_b227_279 ?_
                        refine w_iinc rfl rfl (ls' := [some (.inr (.inl 2)), some (.inr (.inl 154)), some (.inl (a + 1)), some (.inl (c_reason k a)), y4]) rfl ⟨by omega, by omega⟩ ?_
                        refine w_goto ?_
                        exact ih (a + 1) _ _ _ _ _ _ (by omega) (by omega) (by omega) hI111 (by omega) (by omega)
                      · skip
                        refine w_nil ?_
                        refine pz_G_of pz_b227_277 ?_
                        refine w_pure rfl ?_
                        exfalso
                        omega
            · skip
              refine w_loc rfl ?_
              refine w_loc rfl ?_
              refine w_callO (t_S_lowest (e := a) hI31) rfl rfl (fun iv115 dv116 cc117 ss118 hI119 hc120 hs121 => ?_)
              refine w_loc rfl ?_
              refine w_callO (t_S_now hI119) rfl (pz_cokI is_2 rfl) (fun iv122 dv123 cc124 ss125 hI126 hc127 hs128 => ?_)
              refine w_ile (fun h129 => ?_) (fun h129 => ?_)
              · skip
                refine pz_G_of pz_b227_277 ?_
                refine w_pure rfl ?_
                exfalso
                omega
              · skip
                refine w_nil ?_
                refine pz_G_of pz_b227_229 ?_
                refine w_loc rfl ?_
                refine w_pure rfl ?_
                refine w_ine (fun h130 => ?_) (fun h130 => ?_)
                · skip
                  refine pz_G_of pz_b227_247 ?_
                  refine w_loc rfl ?_
                  refine w_pure rfl ?_
                  refine w_ine (fun h131 => ?_) (fun h131 => ?_)
                  · skip
                    refine pz_G_of pz_b227_279 ?_
                    refine w_iinc rfl rfl (ls' := [some (.inr (.inl 2)), some (.inr (.inl 154)), some (.inl (a + 1)), some (.inl (c_reason k a)), y4]) rfl ⟨by omega, by omega⟩ ?_
                    refine w_goto ?_
                    exact ih (a + 1) _ _ _ _ _ _ (by omega) (by omega) (by omega) hI126 (by omega) (by omega)
                  · skip
                    refine w_loc rfl ?_
                    refine w_loc rfl ?_
                    refine w_callO (t_S_lowest (e := a) hI126) rfl rfl (fun iv132 dv133 cc134 ss135 hI136 hc137 hs138 => ?_)
                    refine w_loc rfl ?_
                    refine w_callO (t_S_now hI136) rfl (pz_cokI is_2 rfl) (fun iv139 dv140 cc141 ss142 hI143 hc144 hs145 => ?_)
                    refine w_igt (fun h146 => ?_) (fun h146 => ?_)
                    · skip
                      refine pz_G_of pz_b227_277 ?_
                      refine w_pure rfl ?_
                      exfalso
                      omega
                    · skip
                      refine w_loc rfl ?_
                      refine w_loc rfl ?_
                      refine w_callO (t_S_uppermost (e := a) hI143) rfl rfl (fun iv147 dv148 cc149 ss150 hI151 hc152 hs153 => ?_)
                      refine w_loc rfl ?_
                      refine w_callO (t_S_now hI151) rfl (pz_cokI is_2 rfl) (fun iv154 dv155 cc156 ss157 hI158 hc159 hs160 => ?_)
                      refine w_ige (fun h161 => ?_) (fun h161 => ?_)
                      · skip
                        refine pz_G_of pz_b227_279 ?_
                        refine w_iinc rfl rfl (ls' := [some (.inr (.inl 2)), some (.inr (.inl 154)), some (.inl (a + 1)), some (.inl (c_reason k a)), y4]) rfl ⟨by omega, by omega⟩ ?_
                        refine w_goto ?_
                        exact ih (a + 1) _ _ _ _ _ _ (by omega) (by omega) (by omega) hI158 (by omega) (by omega)
                      · skip
                        refine w_nil ?_
                        refine pz_G_of pz_b227_277 ?_
                        refine w_pure rfl ?_
                        exfalso
                        omega
                · skip
                  refine w_loc rfl ?_
                  refine w_loc rfl ?_
                  refine w_callO (t_S_uppermost (e := a) hI126) rfl rfl (fun iv162 dv163 cc164 ss165 hI166 hc167 hs168 => ?_)
                  refine w_loc rfl ?_
                  refine w_callO (t_S_now hI166) rfl (pz_cokI is_2 rfl) (fun iv169 dv170 cc171 ss172 hI173 hc174 hs175 => ?_)
                  refine w_ige (fun h176 => ?_) (fun h176 => ?_)
                  · skip
                    refine pz_G_of pz_b227_277 ?_
                    refine w_pure rfl ?_
                    exfalso
                    omega
                  · skip
                    refine w_nil ?_
                    refine pz_G_of pz_b227_247 ?_
                    refine w_loc rfl ?_
                    refine w_pure rfl ?_
                    refine w_ine (fun h177 => ?_) (fun h177 => ?_)
                    · skip
                      refine pz_G_of pz_b227_279 ?_
                      refine w_iinc rfl rfl (ls' := [some (.inr (.inl 2)), some (.inr (.inl 154)), some (.inl (a + 1)), some (.inl (c_reason k a)), y4]) rfl ⟨by omega, by omega⟩ ?_
                      refine w_goto ?_
                      exact ih (a + 1) _ _ _ _ _ _ (by omega) (by omega) (by omega) hI173 (by omega) (by omega)
                    · skip
                      refine w_loc rfl ?_
                      refine w_loc rfl ?_
                      refine w_callO (t_S_lowest (e := a) hI173) rfl rfl (fun iv178 dv179 cc180 ss181 hI182 hc183 hs184 => ?_)
                      refine w_loc rfl ?_
                      refine w_callO (t_S_now hI182) rfl (pz_cokI is_2 rfl) (fun iv185 dv186 cc187 ss188 hI189 hc190 hs191 => ?_)
                      refine w_igt (fun h192 => ?_) (fun h192 => ?_)
                      · skip
                        refine pz_G_of pz_b227_277 ?_
                        refine w_pure rfl ?_
                        exfalso
                        omega
                      · skip
                        refine w_loc rfl ?_
                        refine w_loc rfl ?_
                        refine w_callO (t_S_uppermost (e := a) hI189) rfl rfl (fun iv193 dv194 cc195 ss196 hI197 hc198 hs199 => ?_)
                        refine w_loc rfl ?_
                        refine w_callO (t_S_now hI197) rfl (pz_cokI is_2 rfl) (fun iv200 dv201 cc202 ss203 hI204 hc205 hs206 => ?_)
                        refine w_ige (fun h207 => ?_) (fun h207 => ?_)
                        · skip
                          refine pz_G_of pz_b227_279 ?_
                          refine w_iinc rfl rfl (ls' := [some (.inr (.inl 2)), some (.inr (.inl 154)), some (.inl (a + 1)), some (.inl (c_reason k a)), y4]) rfl ⟨by omega, by omega⟩ ?_
                          refine w_goto ?_
                          exact ih (a + 1) _ _ _ _ _ _ (by omega) (by omega) (by omega) hI204 (by omega) (by omega)
                        · skip
                          refine w_nil ?_
                          refine pz_G_of pz_b227_277 ?_
                          refine w_pure rfl ?_
                          exfalso
                          omega
          · skip
            refine w_pure rfl ?_
            refine w_goto ?_
            refine pz_G_of pz_b227_206 ?_
            refine w_ieq (fun h208 => absurd h208 (by omega)) (fun h208 => ?_)
            refine w_nil ?_
            refine pz_G_of pz_b227_209 ?_
            refine w_pure rfl ?_
            exfalso
            omega
        · skip
          refine w_pure rfl ?_
          refine w_goto ?_
          refine pz_G_of pz_b227_193 ?_
          refine w_loc rfl ?_
          refine w_loc rfl ?_
          refine w_callO (t_S_startedAt (e := a) hI22) rfl rfl (fun iv209 dv210 cc211 ss212 hI213 hc214 hs215 => ?_)
          refine w_zlt (fun h216 => ?_) (fun h216 => ?_)
          · skip
            refine pz_G_of pz_b227_205 ?_
            refine w_pure rfl ?_
            refine w_nil ?_
            refine pz_G_of pz_b227_206 ?_
            refine w_ieq (fun h217 => absurd h217 (by omega)) (fun h217 => ?_)
            refine w_nil ?_
            refine pz_G_of pz_b227_209 ?_
            refine w_pure rfl ?_
            exfalso
            omega
          · skip
            refine w_pure rfl ?_
            refine w_goto ?_
            refine pz_G_of pz_b227_206 ?_
            refine w_ieq (fun h218 => ?_) (fun h218 => absurd h218 (by omega))
            refine pz_G_of pz_b227_211 ?_
            refine w_loc rfl ?_
            refine w_pure rfl ?_
            refine w_ine (fun h219 => ?_) (fun h219 => ?_)
            · skip
              refine pz_G_of pz_b227_229 ?_
              refine w_loc rfl ?_
              refine w_pure rfl ?_
              refine w_ine (fun h220 => ?_) (fun h220 => ?_)
              · skip
                refine pz_G_of pz_b227_247 ?_
                refine w_loc rfl ?_
                refine w_pure rfl ?_
                refine w_ine (fun h221 => ?_) (fun h221 => ?_)
                · skip
                  refine pz_G_of pz_b227_279 ?_
                  refine w_iinc rfl rfl (ls' := [some (.inr (.inl 2)), some (.inr (.inl 154)), some (.inl (a + 1)), some (.inl (c_reason k a)), y4]) rfl ⟨by omega, by omega⟩ ?_
                  refine w_goto ?_
                  exact ih (a + 1) _ _ _ _ _ _ (by omega) (by omega) (by omega) hI213 (by omega) (by omega)
                · skip
                  refine w_loc rfl ?_
                  refine w_loc rfl ?_
                  refine w_callO (t_S_lowest (e := a) hI213) rfl rfl (fun iv222 dv223 cc224 ss225 hI226 hc227 hs228 => ?_)
                  refine w_loc rfl ?_
                  refine w_callO (t_S_now hI226) rfl (pz_cokI is_2 rfl) (fun iv229 dv230 cc231 ss232 hI233 hc234 hs235 => ?_)
                  refine w_igt (fun h236 => ?_) (fun h236 => ?_)
                  · skip
                    refine pz_G_of pz_b227_277 ?_
                    refine w_pure rfl ?_
                    exfalso
                    omega
                  · skip
                    refine w_loc rfl ?_
                    refine w_loc rfl ?_
                    refine w_callO (t_S_uppermost (e := a) hI233) rfl rfl (fun iv237 dv238 cc239 ss240 hI241 hc242 hs243 => ?_)
                    refine w_loc rfl ?_
                    refine w_callO (t_S_now hI241) rfl (pz_cokI is_2 rfl) (fun iv244 dv245 cc246 ss247 hI248 hc249 hs250 => ?_)
                    refine w_ige (fun h251 => ?_) (fun h251 => ?_)
                    · skip
                      refine pz_G_of pz_b227_279 ?_
                      refine w_iinc rfl rfl (ls' := [some (.inr (.inl 2)), some (.inr (.inl 154)), some (.inl (a + 1)), some (.inl (c_reason k a)), y4]) rfl ⟨by omega, by omega⟩ ?_
                      refine w_goto ?_
                      exact ih (a + 1) _ _ _ _ _ _ (by omega) (by omega) (by omega) hI248 (by omega) (by omega)
                    · skip
                      refine w_nil ?_
                      refine pz_G_of pz_b227_277 ?_
                      refine w_pure rfl ?_
                      exfalso
                      omega
              · skip
                refine w_loc rfl ?_
                refine w_loc rfl ?_
                refine w_callO (t_S_uppermost (e := a) hI213) rfl rfl (fun iv252 dv253 cc254 ss255 hI256 hc257 hs258 => ?_)
                refine w_loc rfl ?_
                refine w_callO (t_S_now hI256) rfl (pz_cokI is_2 rfl) (fun iv259 dv260 cc261 ss262 hI263 hc264 hs265 => ?_)
                refine w_ige (fun h266 => ?_) (fun h266 => ?_)
                · skip
                  refine pz_G_of pz_b227_277 ?_
                  refine w_pure rfl ?_
                  exfalso
                  omega
                · skip
                  refine w_nil ?_
                  refine pz_G_of pz_b227_247 ?_
                  refine w_loc rfl ?_
                  refine w_pure rfl ?_
                  refine w_ine (fun h267 => ?_) (fun h267 => ?_)
                  · skip
                    refine pz_G_of pz_b227_279 ?_
                    refine w_iinc rfl rfl (ls' := [some (.inr (.inl 2)), some (.inr (.inl 154)), some (.inl (a + 1)), some (.inl (c_reason k a)), y4]) rfl ⟨by omega, by omega⟩ ?_
                    refine w_goto ?_
                    exact ih (a + 1) _ _ _ _ _ _ (by omega) (by omega) (by omega) hI263 (by omega) (by omega)
                  · skip
                    refine w_loc rfl ?_
                    refine w_loc rfl ?_
                    refine w_callO (t_S_lowest (e := a) hI263) rfl rfl (fun iv268 dv269 cc270 ss271 hI272 hc273 hs274 => ?_)
                    refine w_loc rfl ?_
                    refine w_callO (t_S_now hI272) rfl (pz_cokI is_2 rfl) (fun iv275 dv276 cc277 ss278 hI279 hc280 hs281 => ?_)
                    refine w_igt (fun h282 => ?_) (fun h282 => ?_)
                    · skip
                      refine pz_G_of pz_b227_277 ?_
                      refine w_pure rfl ?_
                      exfalso
                      omega
                    · skip
                      refine w_loc rfl ?_
                      refine w_loc rfl ?_
                      refine w_callO (t_S_uppermost (e := a) hI279) rfl rfl (fun iv283 dv284 cc285 ss286 hI287 hc288 hs289 => ?_)
                      refine w_loc rfl ?_
                      refine w_callO (t_S_now hI287) rfl (pz_cokI is_2 rfl) (fun iv290 dv291 cc292 ss293 hI294 hc295 hs296 => ?_)
                      refine w_ige (fun h297 => ?_) (fun h297 => ?_)
                      · skip
                        refine pz_G_of pz_b227_279 ?_
                        refine w_iinc rfl rfl (ls' := [some (.inr (.inl 2)), some (.inr (.inl 154)), some (.inl (a + 1)), some (.inl (c_reason k a)), y4]) rfl ⟨by omega, by omega⟩ ?_
                        refine w_goto ?_
                        exact ih (a + 1) _ _ _ _ _ _ (by omega) (by omega) (by omega) hI294 (by omega) (by omega)
                      · skip
                        refine w_nil ?_
                        refine pz_G_of pz_b227_277 ?_
                        refine w_pure rfl ?_
                        exfalso
                        omega
            · skip
              refine w_loc rfl ?_
              refine w_loc rfl ?_
              refine w_callO (t_S_lowest (e := a) hI213) rfl rfl (fun iv298 dv299 cc300 ss301 hI302 hc303 hs304 => ?_)
              refine w_loc rfl ?_
              refine w_callO (t_S_now hI302) rfl (pz_cokI is_2 rfl) (fun iv305 dv306 cc307 ss308 hI309 hc310 hs311 => ?_)
              refine w_ile (fun h312 => ?_) (fun h312 => ?_)
              · skip
                refine pz_G_of pz_b227_277 ?_
                refine w_pure rfl ?_
                exfalso
                omega
              · skip
                refine w_nil ?_
                refine pz_G_of pz_b227_229 ?_
                refine w_loc rfl ?_
                refine w_pure rfl ?_
                refine w_ine (fun h313 => ?_) (fun h313 => ?_)
                · skip
                  refine pz_G_of pz_b227_247 ?_
                  refine w_loc rfl ?_
                  refine w_pure rfl ?_
                  refine w_ine (fun h314 => ?_) (fun h314 => ?_)
                  · skip
                    refine pz_G_of pz_b227_279 ?_
                    refine w_iinc rfl rfl (ls' := [some (.inr (.inl 2)), some (.inr (.inl 154)), some (.inl (a + 1)), some (.inl (c_reason k a)), y4]) rfl ⟨by omega, by omega⟩ ?_
                    refine w_goto ?_
                    exact ih (a + 1) _ _ _ _ _ _ (by omega) (by omega) (by omega) hI309 (by omega) (by omega)
                  · skip
                    refine w_loc rfl ?_
                    refine w_loc rfl ?_
                    refine w_callO (t_S_lowest (e := a) hI309) rfl rfl (fun iv315 dv316 cc317 ss318 hI319 hc320 hs321 => ?_)
                    refine w_loc rfl ?_
                    refine w_callO (t_S_now hI319) rfl (pz_cokI is_2 rfl) (fun iv322 dv323 cc324 ss325 hI326 hc327 hs328 => ?_)
                    refine w_igt (fun h329 => ?_) (fun h329 => ?_)
                    · skip
                      refine pz_G_of pz_b227_277 ?_
                      refine w_pure rfl ?_
                      exfalso
                      omega
                    · skip
                      refine w_loc rfl ?_
                      refine w_loc rfl ?_
                      refine w_callO (t_S_uppermost (e := a) hI326) rfl rfl (fun iv330 dv331 cc332 ss333 hI334 hc335 hs336 => ?_)
                      refine w_loc rfl ?_
                      refine w_callO (t_S_now hI334) rfl (pz_cokI is_2 rfl) (fun iv337 dv338 cc339 ss340 hI341 hc342 hs343 => ?_)
                      refine w_ige (fun h344 => ?_) (fun h344 => ?_)
                      · skip
                        refine pz_G_of pz_b227_279 ?_
                        refine w_iinc rfl rfl (ls' := [some (.inr (.inl 2)), some (.inr (.inl 154)), some (.inl (a + 1)), some (.inl (c_reason k a)), y4]) rfl ⟨by omega, by omega⟩ ?_
                        refine w_goto ?_
                        exact ih (a + 1) _ _ _ _ _ _ (by omega) (by omega) (by omega) hI341 (by omega) (by omega)
                      · skip
                        refine w_nil ?_
                        refine pz_G_of pz_b227_277 ?_
                        refine w_pure rfl ?_
                        exfalso
                        omega
                · skip
                  refine w_loc rfl ?_
                  refine w_loc rfl ?_
                  refine w_callO (t_S_uppermost (e := a) hI309) rfl rfl (fun iv345 dv346 cc347 ss348 hI349 hc350 hs351 => ?_)
                  refine w_loc rfl ?_
                  refine w_callO (t_S_now hI349) rfl (pz_cokI is_2 rfl) (fun iv352 dv353 cc354 ss355 hI356 hc357 hs358 => ?_)
                  refine w_ige (fun h359 => ?_) (fun h359 => ?_)
                  · skip
                    refine pz_G_of pz_b227_277 ?_
                    refine w_pure rfl ?_
                    exfalso
                    omega
                  · skip
                    refine w_nil ?_
                    refine pz_G_of pz_b227_247 ?_
                    refine w_loc rfl ?_
                    refine w_pure rfl ?_
                    refine w_ine (fun h360 => ?_) (fun h360 => ?_)
                    · skip
                      refine pz_G_of pz_b227_279 ?_
                      refine w_iinc rfl rfl (ls' := [some (.inr (.inl 2)), some (.inr (.inl 154)), some (.inl (a + 1)), some (.inl (c_reason k a)), y4]) rfl ⟨by omega, by omega⟩ ?_
                      refine w_goto ?_
                      exact ih (a + 1) _ _ _ _ _ _ (by omega) (by omega) (by omega) hI356 (by omega) (by omega)
                    · skip
                      refine w_loc rfl ?_
                      refine w_loc rfl ?_
                      refine w_callO (t_S_lowest (e := a) hI356) rfl rfl (fun iv361 dv362 cc363 ss364 hI365 hc366 hs367 => ?_)
                      refine w_loc rfl ?_
                      refine w_callO (t_S_now hI365) rfl (pz_cokI is_2 rfl) (fun iv368 dv369 cc370 ss371 hI372 hc373 hs374 => ?_)
                      refine w_igt (fun h375 => ?_) (fun h375 => ?_)
                      · skip
                        refine pz_G_of pz_b227_277 ?_
                        refine w_pure rfl ?_
                        exfalso
                        omega
                      · skip
                        refine w_loc rfl ?_
                        refine w_loc rfl ?_
                        refine w_callO (t_S_uppermost (e := a) hI372) rfl rfl (fun iv376 dv377 cc378 ss379 hI380 hc381 hs382 => ?_)
                        refine w_loc rfl ?_
                        refine w_callO (t_S_now hI380) rfl (pz_cokI is_2 rfl) (fun iv383 dv384 cc385 ss386 hI387 hc388 hs389 => ?_)
                        refine w_ige (fun h390 => ?_) (fun h390 => ?_)
                        · skip
                          refine pz_G_of pz_b227_279 ?_
                          refine w_iinc rfl rfl (ls' := [some (.inr (.inl 2)), some (.inr (.inl 154)), some (.inl (a + 1)), some (.inl (c_reason k a)), y4]) rfl ⟨by omega, by omega⟩ ?_
                          refine w_goto ?_
                          exact ih (a + 1) _ _ _ _ _ _ (by omega) (by omega) (by omega) hI387 (by omega) (by omega)
                        · skip
                          refine w_nil ?_
                          refine pz_G_of pz_b227_277 ?_
                          refine w_pure rfl ?_
                          exfalso
                          omega
      · skip
        refine w_pure rfl ?_
        refine w_goto ?_
        refine pz_G_of pz_b227_168 ?_
        refine w_loc rfl ?_
        refine w_callO (t_S_isSeen hI6) rfl (pz_cokI is_2 rfl) (fun iv391 dv392 cc393 ss394 hI395 hc396 hs397 => ?_)
        refine w_ieq (fun h398 => ?_) (fun h398 => absurd h398 (by omega))
        refine pz_G_of pz_b227_209 ?_
        refine w_pure rfl ?_
        exfalso
        omega
theorem t_ctl_s1 {L C S : Nat} {sc k d kf : Nat → Int} {n : Int} {Q : pz_Q} (hd : t_d k d) (hk : q_KR k) (sn : c_isSeen k = 1) (K : ∀ (s : Int) (x3 x4 : Option pz_V) (iv : Nat → Nat → Int) (dv : Nat → Nat → UInt64) (cc ss : Nat), t_I sc k d n kf iv → 0 ≤ s → cc ≤ C → ss ≤ S → pz_G 227 351 [some (.inr (.inl 2)), some (.inr (.inl 154)), some (.inl (s)), x3, x4] [] (pz_Sh L, iv, dv, cc, ss) Q) : ∀ (m9 : Nat) (s : Int) (x3 x4 : Option pz_V) (iv : Nat → Nat → Int) (dv : Nat → Nat → UInt64) (cc ss : Nat), 0 ≤ s → s ≤ k 2 → k 2 - s < m9 → t_I sc k d n kf iv → (cc : Int) + 2 * (k 2 - s) ≤ C → (ss : Int) + 12 * (k 2 - s) ≤ S → pz_G 227 287 [some (.inr (.inl 2)), some (.inr (.inl 154)), some (.inl (s)), x3, x4] [] (pz_Sh L, iv, dv, cc, ss) Q := by
  intro m9
  have h0 := hk.r0
  induction m9 with
  | zero => intro s x3 x4 iv dv cc ss l1 l2 l3; omega
  | succ m9 ih =>
    intro s x3 x4 iv dv cc ss l1 l2 l3 hI l4 l5
    refine pz_G_of pz_b227_287 ?_
    refine w_loc rfl ?_
    refine w_loc rfl ?_
    refine w_pure rfl ?_
    refine w_iald is_154 ln_154 ⟨by omega, by omega⟩ (t_I_d2 hI hd) ?_
    refine w_ige (fun h1 => ?_) (fun h1 => ?_)
    · skip
      exact K s _ _ _ _ _ _ hI (by omega) (by omega) (by omega)
    · skip
      have f1 : c_startedAt k (k (212 + 4 * s + 1).toNat) < 0 → c_isSeen k = 1 → k (212 + 4 * s + 3).toNat ≤ c_waitFor k (k (212 + 4 * s + 1).toNat) s := fun q r => f_wai hk (by omega) r q
      refine w_loc rfl ?_
      refine w_callO (t_S_isSeen hI) rfl (pz_cokI is_2 rfl) (fun iv2 dv3 cc4 ss5 hI6 hc7 hs8 => ?_)
      refine w_zeq (fun h9 => absurd h9 (by omega)) (fun h9 => ?_)
      refine w_loc rfl ?_
      refine w_loc rfl ?_
      refine w_pure rfl ?_
      refine w_pure rfl ?_
      refine w_loc rfl ?_
      refine w_imul ⟨by omega, by omega⟩ ?_
      refine w_iadd ⟨by omega, by omega⟩ ?_
      refine w_iald is_154 ln_154 ⟨by omega, by omega⟩ (t_I_s1 hI6 hd (by omega) (by omega)) ?_
      refine w_callO (t_S_startedAt (e := k (212 + 4 * s + 1).toNat) hI6) rfl rfl (fun iv10 dv11 cc12 ss13 hI14 hc15 hs16 => ?_)
      refine w_zge (fun h17 => ?_) (fun h17 => ?_)
      · skip
        refine pz_G_of pz_b227_345 ?_
        refine w_iinc rfl rfl (ls' := [some (.inr (.inl 2)), some (.inr (.inl 154)), some (.inl (s + 1)), x3, x4]) rfl ⟨by omega, by omega⟩ ?_
        refine w_goto ?_
        exact ih (s + 1) _ _ _ _ _ _ (by omega) (by omega) (by omega) hI14 (by omega) (by omega)
      · skip
        refine w_loc rfl ?_
        refine w_loc rfl ?_
        refine w_pure rfl ?_
        refine w_pure rfl ?_
        refine w_loc rfl ?_
        refine w_imul ⟨by omega, by omega⟩ ?_
        refine w_iadd ⟨by omega, by omega⟩ ?_
        refine w_iald is_154 ln_154 ⟨by omega, by omega⟩ (t_I_s1 hI14 hd (by omega) (by omega)) ?_
        refine w_loc rfl ?_
        refine w_callO (t_S_waitFor (e := k (212 + 4 * s + 1).toNat) (s := s) hI14) rfl rfl (fun iv18 dv19 cc20 ss21 hI22 hc23 hs24 => ?_)
        refine w_loc rfl ?_
        refine w_pure rfl ?_
        refine w_pure rfl ?_
        refine w_loc rfl ?_
        refine w_imul ⟨by omega, by omega⟩ ?_
        refine w_iadd ⟨by omega, by omega⟩ ?_
        refine w_iald is_154 ln_154 ⟨by omega, by omega⟩ (t_I_s3 hI22 hd (by omega) (by omega)) ?_
        refine w_ige (fun h25 => ?_) (fun h25 => ?_)
        · skip
          refine pz_G_of pz_b227_345 ?_
          refine w_iinc rfl rfl (ls' := [some (.inr (.inl 2)), some (.inr (.inl 154)), some (.inl (s + 1)), x3, x4]) rfl ⟨by omega, by omega⟩ ?_
          refine w_goto ?_
          exact ih (s + 1) _ _ _ _ _ _ (by omega) (by omega) (by omega) hI22 (by omega) (by omega)
        · skip
          refine w_pure rfl ?_
          exfalso
          omega
theorem t_L_control {L : Nat} {sc k d kf : Nat → Int} {n : Int} {iv : Nat → Nat → Int} (hI : t_I sc k d n kf iv) (hd : t_d k d) (hz : k 0 ≤ 9) : t_O L 227 [.inr (.inl 2), .inr (.inl 154)] iv (.inl 1) 700 (t_I sc k d n kf) := by
  intro dv cc ss
  have hk := hI.2.1
  have h0 := hk.r0
  have f1 := f_str hk hz
  have f2 := f_wk hk hz
  have f3 := f_sn (k := k)
  have f4 := f_str01 k
  have f5 := f_wk01 k
  have f6 := f_con01 k
  have f7 := f_rnd k
  have f8 := f_sn01 k
  show pz_G 227 0 [some (.inr (.inl 2)), some (.inr (.inl 154)), none, none, none] [] (pz_Sh L, iv, dv, cc, ss) (t_OP L (.inl 1) 700 (t_I sc k d n kf) cc ss)
  have mid : ∀ (iv1 : Nat → Nat → Int) (dv1 : Nat → Nat → UInt64) (cc1 ss1 : Nat), t_I sc k d n kf iv1 → cc1 ≤ cc → ss1 ≤ ss → pz_G 227 60 [some (.inr (.inl 2)), some (.inr (.inl 154)), none, none, none] [] (pz_Sh L, iv1, dv1, cc1, ss1) (t_OP L (.inl 1) 700 (t_I sc k d n kf) cc ss) := by
    intro iv1 dv1 cc1 ss1 hI1 l1 l2
    rcases f_sn01 k with sn | sn
    · skip
      refine pz_G_of pz_b227_60 ?_
      refine w_pure rfl ?_
      refine w_loc (ls' := [some (.inr (.inl 2)), some (.inr (.inl 154)), some (.inl (0)), none, none]) (st' := []) rfl ?_
      refine w_nil ?_
      refine t_ctl_a0 (C := cc1 + 500) (S := ss1 + 3000) hd hk sn (fun a9 y3 y4 iv9 dv9 cc9 ss9 hI9 q9 hC9 hS9 => ?_) (k 0 + 1).toNat 0 _ _ _ _ _ _ (by omega) (by omega) (by omega) hI1 (by omega) (by omega)
      refine pz_G_of pz_b227_285 ?_
      refine w_pure rfl ?_
      refine w_loc (ls' := [some (.inr (.inl 2)), some (.inr (.inl 154)), some (.inl (0)), y3, y4]) (st' := []) rfl ?_
      refine w_nil ?_
      refine t_ctl_s0 (C := cc9 + 6) (S := ss9 + 36) hd hk sn (fun s9 z3 z4 iv8 dv8 cc8 ss8 hI8 q8 hC8 hS8 => ?_) (k 2 + 1).toNat 0 _ _ _ _ _ _ (by omega) (by omega) (by omega) hI9 (by omega) (by omega)
      refine pz_G_of pz_b227_351 ?_
      refine w_pure rfl ?_
      refine w_ret rfl ?_
      exact ⟨_, _, _, _, rfl, rfl, by omega, by omega, hI8⟩
    · skip
      refine pz_G_of pz_b227_60 ?_
      refine w_pure rfl ?_
      refine w_loc (ls' := [some (.inr (.inl 2)), some (.inr (.inl 154)), some (.inl (0)), none, none]) (st' := []) rfl ?_
      refine w_nil ?_
      refine t_ctl_a1 (C := cc1 + 500) (S := ss1 + 3000) hd hk sn (fun a9 y3 y4 iv9 dv9 cc9 ss9 hI9 q9 hC9 hS9 => ?_) (k 0 + 1).toNat 0 _ _ _ _ _ _ (by omega) (by omega) (by omega) hI1 (by omega) (by omega)
      refine pz_G_of pz_b227_285 ?_
      refine w_pure rfl ?_
      refine w_loc (ls' := [some (.inr (.inl 2)), some (.inr (.inl 154)), some (.inl (0)), y3, y4]) (st' := []) rfl ?_
      refine w_nil ?_
      refine t_ctl_s1 (C := cc9 + 6) (S := ss9 + 36) hd hk sn (fun s9 z3 z4 iv8 dv8 cc8 ss8 hI8 q8 hC8 hS8 => ?_) (k 2 + 1).toNat 0 _ _ _ _ _ _ (by omega) (by omega) (by omega) hI9 (by omega) (by omega)
      refine pz_G_of pz_b227_351 ?_
      refine w_pure rfl ?_
      refine w_ret rfl ?_
      exact ⟨_, _, _, _, rfl, rfl, by omega, by omega, hI8⟩
  refine pz_G_of pz_b227_0 ?_
  refine w_loc rfl ?_
  refine w_callO (t_S_isStrong hI) rfl (pz_cokI is_2 rfl) (fun iv1 dv2 cc3 ss4 hI5 hc6 hs7 => ?_)
  refine w_zeq (fun h8 => ?_) (fun h8 => ?_)
  · skip
    refine pz_G_of pz_b227_14 ?_
    refine w_loc rfl ?_
    refine w_callO (t_S_isWeak hI5) rfl (pz_cokI is_2 rfl) (fun iv9 dv10 cc11 ss12 hI13 hc14 hs15 => ?_)
    refine w_zeq (fun h16 => ?_) (fun h16 => ?_)
    · skip
      refine pz_G_of pz_b227_28 ?_
      refine w_loc rfl ?_
      refine w_callO (t_S_isSeen hI13) rfl (pz_cokI is_2 rfl) (fun iv17 dv18 cc19 ss20 hI21 hc22 hs23 => ?_)
      refine w_zeq (fun h24 => ?_) (fun h24 => ?_)
      · skip
        refine pz_G_of pz_b227_42 ?_
        refine w_loc rfl ?_
        refine w_callO (t_S_rounds hI21) rfl (pz_cokI is_2 rfl) (fun iv25 dv26 cc27 ss28 hI29 hc30 hs31 => ?_)
        refine w_zlt (fun h32 => ?_) (fun h32 => ?_)
        · skip
          refine pz_G_of pz_b227_58 ?_
          refine w_pure rfl ?_
          exfalso
          omega
        · skip
          refine w_loc rfl ?_
          refine w_callO (t_S_rounds hI29) rfl (pz_cokI is_2 rfl) (fun iv33 dv34 cc35 ss36 hI37 hc38 hs39 => ?_)
          refine w_pure rfl ?_
          refine w_ile (fun h40 => ?_) (fun h40 => ?_)
          · skip
            exact mid _ _ _ _ hI37 (by omega) (by omega)
          · skip
            refine w_nil ?_
            refine pz_G_of pz_b227_58 ?_
            refine w_pure rfl ?_
            exfalso
            omega
      · skip
        refine w_loc rfl ?_
        refine w_callO (t_S_isConsistent hI21) rfl (pz_cokI is_2 rfl) (fun iv41 dv42 cc43 ss44 hI45 hc46 hs47 => ?_)
        refine w_zeq (fun h48 => ?_) (fun h48 => ?_)
        · skip
          refine pz_G_of pz_b227_58 ?_
          refine w_pure rfl ?_
          exfalso
          omega
        · skip
          refine w_nil ?_
          refine pz_G_of pz_b227_42 ?_
          refine w_loc rfl ?_
          refine w_callO (t_S_rounds hI45) rfl (pz_cokI is_2 rfl) (fun iv49 dv50 cc51 ss52 hI53 hc54 hs55 => ?_)
          refine w_zlt (fun h56 => ?_) (fun h56 => ?_)
          · skip
            refine pz_G_of pz_b227_58 ?_
            refine w_pure rfl ?_
            exfalso
            omega
          · skip
            refine w_loc rfl ?_
            refine w_callO (t_S_rounds hI53) rfl (pz_cokI is_2 rfl) (fun iv57 dv58 cc59 ss60 hI61 hc62 hs63 => ?_)
            refine w_pure rfl ?_
            refine w_ile (fun h64 => ?_) (fun h64 => ?_)
            · skip
              exact mid _ _ _ _ hI61 (by omega) (by omega)
            · skip
              refine w_nil ?_
              refine pz_G_of pz_b227_58 ?_
              refine w_pure rfl ?_
              exfalso
              omega
    · skip
      refine w_loc rfl ?_
      refine w_callO (t_S_isConsistent hI13) rfl (pz_cokI is_2 rfl) (fun iv65 dv66 cc67 ss68 hI69 hc70 hs71 => ?_)
      refine w_zeq (fun h72 => ?_) (fun h72 => ?_)
      · skip
        refine pz_G_of pz_b227_58 ?_
        refine w_pure rfl ?_
        exfalso
        omega
      · skip
        refine w_nil ?_
        refine pz_G_of pz_b227_28 ?_
        refine w_loc rfl ?_
        refine w_callO (t_S_isSeen hI69) rfl (pz_cokI is_2 rfl) (fun iv73 dv74 cc75 ss76 hI77 hc78 hs79 => ?_)
        refine w_zeq (fun h80 => ?_) (fun h80 => ?_)
        · skip
          refine pz_G_of pz_b227_42 ?_
          refine w_loc rfl ?_
          refine w_callO (t_S_rounds hI77) rfl (pz_cokI is_2 rfl) (fun iv81 dv82 cc83 ss84 hI85 hc86 hs87 => ?_)
          refine w_zlt (fun h88 => ?_) (fun h88 => ?_)
          · skip
            refine pz_G_of pz_b227_58 ?_
            refine w_pure rfl ?_
            exfalso
            omega
          · skip
            refine w_loc rfl ?_
            refine w_callO (t_S_rounds hI85) rfl (pz_cokI is_2 rfl) (fun iv89 dv90 cc91 ss92 hI93 hc94 hs95 => ?_)
            refine w_pure rfl ?_
            refine w_ile (fun h96 => ?_) (fun h96 => ?_)
            · skip
              exact mid _ _ _ _ hI93 (by omega) (by omega)
            · skip
              refine w_nil ?_
              refine pz_G_of pz_b227_58 ?_
              refine w_pure rfl ?_
              exfalso
              omega
        · skip
          refine w_loc rfl ?_
          refine w_callO (t_S_isConsistent hI77) rfl (pz_cokI is_2 rfl) (fun iv97 dv98 cc99 ss100 hI101 hc102 hs103 => ?_)
          refine w_zeq (fun h104 => ?_) (fun h104 => ?_)
          · skip
            refine pz_G_of pz_b227_58 ?_
            refine w_pure rfl ?_
            exfalso
            omega
          · skip
            refine w_nil ?_
            refine pz_G_of pz_b227_42 ?_
            refine w_loc rfl ?_
            refine w_callO (t_S_rounds hI101) rfl (pz_cokI is_2 rfl) (fun iv105 dv106 cc107 ss108 hI109 hc110 hs111 => ?_)
            refine w_zlt (fun h112 => ?_) (fun h112 => ?_)
            · skip
              refine pz_G_of pz_b227_58 ?_
              refine w_pure rfl ?_
              exfalso
              omega
            · skip
              refine w_loc rfl ?_
              refine w_callO (t_S_rounds hI109) rfl (pz_cokI is_2 rfl) (fun iv113 dv114 cc115 ss116 hI117 hc118 hs119 => ?_)
              refine w_pure rfl ?_
              refine w_ile (fun h120 => ?_) (fun h120 => ?_)
              · skip
                exact mid _ _ _ _ hI117 (by omega) (by omega)
              · skip
                refine w_nil ?_
                refine pz_G_of pz_b227_58 ?_
                refine w_pure rfl ?_
                exfalso
                omega
  · skip
    refine w_loc rfl ?_
    refine w_callO (t_S_isWeak hI5) rfl (pz_cokI is_2 rfl) (fun iv121 dv122 cc123 ss124 hI125 hc126 hs127 => ?_)
    refine w_zeq (fun h128 => ?_) (fun h128 => ?_)
    · skip
      refine pz_G_of pz_b227_58 ?_
      refine w_pure rfl ?_
      exfalso
      omega
    · skip
      refine w_nil ?_
      refine pz_G_of pz_b227_14 ?_
      refine w_loc rfl ?_
      refine w_callO (t_S_isWeak hI125) rfl (pz_cokI is_2 rfl) (fun iv129 dv130 cc131 ss132 hI133 hc134 hs135 => ?_)
      refine w_zeq (fun h136 => ?_) (fun h136 => ?_)
      · skip
        refine pz_G_of pz_b227_28 ?_
        refine w_loc rfl ?_
        refine w_callO (t_S_isSeen hI133) rfl (pz_cokI is_2 rfl) (fun iv137 dv138 cc139 ss140 hI141 hc142 hs143 => ?_)
        refine w_zeq (fun h144 => ?_) (fun h144 => ?_)
        · skip
          refine pz_G_of pz_b227_42 ?_
          refine w_loc rfl ?_
          refine w_callO (t_S_rounds hI141) rfl (pz_cokI is_2 rfl) (fun iv145 dv146 cc147 ss148 hI149 hc150 hs151 => ?_)
          refine w_zlt (fun h152 => ?_) (fun h152 => ?_)
          · skip
            refine pz_G_of pz_b227_58 ?_
            refine w_pure rfl ?_
            exfalso
            omega
          · skip
            refine w_loc rfl ?_
            refine w_callO (t_S_rounds hI149) rfl (pz_cokI is_2 rfl) (fun iv153 dv154 cc155 ss156 hI157 hc158 hs159 => ?_)
            refine w_pure rfl ?_
            refine w_ile (fun h160 => ?_) (fun h160 => ?_)
            · skip
              exact mid _ _ _ _ hI157 (by omega) (by omega)
            · skip
              refine w_nil ?_
              refine pz_G_of pz_b227_58 ?_
              refine w_pure rfl ?_
              exfalso
              omega
        · skip
          refine w_loc rfl ?_
          refine w_callO (t_S_isConsistent hI141) rfl (pz_cokI is_2 rfl) (fun iv161 dv162 cc163 ss164 hI165 hc166 hs167 => ?_)
          refine w_zeq (fun h168 => ?_) (fun h168 => ?_)
          · skip
            refine pz_G_of pz_b227_58 ?_
            refine w_pure rfl ?_
            exfalso
            omega
          · skip
            refine w_nil ?_
            refine pz_G_of pz_b227_42 ?_
            refine w_loc rfl ?_
            refine w_callO (t_S_rounds hI165) rfl (pz_cokI is_2 rfl) (fun iv169 dv170 cc171 ss172 hI173 hc174 hs175 => ?_)
            refine w_zlt (fun h176 => ?_) (fun h176 => ?_)
            · skip
              refine pz_G_of pz_b227_58 ?_
              refine w_pure rfl ?_
              exfalso
              omega
            · skip
              refine w_loc rfl ?_
              refine w_callO (t_S_rounds hI173) rfl (pz_cokI is_2 rfl) (fun iv177 dv178 cc179 ss180 hI181 hc182 hs183 => ?_)
              refine w_pure rfl ?_
              refine w_ile (fun h184 => ?_) (fun h184 => ?_)
              · skip
                exact mid _ _ _ _ hI181 (by omega) (by omega)
              · skip
                refine w_nil ?_
                refine pz_G_of pz_b227_58 ?_
                refine w_pure rfl ?_
                exfalso
                omega
      · skip
        refine w_loc rfl ?_
        refine w_callO (t_S_isConsistent hI133) rfl (pz_cokI is_2 rfl) (fun iv185 dv186 cc187 ss188 hI189 hc190 hs191 => ?_)
        refine w_zeq (fun h192 => ?_) (fun h192 => ?_)
        · skip
          refine pz_G_of pz_b227_58 ?_
          refine w_pure rfl ?_
          exfalso
          omega
        · skip
          refine w_nil ?_
          refine pz_G_of pz_b227_28 ?_
          refine w_loc rfl ?_
          refine w_callO (t_S_isSeen hI189) rfl (pz_cokI is_2 rfl) (fun iv193 dv194 cc195 ss196 hI197 hc198 hs199 => ?_)
          refine w_zeq (fun h200 => ?_) (fun h200 => ?_)
          · skip
            refine pz_G_of pz_b227_42 ?_
            refine w_loc rfl ?_
            refine w_callO (t_S_rounds hI197) rfl (pz_cokI is_2 rfl) (fun iv201 dv202 cc203 ss204 hI205 hc206 hs207 => ?_)
            refine w_zlt (fun h208 => ?_) (fun h208 => ?_)
            · skip
              refine pz_G_of pz_b227_58 ?_
              refine w_pure rfl ?_
              exfalso
              omega
            · skip
              refine w_loc rfl ?_
              refine w_callO (t_S_rounds hI205) rfl (pz_cokI is_2 rfl) (fun iv209 dv210 cc211 ss212 hI213 hc214 hs215 => ?_)
              refine w_pure rfl ?_
              refine w_ile (fun h216 => ?_) (fun h216 => ?_)
              · skip
                exact mid _ _ _ _ hI213 (by omega) (by omega)
              · skip
                refine w_nil ?_
                refine pz_G_of pz_b227_58 ?_
                refine w_pure rfl ?_
                exfalso
                omega
          · skip
            refine w_loc rfl ?_
            refine w_callO (t_S_isConsistent hI197) rfl (pz_cokI is_2 rfl) (fun iv217 dv218 cc219 ss220 hI221 hc222 hs223 => ?_)
            refine w_zeq (fun h224 => ?_) (fun h224 => ?_)
            · skip
              refine pz_G_of pz_b227_58 ?_
              refine w_pure rfl ?_
              exfalso
              omega
            · skip
              refine w_nil ?_
              refine pz_G_of pz_b227_42 ?_
              refine w_loc rfl ?_
              refine w_callO (t_S_rounds hI221) rfl (pz_cokI is_2 rfl) (fun iv225 dv226 cc227 ss228 hI229 hc230 hs231 => ?_)
              refine w_zlt (fun h232 => ?_) (fun h232 => ?_)
              · skip
                refine pz_G_of pz_b227_58 ?_
                refine w_pure rfl ?_
                exfalso
                omega
              · skip
                refine w_loc rfl ?_
                refine w_callO (t_S_rounds hI229) rfl (pz_cokI is_2 rfl) (fun iv233 dv234 cc235 ss236 hI237 hc238 hs239 => ?_)
                refine w_pure rfl ?_
                refine w_ile (fun h240 => ?_) (fun h240 => ?_)
                · skip
                  exact mid _ _ _ _ hI237 (by omega) (by omega)
                · skip
                  refine w_nil ?_
                  refine pz_G_of pz_b227_58 ?_
                  refine w_pure rfl ?_
                  exfalso
                  omega
