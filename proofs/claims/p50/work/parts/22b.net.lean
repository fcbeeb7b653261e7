/-! the law's net -/
theorem t_net_c {L C S : Nat} {sc k d kf : Nat → Int} {n : Int} {a b : Int} {Q : pz_Q} (hd : t_d k d) (hk : q_KR k) (fn : c_isConsistent k = 1) (ha : 0 ≤ a ∧ a < k 0) (hb : 0 ≤ b ∧ b < k 0) (K : ∀ (c : Int) (iv : Nat → Nat → Int) (dv : Nat → Nat → UInt64) (cc ss : Nat), t_I sc k d n kf iv → 0 ≤ c → cc ≤ C → ss ≤ S → pz_G 226 206 [some (.inr (.inl 2)), some (.inr (.inl 154)), some (.inl (c_isConsistent k)), some (.inl (a)), some (.inl (b)), some (.inl (c_distance k a b)), some (.inl (c))] [] (pz_Sh L, iv, dv, cc, ss) Q) : ∀ (m9 : Nat) (c : Int) (iv : Nat → Nat → Int) (dv : Nat → Nat → UInt64) (cc ss : Nat), 0 ≤ c → c ≤ k 0 → k 0 - c < m9 → t_I sc k d n kf iv → (cc : Int) + 5 * (k 0 - c) ≤ C → (ss : Int) + 30 * (k 0 - c) ≤ S → pz_G 226 121 [some (.inr (.inl 2)), some (.inr (.inl 154)), some (.inl (c_isConsistent k)), some (.inl (a)), some (.inl (b)), some (.inl (c_distance k a b)), some (.inl (c))] [] (pz_Sh L, iv, dv, cc, ss) Q := by
  intro m9
  have h0 := hk.r0
  induction m9 with
  | zero => intro c iv dv cc ss l1 l2 l3; omega
  | succ m9 ih =>
    intro c iv dv cc ss l1 l2 l3 hI l4 l5
    refine pz_G_of pz_b226_121 ?_
    refine w_loc rfl ?_
    refine w_loc rfl ?_
    refine w_pure rfl ?_
    refine w_iald is_154 ln_154 ⟨by omega, by omega⟩ (t_I_d0 hI hd) ?_
    refine w_ige (fun h1 => ?_) (fun h1 => ?_)
    · skip
      exact K c _ _ _ _ hI (by omega) (by omega) (by omega)
    · skip
      have f1 := f_dis hk ha (b := c) (by omega)
      have f2 := f_dis hk (a := c) (by omega) hb
      have f3 := f_dis hk ha hb
      have f4 := f_tri hk ha hb (c := c) (by omega) fn
      refine w_loc rfl ?_
      refine w_zeq (fun h2 => absurd h2 (by omega)) (fun h2 => ?_)
      refine w_loc rfl ?_
      refine w_loc rfl ?_
      refine w_loc rfl ?_
      refine w_callO (t_S_distance (f := a) (t := c) hI) rfl rfl (fun iv3 dv4 cc5 ss6 hI7 hc8 hs9 => ?_)
      refine w_ldcn ?_
      refine w_ile (fun h10 => ?_) (fun h10 => ?_)
      · skip
        refine pz_G_of pz_b226_200 ?_
        refine w_iinc rfl rfl (ls' := [some (.inr (.inl 2)), some (.inr (.inl 154)), some (.inl (c_isConsistent k)), some (.inl (a)), some (.inl (b)), some (.inl (c_distance k a b)), some (.inl (c + 1))]) rfl ⟨by omega, by omega⟩ ?_
        refine w_goto ?_
        exact ih (c + 1) _ _ _ _ (by omega) (by omega) (by omega) hI7 (by omega) (by omega)
      · skip
        refine w_loc rfl ?_
        refine w_loc rfl ?_
        refine w_loc rfl ?_
        refine w_callO (t_S_distance (f := a) (t := c) hI7) rfl rfl (fun iv11 dv12 cc13 ss14 hI15 hc16 hs17 => ?_)
        refine w_ldcn ?_
        refine w_ieq (fun h18 => ?_) (fun h18 => ?_)
        · skip
          refine pz_G_of pz_b226_200 ?_
          refine w_iinc rfl rfl (ls' := [some (.inr (.inl 2)), some (.inr (.inl 154)), some (.inl (c_isConsistent k)), some (.inl (a)), some (.inl (b)), some (.inl (c_distance k a b)), some (.inl (c + 1))]) rfl ⟨by omega, by omega⟩ ?_
          refine w_goto ?_
          exact ih (c + 1) _ _ _ _ (by omega) (by omega) (by omega) hI15 (by omega) (by omega)
        · skip
          refine w_loc rfl ?_
          refine w_loc rfl ?_
          refine w_loc rfl ?_
          refine w_callO (t_S_distance (f := c) (t := b) hI15) rfl rfl (fun iv19 dv20 cc21 ss22 hI23 hc24 hs25 => ?_)
          refine w_ldcn ?_
          refine w_ieq (fun h26 => ?_) (fun h26 => ?_)
          · skip
            refine pz_G_of pz_b226_200 ?_
            refine w_iinc rfl rfl (ls' := [some (.inr (.inl 2)), some (.inr (.inl 154)), some (.inl (c_isConsistent k)), some (.inl (a)), some (.inl (b)), some (.inl (c_distance k a b)), some (.inl (c + 1))]) rfl ⟨by omega, by omega⟩ ?_
            refine w_goto ?_
            exact ih (c + 1) _ _ _ _ (by omega) (by omega) (by omega) hI23 (by omega) (by omega)
          · skip
            refine w_loc rfl ?_
            refine w_ldcn ?_
            refine w_ieq (fun h27 => ?_) (fun h27 => ?_)
            · skip
              refine pz_G_of pz_b226_198 ?_
              refine w_pure rfl ?_
              exfalso
              omega
            · skip
              refine w_loc rfl ?_
              refine w_loc rfl ?_
              refine w_loc rfl ?_
              refine w_callO (t_S_distance (f := a) (t := c) hI23) rfl rfl (fun iv28 dv29 cc30 ss31 hI32 hc33 hs34 => ?_)
              refine w_loc rfl ?_
              refine w_loc rfl ?_
              refine w_loc rfl ?_
              refine w_callO (t_S_distance (f := c) (t := b) hI32) rfl rfl (fun iv35 dv36 cc37 ss38 hI39 hc40 hs41 => ?_)
              refine w_iadd ⟨by omega, by omega⟩ ?_
              refine w_loc rfl ?_
              refine w_ige (fun h42 => ?_) (fun h42 => ?_)
              · skip
                refine pz_G_of pz_b226_200 ?_
                refine w_iinc rfl rfl (ls' := [some (.inr (.inl 2)), some (.inr (.inl 154)), some (.inl (c_isConsistent k)), some (.inl (a)), some (.inl (b)), some (.inl (c_distance k a b)), some (.inl (c + 1))]) rfl ⟨by omega, by omega⟩ ?_
                refine w_goto ?_
                exact ih (c + 1) _ _ _ _ (by omega) (by omega) (by omega) hI39 (by omega) (by omega)
              · skip
                refine w_nil ?_
                refine pz_G_of pz_b226_198 ?_
                refine w_pure rfl ?_
                exfalso
                omega
theorem t_net_b0 {L C S : Nat} {sc k d kf : Nat → Int} {n : Int} {a : Int} {Q : pz_Q} (hd : t_d k d) (hk : q_KR k) (fn : c_isConsistent k = 0) (ha : 0 ≤ a ∧ a < k 0) (K : ∀ (b : Int) (x5 x6 : Option pz_V) (iv : Nat → Nat → Int) (dv : Nat → Nat → UInt64) (cc ss : Nat), t_I sc k d n kf iv → 0 ≤ b → cc ≤ C → ss ≤ S → pz_G 226 241 [some (.inr (.inl 2)), some (.inr (.inl 154)), some (.inl (c_isConsistent k)), some (.inl (a)), some (.inl (b)), x5, x6] [] (pz_Sh L, iv, dv, cc, ss) Q) : ∀ (m9 : Nat) (b : Int) (x5 x6 : Option pz_V) (iv : Nat → Nat → Int) (dv : Nat → Nat → UInt64) (cc ss : Nat), 0 ≤ b → b ≤ k 0 → k 0 - b < m9 → t_I sc k d n kf iv → (cc : Int) + 60 * (k 0 - b) ≤ C → (ss : Int) + 360 * (k 0 - b) ≤ S → pz_G 226 56 [some (.inr (.inl 2)), some (.inr (.inl 154)), some (.inl (c_isConsistent k)), some (.inl (a)), some (.inl (b)), x5, x6] [] (pz_Sh L, iv, dv, cc, ss) Q := by
  intro m9
  have h0 := hk.r0
  induction m9 with
  | zero => intro b x5 x6 iv dv cc ss l1 l2 l3; omega
  | succ m9 ih =>
    intro b x5 x6 iv dv cc ss l1 l2 l3 hI l4 l5
    refine pz_G_of pz_b226_56 ?_
    refine w_loc rfl ?_
    refine w_loc rfl ?_
    refine w_pure rfl ?_
    refine w_iald is_154 ln_154 ⟨by omega, by omega⟩ (t_I_d0 hI hd) ?_
    refine w_ige (fun h1 => ?_) (fun h1 => ?_)
    · skip
      exact K b _ _ _ _ _ _ hI (by omega) (by omega) (by omega)
    · skip
      have f1 := f_dis hk ha (b := b) (by omega)
      have f2 := f_dbr (k := k) (a := a) (b := b)
      have f5 : a = b → c_isConsistent k = 1 → c_distance k a b = 0 := fun q r => f_dis0 hk ha q r
      have f6 : a ≠ b → c_isConsistent k = 1 → c_distance k a b = -99991003 → c_isDirect k a b = 0 := fun q r t => f_dir hk ha (by omega) q r t
      refine w_loc rfl ?_
      refine w_loc rfl ?_
      refine w_loc rfl ?_
      refine w_callO (t_S_distance (f := a) (t := b) hI) rfl rfl (fun iv2 dv3 cc4 ss5 hI6 hc7 hs8 => ?_)
      refine w_loc (ls' := [some (.inr (.inl 2)), some (.inr (.inl 154)), some (.inl (c_isConsistent k)), some (.inl (a)), some (.inl (b)), some (.inl (c_distance k a b)), x6]) (st' := []) rfl ?_
      refine w_loc rfl ?_
      refine w_loc rfl ?_
      refine w_loc rfl ?_
      refine w_loc rfl ?_
      refine w_callO (t_S_distanceByRounds (f := a) (t := b) hI6) rfl rfl (fun iv9 dv10 cc11 ss12 hI13 hc14 hs15 => ?_)
      refine w_ine (fun h16 => ?_) (fun h16 => ?_)
      · skip
        refine pz_G_of pz_b226_116 ?_
        refine w_pure rfl ?_
        exfalso
        omega
      · skip
        refine w_loc rfl ?_
        refine w_ldcn ?_
        refine w_ine (fun h17 => ?_) (fun h17 => ?_)
        · skip
          refine pz_G_of pz_b226_96 ?_
          refine w_pure rfl ?_
          refine w_nil ?_
          refine pz_G_of pz_b226_97 ?_
          refine w_loc rfl ?_
          refine w_ieq (fun h18 => ?_) (fun h18 => absurd h18 (by omega))
          refine pz_G_of pz_b226_116 ?_
          refine w_pure rfl ?_
          exfalso
          omega
        · skip
          refine w_pure rfl ?_
          refine w_goto ?_
          refine pz_G_of pz_b226_97 ?_
          refine w_loc rfl ?_
          refine w_ieq (fun h19 => absurd h19 (by omega)) (fun h19 => ?_)
          refine w_loc rfl ?_
          refine w_loc rfl ?_
          refine w_ine (fun h20 => ?_) (fun h20 => ?_)
          · skip
            refine pz_G_of pz_b226_118 ?_
            refine w_pure rfl ?_
            refine w_loc (ls' := [some (.inr (.inl 2)), some (.inr (.inl 154)), some (.inl (c_isConsistent k)), some (.inl (a)), some (.inl (b)), some (.inl (c_distance k a b)), some (.inl (0))]) (st' := []) rfl ?_
            refine w_nil ?_
            refine pz_G_of pz_b226_121 ?_
            refine w_loc rfl ?_
            refine w_loc rfl ?_
            refine w_pure rfl ?_
            refine w_iald is_154 ln_154 ⟨by omega, by omega⟩ (t_I_d0 hI13 hd) ?_
            refine w_ige (fun h21 => ?_) (fun h21 => ?_)
            · skip
              refine pz_G_of pz_b226_206 ?_
              refine w_loc rfl ?_
              refine w_loc rfl ?_
              refine w_ieq (fun h22 => ?_) (fun h22 => ?_)
              · skip
                refine pz_G_of pz_b226_235 ?_
                refine w_iinc rfl rfl (ls' := [some (.inr (.inl 2)), some (.inr (.inl 154)), some (.inl (c_isConsistent k)), some (.inl (a)), some (.inl (b + 1)), some (.inl (c_distance k a b)), some (.inl (0))]) rfl ⟨by omega, by omega⟩ ?_
                refine w_goto ?_
                exact ih (b + 1) _ _ _ _ _ _ (by omega) (by omega) (by omega) hI13 (by omega) (by omega)
              · skip
                refine w_loc rfl ?_
                refine w_zeq (fun h23 => ?_) (fun h23 => absurd h23 (by omega))
                refine pz_G_of pz_b226_235 ?_
                refine w_iinc rfl rfl (ls' := [some (.inr (.inl 2)), some (.inr (.inl 154)), some (.inl (c_isConsistent k)), some (.inl (a)), some (.inl (b + 1)), some (.inl (c_distance k a b)), some (.inl (0))]) rfl ⟨by omega, by omega⟩ ?_
                refine w_goto ?_
                exact ih (b + 1) _ _ _ _ _ _ (by omega) (by omega) (by omega) hI13 (by omega) (by omega)
            · skip
              refine w_loc rfl ?_
              refine w_zeq (fun h24 => ?_) (fun h24 => absurd h24 (by omega))
              refine pz_G_of pz_b226_206 ?_
              refine w_loc rfl ?_
              refine w_loc rfl ?_
              refine w_ieq (fun h25 => ?_) (fun h25 => ?_)
              · skip
                refine pz_G_of pz_b226_235 ?_
                refine w_iinc rfl rfl (ls' := [some (.inr (.inl 2)), some (.inr (.inl 154)), some (.inl (c_isConsistent k)), some (.inl (a)), some (.inl (b + 1)), some (.inl (c_distance k a b)), some (.inl (0))]) rfl ⟨by omega, by omega⟩ ?_
                refine w_goto ?_
                exact ih (b + 1) _ _ _ _ _ _ (by omega) (by omega) (by omega) hI13 (by omega) (by omega)
              · skip
                refine w_loc rfl ?_
                refine w_zeq (fun h26 => ?_) (fun h26 => absurd h26 (by omega))
                refine pz_G_of pz_b226_235 ?_
                refine w_iinc rfl rfl (ls' := [some (.inr (.inl 2)), some (.inr (.inl 154)), some (.inl (c_isConsistent k)), some (.inl (a)), some (.inl (b + 1)), some (.inl (c_distance k a b)), some (.inl (0))]) rfl ⟨by omega, by omega⟩ ?_
                refine w_goto ?_
                exact ih (b + 1) _ _ _ _ _ _ (by omega) (by omega) (by omega) hI13 (by omega) (by omega)
          · skip
            refine w_loc rfl ?_
            refine w_zeq (fun h27 => ?_) (fun h27 => absurd h27 (by omega))
            refine pz_G_of pz_b226_118 ?_
            refine w_pure rfl ?_
            refine w_loc (ls' := [some (.inr (.inl 2)), some (.inr (.inl 154)), some (.inl (c_isConsistent k)), some (.inl (a)), some (.inl (b)), some (.inl (c_distance k a b)), some (.inl (0))]) (st' := []) rfl ?_
            refine w_nil ?_
            refine pz_G_of pz_b226_121 ?_
            refine w_loc rfl ?_
            refine w_loc rfl ?_
            refine w_pure rfl ?_
            refine w_iald is_154 ln_154 ⟨by omega, by omega⟩ (t_I_d0 hI13 hd) ?_
            refine w_ige (fun h28 => ?_) (fun h28 => ?_)
            · skip
              refine pz_G_of pz_b226_206 ?_
              refine w_loc rfl ?_
              refine w_loc rfl ?_
              refine w_ieq (fun h29 => ?_) (fun h29 => ?_)
              · skip
                refine pz_G_of pz_b226_235 ?_
                refine w_iinc rfl rfl (ls' := [some (.inr (.inl 2)), some (.inr (.inl 154)), some (.inl (c_isConsistent k)), some (.inl (a)), some (.inl (b + 1)), some (.inl (c_distance k a b)), some (.inl (0))]) rfl ⟨by omega, by omega⟩ ?_
                refine w_goto ?_
                exact ih (b + 1) _ _ _ _ _ _ (by omega) (by omega) (by omega) hI13 (by omega) (by omega)
              · skip
                refine w_loc rfl ?_
                refine w_zeq (fun h30 => ?_) (fun h30 => absurd h30 (by omega))
                refine pz_G_of pz_b226_235 ?_
                refine w_iinc rfl rfl (ls' := [some (.inr (.inl 2)), some (.inr (.inl 154)), some (.inl (c_isConsistent k)), some (.inl (a)), some (.inl (b + 1)), some (.inl (c_distance k a b)), some (.inl (0))]) rfl ⟨by omega, by omega⟩ ?_
                refine w_goto ?_
                exact ih (b + 1) _ _ _ _ _ _ (by omega) (by omega) (by omega) hI13 (by omega) (by omega)
            · skip
              refine w_loc rfl ?_
              refine w_zeq (fun h31 => ?_) (fun h31 => absurd h31 (by omega))
              refine pz_G_of pz_b226_206 ?_
              refine w_loc rfl ?_
              refine w_loc rfl ?_
              refine w_ieq (fun h32 => ?_) (fun h32 => ?_)
              · skip
                refine pz_G_of pz_b226_235 ?_
                refine w_iinc rfl rfl (ls' := [some (.inr (.inl 2)), some (.inr (.inl 154)), some (.inl (c_isConsistent k)), some (.inl (a)), some (.inl (b + 1)), some (.inl (c_distance k a b)), some (.inl (0))]) rfl ⟨by omega, by omega⟩ ?_
                refine w_goto ?_
                exact ih (b + 1) _ _ _ _ _ _ (by omega) (by omega) (by omega) hI13 (by omega) (by omega)
              · skip
                refine w_loc rfl ?_
                refine w_zeq (fun h33 => ?_) (fun h33 => absurd h33 (by omega))
                refine pz_G_of pz_b226_235 ?_
                refine w_iinc rfl rfl (ls' := [some (.inr (.inl 2)), some (.inr (.inl 154)), some (.inl (c_isConsistent k)), some (.inl (a)), some (.inl (b + 1)), some (.inl (c_distance k a b)), some (.inl (0))]) rfl ⟨by omega, by omega⟩ ?_
                refine w_goto ?_
                exact ih (b + 1) _ _ _ _ _ _ (by omega) (by omega) (by omega) hI13 (by omega) (by omega)
theorem t_net_a0 {L C S : Nat} {sc k d kf : Nat → Int} {n : Int} {Q : pz_Q} (hd : t_d k d) (hk : q_KR k) (fn : c_isConsistent k = 0) (K : ∀ (a : Int) (x4 x5 x6 : Option pz_V) (iv : Nat → Nat → Int) (dv : Nat → Nat → UInt64) (cc ss : Nat), t_I sc k d n kf iv → 0 ≤ a → cc ≤ C → ss ≤ S → pz_G 226 247 [some (.inr (.inl 2)), some (.inr (.inl 154)), some (.inl (c_isConsistent k)), some (.inl (a)), x4, x5, x6] [] (pz_Sh L, iv, dv, cc, ss) Q) : ∀ (m9 : Nat) (a : Int) (x4 x5 x6 : Option pz_V) (iv : Nat → Nat → Int) (dv : Nat → Nat → UInt64) (cc ss : Nat), 0 ≤ a → a ≤ k 0 → k 0 - a < m9 → t_I sc k d n kf iv → (cc : Int) + 600 * (k 0 - a) ≤ C → (ss : Int) + 3600 * (k 0 - a) ≤ S → pz_G 226 46 [some (.inr (.inl 2)), some (.inr (.inl 154)), some (.inl (c_isConsistent k)), some (.inl (a)), x4, x5, x6] [] (pz_Sh L, iv, dv, cc, ss) Q := by
  intro m9
  have h0 := hk.r0
  induction m9 with
  | zero => intro a x4 x5 x6 iv dv cc ss l1 l2 l3; omega
  | succ m9 ih =>
    intro a x4 x5 x6 iv dv cc ss l1 l2 l3 hI l4 l5
    refine pz_G_of pz_b226_46 ?_
    refine w_loc rfl ?_
    refine w_loc rfl ?_
    refine w_pure rfl ?_
    refine w_iald is_154 ln_154 ⟨by omega, by omega⟩ (t_I_d0 hI hd) ?_
    refine w_ige (fun h1 => ?_) (fun h1 => ?_)
    · skip
      exact K a _ _ _ _ _ _ _ hI (by omega) (by omega) (by omega)
    · skip
      refine w_pure rfl ?_
      refine w_loc (ls' := [some (.inr (.inl 2)), some (.inr (.inl 154)), some (.inl (c_isConsistent k)), some (.inl (a)), some (.inl (0)), x5, x6]) (st' := []) rfl ?_
      refine w_nil ?_
      refine t_net_b0 (C := cc + 600) (S := ss + 3600) hd hk fn (a := a) (by omega) (fun b9 y5 y6 iv9 dv9 cc9 ss9 hI9 q9 hC9 hS9 => ?_) (k 0 + 1).toNat 0 _ _ _ _ _ _ (by omega) (by omega) (by omega) hI (by omega) (by omega)
      refine pz_G_of pz_b226_241 ?_
      refine w_iinc rfl rfl (ls' := [some (.inr (.inl 2)), some (.inr (.inl 154)), some (.inl (c_isConsistent k)), some (.inl (a + 1)), some (.inl (b9)), y5, y6]) rfl ⟨by omega, by omega⟩ ?_
      refine w_goto ?_
      exact ih (a + 1) _ _ _ _ _ _ _ (by omega) (by omega) (by omega) hI9 (by omega) (by omega)
theorem t_net_b1 {L C S : Nat} {sc k d kf : Nat → Int} {n : Int} {a : Int} {Q : pz_Q} (hd : t_d k d) (hk : q_KR k) (fn : c_isConsistent k = 1) (ha : 0 ≤ a ∧ a < k 0) (K : ∀ (b : Int) (x5 x6 : Option pz_V) (iv : Nat → Nat → Int) (dv : Nat → Nat → UInt64) (cc ss : Nat), t_I sc k d n kf iv → 0 ≤ b → cc ≤ C → ss ≤ S → pz_G 226 241 [some (.inr (.inl 2)), some (.inr (.inl 154)), some (.inl (c_isConsistent k)), some (.inl (a)), some (.inl (b)), x5, x6] [] (pz_Sh L, iv, dv, cc, ss) Q) : ∀ (m9 : Nat) (b : Int) (x5 x6 : Option pz_V) (iv : Nat → Nat → Int) (dv : Nat → Nat → UInt64) (cc ss : Nat), 0 ≤ b → b ≤ k 0 → k 0 - b < m9 → t_I sc k d n kf iv → (cc : Int) + 60 * (k 0 - b) ≤ C → (ss : Int) + 360 * (k 0 - b) ≤ S → pz_G 226 56 [some (.inr (.inl 2)), some (.inr (.inl 154)), some (.inl (c_isConsistent k)), some (.inl (a)), some (.inl (b)), x5, x6] [] (pz_Sh L, iv, dv, cc, ss) Q := by
  intro m9
  have h0 := hk.r0
  induction m9 with
  | zero => intro b x5 x6 iv dv cc ss l1 l2 l3; omega
  | succ m9 ih =>
    intro b x5 x6 iv dv cc ss l1 l2 l3 hI l4 l5
    refine pz_G_of pz_b226_56 ?_
    refine w_loc rfl ?_
    refine w_loc rfl ?_
    refine w_pure rfl ?_
    refine w_iald is_154 ln_154 ⟨by omega, by omega⟩ (t_I_d0 hI hd) ?_
    refine w_ige (fun h1 => ?_) (fun h1 => ?_)
    · skip
      exact K b _ _ _ _ _ _ hI (by omega) (by omega) (by omega)
    · skip
      have f1 := f_dis hk ha (b := b) (by omega)
      have f2 := f_dbr (k := k) (a := a) (b := b)
      have f5 : a = b → c_isConsistent k = 1 → c_distance k a b = 0 := fun q r => f_dis0 hk ha q r
      have f6 : a ≠ b → c_isConsistent k = 1 → c_distance k a b = -99991003 → c_isDirect k a b = 0 := fun q r t => f_dir hk ha (by omega) q r t
      refine w_loc rfl ?_
      refine w_loc rfl ?_
      refine w_loc rfl ?_
      refine w_callO (t_S_distance (f := a) (t := b) hI) rfl rfl (fun iv2 dv3 cc4 ss5 hI6 hc7 hs8 => ?_)
      refine w_loc (ls' := [some (.inr (.inl 2)), some (.inr (.inl 154)), some (.inl (c_isConsistent k)), some (.inl (a)), some (.inl (b)), some (.inl (c_distance k a b)), x6]) (st' := []) rfl ?_
      refine w_loc rfl ?_
      refine w_loc rfl ?_
      refine w_loc rfl ?_
      refine w_loc rfl ?_
      refine w_callO (t_S_distanceByRounds (f := a) (t := b) hI6) rfl rfl (fun iv9 dv10 cc11 ss12 hI13 hc14 hs15 => ?_)
      refine w_ine (fun h16 => ?_) (fun h16 => ?_)
      · skip
        refine pz_G_of pz_b226_116 ?_
        refine w_pure rfl ?_
        exfalso
        omega
      · skip
        refine w_loc rfl ?_
        refine w_ldcn ?_
        refine w_ine (fun h17 => ?_) (fun h17 => ?_)
        · skip
          refine pz_G_of pz_b226_96 ?_
          refine w_pure rfl ?_
          refine w_nil ?_
          refine pz_G_of pz_b226_97 ?_
          refine w_loc rfl ?_
          refine w_ieq (fun h18 => absurd h18 (by omega)) (fun h18 => ?_)
          refine w_loc rfl ?_
          refine w_loc rfl ?_
          refine w_ine (fun h19 => ?_) (fun h19 => ?_)
          · skip
            refine pz_G_of pz_b226_118 ?_
            refine w_pure rfl ?_
            refine w_loc (ls' := [some (.inr (.inl 2)), some (.inr (.inl 154)), some (.inl (c_isConsistent k)), some (.inl (a)), some (.inl (b)), some (.inl (c_distance k a b)), some (.inl (0))]) (st' := []) rfl ?_
            refine w_nil ?_
            refine t_net_c (C := cc11 + 50) (S := ss12 + 300) hd hk fn ha (b := b) (by omega) (fun c9 iv9 dv9 cc9 ss9 hI9 q9 hC9 hS9 => ?_) (k 0 + 1).toNat 0 _ _ _ _ (by omega) (by omega) (by omega) hI13 (by omega) (by omega)
            refine pz_G_of pz_b226_206 ?_
            refine w_loc rfl ?_
            refine w_loc rfl ?_
            refine w_ieq (fun h21 => ?_) (fun h21 => ?_)
            · skip
              refine pz_G_of pz_b226_235 ?_
              refine w_iinc rfl rfl (ls' := [some (.inr (.inl 2)), some (.inr (.inl 154)), some (.inl (c_isConsistent k)), some (.inl (a)), some (.inl (b + 1)), some (.inl (c_distance k a b)), some (.inl (c9))]) rfl ⟨by omega, by omega⟩ ?_
              refine w_goto ?_
              exact ih (b + 1) _ _ _ _ _ _ (by omega) (by omega) (by omega) hI9 (by omega) (by omega)
            · skip
              refine w_loc rfl ?_
              refine w_zeq (fun h22 => absurd h22 (by omega)) (fun h22 => ?_)
              refine w_loc rfl ?_
              refine w_ldcn ?_
              refine w_ine (fun h23 => ?_) (fun h23 => ?_)
              · skip
                refine pz_G_of pz_b226_235 ?_
                refine w_iinc rfl rfl (ls' := [some (.inr (.inl 2)), some (.inr (.inl 154)), some (.inl (c_isConsistent k)), some (.inl (a)), some (.inl (b + 1)), some (.inl (c_distance k a b)), some (.inl (c9))]) rfl ⟨by omega, by omega⟩ ?_
                refine w_goto ?_
                exact ih (b + 1) _ _ _ _ _ _ (by omega) (by omega) (by omega) hI9 (by omega) (by omega)
              · skip
                refine w_loc rfl ?_
                refine w_loc rfl ?_
                refine w_loc rfl ?_
                refine w_callO (t_S_isDirect (f := a) (t := b) hI9) rfl rfl (fun iv24 dv25 cc26 ss27 hI28 hc29 hs30 => ?_)
                refine w_zeq (fun h31 => ?_) (fun h31 => ?_)
                · skip
                  refine pz_G_of pz_b226_235 ?_
                  refine w_iinc rfl rfl (ls' := [some (.inr (.inl 2)), some (.inr (.inl 154)), some (.inl (c_isConsistent k)), some (.inl (a)), some (.inl (b + 1)), some (.inl (c_distance k a b)), some (.inl (c9))]) rfl ⟨by omega, by omega⟩ ?_
                  refine w_goto ?_
                  exact ih (b + 1) _ _ _ _ _ _ (by omega) (by omega) (by omega) hI28 (by omega) (by omega)
                · skip
                  refine w_pure rfl ?_
                  exfalso
                  omega
          · skip
            refine w_loc rfl ?_
            refine w_zeq (fun h32 => absurd h32 (by omega)) (fun h32 => ?_)
            refine w_loc rfl ?_
            refine w_zeq (fun h33 => ?_) (fun h33 => ?_)
            · skip
              refine pz_G_of pz_b226_118 ?_
              refine w_pure rfl ?_
              refine w_loc (ls' := [some (.inr (.inl 2)), some (.inr (.inl 154)), some (.inl (c_isConsistent k)), some (.inl (a)), some (.inl (b)), some (.inl (c_distance k a b)), some (.inl (0))]) (st' := []) rfl ?_
              refine w_nil ?_
              refine t_net_c (C := cc11 + 50) (S := ss12 + 300) hd hk fn ha (b := b) (by omega) (fun c9 iv9 dv9 cc9 ss9 hI9 q9 hC9 hS9 => ?_) (k 0 + 1).toNat 0 _ _ _ _ (by omega) (by omega) (by omega) hI13 (by omega) (by omega)
              refine pz_G_of pz_b226_206 ?_
              refine w_loc rfl ?_
              refine w_loc rfl ?_
              refine w_ieq (fun h35 => ?_) (fun h35 => ?_)
              · skip
                refine pz_G_of pz_b226_235 ?_
                refine w_iinc rfl rfl (ls' := [some (.inr (.inl 2)), some (.inr (.inl 154)), some (.inl (c_isConsistent k)), some (.inl (a)), some (.inl (b + 1)), some (.inl (c_distance k a b)), some (.inl (c9))]) rfl ⟨by omega, by omega⟩ ?_
                refine w_goto ?_
                exact ih (b + 1) _ _ _ _ _ _ (by omega) (by omega) (by omega) hI9 (by omega) (by omega)
              · skip
                refine w_loc rfl ?_
                refine w_zeq (fun h36 => absurd h36 (by omega)) (fun h36 => ?_)
                refine w_loc rfl ?_
                refine w_ldcn ?_
                refine w_ine (fun h37 => ?_) (fun h37 => ?_)
                · skip
                  refine pz_G_of pz_b226_235 ?_
                  refine w_iinc rfl rfl (ls' := [some (.inr (.inl 2)), some (.inr (.inl 154)), some (.inl (c_isConsistent k)), some (.inl (a)), some (.inl (b + 1)), some (.inl (c_distance k a b)), some (.inl (c9))]) rfl ⟨by omega, by omega⟩ ?_
                  refine w_goto ?_
                  exact ih (b + 1) _ _ _ _ _ _ (by omega) (by omega) (by omega) hI9 (by omega) (by omega)
                · skip
                  refine w_loc rfl ?_
                  refine w_loc rfl ?_
                  refine w_loc rfl ?_
                  refine w_callO (t_S_isDirect (f := a) (t := b) hI9) rfl rfl (fun iv38 dv39 cc40 ss41 hI42 hc43 hs44 => ?_)
                  refine w_zeq (fun h45 => ?_) (fun h45 => ?_)
                  · skip
                    refine pz_G_of pz_b226_235 ?_
                    refine w_iinc rfl rfl (ls' := [some (.inr (.inl 2)), some (.inr (.inl 154)), some (.inl (c_isConsistent k)), some (.inl (a)), some (.inl (b + 1)), some (.inl (c_distance k a b)), some (.inl (c9))]) rfl ⟨by omega, by omega⟩ ?_
                    refine w_goto ?_
                    exact ih (b + 1) _ _ _ _ _ _ (by omega) (by omega) (by omega) hI42 (by omega) (by omega)
                  · skip
                    refine w_pure rfl ?_
                    exfalso
                    omega
            · skip
              refine w_nil ?_
              refine pz_G_of pz_b226_116 ?_
              refine w_pure rfl ?_
              exfalso
              omega
        · skip
          refine w_pure rfl ?_
          refine w_goto ?_
          refine pz_G_of pz_b226_97 ?_
          refine w_loc rfl ?_
          refine w_ieq (fun h46 => ?_) (fun h46 => absurd h46 (by omega))
          refine pz_G_of pz_b226_116 ?_
          refine w_pure rfl ?_
          exfalso
          omega
theorem t_net_a1 {L C S : Nat} {sc k d kf : Nat → Int} {n : Int} {Q : pz_Q} (hd : t_d k d) (hk : q_KR k) (fn : c_isConsistent k = 1) (K : ∀ (a : Int) (x4 x5 x6 : Option pz_V) (iv : Nat → Nat → Int) (dv : Nat → Nat → UInt64) (cc ss : Nat), t_I sc k d n kf iv → 0 ≤ a → cc ≤ C → ss ≤ S → pz_G 226 247 [some (.inr (.inl 2)), some (.inr (.inl 154)), some (.inl (c_isConsistent k)), some (.inl (a)), x4, x5, x6] [] (pz_Sh L, iv, dv, cc, ss) Q) : ∀ (m9 : Nat) (a : Int) (x4 x5 x6 : Option pz_V) (iv : Nat → Nat → Int) (dv : Nat → Nat → UInt64) (cc ss : Nat), 0 ≤ a → a ≤ k 0 → k 0 - a < m9 → t_I sc k d n kf iv → (cc : Int) + 600 * (k 0 - a) ≤ C → (ss : Int) + 3600 * (k 0 - a) ≤ S → pz_G 226 46 [some (.inr (.inl 2)), some (.inr (.inl 154)), some (.inl (c_isConsistent k)), some (.inl (a)), x4, x5, x6] [] (pz_Sh L, iv, dv, cc, ss) Q := by
  intro m9
  have h0 := hk.r0
  induction m9 with
  | zero => intro a x4 x5 x6 iv dv cc ss l1 l2 l3; omega
  | succ m9 ih =>
    intro a x4 x5 x6 iv dv cc ss l1 l2 l3 hI l4 l5
    refine pz_G_of pz_b226_46 ?_
    refine w_loc rfl ?_
    refine w_loc rfl ?_
    refine w_pure rfl ?_
    refine w_iald is_154 ln_154 ⟨by omega, by omega⟩ (t_I_d0 hI hd) ?_
    refine w_ige (fun h1 => ?_) (fun h1 => ?_)
    · skip
      exact K a _ _ _ _ _ _ _ hI (by omega) (by omega) (by omega)
    · skip
      refine w_pure rfl ?_
      refine w_loc (ls' := [some (.inr (.inl 2)), some (.inr (.inl 154)), some (.inl (c_isConsistent k)), some (.inl (a)), some (.inl (0)), x5, x6]) (st' := []) rfl ?_
      refine w_nil ?_
      refine t_net_b1 (C := cc + 600) (S := ss + 3600) hd hk fn (a := a) (by omega) (fun b9 y5 y6 iv9 dv9 cc9 ss9 hI9 q9 hC9 hS9 => ?_) (k 0 + 1).toNat 0 _ _ _ _ _ _ (by omega) (by omega) (by omega) hI (by omega) (by omega)
      refine pz_G_of pz_b226_241 ?_
      refine w_iinc rfl rfl (ls' := [some (.inr (.inl 2)), some (.inr (.inl 154)), some (.inl (c_isConsistent k)), some (.inl (a + 1)), some (.inl (b9)), y5, y6]) rfl ⟨by omega, by omega⟩ ?_
      refine w_goto ?_
      exact ih (a + 1) _ _ _ _ _ _ _ (by omega) (by omega) (by omega) hI9 (by omega) (by omega)
theorem t_L_net {L : Nat} {sc k d kf : Nat → Int} {n : Int} {iv : Nat → Nat → Int} (hI : t_I sc k d n kf iv) (hd : t_d k d) : t_O L 226 [.inr (.inl 2), .inr (.inl 154)] iv (.inl 1) 6100 (t_I sc k d n kf) := by
  intro dv cc ss
  have hk := hI.2.1
  have h0 := hk.r0
  have f1 := f_cf hk
  show pz_G 226 0 [some (.inr (.inl 2)), some (.inr (.inl 154)), none, none, none, none, none] [] (pz_Sh L, iv, dv, cc, ss) (t_OP L (.inl 1) 6100 (t_I sc k d n kf) cc ss)
  rcases f_con01 k with fn | fn
  · skip
    refine pz_G_of pz_b226_0 ?_
    refine w_loc rfl ?_
    refine w_callO (t_S_isConsistent hI) rfl (pz_cokI is_2 rfl) (fun iv1 dv2 cc3 ss4 hI5 hc6 hs7 => ?_)
    refine w_loc (ls' := [some (.inr (.inl 2)), some (.inr (.inl 154)), some (.inl (c_isConsistent k)), none, none, none, none]) (st' := []) rfl ?_
    refine w_loc rfl ?_
    refine w_loc rfl ?_
    refine w_callO (t_S_conflictSize hI5) rfl rfl (fun iv8 dv9 cc10 ss11 hI12 hc13 hs14 => ?_)
    refine w_ldcn ?_
    refine w_ine (fun h15 => ?_) (fun h15 => ?_)
    · skip
      refine pz_G_of pz_b226_19 ?_
      refine w_pure rfl ?_
      refine w_nil ?_
      refine pz_G_of pz_b226_20 ?_
      refine w_ine (fun h16 => absurd h16 (by omega)) (fun h16 => ?_)
      refine w_loc rfl ?_
      refine w_loc rfl ?_
      refine w_pure rfl ?_
      refine w_callO (t_S_conflictAt (i := 0) hI12 (by omega)) rfl rfl (fun iv17 dv18 cc19 ss20 hI21 hc22 hs23 => ?_)
      refine w_ldcn ?_
      refine w_ine (fun h24 => ?_) (fun h24 => ?_)
      · skip
        refine pz_G_of pz_b226_38 ?_
        refine w_pure rfl ?_
        refine w_nil ?_
        refine pz_G_of pz_b226_39 ?_
        refine w_ieq (fun h25 => ?_) (fun h25 => absurd h25 (by omega))
        refine pz_G_of pz_b226_44 ?_
        refine w_pure rfl ?_
        refine w_loc (ls' := [some (.inr (.inl 2)), some (.inr (.inl 154)), some (.inl (c_isConsistent k)), some (.inl (0)), none, none, none]) (st' := []) rfl ?_
        refine w_nil ?_
        refine t_net_a0 (C := cc19 + 6000) (S := ss20 + 36000) hd hk fn (fun a9 y4 y5 y6 iv9 dv9 cc9 ss9 hI9 q9 hC9 hS9 => ?_) (k 0 + 1).toNat 0 _ _ _ _ _ _ _ (by omega) (by omega) (by omega) hI21 (by omega) (by omega)
        refine pz_G_of pz_b226_247 ?_
        refine w_pure rfl ?_
        refine w_ret rfl ?_
        exact ⟨_, _, _, _, rfl, rfl, by omega, by omega, hI9⟩
      · skip
        refine w_pure rfl ?_
        refine w_goto ?_
        refine pz_G_of pz_b226_39 ?_
        refine w_ieq (fun h26 => absurd h26 (by omega)) (fun h26 => ?_)
        refine w_nil ?_
        refine pz_G_of pz_b226_42 ?_
        refine w_pure rfl ?_
        exfalso
        omega
    · skip
      refine w_pure rfl ?_
      refine w_goto ?_
      refine pz_G_of pz_b226_20 ?_
      refine w_ine (fun h27 => ?_) (fun h27 => absurd h27 (by omega))
      refine pz_G_of pz_b226_42 ?_
      refine w_pure rfl ?_
      exfalso
      omega
  · skip
    refine pz_G_of pz_b226_0 ?_
    refine w_loc rfl ?_
    refine w_callO (t_S_isConsistent hI) rfl (pz_cokI is_2 rfl) (fun iv28 dv29 cc30 ss31 hI32 hc33 hs34 => ?_)
    refine w_loc (ls' := [some (.inr (.inl 2)), some (.inr (.inl 154)), some (.inl (c_isConsistent k)), none, none, none, none]) (st' := []) rfl ?_
    refine w_loc rfl ?_
    refine w_loc rfl ?_
    refine w_callO (t_S_conflictSize hI32) rfl rfl (fun iv35 dv36 cc37 ss38 hI39 hc40 hs41 => ?_)
    refine w_ldcn ?_
    refine w_ine (fun h42 => absurd h42 (by omega)) (fun h42 => ?_)
    refine w_pure rfl ?_
    refine w_goto ?_
    refine pz_G_of pz_b226_20 ?_
    refine w_ine (fun h43 => absurd h43 (by omega)) (fun h43 => ?_)
    refine w_loc rfl ?_
    refine w_loc rfl ?_
    refine w_pure rfl ?_
    refine w_callO (t_S_conflictAt (i := 0) hI39 (by omega)) rfl rfl (fun iv44 dv45 cc46 ss47 hI48 hc49 hs50 => ?_)
    refine w_ldcn ?_
    refine w_ine (fun h51 => ?_) (fun h51 => ?_)
    · skip
      refine pz_G_of pz_b226_38 ?_
      refine w_pure rfl ?_
      refine w_nil ?_
      refine pz_G_of pz_b226_39 ?_
      refine w_ieq (fun h52 => absurd h52 (by omega)) (fun h52 => ?_)
      refine w_nil ?_
      refine pz_G_of pz_b226_42 ?_
      refine w_pure rfl ?_
      exfalso
      omega
    · skip
      refine w_pure rfl ?_
      refine w_goto ?_
      refine pz_G_of pz_b226_39 ?_
      refine w_ieq (fun h53 => ?_) (fun h53 => absurd h53 (by omega))
      refine pz_G_of pz_b226_44 ?_
      refine w_pure rfl ?_
      refine w_loc (ls' := [some (.inr (.inl 2)), some (.inr (.inl 154)), some (.inl (c_isConsistent k)), some (.inl (0)), none, none, none]) (st' := []) rfl ?_
      refine w_nil ?_
      refine t_net_a1 (C := cc46 + 6000) (S := ss47 + 36000) hd hk fn (fun a9 y4 y5 y6 iv9 dv9 cc9 ss9 hI9 q9 hC9 hS9 => ?_) (k 0 + 1).toNat 0 _ _ _ _ _ _ _ (by omega) (by omega) (by omega) hI48 (by omega) (by omega)
      refine pz_G_of pz_b226_247 ?_
      refine w_pure rfl ?_
      refine w_ret rfl ?_
      exact ⟨_, _, _, _, rfl, rfl, by omega, by omega, hI9⟩
