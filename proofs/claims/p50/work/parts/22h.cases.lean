/-! the law's cases -/
theorem t_case_188 {L C S : Nat} {sc k d kf : Nat → Int} {i v a b x : Int} {Q : pz_Q} (hd : t_d k d) (h8 : k 0 ≤ 8) (hk1 : k 1 ≤ i) (hi : 0 ≤ i ∧ i ≤ 21) (h5 : k 5 = 9) (ha : 0 ≤ a ∧ a < k 0) (hb : 0 ≤ b ∧ b < k 0) (hx : 0 ≤ x ∧ x ≤ 600000) (K : ∀ (k2 d2 : Nat → Int) (x9 x10 : Option pz_V) (iv : Nat → Nat → Int) (dv : Nat → Nat → UInt64) (cc ss : Nat), t_I sc k2 d2 0 kf iv → t_d k2 d2 → k2 0 ≤ 8 → k2 1 ≤ i + 1 → k2 5 = 9 → cc ≤ C → ss ≤ S → pz_G 231 917 [some (.inr (.inl 1)), some (.inr (.inl 2)), some (.inr (.inl 154)), some (.inl (i)), some (.inl (v)), some (.inl (a)), some (.inl (b)), some (.inl (x)), some (.inl (1)), x9, x10] [] (pz_Sh L, iv, dv, cc, ss) Q) (x9 x10 : Option pz_V) (iv : Nat → Nat → Int) (dv : Nat → Nat → UInt64) (cc ss : Nat) (hI : t_I sc k d 0 kf iv) (hC : cc + 300 ≤ C) (hS : ss + 1800 ≤ S) : pz_G 231 188 [some (.inr (.inl 1)), some (.inr (.inl 2)), some (.inr (.inl 154)), some (.inl (i)), some (.inl (v)), some (.inl (a)), some (.inl (b)), some (.inl (x)), some (.inl (1)), x9, x10] [] (pz_Sh L, iv, dv, cc, ss) Q := by
  have hk := hI.2.1
  have h0 := hk.r0
  refine pz_G_of pz_b231_188 ?_
  refine w_loc rfl ?_
  refine w_pure rfl ?_
  refine w_iremp ⟨by omega, by omega⟩ ?_
  refine w_pure rfl ?_
  refine w_isub ⟨by omega, by omega⟩ ?_
  refine w_loc (ls' := [some (.inr (.inl 1)), some (.inr (.inl 2)), some (.inr (.inl 154)), some (.inl (i)), some (.inl (v)), some (.inl (a)), some (.inl (b)), some (.inl (x)), some (.inl (1)), some (.inl (x % 80 - 30)), x10]) (st' := []) rfl ?_
  refine w_loc rfl ?_
  refine w_loc rfl ?_
  refine w_loc rfl ?_
  refine w_loc rfl ?_
  refine w_loc rfl ?_
  refine w_pure rfl ?_
  refine w_idivp ⟨by omega, by omega, by omega⟩ ?_
  refine w_pure rfl ?_
  refine w_iremp ⟨by omega, by omega⟩ ?_
  refine w_zle (fun h1 => ?_) (fun h1 => ?_)
  · skip
    refine pz_G_of pz_b231_220 ?_
    refine w_loc rfl ?_
    refine w_pure rfl ?_
    refine w_idivp ⟨by omega, by omega, by omega⟩ ?_
    refine w_pure rfl ?_
    refine w_iremp ⟨by omega, by omega⟩ ?_
    refine w_pure rfl ?_
    refine w_isub ⟨by omega, by omega⟩ ?_
    refine w_nil ?_
    refine pz_G_of pz_b231_231 ?_
    refine w_callO (t_S_bound (f := a) (t := b) (w := x % 80 - 30) (l := (x / 512) % 9 - 4) hI) rfl rfl (fun iv2 dv3 cc4 ss5 hI6 hc7 hs8 => ?_)
    rcases f_bound (l := (x / 512) % 9 - 4) hk ha hb (w := x % 80 - 30) ⟨by omega, by omega⟩ ⟨by omega, by omega⟩ (by omega) with ⟨g1, g2, g3⟩ | ⟨g1, g2, g3⟩
    · skip
      rw [g3] at hI6
      rw [g2]
      refine w_loc (ls' := [some (.inr (.inl 1)), some (.inr (.inl 2)), some (.inr (.inl 154)), some (.inl (i)), some (.inl (v)), some (.inl (a)), some (.inl (b)), some (.inl (x)), some (.inl (1)), some (.inl (x % 80 - 30)), some (.inl (-99991002))]) (st' := []) rfl ?_
      refine w_loc rfl ?_
      refine w_loc rfl ?_
      refine w_ine (fun h9 => ?_) (fun h9 => ?_)
      · skip
        refine pz_G_of pz_b231_258 ?_
        refine w_loc rfl ?_
        refine w_loc rfl ?_
        refine w_pure rfl ?_
        refine w_iald is_154 ln_154 ⟨by omega, by omega⟩ (t_I_d1 hI6 hd) ?_
        refine w_ine (fun h10 => ?_) (fun h10 => ?_)
        · skip
          refine pz_G_of pz_b231_270 ?_
          refine w_pure rfl ?_
          refine w_nil ?_
          refine pz_G_of pz_b231_271 ?_
          refine w_loc (ls' := [some (.inr (.inl 1)), some (.inr (.inl 2)), some (.inr (.inl 154)), some (.inl (i)), some (.inl (v)), some (.inl (a)), some (.inl (b)), some (.inl (x)), some (.inl (0)), some (.inl (x % 80 - 30)), some (.inl (-99991002))]) (st' := []) rfl ?_
          refine w_loc rfl ?_
          refine w_pure rfl ?_
          refine w_pure rfl ?_
          refine w_iald is_154 ln_154 ⟨by omega, by omega⟩ (t_I_d1 hI6 hd) ?_
          refine w_loc rfl ?_
          refine w_loc rfl ?_
          refine w_ine (fun h11 => ?_) (fun h11 => ?_)
          · skip
            refine pz_G_of pz_b231_288 ?_
            refine w_pure rfl ?_
            refine w_nil ?_
            refine pz_G_of pz_b231_289 ?_
            refine w_iadd ⟨by omega, by omega⟩ ?_
            refine w_iastm is_154 ln_154 ⟨by omega, by omega⟩ (pz_u2_row _ _ _ _) ?_
            have hI12 := t_st_d hI6 (1 : Int).toNat (k 1 + 1)
            refine w_goto ?_
            exfalso
            omega
          · skip
            refine w_pure rfl ?_
            refine w_goto ?_
            refine pz_G_of pz_b231_289 ?_
            refine w_iadd ⟨by omega, by omega⟩ ?_
            refine w_iastm is_154 ln_154 ⟨by omega, by omega⟩ (pz_u2_row _ _ _ _) ?_
            have hI13 := t_st_d hI6 (1 : Int).toNat (k 1 + 0)
            refine w_goto ?_
            exfalso
            omega
        · skip
          refine w_pure rfl ?_
          refine w_goto ?_
          refine pz_G_of pz_b231_271 ?_
          refine w_loc (ls' := [some (.inr (.inl 1)), some (.inr (.inl 2)), some (.inr (.inl 154)), some (.inl (i)), some (.inl (v)), some (.inl (a)), some (.inl (b)), some (.inl (x)), some (.inl (1)), some (.inl (x % 80 - 30)), some (.inl (-99991002))]) (st' := []) rfl ?_
          refine w_loc rfl ?_
          refine w_pure rfl ?_
          refine w_pure rfl ?_
          refine w_iald is_154 ln_154 ⟨by omega, by omega⟩ (t_I_d1 hI6 hd) ?_
          refine w_loc rfl ?_
          refine w_loc rfl ?_
          refine w_ine (fun h14 => ?_) (fun h14 => ?_)
          · skip
            refine pz_G_of pz_b231_288 ?_
            refine w_pure rfl ?_
            refine w_nil ?_
            refine pz_G_of pz_b231_289 ?_
            refine w_iadd ⟨by omega, by omega⟩ ?_
            refine w_iastm is_154 ln_154 ⟨by omega, by omega⟩ (pz_u2_row _ _ _ _) ?_
            have hI15 := t_st_d hI6 (1 : Int).toNat (k 1 + 1)
            refine w_goto ?_
            exact K k (pz_up d (1 : Int).toNat (k 1 + 1)) _ _ _ _ _ _ hI15 (t_d_up1 hk hd (fun _ _ => rfl) (by omega)) (by omega) (by omega) (by omega) (by omega) (by omega)
          · skip
            refine w_pure rfl ?_
            refine w_goto ?_
            refine pz_G_of pz_b231_289 ?_
            refine w_iadd ⟨by omega, by omega⟩ ?_
            refine w_iastm is_154 ln_154 ⟨by omega, by omega⟩ (pz_u2_row _ _ _ _) ?_
            have hI16 := t_st_d hI6 (1 : Int).toNat (k 1 + 0)
            refine w_goto ?_
            exact K k (pz_up d (1 : Int).toNat (k 1 + 0)) _ _ _ _ _ _ hI16 (t_d_up1 hk hd (fun _ _ => rfl) (by omega)) (by omega) (by omega) (by omega) (by omega) (by omega)
      · skip
        refine w_loc rfl ?_
        refine w_ldcn ?_
        refine w_ine (fun h17 => absurd h17 (by omega)) (fun h17 => ?_)
        refine w_pure rfl ?_
        refine w_goto ?_
        refine pz_G_of pz_b231_271 ?_
        refine w_loc (ls' := [some (.inr (.inl 1)), some (.inr (.inl 2)), some (.inr (.inl 154)), some (.inl (i)), some (.inl (v)), some (.inl (a)), some (.inl (b)), some (.inl (x)), some (.inl (1)), some (.inl (x % 80 - 30)), some (.inl (-99991002))]) (st' := []) rfl ?_
        refine w_loc rfl ?_
        refine w_pure rfl ?_
        refine w_pure rfl ?_
        refine w_iald is_154 ln_154 ⟨by omega, by omega⟩ (t_I_d1 hI6 hd) ?_
        refine w_loc rfl ?_
        refine w_loc rfl ?_
        refine w_ine (fun h18 => ?_) (fun h18 => ?_)
        · skip
          refine pz_G_of pz_b231_288 ?_
          refine w_pure rfl ?_
          refine w_nil ?_
          refine pz_G_of pz_b231_289 ?_
          refine w_iadd ⟨by omega, by omega⟩ ?_
          refine w_iastm is_154 ln_154 ⟨by omega, by omega⟩ (pz_u2_row _ _ _ _) ?_
          have hI19 := t_st_d hI6 (1 : Int).toNat (k 1 + 1)
          refine w_goto ?_
          exact K k (pz_up d (1 : Int).toNat (k 1 + 1)) _ _ _ _ _ _ hI19 (t_d_up1 hk hd (fun _ _ => rfl) (by omega)) (by omega) (by omega) (by omega) (by omega) (by omega)
        · skip
          refine w_pure rfl ?_
          refine w_goto ?_
          refine pz_G_of pz_b231_289 ?_
          refine w_iadd ⟨by omega, by omega⟩ ?_
          refine w_iastm is_154 ln_154 ⟨by omega, by omega⟩ (pz_u2_row _ _ _ _) ?_
          have hI20 := t_st_d hI6 (1 : Int).toNat (k 1 + 0)
          refine w_goto ?_
          exact K k (pz_up d (1 : Int).toNat (k 1 + 0)) _ _ _ _ _ _ hI20 (t_d_up1 hk hd (fun _ _ => rfl) (by omega)) (by omega) (by omega) (by omega) (by omega) (by omega)
    · skip
      rw [g3] at hI6
      rw [g2]
      have ag : ∀ j : Nat, j ≠ 1 ∧ ¬ (52 ≤ j ∧ j < 212) → q_tell k a b (x % 80 - 30) ((x / 512) % 9 - 4) j = k j := fun j hj => f_tell_ne (by omega) hj
      have a1 : q_tell k a b (x % 80 - 30) ((x / 512) % 9 - 4) 1 = k 1 + 1 := f_tell_1
      generalize q_tell k a b (x % 80 - 30) ((x / 512) % 9 - 4) = k2 at hI6 ag a1
      have a0 := ag 0 (by omega)
      have a5 := ag 5 (by omega)
      refine w_loc (ls' := [some (.inr (.inl 1)), some (.inr (.inl 2)), some (.inr (.inl 154)), some (.inl (i)), some (.inl (v)), some (.inl (a)), some (.inl (b)), some (.inl (x)), some (.inl (1)), some (.inl (x % 80 - 30)), some (.inl (k 1))]) (st' := []) rfl ?_
      refine w_loc rfl ?_
      refine w_loc rfl ?_
      refine w_ine (fun h21 => ?_) (fun h21 => ?_)
      · skip
        refine pz_G_of pz_b231_258 ?_
        refine w_loc rfl ?_
        refine w_loc rfl ?_
        refine w_pure rfl ?_
        refine w_iald is_154 ln_154 ⟨by omega, by omega⟩ (t_I_d1 hI6 hd) ?_
        refine w_ine (fun h22 => ?_) (fun h22 => ?_)
        · skip
          refine pz_G_of pz_b231_270 ?_
          refine w_pure rfl ?_
          refine w_nil ?_
          refine pz_G_of pz_b231_271 ?_
          refine w_loc (ls' := [some (.inr (.inl 1)), some (.inr (.inl 2)), some (.inr (.inl 154)), some (.inl (i)), some (.inl (v)), some (.inl (a)), some (.inl (b)), some (.inl (x)), some (.inl (0)), some (.inl (x % 80 - 30)), some (.inl (k 1))]) (st' := []) rfl ?_
          refine w_loc rfl ?_
          refine w_pure rfl ?_
          refine w_pure rfl ?_
          refine w_iald is_154 ln_154 ⟨by omega, by omega⟩ (t_I_d1 hI6 hd) ?_
          refine w_loc rfl ?_
          refine w_loc rfl ?_
          refine w_ine (fun h23 => ?_) (fun h23 => ?_)
          · skip
            refine pz_G_of pz_b231_288 ?_
            refine w_pure rfl ?_
            refine w_nil ?_
            refine pz_G_of pz_b231_289 ?_
            refine w_iadd ⟨by omega, by omega⟩ ?_
            refine w_iastm is_154 ln_154 ⟨by omega, by omega⟩ (pz_u2_row _ _ _ _) ?_
            have hI24 := t_st_d hI6 (1 : Int).toNat (k 1 + 1)
            refine w_goto ?_
            exfalso
            omega
          · skip
            refine w_pure rfl ?_
            refine w_goto ?_
            refine pz_G_of pz_b231_289 ?_
            refine w_iadd ⟨by omega, by omega⟩ ?_
            refine w_iastm is_154 ln_154 ⟨by omega, by omega⟩ (pz_u2_row _ _ _ _) ?_
            have hI25 := t_st_d hI6 (1 : Int).toNat (k 1 + 0)
            refine w_goto ?_
            exfalso
            omega
        · skip
          refine w_pure rfl ?_
          refine w_goto ?_
          refine pz_G_of pz_b231_271 ?_
          refine w_loc (ls' := [some (.inr (.inl 1)), some (.inr (.inl 2)), some (.inr (.inl 154)), some (.inl (i)), some (.inl (v)), some (.inl (a)), some (.inl (b)), some (.inl (x)), some (.inl (1)), some (.inl (x % 80 - 30)), some (.inl (k 1))]) (st' := []) rfl ?_
          refine w_loc rfl ?_
          refine w_pure rfl ?_
          refine w_pure rfl ?_
          refine w_iald is_154 ln_154 ⟨by omega, by omega⟩ (t_I_d1 hI6 hd) ?_
          refine w_loc rfl ?_
          refine w_loc rfl ?_
          refine w_ine (fun h26 => ?_) (fun h26 => ?_)
          · skip
            refine pz_G_of pz_b231_288 ?_
            refine w_pure rfl ?_
            refine w_nil ?_
            refine pz_G_of pz_b231_289 ?_
            refine w_iadd ⟨by omega, by omega⟩ ?_
            refine w_iastm is_154 ln_154 ⟨by omega, by omega⟩ (pz_u2_row _ _ _ _) ?_
            have hI27 := t_st_d hI6 (1 : Int).toNat (k 1 + 1)
            refine w_goto ?_
            exact K k2 (pz_up d (1 : Int).toNat (k 1 + 1)) _ _ _ _ _ _ hI27 (t_d_up1 hk hd (fun j hj => ag j (by omega)) (by omega)) (by omega) (by omega) (by omega) (by omega) (by omega)
          · skip
            refine w_pure rfl ?_
            refine w_goto ?_
            refine pz_G_of pz_b231_289 ?_
            refine w_iadd ⟨by omega, by omega⟩ ?_
            refine w_iastm is_154 ln_154 ⟨by omega, by omega⟩ (pz_u2_row _ _ _ _) ?_
            have hI28 := t_st_d hI6 (1 : Int).toNat (k 1 + 0)
            refine w_goto ?_
            exact K k2 (pz_up d (1 : Int).toNat (k 1 + 0)) _ _ _ _ _ _ hI28 (t_d_up1 hk hd (fun j hj => ag j (by omega)) (by omega)) (by omega) (by omega) (by omega) (by omega) (by omega)
      · skip
        refine w_loc rfl ?_
        refine w_ldcn ?_
        refine w_ine (fun h29 => ?_) (fun h29 => ?_)
        · skip
          refine pz_G_of pz_b231_254 ?_
          refine w_pure rfl ?_
          refine w_goto ?_
          refine pz_G_of pz_b231_271 ?_
          refine w_loc (ls' := [some (.inr (.inl 1)), some (.inr (.inl 2)), some (.inr (.inl 154)), some (.inl (i)), some (.inl (v)), some (.inl (a)), some (.inl (b)), some (.inl (x)), some (.inl (0)), some (.inl (x % 80 - 30)), some (.inl (k 1))]) (st' := []) rfl ?_
          refine w_loc rfl ?_
          refine w_pure rfl ?_
          refine w_pure rfl ?_
          refine w_iald is_154 ln_154 ⟨by omega, by omega⟩ (t_I_d1 hI6 hd) ?_
          refine w_loc rfl ?_
          refine w_loc rfl ?_
          refine w_ine (fun h30 => ?_) (fun h30 => ?_)
          · skip
            refine pz_G_of pz_b231_288 ?_
            refine w_pure rfl ?_
            refine w_nil ?_
            refine pz_G_of pz_b231_289 ?_
            refine w_iadd ⟨by omega, by omega⟩ ?_
            refine w_iastm is_154 ln_154 ⟨by omega, by omega⟩ (pz_u2_row _ _ _ _) ?_
            have hI31 := t_st_d hI6 (1 : Int).toNat (k 1 + 1)
            refine w_goto ?_
            exfalso
            omega
          · skip
            refine w_pure rfl ?_
            refine w_goto ?_
            refine pz_G_of pz_b231_289 ?_
            refine w_iadd ⟨by omega, by omega⟩ ?_
            refine w_iastm is_154 ln_154 ⟨by omega, by omega⟩ (pz_u2_row _ _ _ _) ?_
            have hI32 := t_st_d hI6 (1 : Int).toNat (k 1 + 0)
            refine w_goto ?_
            exfalso
            omega
        · skip
          refine w_pure rfl ?_
          refine w_goto ?_
          refine pz_G_of pz_b231_271 ?_
          refine w_loc (ls' := [some (.inr (.inl 1)), some (.inr (.inl 2)), some (.inr (.inl 154)), some (.inl (i)), some (.inl (v)), some (.inl (a)), some (.inl (b)), some (.inl (x)), some (.inl (1)), some (.inl (x % 80 - 30)), some (.inl (k 1))]) (st' := []) rfl ?_
          refine w_loc rfl ?_
          refine w_pure rfl ?_
          refine w_pure rfl ?_
          refine w_iald is_154 ln_154 ⟨by omega, by omega⟩ (t_I_d1 hI6 hd) ?_
          refine w_loc rfl ?_
          refine w_loc rfl ?_
          refine w_ine (fun h33 => ?_) (fun h33 => ?_)
          · skip
            refine pz_G_of pz_b231_288 ?_
            refine w_pure rfl ?_
            refine w_nil ?_
            refine pz_G_of pz_b231_289 ?_
            refine w_iadd ⟨by omega, by omega⟩ ?_
            refine w_iastm is_154 ln_154 ⟨by omega, by omega⟩ (pz_u2_row _ _ _ _) ?_
            have hI34 := t_st_d hI6 (1 : Int).toNat (k 1 + 1)
            refine w_goto ?_
            exact K k2 (pz_up d (1 : Int).toNat (k 1 + 1)) _ _ _ _ _ _ hI34 (t_d_up1 hk hd (fun j hj => ag j (by omega)) (by omega)) (by omega) (by omega) (by omega) (by omega) (by omega)
          · skip
            refine w_pure rfl ?_
            refine w_goto ?_
            refine pz_G_of pz_b231_289 ?_
            refine w_iadd ⟨by omega, by omega⟩ ?_
            refine w_iastm is_154 ln_154 ⟨by omega, by omega⟩ (pz_u2_row _ _ _ _) ?_
            have hI35 := t_st_d hI6 (1 : Int).toNat (k 1 + 0)
            refine w_goto ?_
            exact K k2 (pz_up d (1 : Int).toNat (k 1 + 0)) _ _ _ _ _ _ hI35 (t_d_up1 hk hd (fun j hj => ag j (by omega)) (by omega)) (by omega) (by omega) (by omega) (by omega) (by omega)
  · skip
    refine w_pure rfl ?_
    refine w_goto ?_
    refine pz_G_of pz_b231_231 ?_
    refine w_callO (t_S_bound (f := a) (t := b) (w := x % 80 - 30) (l := 0) hI) rfl rfl (fun iv36 dv37 cc38 ss39 hI40 hc41 hs42 => ?_)
    rcases f_bound (l := 0) hk ha hb (w := x % 80 - 30) ⟨by omega, by omega⟩ ⟨by omega, by omega⟩ (by omega) with ⟨g1, g2, g3⟩ | ⟨g1, g2, g3⟩
    · skip
      rw [g3] at hI40
      rw [g2]
      refine w_loc (ls' := [some (.inr (.inl 1)), some (.inr (.inl 2)), some (.inr (.inl 154)), some (.inl (i)), some (.inl (v)), some (.inl (a)), some (.inl (b)), some (.inl (x)), some (.inl (1)), some (.inl (x % 80 - 30)), some (.inl (-99991002))]) (st' := []) rfl ?_
      refine w_loc rfl ?_
      refine w_loc rfl ?_
      refine w_ine (fun h43 => ?_) (fun h43 => ?_)
      · skip
        refine pz_G_of pz_b231_258 ?_
        refine w_loc rfl ?_
        refine w_loc rfl ?_
        refine w_pure rfl ?_
        refine w_iald is_154 ln_154 ⟨by omega, by omega⟩ (t_I_d1 hI40 hd) ?_
        refine w_ine (fun h44 => ?_) (fun h44 => ?_)
        · skip
          refine pz_G_of pz_b231_270 ?_
          refine w_pure rfl ?_
          refine w_nil ?_
          refine pz_G_of pz_b231_271 ?_
          refine w_loc (ls' := [some (.inr (.inl 1)), some (.inr (.inl 2)), some (.inr (.inl 154)), some (.inl (i)), some (.inl (v)), some (.inl (a)), some (.inl (b)), some (.inl (x)), some (.inl (0)), some (.inl (x % 80 - 30)), some (.inl (-99991002))]) (st' := []) rfl ?_
          refine w_loc rfl ?_
          refine w_pure rfl ?_
          refine w_pure rfl ?_
          refine w_iald is_154 ln_154 ⟨by omega, by omega⟩ (t_I_d1 hI40 hd) ?_
          refine w_loc rfl ?_
          refine w_loc rfl ?_
          refine w_ine (fun h45 => ?_) (fun h45 => ?_)
          · skip
            refine pz_G_of pz_b231_288 ?_
            refine w_pure rfl ?_
            refine w_nil ?_
            refine pz_G_of pz_b231_289 ?_
            refine w_iadd ⟨by omega, by omega⟩ ?_
            refine w_iastm is_154 ln_154 ⟨by omega, by omega⟩ (pz_u2_row _ _ _ _) ?_
            have hI46 := t_st_d hI40 (1 : Int).toNat (k 1 + 1)
            refine w_goto ?_
            exfalso
            omega
          · skip
            refine w_pure rfl ?_
            refine w_goto ?_
            refine pz_G_of pz_b231_289 ?_
            refine w_iadd ⟨by omega, by omega⟩ ?_
            refine w_iastm is_154 ln_154 ⟨by omega, by omega⟩ (pz_u2_row _ _ _ _) ?_
            have hI47 := t_st_d hI40 (1 : Int).toNat (k 1 + 0)
            refine w_goto ?_
            exfalso
            omega
        · skip
          refine w_pure rfl ?_
          refine w_goto ?_
          refine pz_G_of pz_b231_271 ?_
          refine w_loc (ls' := [some (.inr (.inl 1)), some (.inr (.inl 2)), some (.inr (.inl 154)), some (.inl (i)), some (.inl (v)), some (.inl (a)), some (.inl (b)), some (.inl (x)), some (.inl (1)), some (.inl (x % 80 - 30)), some (.inl (-99991002))]) (st' := []) rfl ?_
          refine w_loc rfl ?_
          refine w_pure rfl ?_
          refine w_pure rfl ?_
          refine w_iald is_154 ln_154 ⟨by omega, by omega⟩ (t_I_d1 hI40 hd) ?_
          refine w_loc rfl ?_
          refine w_loc rfl ?_
          refine w_ine (fun h48 => ?_) (fun h48 => ?_)
          · skip
            refine pz_G_of pz_b231_288 ?_
            refine w_pure rfl ?_
            refine w_nil ?_
            refine pz_G_of pz_b231_289 ?_
            refine w_iadd ⟨by omega, by omega⟩ ?_
            refine w_iastm is_154 ln_154 ⟨by omega, by omega⟩ (pz_u2_row _ _ _ _) ?_
            have hI49 := t_st_d hI40 (1 : Int).toNat (k 1 + 1)
            refine w_goto ?_
            exact K k (pz_up d (1 : Int).toNat (k 1 + 1)) _ _ _ _ _ _ hI49 (t_d_up1 hk hd (fun _ _ => rfl) (by omega)) (by omega) (by omega) (by omega) (by omega) (by omega)
          · skip
            refine w_pure rfl ?_
            refine w_goto ?_
            refine pz_G_of pz_b231_289 ?_
            refine w_iadd ⟨by omega, by omega⟩ ?_
            refine w_iastm is_154 ln_154 ⟨by omega, by omega⟩ (pz_u2_row _ _ _ _) ?_
            have hI50 := t_st_d hI40 (1 : Int).toNat (k 1 + 0)
            refine w_goto ?_
            exact K k (pz_up d (1 : Int).toNat (k 1 + 0)) _ _ _ _ _ _ hI50 (t_d_up1 hk hd (fun _ _ => rfl) (by omega)) (by omega) (by omega) (by omega) (by omega) (by omega)
      · skip
        refine w_loc rfl ?_
        refine w_ldcn ?_
        refine w_ine (fun h51 => absurd h51 (by omega)) (fun h51 => ?_)
        refine w_pure rfl ?_
        refine w_goto ?_
        refine pz_G_of pz_b231_271 ?_
        refine w_loc (ls' := [some (.inr (.inl 1)), some (.inr (.inl 2)), some (.inr (.inl 154)), some (.inl (i)), some (.inl (v)), some (.inl (a)), some (.inl (b)), some (.inl (x)), some (.inl (1)), some (.inl (x % 80 - 30)), some (.inl (-99991002))]) (st' := []) rfl ?_
        refine w_loc rfl ?_
        refine w_pure rfl ?_
        refine w_pure rfl ?_
        refine w_iald is_154 ln_154 ⟨by omega, by omega⟩ (t_I_d1 hI40 hd) ?_
        refine w_loc rfl ?_
        refine w_loc rfl ?_
        refine w_ine (fun h52 => ?_) (fun h52 => ?_)
        · skip
          refine pz_G_of pz_b231_288 ?_
          refine w_pure rfl ?_
          refine w_nil ?_
          refine pz_G_of pz_b231_289 ?_
          refine w_iadd ⟨by omega, by omega⟩ ?_
          refine w_iastm is_154 ln_154 ⟨by omega, by omega⟩ (pz_u2_row _ _ _ _) ?_
          have hI53 := t_st_d hI40 (1 : Int).toNat (k 1 + 1)
          refine w_goto ?_
          exact K k (pz_up d (1 : Int).toNat (k 1 + 1)) _ _ _ _ _ _ hI53 (t_d_up1 hk hd (fun _ _ => rfl) (by omega)) (by omega) (by omega) (by omega) (by omega) (by omega)
        · skip
          refine w_pure rfl ?_
          refine w_goto ?_
          refine pz_G_of pz_b231_289 ?_
          refine w_iadd ⟨by omega, by omega⟩ ?_
          refine w_iastm is_154 ln_154 ⟨by omega, by omega⟩ (pz_u2_row _ _ _ _) ?_
          have hI54 := t_st_d hI40 (1 : Int).toNat (k 1 + 0)
          refine w_goto ?_
          exact K k (pz_up d (1 : Int).toNat (k 1 + 0)) _ _ _ _ _ _ hI54 (t_d_up1 hk hd (fun _ _ => rfl) (by omega)) (by omega) (by omega) (by omega) (by omega) (by omega)
    · skip
      rw [g3] at hI40
      rw [g2]
      have ag : ∀ j : Nat, j ≠ 1 ∧ ¬ (52 ≤ j ∧ j < 212) → q_tell k a b (x % 80 - 30) (0) j = k j := fun j hj => f_tell_ne (by omega) hj
      have a1 : q_tell k a b (x % 80 - 30) (0) 1 = k 1 + 1 := f_tell_1
      generalize q_tell k a b (x % 80 - 30) (0) = k2 at hI40 ag a1
      have a0 := ag 0 (by omega)
      have a5 := ag 5 (by omega)
      refine w_loc (ls' := [some (.inr (.inl 1)), some (.inr (.inl 2)), some (.inr (.inl 154)), some (.inl (i)), some (.inl (v)), some (.inl (a)), some (.inl (b)), some (.inl (x)), some (.inl (1)), some (.inl (x % 80 - 30)), some (.inl (k 1))]) (st' := []) rfl ?_
      refine w_loc rfl ?_
      refine w_loc rfl ?_
      refine w_ine (fun h55 => ?_) (fun h55 => ?_)
      · skip
        refine pz_G_of pz_b231_258 ?_
        refine w_loc rfl ?_
        refine w_loc rfl ?_
        refine w_pure rfl ?_
        refine w_iald is_154 ln_154 ⟨by omega, by omega⟩ (t_I_d1 hI40 hd) ?_
        refine w_ine (fun h56 => ?_) (fun h56 => ?_)
        · skip
          refine pz_G_of pz_b231_270 ?_
          refine w_pure rfl ?_
          refine w_nil ?_
          refine pz_G_of pz_b231_271 ?_
          refine w_loc (ls' := [some (.inr (.inl 1)), some (.inr (.inl 2)), some (.inr (.inl 154)), some (.inl (i)), some (.inl (v)), some (.inl (a)), some (.inl (b)), some (.inl (x)), some (.inl (0)), some (.inl (x % 80 - 30)), some (.inl (k 1))]) (st' := []) rfl ?_
          refine w_loc rfl ?_
          refine w_pure rfl ?_
          refine w_pure rfl ?_
          refine w_iald is_154 ln_154 ⟨by omega, by omega⟩ (t_I_d1 hI40 hd) ?_
          refine w_loc rfl ?_
          refine w_loc rfl ?_
          refine w_ine (fun h57 => ?_) (fun h57 => ?_)
          · skip
            refine pz_G_of pz_b231_288 ?_
            refine w_pure rfl ?_
            refine w_nil ?_
            refine pz_G_of pz_b231_289 ?_
            refine w_iadd ⟨by omega, by omega⟩ ?_
            refine w_iastm is_154 ln_154 ⟨by omega, by omega⟩ (pz_u2_row _ _ _ _) ?_
            have hI58 := t_st_d hI40 (1 : Int).toNat (k 1 + 1)
            refine w_goto ?_
            exfalso
            omega
          · skip
            refine w_pure rfl ?_
            refine w_goto ?_
            refine pz_G_of pz_b231_289 ?_
            refine w_iadd ⟨by omega, by omega⟩ ?_
            refine w_iastm is_154 ln_154 ⟨by omega, by omega⟩ (pz_u2_row _ _ _ _) ?_
            have hI59 := t_st_d hI40 (1 : Int).toNat (k 1 + 0)
            refine w_goto ?_
            exfalso
            omega
        · skip
          refine w_pure rfl ?_
          refine w_goto ?_
          refine pz_G_of pz_b231_271 ?_
          refine w_loc (ls' := [some (.inr (.inl 1)), some (.inr (.inl 2)), some (.inr (.inl 154)), some (.inl (i)), some (.inl (v)), some (.inl (a)), some (.inl (b)), some (.inl (x)), some (.inl (1)), some (.inl (x % 80 - 30)), some (.inl (k 1))]) (st' := []) rfl ?_
          refine w_loc rfl ?_
          refine w_pure rfl ?_
          refine w_pure rfl ?_
          refine w_iald is_154 ln_154 ⟨by omega, by omega⟩ (t_I_d1 hI40 hd) ?_
          refine w_loc rfl ?_
          refine w_loc rfl ?_
          refine w_ine (fun h60 => ?_) (fun h60 => ?_)
          · skip
            refine pz_G_of pz_b231_288 ?_
            refine w_pure rfl ?_
            refine w_nil ?_
            refine pz_G_of pz_b231_289 ?_
            refine w_iadd ⟨by omega, by omega⟩ ?_
            refine w_iastm is_154 ln_154 ⟨by omega, by omega⟩ (pz_u2_row _ _ _ _) ?_
            have hI61 := t_st_d hI40 (1 : Int).toNat (k 1 + 1)
            refine w_goto ?_
            exact K k2 (pz_up d (1 : Int).toNat (k 1 + 1)) _ _ _ _ _ _ hI61 (t_d_up1 hk hd (fun j hj => ag j (by omega)) (by omega)) (by omega) (by omega) (by omega) (by omega) (by omega)
          · skip
            refine w_pure rfl ?_
            refine w_goto ?_
            refine pz_G_of pz_b231_289 ?_
            refine w_iadd ⟨by omega, by omega⟩ ?_
            refine w_iastm is_154 ln_154 ⟨by omega, by omega⟩ (pz_u2_row _ _ _ _) ?_
            have hI62 := t_st_d hI40 (1 : Int).toNat (k 1 + 0)
            refine w_goto ?_
            exact K k2 (pz_up d (1 : Int).toNat (k 1 + 0)) _ _ _ _ _ _ hI62 (t_d_up1 hk hd (fun j hj => ag j (by omega)) (by omega)) (by omega) (by omega) (by omega) (by omega) (by omega)
      · skip
        refine w_loc rfl ?_
        refine w_ldcn ?_
        refine w_ine (fun h63 => ?_) (fun h63 => ?_)
        · skip
          refine pz_G_of pz_b231_254 ?_
          refine w_pure rfl ?_
          refine w_goto ?_
          refine pz_G_of pz_b231_271 ?_
          refine w_loc (ls' := [some (.inr (.inl 1)), some (.inr (.inl 2)), some (.inr (.inl 154)), some (.inl (i)), some (.inl (v)), some (.inl (a)), some (.inl (b)), some (.inl (x)), some (.inl (0)), some (.inl (x % 80 - 30)), some (.inl (k 1))]) (st' := []) rfl ?_
          refine w_loc rfl ?_
          refine w_pure rfl ?_
          refine w_pure rfl ?_
          refine w_iald is_154 ln_154 ⟨by omega, by omega⟩ (t_I_d1 hI40 hd) ?_
          refine w_loc rfl ?_
          refine w_loc rfl ?_
          refine w_ine (fun h64 => ?_) (fun h64 => ?_)
          · skip
            refine pz_G_of pz_b231_288 ?_
            refine w_pure rfl ?_
            refine w_nil ?_
            refine pz_G_of pz_b231_289 ?_
            refine w_iadd ⟨by omega, by omega⟩ ?_
            refine w_iastm is_154 ln_154 ⟨by omega, by omega⟩ (pz_u2_row _ _ _ _) ?_
            have hI65 := t_st_d hI40 (1 : Int).toNat (k 1 + 1)
            refine w_goto ?_
            exfalso
            omega
          · skip
            refine w_pure rfl ?_
            refine w_goto ?_
            refine pz_G_of pz_b231_289 ?_
            refine w_iadd ⟨by omega, by omega⟩ ?_
            refine w_iastm is_154 ln_154 ⟨by omega, by omega⟩ (pz_u2_row _ _ _ _) ?_
            have hI66 := t_st_d hI40 (1 : Int).toNat (k 1 + 0)
            refine w_goto ?_
            exfalso
            omega
        · skip
          refine w_pure rfl ?_
          refine w_goto ?_
          refine pz_G_of pz_b231_271 ?_
          refine w_loc (ls' := [some (.inr (.inl 1)), some (.inr (.inl 2)), some (.inr (.inl 154)), some (.inl (i)), some (.inl (v)), some (.inl (a)), some (.inl (b)), some (.inl (x)), some (.inl (1)), some (.inl (x % 80 - 30)), some (.inl (k 1))]) (st' := []) rfl ?_
          refine w_loc rfl ?_
          refine w_pure rfl ?_
          refine w_pure rfl ?_
          refine w_iald is_154 ln_154 ⟨by omega, by omega⟩ (t_I_d1 hI40 hd) ?_
          refine w_loc rfl ?_
          refine w_loc rfl ?_
          refine w_ine (fun h67 => ?_) (fun h67 => ?_)
          · skip
            refine pz_G_of pz_b231_288 ?_
            refine w_pure rfl ?_
            refine w_nil ?_
            refine pz_G_of pz_b231_289 ?_
            refine w_iadd ⟨by omega, by omega⟩ ?_
            refine w_iastm is_154 ln_154 ⟨by omega, by omega⟩ (pz_u2_row _ _ _ _) ?_
            have hI68 := t_st_d hI40 (1 : Int).toNat (k 1 + 1)
            refine w_goto ?_
            exact K k2 (pz_up d (1 : Int).toNat (k 1 + 1)) _ _ _ _ _ _ hI68 (t_d_up1 hk hd (fun j hj => ag j (by omega)) (by omega)) (by omega) (by omega) (by omega) (by omega) (by omega)
          · skip
            refine w_pure rfl ?_
            refine w_goto ?_
            refine pz_G_of pz_b231_289 ?_
            refine w_iadd ⟨by omega, by omega⟩ ?_
            refine w_iastm is_154 ln_154 ⟨by omega, by omega⟩ (pz_u2_row _ _ _ _) ?_
            have hI69 := t_st_d hI40 (1 : Int).toNat (k 1 + 0)
            refine w_goto ?_
            exact K k2 (pz_up d (1 : Int).toNat (k 1 + 0)) _ _ _ _ _ _ hI69 (t_d_up1 hk hd (fun j hj => ag j (by omega)) (by omega)) (by omega) (by omega) (by omega) (by omega) (by omega)
theorem t_case_294 {L C S : Nat} {sc k d kf : Nat → Int} {i v a b x : Int} {Q : pz_Q} (hd : t_d k d) (h8 : k 0 ≤ 8) (hk1 : k 1 ≤ i) (hi : 0 ≤ i ∧ i ≤ 21) (h5 : k 5 = 9) (ha : 0 ≤ a ∧ a < k 0) (hb : 0 ≤ b ∧ b < k 0) (hx : 0 ≤ x ∧ x ≤ 600000) (K : ∀ (k2 d2 : Nat → Int) (x9 x10 : Option pz_V) (iv : Nat → Nat → Int) (dv : Nat → Nat → UInt64) (cc ss : Nat), t_I sc k2 d2 0 kf iv → t_d k2 d2 → k2 0 ≤ 8 → k2 1 ≤ i + 1 → k2 5 = 9 → cc ≤ C → ss ≤ S → pz_G 231 917 [some (.inr (.inl 1)), some (.inr (.inl 2)), some (.inr (.inl 154)), some (.inl (i)), some (.inl (v)), some (.inl (a)), some (.inl (b)), some (.inl (x)), some (.inl (1)), x9, x10] [] (pz_Sh L, iv, dv, cc, ss) Q) (x9 x10 : Option pz_V) (iv : Nat → Nat → Int) (dv : Nat → Nat → UInt64) (cc ss : Nat) (hI : t_I sc k d 0 kf iv) (hC : cc + 300 ≤ C) (hS : ss + 1800 ≤ S) : pz_G 231 294 [some (.inr (.inl 1)), some (.inr (.inl 2)), some (.inr (.inl 154)), some (.inl (i)), some (.inl (v)), some (.inl (a)), some (.inl (b)), some (.inl (x)), some (.inl (1)), x9, x10] [] (pz_Sh L, iv, dv, cc, ss) Q := by
  have hk := hI.2.1
  have h0 := hk.r0
  refine pz_G_of pz_b231_294 ?_
  refine w_pure rfl ?_
  refine w_loc rfl ?_
  refine w_pure rfl ?_
  refine w_iremp ⟨by omega, by omega⟩ ?_
  refine w_iadd ⟨by omega, by omega⟩ ?_
  refine w_loc (ls' := [some (.inr (.inl 1)), some (.inr (.inl 2)), some (.inr (.inl 154)), some (.inl (i)), some (.inl (v)), some (.inl (a)), some (.inl (b)), some (.inl (x)), some (.inl (1)), some (.inl (1 + x % 20)), x10]) (st' := []) rfl ?_
  refine w_loc rfl ?_
  refine w_loc rfl ?_
  refine w_loc rfl ?_
  refine w_loc rfl ?_
  refine w_loc rfl ?_
  refine w_loc rfl ?_
  refine w_pure rfl ?_
  refine w_idivp ⟨by omega, by omega, by omega⟩ ?_
  refine w_pure rfl ?_
  refine w_iremp ⟨by omega, by omega⟩ ?_
  refine w_iadd ⟨by omega, by omega⟩ ?_
  refine w_callO (t_S_addSpan (f := a) (t := b) (l := 1 + x % 20) (g := 1 + x % 20 + (x / 32) % 20) hI) rfl rfl (fun iv1 dv2 cc3 ss4 hI5 hc6 hs7 => ?_)
  rcases f_addSpan (f := a) (t := b) (l := 1 + x % 20) (g := 1 + x % 20 + (x / 32) % 20) hk ha hb ⟨by omega, by omega, by omega⟩ with ⟨g1, g2, g3⟩ | ⟨g1, g2, g3⟩ | ⟨g1, g4, g2, g3⟩
  · skip
    rw [g3] at hI5
    rw [g2]
    refine w_loc (ls' := [some (.inr (.inl 1)), some (.inr (.inl 2)), some (.inr (.inl 154)), some (.inl (i)), some (.inl (v)), some (.inl (a)), some (.inl (b)), some (.inl (x)), some (.inl (1)), some (.inl (1 + x % 20)), some (.inl (-99991002))]) (st' := []) rfl ?_
    refine w_loc rfl ?_
    refine w_loc rfl ?_
    refine w_igt (fun h8 => ?_) (fun h8 => ?_)
    · skip
      refine pz_G_of pz_b231_348 ?_
      refine w_loc rfl ?_
      refine w_loc rfl ?_
      refine w_pure rfl ?_
      refine w_iald is_154 ln_154 ⟨by omega, by omega⟩ ((t_I_at hI5 2).trans hd.2.2.1) ?_
      refine w_ieq (fun h9 => ?_) (fun h9 => ?_)
      · skip
        refine pz_G_of pz_b231_363 ?_
        refine w_pure rfl ?_
        refine w_goto ?_
        refine pz_G_of pz_b231_368 ?_
        refine w_loc (ls' := [some (.inr (.inl 1)), some (.inr (.inl 2)), some (.inr (.inl 154)), some (.inl (i)), some (.inl (v)), some (.inl (a)), some (.inl (b)), some (.inl (x)), some (.inl (1)), some (.inl (1 + x % 20)), some (.inl (-99991002))]) (st' := []) rfl ?_
        refine w_loc rfl ?_
        refine w_zge (fun h10 => absurd h10 (by omega)) (fun h10 => ?_)
        refine w_goto ?_
        exact K k d _ _ _ _ _ _ hI5 hd (by omega) (by omega) (by omega) (by omega) (by omega)
      · skip
        refine w_loc rfl ?_
        refine w_ldcn ?_
        refine w_ine (fun h11 => ?_) (fun h11 => absurd h11 (by omega))
        refine pz_G_of pz_b231_367 ?_
        refine w_pure rfl ?_
        refine w_nil ?_
        refine pz_G_of pz_b231_368 ?_
        refine w_loc (ls' := [some (.inr (.inl 1)), some (.inr (.inl 2)), some (.inr (.inl 154)), some (.inl (i)), some (.inl (v)), some (.inl (a)), some (.inl (b)), some (.inl (x)), some (.inl (0)), some (.inl (1 + x % 20)), some (.inl (-99991002))]) (st' := []) rfl ?_
        refine w_loc rfl ?_
        refine w_zge (fun h12 => absurd h12 (by omega)) (fun h12 => ?_)
        refine w_goto ?_
        exfalso
        omega
    · skip
      refine w_loc rfl ?_
      refine w_ldcn ?_
      refine w_ine (fun h13 => absurd h13 (by omega)) (fun h13 => ?_)
      refine w_pure rfl ?_
      refine w_goto ?_
      refine pz_G_of pz_b231_368 ?_
      refine w_loc (ls' := [some (.inr (.inl 1)), some (.inr (.inl 2)), some (.inr (.inl 154)), some (.inl (i)), some (.inl (v)), some (.inl (a)), some (.inl (b)), some (.inl (x)), some (.inl (1)), some (.inl (1 + x % 20)), some (.inl (-99991002))]) (st' := []) rfl ?_
      refine w_loc rfl ?_
      refine w_zge (fun h14 => absurd h14 (by omega)) (fun h14 => ?_)
      refine w_goto ?_
      exact K k d _ _ _ _ _ _ hI5 hd (by omega) (by omega) (by omega) (by omega) (by omega)
  · skip
    rw [g3] at hI5
    rw [g2]
    refine w_loc (ls' := [some (.inr (.inl 1)), some (.inr (.inl 2)), some (.inr (.inl 154)), some (.inl (i)), some (.inl (v)), some (.inl (a)), some (.inl (b)), some (.inl (x)), some (.inl (1)), some (.inl (1 + x % 20)), some (.inl (-99991003))]) (st' := []) rfl ?_
    refine w_loc rfl ?_
    refine w_loc rfl ?_
    refine w_igt (fun h15 => ?_) (fun h15 => ?_)
    · skip
      refine pz_G_of pz_b231_348 ?_
      refine w_loc rfl ?_
      refine w_loc rfl ?_
      refine w_pure rfl ?_
      refine w_iald is_154 ln_154 ⟨by omega, by omega⟩ ((t_I_at hI5 2).trans hd.2.2.1) ?_
      refine w_ieq (fun h16 => ?_) (fun h16 => ?_)
      · skip
        refine pz_G_of pz_b231_363 ?_
        refine w_pure rfl ?_
        refine w_goto ?_
        refine pz_G_of pz_b231_368 ?_
        refine w_loc (ls' := [some (.inr (.inl 1)), some (.inr (.inl 2)), some (.inr (.inl 154)), some (.inl (i)), some (.inl (v)), some (.inl (a)), some (.inl (b)), some (.inl (x)), some (.inl (1)), some (.inl (1 + x % 20)), some (.inl (-99991003))]) (st' := []) rfl ?_
        refine w_loc rfl ?_
        refine w_zge (fun h17 => absurd h17 (by omega)) (fun h17 => ?_)
        refine w_goto ?_
        exact K k d _ _ _ _ _ _ hI5 hd (by omega) (by omega) (by omega) (by omega) (by omega)
      · skip
        refine w_loc rfl ?_
        refine w_ldcn ?_
        refine w_ine (fun h18 => absurd h18 (by omega)) (fun h18 => ?_)
        refine w_nil ?_
        refine pz_G_of pz_b231_363 ?_
        refine w_pure rfl ?_
        refine w_goto ?_
        refine pz_G_of pz_b231_368 ?_
        refine w_loc (ls' := [some (.inr (.inl 1)), some (.inr (.inl 2)), some (.inr (.inl 154)), some (.inl (i)), some (.inl (v)), some (.inl (a)), some (.inl (b)), some (.inl (x)), some (.inl (1)), some (.inl (1 + x % 20)), some (.inl (-99991003))]) (st' := []) rfl ?_
        refine w_loc rfl ?_
        refine w_zge (fun h19 => absurd h19 (by omega)) (fun h19 => ?_)
        refine w_goto ?_
        exact K k d _ _ _ _ _ _ hI5 hd (by omega) (by omega) (by omega) (by omega) (by omega)
    · skip
      refine w_loc rfl ?_
      refine w_ldcn ?_
      refine w_ine (fun h20 => ?_) (fun h20 => absurd h20 (by omega))
      refine pz_G_of pz_b231_344 ?_
      refine w_pure rfl ?_
      refine w_goto ?_
      refine pz_G_of pz_b231_368 ?_
      refine w_loc (ls' := [some (.inr (.inl 1)), some (.inr (.inl 2)), some (.inr (.inl 154)), some (.inl (i)), some (.inl (v)), some (.inl (a)), some (.inl (b)), some (.inl (x)), some (.inl (0)), some (.inl (1 + x % 20)), some (.inl (-99991003))]) (st' := []) rfl ?_
      refine w_loc rfl ?_
      refine w_zge (fun h21 => absurd h21 (by omega)) (fun h21 => ?_)
      refine w_goto ?_
      exfalso
      omega
  · skip
    rw [g3] at hI5
    rw [g2]
    have ag : ∀ j : Nat, j ≠ 2 ∧ ¬ (212 ≤ j ∧ j < 224) → q_addsp k a b (1 + x % 20) (1 + x % 20 + (x / 32) % 20) j = k j := fun j hj => t_addsp_ne (by omega) hj
    have a0 := ag 0 (by omega)
    have a1 := ag 1 (by omega)
    have a5 := ag 5 (by omega)
    refine w_loc (ls' := [some (.inr (.inl 1)), some (.inr (.inl 2)), some (.inr (.inl 154)), some (.inl (i)), some (.inl (v)), some (.inl (a)), some (.inl (b)), some (.inl (x)), some (.inl (1)), some (.inl (1 + x % 20)), some (.inl (k 2))]) (st' := []) rfl ?_
    refine w_loc rfl ?_
    refine w_loc rfl ?_
    refine w_igt (fun h22 => ?_) (fun h22 => ?_)
    · skip
      refine pz_G_of pz_b231_348 ?_
      refine w_loc rfl ?_
      refine w_loc rfl ?_
      refine w_pure rfl ?_
      refine w_iald is_154 ln_154 ⟨by omega, by omega⟩ ((t_I_at hI5 2).trans hd.2.2.1) ?_
      refine w_ieq (fun h23 => ?_) (fun h23 => ?_)
      · skip
        refine pz_G_of pz_b231_363 ?_
        refine w_pure rfl ?_
        refine w_goto ?_
        refine pz_G_of pz_b231_368 ?_
        refine w_loc (ls' := [some (.inr (.inl 1)), some (.inr (.inl 2)), some (.inr (.inl 154)), some (.inl (i)), some (.inl (v)), some (.inl (a)), some (.inl (b)), some (.inl (x)), some (.inl (1)), some (.inl (1 + x % 20)), some (.inl (k 2))]) (st' := []) rfl ?_
        refine w_loc rfl ?_
        refine w_zge (fun h24 => ?_) (fun h24 => ?_)
        · skip
          refine pz_G_of pz_b231_378 ?_
          refine w_loc rfl ?_
          refine w_pure rfl ?_
          refine w_pure rfl ?_
          refine w_loc rfl ?_
          refine w_imul ⟨by omega, by omega⟩ ?_
          refine w_iadd ⟨by omega, by omega⟩ ?_
          refine w_loc rfl ?_
          refine w_iastm is_154 ln_154 ⟨by omega, by omega⟩ (pz_u2_row _ _ _ _) ?_
          have hI25 := t_st_d hI5 (170 + 4 * (k 2) : Int).toNat (a)
          refine w_loc rfl ?_
          refine w_pure rfl ?_
          refine w_pure rfl ?_
          refine w_loc rfl ?_
          refine w_imul ⟨by omega, by omega⟩ ?_
          refine w_iadd ⟨by omega, by omega⟩ ?_
          refine w_loc rfl ?_
          refine w_iastm is_154 ln_154 ⟨by omega, by omega⟩ (pz_u2_row _ _ _ _) ?_
          have hI26 := t_st_d hI25 (171 + 4 * (k 2) : Int).toNat (b)
          refine w_loc rfl ?_
          refine w_pure rfl ?_
          refine w_pure rfl ?_
          refine w_loc rfl ?_
          refine w_imul ⟨by omega, by omega⟩ ?_
          refine w_iadd ⟨by omega, by omega⟩ ?_
          refine w_loc rfl ?_
          refine w_iastm is_154 ln_154 ⟨by omega, by omega⟩ (pz_u2_row _ _ _ _) ?_
          have hI27 := t_st_d hI26 (172 + 4 * (k 2) : Int).toNat (1 + x % 20)
          refine w_loc rfl ?_
          refine w_pure rfl ?_
          refine w_pure rfl ?_
          refine w_loc rfl ?_
          refine w_imul ⟨by omega, by omega⟩ ?_
          refine w_iadd ⟨by omega, by omega⟩ ?_
          refine w_loc rfl ?_
          refine w_loc rfl ?_
          refine w_pure rfl ?_
          refine w_idivp ⟨by omega, by omega, by omega⟩ ?_
          refine w_pure rfl ?_
          refine w_iremp ⟨by omega, by omega⟩ ?_
          refine w_iadd ⟨by omega, by omega⟩ ?_
          refine w_iastm is_154 ln_154 ⟨by omega, by omega⟩ (pz_u2_row _ _ _ _) ?_
          have hI28 := t_st_d hI27 (173 + 4 * (k 2) : Int).toNat (1 + x % 20 + (x / 32) % 20)
          refine w_loc rfl ?_
          refine w_pure rfl ?_
          refine w_pure rfl ?_
          refine w_iald is_154 ln_154 ⟨by omega, by omega⟩ ((t_I_at hI28 2).trans ((pz_up_ne (by omega)).trans ((pz_up_ne (by omega)).trans ((pz_up_ne (by omega)).trans ((pz_up_ne (by omega)).trans hd.2.2.1))))) ?_
          refine w_pure rfl ?_
          refine w_iadd ⟨by omega, by omega⟩ ?_
          refine w_iastm is_154 ln_154 ⟨by omega, by omega⟩ (pz_u2_row _ _ _ _) ?_
          have hI29 := t_st_d hI28 (2 : Int).toNat (k 2 + 1)
          refine w_goto ?_
          exact K (q_addsp k a b (1 + x % 20) (1 + x % 20 + (x / 32) % 20)) (pz_up (pz_up (pz_up (pz_up (pz_up d (170 + 4 * (k 2) : Int).toNat (a)) (171 + 4 * (k 2) : Int).toNat (b)) (172 + 4 * (k 2) : Int).toNat (1 + x % 20)) (173 + 4 * (k 2) : Int).toNat (1 + x % 20 + (x / 32) % 20)) (2 : Int).toNat (k 2 + 1)) _ _ _ _ _ _ hI29 (t_d_span hk hd g4) (by omega) (by omega) (by omega) (by omega) (by omega)
        · skip
          refine w_goto ?_
          exfalso
          omega
      · skip
        refine w_loc rfl ?_
        refine w_ldcn ?_
        refine w_ine (fun h30 => ?_) (fun h30 => ?_)
        · skip
          refine pz_G_of pz_b231_367 ?_
          refine w_pure rfl ?_
          refine w_nil ?_
          refine pz_G_of pz_b231_368 ?_
          refine w_loc (ls' := [some (.inr (.inl 1)), some (.inr (.inl 2)), some (.inr (.inl 154)), some (.inl (i)), some (.inl (v)), some (.inl (a)), some (.inl (b)), some (.inl (x)), some (.inl (0)), some (.inl (1 + x % 20)), some (.inl (k 2))]) (st' := []) rfl ?_
          refine w_loc rfl ?_
          refine w_zge (fun h31 => ?_) (fun h31 => ?_)
          · skip
            refine pz_G_of pz_b231_378 ?_
            refine w_loc rfl ?_
            refine w_pure rfl ?_
            refine w_pure rfl ?_
            refine w_loc rfl ?_
            refine w_imul ⟨by omega, by omega⟩ ?_
            refine w_iadd ⟨by omega, by omega⟩ ?_
            refine w_loc rfl ?_
            refine w_iastm is_154 ln_154 ⟨by omega, by omega⟩ (pz_u2_row _ _ _ _) ?_
            have hI32 := t_st_d hI5 (170 + 4 * (k 2) : Int).toNat (a)
            refine w_loc rfl ?_
            refine w_pure rfl ?_
            refine w_pure rfl ?_
            refine w_loc rfl ?_
            refine w_imul ⟨by omega, by omega⟩ ?_
            refine w_iadd ⟨by omega, by omega⟩ ?_
            refine w_loc rfl ?_
            refine w_iastm is_154 ln_154 ⟨by omega, by omega⟩ (pz_u2_row _ _ _ _) ?_
            have hI33 := t_st_d hI32 (171 + 4 * (k 2) : Int).toNat (b)
            refine w_loc rfl ?_
            refine w_pure rfl ?_
            refine w_pure rfl ?_
            refine w_loc rfl ?_
            refine w_imul ⟨by omega, by omega⟩ ?_
            refine w_iadd ⟨by omega, by omega⟩ ?_
            refine w_loc rfl ?_
            refine w_iastm is_154 ln_154 ⟨by omega, by omega⟩ (pz_u2_row _ _ _ _) ?_
            have hI34 := t_st_d hI33 (172 + 4 * (k 2) : Int).toNat (1 + x % 20)
            refine w_loc rfl ?_
            refine w_pure rfl ?_
            refine w_pure rfl ?_
            refine w_loc rfl ?_
            refine w_imul ⟨by omega, by omega⟩ ?_
            refine w_iadd ⟨by omega, by omega⟩ ?_
            refine w_loc rfl ?_
            refine w_loc rfl ?_
            refine w_pure rfl ?_
            refine w_idivp ⟨by omega, by omega, by omega⟩ ?_
            refine w_pure rfl ?_
            refine w_iremp ⟨by omega, by omega⟩ ?_
            refine w_iadd ⟨by omega, by omega⟩ ?_
            refine w_iastm is_154 ln_154 ⟨by omega, by omega⟩ (pz_u2_row _ _ _ _) ?_
            have hI35 := t_st_d hI34 (173 + 4 * (k 2) : Int).toNat (1 + x % 20 + (x / 32) % 20)
            refine w_loc rfl ?_
            refine w_pure rfl ?_
            refine w_pure rfl ?_
            refine w_iald is_154 ln_154 ⟨by omega, by omega⟩ ((t_I_at hI35 2).trans ((pz_up_ne (by omega)).trans ((pz_up_ne (by omega)).trans ((pz_up_ne (by omega)).trans ((pz_up_ne (by omega)).trans hd.2.2.1))))) ?_
            refine w_pure rfl ?_
            refine w_iadd ⟨by omega, by omega⟩ ?_
            refine w_iastm is_154 ln_154 ⟨by omega, by omega⟩ (pz_u2_row _ _ _ _) ?_
            have hI36 := t_st_d hI35 (2 : Int).toNat (k 2 + 1)
            refine w_goto ?_
            exfalso
            omega
          · skip
            refine w_goto ?_
            exfalso
            omega
        · skip
          refine w_nil ?_
          refine pz_G_of pz_b231_363 ?_
          refine w_pure rfl ?_
          refine w_goto ?_
          refine pz_G_of pz_b231_368 ?_
          refine w_loc (ls' := [some (.inr (.inl 1)), some (.inr (.inl 2)), some (.inr (.inl 154)), some (.inl (i)), some (.inl (v)), some (.inl (a)), some (.inl (b)), some (.inl (x)), some (.inl (1)), some (.inl (1 + x % 20)), some (.inl (k 2))]) (st' := []) rfl ?_
          refine w_loc rfl ?_
          refine w_zge (fun h37 => ?_) (fun h37 => ?_)
          · skip
            refine pz_G_of pz_b231_378 ?_
            refine w_loc rfl ?_
            refine w_pure rfl ?_
            refine w_pure rfl ?_
            refine w_loc rfl ?_
            refine w_imul ⟨by omega, by omega⟩ ?_
            refine w_iadd ⟨by omega, by omega⟩ ?_
            refine w_loc rfl ?_
            refine w_iastm is_154 ln_154 ⟨by omega, by omega⟩ (pz_u2_row _ _ _ _) ?_
            have hI38 := t_st_d hI5 (170 + 4 * (k 2) : Int).toNat (a)
            refine w_loc rfl ?_
            refine w_pure rfl ?_
            refine w_pure rfl ?_
            refine w_loc rfl ?_
            refine w_imul ⟨by omega, by omega⟩ ?_
            refine w_iadd ⟨by omega, by omega⟩ ?_
            refine w_loc rfl ?_
            refine w_iastm is_154 ln_154 ⟨by omega, by omega⟩ (pz_u2_row _ _ _ _) ?_
            have hI39 := t_st_d hI38 (171 + 4 * (k 2) : Int).toNat (b)
            refine w_loc rfl ?_
            refine w_pure rfl ?_
            refine w_pure rfl ?_
            refine w_loc rfl ?_
            refine w_imul ⟨by omega, by omega⟩ ?_
            refine w_iadd ⟨by omega, by omega⟩ ?_
            refine w_loc rfl ?_
            refine w_iastm is_154 ln_154 ⟨by omega, by omega⟩ (pz_u2_row _ _ _ _) ?_
            have hI40 := t_st_d hI39 (172 + 4 * (k 2) : Int).toNat (1 + x % 20)
            refine w_loc rfl ?_
            refine w_pure rfl ?_
            refine w_pure rfl ?_
            refine w_loc rfl ?_
            refine w_imul ⟨by omega, by omega⟩ ?_
            refine w_iadd ⟨by omega, by omega⟩ ?_
            refine w_loc rfl ?_
            refine w_loc rfl ?_
            refine w_pure rfl ?_
            refine w_idivp ⟨by omega, by omega, by omega⟩ ?_
            refine w_pure rfl ?_
            refine w_iremp ⟨by omega, by omega⟩ ?_
            refine w_iadd ⟨by omega, by omega⟩ ?_
            refine w_iastm is_154 ln_154 ⟨by omega, by omega⟩ (pz_u2_row _ _ _ _) ?_
            have hI41 := t_st_d hI40 (173 + 4 * (k 2) : Int).toNat (1 + x % 20 + (x / 32) % 20)
            refine w_loc rfl ?_
            refine w_pure rfl ?_
            refine w_pure rfl ?_
            refine w_iald is_154 ln_154 ⟨by omega, by omega⟩ ((t_I_at hI41 2).trans ((pz_up_ne (by omega)).trans ((pz_up_ne (by omega)).trans ((pz_up_ne (by omega)).trans ((pz_up_ne (by omega)).trans hd.2.2.1))))) ?_
            refine w_pure rfl ?_
            refine w_iadd ⟨by omega, by omega⟩ ?_
            refine w_iastm is_154 ln_154 ⟨by omega, by omega⟩ (pz_u2_row _ _ _ _) ?_
            have hI42 := t_st_d hI41 (2 : Int).toNat (k 2 + 1)
            refine w_goto ?_
            exact K (q_addsp k a b (1 + x % 20) (1 + x % 20 + (x / 32) % 20)) (pz_up (pz_up (pz_up (pz_up (pz_up d (170 + 4 * (k 2) : Int).toNat (a)) (171 + 4 * (k 2) : Int).toNat (b)) (172 + 4 * (k 2) : Int).toNat (1 + x % 20)) (173 + 4 * (k 2) : Int).toNat (1 + x % 20 + (x / 32) % 20)) (2 : Int).toNat (k 2 + 1)) _ _ _ _ _ _ hI42 (t_d_span hk hd g4) (by omega) (by omega) (by omega) (by omega) (by omega)
          · skip
            refine w_goto ?_
            exfalso
            omega
    · skip
      refine w_loc rfl ?_
      refine w_ldcn ?_
      refine w_ine (fun h43 => ?_) (fun h43 => ?_)
      · skip
        refine pz_G_of pz_b231_344 ?_
        refine w_pure rfl ?_
        refine w_goto ?_
        refine pz_G_of pz_b231_368 ?_
        refine w_loc (ls' := [some (.inr (.inl 1)), some (.inr (.inl 2)), some (.inr (.inl 154)), some (.inl (i)), some (.inl (v)), some (.inl (a)), some (.inl (b)), some (.inl (x)), some (.inl (0)), some (.inl (1 + x % 20)), some (.inl (k 2))]) (st' := []) rfl ?_
        refine w_loc rfl ?_
        refine w_zge (fun h44 => ?_) (fun h44 => ?_)
        · skip
          refine pz_G_of pz_b231_378 ?_
          refine w_loc rfl ?_
          refine w_pure rfl ?_
          refine w_pure rfl ?_
          refine w_loc rfl ?_
          refine w_imul ⟨by omega, by omega⟩ ?_
          refine w_iadd ⟨by omega, by omega⟩ ?_
          refine w_loc rfl ?_
          refine w_iastm is_154 ln_154 ⟨by omega, by omega⟩ (pz_u2_row _ _ _ _) ?_
          have hI45 := t_st_d hI5 (170 + 4 * (k 2) : Int).toNat (a)
          refine w_loc rfl ?_
          refine w_pure rfl ?_
          refine w_pure rfl ?_
          refine w_loc rfl ?_
          refine w_imul ⟨by omega, by omega⟩ ?_
          refine w_iadd ⟨by omega, by omega⟩ ?_
          refine w_loc rfl ?_
          refine w_iastm is_154 ln_154 ⟨by omega, by omega⟩ (pz_u2_row _ _ _ _) ?_
          have hI46 := t_st_d hI45 (171 + 4 * (k 2) : Int).toNat (b)
          refine w_loc rfl ?_
          refine w_pure rfl ?_
          refine w_pure rfl ?_
          refine w_loc rfl ?_
          refine w_imul ⟨by omega, by omega⟩ ?_
          refine w_iadd ⟨by omega, by omega⟩ ?_
          refine w_loc rfl ?_
          refine w_iastm is_154 ln_154 ⟨by omega, by omega⟩ (pz_u2_row _ _ _ _) ?_
          have hI47 := t_st_d hI46 (172 + 4 * (k 2) : Int).toNat (1 + x % 20)
          refine w_loc rfl ?_
          refine w_pure rfl ?_
          refine w_pure rfl ?_
          refine w_loc rfl ?_
          refine w_imul ⟨by omega, by omega⟩ ?_
          refine w_iadd ⟨by omega, by omega⟩ ?_
          refine w_loc rfl ?_
          refine w_loc rfl ?_
          refine w_pure rfl ?_
          refine w_idivp ⟨by omega, by omega, by omega⟩ ?_
          refine w_pure rfl ?_
          refine w_iremp ⟨by omega, by omega⟩ ?_
          refine w_iadd ⟨by omega, by omega⟩ ?_
          refine w_iastm is_154 ln_154 ⟨by omega, by omega⟩ (pz_u2_row _ _ _ _) ?_
          have hI48 := t_st_d hI47 (173 + 4 * (k 2) : Int).toNat (1 + x % 20 + (x / 32) % 20)
          refine w_loc rfl ?_
          refine w_pure rfl ?_
          refine w_pure rfl ?_
          refine w_iald is_154 ln_154 ⟨by omega, by omega⟩ ((t_I_at hI48 2).trans ((pz_up_ne (by omega)).trans ((pz_up_ne (by omega)).trans ((pz_up_ne (by omega)).trans ((pz_up_ne (by omega)).trans hd.2.2.1))))) ?_
          refine w_pure rfl ?_
          refine w_iadd ⟨by omega, by omega⟩ ?_
          refine w_iastm is_154 ln_154 ⟨by omega, by omega⟩ (pz_u2_row _ _ _ _) ?_
          have hI49 := t_st_d hI48 (2 : Int).toNat (k 2 + 1)
          refine w_goto ?_
          exfalso
          omega
        · skip
          refine w_goto ?_
          exfalso
          omega
      · skip
        refine w_pure rfl ?_
        refine w_goto ?_
        refine pz_G_of pz_b231_368 ?_
        refine w_loc (ls' := [some (.inr (.inl 1)), some (.inr (.inl 2)), some (.inr (.inl 154)), some (.inl (i)), some (.inl (v)), some (.inl (a)), some (.inl (b)), some (.inl (x)), some (.inl (1)), some (.inl (1 + x % 20)), some (.inl (k 2))]) (st' := []) rfl ?_
        refine w_loc rfl ?_
        refine w_zge (fun h50 => ?_) (fun h50 => ?_)
        · skip
          refine pz_G_of pz_b231_378 ?_
          refine w_loc rfl ?_
          refine w_pure rfl ?_
          refine w_pure rfl ?_
          refine w_loc rfl ?_
          refine w_imul ⟨by omega, by omega⟩ ?_
          refine w_iadd ⟨by omega, by omega⟩ ?_
          refine w_loc rfl ?_
          refine w_iastm is_154 ln_154 ⟨by omega, by omega⟩ (pz_u2_row _ _ _ _) ?_
          have hI51 := t_st_d hI5 (170 + 4 * (k 2) : Int).toNat (a)
          refine w_loc rfl ?_
          refine w_pure rfl ?_
          refine w_pure rfl ?_
          refine w_loc rfl ?_
          refine w_imul ⟨by omega, by omega⟩ ?_
          refine w_iadd ⟨by omega, by omega⟩ ?_
          refine w_loc rfl ?_
          refine w_iastm is_154 ln_154 ⟨by omega, by omega⟩ (pz_u2_row _ _ _ _) ?_
          have hI52 := t_st_d hI51 (171 + 4 * (k 2) : Int).toNat (b)
          refine w_loc rfl ?_
          refine w_pure rfl ?_
          refine w_pure rfl ?_
          refine w_loc rfl ?_
          refine w_imul ⟨by omega, by omega⟩ ?_
          refine w_iadd ⟨by omega, by omega⟩ ?_
          refine w_loc rfl ?_
          refine w_iastm is_154 ln_154 ⟨by omega, by omega⟩ (pz_u2_row _ _ _ _) ?_
          have hI53 := t_st_d hI52 (172 + 4 * (k 2) : Int).toNat (1 + x % 20)
          refine w_loc rfl ?_
          refine w_pure rfl ?_
          refine w_pure rfl ?_
          refine w_loc rfl ?_
          refine w_imul ⟨by omega, by omega⟩ ?_
          refine w_iadd ⟨by omega, by omega⟩ ?_
          refine w_loc rfl ?_
          refine w_loc rfl ?_
          refine w_pure rfl ?_
          refine w_idivp ⟨by omega, by omega, by omega⟩ ?_
          refine w_pure rfl ?_
          refine w_iremp ⟨by omega, by omega⟩ ?_
          refine w_iadd ⟨by omega, by omega⟩ ?_
          refine w_iastm is_154 ln_154 ⟨by omega, by omega⟩ (pz_u2_row _ _ _ _) ?_
          have hI54 := t_st_d hI53 (173 + 4 * (k 2) : Int).toNat (1 + x % 20 + (x / 32) % 20)
          refine w_loc rfl ?_
          refine w_pure rfl ?_
          refine w_pure rfl ?_
          refine w_iald is_154 ln_154 ⟨by omega, by omega⟩ ((t_I_at hI54 2).trans ((pz_up_ne (by omega)).trans ((pz_up_ne (by omega)).trans ((pz_up_ne (by omega)).trans ((pz_up_ne (by omega)).trans hd.2.2.1))))) ?_
          refine w_pure rfl ?_
          refine w_iadd ⟨by omega, by omega⟩ ?_
          refine w_iastm is_154 ln_154 ⟨by omega, by omega⟩ (pz_u2_row _ _ _ _) ?_
          have hI55 := t_st_d hI54 (2 : Int).toNat (k 2 + 1)
          refine w_goto ?_
          exact K (q_addsp k a b (1 + x % 20) (1 + x % 20 + (x / 32) % 20)) (pz_up (pz_up (pz_up (pz_up (pz_up d (170 + 4 * (k 2) : Int).toNat (a)) (171 + 4 * (k 2) : Int).toNat (b)) (172 + 4 * (k 2) : Int).toNat (1 + x % 20)) (173 + 4 * (k 2) : Int).toNat (1 + x % 20 + (x / 32) % 20)) (2 : Int).toNat (k 2 + 1)) _ _ _ _ _ _ hI55 (t_d_span hk hd g4) (by omega) (by omega) (by omega) (by omega) (by omega)
        · skip
          refine w_goto ?_
          exfalso
          omega
theorem t_case_445 {L C S : Nat} {sc k d kf : Nat → Int} {i v a b x : Int} {Q : pz_Q} (hd : t_d k d) (h8 : k 0 ≤ 8) (hk1 : k 1 ≤ i) (hi : 0 ≤ i ∧ i ≤ 21) (h5 : k 5 = 9) (ha : 0 ≤ a ∧ a < k 0) (hb : 0 ≤ b ∧ b < k 0) (hx : 0 ≤ x ∧ x ≤ 600000) (K : ∀ (k2 d2 : Nat → Int) (x9 x10 : Option pz_V) (iv : Nat → Nat → Int) (dv : Nat → Nat → UInt64) (cc ss : Nat), t_I sc k2 d2 0 kf iv → t_d k2 d2 → k2 0 ≤ 8 → k2 1 ≤ i + 1 → k2 5 = 9 → cc ≤ C → ss ≤ S → pz_G 231 917 [some (.inr (.inl 1)), some (.inr (.inl 2)), some (.inr (.inl 154)), some (.inl (i)), some (.inl (v)), some (.inl (a)), some (.inl (b)), some (.inl (x)), some (.inl (1)), x9, x10] [] (pz_Sh L, iv, dv, cc, ss) Q) (x9 x10 : Option pz_V) (iv : Nat → Nat → Int) (dv : Nat → Nat → UInt64) (cc ss : Nat) (hI : t_I sc k d 0 kf iv) (hC : cc + 300 ≤ C) (hS : ss + 1800 ≤ S) : pz_G 231 445 [some (.inr (.inl 1)), some (.inr (.inl 2)), some (.inr (.inl 154)), some (.inl (i)), some (.inl (v)), some (.inl (a)), some (.inl (b)), some (.inl (x)), some (.inl (1)), x9, x10] [] (pz_Sh L, iv, dv, cc, ss) Q := by
  have hk := hI.2.1
  have h0 := hk.r0
  refine pz_G_of pz_b231_445 ?_
  refine w_loc rfl ?_
  refine w_pure rfl ?_
  refine w_iald is_154 ln_154 ⟨by omega, by omega⟩ (t_I_d1 hI hd) ?_
  refine w_zeq (fun h1 => ?_) (fun h1 => ?_)
  · skip
    refine pz_G_of pz_b231_466 ?_
    refine w_pure rfl ?_
    refine w_goto ?_
    refine pz_G_of pz_b231_471 ?_
    refine w_loc (ls' := [some (.inr (.inl 1)), some (.inr (.inl 2)), some (.inr (.inl 154)), some (.inl (i)), some (.inl (v)), some (.inl (a)), some (.inl (b)), some (.inl (x)), some (.inl (1)), x9, x10]) (st' := []) rfl ?_
    refine w_goto ?_
    exact K k d _ _ _ _ _ _ hI hd (by omega) (by omega) (by omega) (by omega) (by omega)
  · skip
    refine w_loc rfl ?_
    refine w_loc rfl ?_
    refine w_loc rfl ?_
    refine w_pure rfl ?_
    refine w_iald is_154 ln_154 ⟨by omega, by omega⟩ (t_I_d1 hI hd) ?_
    refine w_iremp ⟨by omega, by omega⟩ ?_
    refine w_callO (t_S_dropBound (b := x % (k 1)) hI) rfl rfl (fun iv2 dv3 cc4 ss5 hI6 hc7 hs8 => ?_)
    have m1 := Int.emod_nonneg x (show k 1 ≠ 0 by omega)
    have m2 := Int.emod_lt_of_pos x (show 0 < k 1 by omega)
    have g := f_drop hk (b := x % (k 1)) ⟨m1, m2⟩
    generalize k_dropBound k (x % (k 1)) = k2 at hI6 g
    have a0 := g.2 0 (by omega)
    have a1 := g.2 1 (by omega)
    have a5 := g.2 5 (by omega)
    have g1 := g.1
    have hd2 : t_d k2 d := t_d_ag hk hd (fun j hj => g.2 j (by omega))
    refine w_ldcn ?_
    refine w_ieq (fun h9 => ?_) (fun h9 => ?_)
    · skip
      refine pz_G_of pz_b231_470 ?_
      refine w_pure rfl ?_
      refine w_nil ?_
      refine pz_G_of pz_b231_471 ?_
      refine w_loc (ls' := [some (.inr (.inl 1)), some (.inr (.inl 2)), some (.inr (.inl 154)), some (.inl (i)), some (.inl (v)), some (.inl (a)), some (.inl (b)), some (.inl (x)), some (.inl (0)), x9, x10]) (st' := []) rfl ?_
      refine w_goto ?_
      exfalso
      omega
    · skip
      refine w_nil ?_
      refine pz_G_of pz_b231_466 ?_
      refine w_pure rfl ?_
      refine w_goto ?_
      refine pz_G_of pz_b231_471 ?_
      refine w_loc (ls' := [some (.inr (.inl 1)), some (.inr (.inl 2)), some (.inr (.inl 154)), some (.inl (i)), some (.inl (v)), some (.inl (a)), some (.inl (b)), some (.inl (x)), some (.inl (1)), x9, x10]) (st' := []) rfl ?_
      refine w_goto ?_
      exact K k2 d _ _ _ _ _ _ hI6 hd2 (by omega) (by omega) (by omega) (by omega) (by omega)
theorem t_case_476 {L C S : Nat} {sc k d kf : Nat → Int} {i v a b x : Int} {Q : pz_Q} (hd : t_d k d) (h8 : k 0 ≤ 8) (hk1 : k 1 ≤ i) (hi : 0 ≤ i ∧ i ≤ 21) (h5 : k 5 = 9) (ha : 0 ≤ a ∧ a < k 0) (hb : 0 ≤ b ∧ b < k 0) (hx : 0 ≤ x ∧ x ≤ 600000) (K : ∀ (k2 d2 : Nat → Int) (x9 x10 : Option pz_V) (iv : Nat → Nat → Int) (dv : Nat → Nat → UInt64) (cc ss : Nat), t_I sc k2 d2 0 kf iv → t_d k2 d2 → k2 0 ≤ 8 → k2 1 ≤ i + 1 → k2 5 = 9 → cc ≤ C → ss ≤ S → pz_G 231 917 [some (.inr (.inl 1)), some (.inr (.inl 2)), some (.inr (.inl 154)), some (.inl (i)), some (.inl (v)), some (.inl (a)), some (.inl (b)), some (.inl (x)), some (.inl (1)), x9, x10] [] (pz_Sh L, iv, dv, cc, ss) Q) (x9 x10 : Option pz_V) (iv : Nat → Nat → Int) (dv : Nat → Nat → UInt64) (cc ss : Nat) (hI : t_I sc k d 0 kf iv) (hC : cc + 300 ≤ C) (hS : ss + 1800 ≤ S) : pz_G 231 476 [some (.inr (.inl 1)), some (.inr (.inl 2)), some (.inr (.inl 154)), some (.inl (i)), some (.inl (v)), some (.inl (a)), some (.inl (b)), some (.inl (x)), some (.inl (1)), x9, x10] [] (pz_Sh L, iv, dv, cc, ss) Q := by
  have hk := hI.2.1
  have h0 := hk.r0
  refine pz_G_of pz_b231_476 ?_
  refine w_loc rfl ?_
  refine w_pure rfl ?_
  refine w_loc rfl ?_
  refine w_pure rfl ?_
  refine w_iremp ⟨by omega, by omega⟩ ?_
  refine w_iadd ⟨by omega, by omega⟩ ?_
  refine w_loc rfl ?_
  refine w_pure rfl ?_
  refine w_iremp ⟨by omega, by omega⟩ ?_
  refine w_zne (fun h1 => ?_) (fun h1 => ?_)
  · skip
    refine pz_G_of pz_b231_494 ?_
    refine w_pure rfl ?_
    refine w_nil ?_
    refine pz_G_of pz_b231_495 ?_
    refine w_callO (t_S_observe (l := 1 + x % 4) (z := 0) hI (Or.inl rfl)) rfl rfl (fun iv2 dv3 cc4 ss5 hI6 hc7 hs8 => ?_)
    have g := f_observe (l := 1 + x % 4) (z := 0) hk (by omega)
    generalize k_observe k (1 + x % 4) 0 = k2 at hI6 g
    have a0 := g.2.2 0 (by omega)
    have a1 := g.2.2 1 (by omega)
    have a5 := g.2.2 5 (by omega)
    have g1 := g.1
    have g2 := g.2.1
    have hd2 : t_d k2 d := t_d_ag hk hd (fun j hj => g.2.2 j (by omega))
    refine w_ldcn ?_
    refine w_ieq (fun h9 => ?_) (fun h9 => ?_)
    · skip
      refine pz_G_of pz_b231_522 ?_
      refine w_pure rfl ?_
      refine w_nil ?_
      refine pz_G_of pz_b231_523 ?_
      refine w_loc (ls' := [some (.inr (.inl 1)), some (.inr (.inl 2)), some (.inr (.inl 154)), some (.inl (i)), some (.inl (v)), some (.inl (a)), some (.inl (b)), some (.inl (x)), some (.inl (0)), x9, x10]) (st' := []) rfl ?_
      refine w_goto ?_
      exfalso
      omega
    · skip
      refine w_loc rfl ?_
      refine w_pure rfl ?_
      refine w_loc rfl ?_
      refine w_pure rfl ?_
      refine w_iremp ⟨by omega, by omega⟩ ?_
      refine w_iadd ⟨by omega, by omega⟩ ?_
      refine w_callO (t_S_labelOf (l := 1 + x % 4) hI6) rfl rfl (fun iv10 dv11 cc12 ss13 hI14 hc15 hs16 => ?_)
      refine w_pure rfl ?_
      refine w_ieq (fun h17 => ?_) (fun h17 => ?_)
      · skip
        refine pz_G_of pz_b231_522 ?_
        refine w_pure rfl ?_
        refine w_nil ?_
        refine pz_G_of pz_b231_523 ?_
        refine w_loc (ls' := [some (.inr (.inl 1)), some (.inr (.inl 2)), some (.inr (.inl 154)), some (.inl (i)), some (.inl (v)), some (.inl (a)), some (.inl (b)), some (.inl (x)), some (.inl (0)), x9, x10]) (st' := []) rfl ?_
        refine w_goto ?_
        exfalso
        omega
      · skip
        refine w_pure rfl ?_
        refine w_goto ?_
        refine pz_G_of pz_b231_523 ?_
        refine w_loc (ls' := [some (.inr (.inl 1)), some (.inr (.inl 2)), some (.inr (.inl 154)), some (.inl (i)), some (.inl (v)), some (.inl (a)), some (.inl (b)), some (.inl (x)), some (.inl (1)), x9, x10]) (st' := []) rfl ?_
        refine w_goto ?_
        exact K k2 d _ _ _ _ _ _ hI14 hd2 (by omega) (by omega) (by omega) (by omega) (by omega)
  · skip
    refine w_pure rfl ?_
    refine w_goto ?_
    refine pz_G_of pz_b231_495 ?_
    refine w_callO (t_S_observe (l := 1 + x % 4) (z := 1) hI (Or.inr rfl)) rfl rfl (fun iv18 dv19 cc20 ss21 hI22 hc23 hs24 => ?_)
    have g := f_observe (l := 1 + x % 4) (z := 1) hk (by omega)
    generalize k_observe k (1 + x % 4) 1 = k2 at hI22 g
    have a0 := g.2.2 0 (by omega)
    have a1 := g.2.2 1 (by omega)
    have a5 := g.2.2 5 (by omega)
    have g1 := g.1
    have g2 := g.2.1
    have hd2 : t_d k2 d := t_d_ag hk hd (fun j hj => g.2.2 j (by omega))
    refine w_ldcn ?_
    refine w_ieq (fun h25 => ?_) (fun h25 => ?_)
    · skip
      refine pz_G_of pz_b231_522 ?_
      refine w_pure rfl ?_
      refine w_nil ?_
      refine pz_G_of pz_b231_523 ?_
      refine w_loc (ls' := [some (.inr (.inl 1)), some (.inr (.inl 2)), some (.inr (.inl 154)), some (.inl (i)), some (.inl (v)), some (.inl (a)), some (.inl (b)), some (.inl (x)), some (.inl (0)), x9, x10]) (st' := []) rfl ?_
      refine w_goto ?_
      exfalso
      omega
    · skip
      refine w_loc rfl ?_
      refine w_pure rfl ?_
      refine w_loc rfl ?_
      refine w_pure rfl ?_
      refine w_iremp ⟨by omega, by omega⟩ ?_
      refine w_iadd ⟨by omega, by omega⟩ ?_
      refine w_callO (t_S_labelOf (l := 1 + x % 4) hI22) rfl rfl (fun iv26 dv27 cc28 ss29 hI30 hc31 hs32 => ?_)
      refine w_pure rfl ?_
      refine w_ieq (fun h33 => ?_) (fun h33 => ?_)
      · skip
        refine pz_G_of pz_b231_522 ?_
        refine w_pure rfl ?_
        refine w_nil ?_
        refine pz_G_of pz_b231_523 ?_
        refine w_loc (ls' := [some (.inr (.inl 1)), some (.inr (.inl 2)), some (.inr (.inl 154)), some (.inl (i)), some (.inl (v)), some (.inl (a)), some (.inl (b)), some (.inl (x)), some (.inl (0)), x9, x10]) (st' := []) rfl ?_
        refine w_goto ?_
        exfalso
        omega
      · skip
        refine w_pure rfl ?_
        refine w_goto ?_
        refine pz_G_of pz_b231_523 ?_
        refine w_loc (ls' := [some (.inr (.inl 1)), some (.inr (.inl 2)), some (.inr (.inl 154)), some (.inl (i)), some (.inl (v)), some (.inl (a)), some (.inl (b)), some (.inl (x)), some (.inl (1)), x9, x10]) (st' := []) rfl ?_
        refine w_goto ?_
        exact K k2 d _ _ _ _ _ _ hI30 hd2 (by omega) (by omega) (by omega) (by omega) (by omega)
theorem t_case_528 {L C S : Nat} {sc k d kf : Nat → Int} {i v a b x : Int} {Q : pz_Q} (hd : t_d k d) (h8 : k 0 ≤ 8) (hk1 : k 1 ≤ i) (hi : 0 ≤ i ∧ i ≤ 21) (h5 : k 5 = 9) (ha : 0 ≤ a ∧ a < k 0) (hb : 0 ≤ b ∧ b < k 0) (hx : 0 ≤ x ∧ x ≤ 600000) (K : ∀ (k2 d2 : Nat → Int) (x9 x10 : Option pz_V) (iv : Nat → Nat → Int) (dv : Nat → Nat → UInt64) (cc ss : Nat), t_I sc k2 d2 0 kf iv → t_d k2 d2 → k2 0 ≤ 8 → k2 1 ≤ i + 1 → k2 5 = 9 → cc ≤ C → ss ≤ S → pz_G 231 917 [some (.inr (.inl 1)), some (.inr (.inl 2)), some (.inr (.inl 154)), some (.inl (i)), some (.inl (v)), some (.inl (a)), some (.inl (b)), some (.inl (x)), some (.inl (1)), x9, x10] [] (pz_Sh L, iv, dv, cc, ss) Q) (x9 x10 : Option pz_V) (iv : Nat → Nat → Int) (dv : Nat → Nat → UInt64) (cc ss : Nat) (hI : t_I sc k d 0 kf iv) (hC : cc + 300 ≤ C) (hS : ss + 1800 ≤ S) : pz_G 231 528 [some (.inr (.inl 1)), some (.inr (.inl 2)), some (.inr (.inl 154)), some (.inl (i)), some (.inl (v)), some (.inl (a)), some (.inl (b)), some (.inl (x)), some (.inl (1)), x9, x10] [] (pz_Sh L, iv, dv, cc, ss) Q := by
  have hk := hI.2.1
  have h0 := hk.r0
  refine pz_G_of pz_b231_528 ?_
  refine w_loc rfl ?_
  refine w_callO (t_S_choose hI) rfl rfl (fun iv1 dv2 cc3 ss4 hI5 hc6 hs7 => ?_)
  rcases f_choose (k := k) with ⟨g1, g2⟩ | ⟨g1, g2, g3⟩
  · skip
    rw [g2] at hI5
    rw [g1]
    refine w_loc (ls' := [some (.inr (.inl 1)), some (.inr (.inl 2)), some (.inr (.inl 154)), some (.inl (i)), some (.inl (v)), some (.inl (a)), some (.inl (b)), some (.inl (x)), some (.inl (1)), some (.inl (-99991001)), x10]) (st' := []) rfl ?_
    refine w_loc rfl ?_
    refine w_ldcn ?_
    refine w_ieq (fun h8 => ?_) (fun h8 => absurd h8 (by omega))
    refine pz_G_of pz_b231_559 ?_
    refine w_pure rfl ?_
    refine w_goto ?_
    refine pz_G_of pz_b231_564 ?_
    refine w_loc (ls' := [some (.inr (.inl 1)), some (.inr (.inl 2)), some (.inr (.inl 154)), some (.inl (i)), some (.inl (v)), some (.inl (a)), some (.inl (b)), some (.inl (x)), some (.inl (1)), some (.inl (-99991001)), x10]) (st' := []) rfl ?_
    refine w_goto ?_
    exact K k d _ _ _ _ _ _ hI5 hd (by omega) (by omega) (by omega) (by omega) (by omega)
  · skip
    have ag : ∀ j : Nat, ¬ (47 ≤ j ∧ j ≤ 50) → k_choose k j = k j := fun j hj => by rw [g3]; exact q_kw_same hj
    generalize k_choose k = k2 at hI5 g2 ag
    have a0 := ag 0 (by omega)
    have a1 := ag 1 (by omega)
    have a5 := ag 5 (by omega)
    have hd2 : t_d k2 d := t_d_ag hk hd (fun j hj => ag j (by omega))
    refine w_loc (ls' := [some (.inr (.inl 1)), some (.inr (.inl 2)), some (.inr (.inl 154)), some (.inl (i)), some (.inl (v)), some (.inl (a)), some (.inl (b)), some (.inl (x)), some (.inl (1)), some (.inl (c_choose k)), x10]) (st' := []) rfl ?_
    refine w_loc rfl ?_
    refine w_ldcn ?_
    refine w_ieq (fun h9 => ?_) (fun h9 => ?_)
    · skip
      refine pz_G_of pz_b231_559 ?_
      refine w_pure rfl ?_
      refine w_goto ?_
      refine pz_G_of pz_b231_564 ?_
      refine w_loc (ls' := [some (.inr (.inl 1)), some (.inr (.inl 2)), some (.inr (.inl 154)), some (.inl (i)), some (.inl (v)), some (.inl (a)), some (.inl (b)), some (.inl (x)), some (.inl (1)), some (.inl (c_choose k)), x10]) (st' := []) rfl ?_
      refine w_goto ?_
      exact K k2 d _ _ _ _ _ _ hI5 hd2 (by omega) (by omega) (by omega) (by omega) (by omega)
    · skip
      refine w_loc rfl ?_
      refine w_callO (t_S_isConsistent hI5) rfl (pz_cokI is_2 rfl) (fun iv10 dv11 cc12 ss13 hI14 hc15 hs16 => ?_)
      refine w_zeq (fun h17 => absurd h17 (by omega)) (fun h17 => ?_)
      refine w_loc rfl ?_
      refine w_zlt (fun h18 => ?_) (fun h18 => ?_)
      · skip
        refine pz_G_of pz_b231_563 ?_
        refine w_pure rfl ?_
        refine w_nil ?_
        refine pz_G_of pz_b231_564 ?_
        refine w_loc (ls' := [some (.inr (.inl 1)), some (.inr (.inl 2)), some (.inr (.inl 154)), some (.inl (i)), some (.inl (v)), some (.inl (a)), some (.inl (b)), some (.inl (x)), some (.inl (0)), some (.inl (c_choose k)), x10]) (st' := []) rfl ?_
        refine w_goto ?_
        exfalso
        omega
      · skip
        refine w_loc rfl ?_
        refine w_pure rfl ?_
        refine w_igt (fun h19 => ?_) (fun h19 => ?_)
        · skip
          refine pz_G_of pz_b231_563 ?_
          refine w_pure rfl ?_
          refine w_nil ?_
          refine pz_G_of pz_b231_564 ?_
          refine w_loc (ls' := [some (.inr (.inl 1)), some (.inr (.inl 2)), some (.inr (.inl 154)), some (.inl (i)), some (.inl (v)), some (.inl (a)), some (.inl (b)), some (.inl (x)), some (.inl (0)), some (.inl (c_choose k)), x10]) (st' := []) rfl ?_
          refine w_goto ?_
          exfalso
          omega
        · skip
          refine w_nil ?_
          refine pz_G_of pz_b231_559 ?_
          refine w_pure rfl ?_
          refine w_goto ?_
          refine pz_G_of pz_b231_564 ?_
          refine w_loc (ls' := [some (.inr (.inl 1)), some (.inr (.inl 2)), some (.inr (.inl 154)), some (.inl (i)), some (.inl (v)), some (.inl (a)), some (.inl (b)), some (.inl (x)), some (.inl (1)), some (.inl (c_choose k)), x10]) (st' := []) rfl ?_
          refine w_goto ?_
          exact K k2 d _ _ _ _ _ _ hI14 hd2 (by omega) (by omega) (by omega) (by omega) (by omega)
theorem t_case_569 {L C S : Nat} {sc k d kf : Nat → Int} {i v a b x : Int} {Q : pz_Q} (hd : t_d k d) (h8 : k 0 ≤ 8) (hk1 : k 1 ≤ i) (hi : 0 ≤ i ∧ i ≤ 21) (h5 : k 5 = 9) (ha : 0 ≤ a ∧ a < k 0) (hb : 0 ≤ b ∧ b < k 0) (hx : 0 ≤ x ∧ x ≤ 600000) (K : ∀ (k2 d2 : Nat → Int) (x9 x10 : Option pz_V) (iv : Nat → Nat → Int) (dv : Nat → Nat → UInt64) (cc ss : Nat), t_I sc k2 d2 0 kf iv → t_d k2 d2 → k2 0 ≤ 8 → k2 1 ≤ i + 1 → k2 5 = 9 → cc ≤ C → ss ≤ S → pz_G 231 917 [some (.inr (.inl 1)), some (.inr (.inl 2)), some (.inr (.inl 154)), some (.inl (i)), some (.inl (v)), some (.inl (a)), some (.inl (b)), some (.inl (x)), some (.inl (1)), x9, x10] [] (pz_Sh L, iv, dv, cc, ss) Q) (x9 x10 : Option pz_V) (iv : Nat → Nat → Int) (dv : Nat → Nat → UInt64) (cc ss : Nat) (hI : t_I sc k d 0 kf iv) (hC : cc + 300 ≤ C) (hS : ss + 1800 ≤ S) : pz_G 231 569 [some (.inr (.inl 1)), some (.inr (.inl 2)), some (.inr (.inl 154)), some (.inl (i)), some (.inl (v)), some (.inl (a)), some (.inl (b)), some (.inl (x)), some (.inl (1)), x9, x10] [] (pz_Sh L, iv, dv, cc, ss) Q := by
  have hk := hI.2.1
  have h0 := hk.r0
  refine pz_G_of pz_b231_569 ?_
  refine w_loc rfl ?_
  refine w_loc rfl ?_
  refine w_callO (t_S_reason (e := a) hI) rfl rfl (fun iv1 dv2 cc3 ss4 hI5 hc6 hs7 => ?_)
  refine w_loc (ls' := [some (.inr (.inl 1)), some (.inr (.inl 2)), some (.inr (.inl 154)), some (.inl (i)), some (.inl (v)), some (.inl (a)), some (.inl (b)), some (.inl (x)), some (.inl (1)), some (.inl (c_reason k a)), x10]) (st' := []) rfl ?_
  refine w_loc rfl ?_
  refine w_loc rfl ?_
  refine w_callO (t_S_start (e := a) hI5) rfl rfl (fun iv8 dv9 cc10 ss11 hI12 hc13 hs14 => ?_)
  rcases f_start hk ha with ⟨g1, g2, g3⟩ | ⟨g1, g2, g3⟩
  · skip
    rw [g3] at hI12
    rw [g2]
    have ag : ∀ j : Nat, ¬ (6 ≤ j ∧ j < 16) → pz_up k (6 + a).toNat (k 4) j = k j := fun j hj => pz_up_ne (by omega)
    have s2 := f_start2 hk ha
    generalize pz_up k (6 + a).toNat (k 4) = k2 at hI12 ag s2
    have s3 := s2.1
    have s4 := s2.2
    have a0 := ag 0 (by omega)
    have a1 := ag 1 (by omega)
    have a5 := ag 5 (by omega)
    have hd2 : t_d k2 d := t_d_ag hk hd (fun j hj => ag j (by omega))
    refine w_loc (ls' := [some (.inr (.inl 1)), some (.inr (.inl 2)), some (.inr (.inl 154)), some (.inl (i)), some (.inl (v)), some (.inl (a)), some (.inl (b)), some (.inl (x)), some (.inl (1)), some (.inl (c_reason k a)), some (.inl (k 4))]) (st' := []) rfl ?_
    refine w_loc rfl ?_
    refine w_pure rfl ?_
    refine w_ine (fun h15 => ?_) (fun h15 => ?_)
    · skip
      refine pz_G_of pz_b231_620 ?_
      refine w_loc rfl ?_
      refine w_zge (fun h16 => ?_) (fun h16 => ?_)
      · skip
        refine pz_G_of pz_b231_629 ?_
        refine w_pure rfl ?_
        refine w_nil ?_
        refine pz_G_of pz_b231_630 ?_
        refine w_loc (ls' := [some (.inr (.inl 1)), some (.inr (.inl 2)), some (.inr (.inl 154)), some (.inl (i)), some (.inl (v)), some (.inl (a)), some (.inl (b)), some (.inl (x)), some (.inl (0)), some (.inl (c_reason k a)), some (.inl (k 4))]) (st' := []) rfl ?_
        refine w_goto ?_
        exfalso
        omega
      · skip
        refine w_pure rfl ?_
        refine w_goto ?_
        refine pz_G_of pz_b231_630 ?_
        refine w_loc (ls' := [some (.inr (.inl 1)), some (.inr (.inl 2)), some (.inr (.inl 154)), some (.inl (i)), some (.inl (v)), some (.inl (a)), some (.inl (b)), some (.inl (x)), some (.inl (1)), some (.inl (c_reason k a)), some (.inl (k 4))]) (st' := []) rfl ?_
        refine w_goto ?_
        exact K k2 d _ _ _ _ _ _ hI12 hd2 (by omega) (by omega) (by omega) (by omega) (by omega)
    · skip
      refine w_loc rfl ?_
      refine w_loc rfl ?_
      refine w_callO (t_S_now hI12) rfl (pz_cokI is_2 rfl) (fun iv17 dv18 cc19 ss20 hI21 hc22 hs23 => ?_)
      refine w_ine (fun h24 => ?_) (fun h24 => ?_)
      · skip
        refine pz_G_of pz_b231_616 ?_
        refine w_pure rfl ?_
        refine w_goto ?_
        refine pz_G_of pz_b231_630 ?_
        refine w_loc (ls' := [some (.inr (.inl 1)), some (.inr (.inl 2)), some (.inr (.inl 154)), some (.inl (i)), some (.inl (v)), some (.inl (a)), some (.inl (b)), some (.inl (x)), some (.inl (0)), some (.inl (c_reason k a)), some (.inl (k 4))]) (st' := []) rfl ?_
        refine w_goto ?_
        exfalso
        omega
      · skip
        refine w_loc rfl ?_
        refine w_loc rfl ?_
        refine w_callO (t_S_startedAt (e := a) hI21) rfl rfl (fun iv25 dv26 cc27 ss28 hI29 hc30 hs31 => ?_)
        refine w_loc rfl ?_
        refine w_ine (fun h32 => ?_) (fun h32 => ?_)
        · skip
          refine pz_G_of pz_b231_616 ?_
          refine w_pure rfl ?_
          refine w_goto ?_
          refine pz_G_of pz_b231_630 ?_
          refine w_loc (ls' := [some (.inr (.inl 1)), some (.inr (.inl 2)), some (.inr (.inl 154)), some (.inl (i)), some (.inl (v)), some (.inl (a)), some (.inl (b)), some (.inl (x)), some (.inl (0)), some (.inl (c_reason k a)), some (.inl (k 4))]) (st' := []) rfl ?_
          refine w_goto ?_
          exfalso
          omega
        · skip
          refine w_pure rfl ?_
          refine w_goto ?_
          refine pz_G_of pz_b231_630 ?_
          refine w_loc (ls' := [some (.inr (.inl 1)), some (.inr (.inl 2)), some (.inr (.inl 154)), some (.inl (i)), some (.inl (v)), some (.inl (a)), some (.inl (b)), some (.inl (x)), some (.inl (1)), some (.inl (c_reason k a)), some (.inl (k 4))]) (st' := []) rfl ?_
          refine w_goto ?_
          exact K k2 d _ _ _ _ _ _ hI29 hd2 (by omega) (by omega) (by omega) (by omega) (by omega)
  · skip
    rw [g3] at hI12
    refine w_loc (ls' := [some (.inr (.inl 1)), some (.inr (.inl 2)), some (.inr (.inl 154)), some (.inl (i)), some (.inl (v)), some (.inl (a)), some (.inl (b)), some (.inl (x)), some (.inl (1)), some (.inl (c_reason k a)), some (.inl (c_start k a))]) (st' := []) rfl ?_
    refine w_loc rfl ?_
    refine w_pure rfl ?_
    refine w_ine (fun h33 => ?_) (fun h33 => ?_)
    · skip
      refine pz_G_of pz_b231_620 ?_
      refine w_loc rfl ?_
      refine w_zge (fun h34 => ?_) (fun h34 => ?_)
      · skip
        refine pz_G_of pz_b231_629 ?_
        refine w_pure rfl ?_
        refine w_nil ?_
        refine pz_G_of pz_b231_630 ?_
        refine w_loc (ls' := [some (.inr (.inl 1)), some (.inr (.inl 2)), some (.inr (.inl 154)), some (.inl (i)), some (.inl (v)), some (.inl (a)), some (.inl (b)), some (.inl (x)), some (.inl (0)), some (.inl (c_reason k a)), some (.inl (c_start k a))]) (st' := []) rfl ?_
        refine w_goto ?_
        exfalso
        omega
      · skip
        refine w_pure rfl ?_
        refine w_goto ?_
        refine pz_G_of pz_b231_630 ?_
        refine w_loc (ls' := [some (.inr (.inl 1)), some (.inr (.inl 2)), some (.inr (.inl 154)), some (.inl (i)), some (.inl (v)), some (.inl (a)), some (.inl (b)), some (.inl (x)), some (.inl (1)), some (.inl (c_reason k a)), some (.inl (c_start k a))]) (st' := []) rfl ?_
        refine w_goto ?_
        exact K k d _ _ _ _ _ _ hI12 hd (by omega) (by omega) (by omega) (by omega) (by omega)
    · skip
      refine w_loc rfl ?_
      refine w_loc rfl ?_
      refine w_callO (t_S_now hI12) rfl (pz_cokI is_2 rfl) (fun iv35 dv36 cc37 ss38 hI39 hc40 hs41 => ?_)
      refine w_ine (fun h42 => ?_) (fun h42 => ?_)
      · skip
        refine pz_G_of pz_b231_616 ?_
        refine w_pure rfl ?_
        refine w_goto ?_
        refine pz_G_of pz_b231_630 ?_
        refine w_loc (ls' := [some (.inr (.inl 1)), some (.inr (.inl 2)), some (.inr (.inl 154)), some (.inl (i)), some (.inl (v)), some (.inl (a)), some (.inl (b)), some (.inl (x)), some (.inl (0)), some (.inl (c_reason k a)), some (.inl (c_start k a))]) (st' := []) rfl ?_
        refine w_goto ?_
        exfalso
        omega
      · skip
        refine w_loc rfl ?_
        refine w_loc rfl ?_
        refine w_callO (t_S_startedAt (e := a) hI39) rfl rfl (fun iv43 dv44 cc45 ss46 hI47 hc48 hs49 => ?_)
        refine w_loc rfl ?_
        refine w_ine (fun h50 => ?_) (fun h50 => ?_)
        · skip
          refine pz_G_of pz_b231_616 ?_
          refine w_pure rfl ?_
          refine w_goto ?_
          refine pz_G_of pz_b231_630 ?_
          refine w_loc (ls' := [some (.inr (.inl 1)), some (.inr (.inl 2)), some (.inr (.inl 154)), some (.inl (i)), some (.inl (v)), some (.inl (a)), some (.inl (b)), some (.inl (x)), some (.inl (0)), some (.inl (c_reason k a)), some (.inl (c_start k a))]) (st' := []) rfl ?_
          refine w_goto ?_
          exfalso
          omega
        · skip
          refine w_pure rfl ?_
          refine w_goto ?_
          refine pz_G_of pz_b231_630 ?_
          refine w_loc (ls' := [some (.inr (.inl 1)), some (.inr (.inl 2)), some (.inr (.inl 154)), some (.inl (i)), some (.inl (v)), some (.inl (a)), some (.inl (b)), some (.inl (x)), some (.inl (1)), some (.inl (c_reason k a)), some (.inl (c_start k a))]) (st' := []) rfl ?_
          refine w_goto ?_
          exact K k d _ _ _ _ _ _ hI47 hd (by omega) (by omega) (by omega) (by omega) (by omega)
theorem t_case_635 {L C S : Nat} {sc k d kf : Nat → Int} {i v a b x : Int} {Q : pz_Q} (hd : t_d k d) (h8 : k 0 ≤ 8) (hk1 : k 1 ≤ i) (hi : 0 ≤ i ∧ i ≤ 21) (h5 : k 5 = 9) (ha : 0 ≤ a ∧ a < k 0) (hb : 0 ≤ b ∧ b < k 0) (hx : 0 ≤ x ∧ x ≤ 600000) (K : ∀ (k2 d2 : Nat → Int) (x9 x10 : Option pz_V) (iv : Nat → Nat → Int) (dv : Nat → Nat → UInt64) (cc ss : Nat), t_I sc k2 d2 0 kf iv → t_d k2 d2 → k2 0 ≤ 8 → k2 1 ≤ i + 1 → k2 5 = 9 → cc ≤ C → ss ≤ S → pz_G 231 917 [some (.inr (.inl 1)), some (.inr (.inl 2)), some (.inr (.inl 154)), some (.inl (i)), some (.inl (v)), some (.inl (a)), some (.inl (b)), some (.inl (x)), some (.inl (1)), x9, x10] [] (pz_Sh L, iv, dv, cc, ss) Q) (x9 x10 : Option pz_V) (iv : Nat → Nat → Int) (dv : Nat → Nat → UInt64) (cc ss : Nat) (hI : t_I sc k d 0 kf iv) (hC : cc + 300 ≤ C) (hS : ss + 1800 ≤ S) : pz_G 231 635 [some (.inr (.inl 1)), some (.inr (.inl 2)), some (.inr (.inl 154)), some (.inl (i)), some (.inl (v)), some (.inl (a)), some (.inl (b)), some (.inl (x)), some (.inl (1)), x9, x10] [] (pz_Sh L, iv, dv, cc, ss) Q := by
  have hk := hI.2.1
  have h0 := hk.r0
  refine pz_G_of pz_b231_635 ?_
  refine w_loc rfl ?_
  refine w_pure rfl ?_
  refine w_iald is_154 ln_154 ⟨by omega, by omega⟩ (t_I_d2 hI hd) ?_
  refine w_zeq (fun h1 => ?_) (fun h1 => ?_)
  · skip
    refine pz_G_of pz_b231_656 ?_
    refine w_pure rfl ?_
    refine w_goto ?_
    refine pz_G_of pz_b231_661 ?_
    refine w_loc (ls' := [some (.inr (.inl 1)), some (.inr (.inl 2)), some (.inr (.inl 154)), some (.inl (i)), some (.inl (v)), some (.inl (a)), some (.inl (b)), some (.inl (x)), some (.inl (1)), x9, x10]) (st' := []) rfl ?_
    refine w_goto ?_
    exact K k d _ _ _ _ _ _ hI hd (by omega) (by omega) (by omega) (by omega) (by omega)
  · skip
    refine w_loc rfl ?_
    refine w_loc rfl ?_
    refine w_loc rfl ?_
    refine w_pure rfl ?_
    refine w_iald is_154 ln_154 ⟨by omega, by omega⟩ (t_I_d2 hI hd) ?_
    refine w_iremp ⟨by omega, by omega⟩ ?_
    refine w_callO (t_S_end (s := x % (k 2)) hI) rfl rfl (fun iv2 dv3 cc4 ss5 hI6 hc7 hs8 => ?_)
    have m1 := Int.emod_nonneg x (show k 2 ≠ 0 by omega)
    have m2 := Int.emod_lt_of_pos x (show 0 < k 2 by omega)
    have g := f_end hk (s := x % (k 2)) ⟨m1, m2⟩
    generalize k_end k (x % (k 2)) = k2 at hI6 g
    have a0 := g.2 0 (by omega)
    have a1 := g.2 1 (by omega)
    have a5 := g.2 5 (by omega)
    have g1 := g.1
    have hd2 : t_d k2 d := t_d_ag hk hd (fun j hj => g.2 j (by omega))
    refine w_ldcn ?_
    refine w_ieq (fun h9 => ?_) (fun h9 => ?_)
    · skip
      refine pz_G_of pz_b231_660 ?_
      refine w_pure rfl ?_
      refine w_nil ?_
      refine pz_G_of pz_b231_661 ?_
      refine w_loc (ls' := [some (.inr (.inl 1)), some (.inr (.inl 2)), some (.inr (.inl 154)), some (.inl (i)), some (.inl (v)), some (.inl (a)), some (.inl (b)), some (.inl (x)), some (.inl (0)), x9, x10]) (st' := []) rfl ?_
      refine w_goto ?_
      exfalso
      omega
    · skip
      refine w_nil ?_
      refine pz_G_of pz_b231_656 ?_
      refine w_pure rfl ?_
      refine w_goto ?_
      refine pz_G_of pz_b231_661 ?_
      refine w_loc (ls' := [some (.inr (.inl 1)), some (.inr (.inl 2)), some (.inr (.inl 154)), some (.inl (i)), some (.inl (v)), some (.inl (a)), some (.inl (b)), some (.inl (x)), some (.inl (1)), x9, x10]) (st' := []) rfl ?_
      refine w_goto ?_
      exact K k2 d _ _ _ _ _ _ hI6 hd2 (by omega) (by omega) (by omega) (by omega) (by omega)
theorem t_case_666 {L C S : Nat} {sc k d kf : Nat → Int} {i v a b x : Int} {Q : pz_Q} (hd : t_d k d) (h8 : k 0 ≤ 8) (hk1 : k 1 ≤ i) (hi : 0 ≤ i ∧ i ≤ 21) (h5 : k 5 = 9) (ha : 0 ≤ a ∧ a < k 0) (hb : 0 ≤ b ∧ b < k 0) (hx : 0 ≤ x ∧ x ≤ 600000) (K : ∀ (k2 d2 : Nat → Int) (x9 x10 : Option pz_V) (iv : Nat → Nat → Int) (dv : Nat → Nat → UInt64) (cc ss : Nat), t_I sc k2 d2 0 kf iv → t_d k2 d2 → k2 0 ≤ 8 → k2 1 ≤ i + 1 → k2 5 = 9 → cc ≤ C → ss ≤ S → pz_G 231 917 [some (.inr (.inl 1)), some (.inr (.inl 2)), some (.inr (.inl 154)), some (.inl (i)), some (.inl (v)), some (.inl (a)), some (.inl (b)), some (.inl (x)), some (.inl (1)), x9, x10] [] (pz_Sh L, iv, dv, cc, ss) Q) (x9 x10 : Option pz_V) (iv : Nat → Nat → Int) (dv : Nat → Nat → UInt64) (cc ss : Nat) (hI : t_I sc k d 0 kf iv) (hC : cc + 300 ≤ C) (hS : ss + 1800 ≤ S) : pz_G 231 666 [some (.inr (.inl 1)), some (.inr (.inl 2)), some (.inr (.inl 154)), some (.inl (i)), some (.inl (v)), some (.inl (a)), some (.inl (b)), some (.inl (x)), some (.inl (1)), x9, x10] [] (pz_Sh L, iv, dv, cc, ss) Q := by
  have hk := hI.2.1
  have h0 := hk.r0
  refine pz_G_of pz_b231_666 ?_
  refine w_loc rfl ?_
  refine w_pure rfl ?_
  refine w_loc rfl ?_
  refine w_pure rfl ?_
  refine w_iremp ⟨by omega, by omega⟩ ?_
  refine w_iadd ⟨by omega, by omega⟩ ?_
  refine w_callO (t_S_pass (m := 1 + x % 9) hI) rfl rfl (fun iv1 dv2 cc3 ss4 hI5 hc6 hs7 => ?_)
  have g := f_pass hk (m := 1 + x % 9) ⟨by omega, by omega⟩
  generalize k_pass k (1 + x % 9) = k2 at hI5 g
  have a0 := g.2 0 (by omega)
  have a1 := g.2 1 (by omega)
  have a5 := g.2 5 (by omega)
  have g1 := g.1
  have hd2 : t_d k2 d := t_d_ag hk hd (fun j hj => g.2 j (by omega))
  refine w_ldcn ?_
  refine w_ieq (fun h8 => ?_) (fun h8 => ?_)
  · skip
    refine pz_G_of pz_b231_686 ?_
    refine w_pure rfl ?_
    refine w_nil ?_
    refine pz_G_of pz_b231_687 ?_
    refine w_loc (ls' := [some (.inr (.inl 1)), some (.inr (.inl 2)), some (.inr (.inl 154)), some (.inl (i)), some (.inl (v)), some (.inl (a)), some (.inl (b)), some (.inl (x)), some (.inl (0)), x9, x10]) (st' := []) rfl ?_
    refine w_goto ?_
    exfalso
    omega
  · skip
    refine w_pure rfl ?_
    refine w_goto ?_
    refine pz_G_of pz_b231_687 ?_
    refine w_loc (ls' := [some (.inr (.inl 1)), some (.inr (.inl 2)), some (.inr (.inl 154)), some (.inl (i)), some (.inl (v)), some (.inl (a)), some (.inl (b)), some (.inl (x)), some (.inl (1)), x9, x10]) (st' := []) rfl ?_
    refine w_goto ?_
    exact K k2 d _ _ _ _ _ _ hI5 hd2 (by omega) (by omega) (by omega) (by omega) (by omega)
theorem t_case_692 {L C S : Nat} {sc k d kf : Nat → Int} {i v a b x : Int} {Q : pz_Q} (hd : t_d k d) (h8 : k 0 ≤ 8) (hk1 : k 1 ≤ i) (hi : 0 ≤ i ∧ i ≤ 21) (h5 : k 5 = 9) (ha : 0 ≤ a ∧ a < k 0) (hb : 0 ≤ b ∧ b < k 0) (hx : 0 ≤ x ∧ x ≤ 600000) (K : ∀ (k2 d2 : Nat → Int) (x9 x10 : Option pz_V) (iv : Nat → Nat → Int) (dv : Nat → Nat → UInt64) (cc ss : Nat), t_I sc k2 d2 0 kf iv → t_d k2 d2 → k2 0 ≤ 8 → k2 1 ≤ i + 1 → k2 5 = 9 → cc ≤ C → ss ≤ S → pz_G 231 917 [some (.inr (.inl 1)), some (.inr (.inl 2)), some (.inr (.inl 154)), some (.inl (i)), some (.inl (v)), some (.inl (a)), some (.inl (b)), some (.inl (x)), some (.inl (1)), x9, x10] [] (pz_Sh L, iv, dv, cc, ss) Q) (x9 x10 : Option pz_V) (iv : Nat → Nat → Int) (dv : Nat → Nat → UInt64) (cc ss : Nat) (hI : t_I sc k d 0 kf iv) (hC : cc + 300 ≤ C) (hS : ss + 1800 ≤ S) : pz_G 231 692 [some (.inr (.inl 1)), some (.inr (.inl 2)), some (.inr (.inl 154)), some (.inl (i)), some (.inl (v)), some (.inl (a)), some (.inl (b)), some (.inl (x)), some (.inl (1)), x9, x10] [] (pz_Sh L, iv, dv, cc, ss) Q := by
  have hk := hI.2.1
  have h0 := hk.r0
  refine pz_G_of pz_b231_692 ?_
  refine w_loc rfl ?_
  refine w_loc rfl ?_
  refine w_ine (fun h1 => ?_) (fun h1 => ?_)
  · skip
    refine pz_G_of pz_b231_721 ?_
    refine w_loc rfl ?_
    refine w_loc rfl ?_
    refine w_loc rfl ?_
    refine w_pure rfl ?_
    refine w_loc rfl ?_
    refine w_pure rfl ?_
    refine w_iremp ⟨by omega, by omega⟩ ?_
    refine w_iadd ⟨by omega, by omega⟩ ?_
    refine w_callO (t_S_addActivity (f := a) (t := b) (d9 := 1 + x % 9) hI) rfl rfl (fun iv2 dv3 cc4 ss5 hI6 hc7 hs8 => ?_)
    rcases f_addAct hk ha hb (w := 1 + x % 9) ⟨by omega, by omega⟩ with ⟨g1, g2, g3⟩ | ⟨g1, g4, g2, g3⟩ | ⟨g1, g4, g2, g3⟩
    · skip
      rw [g3] at hI6
      rw [g2]
      refine w_zge (fun h9 => absurd h9 (by omega)) (fun h9 => ?_)
      refine w_loc rfl ?_
      refine w_pure rfl ?_
      refine w_iald is_154 ln_154 ⟨by omega, by omega⟩ (t_I_d3 hI6 hd) ?_
      refine w_pure rfl ?_
      refine w_ine (fun h10 => ?_) (fun h10 => ?_)
      · skip
        refine pz_G_of pz_b231_750 ?_
        refine w_pure rfl ?_
        refine w_nil ?_
        refine pz_G_of pz_b231_751 ?_
        refine w_loc (ls' := [some (.inr (.inl 1)), some (.inr (.inl 2)), some (.inr (.inl 154)), some (.inl (i)), some (.inl (v)), some (.inl (a)), some (.inl (b)), some (.inl (x)), some (.inl (0)), x9, x10]) (st' := []) rfl ?_
        refine w_loc rfl ?_
        refine w_pure rfl ?_
        refine w_pure rfl ?_
        refine w_loc rfl ?_
        refine w_pure rfl ?_
        refine w_iald is_154 ln_154 ⟨by omega, by omega⟩ (t_I_d3 hI6 hd) ?_
        refine w_loc rfl ?_
        refine w_loc rfl ?_
        refine w_ine (fun h11 => ?_) (fun h11 => ?_)
        · skip
          refine pz_G_of pz_b231_770 ?_
          refine w_pure rfl ?_
          refine w_nil ?_
          refine pz_G_of pz_b231_771 ?_
          refine w_iadd ⟨by omega, by omega⟩ ?_
          refine w_call (s_J_min (5) (k 3 + 1)) rfl rfl ?_
          refine w_iastm is_154 ln_154 ⟨by omega, by omega⟩ (pz_u2_row _ _ _ _) ?_
          have hI12 := t_st_d hI6 (3 : Int).toNat (min 5 (k 3 + 1))
          refine w_goto ?_
          exfalso
          omega
        · skip
          refine w_pure rfl ?_
          refine w_goto ?_
          refine pz_G_of pz_b231_771 ?_
          refine w_iadd ⟨by omega, by omega⟩ ?_
          refine w_call (s_J_min (5) (k 3 + 0)) rfl rfl ?_
          refine w_iastm is_154 ln_154 ⟨by omega, by omega⟩ (pz_u2_row _ _ _ _) ?_
          have hI13 := t_st_d hI6 (3 : Int).toNat (min 5 (k 3 + 0))
          refine w_goto ?_
          exfalso
          omega
      · skip
        refine w_nil ?_
        refine pz_G_of pz_b231_746 ?_
        refine w_pure rfl ?_
        refine w_goto ?_
        refine pz_G_of pz_b231_751 ?_
        refine w_loc (ls' := [some (.inr (.inl 1)), some (.inr (.inl 2)), some (.inr (.inl 154)), some (.inl (i)), some (.inl (v)), some (.inl (a)), some (.inl (b)), some (.inl (x)), some (.inl (1)), x9, x10]) (st' := []) rfl ?_
        refine w_loc rfl ?_
        refine w_pure rfl ?_
        refine w_pure rfl ?_
        refine w_loc rfl ?_
        refine w_pure rfl ?_
        refine w_iald is_154 ln_154 ⟨by omega, by omega⟩ (t_I_d3 hI6 hd) ?_
        refine w_loc rfl ?_
        refine w_loc rfl ?_
        refine w_ine (fun h14 => ?_) (fun h14 => ?_)
        · skip
          refine pz_G_of pz_b231_770 ?_
          refine w_pure rfl ?_
          refine w_nil ?_
          refine pz_G_of pz_b231_771 ?_
          refine w_iadd ⟨by omega, by omega⟩ ?_
          refine w_call (s_J_min (5) (k 3 + 1)) rfl rfl ?_
          refine w_iastm is_154 ln_154 ⟨by omega, by omega⟩ (pz_u2_row _ _ _ _) ?_
          have hI15 := t_st_d hI6 (3 : Int).toNat (min 5 (k 3 + 1))
          refine w_goto ?_
          exact K k (pz_up d (3 : Int).toNat (min 5 (k 3 + 1))) _ _ _ _ _ _ hI15 (t_d_up3 hk hd (fun _ _ => rfl) (by omega)) (by omega) (by omega) (by omega) (by omega) (by omega)
        · skip
          refine w_pure rfl ?_
          refine w_goto ?_
          refine pz_G_of pz_b231_771 ?_
          refine w_iadd ⟨by omega, by omega⟩ ?_
          refine w_call (s_J_min (5) (k 3 + 0)) rfl rfl ?_
          refine w_iastm is_154 ln_154 ⟨by omega, by omega⟩ (pz_u2_row _ _ _ _) ?_
          have hI16 := t_st_d hI6 (3 : Int).toNat (min 5 (k 3 + 0))
          refine w_goto ?_
          exact K k (pz_up d (3 : Int).toNat (min 5 (k 3 + 0))) _ _ _ _ _ _ hI16 (t_d_up3 hk hd (fun _ _ => rfl) (by omega)) (by omega) (by omega) (by omega) (by omega) (by omega)
    · skip
      rw [g3] at hI6
      rw [g2]
      refine w_zge (fun h17 => absurd h17 (by omega)) (fun h17 => ?_)
      refine w_loc rfl ?_
      refine w_pure rfl ?_
      refine w_iald is_154 ln_154 ⟨by omega, by omega⟩ (t_I_d3 hI6 hd) ?_
      refine w_pure rfl ?_
      refine w_ine (fun h18 => ?_) (fun h18 => ?_)
      · skip
        refine pz_G_of pz_b231_750 ?_
        refine w_pure rfl ?_
        refine w_nil ?_
        refine pz_G_of pz_b231_751 ?_
        refine w_loc (ls' := [some (.inr (.inl 1)), some (.inr (.inl 2)), some (.inr (.inl 154)), some (.inl (i)), some (.inl (v)), some (.inl (a)), some (.inl (b)), some (.inl (x)), some (.inl (0)), x9, x10]) (st' := []) rfl ?_
        refine w_loc rfl ?_
        refine w_pure rfl ?_
        refine w_pure rfl ?_
        refine w_loc rfl ?_
        refine w_pure rfl ?_
        refine w_iald is_154 ln_154 ⟨by omega, by omega⟩ (t_I_d3 hI6 hd) ?_
        refine w_loc rfl ?_
        refine w_loc rfl ?_
        refine w_ine (fun h19 => ?_) (fun h19 => ?_)
        · skip
          refine pz_G_of pz_b231_770 ?_
          refine w_pure rfl ?_
          refine w_nil ?_
          refine pz_G_of pz_b231_771 ?_
          refine w_iadd ⟨by omega, by omega⟩ ?_
          refine w_call (s_J_min (5) (k 3 + 1)) rfl rfl ?_
          refine w_iastm is_154 ln_154 ⟨by omega, by omega⟩ (pz_u2_row _ _ _ _) ?_
          have hI20 := t_st_d hI6 (3 : Int).toNat (min 5 (k 3 + 1))
          refine w_goto ?_
          exfalso
          omega
        · skip
          refine w_pure rfl ?_
          refine w_goto ?_
          refine pz_G_of pz_b231_771 ?_
          refine w_iadd ⟨by omega, by omega⟩ ?_
          refine w_call (s_J_min (5) (k 3 + 0)) rfl rfl ?_
          refine w_iastm is_154 ln_154 ⟨by omega, by omega⟩ (pz_u2_row _ _ _ _) ?_
          have hI21 := t_st_d hI6 (3 : Int).toNat (min 5 (k 3 + 0))
          refine w_goto ?_
          exfalso
          omega
      · skip
        refine w_nil ?_
        refine pz_G_of pz_b231_746 ?_
        refine w_pure rfl ?_
        refine w_goto ?_
        refine pz_G_of pz_b231_751 ?_
        refine w_loc (ls' := [some (.inr (.inl 1)), some (.inr (.inl 2)), some (.inr (.inl 154)), some (.inl (i)), some (.inl (v)), some (.inl (a)), some (.inl (b)), some (.inl (x)), some (.inl (1)), x9, x10]) (st' := []) rfl ?_
        refine w_loc rfl ?_
        refine w_pure rfl ?_
        refine w_pure rfl ?_
        refine w_loc rfl ?_
        refine w_pure rfl ?_
        refine w_iald is_154 ln_154 ⟨by omega, by omega⟩ (t_I_d3 hI6 hd) ?_
        refine w_loc rfl ?_
        refine w_loc rfl ?_
        refine w_ine (fun h22 => ?_) (fun h22 => ?_)
        · skip
          refine pz_G_of pz_b231_770 ?_
          refine w_pure rfl ?_
          refine w_nil ?_
          refine pz_G_of pz_b231_771 ?_
          refine w_iadd ⟨by omega, by omega⟩ ?_
          refine w_call (s_J_min (5) (k 3 + 1)) rfl rfl ?_
          refine w_iastm is_154 ln_154 ⟨by omega, by omega⟩ (pz_u2_row _ _ _ _) ?_
          have hI23 := t_st_d hI6 (3 : Int).toNat (min 5 (k 3 + 1))
          refine w_goto ?_
          exact K k (pz_up d (3 : Int).toNat (min 5 (k 3 + 1))) _ _ _ _ _ _ hI23 (t_d_up3 hk hd (fun _ _ => rfl) (by omega)) (by omega) (by omega) (by omega) (by omega) (by omega)
        · skip
          refine w_pure rfl ?_
          refine w_goto ?_
          refine pz_G_of pz_b231_771 ?_
          refine w_iadd ⟨by omega, by omega⟩ ?_
          refine w_call (s_J_min (5) (k 3 + 0)) rfl rfl ?_
          refine w_iastm is_154 ln_154 ⟨by omega, by omega⟩ (pz_u2_row _ _ _ _) ?_
          have hI24 := t_st_d hI6 (3 : Int).toNat (min 5 (k 3 + 0))
          refine w_goto ?_
          exact K k (pz_up d (3 : Int).toNat (min 5 (k 3 + 0))) _ _ _ _ _ _ hI24 (t_d_up3 hk hd (fun _ _ => rfl) (by omega)) (by omega) (by omega) (by omega) (by omega) (by omega)
    · skip
      rw [g3] at hI6
      rw [g2]
      have ag : ∀ j : Nat, j ≠ 3 ∧ ¬ (224 ≤ j ∧ j < 239) → q_addac k a b (1 + x % 9) j = k j := fun j hj => t_addac_ne (by omega) hj
      have a3 : q_addac k a b (1 + x % 9) 3 = k 3 + 1 := pz_up_eq
      generalize q_addac k a b (1 + x % 9) = k2 at hI6 ag a3
      have a0 := ag 0 (by omega)
      have a1 := ag 1 (by omega)
      have a5 := ag 5 (by omega)
      refine w_zge (fun h25 => ?_) (fun h25 => ?_)
      · skip
        refine pz_G_of pz_b231_746 ?_
        refine w_pure rfl ?_
        refine w_goto ?_
        refine pz_G_of pz_b231_751 ?_
        refine w_loc (ls' := [some (.inr (.inl 1)), some (.inr (.inl 2)), some (.inr (.inl 154)), some (.inl (i)), some (.inl (v)), some (.inl (a)), some (.inl (b)), some (.inl (x)), some (.inl (1)), x9, x10]) (st' := []) rfl ?_
        refine w_loc rfl ?_
        refine w_pure rfl ?_
        refine w_pure rfl ?_
        refine w_loc rfl ?_
        refine w_pure rfl ?_
        refine w_iald is_154 ln_154 ⟨by omega, by omega⟩ (t_I_d3 hI6 hd) ?_
        refine w_loc rfl ?_
        refine w_loc rfl ?_
        refine w_ine (fun h26 => ?_) (fun h26 => ?_)
        · skip
          refine pz_G_of pz_b231_770 ?_
          refine w_pure rfl ?_
          refine w_nil ?_
          refine pz_G_of pz_b231_771 ?_
          refine w_iadd ⟨by omega, by omega⟩ ?_
          refine w_call (s_J_min (5) (k 3 + 1)) rfl rfl ?_
          refine w_iastm is_154 ln_154 ⟨by omega, by omega⟩ (pz_u2_row _ _ _ _) ?_
          have hI27 := t_st_d hI6 (3 : Int).toNat (min 5 (k 3 + 1))
          refine w_goto ?_
          exact K k2 (pz_up d (3 : Int).toNat (min 5 (k 3 + 1))) _ _ _ _ _ _ hI27 (t_d_up3 hk hd (fun j hj => ag j (by omega)) (by omega)) (by omega) (by omega) (by omega) (by omega) (by omega)
        · skip
          refine w_pure rfl ?_
          refine w_goto ?_
          refine pz_G_of pz_b231_771 ?_
          refine w_iadd ⟨by omega, by omega⟩ ?_
          refine w_call (s_J_min (5) (k 3 + 0)) rfl rfl ?_
          refine w_iastm is_154 ln_154 ⟨by omega, by omega⟩ (pz_u2_row _ _ _ _) ?_
          have hI28 := t_st_d hI6 (3 : Int).toNat (min 5 (k 3 + 0))
          refine w_goto ?_
          exact K k2 (pz_up d (3 : Int).toNat (min 5 (k 3 + 0))) _ _ _ _ _ _ hI28 (t_d_up3 hk hd (fun j hj => ag j (by omega)) (by omega)) (by omega) (by omega) (by omega) (by omega) (by omega)
      · skip
        refine w_loc rfl ?_
        refine w_pure rfl ?_
        refine w_iald is_154 ln_154 ⟨by omega, by omega⟩ (t_I_d3 hI6 hd) ?_
        refine w_pure rfl ?_
        refine w_ine (fun h29 => ?_) (fun h29 => ?_)
        · skip
          refine pz_G_of pz_b231_750 ?_
          refine w_pure rfl ?_
          refine w_nil ?_
          refine pz_G_of pz_b231_751 ?_
          refine w_loc (ls' := [some (.inr (.inl 1)), some (.inr (.inl 2)), some (.inr (.inl 154)), some (.inl (i)), some (.inl (v)), some (.inl (a)), some (.inl (b)), some (.inl (x)), some (.inl (0)), x9, x10]) (st' := []) rfl ?_
          refine w_loc rfl ?_
          refine w_pure rfl ?_
          refine w_pure rfl ?_
          refine w_loc rfl ?_
          refine w_pure rfl ?_
          refine w_iald is_154 ln_154 ⟨by omega, by omega⟩ (t_I_d3 hI6 hd) ?_
          refine w_loc rfl ?_
          refine w_loc rfl ?_
          refine w_ine (fun h30 => ?_) (fun h30 => ?_)
          · skip
            refine pz_G_of pz_b231_770 ?_
            refine w_pure rfl ?_
            refine w_nil ?_
            refine pz_G_of pz_b231_771 ?_
            refine w_iadd ⟨by omega, by omega⟩ ?_
            refine w_call (s_J_min (5) (k 3 + 1)) rfl rfl ?_
            refine w_iastm is_154 ln_154 ⟨by omega, by omega⟩ (pz_u2_row _ _ _ _) ?_
            have hI31 := t_st_d hI6 (3 : Int).toNat (min 5 (k 3 + 1))
            refine w_goto ?_
            exfalso
            omega
          · skip
            refine w_pure rfl ?_
            refine w_goto ?_
            refine pz_G_of pz_b231_771 ?_
            refine w_iadd ⟨by omega, by omega⟩ ?_
            refine w_call (s_J_min (5) (k 3 + 0)) rfl rfl ?_
            refine w_iastm is_154 ln_154 ⟨by omega, by omega⟩ (pz_u2_row _ _ _ _) ?_
            have hI32 := t_st_d hI6 (3 : Int).toNat (min 5 (k 3 + 0))
            refine w_goto ?_
            exfalso
            omega
        · skip
          refine w_nil ?_
          refine pz_G_of pz_b231_746 ?_
          refine w_pure rfl ?_
          refine w_goto ?_
          refine pz_G_of pz_b231_751 ?_
          refine w_loc (ls' := [some (.inr (.inl 1)), some (.inr (.inl 2)), some (.inr (.inl 154)), some (.inl (i)), some (.inl (v)), some (.inl (a)), some (.inl (b)), some (.inl (x)), some (.inl (1)), x9, x10]) (st' := []) rfl ?_
          refine w_loc rfl ?_
          refine w_pure rfl ?_
          refine w_pure rfl ?_
          refine w_loc rfl ?_
          refine w_pure rfl ?_
          refine w_iald is_154 ln_154 ⟨by omega, by omega⟩ (t_I_d3 hI6 hd) ?_
          refine w_loc rfl ?_
          refine w_loc rfl ?_
          refine w_ine (fun h33 => ?_) (fun h33 => ?_)
          · skip
            refine pz_G_of pz_b231_770 ?_
            refine w_pure rfl ?_
            refine w_nil ?_
            refine pz_G_of pz_b231_771 ?_
            refine w_iadd ⟨by omega, by omega⟩ ?_
            refine w_call (s_J_min (5) (k 3 + 1)) rfl rfl ?_
            refine w_iastm is_154 ln_154 ⟨by omega, by omega⟩ (pz_u2_row _ _ _ _) ?_
            have hI34 := t_st_d hI6 (3 : Int).toNat (min 5 (k 3 + 1))
            refine w_goto ?_
            exact K k2 (pz_up d (3 : Int).toNat (min 5 (k 3 + 1))) _ _ _ _ _ _ hI34 (t_d_up3 hk hd (fun j hj => ag j (by omega)) (by omega)) (by omega) (by omega) (by omega) (by omega) (by omega)
          · skip
            refine w_pure rfl ?_
            refine w_goto ?_
            refine pz_G_of pz_b231_771 ?_
            refine w_iadd ⟨by omega, by omega⟩ ?_
            refine w_call (s_J_min (5) (k 3 + 0)) rfl rfl ?_
            refine w_iastm is_154 ln_154 ⟨by omega, by omega⟩ (pz_u2_row _ _ _ _) ?_
            have hI35 := t_st_d hI6 (3 : Int).toNat (min 5 (k 3 + 0))
            refine w_goto ?_
            exact K k2 (pz_up d (3 : Int).toNat (min 5 (k 3 + 0))) _ _ _ _ _ _ hI35 (t_d_up3 hk hd (fun j hj => ag j (by omega)) (by omega)) (by omega) (by omega) (by omega) (by omega) (by omega)
  · skip
    refine w_loc rfl ?_
    refine w_loc rfl ?_
    refine w_loc rfl ?_
    refine w_pure rfl ?_
    refine w_callO (t_S_addActivity (f := a) (t := b) (d9 := 1) hI) rfl rfl (fun iv36 dv37 cc38 ss39 hI40 hc41 hs42 => ?_)
    rcases f_addAct hk ha hb (w := 1) ⟨by omega, by omega⟩ with ⟨g1, g2, g3⟩ | ⟨g1, g4, g2, g3⟩ | ⟨g1, g4, g2, g3⟩
    · skip
      rw [g3] at hI40
      rw [g2]
      refine w_ldcn ?_
      refine w_ine (fun h43 => absurd h43 (by omega)) (fun h43 => ?_)
      refine w_pure rfl ?_
      refine w_goto ?_
      refine pz_G_of pz_b231_751 ?_
      refine w_loc (ls' := [some (.inr (.inl 1)), some (.inr (.inl 2)), some (.inr (.inl 154)), some (.inl (i)), some (.inl (v)), some (.inl (a)), some (.inl (b)), some (.inl (x)), some (.inl (1)), x9, x10]) (st' := []) rfl ?_
      refine w_loc rfl ?_
      refine w_pure rfl ?_
      refine w_pure rfl ?_
      refine w_loc rfl ?_
      refine w_pure rfl ?_
      refine w_iald is_154 ln_154 ⟨by omega, by omega⟩ (t_I_d3 hI40 hd) ?_
      refine w_loc rfl ?_
      refine w_loc rfl ?_
      refine w_ine (fun h44 => ?_) (fun h44 => ?_)
      · skip
        refine pz_G_of pz_b231_770 ?_
        refine w_pure rfl ?_
        refine w_nil ?_
        refine pz_G_of pz_b231_771 ?_
        refine w_iadd ⟨by omega, by omega⟩ ?_
        refine w_call (s_J_min (5) (k 3 + 1)) rfl rfl ?_
        refine w_iastm is_154 ln_154 ⟨by omega, by omega⟩ (pz_u2_row _ _ _ _) ?_
        have hI45 := t_st_d hI40 (3 : Int).toNat (min 5 (k 3 + 1))
        refine w_goto ?_
        exact K k (pz_up d (3 : Int).toNat (min 5 (k 3 + 1))) _ _ _ _ _ _ hI45 (t_d_up3 hk hd (fun _ _ => rfl) (by omega)) (by omega) (by omega) (by omega) (by omega) (by omega)
      · skip
        refine w_pure rfl ?_
        refine w_goto ?_
        refine pz_G_of pz_b231_771 ?_
        refine w_iadd ⟨by omega, by omega⟩ ?_
        refine w_call (s_J_min (5) (k 3 + 0)) rfl rfl ?_
        refine w_iastm is_154 ln_154 ⟨by omega, by omega⟩ (pz_u2_row _ _ _ _) ?_
        have hI46 := t_st_d hI40 (3 : Int).toNat (min 5 (k 3 + 0))
        refine w_goto ?_
        exact K k (pz_up d (3 : Int).toNat (min 5 (k 3 + 0))) _ _ _ _ _ _ hI46 (t_d_up3 hk hd (fun _ _ => rfl) (by omega)) (by omega) (by omega) (by omega) (by omega) (by omega)
    · skip
      rw [g3] at hI40
      rw [g2]
      refine w_ldcn ?_
      refine w_ine (fun h47 => ?_) (fun h47 => absurd h47 (by omega))
      refine pz_G_of pz_b231_717 ?_
      refine w_pure rfl ?_
      refine w_goto ?_
      refine pz_G_of pz_b231_751 ?_
      refine w_loc (ls' := [some (.inr (.inl 1)), some (.inr (.inl 2)), some (.inr (.inl 154)), some (.inl (i)), some (.inl (v)), some (.inl (a)), some (.inl (b)), some (.inl (x)), some (.inl (0)), x9, x10]) (st' := []) rfl ?_
      refine w_loc rfl ?_
      refine w_pure rfl ?_
      refine w_pure rfl ?_
      refine w_loc rfl ?_
      refine w_pure rfl ?_
      refine w_iald is_154 ln_154 ⟨by omega, by omega⟩ (t_I_d3 hI40 hd) ?_
      refine w_loc rfl ?_
      refine w_loc rfl ?_
      refine w_ine (fun h48 => ?_) (fun h48 => ?_)
      · skip
        refine pz_G_of pz_b231_770 ?_
        refine w_pure rfl ?_
        refine w_nil ?_
        refine pz_G_of pz_b231_771 ?_
        refine w_iadd ⟨by omega, by omega⟩ ?_
        refine w_call (s_J_min (5) (k 3 + 1)) rfl rfl ?_
        refine w_iastm is_154 ln_154 ⟨by omega, by omega⟩ (pz_u2_row _ _ _ _) ?_
        have hI49 := t_st_d hI40 (3 : Int).toNat (min 5 (k 3 + 1))
        refine w_goto ?_
        exfalso
        omega
      · skip
        refine w_pure rfl ?_
        refine w_goto ?_
        refine pz_G_of pz_b231_771 ?_
        refine w_iadd ⟨by omega, by omega⟩ ?_
        refine w_call (s_J_min (5) (k 3 + 0)) rfl rfl ?_
        refine w_iastm is_154 ln_154 ⟨by omega, by omega⟩ (pz_u2_row _ _ _ _) ?_
        have hI50 := t_st_d hI40 (3 : Int).toNat (min 5 (k 3 + 0))
        refine w_goto ?_
        exfalso
        omega
    · skip
      rw [g3] at hI40
      rw [g2]
      have ag : ∀ j : Nat, j ≠ 3 ∧ ¬ (224 ≤ j ∧ j < 239) → q_addac k a b (1) j = k j := fun j hj => t_addac_ne (by omega) hj
      have a3 : q_addac k a b (1) 3 = k 3 + 1 := pz_up_eq
      generalize q_addac k a b (1) = k2 at hI40 ag a3
      have a0 := ag 0 (by omega)
      have a1 := ag 1 (by omega)
      have a5 := ag 5 (by omega)
      refine w_ldcn ?_
      refine w_ine (fun h51 => ?_) (fun h51 => ?_)
      · skip
        refine pz_G_of pz_b231_717 ?_
        refine w_pure rfl ?_
        refine w_goto ?_
        refine pz_G_of pz_b231_751 ?_
        refine w_loc (ls' := [some (.inr (.inl 1)), some (.inr (.inl 2)), some (.inr (.inl 154)), some (.inl (i)), some (.inl (v)), some (.inl (a)), some (.inl (b)), some (.inl (x)), some (.inl (0)), x9, x10]) (st' := []) rfl ?_
        refine w_loc rfl ?_
        refine w_pure rfl ?_
        refine w_pure rfl ?_
        refine w_loc rfl ?_
        refine w_pure rfl ?_
        refine w_iald is_154 ln_154 ⟨by omega, by omega⟩ (t_I_d3 hI40 hd) ?_
        refine w_loc rfl ?_
        refine w_loc rfl ?_
        refine w_ine (fun h52 => ?_) (fun h52 => ?_)
        · skip
          refine pz_G_of pz_b231_770 ?_
          refine w_pure rfl ?_
          refine w_nil ?_
          refine pz_G_of pz_b231_771 ?_
          refine w_iadd ⟨by omega, by omega⟩ ?_
          refine w_call (s_J_min (5) (k 3 + 1)) rfl rfl ?_
          refine w_iastm is_154 ln_154 ⟨by omega, by omega⟩ (pz_u2_row _ _ _ _) ?_
          have hI53 := t_st_d hI40 (3 : Int).toNat (min 5 (k 3 + 1))
          refine w_goto ?_
          exfalso
          omega
        · skip
          refine w_pure rfl ?_
          refine w_goto ?_
          refine pz_G_of pz_b231_771 ?_
          refine w_iadd ⟨by omega, by omega⟩ ?_
          refine w_call (s_J_min (5) (k 3 + 0)) rfl rfl ?_
          refine w_iastm is_154 ln_154 ⟨by omega, by omega⟩ (pz_u2_row _ _ _ _) ?_
          have hI54 := t_st_d hI40 (3 : Int).toNat (min 5 (k 3 + 0))
          refine w_goto ?_
          exfalso
          omega
      · skip
        refine w_pure rfl ?_
        refine w_goto ?_
        refine pz_G_of pz_b231_751 ?_
        refine w_loc (ls' := [some (.inr (.inl 1)), some (.inr (.inl 2)), some (.inr (.inl 154)), some (.inl (i)), some (.inl (v)), some (.inl (a)), some (.inl (b)), some (.inl (x)), some (.inl (1)), x9, x10]) (st' := []) rfl ?_
        refine w_loc rfl ?_
        refine w_pure rfl ?_
        refine w_pure rfl ?_
        refine w_loc rfl ?_
        refine w_pure rfl ?_
        refine w_iald is_154 ln_154 ⟨by omega, by omega⟩ (t_I_d3 hI40 hd) ?_
        refine w_loc rfl ?_
        refine w_loc rfl ?_
        refine w_ine (fun h55 => ?_) (fun h55 => ?_)
        · skip
          refine pz_G_of pz_b231_770 ?_
          refine w_pure rfl ?_
          refine w_nil ?_
          refine pz_G_of pz_b231_771 ?_
          refine w_iadd ⟨by omega, by omega⟩ ?_
          refine w_call (s_J_min (5) (k 3 + 1)) rfl rfl ?_
          refine w_iastm is_154 ln_154 ⟨by omega, by omega⟩ (pz_u2_row _ _ _ _) ?_
          have hI56 := t_st_d hI40 (3 : Int).toNat (min 5 (k 3 + 1))
          refine w_goto ?_
          exact K k2 (pz_up d (3 : Int).toNat (min 5 (k 3 + 1))) _ _ _ _ _ _ hI56 (t_d_up3 hk hd (fun j hj => ag j (by omega)) (by omega)) (by omega) (by omega) (by omega) (by omega) (by omega)
        · skip
          refine w_pure rfl ?_
          refine w_goto ?_
          refine pz_G_of pz_b231_771 ?_
          refine w_iadd ⟨by omega, by omega⟩ ?_
          refine w_call (s_J_min (5) (k 3 + 0)) rfl rfl ?_
          refine w_iastm is_154 ln_154 ⟨by omega, by omega⟩ (pz_u2_row _ _ _ _) ?_
          have hI57 := t_st_d hI40 (3 : Int).toNat (min 5 (k 3 + 0))
          refine w_goto ?_
          exact K k2 (pz_up d (3 : Int).toNat (min 5 (k 3 + 0))) _ _ _ _ _ _ hI57 (t_d_up3 hk hd (fun j hj => ag j (by omega)) (by omega)) (by omega) (by omega) (by omega) (by omega) (by omega)
theorem t_case_779 {L C S : Nat} {sc k d kf : Nat → Int} {i v a b x : Int} {Q : pz_Q} (hd : t_d k d) (h8 : k 0 ≤ 8) (hk1 : k 1 ≤ i) (hi : 0 ≤ i ∧ i ≤ 21) (h5 : k 5 = 9) (ha : 0 ≤ a ∧ a < k 0) (hb : 0 ≤ b ∧ b < k 0) (hx : 0 ≤ x ∧ x ≤ 600000) (K : ∀ (k2 d2 : Nat → Int) (x9 x10 : Option pz_V) (iv : Nat → Nat → Int) (dv : Nat → Nat → UInt64) (cc ss : Nat), t_I sc k2 d2 0 kf iv → t_d k2 d2 → k2 0 ≤ 8 → k2 1 ≤ i + 1 → k2 5 = 9 → cc ≤ C → ss ≤ S → pz_G 231 917 [some (.inr (.inl 1)), some (.inr (.inl 2)), some (.inr (.inl 154)), some (.inl (i)), some (.inl (v)), some (.inl (a)), some (.inl (b)), some (.inl (x)), some (.inl (1)), x9, x10] [] (pz_Sh L, iv, dv, cc, ss) Q) (x9 x10 : Option pz_V) (iv : Nat → Nat → Int) (dv : Nat → Nat → UInt64) (cc ss : Nat) (hI : t_I sc k d 0 kf iv) (hC : cc + 300 ≤ C) (hS : ss + 1800 ≤ S) : pz_G 231 779 [some (.inr (.inl 1)), some (.inr (.inl 2)), some (.inr (.inl 154)), some (.inl (i)), some (.inl (v)), some (.inl (a)), some (.inl (b)), some (.inl (x)), some (.inl (1)), x9, x10] [] (pz_Sh L, iv, dv, cc, ss) Q := by
  have hk := hI.2.1
  have h0 := hk.r0
  refine pz_G_of pz_b231_779 ?_
  refine w_loc rfl ?_
  refine w_loc rfl ?_
  refine w_loc rfl ?_
  refine w_pure rfl ?_
  refine w_iremp ⟨by omega, by omega⟩ ?_
  refine w_loc rfl ?_
  refine w_pure rfl ?_
  refine w_idivp ⟨by omega, by omega, by omega⟩ ?_
  refine w_pure rfl ?_
  refine w_iremp ⟨by omega, by omega⟩ ?_
  refine w_loc rfl ?_
  refine w_pure rfl ?_
  refine w_idivp ⟨by omega, by omega, by omega⟩ ?_
  refine w_pure rfl ?_
  refine w_iremp ⟨by omega, by omega⟩ ?_
  refine w_callO (t_S_setCost (e := a) (d9 := x % 100) (y := (x / 128) % 9) (z := (x / 2048) % 9) hI) rfl rfl (fun iv1 dv2 cc3 ss4 hI5 hc6 hs7 => ?_)
  have g := f_setCost hk ha (d := x % 100) (y := (x / 128) % 9) (z := (x / 2048) % 9) ⟨by omega, by omega⟩ ⟨by omega, by omega⟩ ⟨by omega, by omega⟩
  generalize k_setCost k a (x % 100) ((x / 128) % 9) ((x / 2048) % 9) = k2 at hI5 g
  have a0 := g.2 0 (by omega)
  have a1 := g.2 1 (by omega)
  have a5 := g.2 5 (by omega)
  have g1 := g.1
  have hd2 : t_d k2 d := t_d_ag hk hd (fun j hj => g.2 j (by omega))
  refine w_pure rfl ?_
  refine w_ilt (fun h8 => ?_) (fun h8 => ?_)
  · skip
    refine pz_G_of pz_b231_816 ?_
    refine w_pure rfl ?_
    refine w_nil ?_
    refine pz_G_of pz_b231_817 ?_
    refine w_loc (ls' := [some (.inr (.inl 1)), some (.inr (.inl 2)), some (.inr (.inl 154)), some (.inl (i)), some (.inl (v)), some (.inl (a)), some (.inl (b)), some (.inl (x)), some (.inl (0)), x9, x10]) (st' := []) rfl ?_
    refine w_goto ?_
    exfalso
    omega
  · skip
    refine w_pure rfl ?_
    refine w_goto ?_
    refine pz_G_of pz_b231_817 ?_
    refine w_loc (ls' := [some (.inr (.inl 1)), some (.inr (.inl 2)), some (.inr (.inl 154)), some (.inl (i)), some (.inl (v)), some (.inl (a)), some (.inl (b)), some (.inl (x)), some (.inl (1)), x9, x10]) (st' := []) rfl ?_
    refine w_goto ?_
    exact K k2 d _ _ _ _ _ _ hI5 hd2 (by omega) (by omega) (by omega) (by omega) (by omega)
theorem t_case_822 {L C S : Nat} {sc k d kf : Nat → Int} {i v a b x : Int} {Q : pz_Q} (hd : t_d k d) (h8 : k 0 ≤ 8) (hk1 : k 1 ≤ i) (hi : 0 ≤ i ∧ i ≤ 21) (h5 : k 5 = 9) (ha : 0 ≤ a ∧ a < k 0) (hb : 0 ≤ b ∧ b < k 0) (hx : 0 ≤ x ∧ x ≤ 600000) (K : ∀ (k2 d2 : Nat → Int) (x9 x10 : Option pz_V) (iv : Nat → Nat → Int) (dv : Nat → Nat → UInt64) (cc ss : Nat), t_I sc k2 d2 0 kf iv → t_d k2 d2 → k2 0 ≤ 8 → k2 1 ≤ i + 1 → k2 5 = 9 → cc ≤ C → ss ≤ S → pz_G 231 917 [some (.inr (.inl 1)), some (.inr (.inl 2)), some (.inr (.inl 154)), some (.inl (i)), some (.inl (v)), some (.inl (a)), some (.inl (b)), some (.inl (x)), some (.inl (1)), x9, x10] [] (pz_Sh L, iv, dv, cc, ss) Q) (x9 x10 : Option pz_V) (iv : Nat → Nat → Int) (dv : Nat → Nat → UInt64) (cc ss : Nat) (hI : t_I sc k d 0 kf iv) (hC : cc + 300 ≤ C) (hS : ss + 1800 ≤ S) : pz_G 231 822 [some (.inr (.inl 1)), some (.inr (.inl 2)), some (.inr (.inl 154)), some (.inl (i)), some (.inl (v)), some (.inl (a)), some (.inl (b)), some (.inl (x)), some (.inl (1)), x9, x10] [] (pz_Sh L, iv, dv, cc, ss) Q := by
  have hk := hI.2.1
  have h0 := hk.r0
  refine pz_G_of pz_b231_822 ?_
  refine w_loc rfl ?_
  refine w_loc rfl ?_
  refine w_callO (t_L_digest hI) rfl rfl (fun iv1 dv2 cc3 ss4 hI5 hc6 hs7 => ?_)
  refine w_loc (ls' := [some (.inr (.inl 1)), some (.inr (.inl 2)), some (.inr (.inl 154)), some (.inl (i)), some (.inl (v)), some (.inl (a)), some (.inl (b)), some (.inl (x)), some (.inl (1)), some (.inr (.inr (.inl (t_dig k)))), none]) (st' := []) rfl ?_
  refine w_loc rfl ?_
  refine w_callO (t_S_open hI5) rfl rfl (fun iv8 dv9 cc10 ss11 hI12 hc13 hs14 => ?_)
  refine w_pure rfl ?_
  refine w_ieq (fun h15 => ?_) (fun h15 => absurd h15 (by omega))
  refine pz_G_of pz_b231_839 ?_
  refine w_loc rfl ?_
  refine w_pure rfl ?_
  refine w_loc rfl ?_
  refine w_pure rfl ?_
  refine w_iald is_154 ln_154 ⟨by omega, by omega⟩ (t_I_d0 hI12 hd) ?_
  refine w_pure rfl ?_
  refine w_isub ⟨by omega, by omega⟩ ?_
  refine w_pure rfl ?_
  refine w_pure rfl ?_
  refine w_callO (t_S_bound (f := 0) (t := k 0 - 1) (w := 3) (l := 0) hI12) rfl rfl (fun iv16 dv17 cc18 ss19 hI20 hc21 hs22 => ?_)
  generalize k_bound k 0 (k 0 - 1) 3 0 = kk23 at hI20
  generalize c_bound k 0 (k 0 - 1) 3 0 = cx24
  refine w_pure rfl ?_
  refine w_loc rfl ?_
  refine w_callO (t_S_choose hI20) rfl rfl (fun iv25 dv26 cc27 ss28 hI29 hc30 hs31 => ?_)
  generalize k_choose kk23 = kk32 at hI29
  generalize c_choose kk23 = cx33
  refine w_pure rfl ?_
  refine w_loc rfl ?_
  refine w_pure rfl ?_
  refine w_callO (t_S_pass (m := 1) hI29) rfl rfl (fun iv34 dv35 cc36 ss37 hI38 hc39 hs40 => ?_)
  generalize k_pass kk32 1 = kk41 at hI38
  generalize c_pass kk32 1 = cx42
  refine w_pure rfl ?_
  refine w_loc rfl ?_
  refine w_loc rfl ?_
  refine w_pure rfl ?_
  refine w_iald is_154 ln_154 ⟨by omega, by omega⟩ (t_I_d0 hI38 hd) ?_
  refine w_pure rfl ?_
  refine w_isub ⟨by omega, by omega⟩ ?_
  refine w_callO (t_S_start (e := k 0 - 1) hI38) rfl rfl (fun iv43 dv44 cc45 ss46 hI47 hc48 hs49 => ?_)
  generalize k_start kk41 (k 0 - 1) = kk50 at hI47
  generalize c_start kk41 (k 0 - 1) = cx51
  refine w_pure rfl ?_
  refine w_loc rfl ?_
  refine w_callO (t_S_level hI47) rfl rfl (fun iv52 dv53 cc54 ss55 hI56 hc57 hs58 => ?_)
  generalize k_level kk50 = kk59 at hI56
  generalize c_level kk50 = cx60
  refine w_pure rfl ?_
  refine w_loc rfl ?_
  refine w_callO (t_S_addEvent hI56) rfl rfl (fun iv61 dv62 cc63 ss64 hI65 hc66 hs67 => ?_)
  generalize k_addEvent kk59 = kk68 at hI65
  generalize c_addEvent kk59 = cx69
  refine w_pure rfl ?_
  refine w_loc rfl ?_
  refine w_callO (t_S_takeBack1 (kx := kf) hI65) rfl rfl (fun iv70 dv71 cc72 ss73 hI74 hc75 hs76 => ?_)
  refine w_zne (fun h77 => absurd h77 (by omega)) (fun h77 => ?_)
  refine w_loc rfl ?_
  refine w_callO (t_S_takeBack0 hI74) rfl rfl (fun iv78 dv79 cc80 ss81 hI82 hc83 hs84 => ?_)
  refine w_ldcn ?_
  refine w_ine (fun h85 => absurd h85 (by omega)) (fun h85 => ?_)
  refine w_loc rfl ?_
  refine w_loc rfl ?_
  refine w_callO (t_L_digest hI82) rfl rfl (fun iv86 dv87 cc88 ss89 hI90 hc91 hs92 => ?_)
  refine w_loc rfl ?_
  refine w_lcmp0 rfl ?_
  refine w_zne (fun h93 => absurd h93 (by omega)) (fun h93 => ?_)
  refine w_pure rfl ?_
  refine w_goto ?_
  refine pz_G_of pz_b231_915 ?_
  refine w_loc (ls' := [some (.inr (.inl 1)), some (.inr (.inl 2)), some (.inr (.inl 154)), some (.inl (i)), some (.inl (v)), some (.inl (a)), some (.inl (b)), some (.inl (x)), some (.inl (1)), some (.inr (.inr (.inl (t_dig k)))), none]) (st' := []) rfl ?_
  refine w_nil ?_
  exact K k d _ _ _ _ _ _ hI90 hd (by omega) (by omega) (by omega) (by omega) (by omega)
