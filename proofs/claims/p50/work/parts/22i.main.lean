/-! the law as a whole -/
theorem t_rest {L C S : Nat} {sc k d kf : Nat → Int} {i v a b x : Int} {Q : pz_Q} (hd : t_d k d) (h8 : k 0 ≤ 8) (h5 : k 5 = 9) (hi : 0 ≤ i ∧ i ≤ 21) (x9 x10 : Option pz_V) (K : ∀ (k2 : Nat → Int) (iv : Nat → Nat → Int) (dv : Nat → Nat → UInt64) (cc ss : Nat), t_I sc k2 d 0 kf iv → t_d k2 d → k2 0 ≤ 8 → k2 1 = k 1 → k2 5 = 9 → cc ≤ C → ss ≤ S → pz_G 231 58 [some (.inr (.inl 1)), some (.inr (.inl 2)), some (.inr (.inl 154)), some (.inl (i + 1)), some (.inl (v)), some (.inl (a)), some (.inl (b)), some (.inl (x)), some (.inl (1)), x9, x10] [] (pz_Sh L, iv, dv, cc, ss) Q) (iv : Nat → Nat → Int) (dv : Nat → Nat → UInt64) (cc ss : Nat) (hI : t_I sc k d 0 kf iv) (hC : cc + 7300 ≤ C) (hS : ss + 43800 ≤ S) : pz_G 231 917 [some (.inr (.inl 1)), some (.inr (.inl 2)), some (.inr (.inl 154)), some (.inl (i)), some (.inl (v)), some (.inl (a)), some (.inl (b)), some (.inl (x)), some (.inl (1)), x9, x10] [] (pz_Sh L, iv, dv, cc, ss) Q := by
  have hk := hI.2.1
  have h0 := hk.r0
  refine pz_G_of pz_b231_917 ?_
  refine w_loc rfl ?_
  refine w_zeq (fun h1 => absurd h1 (by omega)) (fun h1 => ?_)
  refine w_loc rfl ?_
  refine w_loc rfl ?_
  refine w_callO (t_L_net hI hd) rfl rfl (fun iv2 dv3 cc4 ss5 hI6 hc7 hs8 => ?_)
  refine w_zeq (fun h9 => absurd h9 (by omega)) (fun h9 => ?_)
  refine w_loc rfl ?_
  refine w_loc rfl ?_
  refine w_callO (t_L_control hI6 hd (by omega)) rfl rfl (fun iv10 dv11 cc12 ss13 hI14 hc15 hs16 => ?_)
  refine w_zeq (fun h17 => absurd h17 (by omega)) (fun h17 => ?_)
  refine w_loc rfl ?_
  refine w_loc rfl ?_
  refine w_callO (t_L_plays hI14 hd) rfl rfl (fun iv18 dv19 cc20 ss21 hI22 hc23 hs24 => ?_)
  obtain ⟨k9, hW9, hI9⟩ := hI22
  have hd9 : t_d k9 d := t_d_ag hI14.2.1 hd (fun j hj => hW9 j (by omega))
  have z0 := hW9 0 (by omega)
  have z1 := hW9 1 (by omega)
  have z5 := hW9 5 (by omega)
  refine w_zeq (fun h25 => absurd h25 (by omega)) (fun h25 => ?_)
  refine w_loc rfl ?_
  refine w_loc rfl ?_
  refine w_callO (t_L_resource hI9 hd9 (by omega)) rfl rfl (fun iv26 dv27 cc28 ss29 hI30 hc31 hs32 => ?_)
  refine w_zne (fun h33 => ?_) (fun h33 => absurd h33 (by omega))
  refine pz_G_of pz_b231_956 ?_
  refine w_iinc rfl rfl (ls' := [some (.inr (.inl 1)), some (.inr (.inl 2)), some (.inr (.inl 154)), some (.inl (i + 1)), some (.inl (v)), some (.inl (a)), some (.inl (b)), some (.inl (x)), some (.inl (1)), x9, x10]) rfl ⟨by omega, by omega⟩ ?_
  refine w_goto ?_
  exact K k9 _ _ _ _ hI30 hd9 (by omega) z1 (by omega) (by omega) (by omega)
theorem t_main {L C S : Nat} {sc kf : Nat → Int} : ∀ (m9 : Nat) (i : Int) (k d : Nat → Int) (x4 x5 x6 x7 x8 x9 x10 : Option pz_V) (iv : Nat → Nat → Int) (dv : Nat → Nat → UInt64) (cc ss : Nat), 0 ≤ i → i ≤ 22 → 22 - i < m9 → t_I sc k d 0 kf iv → t_d k d → k 0 ≤ 8 → k 1 ≤ i → k 5 = 9 → (cc : Int) + 7700 * (22 - i) ≤ C → (ss : Int) + 46200 * (22 - i) ≤ S → pz_G 231 58 [some (.inr (.inl 1)), some (.inr (.inl 2)), some (.inr (.inl 154)), some (.inl (i)), x4, x5, x6, x7, x8, x9, x10] [] (pz_Sh L, iv, dv, cc, ss) (fun o h' => o = .inl (some (.inl 1)) ∧ h'.2.2.2.1 ≤ C ∧ h'.2.2.2.2 ≤ S) := by
  intro m9
  induction m9 with
  | zero => intro i k d x4 x5 x6 x7 x8 x9 x10 iv dv cc ss l1 l2 l3; omega
  | succ m9 ih =>
    intro i k d x4 x5 x6 x7 x8 x9 x10 iv dv cc ss l1 l2 l3 hI hd h8 hk1 h5 l4 l5
    have hk := hI.2.1
    have h0 := hk.r0
    refine pz_G_of pz_b231_58 ?_
    refine w_loc rfl ?_
    refine w_pure rfl ?_
    refine w_ige (fun h1 => ?_) (fun h1 => ?_)
    · skip
      refine pz_G_of pz_b231_962 ?_
      refine w_pure rfl ?_
      refine w_ret rfl ?_
      exact ⟨rfl, by show cc ≤ C; omega, by show ss ≤ S; omega⟩
    · skip
      refine w_loc rfl ?_
      refine w_pure rfl ?_
      refine w_loc rfl ?_
      refine w_iadd ⟨by omega, by omega⟩ ?_
      obtain ⟨cv, hcv⟩ := t_cell (L := L) (iv := iv) (1 + i) ⟨by omega, by omega⟩
      refine w_call hcv rfl rfl ?_
      have cvr := f_us_r cv
      refine w_pure rfl ?_
      refine w_iushr1 ?_
      refine w_loc (ls' := [some (.inr (.inl 1)), some (.inr (.inl 2)), some (.inr (.inl 154)), some (.inl (i)), some (.inl (f_us cv)), x5, x6, x7, x8, x9, x10]) (st' := []) rfl ?_
      refine w_loc rfl ?_
      refine w_pure rfl ?_
      refine w_idivp ⟨by omega, by omega, by omega⟩ ?_
      refine w_loc rfl ?_
      refine w_pure rfl ?_
      refine w_iald is_154 ln_154 ⟨by omega, by omega⟩ (t_I_d0 hI hd) ?_
      refine w_iremp ⟨by omega, by omega⟩ ?_
      refine w_loc (ls' := [some (.inr (.inl 1)), some (.inr (.inl 2)), some (.inr (.inl 154)), some (.inl (i)), some (.inl (f_us cv)), some (.inl (((f_us cv) / 16) % (k 0))), x6, x7, x8, x9, x10]) (st' := []) rfl ?_
      refine w_loc rfl ?_
      refine w_pure rfl ?_
      refine w_idivp ⟨by omega, by omega, by omega⟩ ?_
      refine w_loc rfl ?_
      refine w_pure rfl ?_
      refine w_iald is_154 ln_154 ⟨by omega, by omega⟩ (t_I_d0 hI hd) ?_
      refine w_iremp ⟨by omega, by omega⟩ ?_
      refine w_loc (ls' := [some (.inr (.inl 1)), some (.inr (.inl 2)), some (.inr (.inl 154)), some (.inl (i)), some (.inl (f_us cv)), some (.inl (((f_us cv) / 16) % (k 0))), some (.inl (((f_us cv) / 256) % (k 0))), x7, x8, x9, x10]) (st' := []) rfl ?_
      refine w_loc rfl ?_
      refine w_pure rfl ?_
      refine w_idivp ⟨by omega, by omega, by omega⟩ ?_
      refine w_loc (ls' := [some (.inr (.inl 1)), some (.inr (.inl 2)), some (.inr (.inl 154)), some (.inl (i)), some (.inl (f_us cv)), some (.inl (((f_us cv) / 16) % (k 0))), some (.inl (((f_us cv) / 256) % (k 0))), some (.inl ((f_us cv) / 4096)), x8, x9, x10]) (st' := []) rfl ?_
      refine w_pure rfl ?_
      refine w_loc (ls' := [some (.inr (.inl 1)), some (.inr (.inl 2)), some (.inr (.inl 154)), some (.inl (i)), some (.inl (f_us cv)), some (.inl (((f_us cv) / 16) % (k 0))), some (.inl (((f_us cv) / 256) % (k 0))), some (.inl ((f_us cv) / 4096)), some (.inl (1)), x9, x10]) (st' := []) rfl ?_
      refine w_loc rfl ?_
      refine w_pure rfl ?_
      refine w_iremp ⟨by omega, by omega⟩ ?_
      have va := Int.emod_nonneg (f_us cv / 16) (show k 0 ≠ 0 by omega)
      have va2 := Int.emod_lt_of_pos (f_us cv / 16) (show 0 < k 0 by omega)
      have vb := Int.emod_nonneg (f_us cv / 256) (show k 0 ≠ 0 by omega)
      have vb2 := Int.emod_lt_of_pos (f_us cv / 256) (show 0 < k 0 by omega)
      have K : ∀ (k2 d2 : Nat → Int) (x9 x10 : Option pz_V) (iv : Nat → Nat → Int) (dv : Nat → Nat → UInt64) (cc1 ss1 : Nat), t_I sc k2 d2 0 kf iv → t_d k2 d2 → k2 0 ≤ 8 → k2 1 ≤ i + 1 → k2 5 = 9 → cc1 ≤ cc + 400 → ss1 ≤ ss + 2400 → pz_G 231 917 [some (.inr (.inl 1)), some (.inr (.inl 2)), some (.inr (.inl 154)), some (.inl (i)), some (.inl (f_us cv)), some (.inl (f_us cv / 16 % k 0)), some (.inl (f_us cv / 256 % k 0)), some (.inl (f_us cv / 4096)), some (.inl (1)), x9, x10] [] (pz_Sh L, iv, dv, cc1, ss1) (fun o h' => o = .inl (some (.inl 1)) ∧ h'.2.2.2.1 ≤ C ∧ h'.2.2.2.2 ≤ S) := by
        intro k2 d2 y9 y10 iv2 dv2 cc2 ss2 hI2 hd2 q0 q1 q5 q6 q7
        refine t_rest (C := cc2 + 7300) (S := ss2 + 43800) hd2 q0 q5 (by omega) y9 y10 (fun k3 iv3 dv3 cc3 ss3 hI3 hd3 r0 r1 r5 r6 r7 => ?_) iv2 dv2 cc2 ss2 hI2 (Nat.le_refl _) (Nat.le_refl _)
        exact ih (i + 1) k3 d2 _ _ _ _ _ _ _ _ _ _ _ (by omega) (by omega) (by omega) hI3 hd3 r0 (by omega) r5 (by omega) (by omega)
      have v16 : f_us cv % 16 = 0 ∨ f_us cv % 16 = 1 ∨ f_us cv % 16 = 2 ∨ f_us cv % 16 = 3 ∨ f_us cv % 16 = 4 ∨ f_us cv % 16 = 5 ∨ f_us cv % 16 = 6 ∨ f_us cv % 16 = 7 ∨ f_us cv % 16 = 8 ∨ f_us cv % 16 = 9 ∨ f_us cv % 16 = 10 ∨ f_us cv % 16 = 11 ∨ f_us cv % 16 = 12 ∨ f_us cv % 16 = 13 ∨ f_us cv % 16 = 14 ∨ f_us cv % 16 = 15 := by omega
      rcases v16 with e9 | e9 | e9 | e9 | e9 | e9 | e9 | e9 | e9 | e9 | e9 | e9 | e9 | e9 | e9 | e9 <;> rw [e9]
      · refine w_sw (pc := 188) rfl ?_
        exact t_case_188 (C := cc + 400) (S := ss + 2400) hd h8 hk1 (by omega) h5 ⟨va, va2⟩ ⟨vb, vb2⟩ (by omega) K _ _ _ _ _ _ hI (by omega) (by omega)
      · refine w_sw (pc := 188) rfl ?_
        exact t_case_188 (C := cc + 400) (S := ss + 2400) hd h8 hk1 (by omega) h5 ⟨va, va2⟩ ⟨vb, vb2⟩ (by omega) K _ _ _ _ _ _ hI (by omega) (by omega)
      · refine w_sw (pc := 188) rfl ?_
        exact t_case_188 (C := cc + 400) (S := ss + 2400) hd h8 hk1 (by omega) h5 ⟨va, va2⟩ ⟨vb, vb2⟩ (by omega) K _ _ _ _ _ _ hI (by omega) (by omega)
      · refine w_sw (pc := 188) rfl ?_
        exact t_case_188 (C := cc + 400) (S := ss + 2400) hd h8 hk1 (by omega) h5 ⟨va, va2⟩ ⟨vb, vb2⟩ (by omega) K _ _ _ _ _ _ hI (by omega) (by omega)
      · refine w_sw (pc := 294) rfl ?_
        exact t_case_294 (C := cc + 400) (S := ss + 2400) hd h8 hk1 (by omega) h5 ⟨va, va2⟩ ⟨vb, vb2⟩ (by omega) K _ _ _ _ _ _ hI (by omega) (by omega)
      · refine w_sw (pc := 294) rfl ?_
        exact t_case_294 (C := cc + 400) (S := ss + 2400) hd h8 hk1 (by omega) h5 ⟨va, va2⟩ ⟨vb, vb2⟩ (by omega) K _ _ _ _ _ _ hI (by omega) (by omega)
      · refine w_sw (pc := 445) rfl ?_
        exact t_case_445 (C := cc + 400) (S := ss + 2400) hd h8 hk1 (by omega) h5 ⟨va, va2⟩ ⟨vb, vb2⟩ (by omega) K _ _ _ _ _ _ hI (by omega) (by omega)
      · refine w_sw (pc := 476) rfl ?_
        exact t_case_476 (C := cc + 400) (S := ss + 2400) hd h8 hk1 (by omega) h5 ⟨va, va2⟩ ⟨vb, vb2⟩ (by omega) K _ _ _ _ _ _ hI (by omega) (by omega)
      · refine w_sw (pc := 528) rfl ?_
        exact t_case_528 (C := cc + 400) (S := ss + 2400) hd h8 hk1 (by omega) h5 ⟨va, va2⟩ ⟨vb, vb2⟩ (by omega) K _ _ _ _ _ _ hI (by omega) (by omega)
      · refine w_sw (pc := 569) rfl ?_
        exact t_case_569 (C := cc + 400) (S := ss + 2400) hd h8 hk1 (by omega) h5 ⟨va, va2⟩ ⟨vb, vb2⟩ (by omega) K _ _ _ _ _ _ hI (by omega) (by omega)
      · refine w_sw (pc := 569) rfl ?_
        exact t_case_569 (C := cc + 400) (S := ss + 2400) hd h8 hk1 (by omega) h5 ⟨va, va2⟩ ⟨vb, vb2⟩ (by omega) K _ _ _ _ _ _ hI (by omega) (by omega)
      · refine w_sw (pc := 635) rfl ?_
        exact t_case_635 (C := cc + 400) (S := ss + 2400) hd h8 hk1 (by omega) h5 ⟨va, va2⟩ ⟨vb, vb2⟩ (by omega) K _ _ _ _ _ _ hI (by omega) (by omega)
      · refine w_sw (pc := 666) rfl ?_
        exact t_case_666 (C := cc + 400) (S := ss + 2400) hd h8 hk1 (by omega) h5 ⟨va, va2⟩ ⟨vb, vb2⟩ (by omega) K _ _ _ _ _ _ hI (by omega) (by omega)
      · refine w_sw (pc := 692) rfl ?_
        exact t_case_692 (C := cc + 400) (S := ss + 2400) hd h8 hk1 (by omega) h5 ⟨va, va2⟩ ⟨vb, vb2⟩ (by omega) K _ _ _ _ _ _ hI (by omega) (by omega)
      · refine w_sw (pc := 779) rfl ?_
        exact t_case_779 (C := cc + 400) (S := ss + 2400) hd h8 hk1 (by omega) h5 ⟨va, va2⟩ ⟨vb, vb2⟩ (by omega) K _ _ _ _ _ _ hI (by omega) (by omega)
      · refine w_sw (pc := 822) rfl ?_
        exact t_case_822 (C := cc + 400) (S := ss + 2400) hd h8 hk1 (by omega) h5 ⟨va, va2⟩ ⟨vb, vb2⟩ (by omega) K _ _ _ _ _ _ hI (by omega) (by omega)
theorem t_evs {L C S : Nat} {sc kf : Nat → Int} : ∀ (m9 : Nat) (t : Int) (k d : Nat → Int) (x4 x5 x6 x7 x8 x9 x10 : Option pz_V) (iv : Nat → Nat → Int) (dv : Nat → Nat → UInt64) (cc ss : Nat), 0 ≤ t → t < m9 → t_I sc k d 0 kf iv → t_d k d → k 0 + t ≤ 8 → k 1 = 0 → k 5 = 9 → (cc : Int) + t + 169400 ≤ C → (ss : Int) + 6 * t + 1016400 ≤ S → pz_G 231 27 [some (.inr (.inl 1)), some (.inr (.inl 2)), some (.inr (.inl 154)), some (.inl (t)), x4, x5, x6, x7, x8, x9, x10] [] (pz_Sh L, iv, dv, cc, ss) (fun o h' => o = .inl (some (.inl 1)) ∧ h'.2.2.2.1 ≤ C ∧ h'.2.2.2.2 ≤ S) := by
  intro m9
  induction m9 with
  | zero => intro t k d x4 x5 x6 x7 x8 x9 x10 iv dv cc ss l1 l2; omega
  | succ m9 ih =>
    intro t k d x4 x5 x6 x7 x8 x9 x10 iv dv cc ss l1 l2 hI hd h8 hk1 h5 l4 l5
    have hk := hI.2.1
    have h0 := hk.r0
    refine pz_G_of pz_b231_27 ?_
    refine w_loc rfl ?_
    refine w_zle (fun h1 => ?_) (fun h1 => ?_)
    · skip
      refine pz_G_of pz_b231_56 ?_
      refine w_pure rfl ?_
      refine w_loc (ls' := [some (.inr (.inl 1)), some (.inr (.inl 2)), some (.inr (.inl 154)), some (.inl (0)), x4, x5, x6, x7, x8, x9, x10]) (st' := []) rfl ?_
      refine w_nil ?_
      exact t_main 23 0 k d _ _ _ _ _ _ _ _ _ _ _ (by omega) (by omega) (by omega) hI hd (by omega) (by omega) h5 (by omega) (by omega)
    · skip
      refine w_loc rfl ?_
      refine w_callO (t_S_addEvent hI) rfl rfl (fun iv2 dv3 cc4 ss5 hI6 hc7 hs8 => ?_)
      have g1 : c_addEvent k = k 0 := q_if_f (by omega)
      have g2 : k_addEvent k = pz_up k 0 (k 0 + 1) := q_if_f (by omega)
      rw [g1]
      rw [g2] at hI6
      have ag : ∀ j : Nat, j ≠ 0 → pz_up k 0 (k 0 + 1) j = k j := fun j hj => pz_up_ne hj
      have a0 : pz_up k 0 (k 0 + 1) 0 = k 0 + 1 := pz_up_eq
      generalize pz_up k 0 (k 0 + 1) = k2 at hI6 ag a0
      have a1 := ag 1 (by omega)
      have a5 := ag 5 (by omega)
      · skip
        refine w_loc rfl ?_
        refine w_pure rfl ?_
        refine w_iald is_154 ln_154 ⟨by omega, by omega⟩ (t_I_d0 hI6 hd) ?_
        refine w_ieq (fun h9 => ?_) (fun h9 => ?_)
        · skip
          refine pz_G_of pz_b231_43 ?_
          refine w_loc rfl ?_
          refine w_pure rfl ?_
          refine w_pure rfl ?_
          refine w_iald is_154 ln_154 ⟨by omega, by omega⟩ (t_I_d0 hI6 hd) ?_
          refine w_pure rfl ?_
          refine w_iadd ⟨by omega, by omega⟩ ?_
          refine w_iastm is_154 ln_154 ⟨by omega, by omega⟩ (pz_u2_row _ _ _ _) ?_
          have hI10 := t_st_d hI6 (0 : Int).toNat (k 0 + 1)
          refine w_iinc rfl rfl (ls' := [some (.inr (.inl 1)), some (.inr (.inl 2)), some (.inr (.inl 154)), some (.inl (t + -1)), x4, x5, x6, x7, x8, x9, x10]) rfl ⟨by omega, by omega⟩ ?_
          refine w_goto ?_
          exact ih (t + -1) k2 (pz_up d (0 : Int).toNat (k 0 + 1)) _ _ _ _ _ _ _ _ _ _ _ (by omega) (by omega) hI10 (t_d_up0 hk hd (fun j hj => ag j (by omega)) (by omega)) (by omega) (by omega) (by omega) (by omega) (by omega)
        · skip
          refine w_pure rfl ?_
          exfalso
          omega
