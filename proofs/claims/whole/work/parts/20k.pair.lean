/-! the pairs: what changes the plan -/
theorem t_P_addEvent {sc : Nat → Int} {L : Nat} {iv : Nat → Nat → Int} (h : t_I sc iv) : t_Q t_Bi sc L 123 197 t_Vi t_Vi (pz_hc 303) [] iv := by
  have hI := h
  obtain ⟨hsc, hk, ⟨hE, hB, hS, hC, hA, hO, hL, hP⟩, hci, hz, hof, ho3, hfr⟩ := h
  have h0 := hk.r0
  by_cases hcase0 : iv 155 0 = 10
  · skip
    refine ⟨_, _, 0, 1, trivial, t_RE (s_X10_addEvent_1 (L := L) (iv := iv) hk hE hB hS hC hA hO hL hP hcase0), Or.inr ⟨0, rfl, rfl, by decide⟩, ?_⟩
    intro iv1 e9
    have e8 : iv1 = _ := e9
    subst e8
    exact ⟨hsc, fun x9 => ⟨_, s_X11_addEvent_1 (L := L) (iv := pz_u1 _ 164 x9) hk hcase0, rfl, rfl, t_I_keep hI (by intro r hr; repeat (first | rfl | refine t_k1 (by omega) ?_ | refine t_k2 rfl ?_)) rfl (rfl) hci hz⟩⟩
  · skip
    refine ⟨_, _, iv 155 0, 0, trivial, t_RE (s_X10_addEvent_0 (L := L) (iv := iv) hk hE hB hS hC hA hO hL hP hcase0), Or.inl ⟨rfl, rfl⟩, ?_⟩
    intro iv1 e9
    have e8 : iv1 = _ := e9
    subst e8
    exact ⟨hsc, fun x9 => ⟨_, s_X11_addEvent_0 (L := L) (iv := pz_u1 _ 164 x9) hk hcase0, rfl, rfl, t_I_mut2 (k' := pz_up (iv 155) 0 (iv 155 0 + 1)) hI (rfl) (by intro r hr; repeat (first | rfl | refine t_k1 (by omega) ?_ | refine t_k2 rfl ?_)) (t_KR_ev hk hcase0) (⟨⟨rfl, hE.2⟩, q_cB_ag hB (by omega) (pz_up_ne (by omega)) (fun j g1 g2 => pz_up_ne (by omega)), q_cS_ag hS (by omega) (pz_up_ne (by omega)) (fun j g1 g2 => pz_up_ne (by omega)), q_cC_ag hC (pz_up_ne (by omega)) (fun j g1 g2 => pz_up_ne (by omega)), q_cA_ag hA (by omega) (pz_up_ne (by omega)) (pz_up_ne (by omega)) (fun j g1 g2 => pz_up_ne (by omega)), q_cO_ag hO (fun j g1 g2 => pz_up_ne (by omega)), q_cL_ag hL (fun j g1 g2 => pz_up_ne (by omega)), q_cP_ag hP (by omega) (pz_up_ne (by omega)) (fun j g1 g2 => pz_up_ne (by omega))⟩) (rfl) (rfl) (t_ci0 ⟨rfl, rfl, rfl⟩) hz⟩⟩
theorem t_P_bound {sc : Nat → Int} {L : Nat} {iv : Nat → Nat → Int} {f : Int} {t : Int} {w : Int} {l : Int} (h : t_I sc iv) : t_Q t_Bi sc L 124 199 t_Vi t_Vi (pz_hc 304) [.inl f, .inl t, .inl w, .inl l] iv := by
  have hI := h
  obtain ⟨hsc, hk, ⟨hE, hB, hS, hC, hA, hO, hL, hP⟩, hci, hz, hof, ho3, hfr⟩ := h
  have h0 := hk.r0
  by_cases hcase0 : 0 ≤ f ∧ f ≤ iv 155 0 - 1 ∧ 0 ≤ t ∧ t ≤ iv 155 0 - 1
  · skip
    by_cases hcase1 : f ≠ t ∧ -500 ≤ w ∧ w ≤ 500 ∧ -4 ≤ l ∧ l ≤ 4
    · skip
      by_cases hcase2 : iv 155 1 = 40
      · skip
        refine ⟨_, _, 0, 3, trivial, t_RE (s_X10_bound_3 (L := L) (iv := iv) f t w l hk hE hB hS hC hA hO hL hP hcase0 hcase1 hcase2), Or.inr ⟨0, rfl, rfl, by decide⟩, ?_⟩
        intro iv1 e9
        have e8 : iv1 = _ := e9
        subst e8
        exact ⟨hsc, fun x9 => ⟨_, s_X11_bound_3 (L := L) (iv := pz_u1 _ 164 x9) f t w l hk hcase0 hcase1 hcase2, rfl, rfl, t_I_keep hI (by intro r hr; repeat (first | rfl | refine t_k1 (by omega) ?_ | refine t_k2 rfl ?_)) rfl (rfl) hci hz⟩⟩
      · skip
        refine ⟨_, _, iv 155 1, 0, trivial, t_RE (s_X10_bound_0 (L := L) (iv := iv) f t w l hk hE hB hS hC hA hO hL hP hcase0 hcase1 hcase2), Or.inl ⟨rfl, rfl⟩, ?_⟩
        intro iv1 e9
        have e8 : iv1 = _ := e9
        subst e8
        exact ⟨hsc, fun x9 => ⟨_, s_X11_bound_0 (L := L) (iv := pz_u1 _ 164 x9) f t w l hk hcase0 hcase1 hcase2, rfl, rfl, t_I_mut2 (k' := q_tell (iv 155) f t w l) hI (rfl) (by intro r hr; repeat (first | rfl | refine t_k1 (by omega) ?_ | refine t_k2 rfl ?_)) (t_KR_tell hk (by omega) (by omega) hcase1.1 (by omega) (by omega) hcase2) (⟨q_cE_ag hE (t_tell_ne (by omega) (by omega)) (t_tell_ne (by omega) (by omega)), q_cB_tell hB (by omega) (by omega), q_cS_ag hS (by omega) (t_tell_ne (by omega) (by omega)) (fun j g1 g2 => t_tell_ne (by omega) (by omega)), q_cC_ag hC (t_tell_ne (by omega) (by omega)) (fun j g1 g2 => t_tell_ne (by omega) (by omega)), q_cA_ag hA (by omega) (t_tell_ne (by omega) (by omega)) (t_tell_ne (by omega) (by omega)) (fun j g1 g2 => t_tell_ne (by omega) (by omega)), q_cO_ag hO (fun j g1 g2 => t_tell_ne (by omega) (by omega)), q_cL_ag hL (fun j g1 g2 => t_tell_ne (by omega) (by omega)), q_cP_ag hP (by omega) (t_tell_ne (by omega) (by omega)) (fun j g1 g2 => t_tell_ne (by omega) (by omega))⟩) (rfl) (rfl) (t_ci0 ⟨rfl, rfl, rfl⟩) hz⟩⟩
    · skip
      refine ⟨_, _, 0, 2, trivial, t_RE (s_X10_bound_2 (L := L) (iv := iv) f t w l hk hE hB hS hC hA hO hL hP hcase0 hcase1), Or.inr ⟨1, rfl, rfl, by decide⟩, ?_⟩
      intro iv1 e9
      have e8 : iv1 = _ := e9
      subst e8
      exact ⟨hsc, fun x9 => ⟨_, s_X11_bound_2 (L := L) (iv := pz_u1 _ 164 x9) f t w l hk hcase0 hcase1, rfl, rfl, t_I_keep hI (by intro r hr; repeat (first | rfl | refine t_k1 (by omega) ?_ | refine t_k2 rfl ?_)) rfl (rfl) hci hz⟩⟩
  · skip
    refine ⟨_, _, 0, 1, trivial, t_RE (s_X10_bound_1 (L := L) (iv := iv) f t w l hk hE hB hS hC hA hO hL hP hcase0), Or.inr ⟨2, rfl, rfl, by decide⟩, ?_⟩
    intro iv1 e9
    have e8 : iv1 = _ := e9
    subst e8
    exact ⟨hsc, fun x9 => ⟨_, s_X11_bound_1 (L := L) (iv := pz_u1 _ 164 x9) f t w l hk hcase0, rfl, rfl, t_I_keep hI (by intro r hr; repeat (first | rfl | refine t_k1 (by omega) ?_ | refine t_k2 rfl ?_)) rfl (rfl) hci hz⟩⟩
theorem t_P_dropBound {sc : Nat → Int} {L : Nat} {iv : Nat → Nat → Int} {b : Int} (h : t_I sc iv) : t_Q t_Bi sc L 125 205 t_Vi t_Vi (pz_hc 305) [.inl b] iv := by
  have hI := h
  obtain ⟨hsc, hk, ⟨hE, hB, hS, hC, hA, hO, hL, hP⟩, hci, hz, hof, ho3, hfr⟩ := h
  have h0 := hk.r0
  by_cases hcase0 : 0 ≤ b ∧ b ≤ iv 155 1 - 1
  · skip
    by_cases hcase1 : iv 155 (52 + 4 * b + 3).toNat = 99
    · skip
      refine ⟨_, _, 0, 2, trivial, t_RE (s_X10_dropBound_2 (L := L) (iv := iv) b hk hE hB hS hC hA hO hL hP hcase0 hcase1), Or.inr ⟨0, rfl, rfl, by decide⟩, ?_⟩
      intro iv1 e9
      have e8 : iv1 = _ := e9
      subst e8
      exact ⟨hsc, fun x9 => ⟨_, s_X11_dropBound_2 (L := L) (iv := pz_u1 _ 164 x9) b hk hcase0 hcase1, rfl, rfl, t_I_keep hI (by intro r hr; repeat (first | rfl | refine t_k1 (by omega) ?_ | refine t_k2 rfl ?_)) rfl (rfl) hci hz⟩⟩
    · skip
      refine ⟨_, _, q_held (pz_up (iv 155) (52 + 4 * b + 3).toNat 99), 0, trivial, t_RE (s_X10_dropBound_0 (L := L) (iv := iv) b hk hE hB hS hC hA hO hL hP hcase0 hcase1), Or.inl ⟨rfl, rfl⟩, ?_⟩
      intro iv1 e9
      have e8 : iv1 = _ := e9
      subst e8
      exact ⟨hsc, fun x9 => ⟨_, s_X11_dropBound_0 (L := L) (iv := pz_u1 _ 164 x9) b hk hcase0 hcase1, rfl, rfl, t_I_mut2 (k' := pz_up (iv 155) (52 + 4 * b + 3).toNat 99) hI (rfl) (by intro r hr; repeat (first | rfl | refine t_k1 (by omega) ?_ | refine t_k2 rfl ?_)) (m_KR_drop hk (by omega) (by omega)) (⟨q_cE_ag hE (pz_up_ne (by omega)) (pz_up_ne (by omega)), q_cB_drop hB ⟨by omega, by omega⟩, q_cS_ag hS (by omega) (pz_up_ne (by omega)) (fun j g1 g2 => pz_up_ne (by omega)), q_cC_ag hC (pz_up_ne (by omega)) (fun j g1 g2 => pz_up_ne (by omega)), q_cA_ag hA (by omega) (pz_up_ne (by omega)) (pz_up_ne (by omega)) (fun j g1 g2 => pz_up_ne (by omega)), q_cO_ag hO (fun j g1 g2 => pz_up_ne (by omega)), q_cL_ag hL (fun j g1 g2 => pz_up_ne (by omega)), q_cP_ag hP (by omega) (pz_up_ne (by omega)) (fun j g1 g2 => pz_up_ne (by omega))⟩) (rfl) (rfl) (t_ci0 ⟨rfl, rfl, rfl⟩) hz⟩⟩
  · skip
    refine ⟨_, _, 0, 1, trivial, t_RE (s_X10_dropBound_1 (L := L) (iv := iv) b hk hE hB hS hC hA hO hL hP hcase0), Or.inr ⟨2, rfl, rfl, by decide⟩, ?_⟩
    intro iv1 e9
    have e8 : iv1 = _ := e9
    subst e8
    exact ⟨hsc, fun x9 => ⟨_, s_X11_dropBound_1 (L := L) (iv := pz_u1 _ 164 x9) b hk hcase0, rfl, rfl, t_I_keep hI (by intro r hr; repeat (first | rfl | refine t_k1 (by omega) ?_ | refine t_k2 rfl ?_)) rfl (rfl) hci hz⟩⟩
theorem t_P_addSpan {sc : Nat → Int} {L : Nat} {iv : Nat → Nat → Int} {f : Int} {t : Int} {l : Int} {g : Int} (h : t_I sc iv) : t_Q t_Bi sc L 126 212 t_Vi t_Vi (pz_hc 306) [.inl f, .inl t, .inl l, .inl g] iv := by
  have hI := h
  obtain ⟨hsc, hk, ⟨hE, hB, hS, hC, hA, hO, hL, hP⟩, hci, hz, hof, ho3, hfr⟩ := h
  have h0 := hk.r0
  by_cases hcase0 : 0 ≤ f ∧ f ≤ iv 155 0 - 1 ∧ 0 ≤ t ∧ t ≤ iv 155 0 - 1
  · skip
    by_cases hcase1 : f < t ∧ 1 ≤ l ∧ l ≤ 200 ∧ l ≤ g ∧ g ≤ 200
    · skip
      by_cases hcase2 : iv 155 2 = 3
      · skip
        refine ⟨_, _, 0, 3, trivial, t_RE (s_X10_addSpan_3a (L := L) (iv := iv) f t l g hk hE hB hS hC hA hO hL hP hcase0 hcase1 hcase2), Or.inr ⟨0, rfl, rfl, by decide⟩, ?_⟩
        intro iv1 e9
        have e8 : iv1 = _ := e9
        subst e8
        exact ⟨hsc, fun x9 => ⟨_, s_X11_addSpan_3a (L := L) (iv := pz_u1 _ 164 x9) f t l g hk hcase0 hcase1 hcase2, rfl, rfl, t_I_keep hI (by intro r hr; repeat (first | rfl | refine t_k1 (by omega) ?_ | refine t_k2 rfl ?_)) rfl (rfl) hci hz⟩⟩
      · skip
        by_cases hcase3 : q_exi (fun s => iv 155 (212 + 4 * s + 1).toNat = t) (iv 155 2)
        · skip
          refine ⟨_, _, 0, 3, trivial, t_RE (s_X10_addSpan_3b (L := L) (iv := iv) f t l g hk hE hB hS hC hA hO hL hP hcase0 hcase1 hcase2 hcase3), Or.inr ⟨0, rfl, rfl, by decide⟩, ?_⟩
          intro iv1 e9
          have e8 : iv1 = _ := e9
          subst e8
          exact ⟨hsc, fun x9 => ⟨_, s_X11_addSpan_3b (L := L) (iv := pz_u1 _ 164 x9) f t l g hk hcase0 hcase1 hcase2 hcase3, rfl, rfl, t_I_keep hI (by intro r hr; repeat (first | rfl | refine t_k1 (by omega) ?_ | refine t_k2 rfl ?_)) rfl (rfl) hci hz⟩⟩
        · skip
          by_cases hcase4 : 0 < f ∧ q_sta (iv 155) f
          · skip
            refine ⟨_, _, 0, 3, trivial, t_RE (s_X10_addSpan_3c (L := L) (iv := iv) f t l g hk hE hB hS hC hA hO hL hP hcase0 hcase1 hcase2 hcase3 hcase4), Or.inr ⟨0, rfl, rfl, by decide⟩, ?_⟩
            intro iv1 e9
            have e8 : iv1 = _ := e9
            subst e8
            exact ⟨hsc, fun x9 => ⟨_, s_X11_addSpan_3c (L := L) (iv := pz_u1 _ 164 x9) f t l g hk hcase0 hcase1 hcase2 hcase3 hcase4, rfl, rfl, t_I_keep hI (by intro r hr; repeat (first | rfl | refine t_k1 (by omega) ?_ | refine t_k2 rfl ?_)) rfl (rfl) hci hz⟩⟩
          · skip
            by_cases hcase5 : q_sta (iv 155) t
            · skip
              refine ⟨_, _, 0, 3, trivial, t_RE (s_X10_addSpan_3d (L := L) (iv := iv) f t l g hk hE hB hS hC hA hO hL hP hcase0 hcase1 hcase2 hcase3 hcase4 hcase5), Or.inr ⟨0, rfl, rfl, by decide⟩, ?_⟩
              intro iv1 e9
              have e8 : iv1 = _ := e9
              subst e8
              exact ⟨hsc, fun x9 => ⟨_, s_X11_addSpan_3d (L := L) (iv := pz_u1 _ 164 x9) f t l g hk hcase0 hcase1 hcase2 hcase3 hcase4 hcase5, rfl, rfl, t_I_keep hI (by intro r hr; repeat (first | rfl | refine t_k1 (by omega) ?_ | refine t_k2 rfl ?_)) rfl (rfl) hci hz⟩⟩
            · skip
              refine ⟨_, _, iv 155 2, 0, trivial, t_RE (s_X10_addSpan_0 (L := L) (iv := iv) f t l g hk hE hB hS hC hA hO hL hP hcase0 hcase1 hcase2 hcase3 hcase4 hcase5), Or.inl ⟨rfl, rfl⟩, ?_⟩
              intro iv1 e9
              have e8 : iv1 = _ := e9
              subst e8
              exact ⟨hsc, fun x9 => ⟨_, s_X11_addSpan_0 (L := L) (iv := pz_u1 _ 164 x9) f t l g hk hcase0 hcase1 hcase2 hcase3 hcase4 hcase5, rfl, rfl, t_I_mut2 (k' := q_addsp (iv 155) f t l g) hI (rfl) (by intro r hr; repeat (first | rfl | refine t_k1 (by omega) ?_ | refine t_k2 rfl ?_)) (t_KR_sp hk (by omega) (by omega) (by omega) hcase2 hcase3 hcase5) (⟨q_cE_ag hE (t_addsp_ne (by omega) (by omega)) (t_addsp_ne (by omega) (by omega)), q_cB_ag hB (by omega) (t_addsp_ne (by omega) (by omega)) (fun j g1 g2 => t_addsp_ne (by omega) (by omega)), q_cS_add hS (by omega), q_cC_ag hC (t_addsp_ne (by omega) (by omega)) (fun j g1 g2 => t_addsp_ne (by omega) (by omega)), q_cA_ag hA (by omega) (t_addsp_ne (by omega) (by omega)) (t_addsp_ne (by omega) (by omega)) (fun j g1 g2 => t_addsp_ne (by omega) (by omega)), q_cO_ag hO (fun j g1 g2 => t_addsp_ne (by omega) (by omega)), q_cL_ag hL (fun j g1 g2 => t_addsp_ne (by omega) (by omega)), q_cP_ag hP (by omega) (t_addsp_ne (by omega) (by omega)) (fun j g1 g2 => t_addsp_ne (by omega) (by omega))⟩) (rfl) (rfl) (t_ci0 ⟨rfl, rfl, rfl⟩) hz⟩⟩
    · skip
      refine ⟨_, _, 0, 2, trivial, t_RE (s_X10_addSpan_2 (L := L) (iv := iv) f t l g hk hE hB hS hC hA hO hL hP hcase0 hcase1), Or.inr ⟨1, rfl, rfl, by decide⟩, ?_⟩
      intro iv1 e9
      have e8 : iv1 = _ := e9
      subst e8
      exact ⟨hsc, fun x9 => ⟨_, s_X11_addSpan_2 (L := L) (iv := pz_u1 _ 164 x9) f t l g hk hcase0 hcase1, rfl, rfl, t_I_keep hI (by intro r hr; repeat (first | rfl | refine t_k1 (by omega) ?_ | refine t_k2 rfl ?_)) rfl (rfl) hci hz⟩⟩
  · skip
    refine ⟨_, _, 0, 1, trivial, t_RE (s_X10_addSpan_1 (L := L) (iv := iv) f t l g hk hE hB hS hC hA hO hL hP hcase0), Or.inr ⟨2, rfl, rfl, by decide⟩, ?_⟩
    intro iv1 e9
    have e8 : iv1 = _ := e9
    subst e8
    exact ⟨hsc, fun x9 => ⟨_, s_X11_addSpan_1 (L := L) (iv := pz_u1 _ 164 x9) f t l g hk hcase0, rfl, rfl, t_I_keep hI (by intro r hr; repeat (first | rfl | refine t_k1 (by omega) ?_ | refine t_k2 rfl ?_)) rfl (rfl) hci hz⟩⟩
theorem t_P_observe {sc : Nat → Int} {L : Nat} {iv : Nat → Nat → Int} {l : Int} {z : Int} (h : t_I sc iv) (hz9 : z = 0 ∨ z = 1) : t_Q t_Bi sc L 127 215 t_Vi t_Vi (pz_hc 307) [.inl l, .inl z] iv := by
  have hI := h
  obtain ⟨hsc, hk, ⟨hE, hB, hS, hC, hA, hO, hL, hP⟩, hci, hz, hof, ho3, hfr⟩ := h
  have h0 := hk.r0
  by_cases hl : 1 ≤ l ∧ l ≤ 4
  · skip
    by_cases ho : q_obs (iv 155) l
    · skip
      refine ⟨_, _, 0, 2, trivial, t_RE (s_X10_observe_2 (L := L) (iv := iv) l z hk hE hB hS hC hA hO hL hP hl ho), Or.inr ⟨0, rfl, rfl, by decide⟩, ?_⟩
      intro iv1 e9
      have e8 : iv1 = _ := e9
      subst e8
      exact ⟨hsc, fun x9 => ⟨_, s_X11_observe_2 (L := L) (iv := pz_u1 _ 164 x9) l z hk hz9 hl ho, rfl, rfl, t_I_keep hI (by intro r hr; repeat (first | rfl | refine t_k1 (by omega) ?_ | refine t_k2 rfl ?_)) rfl (rfl) hci hz⟩⟩
    · skip
      by_cases hz1 : z = 0
      · skip
        refine ⟨_, _, q_held (pz_up (iv 155) (46 + l).toNat 102), 0, trivial, t_RE (s_X10_observe_0f (L := L) (iv := iv) l z hk hE hB hS hC hA hO hL hP (by omega) hl ho), Or.inl ⟨rfl, rfl⟩, ?_⟩
        intro iv1 e9
        have e8 : iv1 = _ := e9
        subst e8
        exact ⟨hsc, fun x9 => ⟨_, s_X11_observe_0f (L := L) (iv := pz_u1 _ 164 x9) l z hk (by omega) hl ho, rfl, rfl, t_I_mut2 (k' := pz_up (iv 155) (46 + l).toNat 102) hI (rfl) (by intro r hr; repeat (first | rfl | refine t_k1 (by omega) ?_ | refine t_k2 rfl ?_)) (m_KR_obs hk (by omega) (by omega) (by omega)) (⟨q_cE_ag hE (pz_up_ne (by omega)) (pz_up_ne (by omega)), q_cB_ag hB (by omega) (pz_up_ne (by omega)) (fun j g1 g2 => pz_up_ne (by omega)), q_cS_ag hS (by omega) (pz_up_ne (by omega)) (fun j g1 g2 => pz_up_ne (by omega)), q_cC_ag hC (pz_up_ne (by omega)) (fun j g1 g2 => pz_up_ne (by omega)), q_cA_ag hA (by omega) (pz_up_ne (by omega)) (pz_up_ne (by omega)) (fun j g1 g2 => pz_up_ne (by omega)), q_cO_ag hO (fun j g1 g2 => pz_up_ne (by omega)), q_cL_obs hL (by omega), q_cP_ag hP (by omega) (pz_up_ne (by omega)) (fun j g1 g2 => pz_up_ne (by omega))⟩) (rfl) (rfl) (t_ci0 ⟨rfl, rfl, rfl⟩) hz⟩⟩
      · skip
        refine ⟨_, _, q_held (pz_up (iv 155) (46 + l).toNat 116), 0, trivial, t_RE (s_X10_observe_0t (L := L) (iv := iv) l z hk hE hB hS hC hA hO hL hP (by omega) hl ho), Or.inl ⟨rfl, rfl⟩, ?_⟩
        intro iv1 e9
        have e8 : iv1 = _ := e9
        subst e8
        exact ⟨hsc, fun x9 => ⟨_, s_X11_observe_0t (L := L) (iv := pz_u1 _ 164 x9) l z hk (by omega) hl ho, rfl, rfl, t_I_mut2 (k' := pz_up (iv 155) (46 + l).toNat 116) hI (rfl) (by intro r hr; repeat (first | rfl | refine t_k1 (by omega) ?_ | refine t_k2 rfl ?_)) (m_KR_obs hk (by omega) (by omega) (by omega)) (⟨q_cE_ag hE (pz_up_ne (by omega)) (pz_up_ne (by omega)), q_cB_ag hB (by omega) (pz_up_ne (by omega)) (fun j g1 g2 => pz_up_ne (by omega)), q_cS_ag hS (by omega) (pz_up_ne (by omega)) (fun j g1 g2 => pz_up_ne (by omega)), q_cC_ag hC (pz_up_ne (by omega)) (fun j g1 g2 => pz_up_ne (by omega)), q_cA_ag hA (by omega) (pz_up_ne (by omega)) (pz_up_ne (by omega)) (fun j g1 g2 => pz_up_ne (by omega)), q_cO_ag hO (fun j g1 g2 => pz_up_ne (by omega)), q_cL_obs hL (by omega), q_cP_ag hP (by omega) (pz_up_ne (by omega)) (fun j g1 g2 => pz_up_ne (by omega))⟩) (rfl) (rfl) (t_ci0 ⟨rfl, rfl, rfl⟩) hz⟩⟩
  · skip
    refine ⟨_, _, 0, 1, trivial, t_RE (s_X10_observe_1 (L := L) (iv := iv) l z hk hE hB hS hC hA hO hL hP hl), Or.inr ⟨1, rfl, rfl, by decide⟩, ?_⟩
    intro iv1 e9
    have e8 : iv1 = _ := e9
    subst e8
    exact ⟨hsc, fun x9 => ⟨_, s_X11_observe_1 (L := L) (iv := pz_u1 _ 164 x9) l z hk hz9 hl, rfl, rfl, t_I_keep hI (by intro r hr; repeat (first | rfl | refine t_k1 (by omega) ?_ | refine t_k2 rfl ?_)) rfl (rfl) hci hz⟩⟩
theorem t_P_choose {sc : Nat → Int} {L : Nat} {iv : Nat → Nat → Int} (h : t_I sc iv) : t_Q t_Bi sc L 128 217 t_Vi t_Vi (pz_hc 308) [] iv := by
  have hI := h
  obtain ⟨hsc, hk, ⟨hE, hB, hS, hC, hA, hO, hL, hP⟩, hci, hz, hof, ho3, hfr⟩ := h
  have h0 := hk.r0
  by_cases hcase0 : q_fsw (iv 155) = -1
  · skip
    refine ⟨_, _, 0, 1, trivial, s_X10_choose_1 (L := L) (iv := iv) hk hE hB hS hC hA hO hL hP hci hcase0, Or.inr ⟨3, rfl, rfl, by decide⟩, ?_⟩
    intro iv1 e9
    obtain ⟨n9, w9, d9, l9, e8⟩ := e9
    subst e8
    exact ⟨hsc, fun x9 => ⟨_, s_X11_choose_1 (L := L) (iv := pz_u1 _ 164 x9) ((t_choose hk hz).1 hcase0) hk, rfl, rfl, t_I_keep hI (by intro r hr; repeat (first | rfl | refine t_k1 (by omega) ?_ | refine t_k2 (t_ch_un hk (by omega)) ?_)) rfl rfl hci hz⟩⟩
  · skip
    obtain ⟨w0, g0, g1, g2, g3, g4⟩ := (t_choose (g := iv 157) hk hz).2 hcase0
    refine ⟨_, _, q_bc (q_fsw (iv 155)), 0, trivial, s_X10_choose_0 (L := L) (iv := iv) hk hE hB hS hC hA hO hL hP hci hcase0, Or.inl ⟨rfl, rfl⟩, ?_⟩
    intro iv1 e9
    obtain ⟨y9, n9, w9, d9, l9, e8, hkl9⟩ := e9
    subst e8
    exact ⟨hsc, fun x9 => ⟨_, t_Rv (s_X11_choose_0 (L := L) (iv := pz_u1 _ 164 x9) w0 g0 g1 g2 hk) (congrArg t_Vi g4.symm), rfl, rfl, t_I_mut2 (k' := q_kw (iv 155) (q_fsw (iv 155))) hI (g3) (by intro r hr; repeat (first | rfl | refine t_k1 (by omega) ?_ | refine t_k2 rfl ?_)) (m_KR_kw hk) (⟨q_cE_kw hE, q_cB_kw hB hk, q_cS_kw hS, q_cC_kw hC, q_cA_ag hA (by omega) (q_kw_same (by omega)) (q_kw_same (by omega)) (fun j g1 g2 => q_kw_same (by omega)), q_cO_ag hO (fun j g1 g2 => q_kw_same (by omega)), hkl9, q_cP_ag hP (by omega) (q_kw_same (by omega)) (fun j g1 g2 => q_kw_same (by omega))⟩) (rfl) (rfl) (t_ci0 ⟨rfl, rfl, rfl⟩) hz⟩⟩
theorem t_P_start {sc : Nat → Int} {L : Nat} {iv : Nat → Nat → Int} {e : Int} (h : t_I sc iv) : t_Q t_Bi sc L 150 273 t_Vi t_Vi (pz_hc 325) [.inl e] iv := by
  have hI := h
  obtain ⟨hsc, hk, ⟨hE, hB, hS, hC, hA, hO, hL, hP⟩, hci, hz, hof, ho3, hfr⟩ := h
  have h0 := hk.r0
  by_cases hcase0 : 0 ≤ e ∧ e ≤ iv 155 0 - 1
  · skip
    by_cases hcase1 : q_sen (iv 155)
    · skip
      have sen9 := (t_seen (g := iv 157) (v := iv 158) (a := iv 159) hk hz).mpr hcase1
      have zx := t_zX (g := iv 157) (v := iv 158) (a := iv 159) hk hz hcase1.1
      by_cases hcase2 : q_rs (q_val (iv 155)) (q_ka (iv 155)) (iv 155) e (iv 155 4) = 45
      · skip
        have a9 := q_rs_45 hcase2
        rw [q_ka_e hcase0.1] at a9
        have n0 : e ≠ 0 := fun q => by
          rw [q] at a9
          have z6 : iv 155 (6 + 0 : Int).toNat = 0 := h0.2.2.2.2.2.2.1
          omega
        have ni := t_rs_ne hcase2
        refine ⟨_, _, iv 155 4, 0, trivial, s_X10_start_0 (L := L) (iv := iv) e hk hE hB hS hC hA hO hL hP hci hcase0 hcase1 hcase2, Or.inl ⟨rfl, rfl⟩, ?_⟩
        intro iv1 e9
        obtain ⟨o9, l9, n9, w9, d9, m9, V9, W9, U9, Y9, p9, q9, r9, e8, hof9⟩ := e9
        subst e8
        exact ⟨hsc, fun x9 => ⟨_, s_X11_start_0 (L := L) (iv := pz_u1 _ 164 x9) e hk hcase0 sen9 ((t_rs2 hk zx ⟨by omega, by omega⟩).trans hcase2), rfl, rfl, t_I_mut2 (k' := pz_up (iv 155) (6 + e).toNat (iv 155 4)) hI (rfl) (by intro r hr; repeat (first | rfl | refine t_k1 (by omega) ?_ | refine t_k2 rfl ?_)) (t_KR_st hk (by omega) (fun q => q a9) (fun s s1 s2 s3 => absurd ⟨s, s1, s2, s3⟩ ni)) (⟨q_cE_ag hE (pz_up_ne (by omega)) (pz_up_ne (by omega)), q_cB_ag hB (by omega) (pz_up_ne (by omega)) (fun j g1 g2 => pz_up_ne (by omega)), q_cS_ag hS (by omega) (pz_up_ne (by omega)) (fun j g1 g2 => pz_up_ne (by omega)), q_cC_st hC (by omega), q_cA_ag hA (by omega) (pz_up_ne (by omega)) (pz_up_ne (by omega)) (fun j g1 g2 => pz_up_ne (by omega)), q_cO_ag hO (fun j g1 g2 => pz_up_ne (by omega)), q_cL_ag hL (fun j g1 g2 => pz_up_ne (by omega)), q_cP_ag hP (by omega) (pz_up_ne (by omega)) (fun j g1 g2 => pz_up_ne (by omega))⟩) (hof9.2) (t_zw_at ⟨by decide, by decide⟩) (t_ci0 hof9.1) hz⟩⟩
      · skip
        refine ⟨_, _, 0, 3, trivial, s_X10_start_3 (L := L) (iv := iv) e hk hE hB hS hC hA hO hL hP hci hcase0 hcase1 hcase2, Or.inr ⟨3, rfl, rfl, by decide⟩, ?_⟩
        intro iv1 e9
        obtain ⟨o9, l9, n9, w9, d9, m9, V9, W9, U9, Y9, p9, q9, r9, e8, hci9, ho9⟩ := e9
        subst e8
        exact ⟨hsc, fun x9 => ⟨_, s_X11_start_3 (L := L) (iv := pz_u1 _ 164 x9) e hk hcase0 sen9 (fun q => hcase2 ((t_rs2 hk zx ⟨by omega, by omega⟩).symm.trans q)), rfl, rfl, t_I_keep hI (by intro r hr; repeat (first | rfl | refine t_k1 (by omega) ?_ | refine t_k2 rfl ?_)) ho9 (t_zw_at ⟨by decide, by decide⟩) hci9 hz⟩⟩
    · skip
      have sen9 := fun q => hcase1 ((t_seen (g := iv 157) (v := iv 158) (a := iv 159) hk hz).mp q)
      refine ⟨_, _, 0, 2, trivial, s_X10_start_2 (L := L) (iv := iv) e hk hE hB hS hC hA hO hL hP hci hcase0 hcase1, Or.inr ⟨0, rfl, rfl, by decide⟩, ?_⟩
      intro iv1 e9
      obtain ⟨o9, l9, n9, w9, d9, m9, V9, W9, U9, Y9, p9, q9, r9, e8, hci9, ho9⟩ := e9
      subst e8
      exact ⟨hsc, fun x9 => ⟨_, s_X11_start_2 (L := L) (iv := pz_u1 _ 164 x9) e hk hcase0 sen9, rfl, rfl, t_I_keep hI (by intro r hr; repeat (first | rfl | refine t_k1 (by omega) ?_ | refine t_k2 rfl ?_)) ho9 (t_zw_at ⟨by decide, by decide⟩) hci9 hz⟩⟩
  · skip
    refine ⟨_, _, 0, 1, trivial, t_RE (s_X10_start_1 (L := L) (iv := iv) e hk hE hB hS hC hA hO hL hP hci hcase0), Or.inr ⟨2, rfl, rfl, by decide⟩, ?_⟩
    intro iv1 e9
    have e8 : iv1 = _ := e9
    subst e8
    exact ⟨hsc, fun x9 => ⟨_, s_X11_start_1 (L := L) (iv := pz_u1 _ 164 x9) e hk hcase0, rfl, rfl, t_I_keep hI (by intro r hr; repeat (first | rfl | refine t_k1 (by omega) ?_ | refine t_k2 rfl ?_)) rfl (rfl) hci hz⟩⟩
theorem t_P_end {sc : Nat → Int} {L : Nat} {iv : Nat → Nat → Int} {s : Int} (h : t_I sc iv) : t_Q t_Bi sc L 151 274 t_Vi t_Vi (pz_hc 326) [.inl s] iv := by
  have hI := h
  obtain ⟨hsc, hk, ⟨hE, hB, hS, hC, hA, hO, hL, hP⟩, hci, hz, hof, ho3, hfr⟩ := h
  have h0 := hk.r0
  by_cases hcase0 : 0 ≤ s ∧ s ≤ iv 155 2 - 1
  · skip
    by_cases hcase1 : q_sta (iv 155) (iv 155 (212 + 4 * s).toNat) ∧ ¬ q_sta (iv 155) (iv 155 (212 + 4 * s + 1).toNat)
    · skip
      by_cases hcase2 : iv 155 (212 + 4 * s + 2).toNat ≤ iv 155 4 - iv 155 (6 + iv 155 (212 + 4 * s).toNat).toNat ∧ iv 155 4 - iv 155 (6 + iv 155 (212 + 4 * s).toNat).toNat ≤ iv 155 (212 + 4 * s + 3).toNat
      · skip
        have sp := hk.sp hcase0.1 (show s < iv 155 2 by omega)
        have en9 : ∀ t : Int, 0 ≤ t → t < iv 155 2 → iv 155 (212 + 4 * t + 1).toNat = iv 155 (212 + 4 * s + 1).toNat → t = s := fun t t1 t2 t3 => by
          rcases Int.lt_trichotomy t s with q | q | q
          · exact absurd t3 (hk.sq t1 q (by omega))
          · exact q
          · exact absurd t3.symm (hk.sq hcase0.1 q t2)
        refine ⟨_, _, iv 155 4 - iv 155 (6 + iv 155 (212 + 4 * s).toNat).toNat, 0, trivial, t_RE (s_X10_end_0 (L := L) (iv := iv) s hk hE hB hS hC hA hO hL hP hcase0 hcase1 hcase2), Or.inl ⟨rfl, rfl⟩, ?_⟩
        intro iv1 e9
        have e8 : iv1 = _ := e9
        subst e8
        exact ⟨hsc, fun x9 => ⟨_, s_X11_end_0 (L := L) (iv := pz_u1 _ 164 x9) s hk hcase0 hcase1 hcase2, rfl, rfl, t_I_mut2 (k' := pz_up (iv 155) (6 + iv 155 (212 + 4 * s + 1).toNat).toNat (iv 155 4)) hI (rfl) (by intro r hr; repeat (first | rfl | refine t_k1 (by omega) ?_ | refine t_k2 rfl ?_)) (t_KR_st hk (by omega) hcase1.2 (fun t t1 t2 t3 => by rw [en9 t t1 t2 t3]; exact ⟨hcase1.1, hcase2⟩)) (⟨q_cE_ag hE (pz_up_ne (by omega)) (pz_up_ne (by omega)), q_cB_ag hB (by omega) (pz_up_ne (by omega)) (fun j g1 g2 => pz_up_ne (by omega)), q_cS_ag hS (by omega) (pz_up_ne (by omega)) (fun j g1 g2 => pz_up_ne (by omega)), q_cC_st hC (by omega), q_cA_ag hA (by omega) (pz_up_ne (by omega)) (pz_up_ne (by omega)) (fun j g1 g2 => pz_up_ne (by omega)), q_cO_ag hO (fun j g1 g2 => pz_up_ne (by omega)), q_cL_ag hL (fun j g1 g2 => pz_up_ne (by omega)), q_cP_ag hP (by omega) (pz_up_ne (by omega)) (fun j g1 g2 => pz_up_ne (by omega))⟩) (rfl) (rfl) (t_ci0 ⟨rfl, rfl, rfl⟩) hz⟩⟩
      · skip
        refine ⟨_, _, 0, 3, trivial, t_RE (s_X10_end_3 (L := L) (iv := iv) s hk hE hB hS hC hA hO hL hP hcase0 hcase1 hcase2), Or.inr ⟨3, rfl, rfl, by decide⟩, ?_⟩
        intro iv1 e9
        have e8 : iv1 = _ := e9
        subst e8
        exact ⟨hsc, fun x9 => ⟨_, s_X11_end_3 (L := L) (iv := pz_u1 _ 164 x9) s hk hcase0 hcase1 hcase2, rfl, rfl, t_I_keep hI (by intro r hr; repeat (first | rfl | refine t_k1 (by omega) ?_ | refine t_k2 rfl ?_)) rfl (rfl) hci hz⟩⟩
    · skip
      refine ⟨_, _, 0, 2, trivial, t_RE (s_X10_end_2 (L := L) (iv := iv) s hk hE hB hS hC hA hO hL hP hcase0 hcase1), Or.inr ⟨0, rfl, rfl, by decide⟩, ?_⟩
      intro iv1 e9
      have e8 : iv1 = _ := e9
      subst e8
      exact ⟨hsc, fun x9 => ⟨_, s_X11_end_2 (L := L) (iv := pz_u1 _ 164 x9) s hk hcase0 hcase1, rfl, rfl, t_I_keep hI (by intro r hr; repeat (first | rfl | refine t_k1 (by omega) ?_ | refine t_k2 rfl ?_)) rfl (rfl) hci hz⟩⟩
  · skip
    refine ⟨_, _, 0, 1, trivial, t_RE (s_X10_end_1 (L := L) (iv := iv) s hk hE hB hS hC hA hO hL hP hcase0), Or.inr ⟨2, rfl, rfl, by decide⟩, ?_⟩
    intro iv1 e9
    have e8 : iv1 = _ := e9
    subst e8
    exact ⟨hsc, fun x9 => ⟨_, s_X11_end_1 (L := L) (iv := pz_u1 _ 164 x9) s hk hcase0, rfl, rfl, t_I_keep hI (by intro r hr; repeat (first | rfl | refine t_k1 (by omega) ?_ | refine t_k2 rfl ?_)) rfl (rfl) hci hz⟩⟩
theorem t_P_pass {sc : Nat → Int} {L : Nat} {iv : Nat → Nat → Int} {m : Int} (h : t_I sc iv) : t_Q t_Bi sc L 152 275 t_Vi t_Vi (pz_hc 327) [.inl m] iv := by
  have hI := h
  obtain ⟨hsc, hk, ⟨hE, hB, hS, hC, hA, hO, hL, hP⟩, hci, hz, hof, ho3, hfr⟩ := h
  have h0 := hk.r0
  by_cases hcase0 : 1 ≤ m ∧ m ≤ 200
  · skip
    by_cases hcase1 : q_exi (q_ovr (iv 155) m) (iv 155 2)
    · skip
      refine ⟨_, _, 0, 2, trivial, t_RE (s_X10_pass_2 (L := L) (iv := iv) m hk hE hB hS hC hA hO hL hP hcase0 hcase1), Or.inr ⟨3, rfl, rfl, by decide⟩, ?_⟩
      intro iv1 e9
      have e8 : iv1 = _ := e9
      subst e8
      exact ⟨hsc, fun x9 => ⟨_, s_X11_pass_2 (L := L) (iv := pz_u1 _ 164 x9) m hk hcase0 hcase1, rfl, rfl, t_I_keep hI (by intro r hr; repeat (first | rfl | refine t_k1 (by omega) ?_ | refine t_k2 rfl ?_)) rfl (rfl) hci hz⟩⟩
    · skip
      by_cases hcase2 : 600 < iv 155 4 + m
      · skip
        refine ⟨_, _, 0, 3, trivial, t_RE (s_X10_pass_3 (L := L) (iv := iv) m hk hE hB hS hC hA hO hL hP hcase0 hcase1 hcase2), Or.inr ⟨0, rfl, rfl, by decide⟩, ?_⟩
        intro iv1 e9
        have e8 : iv1 = _ := e9
        subst e8
        exact ⟨hsc, fun x9 => ⟨_, s_X11_pass_3 (L := L) (iv := pz_u1 _ 164 x9) m hk hcase0 hcase1 hcase2, rfl, rfl, t_I_keep hI (by intro r hr; repeat (first | rfl | refine t_k1 (by omega) ?_ | refine t_k2 rfl ?_)) rfl (rfl) hci hz⟩⟩
      · skip
        refine ⟨_, _, iv 155 4 + m, 0, trivial, t_RE (s_X10_pass_0 (L := L) (iv := iv) m hk hE hB hS hC hA hO hL hP hcase0 hcase1 (Int.not_lt.mp hcase2)), Or.inl ⟨rfl, rfl⟩, ?_⟩
        intro iv1 e9
        have e8 : iv1 = _ := e9
        subst e8
        exact ⟨hsc, fun x9 => ⟨_, s_X11_pass_0 (L := L) (iv := pz_u1 _ 164 x9) m hk hcase0 hcase1 (Int.not_lt.mp hcase2), rfl, rfl, t_I_mut2 (k' := pz_up (iv 155) 4 (iv 155 4 + m)) hI (rfl) (by intro r hr; repeat (first | rfl | refine t_k1 (by omega) ?_ | refine t_k2 rfl ?_)) (t_KR_pass hk (by omega)) (⟨q_cE_ag hE (pz_up_ne (by omega)) (pz_up_ne (by omega)), q_cB_ag hB (by omega) (pz_up_ne (by omega)) (fun j g1 g2 => pz_up_ne (by omega)), q_cS_ag hS (by omega) (pz_up_ne (by omega)) (fun j g1 g2 => pz_up_ne (by omega)), q_cC_now hC, q_cA_ag hA (by omega) (pz_up_ne (by omega)) (pz_up_ne (by omega)) (fun j g1 g2 => pz_up_ne (by omega)), q_cO_ag hO (fun j g1 g2 => pz_up_ne (by omega)), q_cL_ag hL (fun j g1 g2 => pz_up_ne (by omega)), q_cP_ag hP (by omega) (pz_up_ne (by omega)) (fun j g1 g2 => pz_up_ne (by omega))⟩) (rfl) (rfl) (t_J_CI hk (fun j hj => pz_up_ne (by omega)) hci) hz⟩⟩
  · skip
    refine ⟨_, _, 0, 1, trivial, t_RE (s_X10_pass_1 (L := L) (iv := iv) m hk hE hB hS hC hA hO hL hP hcase0), Or.inr ⟨1, rfl, rfl, by decide⟩, ?_⟩
    intro iv1 e9
    have e8 : iv1 = _ := e9
    subst e8
    exact ⟨hsc, fun x9 => ⟨_, s_X11_pass_1 (L := L) (iv := pz_u1 _ 164 x9) m hk hcase0, rfl, rfl, t_I_keep hI (by intro r hr; repeat (first | rfl | refine t_k1 (by omega) ?_ | refine t_k2 rfl ?_)) rfl (rfl) hci hz⟩⟩
theorem t_P_addActivity {sc : Nat → Int} {L : Nat} {iv : Nat → Nat → Int} {f : Int} {t : Int} {d : Int} (h : t_I sc iv) : t_Q t_Bi sc L 155 279 t_Vi t_Vi (pz_hc 329) [.inl f, .inl t, .inl d] iv := by
  have hI := h
  obtain ⟨hsc, hk, ⟨hE, hB, hS, hC, hA, hO, hL, hP⟩, hci, hz, hof, ho3, hfr⟩ := h
  have h0 := hk.r0
  by_cases hcase0 : 0 ≤ f ∧ f ≤ iv 155 0 - 1 ∧ 0 ≤ t ∧ t ≤ iv 155 0 - 1
  · skip
    by_cases hcase1 : f ≠ t ∧ 1 ≤ d ∧ d ≤ 9
    · skip
      by_cases hcase2 : iv 155 3 = 5
      · skip
        refine ⟨_, _, 0, 3, trivial, t_RE (s_X10_addActivity_3 (L := L) (iv := iv) f t d hk hE hB hS hC hA hO hL hP hcase0 hcase1 hcase2), Or.inr ⟨0, rfl, rfl, by decide⟩, ?_⟩
        intro iv1 e9
        have e8 : iv1 = _ := e9
        subst e8
        exact ⟨hsc, fun x9 => ⟨_, s_X11_addActivity_3 (L := L) (iv := pz_u1 _ 164 x9) f t d hk hcase0 hcase1 hcase2, rfl, rfl, t_I_keep hI (by intro r hr; repeat (first | rfl | refine t_k1 (by omega) ?_ | refine t_k2 rfl ?_)) rfl (rfl) hci hz⟩⟩
      · skip
        refine ⟨_, _, iv 155 3, 0, trivial, t_RE (s_X10_addActivity_0 (L := L) (iv := iv) f t d hk hE hB hS hC hA hO hL hP hcase0 hcase1 hcase2), Or.inl ⟨rfl, rfl⟩, ?_⟩
        intro iv1 e9
        have e8 : iv1 = _ := e9
        subst e8
        exact ⟨hsc, fun x9 => ⟨_, s_X11_addActivity_0 (L := L) (iv := pz_u1 _ 164 x9) f t d hk hcase0 hcase1 hcase2, rfl, rfl, t_I_mut2 (k' := q_addac (iv 155) f t d) hI (rfl) (by intro r hr; repeat (first | rfl | refine t_k1 (by omega) ?_ | refine t_k2 rfl ?_)) (t_KR_ac hk (by omega) (by omega) hcase1.1 (by omega) hcase2) (⟨q_cE_ag hE (t_addac_ne (by omega) (by omega)) (t_addac_ne (by omega) (by omega)), q_cB_ag hB (by omega) (t_addac_ne (by omega) (by omega)) (fun j g1 g2 => t_addac_ne (by omega) (by omega)), q_cS_ag hS (by omega) (t_addac_ne (by omega) (by omega)) (fun j g1 g2 => t_addac_ne (by omega) (by omega)), q_cC_ag hC (t_addac_ne (by omega) (by omega)) (fun j g1 g2 => t_addac_ne (by omega) (by omega)), q_cA_add hA (by omega), q_cO_ag hO (fun j g1 g2 => t_addac_ne (by omega) (by omega)), q_cL_ag hL (fun j g1 g2 => t_addac_ne (by omega) (by omega)), q_cP_ag hP (by omega) (t_addac_ne (by omega) (by omega)) (fun j g1 g2 => t_addac_ne (by omega) (by omega))⟩) (rfl) (rfl) (t_J_CI hk (fun j hj => t_addac_ne (by omega) (by omega)) hci) hz⟩⟩
    · skip
      refine ⟨_, _, 0, 2, trivial, t_RE (s_X10_addActivity_2 (L := L) (iv := iv) f t d hk hE hB hS hC hA hO hL hP hcase0 hcase1), Or.inr ⟨1, rfl, rfl, by decide⟩, ?_⟩
      intro iv1 e9
      have e8 : iv1 = _ := e9
      subst e8
      exact ⟨hsc, fun x9 => ⟨_, s_X11_addActivity_2 (L := L) (iv := pz_u1 _ 164 x9) f t d hk hcase0 hcase1, rfl, rfl, t_I_keep hI (by intro r hr; repeat (first | rfl | refine t_k1 (by omega) ?_ | refine t_k2 rfl ?_)) rfl (rfl) hci hz⟩⟩
  · skip
    refine ⟨_, _, 0, 1, trivial, t_RE (s_X10_addActivity_1 (L := L) (iv := iv) f t d hk hE hB hS hC hA hO hL hP hcase0), Or.inr ⟨2, rfl, rfl, by decide⟩, ?_⟩
    intro iv1 e9
    have e8 : iv1 = _ := e9
    subst e8
    exact ⟨hsc, fun x9 => ⟨_, s_X11_addActivity_1 (L := L) (iv := pz_u1 _ 164 x9) f t d hk hcase0, rfl, rfl, t_I_keep hI (by intro r hr; repeat (first | rfl | refine t_k1 (by omega) ?_ | refine t_k2 rfl ?_)) rfl (rfl) hci hz⟩⟩
theorem t_P_setCapacity {sc : Nat → Int} {L : Nat} {iv : Nat → Nat → Int} {c : Int} (h : t_I sc iv) : t_Q t_Bi sc L 156 280 t_Vi t_Vi (pz_hc 330) [.inl c] iv := by
  have hI := h
  obtain ⟨hsc, hk, ⟨hE, hB, hS, hC, hA, hO, hL, hP⟩, hci, hz, hof, ho3, hfr⟩ := h
  have h0 := hk.r0
  by_cases hcase0 : 0 ≤ c ∧ c ≤ 40
  · skip
    refine ⟨_, _, iv 155 5, 0, trivial, t_RE (s_X10_setCapacity_0 (L := L) (iv := iv) c hk hE hB hS hC hA hO hL hP hcase0), Or.inl ⟨rfl, rfl⟩, ?_⟩
    intro iv1 e9
    have e8 : iv1 = _ := e9
    subst e8
    exact ⟨hsc, fun x9 => ⟨_, s_X11_setCapacity_0 (L := L) (iv := pz_u1 _ 164 x9) c hk hcase0, rfl, rfl, t_I_mut2 (k' := pz_up (iv 155) 5 c) hI (rfl) (by intro r hr; repeat (first | rfl | refine t_k1 (by omega) ?_ | refine t_k2 rfl ?_)) (t_KR_cap hk hcase0) (⟨q_cE_ag hE (pz_up_ne (by omega)) (pz_up_ne (by omega)), q_cB_ag hB (by omega) (pz_up_ne (by omega)) (fun j g1 g2 => pz_up_ne (by omega)), q_cS_ag hS (by omega) (pz_up_ne (by omega)) (fun j g1 g2 => pz_up_ne (by omega)), q_cC_ag hC (pz_up_ne (by omega)) (fun j g1 g2 => pz_up_ne (by omega)), q_cA_cap hA (by omega), q_cO_ag hO (fun j g1 g2 => pz_up_ne (by omega)), q_cL_ag hL (fun j g1 g2 => pz_up_ne (by omega)), q_cP_ag hP (by omega) (pz_up_ne (by omega)) (fun j g1 g2 => pz_up_ne (by omega))⟩) (rfl) (rfl) (t_J_CI hk (fun j hj => pz_up_ne (by omega)) hci) hz⟩⟩
  · skip
    refine ⟨_, _, 0, 1, trivial, t_RE (s_X10_setCapacity_1 (L := L) (iv := iv) c hk hE hB hS hC hA hO hL hP hcase0), Or.inr ⟨1, rfl, rfl, by decide⟩, ?_⟩
    intro iv1 e9
    have e8 : iv1 = _ := e9
    subst e8
    exact ⟨hsc, fun x9 => ⟨_, s_X11_setCapacity_1 (L := L) (iv := pz_u1 _ 164 x9) c hk hcase0, rfl, rfl, t_I_keep hI (by intro r hr; repeat (first | rfl | refine t_k1 (by omega) ?_ | refine t_k2 rfl ?_)) rfl (rfl) hci hz⟩⟩
theorem t_P_setCost {sc : Nat → Int} {L : Nat} {iv : Nat → Nat → Int} {e : Int} {d : Int} {y : Int} {z : Int} (h : t_I sc iv) : t_Q t_Bi sc L 163 295 t_Vi t_Vi (pz_hc 337) [.inl e, .inl d, .inl y, .inl z] iv := by
  have hI := h
  obtain ⟨hsc, hk, ⟨hE, hB, hS, hC, hA, hO, hL, hP⟩, hci, hz, hof, ho3, hfr⟩ := h
  have h0 := hk.r0
  by_cases hcase0 : 0 ≤ e ∧ e ≤ iv 155 0 - 1
  · skip
    by_cases hcase1 : 0 ≤ d ∧ d ≤ 999 ∧ 0 ≤ y ∧ y ≤ 99 ∧ 0 ≤ z ∧ z ≤ 99
    · skip
      refine ⟨_, _, iv 155 (16 + e).toNat, 0, trivial, t_RE (s_X10_setCost_0 (L := L) (iv := iv) e d y z hk hE hB hS hC hA hO hL hP hcase0 hcase1), Or.inl ⟨rfl, rfl⟩, ?_⟩
      intro iv1 e9
      have e8 : iv1 = _ := e9
      subst e8
      exact ⟨hsc, fun x9 => ⟨_, s_X11_setCost_0 (L := L) (iv := pz_u1 _ 164 x9) e d y z hk hcase0 hcase1, rfl, rfl, t_I_mut2 (k' := pz_up (pz_up (pz_up (iv 155) (16 + e).toNat d) (26 + e).toNat y) (36 + e).toNat z) hI (rfl) (by intro r hr; repeat (first | rfl | refine t_k1 (by omega) ?_ | refine t_k2 rfl ?_)) (t_KR_cost hk (by omega) (by omega) (by omega) (by omega)) (⟨q_cE_ag hE ((pz_up_ne (by omega)).trans ((pz_up_ne (by omega)).trans (pz_up_ne (by omega)))) ((pz_up_ne (by omega)).trans ((pz_up_ne (by omega)).trans (pz_up_ne (by omega)))), q_cB_ag hB (by omega) ((pz_up_ne (by omega)).trans ((pz_up_ne (by omega)).trans (pz_up_ne (by omega)))) (fun j g1 g2 => (pz_up_ne (by omega)).trans ((pz_up_ne (by omega)).trans (pz_up_ne (by omega)))), q_cS_ag hS (by omega) ((pz_up_ne (by omega)).trans ((pz_up_ne (by omega)).trans (pz_up_ne (by omega)))) (fun j g1 g2 => (pz_up_ne (by omega)).trans ((pz_up_ne (by omega)).trans (pz_up_ne (by omega)))), q_cC_ag hC ((pz_up_ne (by omega)).trans ((pz_up_ne (by omega)).trans (pz_up_ne (by omega)))) (fun j g1 g2 => (pz_up_ne (by omega)).trans ((pz_up_ne (by omega)).trans (pz_up_ne (by omega)))), q_cA_ag hA (by omega) ((pz_up_ne (by omega)).trans ((pz_up_ne (by omega)).trans (pz_up_ne (by omega)))) ((pz_up_ne (by omega)).trans ((pz_up_ne (by omega)).trans (pz_up_ne (by omega)))) (fun j g1 g2 => (pz_up_ne (by omega)).trans ((pz_up_ne (by omega)).trans (pz_up_ne (by omega)))), q_cO_put hO (by omega), q_cL_ag hL (fun j g1 g2 => (pz_up_ne (by omega)).trans ((pz_up_ne (by omega)).trans (pz_up_ne (by omega)))), q_cP_ag hP (by omega) ((pz_up_ne (by omega)).trans ((pz_up_ne (by omega)).trans (pz_up_ne (by omega)))) (fun j g1 g2 => (pz_up_ne (by omega)).trans ((pz_up_ne (by omega)).trans (pz_up_ne (by omega))))⟩) (rfl) (rfl) (t_J_CI hk (fun j hj => (pz_up_ne (by omega)).trans ((pz_up_ne (by omega)).trans (pz_up_ne (by omega)))) hci) hz⟩⟩
    · skip
      refine ⟨_, _, 0, 2, trivial, t_RE (s_X10_setCost_2 (L := L) (iv := iv) e d y z hk hE hB hS hC hA hO hL hP hcase0 hcase1), Or.inr ⟨1, rfl, rfl, by decide⟩, ?_⟩
      intro iv1 e9
      have e8 : iv1 = _ := e9
      subst e8
      exact ⟨hsc, fun x9 => ⟨_, s_X11_setCost_2 (L := L) (iv := pz_u1 _ 164 x9) e d y z hk hcase0 hcase1, rfl, rfl, t_I_keep hI (by intro r hr; repeat (first | rfl | refine t_k1 (by omega) ?_ | refine t_k2 rfl ?_)) rfl (rfl) hci hz⟩⟩
  · skip
    refine ⟨_, _, 0, 1, trivial, t_RE (s_X10_setCost_1 (L := L) (iv := iv) e d y z hk hE hB hS hC hA hO hL hP hcase0), Or.inr ⟨2, rfl, rfl, by decide⟩, ?_⟩
    intro iv1 e9
    have e8 : iv1 = _ := e9
    subst e8
    exact ⟨hsc, fun x9 => ⟨_, s_X11_setCost_1 (L := L) (iv := pz_u1 _ 164 x9) e d y z hk hcase0, rfl, rfl, t_I_keep hI (by intro r hr; repeat (first | rfl | refine t_k1 (by omega) ?_ | refine t_k2 rfl ?_)) rfl (rfl) hci hz⟩⟩
theorem t_P_level {sc : Nat → Int} {L : Nat} {iv : Nat → Nat → Int} (h : t_I sc iv) : t_Q t_Bi sc L 162 294 t_Vi t_Vi (pz_hc 336) [] iv := by
  have hI := h
  obtain ⟨hsc, hk, ⟨hE, hB, hS, hC, hA, hO, hL, hP⟩, hci, hz, hof, ho3, hfr⟩ := h
  have h0 := hk.r0
  by_cases hcase0 : q_con (iv 155) (fun _ => 0)
  · skip
    have con9 := (t_con hk hz).mpr hcase0
    have dd := t_dd (g := iv 157) hk hz hcase0
    have lv9 := (t_lvs (g := q_dd (iv 155) (iv 161) (iv 157)) hk hz hcase0 40).1
    refine ⟨_, _, q_lvk 40 (iv 155) 1 - iv 155 1, 0, trivial, s_X10_level_0 (L := L) (iv := iv) hk hE hB hS hC hA hO hL hP hci hcase0, Or.inl ⟨rfl, rfl⟩, ?_⟩
    intro iv1 e9
    obtain ⟨o9, f4, f5, f6, f7, f8, f9, l9, n9, w9, d9, e8, hci9, ho9, hB9, hkk9, hag9⟩ := e9
    subst e8
    exact ⟨hsc, fun x9 => ⟨_, t_Rv (s_X11_level_0 (L := L) (iv := pz_u1 _ 164 x9) hk con9) (congrArg t_Vi (congrArg (fun f : Nat → Int => f 1 - iv 155 1) lv9)), rfl, rfl, t_I_mut2 (k' := q_lvk 40 (iv 155)) hI (lv9) (by intro r hr; repeat (first | rfl | refine t_k1 (by omega) ?_ | refine t_k2 rfl ?_)) (hkk9) (⟨q_cE_ag hE (hag9 0 (by omega)) (hag9 240 (by omega)), hB9, q_cS_ag hS (by omega) (hag9 2 (by omega)) (fun j g1 g2 => hag9 j (by omega)), q_cC_ag hC (hag9 4 (by omega)) (fun j g1 g2 => hag9 j (by omega)), q_cA_ag hA (by omega) (hag9 3 (by omega)) (hag9 5 (by omega)) (fun j g1 g2 => hag9 j (by omega)), q_cO_ag hO (fun j g1 g2 => hag9 j (by omega)), q_cL_ag hL (fun j g1 g2 => hag9 j (by omega)), q_cP_ag hP (by omega) (hag9 240 (by omega)) (fun j g1 g2 => hag9 j (by omega))⟩) (ho9) (rfl) (hci9) hz⟩⟩
  · skip
    have con9 := fun q => hcase0 ((t_con hk hz).mp q)
    refine ⟨_, _, 0, 1, trivial, s_X10_level_1 (L := L) (iv := iv) hk hE hB hS hC hA hO hL hP hci hcase0, Or.inr ⟨0, rfl, rfl, by decide⟩, ?_⟩
    intro iv1 e9
    obtain ⟨o9, l9, n9, w9, d9, e8, hci9, ho9⟩ := e9
    subst e8
    exact ⟨hsc, fun x9 => ⟨_, s_X11_level_1 (L := L) (iv := pz_u1 _ 164 x9) hk con9, rfl, rfl, t_I_keep hI (by intro r hr; repeat (first | rfl | refine t_k1 (by omega) ?_ | refine t_k2 rfl ?_)) ho9 (rfl) hci9 hz⟩⟩
theorem t_P_play {sc : Nat → Int} {L : Nat} {iv : Nat → Nat → Int} {p : Int} (h : t_I sc iv) : t_Q t_Bi sc L 143 263 t_Vi t_Vi (pz_hc 318) [.inl p] iv := by
  have hI := h
  obtain ⟨hsc, hk, ⟨hE, hB, hS, hC, hA, hO, hL, hP⟩, hci, hz, hof, ho3, hfr⟩ := h
  have h0 := hk.r0
  by_cases hcase0 : 0 ≤ p ∧ p ≤ q_p2 (iv 155 2) - 1
  · skip
    by_cases hcase1 : q_exi (fun i => 1 ≤ i ∧ q_sta (iv 155) i) (iv 155 0)
    · skip
      refine ⟨_, _, 0, 2, trivial, t_RE (s_X10_play_2a (L := L) (iv := iv) p hk hE hB hS hC hA hO hL hP hci hcase0 hcase1), Or.inr ⟨0, rfl, rfl, by decide⟩, ?_⟩
      intro iv1 e9
      have e8 : iv1 = _ := e9
      subst e8
      exact ⟨hsc, fun x9 => ⟨_, s_X11_play_2a (L := L) (iv := pz_u1 _ 164 x9) p hk hcase0 hcase1, rfl, rfl, t_I_keep hI (by intro r hr; repeat (first | rfl | refine t_k1 (by omega) ?_ | refine t_k2 rfl ?_)) rfl (t_zw_at ⟨by decide, by decide⟩) hci hz⟩⟩
    · skip
      by_cases hcase2 : q_sen (iv 155)
      · skip
        have sen9 := (t_seen (g := iv 157) (v := iv 158) (a := iv 159) hk hz).mpr hcase2
        have zx := t_zX (g := iv 157) (v := iv 158) (a := iv 159) hk hz hcase2.1
        by_cases hcase3 : q_flk (iv 155) p = 45
        · skip
          have ln9 : iv 155 0 ≤ 10 := by omega
          have f45 : q_fl (q_zX (iv 155) (iv 161) (iv 157) (iv 158) (iv 159)).1 (iv 155) p (iv 160) = 45 := (t_fl hk zx).trans hcase3
          have ok9 := t_fl_ok hk f45
          have pl9 : m_A 10 (q_pl (q_val (iv 155)) (iv 155) p (iv 153)) (q_pl (q_zX (iv 155) (iv 161) (iv 157) (iv 158) (iv 159)).1 (iv 155) p (iv 160)) := m_A_sym (t_pl2 hk zx)
          have pk9 : m_A 10 (q_pl (q_zX (iv 155) (iv 161) (iv 157) (iv 158) (iv 159)).1 (iv 155) p (iv 160)) (q_plk (iv 155) p) := t_pl2 hk zx
          refine ⟨_, _, q_la (q_plk (iv 155) p) (iv 155 0), 0, trivial, s_X10_play_0 (L := L) (iv := iv) p hk hE hB hS hC hA hO hL hP hci hcase0 hcase1 hcase2 hcase3, Or.inl ⟨rfl, rfl⟩, ?_⟩
          intro iv1 e9
          obtain ⟨o9, z9, l9, n9, w9, d9, m9, V9, W9, U9, Y9, p9, q9, r9, x9, y9, e8, hci9, ho9⟩ := e9
          subst e8
          exact ⟨hsc, fun x9 => ⟨_, t_Rv (s_X11_play_0 (L := L) (iv := pz_u1 _ 164 x9) p hk hcase0 hcase1 sen9 f45) (congrArg t_Vi (t_la (n := iv 155 0) ln9 pk9)), rfl, rfl, t_I_mut2 (k' := q_kpl (iv 155) (q_pl (q_zX (iv 155) (iv 161) (iv 157) (iv 158) (iv 159)).1 (iv 155) p (iv 160)) (iv 155 0)) hI (rfl) (by intro r hr; repeat (first | rfl | refine t_k1 (by omega) ?_ | refine t_k2 rfl ?_)) (t_KR_kpl hk ok9) (⟨⟨hE.1, rfl⟩, q_cB_ag hB (by omega) (t_kpl_ne (by omega) (by omega)) (fun j g1 g2 => t_kpl_ne (by omega) (by omega)), q_cS_ag hS (by omega) (t_kpl_ne (by omega) (by omega)) (fun j g1 g2 => t_kpl_ne (by omega) (by omega)), q_cC_ag hC (t_kpl_ne (by omega) (by omega)) (fun j g1 g2 => t_kpl_ne (by omega) (by omega)), q_cA_ag hA (by omega) (t_kpl_ne (by omega) (by omega)) (t_kpl_ne (by omega) (by omega)) (fun j g1 g2 => t_kpl_ne (by omega) (by omega)), q_cO_ag hO (fun j g1 g2 => t_kpl_ne (by omega) (by omega)), q_cL_ag hL (fun j g1 g2 => t_kpl_ne (by omega) (by omega)), t_cP_pl (by omega) pl9⟩) (ho9) (t_zw_at ⟨by decide, by decide⟩) (t_J_CI hk (fun j hj => t_kpl_ne (by omega) (by omega)) hci9) hz⟩⟩
        · skip
          refine ⟨_, _, 0, 3, trivial, s_X10_play_3 (L := L) (iv := iv) p hk hE hB hS hC hA hO hL hP hci hcase0 hcase1 hcase2 hcase3, Or.inr ⟨3, rfl, rfl, by decide⟩, ?_⟩
          intro iv1 e9
          obtain ⟨o9, l9, n9, w9, d9, m9, V9, W9, U9, Y9, p9, q9, r9, x9, y9, e8, hci9, ho9⟩ := e9
          subst e8
          exact ⟨hsc, fun x9 => ⟨_, s_X11_play_3 (L := L) (iv := pz_u1 _ 164 x9) p hk hcase0 hcase1 sen9 (fun q => hcase3 (((t_fl hk zx : q_fl _ (iv 155) p (iv 160) = q_flk (iv 155) p)).symm.trans q)), rfl, rfl, t_I_keep hI (by intro r hr; repeat (first | rfl | refine t_k1 (by omega) ?_ | refine t_k2 rfl ?_)) ho9 (t_zw_at ⟨by decide, by decide⟩) hci9 hz⟩⟩
      · skip
        have sen9 := fun q => hcase2 ((t_seen (g := iv 157) (v := iv 158) (a := iv 159) hk hz).mp q)
        refine ⟨_, _, 0, 2, trivial, s_X10_play_2b (L := L) (iv := iv) p hk hE hB hS hC hA hO hL hP hci hcase0 hcase1 hcase2, Or.inr ⟨0, rfl, rfl, by decide⟩, ?_⟩
        intro iv1 e9
        obtain ⟨o9, l9, n9, w9, d9, m9, V9, W9, U9, Y9, p9, q9, r9, e8, hci9, ho9⟩ := e9
        subst e8
        exact ⟨hsc, fun x9 => ⟨_, s_X11_play_2b (L := L) (iv := pz_u1 _ 164 x9) p hk hcase0 hcase1 sen9, rfl, rfl, t_I_keep hI (by intro r hr; repeat (first | rfl | refine t_k1 (by omega) ?_ | refine t_k2 rfl ?_)) ho9 (t_zw_at ⟨by decide, by decide⟩) hci9 hz⟩⟩
  · skip
    refine ⟨_, _, 0, 1, trivial, t_RE (s_X10_play_1 (L := L) (iv := iv) p hk hE hB hS hC hA hO hL hP hci hcase0), Or.inr ⟨1, rfl, rfl, by decide⟩, ?_⟩
    intro iv1 e9
    have e8 : iv1 = _ := e9
    subst e8
    exact ⟨hsc, fun x9 => ⟨_, s_X11_play_1 (L := L) (iv := pz_u1 _ 164 x9) p hk hcase0, rfl, rfl, t_I_keep hI (by intro r hr; repeat (first | rfl | refine t_k1 (by omega) ?_ | refine t_k2 rfl ?_)) rfl (rfl) hci hz⟩⟩
