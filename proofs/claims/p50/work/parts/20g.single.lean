/-! each call by itself: what changes the plan -/
theorem t_S_addEvent {sc k d kf : Nat → Int} {n : Int} {L : Nat} {iv : Nat → Nat → Int} (h : t_I sc k d n kf iv) : t_O L 190 [.inr (.inl 2)] iv (.inl (c_addEvent k)) 1 (t_I sc (k_addEvent k) d n kf) := by
  have hI := h
  obtain ⟨hsc, hk, ⟨hE, hB, hS, hC, hA, hO, hL, hP⟩, hci, hd, hn2, hfr⟩ := h
  have h0 := hk.r0
  unfold c_addEvent k_addEvent
  by_cases hcase0 : k 0 = 10
  · rw [q_if_t hcase0]
    rw [q_if_t hcase0]
    refine t_w190 (t_REi (t_RE (s_X10_addEvent_1 (L := L) (iv := iv) hk hE hB hS hC hA hO hL hP hcase0)) (fun iv1 e9 => ?_)) (t_an_e (E := 0) (q := 1) rfl)
    have e8 : iv1 = _ := e9
    subst e8
    exact t_I_keep hI (by intro r hr; repeat (first | rfl | refine t_k1 (by omega) ?_ | refine t_k2 rfl ?_)) rfl (hci)
  · rw [q_if_f hcase0]
    rw [q_if_f hcase0]
    refine t_w190 (t_REi (t_RE (s_X10_addEvent_0 (L := L) (iv := iv) hk hE hB hS hC hA hO hL hP hcase0)) (fun iv1 e9 => ?_)) (Or.inl rfl)
    have e8 : iv1 = _ := e9
    subst e8
    exact t_I_mut (k' := pz_up k 0 (k 0 + 1)) hI (by intro r hr; repeat (first | rfl | refine t_k1 (by omega) ?_ | refine t_k2 rfl ?_)) (t_KR_ev hk hcase0) (⟨⟨rfl, hE.2⟩, q_cB_ag hB (by omega) (pz_up_ne (by omega)) (fun j g1 g2 => pz_up_ne (by omega)), q_cS_ag hS (by omega) (pz_up_ne (by omega)) (fun j g1 g2 => pz_up_ne (by omega)), q_cC_ag hC (pz_up_ne (by omega)) (fun j g1 g2 => pz_up_ne (by omega)), q_cA_ag hA (by omega) (pz_up_ne (by omega)) (pz_up_ne (by omega)) (fun j g1 g2 => pz_up_ne (by omega)), q_cO_ag hO (fun j g1 g2 => pz_up_ne (by omega)), q_cL_ag hL (fun j g1 g2 => pz_up_ne (by omega)), q_cP_ag hP (by omega) (pz_up_ne (by omega)) (fun j g1 g2 => pz_up_ne (by omega))⟩) (rfl) (t_ci0 ⟨rfl, rfl, rfl⟩)
theorem t_S_bound {sc k d kf : Nat → Int} {n : Int} {L : Nat} {iv : Nat → Nat → Int} {f : Int} {t : Int} {w : Int} {l : Int} (h : t_I sc k d n kf iv) : t_O L 191 [.inr (.inl 2), .inl f, .inl t, .inl w, .inl l] iv (.inl (c_bound k f t w l)) 1 (t_I sc (k_bound k f t w l) d n kf) := by
  have hI := h
  obtain ⟨hsc, hk, ⟨hE, hB, hS, hC, hA, hO, hL, hP⟩, hci, hd, hn2, hfr⟩ := h
  have h0 := hk.r0
  unfold c_bound k_bound
  by_cases hcase0 : 0 ≤ f ∧ f ≤ k 0 - 1 ∧ 0 ≤ t ∧ t ≤ k 0 - 1
  · rw [q_if_t hcase0]
    rw [q_if_t hcase0]
    by_cases hcase1 : f ≠ t ∧ -500 ≤ w ∧ w ≤ 500 ∧ -4 ≤ l ∧ l ≤ 4
    · rw [q_if_t hcase1]
      rw [q_if_t hcase1]
      by_cases hcase2 : k 1 = 40
      · rw [q_if_t hcase2]
        rw [q_if_t hcase2]
        refine t_w191 (t_REi (t_RE (s_X10_bound_3 (L := L) (iv := iv) f t w l hk hE hB hS hC hA hO hL hP hcase0 hcase1 hcase2)) (fun iv1 e9 => ?_)) (t_an_e (E := 0) (q := 3) rfl)
        have e8 : iv1 = _ := e9
        subst e8
        exact t_I_keep hI (by intro r hr; repeat (first | rfl | refine t_k1 (by omega) ?_ | refine t_k2 rfl ?_)) rfl (hci)
      · rw [q_if_f hcase2]
        rw [q_if_f hcase2]
        refine t_w191 (t_REi (t_RE (s_X10_bound_0 (L := L) (iv := iv) f t w l hk hE hB hS hC hA hO hL hP hcase0 hcase1 hcase2)) (fun iv1 e9 => ?_)) (Or.inl rfl)
        have e8 : iv1 = _ := e9
        subst e8
        exact t_I_mut (k' := q_tell k f t w l) hI (by intro r hr; repeat (first | rfl | refine t_k1 (by omega) ?_ | refine t_k2 rfl ?_)) (t_KR_tell hk (by omega) (by omega) hcase1.1 (by omega) (by omega) hcase2) (⟨q_cE_ag hE (t_tell_ne (by omega) (by omega)) (t_tell_ne (by omega) (by omega)), q_cB_tell hB (by omega) (by omega), q_cS_ag hS (by omega) (t_tell_ne (by omega) (by omega)) (fun j g1 g2 => t_tell_ne (by omega) (by omega)), q_cC_ag hC (t_tell_ne (by omega) (by omega)) (fun j g1 g2 => t_tell_ne (by omega) (by omega)), q_cA_ag hA (by omega) (t_tell_ne (by omega) (by omega)) (t_tell_ne (by omega) (by omega)) (fun j g1 g2 => t_tell_ne (by omega) (by omega)), q_cO_ag hO (fun j g1 g2 => t_tell_ne (by omega) (by omega)), q_cL_ag hL (fun j g1 g2 => t_tell_ne (by omega) (by omega)), q_cP_ag hP (by omega) (t_tell_ne (by omega) (by omega)) (fun j g1 g2 => t_tell_ne (by omega) (by omega))⟩) (rfl) (t_ci0 ⟨rfl, rfl, rfl⟩)
    · rw [q_if_f hcase1]
      rw [q_if_f hcase1]
      refine t_w191 (t_REi (t_RE (s_X10_bound_2 (L := L) (iv := iv) f t w l hk hE hB hS hC hA hO hL hP hcase0 hcase1)) (fun iv1 e9 => ?_)) (t_an_e (E := 1) (q := 2) rfl)
      have e8 : iv1 = _ := e9
      subst e8
      exact t_I_keep hI (by intro r hr; repeat (first | rfl | refine t_k1 (by omega) ?_ | refine t_k2 rfl ?_)) rfl (hci)
  · rw [q_if_f hcase0]
    rw [q_if_f hcase0]
    refine t_w191 (t_REi (t_RE (s_X10_bound_1 (L := L) (iv := iv) f t w l hk hE hB hS hC hA hO hL hP hcase0)) (fun iv1 e9 => ?_)) (t_an_e (E := 2) (q := 1) rfl)
    have e8 : iv1 = _ := e9
    subst e8
    exact t_I_keep hI (by intro r hr; repeat (first | rfl | refine t_k1 (by omega) ?_ | refine t_k2 rfl ?_)) rfl (hci)
theorem t_S_dropBound {sc k d kf : Nat → Int} {n : Int} {L : Nat} {iv : Nat → Nat → Int} {b : Int} (h : t_I sc k d n kf iv) : t_O L 192 [.inr (.inl 2), .inl b] iv (.inl (c_dropBound k b)) 1 (t_I sc (k_dropBound k b) d n kf) := by
  have hI := h
  obtain ⟨hsc, hk, ⟨hE, hB, hS, hC, hA, hO, hL, hP⟩, hci, hd, hn2, hfr⟩ := h
  have h0 := hk.r0
  unfold c_dropBound k_dropBound
  by_cases hcase0 : 0 ≤ b ∧ b ≤ k 1 - 1
  · rw [q_if_t hcase0]
    rw [q_if_t hcase0]
    by_cases hcase1 : k (52 + 4 * b + 3).toNat = 99
    · rw [q_if_t hcase1]
      rw [q_if_t hcase1]
      refine t_w192 (t_REi (t_RE (s_X10_dropBound_2 (L := L) (iv := iv) b hk hE hB hS hC hA hO hL hP hcase0 hcase1)) (fun iv1 e9 => ?_)) (t_an_e (E := 0) (q := 2) rfl)
      have e8 : iv1 = _ := e9
      subst e8
      exact t_I_keep hI (by intro r hr; repeat (first | rfl | refine t_k1 (by omega) ?_ | refine t_k2 rfl ?_)) rfl (hci)
    · rw [q_if_f hcase1]
      rw [q_if_f hcase1]
      refine t_w192 (t_REi (t_RE (s_X10_dropBound_0 (L := L) (iv := iv) b hk hE hB hS hC hA hO hL hP hcase0 hcase1)) (fun iv1 e9 => ?_)) (Or.inl rfl)
      have e8 : iv1 = _ := e9
      subst e8
      exact t_I_mut (k' := pz_up k (52 + 4 * b + 3).toNat 99) hI (by intro r hr; repeat (first | rfl | refine t_k1 (by omega) ?_ | refine t_k2 rfl ?_)) (m_KR_drop hk (by omega) (by omega)) (⟨q_cE_ag hE (pz_up_ne (by omega)) (pz_up_ne (by omega)), q_cB_drop hB ⟨by omega, by omega⟩, q_cS_ag hS (by omega) (pz_up_ne (by omega)) (fun j g1 g2 => pz_up_ne (by omega)), q_cC_ag hC (pz_up_ne (by omega)) (fun j g1 g2 => pz_up_ne (by omega)), q_cA_ag hA (by omega) (pz_up_ne (by omega)) (pz_up_ne (by omega)) (fun j g1 g2 => pz_up_ne (by omega)), q_cO_ag hO (fun j g1 g2 => pz_up_ne (by omega)), q_cL_ag hL (fun j g1 g2 => pz_up_ne (by omega)), q_cP_ag hP (by omega) (pz_up_ne (by omega)) (fun j g1 g2 => pz_up_ne (by omega))⟩) (rfl) (t_ci0 ⟨rfl, rfl, rfl⟩)
  · rw [q_if_f hcase0]
    rw [q_if_f hcase0]
    refine t_w192 (t_REi (t_RE (s_X10_dropBound_1 (L := L) (iv := iv) b hk hE hB hS hC hA hO hL hP hcase0)) (fun iv1 e9 => ?_)) (t_an_e (E := 2) (q := 1) rfl)
    have e8 : iv1 = _ := e9
    subst e8
    exact t_I_keep hI (by intro r hr; repeat (first | rfl | refine t_k1 (by omega) ?_ | refine t_k2 rfl ?_)) rfl (hci)
theorem t_S_addSpan {sc k d kf : Nat → Int} {n : Int} {L : Nat} {iv : Nat → Nat → Int} {f : Int} {t : Int} {l : Int} {g : Int} (h : t_I sc k d n kf iv) : t_O L 193 [.inr (.inl 2), .inl f, .inl t, .inl l, .inl g] iv (.inl (c_addSpan k f t l g)) 1 (t_I sc (k_addSpan k f t l g) d n kf) := by
  have hI := h
  obtain ⟨hsc, hk, ⟨hE, hB, hS, hC, hA, hO, hL, hP⟩, hci, hd, hn2, hfr⟩ := h
  have h0 := hk.r0
  unfold c_addSpan k_addSpan
  by_cases hcase0 : 0 ≤ f ∧ f ≤ k 0 - 1 ∧ 0 ≤ t ∧ t ≤ k 0 - 1
  · rw [q_if_t hcase0]
    rw [q_if_t hcase0]
    by_cases hcase1 : f < t ∧ 1 ≤ l ∧ l ≤ 200 ∧ l ≤ g ∧ g ≤ 200
    · rw [q_if_t hcase1]
      rw [q_if_t hcase1]
      by_cases hcase2 : k 2 = 3
      · rw [q_if_t hcase2]
        rw [q_if_t hcase2]
        refine t_w193 (t_REi (t_RE (s_X10_addSpan_3a (L := L) (iv := iv) f t l g hk hE hB hS hC hA hO hL hP hcase0 hcase1 hcase2)) (fun iv1 e9 => ?_)) (t_an_e (E := 0) (q := 3) rfl)
        have e8 : iv1 = _ := e9
        subst e8
        exact t_I_keep hI (by intro r hr; repeat (first | rfl | refine t_k1 (by omega) ?_ | refine t_k2 rfl ?_)) rfl (hci)
      · rw [q_if_f hcase2]
        rw [q_if_f hcase2]
        by_cases hcase3 : q_exi (fun s => k (212 + 4 * s + 1).toNat = t) (k 2)
        · rw [q_if_t hcase3]
          rw [q_if_t hcase3]
          refine t_w193 (t_REi (t_RE (s_X10_addSpan_3b (L := L) (iv := iv) f t l g hk hE hB hS hC hA hO hL hP hcase0 hcase1 hcase2 hcase3)) (fun iv1 e9 => ?_)) (t_an_e (E := 0) (q := 3) rfl)
          have e8 : iv1 = _ := e9
          subst e8
          exact t_I_keep hI (by intro r hr; repeat (first | rfl | refine t_k1 (by omega) ?_ | refine t_k2 rfl ?_)) rfl (hci)
        · rw [q_if_f hcase3]
          rw [q_if_f hcase3]
          by_cases hcase4 : 0 < f ∧ q_sta k f
          · rw [q_if_t hcase4]
            rw [q_if_t hcase4]
            refine t_w193 (t_REi (t_RE (s_X10_addSpan_3c (L := L) (iv := iv) f t l g hk hE hB hS hC hA hO hL hP hcase0 hcase1 hcase2 hcase3 hcase4)) (fun iv1 e9 => ?_)) (t_an_e (E := 0) (q := 3) rfl)
            have e8 : iv1 = _ := e9
            subst e8
            exact t_I_keep hI (by intro r hr; repeat (first | rfl | refine t_k1 (by omega) ?_ | refine t_k2 rfl ?_)) rfl (hci)
          · rw [q_if_f hcase4]
            rw [q_if_f hcase4]
            by_cases hcase5 : q_sta k t
            · rw [q_if_t hcase5]
              rw [q_if_t hcase5]
              refine t_w193 (t_REi (t_RE (s_X10_addSpan_3d (L := L) (iv := iv) f t l g hk hE hB hS hC hA hO hL hP hcase0 hcase1 hcase2 hcase3 hcase4 hcase5)) (fun iv1 e9 => ?_)) (t_an_e (E := 0) (q := 3) rfl)
              have e8 : iv1 = _ := e9
              subst e8
              exact t_I_keep hI (by intro r hr; repeat (first | rfl | refine t_k1 (by omega) ?_ | refine t_k2 rfl ?_)) rfl (hci)
            · rw [q_if_f hcase5]
              rw [q_if_f hcase5]
              refine t_w193 (t_REi (t_RE (s_X10_addSpan_0 (L := L) (iv := iv) f t l g hk hE hB hS hC hA hO hL hP hcase0 hcase1 hcase2 hcase3 hcase4 hcase5)) (fun iv1 e9 => ?_)) (Or.inl rfl)
              have e8 : iv1 = _ := e9
              subst e8
              exact t_I_mut (k' := q_addsp k f t l g) hI (by intro r hr; repeat (first | rfl | refine t_k1 (by omega) ?_ | refine t_k2 rfl ?_)) (t_KR_sp hk (by omega) (by omega) (by omega) hcase2 hcase3 hcase5) (⟨q_cE_ag hE (t_addsp_ne (by omega) (by omega)) (t_addsp_ne (by omega) (by omega)), q_cB_ag hB (by omega) (t_addsp_ne (by omega) (by omega)) (fun j g1 g2 => t_addsp_ne (by omega) (by omega)), q_cS_add hS (by omega), q_cC_ag hC (t_addsp_ne (by omega) (by omega)) (fun j g1 g2 => t_addsp_ne (by omega) (by omega)), q_cA_ag hA (by omega) (t_addsp_ne (by omega) (by omega)) (t_addsp_ne (by omega) (by omega)) (fun j g1 g2 => t_addsp_ne (by omega) (by omega)), q_cO_ag hO (fun j g1 g2 => t_addsp_ne (by omega) (by omega)), q_cL_ag hL (fun j g1 g2 => t_addsp_ne (by omega) (by omega)), q_cP_ag hP (by omega) (t_addsp_ne (by omega) (by omega)) (fun j g1 g2 => t_addsp_ne (by omega) (by omega))⟩) (rfl) (t_ci0 ⟨rfl, rfl, rfl⟩)
    · rw [q_if_f hcase1]
      rw [q_if_f hcase1]
      refine t_w193 (t_REi (t_RE (s_X10_addSpan_2 (L := L) (iv := iv) f t l g hk hE hB hS hC hA hO hL hP hcase0 hcase1)) (fun iv1 e9 => ?_)) (t_an_e (E := 1) (q := 2) rfl)
      have e8 : iv1 = _ := e9
      subst e8
      exact t_I_keep hI (by intro r hr; repeat (first | rfl | refine t_k1 (by omega) ?_ | refine t_k2 rfl ?_)) rfl (hci)
  · rw [q_if_f hcase0]
    rw [q_if_f hcase0]
    refine t_w193 (t_REi (t_RE (s_X10_addSpan_1 (L := L) (iv := iv) f t l g hk hE hB hS hC hA hO hL hP hcase0)) (fun iv1 e9 => ?_)) (t_an_e (E := 2) (q := 1) rfl)
    have e8 : iv1 = _ := e9
    subst e8
    exact t_I_keep hI (by intro r hr; repeat (first | rfl | refine t_k1 (by omega) ?_ | refine t_k2 rfl ?_)) rfl (hci)
theorem t_S_observe {sc k d kf : Nat → Int} {n : Int} {L : Nat} {iv : Nat → Nat → Int} {l : Int} {z : Int} (h : t_I sc k d n kf iv) (hz9 : z = 0 ∨ z = 1) : t_O L 194 [.inr (.inl 2), .inl l, .inl z] iv (.inl (c_observe k l z)) 1 (t_I sc (k_observe k l z) d n kf) := by
  have hI := h
  obtain ⟨hsc, hk, ⟨hE, hB, hS, hC, hA, hO, hL, hP⟩, hci, hd, hn2, hfr⟩ := h
  have h0 := hk.r0
  unfold c_observe k_observe
  by_cases hl : 1 ≤ l ∧ l ≤ 4
  · rw [q_if_t hl]
    rw [q_if_t hl]
    by_cases ho : q_obs k l
    · rw [q_if_t ho]
      rw [q_if_t ho]
      refine t_w194 (t_REi (t_RE (s_X10_observe_2 (L := L) (iv := iv) l z hk hE hB hS hC hA hO hL hP hl ho)) (fun iv1 e9 => ?_)) (t_an_e (E := 0) (q := 2) rfl)
      have e8 : iv1 = _ := e9
      subst e8
      exact t_I_keep hI (by intro r hr; repeat (first | rfl | refine t_k1 (by omega) ?_ | refine t_k2 rfl ?_)) rfl (hci)
    · rw [q_if_f ho]
      rw [q_if_f ho]
      by_cases hz1 : z = 0
      · rw [q_if_t hz1]
        rw [q_if_t hz1]
        refine t_w194 (t_REi (t_RE (s_X10_observe_0f (L := L) (iv := iv) l z hk hE hB hS hC hA hO hL hP (by omega) hl ho)) (fun iv1 e9 => ?_)) (Or.inl rfl)
        have e8 : iv1 = _ := e9
        subst e8
        exact t_I_mut (k' := pz_up k (46 + l).toNat 102) hI (by intro r hr; repeat (first | rfl | refine t_k1 (by omega) ?_ | refine t_k2 rfl ?_)) (m_KR_obs hk (by omega) (by omega) (by omega)) (⟨q_cE_ag hE (pz_up_ne (by omega)) (pz_up_ne (by omega)), q_cB_ag hB (by omega) (pz_up_ne (by omega)) (fun j g1 g2 => pz_up_ne (by omega)), q_cS_ag hS (by omega) (pz_up_ne (by omega)) (fun j g1 g2 => pz_up_ne (by omega)), q_cC_ag hC (pz_up_ne (by omega)) (fun j g1 g2 => pz_up_ne (by omega)), q_cA_ag hA (by omega) (pz_up_ne (by omega)) (pz_up_ne (by omega)) (fun j g1 g2 => pz_up_ne (by omega)), q_cO_ag hO (fun j g1 g2 => pz_up_ne (by omega)), q_cL_obs hL (by omega), q_cP_ag hP (by omega) (pz_up_ne (by omega)) (fun j g1 g2 => pz_up_ne (by omega))⟩) (rfl) (t_ci0 ⟨rfl, rfl, rfl⟩)
      · rw [q_if_f hz1]
        rw [q_if_f hz1]
        refine t_w194 (t_REi (t_RE (s_X10_observe_0t (L := L) (iv := iv) l z hk hE hB hS hC hA hO hL hP (by omega) hl ho)) (fun iv1 e9 => ?_)) (Or.inl rfl)
        have e8 : iv1 = _ := e9
        subst e8
        exact t_I_mut (k' := pz_up k (46 + l).toNat 116) hI (by intro r hr; repeat (first | rfl | refine t_k1 (by omega) ?_ | refine t_k2 rfl ?_)) (m_KR_obs hk (by omega) (by omega) (by omega)) (⟨q_cE_ag hE (pz_up_ne (by omega)) (pz_up_ne (by omega)), q_cB_ag hB (by omega) (pz_up_ne (by omega)) (fun j g1 g2 => pz_up_ne (by omega)), q_cS_ag hS (by omega) (pz_up_ne (by omega)) (fun j g1 g2 => pz_up_ne (by omega)), q_cC_ag hC (pz_up_ne (by omega)) (fun j g1 g2 => pz_up_ne (by omega)), q_cA_ag hA (by omega) (pz_up_ne (by omega)) (pz_up_ne (by omega)) (fun j g1 g2 => pz_up_ne (by omega)), q_cO_ag hO (fun j g1 g2 => pz_up_ne (by omega)), q_cL_obs hL (by omega), q_cP_ag hP (by omega) (pz_up_ne (by omega)) (fun j g1 g2 => pz_up_ne (by omega))⟩) (rfl) (t_ci0 ⟨rfl, rfl, rfl⟩)
  · rw [q_if_f hl]
    rw [q_if_f hl]
    refine t_w194 (t_REi (t_RE (s_X10_observe_1 (L := L) (iv := iv) l z hk hE hB hS hC hA hO hL hP hl)) (fun iv1 e9 => ?_)) (t_an_e (E := 1) (q := 1) rfl)
    have e8 : iv1 = _ := e9
    subst e8
    exact t_I_keep hI (by intro r hr; repeat (first | rfl | refine t_k1 (by omega) ?_ | refine t_k2 rfl ?_)) rfl (hci)
theorem t_S_choose {sc k d kf : Nat → Int} {n : Int} {L : Nat} {iv : Nat → Nat → Int} (h : t_I sc k d n kf iv) : t_O L 195 [.inr (.inl 2)] iv (.inl (c_choose k)) 1 (t_I sc (k_choose k) d n kf) := by
  have hI := h
  obtain ⟨hsc, hk, ⟨hE, hB, hS, hC, hA, hO, hL, hP⟩, hci, hd, hn2, hfr⟩ := h
  have h0 := hk.r0
  unfold c_choose k_choose
  by_cases hcase0 : q_fsw k = -1
  · rw [q_if_t hcase0]
    rw [q_if_t hcase0]
    refine t_w195 (t_REi (s_X10_choose_1 (L := L) (iv := iv) hk hE hB hS hC hA hO hL hP hci hcase0) (fun iv1 e9 => ?_)) (t_an_e (E := 3) (q := 1) rfl)
    obtain ⟨n9, w9, d9, l9, e8⟩ := e9
    subst e8
    exact t_I_keep hI (by intro r hr; repeat (first | rfl | refine t_k1 (by omega) ?_ | refine t_k2 rfl ?_)) rfl (hci)
  · rw [q_if_f hcase0]
    rw [q_if_f hcase0]
    refine t_w195 (t_REi (s_X10_choose_0 (L := L) (iv := iv) hk hE hB hS hC hA hO hL hP hci hcase0) (fun iv1 e9 => ?_)) (Or.inl rfl)
    obtain ⟨y9, n9, w9, d9, l9, e8, hkl9⟩ := e9
    subst e8
    exact t_I_mut (k' := q_kw k (q_fsw k)) hI (by intro r hr; repeat (first | rfl | refine t_k1 (by omega) ?_ | refine t_k2 rfl ?_)) (m_KR_kw hk) (⟨q_cE_kw hE, q_cB_kw hB hk, q_cS_kw hS, q_cC_kw hC, q_cA_ag hA (by omega) (q_kw_same (by omega)) (q_kw_same (by omega)) (fun j g1 g2 => q_kw_same (by omega)), q_cO_ag hO (fun j g1 g2 => q_kw_same (by omega)), hkl9, q_cP_ag hP (by omega) (q_kw_same (by omega)) (fun j g1 g2 => q_kw_same (by omega))⟩) (rfl) (t_ci0 ⟨rfl, rfl, rfl⟩)
theorem t_S_start {sc k d kf : Nat → Int} {n : Int} {L : Nat} {iv : Nat → Nat → Int} {e : Int} (h : t_I sc k d n kf iv) : t_O L 211 [.inr (.inl 2), .inl e] iv (.inl (c_start k e)) 1 (t_I sc (k_start k e) d n kf) := by
  have hI := h
  obtain ⟨hsc, hk, ⟨hE, hB, hS, hC, hA, hO, hL, hP⟩, hci, hd, hn2, hfr⟩ := h
  have h0 := hk.r0
  unfold c_start k_start
  by_cases hcase0 : 0 ≤ e ∧ e ≤ k 0 - 1
  · rw [q_if_t hcase0]
    rw [q_if_t hcase0]
    by_cases hcase1 : q_sen k
    · rw [q_if_t hcase1]
      rw [q_if_t hcase1]
      by_cases hcase2 : q_rs (q_val k) (q_ka k) k e (k 4) = 45
      · rw [q_if_t hcase2]
        rw [q_if_t hcase2]
        have a9 := q_rs_45 hcase2
        rw [q_ka_e hcase0.1] at a9
        have n0 : e ≠ 0 := fun q => by
          rw [q] at a9
          have z6 : k (6 + 0 : Int).toNat = 0 := h0.2.2.2.2.2.2.1
          omega
        have ni := t_rs_ne hcase2
        refine t_w211 (t_REi (s_X10_start_0 (L := L) (iv := iv) e hk hE hB hS hC hA hO hL hP hci hcase0 hcase1 hcase2) (fun iv1 e9 => ?_)) (Or.inl rfl)
        obtain ⟨o9, l9, n9, w9, d9, m9, V9, W9, U9, Y9, p9, q9, r9, e8, hof9⟩ := e9
        subst e8
        exact t_I_mut (k' := pz_up k (6 + e).toNat (k 4)) hI (by intro r hr; repeat (first | rfl | refine t_k1 (by omega) ?_ | refine t_k2 rfl ?_)) (t_KR_st hk (by omega) (fun q => q a9) (fun s s1 s2 s3 => absurd ⟨s, s1, s2, s3⟩ ni)) (⟨q_cE_ag hE (pz_up_ne (by omega)) (pz_up_ne (by omega)), q_cB_ag hB (by omega) (pz_up_ne (by omega)) (fun j g1 g2 => pz_up_ne (by omega)), q_cS_ag hS (by omega) (pz_up_ne (by omega)) (fun j g1 g2 => pz_up_ne (by omega)), q_cC_st hC (by omega), q_cA_ag hA (by omega) (pz_up_ne (by omega)) (pz_up_ne (by omega)) (fun j g1 g2 => pz_up_ne (by omega)), q_cO_ag hO (fun j g1 g2 => pz_up_ne (by omega)), q_cL_ag hL (fun j g1 g2 => pz_up_ne (by omega)), q_cP_ag hP (by omega) (pz_up_ne (by omega)) (fun j g1 g2 => pz_up_ne (by omega))⟩) (hof9.2) (t_ci0 hof9.1)
      · rw [q_if_f hcase2]
        rw [q_if_f hcase2]
        refine t_w211 (t_REi (s_X10_start_3 (L := L) (iv := iv) e hk hE hB hS hC hA hO hL hP hci hcase0 hcase1 hcase2) (fun iv1 e9 => ?_)) (t_an_e (E := 3) (q := 3) rfl)
        obtain ⟨o9, l9, n9, w9, d9, m9, V9, W9, U9, Y9, p9, q9, r9, e8, hci9, ho9⟩ := e9
        subst e8
        exact t_I_keep hI (by intro r hr; repeat (first | rfl | refine t_k1 (by omega) ?_ | refine t_k2 rfl ?_)) ho9 (hci9)
    · rw [q_if_f hcase1]
      rw [q_if_f hcase1]
      refine t_w211 (t_REi (s_X10_start_2 (L := L) (iv := iv) e hk hE hB hS hC hA hO hL hP hci hcase0 hcase1) (fun iv1 e9 => ?_)) (t_an_e (E := 0) (q := 2) rfl)
      obtain ⟨o9, l9, n9, w9, d9, m9, V9, W9, U9, Y9, p9, q9, r9, e8, hci9, ho9⟩ := e9
      subst e8
      exact t_I_keep hI (by intro r hr; repeat (first | rfl | refine t_k1 (by omega) ?_ | refine t_k2 rfl ?_)) ho9 (hci9)
  · rw [q_if_f hcase0]
    rw [q_if_f hcase0]
    refine t_w211 (t_REi (t_RE (s_X10_start_1 (L := L) (iv := iv) e hk hE hB hS hC hA hO hL hP hci hcase0)) (fun iv1 e9 => ?_)) (t_an_e (E := 2) (q := 1) rfl)
    have e8 : iv1 = _ := e9
    subst e8
    exact t_I_keep hI (by intro r hr; repeat (first | rfl | refine t_k1 (by omega) ?_ | refine t_k2 rfl ?_)) rfl (hci)
theorem t_S_end {sc k d kf : Nat → Int} {n : Int} {L : Nat} {iv : Nat → Nat → Int} {s : Int} (h : t_I sc k d n kf iv) : t_O L 212 [.inr (.inl 2), .inl s] iv (.inl (c_end k s)) 1 (t_I sc (k_end k s) d n kf) := by
  have hI := h
  obtain ⟨hsc, hk, ⟨hE, hB, hS, hC, hA, hO, hL, hP⟩, hci, hd, hn2, hfr⟩ := h
  have h0 := hk.r0
  unfold c_end k_end
  by_cases hcase0 : 0 ≤ s ∧ s ≤ k 2 - 1
  · rw [q_if_t hcase0]
    rw [q_if_t hcase0]
    by_cases hcase1 : q_sta k (k (212 + 4 * s).toNat) ∧ ¬ q_sta k (k (212 + 4 * s + 1).toNat)
    · rw [q_if_t hcase1]
      rw [q_if_t hcase1]
      by_cases hcase2 : k (212 + 4 * s + 2).toNat ≤ k 4 - k (6 + k (212 + 4 * s).toNat).toNat ∧ k 4 - k (6 + k (212 + 4 * s).toNat).toNat ≤ k (212 + 4 * s + 3).toNat
      · rw [q_if_t hcase2]
        rw [q_if_t hcase2]
        have sp := hk.sp hcase0.1 (show s < k 2 by omega)
        have en9 : ∀ t : Int, 0 ≤ t → t < k 2 → k (212 + 4 * t + 1).toNat = k (212 + 4 * s + 1).toNat → t = s := fun t t1 t2 t3 => by
          rcases Int.lt_trichotomy t s with q | q | q
          · exact absurd t3 (hk.sq t1 q (by omega))
          · exact q
          · exact absurd t3.symm (hk.sq hcase0.1 q t2)
        refine t_w212 (t_REi (t_RE (s_X10_end_0 (L := L) (iv := iv) s hk hE hB hS hC hA hO hL hP hcase0 hcase1 hcase2)) (fun iv1 e9 => ?_)) (Or.inl rfl)
        have e8 : iv1 = _ := e9
        subst e8
        exact t_I_mut (k' := pz_up k (6 + k (212 + 4 * s + 1).toNat).toNat (k 4)) hI (by intro r hr; repeat (first | rfl | refine t_k1 (by omega) ?_ | refine t_k2 rfl ?_)) (t_KR_st hk (by omega) hcase1.2 (fun t t1 t2 t3 => by rw [en9 t t1 t2 t3]; exact ⟨hcase1.1, hcase2⟩)) (⟨q_cE_ag hE (pz_up_ne (by omega)) (pz_up_ne (by omega)), q_cB_ag hB (by omega) (pz_up_ne (by omega)) (fun j g1 g2 => pz_up_ne (by omega)), q_cS_ag hS (by omega) (pz_up_ne (by omega)) (fun j g1 g2 => pz_up_ne (by omega)), q_cC_st hC (by omega), q_cA_ag hA (by omega) (pz_up_ne (by omega)) (pz_up_ne (by omega)) (fun j g1 g2 => pz_up_ne (by omega)), q_cO_ag hO (fun j g1 g2 => pz_up_ne (by omega)), q_cL_ag hL (fun j g1 g2 => pz_up_ne (by omega)), q_cP_ag hP (by omega) (pz_up_ne (by omega)) (fun j g1 g2 => pz_up_ne (by omega))⟩) (rfl) (t_ci0 ⟨rfl, rfl, rfl⟩)
      · rw [q_if_f hcase2]
        rw [q_if_f hcase2]
        refine t_w212 (t_REi (t_RE (s_X10_end_3 (L := L) (iv := iv) s hk hE hB hS hC hA hO hL hP hcase0 hcase1 hcase2)) (fun iv1 e9 => ?_)) (t_an_e (E := 3) (q := 3) rfl)
        have e8 : iv1 = _ := e9
        subst e8
        exact t_I_keep hI (by intro r hr; repeat (first | rfl | refine t_k1 (by omega) ?_ | refine t_k2 rfl ?_)) rfl (hci)
    · rw [q_if_f hcase1]
      rw [q_if_f hcase1]
      refine t_w212 (t_REi (t_RE (s_X10_end_2 (L := L) (iv := iv) s hk hE hB hS hC hA hO hL hP hcase0 hcase1)) (fun iv1 e9 => ?_)) (t_an_e (E := 0) (q := 2) rfl)
      have e8 : iv1 = _ := e9
      subst e8
      exact t_I_keep hI (by intro r hr; repeat (first | rfl | refine t_k1 (by omega) ?_ | refine t_k2 rfl ?_)) rfl (hci)
  · rw [q_if_f hcase0]
    rw [q_if_f hcase0]
    refine t_w212 (t_REi (t_RE (s_X10_end_1 (L := L) (iv := iv) s hk hE hB hS hC hA hO hL hP hcase0)) (fun iv1 e9 => ?_)) (t_an_e (E := 2) (q := 1) rfl)
    have e8 : iv1 = _ := e9
    subst e8
    exact t_I_keep hI (by intro r hr; repeat (first | rfl | refine t_k1 (by omega) ?_ | refine t_k2 rfl ?_)) rfl (hci)
theorem t_S_pass {sc k d kf : Nat → Int} {n : Int} {L : Nat} {iv : Nat → Nat → Int} {m : Int} (h : t_I sc k d n kf iv) : t_O L 213 [.inr (.inl 2), .inl m] iv (.inl (c_pass k m)) 1 (t_I sc (k_pass k m) d n kf) := by
  have hI := h
  obtain ⟨hsc, hk, ⟨hE, hB, hS, hC, hA, hO, hL, hP⟩, hci, hd, hn2, hfr⟩ := h
  have h0 := hk.r0
  unfold c_pass k_pass
  by_cases hcase0 : 1 ≤ m ∧ m ≤ 200
  · rw [q_if_t hcase0]
    rw [q_if_t hcase0]
    by_cases hcase1 : q_exi (q_ovr k m) (k 2)
    · rw [q_if_t hcase1]
      rw [q_if_t hcase1]
      refine t_w213 (t_REi (t_RE (s_X10_pass_2 (L := L) (iv := iv) m hk hE hB hS hC hA hO hL hP hcase0 hcase1)) (fun iv1 e9 => ?_)) (t_an_e (E := 3) (q := 2) rfl)
      have e8 : iv1 = _ := e9
      subst e8
      exact t_I_keep hI (by intro r hr; repeat (first | rfl | refine t_k1 (by omega) ?_ | refine t_k2 rfl ?_)) rfl (hci)
    · rw [q_if_f hcase1]
      rw [q_if_f hcase1]
      by_cases hcase2 : 600 < k 4 + m
      · rw [q_if_t hcase2]
        rw [q_if_t hcase2]
        refine t_w213 (t_REi (t_RE (s_X10_pass_3 (L := L) (iv := iv) m hk hE hB hS hC hA hO hL hP hcase0 hcase1 hcase2)) (fun iv1 e9 => ?_)) (t_an_e (E := 0) (q := 3) rfl)
        have e8 : iv1 = _ := e9
        subst e8
        exact t_I_keep hI (by intro r hr; repeat (first | rfl | refine t_k1 (by omega) ?_ | refine t_k2 rfl ?_)) rfl (hci)
      · rw [q_if_f hcase2]
        rw [q_if_f hcase2]
        refine t_w213 (t_REi (t_RE (s_X10_pass_0 (L := L) (iv := iv) m hk hE hB hS hC hA hO hL hP hcase0 hcase1 (Int.not_lt.mp hcase2))) (fun iv1 e9 => ?_)) (Or.inl rfl)
        have e8 : iv1 = _ := e9
        subst e8
        exact t_I_mut (k' := pz_up k 4 (k 4 + m)) hI (by intro r hr; repeat (first | rfl | refine t_k1 (by omega) ?_ | refine t_k2 rfl ?_)) (t_KR_pass hk (by omega)) (⟨q_cE_ag hE (pz_up_ne (by omega)) (pz_up_ne (by omega)), q_cB_ag hB (by omega) (pz_up_ne (by omega)) (fun j g1 g2 => pz_up_ne (by omega)), q_cS_ag hS (by omega) (pz_up_ne (by omega)) (fun j g1 g2 => pz_up_ne (by omega)), q_cC_now hC, q_cA_ag hA (by omega) (pz_up_ne (by omega)) (pz_up_ne (by omega)) (fun j g1 g2 => pz_up_ne (by omega)), q_cO_ag hO (fun j g1 g2 => pz_up_ne (by omega)), q_cL_ag hL (fun j g1 g2 => pz_up_ne (by omega)), q_cP_ag hP (by omega) (pz_up_ne (by omega)) (fun j g1 g2 => pz_up_ne (by omega))⟩) (rfl) (t_J_CI hk (fun j hj => pz_up_ne (by omega)) hci)
  · rw [q_if_f hcase0]
    rw [q_if_f hcase0]
    refine t_w213 (t_REi (t_RE (s_X10_pass_1 (L := L) (iv := iv) m hk hE hB hS hC hA hO hL hP hcase0)) (fun iv1 e9 => ?_)) (t_an_e (E := 1) (q := 1) rfl)
    have e8 : iv1 = _ := e9
    subst e8
    exact t_I_keep hI (by intro r hr; repeat (first | rfl | refine t_k1 (by omega) ?_ | refine t_k2 rfl ?_)) rfl (hci)
theorem t_S_addActivity {sc k d kf : Nat → Int} {n : Int} {L : Nat} {iv : Nat → Nat → Int} {f : Int} {t : Int} {d9 : Int} (h : t_I sc k d n kf iv) : t_O L 215 [.inr (.inl 2), .inl f, .inl t, .inl d9] iv (.inl (c_addActivity k f t d9)) 1 (t_I sc (k_addActivity k f t d9) d n kf) := by
  have hI := h
  obtain ⟨hsc, hk, ⟨hE, hB, hS, hC, hA, hO, hL, hP⟩, hci, hd, hn2, hfr⟩ := h
  have h0 := hk.r0
  unfold c_addActivity k_addActivity
  by_cases hcase0 : 0 ≤ f ∧ f ≤ k 0 - 1 ∧ 0 ≤ t ∧ t ≤ k 0 - 1
  · rw [q_if_t hcase0]
    rw [q_if_t hcase0]
    by_cases hcase1 : f ≠ t ∧ 1 ≤ d9 ∧ d9 ≤ 9
    · rw [q_if_t hcase1]
      rw [q_if_t hcase1]
      by_cases hcase2 : k 3 = 5
      · rw [q_if_t hcase2]
        rw [q_if_t hcase2]
        refine t_w215 (t_REi (t_RE (s_X10_addActivity_3 (L := L) (iv := iv) f t d9 hk hE hB hS hC hA hO hL hP hcase0 hcase1 hcase2)) (fun iv1 e9 => ?_)) (t_an_e (E := 0) (q := 3) rfl)
        have e8 : iv1 = _ := e9
        subst e8
        exact t_I_keep hI (by intro r hr; repeat (first | rfl | refine t_k1 (by omega) ?_ | refine t_k2 rfl ?_)) rfl (hci)
      · rw [q_if_f hcase2]
        rw [q_if_f hcase2]
        refine t_w215 (t_REi (t_RE (s_X10_addActivity_0 (L := L) (iv := iv) f t d9 hk hE hB hS hC hA hO hL hP hcase0 hcase1 hcase2)) (fun iv1 e9 => ?_)) (Or.inl rfl)
        have e8 : iv1 = _ := e9
        subst e8
        exact t_I_mut (k' := q_addac k f t d9) hI (by intro r hr; repeat (first | rfl | refine t_k1 (by omega) ?_ | refine t_k2 rfl ?_)) (t_KR_ac hk (by omega) (by omega) hcase1.1 (by omega) hcase2) (⟨q_cE_ag hE (t_addac_ne (by omega) (by omega)) (t_addac_ne (by omega) (by omega)), q_cB_ag hB (by omega) (t_addac_ne (by omega) (by omega)) (fun j g1 g2 => t_addac_ne (by omega) (by omega)), q_cS_ag hS (by omega) (t_addac_ne (by omega) (by omega)) (fun j g1 g2 => t_addac_ne (by omega) (by omega)), q_cC_ag hC (t_addac_ne (by omega) (by omega)) (fun j g1 g2 => t_addac_ne (by omega) (by omega)), q_cA_add hA (by omega), q_cO_ag hO (fun j g1 g2 => t_addac_ne (by omega) (by omega)), q_cL_ag hL (fun j g1 g2 => t_addac_ne (by omega) (by omega)), q_cP_ag hP (by omega) (t_addac_ne (by omega) (by omega)) (fun j g1 g2 => t_addac_ne (by omega) (by omega))⟩) (rfl) (t_J_CI hk (fun j hj => t_addac_ne (by omega) (by omega)) hci)
    · rw [q_if_f hcase1]
      rw [q_if_f hcase1]
      refine t_w215 (t_REi (t_RE (s_X10_addActivity_2 (L := L) (iv := iv) f t d9 hk hE hB hS hC hA hO hL hP hcase0 hcase1)) (fun iv1 e9 => ?_)) (t_an_e (E := 1) (q := 2) rfl)
      have e8 : iv1 = _ := e9
      subst e8
      exact t_I_keep hI (by intro r hr; repeat (first | rfl | refine t_k1 (by omega) ?_ | refine t_k2 rfl ?_)) rfl (hci)
  · rw [q_if_f hcase0]
    rw [q_if_f hcase0]
    refine t_w215 (t_REi (t_RE (s_X10_addActivity_1 (L := L) (iv := iv) f t d9 hk hE hB hS hC hA hO hL hP hcase0)) (fun iv1 e9 => ?_)) (t_an_e (E := 2) (q := 1) rfl)
    have e8 : iv1 = _ := e9
    subst e8
    exact t_I_keep hI (by intro r hr; repeat (first | rfl | refine t_k1 (by omega) ?_ | refine t_k2 rfl ?_)) rfl (hci)
theorem t_S_setCapacity {sc k d kf : Nat → Int} {n : Int} {L : Nat} {iv : Nat → Nat → Int} {c : Int} (h : t_I sc k d n kf iv) : t_O L 216 [.inr (.inl 2), .inl c] iv (.inl (c_setCapacity k c)) 1 (t_I sc (k_setCapacity k c) d n kf) := by
  have hI := h
  obtain ⟨hsc, hk, ⟨hE, hB, hS, hC, hA, hO, hL, hP⟩, hci, hd, hn2, hfr⟩ := h
  have h0 := hk.r0
  unfold c_setCapacity k_setCapacity
  by_cases hcase0 : 0 ≤ c ∧ c ≤ 40
  · rw [q_if_t hcase0]
    rw [q_if_t hcase0]
    refine t_w216 (t_REi (t_RE (s_X10_setCapacity_0 (L := L) (iv := iv) c hk hE hB hS hC hA hO hL hP hcase0)) (fun iv1 e9 => ?_)) (Or.inl rfl)
    have e8 : iv1 = _ := e9
    subst e8
    exact t_I_mut (k' := pz_up k 5 c) hI (by intro r hr; repeat (first | rfl | refine t_k1 (by omega) ?_ | refine t_k2 rfl ?_)) (t_KR_cap hk hcase0) (⟨q_cE_ag hE (pz_up_ne (by omega)) (pz_up_ne (by omega)), q_cB_ag hB (by omega) (pz_up_ne (by omega)) (fun j g1 g2 => pz_up_ne (by omega)), q_cS_ag hS (by omega) (pz_up_ne (by omega)) (fun j g1 g2 => pz_up_ne (by omega)), q_cC_ag hC (pz_up_ne (by omega)) (fun j g1 g2 => pz_up_ne (by omega)), q_cA_cap hA (by omega), q_cO_ag hO (fun j g1 g2 => pz_up_ne (by omega)), q_cL_ag hL (fun j g1 g2 => pz_up_ne (by omega)), q_cP_ag hP (by omega) (pz_up_ne (by omega)) (fun j g1 g2 => pz_up_ne (by omega))⟩) (rfl) (t_J_CI hk (fun j hj => pz_up_ne (by omega)) hci)
  · rw [q_if_f hcase0]
    rw [q_if_f hcase0]
    refine t_w216 (t_REi (t_RE (s_X10_setCapacity_1 (L := L) (iv := iv) c hk hE hB hS hC hA hO hL hP hcase0)) (fun iv1 e9 => ?_)) (t_an_e (E := 1) (q := 1) rfl)
    have e8 : iv1 = _ := e9
    subst e8
    exact t_I_keep hI (by intro r hr; repeat (first | rfl | refine t_k1 (by omega) ?_ | refine t_k2 rfl ?_)) rfl (hci)
theorem t_S_setCost {sc k d kf : Nat → Int} {n : Int} {L : Nat} {iv : Nat → Nat → Int} {e : Int} {d9 : Int} {y : Int} {z : Int} (h : t_I sc k d n kf iv) : t_O L 222 [.inr (.inl 2), .inl e, .inl d9, .inl y, .inl z] iv (.inl (c_setCost k e d9 y z)) 1 (t_I sc (k_setCost k e d9 y z) d n kf) := by
  have hI := h
  obtain ⟨hsc, hk, ⟨hE, hB, hS, hC, hA, hO, hL, hP⟩, hci, hd, hn2, hfr⟩ := h
  have h0 := hk.r0
  unfold c_setCost k_setCost
  by_cases hcase0 : 0 ≤ e ∧ e ≤ k 0 - 1
  · rw [q_if_t hcase0]
    rw [q_if_t hcase0]
    by_cases hcase1 : 0 ≤ d9 ∧ d9 ≤ 999 ∧ 0 ≤ y ∧ y ≤ 99 ∧ 0 ≤ z ∧ z ≤ 99
    · rw [q_if_t hcase1]
      rw [q_if_t hcase1]
      refine t_w222 (t_REi (t_RE (s_X10_setCost_0 (L := L) (iv := iv) e d9 y z hk hE hB hS hC hA hO hL hP hcase0 hcase1)) (fun iv1 e9 => ?_)) (Or.inl rfl)
      have e8 : iv1 = _ := e9
      subst e8
      exact t_I_mut (k' := pz_up (pz_up (pz_up k (16 + e).toNat d9) (26 + e).toNat y) (36 + e).toNat z) hI (by intro r hr; repeat (first | rfl | refine t_k1 (by omega) ?_ | refine t_k2 rfl ?_)) (t_KR_cost hk (by omega) (by omega) (by omega) (by omega)) (⟨q_cE_ag hE ((pz_up_ne (by omega)).trans ((pz_up_ne (by omega)).trans (pz_up_ne (by omega)))) ((pz_up_ne (by omega)).trans ((pz_up_ne (by omega)).trans (pz_up_ne (by omega)))), q_cB_ag hB (by omega) ((pz_up_ne (by omega)).trans ((pz_up_ne (by omega)).trans (pz_up_ne (by omega)))) (fun j g1 g2 => (pz_up_ne (by omega)).trans ((pz_up_ne (by omega)).trans (pz_up_ne (by omega)))), q_cS_ag hS (by omega) ((pz_up_ne (by omega)).trans ((pz_up_ne (by omega)).trans (pz_up_ne (by omega)))) (fun j g1 g2 => (pz_up_ne (by omega)).trans ((pz_up_ne (by omega)).trans (pz_up_ne (by omega)))), q_cC_ag hC ((pz_up_ne (by omega)).trans ((pz_up_ne (by omega)).trans (pz_up_ne (by omega)))) (fun j g1 g2 => (pz_up_ne (by omega)).trans ((pz_up_ne (by omega)).trans (pz_up_ne (by omega)))), q_cA_ag hA (by omega) ((pz_up_ne (by omega)).trans ((pz_up_ne (by omega)).trans (pz_up_ne (by omega)))) ((pz_up_ne (by omega)).trans ((pz_up_ne (by omega)).trans (pz_up_ne (by omega)))) (fun j g1 g2 => (pz_up_ne (by omega)).trans ((pz_up_ne (by omega)).trans (pz_up_ne (by omega)))), q_cO_put hO (by omega), q_cL_ag hL (fun j g1 g2 => (pz_up_ne (by omega)).trans ((pz_up_ne (by omega)).trans (pz_up_ne (by omega)))), q_cP_ag hP (by omega) ((pz_up_ne (by omega)).trans ((pz_up_ne (by omega)).trans (pz_up_ne (by omega)))) (fun j g1 g2 => (pz_up_ne (by omega)).trans ((pz_up_ne (by omega)).trans (pz_up_ne (by omega))))⟩) (rfl) (t_J_CI hk (fun j hj => (pz_up_ne (by omega)).trans ((pz_up_ne (by omega)).trans (pz_up_ne (by omega)))) hci)
    · rw [q_if_f hcase1]
      rw [q_if_f hcase1]
      refine t_w222 (t_REi (t_RE (s_X10_setCost_2 (L := L) (iv := iv) e d9 y z hk hE hB hS hC hA hO hL hP hcase0 hcase1)) (fun iv1 e9 => ?_)) (t_an_e (E := 1) (q := 2) rfl)
      have e8 : iv1 = _ := e9
      subst e8
      exact t_I_keep hI (by intro r hr; repeat (first | rfl | refine t_k1 (by omega) ?_ | refine t_k2 rfl ?_)) rfl (hci)
  · rw [q_if_f hcase0]
    rw [q_if_f hcase0]
    refine t_w222 (t_REi (t_RE (s_X10_setCost_1 (L := L) (iv := iv) e d9 y z hk hE hB hS hC hA hO hL hP hcase0)) (fun iv1 e9 => ?_)) (t_an_e (E := 2) (q := 1) rfl)
    have e8 : iv1 = _ := e9
    subst e8
    exact t_I_keep hI (by intro r hr; repeat (first | rfl | refine t_k1 (by omega) ?_ | refine t_k2 rfl ?_)) rfl (hci)
theorem t_S_level {sc k d kf : Nat → Int} {n : Int} {L : Nat} {iv : Nat → Nat → Int} (h : t_I sc k d n kf iv) : t_O L 221 [.inr (.inl 2)] iv (.inl (c_level k)) 1 (t_I sc (k_level k) d n kf) := by
  have hI := h
  obtain ⟨hsc, hk, ⟨hE, hB, hS, hC, hA, hO, hL, hP⟩, hci, hd, hn2, hfr⟩ := h
  have h0 := hk.r0
  unfold c_level k_level
  by_cases hcase0 : q_con k (fun _ => 0)
  · rw [q_if_t hcase0]
    rw [q_if_t hcase0]
    refine t_w221 (t_REi (s_X10_level_0 (L := L) (iv := iv) hk hE hB hS hC hA hO hL hP hci hcase0) (fun iv1 e9 => ?_)) (Or.inl rfl)
    obtain ⟨o9, f4, f5, f6, f7, f8, f9, l9, n9, w9, d9, e8, hci9, ho9, hB9, hkk9, hag9⟩ := e9
    subst e8
    exact t_I_mut (k' := q_lvk 40 k) hI (by intro r hr; repeat (first | rfl | refine t_k1 (by omega) ?_ | refine t_k2 rfl ?_)) (hkk9) (⟨q_cE_ag hE (hag9 0 (by omega)) (hag9 240 (by omega)), hB9, q_cS_ag hS (by omega) (hag9 2 (by omega)) (fun j g1 g2 => hag9 j (by omega)), q_cC_ag hC (hag9 4 (by omega)) (fun j g1 g2 => hag9 j (by omega)), q_cA_ag hA (by omega) (hag9 3 (by omega)) (hag9 5 (by omega)) (fun j g1 g2 => hag9 j (by omega)), q_cO_ag hO (fun j g1 g2 => hag9 j (by omega)), q_cL_ag hL (fun j g1 g2 => hag9 j (by omega)), q_cP_ag hP (by omega) (hag9 240 (by omega)) (fun j g1 g2 => hag9 j (by omega))⟩) (ho9) (hci9)
  · rw [q_if_f hcase0]
    rw [q_if_f hcase0]
    refine t_w221 (t_REi (s_X10_level_1 (L := L) (iv := iv) hk hE hB hS hC hA hO hL hP hci hcase0) (fun iv1 e9 => ?_)) (t_an_e (E := 0) (q := 1) rfl)
    obtain ⟨o9, l9, n9, w9, d9, e8, hci9, ho9⟩ := e9
    subst e8
    exact t_I_keep hI (by intro r hr; repeat (first | rfl | refine t_k1 (by omega) ?_ | refine t_k2 rfl ?_)) ho9 (hci9)
theorem t_S_play {sc k d kf : Nat → Int} {n : Int} {L : Nat} {iv : Nat → Nat → Int} {p : Int} (h : t_I sc k d n kf iv) : t_O L 204 [.inr (.inl 2), .inl p] iv (.inl (c_play k p)) 1 (t_I sc (k_play k p) d n kf) := by
  have hI := h
  obtain ⟨hsc, hk, ⟨hE, hB, hS, hC, hA, hO, hL, hP⟩, hci, hd, hn2, hfr⟩ := h
  have h0 := hk.r0
  unfold c_play k_play
  by_cases hcase0 : 0 ≤ p ∧ p ≤ q_p2 (k 2) - 1
  · rw [q_if_t hcase0]
    rw [q_if_t hcase0]
    by_cases hcase1 : q_exi (fun i => 1 ≤ i ∧ q_sta k i) (k 0)
    · rw [q_if_t hcase1]
      rw [q_if_t hcase1]
      refine t_w204 (t_REi (t_RE (s_X10_play_2a (L := L) (iv := iv) p hk hE hB hS hC hA hO hL hP hci hcase0 hcase1)) (fun iv1 e9 => ?_)) (t_an_e (E := 0) (q := 2) rfl)
      have e8 : iv1 = _ := e9
      subst e8
      exact t_I_keep hI (by intro r hr; repeat (first | rfl | refine t_k1 (by omega) ?_ | refine t_k2 rfl ?_)) rfl (hci)
    · rw [q_if_f hcase1]
      rw [q_if_f hcase1]
      by_cases hcase2 : q_sen k
      · rw [q_if_t hcase2]
        rw [q_if_t hcase2]
        by_cases hcase3 : q_flk k p = 45
        · rw [q_if_t hcase3]
          rw [q_if_t hcase3]
          have ln9 : k 0 ≤ 10 := by omega
          have ok9 := t_fl_ok hk hcase3
          have pl9 : m_A 10 (q_pl (q_val k) k p (iv 153)) (q_plk k p) := t_pl2 hk (fun _ _ => rfl)
          refine t_w204 (t_REi (s_X10_play_0 (L := L) (iv := iv) p hk hE hB hS hC hA hO hL hP hci hcase0 hcase1 hcase2 hcase3) (fun iv1 e9 => ?_)) (Or.inl rfl)
          obtain ⟨o9, z9, l9, n9, w9, d9, m9, V9, W9, U9, Y9, p9, q9, r9, x9, y9, e8, hci9, ho9⟩ := e9
          subst e8
          exact t_I_mut (k' := q_kpl k (q_plk k p) (k 0)) hI (by intro r hr; repeat (first | rfl | refine t_k1 (by omega) ?_ | refine t_k2 rfl ?_)) (t_KR_kpl hk ok9) (⟨⟨hE.1, rfl⟩, q_cB_ag hB (by omega) (t_kpl_ne (by omega) (by omega)) (fun j g1 g2 => t_kpl_ne (by omega) (by omega)), q_cS_ag hS (by omega) (t_kpl_ne (by omega) (by omega)) (fun j g1 g2 => t_kpl_ne (by omega) (by omega)), q_cC_ag hC (t_kpl_ne (by omega) (by omega)) (fun j g1 g2 => t_kpl_ne (by omega) (by omega)), q_cA_ag hA (by omega) (t_kpl_ne (by omega) (by omega)) (t_kpl_ne (by omega) (by omega)) (fun j g1 g2 => t_kpl_ne (by omega) (by omega)), q_cO_ag hO (fun j g1 g2 => t_kpl_ne (by omega) (by omega)), q_cL_ag hL (fun j g1 g2 => t_kpl_ne (by omega) (by omega)), t_cP_pl (by omega) pl9⟩) (ho9) (t_J_CI hk (fun j hj => t_kpl_ne (by omega) (by omega)) hci9)
        · rw [q_if_f hcase3]
          rw [q_if_f hcase3]
          refine t_w204 (t_REi (s_X10_play_3 (L := L) (iv := iv) p hk hE hB hS hC hA hO hL hP hci hcase0 hcase1 hcase2 hcase3) (fun iv1 e9 => ?_)) (t_an_e (E := 3) (q := 3) rfl)
          obtain ⟨o9, l9, n9, w9, d9, m9, V9, W9, U9, Y9, p9, q9, r9, x9, y9, e8, hci9, ho9⟩ := e9
          subst e8
          exact t_I_keep hI (by intro r hr; repeat (first | rfl | refine t_k1 (by omega) ?_ | refine t_k2 rfl ?_)) ho9 (hci9)
      · rw [q_if_f hcase2]
        rw [q_if_f hcase2]
        refine t_w204 (t_REi (s_X10_play_2b (L := L) (iv := iv) p hk hE hB hS hC hA hO hL hP hci hcase0 hcase1 hcase2) (fun iv1 e9 => ?_)) (t_an_e (E := 0) (q := 2) rfl)
        obtain ⟨o9, l9, n9, w9, d9, m9, V9, W9, U9, Y9, p9, q9, r9, e8, hci9, ho9⟩ := e9
        subst e8
        exact t_I_keep hI (by intro r hr; repeat (first | rfl | refine t_k1 (by omega) ?_ | refine t_k2 rfl ?_)) ho9 (hci9)
  · rw [q_if_f hcase0]
    rw [q_if_f hcase0]
    refine t_w204 (t_REi (t_RE (s_X10_play_1 (L := L) (iv := iv) p hk hE hB hS hC hA hO hL hP hci hcase0)) (fun iv1 e9 => ?_)) (t_an_e (E := 1) (q := 1) rfl)
    have e8 : iv1 = _ := e9
    subst e8
    exact t_I_keep hI (by intro r hr; repeat (first | rfl | refine t_k1 (by omega) ?_ | refine t_k2 rfl ?_)) rfl (hci)
/-! frames -/
theorem t_S_open {sc k d kf : Nat → Int} {L : Nat} {iv : Nat → Nat → Int} (h : t_I sc k d 0 kf iv) : t_O L 224 [.inr (.inl 2)] iv (.inl 1) 1 (t_I sc k d 1 k) := by
  have hI := h
  obtain ⟨hsc, hk, ⟨hE, hB, hS, hC, hA, hO, hL, hP⟩, hci, hd, hn2, hfr⟩ := h
  have h0 := hk.r0
  refine t_w224 (t_REi (t_RE (s_X10_open_00 (L := L) (iv := iv) (by omega) hn2)) (fun iv1 e9 => ?_)) (Or.inl rfl)
  have e8 : iv1 = _ := e9
  subst e8
  exact ⟨hsc, hk, ⟨hE, hB, hS, hC, hA, hO, hL, hP⟩, t_ci2 hci, hd, (show iv 2 2 + 1 = 1 by omega), fun _ => ⟨hk, ⟨t_cpE hE, t_cpB hk hB, t_cpS hk hS, t_cpC hC, t_cpA hk hA, t_cpO hO, t_cpL hL, t_cpP hk hP⟩⟩⟩
theorem t_S_takeBack1 {sc k d kf kx : Nat → Int} {L : Nat} {iv : Nat → Nat → Int} (h : t_I sc k d 1 kf iv) : t_O L 225 [.inr (.inl 2)] iv (.inl 0) 1 (t_I sc kf d 0 kx) := by
  have hI := h
  obtain ⟨hsc, hk, ⟨hE, hB, hS, hC, hA, hO, hL, hP⟩, hci, hd, hn2, hfr⟩ := h
  have h0 := hk.r0
  obtain ⟨hkf, ⟨fE, fB, fS, fC, fA, fO, fL, fP⟩⟩ := hfr rfl
  refine t_w225 (t_REi (t_RE (s_X10_takeBack_00 (L := L) (iv := iv) (by omega) hn2)) (fun iv1 e9 => ?_)) (Or.inl rfl)
  have e8 : iv1 = _ := e9
  subst e8
  exact ⟨hsc, hkf, ⟨t_cpE fE, t_cpB hkf fB, t_cpS hkf fS, t_cpC fC, t_cpA hkf fA, t_cpO fO, t_cpL fL, t_cpP hkf fP⟩, t_ci0 ⟨rfl, rfl, rfl⟩, hd, (show iv 2 2 - 1 = 0 by omega), fun q => absurd q (by decide)⟩
theorem t_S_takeBack0 {sc k d kf : Nat → Int} {L : Nat} {iv : Nat → Nat → Int} (h : t_I sc k d 0 kf iv) : t_O L 225 [.inr (.inl 2)] iv (.inl (-99991001)) 1 (t_I sc k d 0 kf) := by
  have hI := h
  obtain ⟨hsc, hk, -, hci, hd, hn2, hfr⟩ := h
  refine t_w225 (t_REi (t_RE (s_X10_takeBack_1 (L := L) (iv := iv) (by omega) hn2)) (fun iv1 e9 => ?_)) (t_an_e (E := 0) (q := 1) rfl)
  have e8 : iv1 = _ := e9
  subst e8
  exact hI
