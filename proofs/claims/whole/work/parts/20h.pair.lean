/-! the pairs: what tells and changes nothing -/
theorem t_P_labelOf {sc : Nat → Int} {L : Nat} {iv : Nat → Nat → Int} {l : Int} (h : t_I sc iv) : t_Q t_Bi sc L 129 221 t_Vi t_Vi (pz_hc 309) [.inl l] iv := by
  have hI := h
  obtain ⟨hsc, hk, ⟨hE, hB, hS, hC, hA, hO, hL, hP⟩, hci, hz, hof, ho3, hfr⟩ := h
  have h0 := hk.r0
  by_cases hcase0 : 1 ≤ l ∧ l ≤ 4
  · skip
    refine ⟨_, _, iv 155 (46 + l).toNat, 0, trivial, t_RE (s_X10_labelOf_0 (L := L) (iv := iv) l hk hE hB hS hC hA hO hL hP hcase0), Or.inl ⟨rfl, rfl⟩, ?_⟩
    intro iv1 e9
    have e8 : iv1 = _ := e9
    subst e8
    exact ⟨hsc, fun x9 => ⟨_, s_X11_labelOf_0 (L := L) (iv := pz_u1 _ 164 x9) l hk hcase0, rfl, rfl, t_I_keep hI (by intro r hr; repeat (first | rfl | refine t_k1 (by omega) ?_ | refine t_k2 rfl ?_)) rfl (rfl) hci hz⟩⟩
  · skip
    refine ⟨_, _, 32, 1, trivial, t_RE (s_X10_labelOf_1 (L := L) (iv := iv) l hk hE hB hS hC hA hO hL hP hcase0), Or.inr ⟨1, rfl, rfl, by decide⟩, ?_⟩
    intro iv1 e9
    have e8 : iv1 = _ := e9
    subst e8
    exact ⟨hsc, fun x9 => ⟨_, s_X11_labelOf_1 (L := L) (iv := pz_u1 _ 164 x9) l hk hcase0, rfl, rfl, t_I_keep hI (by intro r hr; repeat (first | rfl | refine t_k1 (by omega) ?_ | refine t_k2 rfl ?_)) rfl (rfl) hci hz⟩⟩
theorem t_P_isPossible {sc : Nat → Int} {L : Nat} {iv : Nat → Nat → Int} {t : Int} {f : Int} (h : t_I sc iv) : t_Q t_Bz sc L 130 222 t_Vi t_Vi (pz_hc 310) [.inl t, .inl f] iv := by
  have hI := h
  obtain ⟨hsc, hk, ⟨hE, hB, hS, hC, hA, hO, hL, hP⟩, hci, hz, hof, ho3, hfr⟩ := h
  have h0 := hk.r0
  by_cases hcase0 : (0 ≤ t ∧ t ≤ 15) ∧ (0 ≤ f ∧ f ≤ 15) ∧ pz_and t f = 0
  · skip
    refine ⟨_, _, pz_bi (q_con (q_psk (iv 155) t f) (fun _ => 0)), 0, pz_bi01 _, s_X10_isPossible_0 (L := L) (iv := iv) t f hk hE hB hS hC hA hO hL hP hci hcase0, Or.inl ⟨rfl, rfl⟩, ?_⟩
    intro iv1 e9
    obtain ⟨n9, w9, d9, l9, e8⟩ := e9
    subst e8
    exact ⟨hsc, fun x9 => ⟨_, t_Rv (s_X11_isPossible_0 (L := L) (iv := pz_u1 _ 164 x9) t f hk ⟨hcase0.1.1, hcase0.1.2, hcase0.2.1.1, hcase0.2.1.2, hcase0.2.2⟩) (congrArg t_Vi (pz_bi_iff (t_con (m_KR_sets (m_KR_lop hk)) hz))), rfl, rfl, t_I_keep hI (by intro r hr; repeat (first | rfl | refine t_k1 (by omega) ?_ | refine t_k2 (t_un_sets hk) ?_)) rfl rfl hci hz⟩⟩
  · skip
    refine ⟨_, _, pz_bi False, 1, pz_bi01 _, t_RE (s_X10_isPossible_1 (L := L) (iv := iv) t f hk hE hB hS hC hA hO hL hP hci hcase0), Or.inr ⟨1, rfl, rfl, by decide⟩, ?_⟩
    intro iv1 e9
    have e8 : iv1 = _ := e9
    subst e8
    exact ⟨hsc, fun x9 => ⟨_, t_Rv (s_X11_isPossible_1 (L := L) (iv := pz_u1 _ 164 x9) t f hk (fun q => hcase0 ⟨⟨q.1, q.2.1⟩, ⟨q.2.2.1, q.2.2.2.1⟩, q.2.2.2.2⟩)) (congrArg t_Vi (pz_bi_0 (fun q : False => q)).symm), rfl, rfl, t_I_keep hI (by intro r hr; repeat (first | rfl | refine t_k1 (by omega) ?_ | refine t_k2 rfl ?_)) rfl (rfl) hci hz⟩⟩
theorem t_P_isConsistent {sc : Nat → Int} {L : Nat} {iv : Nat → Nat → Int} (h : t_I sc iv) : t_Q t_Bz sc L 131 228 t_Vi t_Vi [] [] iv := by
  have hI := h
  obtain ⟨hsc, hk, ⟨hE, hB, hS, hC, hA, hO, hL, hP⟩, hci, hz, hof, ho3, hfr⟩ := h
  have h0 := hk.r0
  refine ⟨_, _, pz_bi (q_con (iv 155) (fun _ => 0)), 0, pz_bi01 _, s_X10_isConsistent_0 (L := L) (iv := iv) hk hE hB hS hC hA hO hL hP hci, Or.inl ⟨rfl, rfl⟩, ?_⟩
  intro iv1 e9
  obtain ⟨o9, l9, n9, w9, d9, e8, hci9, ho9⟩ := e9
  subst e8
  exact ⟨hsc, fun x9 => ⟨_, t_Rv (s_X11_isConsistent (L := L) (iv := pz_u1 _ 164 x9) hk) (congrArg t_Vi (pz_bi_iff (t_con hk hz))), rfl, rfl, t_I_keep hI (by intro r hr; repeat (first | rfl | refine t_k1 (by omega) ?_ | refine t_k2 rfl ?_)) ho9 (rfl) hci9 hz⟩⟩
theorem t_P_distance {sc : Nat → Int} {L : Nat} {iv : Nat → Nat → Int} {f : Int} {t : Int} (h : t_I sc iv) : t_Q t_Bi sc L 132 230 t_Vi t_Vi (pz_hc 311) [.inl f, .inl t] iv := by
  have hI := h
  obtain ⟨hsc, hk, ⟨hE, hB, hS, hC, hA, hO, hL, hP⟩, hci, hz, hof, ho3, hfr⟩ := h
  have h0 := hk.r0
  by_cases hcase0 : 0 ≤ f ∧ f ≤ iv 155 0 - 1 ∧ 0 ≤ t ∧ t ≤ iv 155 0 - 1
  · skip
    by_cases hcase1 : q_con (iv 155) (fun _ => 0)
    · skip
      have con9 := (t_con hk hz).mpr hcase1
      have dd := t_dd (g := iv 157) hk hz hcase1
      by_cases hcase2 : q_D (iv 155) (10 * f + t).toNat = 1000000
      · skip
        refine ⟨_, _, 0, 3, trivial, s_X10_distance_3 (L := L) (iv := iv) f t hk hE hB hS hC hA hO hL hP hci hcase0 hcase1 hcase2, Or.inr ⟨3, rfl, rfl, by decide⟩, ?_⟩
        intro iv1 e9
        obtain ⟨o9, l9, n9, w9, d9, e8, hci9, ho9⟩ := e9
        subst e8
        exact ⟨hsc, fun x9 => ⟨_, s_X11_distance_3 (L := L) (iv := pz_u1 _ 164 x9) f t hk hcase0 con9 ((dd _ (by omega)).trans hcase2), rfl, rfl, t_I_keep hI (by intro r hr; repeat (first | rfl | refine t_k1 (by omega) ?_ | refine t_k2 rfl ?_)) ho9 (rfl) hci9 hz⟩⟩
      · skip
        refine ⟨_, _, q_D (iv 155) (10 * f + t).toNat, 0, trivial, s_X10_distance_0 (L := L) (iv := iv) f t hk hE hB hS hC hA hO hL hP hci hcase0 hcase1 hcase2, Or.inl ⟨rfl, rfl⟩, ?_⟩
        intro iv1 e9
        obtain ⟨o9, l9, n9, w9, d9, e8, hci9, ho9⟩ := e9
        subst e8
        exact ⟨hsc, fun x9 => ⟨_, t_Rv (s_X11_distance_0 (L := L) (iv := pz_u1 _ 164 x9) f t hk hcase0 con9 (fun q => hcase2 ((dd _ (by omega)).symm.trans q))) (congrArg t_Vi (dd _ (by omega))), rfl, rfl, t_I_keep hI (by intro r hr; repeat (first | rfl | refine t_k1 (by omega) ?_ | refine t_k2 rfl ?_)) ho9 (rfl) hci9 hz⟩⟩
    · skip
      have con9 := fun q => hcase1 ((t_con hk hz).mp q)
      refine ⟨_, _, 0, 2, trivial, s_X10_distance_2 (L := L) (iv := iv) f t hk hE hB hS hC hA hO hL hP hci hcase0 hcase1, Or.inr ⟨0, rfl, rfl, by decide⟩, ?_⟩
      intro iv1 e9
      obtain ⟨o9, l9, n9, w9, d9, e8, hci9, ho9⟩ := e9
      subst e8
      exact ⟨hsc, fun x9 => ⟨_, s_X11_distance_2 (L := L) (iv := pz_u1 _ 164 x9) f t hk hcase0 con9, rfl, rfl, t_I_keep hI (by intro r hr; repeat (first | rfl | refine t_k1 (by omega) ?_ | refine t_k2 rfl ?_)) ho9 (rfl) hci9 hz⟩⟩
  · skip
    refine ⟨_, _, 0, 1, trivial, t_RE (s_X10_distance_1 (L := L) (iv := iv) f t hk hE hB hS hC hA hO hL hP hci hcase0), Or.inr ⟨2, rfl, rfl, by decide⟩, ?_⟩
    intro iv1 e9
    have e8 : iv1 = _ := e9
    subst e8
    exact ⟨hsc, fun x9 => ⟨_, s_X11_distance_1 (L := L) (iv := pz_u1 _ 164 x9) f t hk hcase0, rfl, rfl, t_I_keep hI (by intro r hr; repeat (first | rfl | refine t_k1 (by omega) ?_ | refine t_k2 rfl ?_)) rfl (rfl) hci hz⟩⟩
theorem t_P_distanceByRounds {sc : Nat → Int} {L : Nat} {iv : Nat → Nat → Int} {f : Int} {t : Int} (h : t_I sc iv) : t_Q t_Bi sc L 133 231 t_Vi t_Vi (pz_hc 312) [.inl f, .inl t] iv := by
  have hI := h
  obtain ⟨hsc, hk, ⟨hE, hB, hS, hC, hA, hO, hL, hP⟩, hci, hz, hof, ho3, hfr⟩ := h
  have h0 := hk.r0
  by_cases hcase0 : 0 ≤ f ∧ f ≤ iv 155 0 - 1 ∧ 0 ≤ t ∧ t ≤ iv 155 0 - 1
  · skip
    by_cases hcase1 : q_con (iv 155) (fun _ => 0)
    · skip
      have con9 := (t_con hk hz).mpr hcase1
      have dd := t_dd (g := iv 157) hk hz hcase1
      by_cases hcase2 : q_D (iv 155) (10 * f + t).toNat = 1000000
      · skip
        refine ⟨_, _, 0, 3, trivial, s_X10_distanceByRounds_3 (L := L) (iv := iv) f t hk hE hB hS hC hA hO hL hP hci hcase0 hcase1 hcase2, Or.inr ⟨3, rfl, rfl, by decide⟩, ?_⟩
        intro iv1 e9
        obtain ⟨o9, l9, n9, w9, d9, g9, e8, hci9, ho9⟩ := e9
        subst e8
        exact ⟨hsc, fun x9 => ⟨_, s_X11_distanceByRounds_3 (L := L) (iv := pz_u1 _ 164 x9) f t hk hcase0 con9 ((dd _ (by omega)).trans hcase2), rfl, rfl, t_I_keep hI (by intro r hr; repeat (first | rfl | refine t_k1 (by omega) ?_ | refine t_k2 rfl ?_)) ho9 (rfl) hci9 hz⟩⟩
      · skip
        refine ⟨_, _, q_D (iv 155) (10 * f + t).toNat, 0, trivial, s_X10_distanceByRounds_0 (L := L) (iv := iv) f t hk hE hB hS hC hA hO hL hP hci hcase0 hcase1 hcase2, Or.inl ⟨rfl, rfl⟩, ?_⟩
        intro iv1 e9
        obtain ⟨o9, l9, n9, w9, d9, g9, e8, hci9, ho9⟩ := e9
        subst e8
        exact ⟨hsc, fun x9 => ⟨_, t_Rv (s_X11_distanceByRounds_0 (L := L) (iv := pz_u1 _ 164 x9) f t hk hcase0 con9 (fun q => hcase2 ((dd _ (by omega)).symm.trans q))) (congrArg t_Vi (dd _ (by omega))), rfl, rfl, t_I_keep hI (by intro r hr; repeat (first | rfl | refine t_k1 (by omega) ?_ | refine t_k2 rfl ?_)) ho9 (rfl) hci9 hz⟩⟩
    · skip
      have con9 := fun q => hcase1 ((t_con hk hz).mp q)
      refine ⟨_, _, 0, 2, trivial, s_X10_distanceByRounds_2 (L := L) (iv := iv) f t hk hE hB hS hC hA hO hL hP hci hcase0 hcase1, Or.inr ⟨0, rfl, rfl, by decide⟩, ?_⟩
      intro iv1 e9
      obtain ⟨o9, l9, n9, w9, d9, g9, e8, hci9, ho9⟩ := e9
      subst e8
      exact ⟨hsc, fun x9 => ⟨_, s_X11_distanceByRounds_2 (L := L) (iv := pz_u1 _ 164 x9) f t hk hcase0 con9, rfl, rfl, t_I_keep hI (by intro r hr; repeat (first | rfl | refine t_k1 (by omega) ?_ | refine t_k2 rfl ?_)) ho9 (rfl) hci9 hz⟩⟩
  · skip
    refine ⟨_, _, 0, 1, trivial, t_RE (s_X10_distanceByRounds_1 (L := L) (iv := iv) f t hk hE hB hS hC hA hO hL hP hci hcase0), Or.inr ⟨2, rfl, rfl, by decide⟩, ?_⟩
    intro iv1 e9
    have e8 : iv1 = _ := e9
    subst e8
    exact ⟨hsc, fun x9 => ⟨_, s_X11_distanceByRounds_1 (L := L) (iv := pz_u1 _ 164 x9) f t hk hcase0, rfl, rfl, t_I_keep hI (by intro r hr; repeat (first | rfl | refine t_k1 (by omega) ?_ | refine t_k2 rfl ?_)) rfl (rfl) hci hz⟩⟩
theorem t_P_isDirect {sc : Nat → Int} {L : Nat} {iv : Nat → Nat → Int} {f : Int} {t : Int} (h : t_I sc iv) : t_Q t_Bz sc L 134 232 t_Vi t_Vi (pz_hc 313) [.inl f, .inl t] iv := by
  have hI := h
  obtain ⟨hsc, hk, ⟨hE, hB, hS, hC, hA, hO, hL, hP⟩, hci, hz, hof, ho3, hfr⟩ := h
  have h0 := hk.r0
  by_cases hcase0 : 0 ≤ f ∧ f ≤ iv 155 0 - 1 ∧ 0 ≤ t ∧ t ≤ iv 155 0 - 1
  · skip
    by_cases hcase1 : f = t
    · skip
      refine ⟨_, _, pz_bi False, 2, pz_bi01 _, t_RE (s_X10_isDirect_2 (L := L) (iv := iv) f t hk hE hB hS hC hA hO hL hP hci hcase0 hcase1), Or.inr ⟨1, rfl, rfl, by decide⟩, ?_⟩
      intro iv1 e9
      have e8 : iv1 = _ := e9
      subst e8
      exact ⟨hsc, fun x9 => ⟨_, t_Rv (s_X11_isDirect_2 (L := L) (iv := pz_u1 _ 164 x9) f t hk hcase0 hcase1) (congrArg t_Vi (pz_bi_0 (fun q : False => q)).symm), rfl, rfl, t_I_keep hI (by intro r hr; repeat (first | rfl | refine t_k1 (by omega) ?_ | refine t_k2 rfl ?_)) rfl (rfl) hci hz⟩⟩
    · skip
      by_cases hcase2 : q_con (iv 155) (fun _ => 0)
      · skip
        have con9 := (t_con hk hz).mpr hcase2
        have dd := t_dd (g := iv 157) hk hz hcase2
        refine ⟨_, _, pz_bi (q_dir (q_D (iv 155)) f t), 0, pz_bi01 _, s_X10_isDirect_0 (L := L) (iv := iv) f t hk hE hB hS hC hA hO hL hP hci hcase0 hcase1 hcase2, Or.inl ⟨rfl, rfl⟩, ?_⟩
        intro iv1 e9
        obtain ⟨o9, l9, n9, w9, d9, e8, hci9, ho9⟩ := e9
        subst e8
        exact ⟨hsc, fun x9 => ⟨_, t_Rv (s_X11_isDirect_0 (L := L) (iv := pz_u1 _ 164 x9) f t hk hcase0 hcase1 con9) (congrArg t_Vi (pz_bi_iff (t_dir hk dd ⟨hcase0.1, hcase0.2.1⟩ ⟨hcase0.2.2.1, hcase0.2.2.2⟩))), rfl, rfl, t_I_keep hI (by intro r hr; repeat (first | rfl | refine t_k1 (by omega) ?_ | refine t_k2 rfl ?_)) ho9 (rfl) hci9 hz⟩⟩
      · skip
        have con9 := fun q => hcase2 ((t_con hk hz).mp q)
        refine ⟨_, _, pz_bi False, 3, pz_bi01 _, s_X10_isDirect_3 (L := L) (iv := iv) f t hk hE hB hS hC hA hO hL hP hci hcase0 hcase1 hcase2, Or.inr ⟨0, rfl, rfl, by decide⟩, ?_⟩
        intro iv1 e9
        obtain ⟨o9, l9, n9, w9, d9, e8, hci9, ho9⟩ := e9
        subst e8
        exact ⟨hsc, fun x9 => ⟨_, t_Rv (s_X11_isDirect_3 (L := L) (iv := pz_u1 _ 164 x9) f t hk hcase0 hcase1 con9) (congrArg t_Vi (pz_bi_0 (fun q : False => q)).symm), rfl, rfl, t_I_keep hI (by intro r hr; repeat (first | rfl | refine t_k1 (by omega) ?_ | refine t_k2 rfl ?_)) ho9 (rfl) hci9 hz⟩⟩
  · skip
    refine ⟨_, _, pz_bi False, 1, pz_bi01 _, t_RE (s_X10_isDirect_1 (L := L) (iv := iv) f t hk hE hB hS hC hA hO hL hP hci hcase0), Or.inr ⟨2, rfl, rfl, by decide⟩, ?_⟩
    intro iv1 e9
    have e8 : iv1 = _ := e9
    subst e8
    exact ⟨hsc, fun x9 => ⟨_, t_Rv (s_X11_isDirect_1 (L := L) (iv := pz_u1 _ 164 x9) f t hk hcase0) (congrArg t_Vi (pz_bi_0 (fun q : False => q)).symm), rfl, rfl, t_I_keep hI (by intro r hr; repeat (first | rfl | refine t_k1 (by omega) ?_ | refine t_k2 rfl ?_)) rfl (rfl) hci hz⟩⟩
theorem t_P_conflictSize {sc : Nat → Int} {L : Nat} {iv : Nat → Nat → Int} (h : t_I sc iv) : t_Q t_Bi sc L 135 235 t_Vi t_Vi (pz_hc 314) [] iv := by
  have hI := h
  obtain ⟨hsc, hk, ⟨hE, hB, hS, hC, hA, hO, hL, hP⟩, hci, hz, hof, ho3, hfr⟩ := h
  have h0 := hk.r0
  by_cases hcase0 : q_con (iv 155) (fun _ => 0)
  · skip
    have con9 := (t_con hk hz).mpr hcase0
    have dd := t_dd (g := iv 157) hk hz hcase0
    refine ⟨_, _, 0, 1, trivial, s_X10_conflictSize_1 (L := L) (iv := iv) hk hE hB hS hC hA hO hL hP hci hcase0, Or.inr ⟨0, rfl, rfl, by decide⟩, ?_⟩
    intro iv1 e9
    obtain ⟨o9, j9, a9, b9, c9, l9, e9, n9, w9, d9, e8, hci9, ho9⟩ := e9
    subst e8
    exact ⟨hsc, fun x9 => ⟨_, s_X11_conflictSize_1 (L := L) (iv := pz_u1 _ 164 x9) hk con9, rfl, rfl, t_I_keep hI (by intro r hr; repeat (first | rfl | refine t_k1 (by omega) ?_ | refine t_k2 rfl ?_)) ho9 (rfl) hci9 hz⟩⟩
  · skip
    have con9 := fun q => hcase0 ((t_con hk hz).mp q)
    refine ⟨_, _, q_cnt (q_kp (iv 155)) (iv 155 1), 0, trivial, s_X10_conflictSize_0 (L := L) (iv := iv) hk hE hB hS hC hA hO hL hP hci hcase0, Or.inl ⟨rfl, rfl⟩, ?_⟩
    intro iv1 e9
    obtain ⟨o9, j9, a9, b9, c9, l9, e9, n9, w9, d9, e8, hci9, ho9⟩ := e9
    subst e8
    exact ⟨hsc, fun x9 => ⟨_, t_Rv (s_X11_conflictSize_0 (L := L) (iv := pz_u1 _ 164 x9) hk con9) (congrArg t_Vi (t_cnt_kept hk hz)), rfl, rfl, t_I_keep hI (by intro r hr; repeat (first | rfl | refine t_k1 (by omega) ?_ | refine t_k2 rfl ?_)) ho9 (rfl) hci9 t_z40⟩⟩
theorem t_P_conflictAt {sc : Nat → Int} {L : Nat} {iv : Nat → Nat → Int} {i : Int} (h : t_I sc iv) (hi : -2147483648 ≤ i ∧ i ≤ 2147483647) : t_Q t_Bi sc L 136 236 t_Vi t_Vi (pz_hc 315) [.inl i] iv := by
  have hI := h
  obtain ⟨hsc, hk, ⟨hE, hB, hS, hC, hA, hO, hL, hP⟩, hci, hz, hof, ho3, hfr⟩ := h
  have h0 := hk.r0
  by_cases hcase0 : q_con (iv 155) (fun _ => 0)
  · skip
    have con9 := (t_con hk hz).mpr hcase0
    have dd := t_dd (g := iv 157) hk hz hcase0
    refine ⟨_, _, 0, 1, trivial, s_X10_conflictAt_1 (L := L) (iv := iv) i hk hE hB hS hC hA hO hL hP hci hcase0, Or.inr ⟨0, rfl, rfl, by decide⟩, ?_⟩
    intro iv1 e9
    obtain ⟨o9, j9, a9, b9, c9, l9, e9, n9, w9, d9, e8, hci9, ho9⟩ := e9
    subst e8
    exact ⟨hsc, fun x9 => ⟨_, s_X11_conflictAt_1 (L := L) (iv := pz_u1 _ 164 x9) i hk hi con9, rfl, rfl, t_I_keep hI (by intro r hr; repeat (first | rfl | refine t_k1 (by omega) ?_ | refine t_k2 rfl ?_)) ho9 (rfl) hci9 hz⟩⟩
  · skip
    have con9 := fun q => hcase0 ((t_con hk hz).mp q)
    by_cases hcase1 : 0 ≤ i ∧ i < q_cnt (q_kp (iv 155)) (iv 155 1)
    · skip
      refine ⟨_, _, q_cat (iv 155) i, 0, trivial, s_X10_conflictAt_0 (L := L) (iv := iv) i hk hE hB hS hC hA hO hL hP hci hcase0 hcase1, Or.inl ⟨rfl, rfl⟩, ?_⟩
      intro iv1 e9
      obtain ⟨o9, j9, a9, b9, c9, l9, e9, n9, w9, d9, e8, hci9, ho9⟩ := e9
      subst e8
      exact ⟨hsc, fun x9 => ⟨_, t_Rv (s_X11_conflictAt_0 (L := L) (iv := pz_u1 _ 164 x9) i hk hi con9 ((t_ck hk hz).1 hcase1).2) (congrArg t_Vi (((t_ck hk hz).1 hcase1).1)), rfl, rfl, t_I_keep hI (by intro r hr; repeat (first | rfl | refine t_k1 (by omega) ?_ | refine t_k2 rfl ?_)) ho9 (rfl) hci9 t_z40⟩⟩
    · skip
      refine ⟨_, _, 0, 2, trivial, s_X10_conflictAt_2 (L := L) (iv := iv) i hk hE hB hS hC hA hO hL hP hci hcase0 hcase1, Or.inr ⟨4, rfl, rfl, by decide⟩, ?_⟩
      intro iv1 e9
      obtain ⟨o9, j9, a9, b9, c9, l9, e9, n9, w9, d9, e8, hci9, ho9⟩ := e9
      subst e8
      exact ⟨hsc, fun x9 => ⟨_, s_X11_conflictAt_2 (L := L) (iv := pz_u1 _ 164 x9) i hk hi con9 ((t_ck hk hz).2 hcase1), rfl, rfl, t_I_keep hI (by intro r hr; repeat (first | rfl | refine t_k1 (by omega) ?_ | refine t_k2 rfl ?_)) ho9 (rfl) hci9 t_z40⟩⟩
theorem t_P_isWeak {sc : Nat → Int} {L : Nat} {iv : Nat → Nat → Int} (h : t_I sc iv) : t_Q t_Bz sc L 137 238 t_Vi t_Vi [] [] iv := by
  have hI := h
  obtain ⟨hsc, hk, ⟨hE, hB, hS, hC, hA, hO, hL, hP⟩, hci, hz, hof, ho3, hfr⟩ := h
  have h0 := hk.r0
  refine ⟨_, _, pz_bi (q_all (q_wkP (iv 155) (fun _ => 0)) (q_p2 (iv 155 2))), 0, pz_bi01 _, s_X10_isWeak_0 (L := L) (iv := iv) hk hE hB hS hC hA hO hL hP hci, Or.inl ⟨rfl, rfl⟩, ?_⟩
  intro iv1 e9
  obtain ⟨n9, w9, d9, l9, e8⟩ := e9
  subst e8
  exact ⟨hsc, fun x9 => ⟨_, t_Rv (s_X11_isWeak (L := L) (iv := pz_u1 _ 164 x9) hk) (congrArg t_Vi (pz_bi_iff (t_wkA hk hz))), rfl, rfl, t_I_keep hI (by intro r hr; repeat (first | rfl | refine t_k1 (by omega) ?_ | refine t_k2 rfl ?_)) rfl (rfl) hci hz⟩⟩
theorem t_P_isStrong {sc : Nat → Int} {L : Nat} {iv : Nat → Nat → Int} (h : t_I sc iv) : t_Q t_Bz sc L 138 240 t_Vi t_Vi [] [] iv := by
  have hI := h
  obtain ⟨hsc, hk, ⟨hE, hB, hS, hC, hA, hO, hL, hP⟩, hci, hz, hof, ho3, hfr⟩ := h
  have h0 := hk.r0
  refine ⟨_, _, pz_bi (q_strong (iv 155)), 0, pz_bi01 _, s_X10_isStrong_0 (L := L) (iv := iv) hk hE hB hS hC hA hO hL hP hci, Or.inl ⟨rfl, rfl⟩, ?_⟩
  intro iv1 e9
  obtain ⟨n9, w9, d9, l9, r9, h9, e8⟩ := e9
  subst e8
  exact ⟨hsc, fun x9 => ⟨_, t_Rv (s_X11_isStrong (L := L) (iv := pz_u1 _ 164 x9) hk) (congrArg t_Vi (pz_bi_iff (t_strong hk))), rfl, rfl, t_I_keep hI (by intro r hr; repeat (first | rfl | refine t_k1 (by omega) ?_ | refine t_k2 rfl ?_)) rfl (rfl) hci hz⟩⟩
theorem t_P_isSeen {sc : Nat → Int} {L : Nat} {iv : Nat → Nat → Int} (h : t_I sc iv) : t_Q t_Bz sc L 139 248 t_Vi t_Vi [] [] iv := by
  have hI := h
  obtain ⟨hsc, hk, ⟨hE, hB, hS, hC, hA, hO, hL, hP⟩, hci, hz, hof, ho3, hfr⟩ := h
  have h0 := hk.r0
  refine ⟨_, _, pz_bi (q_sen (iv 155)), 0, pz_bi01 _, s_X10_isSeen_0 (L := L) (iv := iv) hk hE hB hS hC hA hO hL hP hci, Or.inl ⟨rfl, rfl⟩, ?_⟩
  intro iv1 e9
  obtain ⟨o9, l9, n9, w9, d9, m9, V9, W9, U9, Y9, p9, q9, r9, e8, hci9, ho9⟩ := e9
  subst e8
  exact ⟨hsc, fun x9 => ⟨_, t_Rv (s_X11_isSeen (L := L) (iv := pz_u1 _ 164 x9) hk) (congrArg t_Vi (pz_bi_iff (t_seen hk hz))), rfl, rfl, t_I_keep hI (by intro r hr; repeat (first | rfl | refine t_k1 (by omega) ?_ | refine t_k2 rfl ?_)) ho9 (t_zw_at ⟨by decide, by decide⟩) hci9 hz⟩⟩
theorem t_P_rounds {sc : Nat → Int} {L : Nat} {iv : Nat → Nat → Int} (h : t_I sc iv) : t_Q t_Bi sc L 140 249 t_Vi t_Vi [] [] iv := by
  have hI := h
  obtain ⟨hsc, hk, ⟨hE, hB, hS, hC, hA, hO, hL, hP⟩, hci, hz, hof, ho3, hfr⟩ := h
  have h0 := hk.r0
  refine ⟨_, _, q_rnd (iv 155), 0, trivial, s_X10_rounds_0 (L := L) (iv := iv) hk hE hB hS hC hA hO hL hP hci, Or.inl ⟨rfl, rfl⟩, ?_⟩
  intro iv1 e9
  obtain ⟨o9, l9, n9, w9, d9, m9, V9, W9, U9, Y9, p9, q9, r9, e8, hci9, ho9⟩ := e9
  subst e8
  exact ⟨hsc, fun x9 => ⟨_, t_Rv (s_X11_rounds (L := L) (iv := pz_u1 _ 164 x9) hk) (congrArg t_Vi (t_rds hk hz)), rfl, rfl, t_I_keep hI (by intro r hr; repeat (first | rfl | refine t_k1 (by omega) ?_ | refine t_k2 rfl ?_)) ho9 (t_zw_at ⟨by decide, by decide⟩) hci9 hz⟩⟩
theorem t_P_reduced {sc : Nat → Int} {L : Nat} {iv : Nat → Nat → Int} {f : Int} {t : Int} (h : t_I sc iv) : t_Q t_Bi sc L 141 250 t_Vi t_Vi (pz_hc 316) [.inl f, .inl t] iv := by
  have hI := h
  obtain ⟨hsc, hk, ⟨hE, hB, hS, hC, hA, hO, hL, hP⟩, hci, hz, hof, ho3, hfr⟩ := h
  have h0 := hk.r0
  by_cases hcase0 : 0 ≤ f ∧ f ≤ iv 155 0 - 1 ∧ 0 ≤ t ∧ t ≤ iv 155 0 - 1
  · skip
    by_cases hcase1 : q_sen (iv 155)
    · skip
      have sen9 := (t_seen (g := iv 157) (v := iv 158) (a := iv 159) hk hz).mpr hcase1
      have zx := t_zX (g := iv 157) (v := iv 158) (a := iv 159) hk hz hcase1.1
      by_cases hcase2 : q_val (iv 155) (100 * 0 + 10 * f + t).toNat = 1000000
      · skip
        refine ⟨_, _, 0, 3, trivial, s_X10_reduced_3 (L := L) (iv := iv) f t hk hE hB hS hC hA hO hL hP hci hcase0 hcase1 hcase2, Or.inr ⟨3, rfl, rfl, by decide⟩, ?_⟩
        intro iv1 e9
        obtain ⟨o9, l9, n9, w9, d9, m9, V9, W9, U9, Y9, p9, q9, r9, e8, hci9, ho9⟩ := e9
        subst e8
        exact ⟨hsc, fun x9 => ⟨_, s_X11_reduced_3 (L := L) (iv := pz_u1 _ 164 x9) f t hk hcase0 sen9 ((zx _ (by omega)).trans hcase2), rfl, rfl, t_I_keep hI (by intro r hr; repeat (first | rfl | refine t_k1 (by omega) ?_ | refine t_k2 rfl ?_)) ho9 (t_zw_at ⟨by decide, by decide⟩) hci9 hz⟩⟩
      · skip
        refine ⟨_, _, q_val (iv 155) (100 * 0 + 10 * f + t).toNat, 0, trivial, s_X10_reduced_0 (L := L) (iv := iv) f t hk hE hB hS hC hA hO hL hP hci hcase0 hcase1 hcase2, Or.inl ⟨rfl, rfl⟩, ?_⟩
        intro iv1 e9
        obtain ⟨o9, l9, n9, w9, d9, m9, V9, W9, U9, Y9, p9, q9, r9, e8, hci9, ho9⟩ := e9
        subst e8
        exact ⟨hsc, fun x9 => ⟨_, t_Rv (s_X11_reduced_0 (L := L) (iv := pz_u1 _ 164 x9) f t hk hcase0 sen9 (fun q => hcase2 ((zx _ (by omega)).symm.trans q))) (congrArg t_Vi (zx _ (by omega))), rfl, rfl, t_I_keep hI (by intro r hr; repeat (first | rfl | refine t_k1 (by omega) ?_ | refine t_k2 rfl ?_)) ho9 (t_zw_at ⟨by decide, by decide⟩) hci9 hz⟩⟩
    · skip
      have sen9 := fun q => hcase1 ((t_seen (g := iv 157) (v := iv 158) (a := iv 159) hk hz).mp q)
      refine ⟨_, _, 0, 2, trivial, s_X10_reduced_2 (L := L) (iv := iv) f t hk hE hB hS hC hA hO hL hP hci hcase0 hcase1, Or.inr ⟨0, rfl, rfl, by decide⟩, ?_⟩
      intro iv1 e9
      obtain ⟨o9, l9, n9, w9, d9, m9, V9, W9, U9, Y9, p9, q9, r9, e8, hci9, ho9⟩ := e9
      subst e8
      exact ⟨hsc, fun x9 => ⟨_, s_X11_reduced_2 (L := L) (iv := pz_u1 _ 164 x9) f t hk hcase0 sen9, rfl, rfl, t_I_keep hI (by intro r hr; repeat (first | rfl | refine t_k1 (by omega) ?_ | refine t_k2 rfl ?_)) ho9 (t_zw_at ⟨by decide, by decide⟩) hci9 hz⟩⟩
  · skip
    refine ⟨_, _, 0, 1, trivial, t_RE (s_X10_reduced_1 (L := L) (iv := iv) f t hk hE hB hS hC hA hO hL hP hci hcase0), Or.inr ⟨2, rfl, rfl, by decide⟩, ?_⟩
    intro iv1 e9
    have e8 : iv1 = _ := e9
    subst e8
    exact ⟨hsc, fun x9 => ⟨_, s_X11_reduced_1 (L := L) (iv := pz_u1 _ 164 x9) f t hk hcase0, rfl, rfl, t_I_keep hI (by intro r hr; repeat (first | rfl | refine t_k1 (by omega) ?_ | refine t_k2 rfl ?_)) rfl (rfl) hci hz⟩⟩
theorem t_P_waitFor {sc : Nat → Int} {L : Nat} {iv : Nat → Nat → Int} {e : Int} {s : Int} (h : t_I sc iv) : t_Q t_Bi sc L 142 252 t_Vi t_Vi (pz_hc 317) [.inl e, .inl s] iv := by
  have hI := h
  obtain ⟨hsc, hk, ⟨hE, hB, hS, hC, hA, hO, hL, hP⟩, hci, hz, hof, ho3, hfr⟩ := h
  have h0 := hk.r0
  by_cases hcase0 : 0 ≤ e ∧ e ≤ iv 155 0 - 1 ∧ 0 ≤ s ∧ s ≤ iv 155 2 - 1
  · skip
    by_cases hcase1 : q_sen (iv 155)
    · skip
      have sen9 := (t_seen (g := iv 157) (v := iv 158) (a := iv 159) hk hz).mpr hcase1
      have zx := t_zX (g := iv 157) (v := iv 158) (a := iv 159) hk hz hcase1.1
      by_cases hcase2 : q_wt (q_val (iv 155)) (iv 155) e s = 0
      · skip
        refine ⟨_, _, 0, 3, trivial, s_X10_waitFor_3 (L := L) (iv := iv) e s hk hE hB hS hC hA hO hL hP hci hcase0 hcase1 hcase2, Or.inr ⟨3, rfl, rfl, by decide⟩, ?_⟩
        intro iv1 e9
        obtain ⟨o9, l9, n9, w9, d9, m9, V9, W9, U9, Y9, p9, q9, r9, e8, hci9, ho9⟩ := e9
        subst e8
        exact ⟨hsc, fun x9 => ⟨_, s_X11_waitFor_3 (L := L) (iv := pz_u1 _ 164 x9) e s hk hcase0 sen9 ((t_wt hk zx ⟨by omega, by omega⟩ ⟨by omega, by omega⟩).trans hcase2), rfl, rfl, t_I_keep hI (by intro r hr; repeat (first | rfl | refine t_k1 (by omega) ?_ | refine t_k2 rfl ?_)) ho9 (t_zw_at ⟨by decide, by decide⟩) hci9 hz⟩⟩
      · skip
        refine ⟨_, _, q_wt (q_val (iv 155)) (iv 155) e s, 0, trivial, s_X10_waitFor_0 (L := L) (iv := iv) e s hk hE hB hS hC hA hO hL hP hci hcase0 hcase1 hcase2, Or.inl ⟨rfl, rfl⟩, ?_⟩
        intro iv1 e9
        obtain ⟨o9, l9, n9, w9, d9, m9, V9, W9, U9, Y9, p9, q9, r9, e8, hci9, ho9⟩ := e9
        subst e8
        exact ⟨hsc, fun x9 => ⟨_, t_Rv (s_X11_waitFor_0 (L := L) (iv := pz_u1 _ 164 x9) e s hk hcase0 sen9 (fun q => hcase2 ((t_wt hk zx ⟨by omega, by omega⟩ ⟨by omega, by omega⟩).symm.trans q))) (congrArg t_Vi (t_wt hk zx ⟨by omega, by omega⟩ ⟨by omega, by omega⟩)), rfl, rfl, t_I_keep hI (by intro r hr; repeat (first | rfl | refine t_k1 (by omega) ?_ | refine t_k2 rfl ?_)) ho9 (t_zw_at ⟨by decide, by decide⟩) hci9 hz⟩⟩
    · skip
      have sen9 := fun q => hcase1 ((t_seen (g := iv 157) (v := iv 158) (a := iv 159) hk hz).mp q)
      refine ⟨_, _, 0, 2, trivial, s_X10_waitFor_2 (L := L) (iv := iv) e s hk hE hB hS hC hA hO hL hP hci hcase0 hcase1, Or.inr ⟨0, rfl, rfl, by decide⟩, ?_⟩
      intro iv1 e9
      obtain ⟨o9, l9, n9, w9, d9, m9, V9, W9, U9, Y9, p9, q9, r9, e8, hci9, ho9⟩ := e9
      subst e8
      exact ⟨hsc, fun x9 => ⟨_, s_X11_waitFor_2 (L := L) (iv := pz_u1 _ 164 x9) e s hk hcase0 sen9, rfl, rfl, t_I_keep hI (by intro r hr; repeat (first | rfl | refine t_k1 (by omega) ?_ | refine t_k2 rfl ?_)) ho9 (t_zw_at ⟨by decide, by decide⟩) hci9 hz⟩⟩
  · skip
    refine ⟨_, _, 0, 1, trivial, t_RE (s_X10_waitFor_1 (L := L) (iv := iv) e s hk hE hB hS hC hA hO hL hP hci hcase0), Or.inr ⟨2, rfl, rfl, by decide⟩, ?_⟩
    intro iv1 e9
    have e8 : iv1 = _ := e9
    subst e8
    exact ⟨hsc, fun x9 => ⟨_, s_X11_waitFor_1 (L := L) (iv := pz_u1 _ 164 x9) e s hk hcase0, rfl, rfl, t_I_keep hI (by intro r hr; repeat (first | rfl | refine t_k1 (by omega) ?_ | refine t_k2 rfl ?_)) rfl (rfl) hci hz⟩⟩
theorem t_P_failure {sc : Nat → Int} {L : Nat} {iv : Nat → Nat → Int} {p : Int} (h : t_I sc iv) : t_Q t_Bi sc L 144 264 t_Vi t_Vi (pz_hc 319) [.inl p] iv := by
  have hI := h
  obtain ⟨hsc, hk, ⟨hE, hB, hS, hC, hA, hO, hL, hP⟩, hci, hz, hof, ho3, hfr⟩ := h
  have h0 := hk.r0
  by_cases hcase0 : 0 ≤ p ∧ p ≤ q_p2 (iv 155 2) - 1
  · skip
    by_cases hcase1 : q_exi (fun i => 1 ≤ i ∧ q_sta (iv 155) i) (iv 155 0)
    · skip
      refine ⟨_, _, 32, 2, trivial, t_RE (s_X10_failure_2a (L := L) (iv := iv) p hk hE hB hS hC hA hO hL hP hci hcase0 hcase1), Or.inr ⟨0, rfl, rfl, by decide⟩, ?_⟩
      intro iv1 e9
      have e8 : iv1 = _ := e9
      subst e8
      exact ⟨hsc, fun x9 => ⟨_, s_X11_failure_2a (L := L) (iv := pz_u1 _ 164 x9) p hk hcase0 hcase1, rfl, rfl, t_I_keep hI (by intro r hr; repeat (first | rfl | refine t_k1 (by omega) ?_ | refine t_k2 rfl ?_)) rfl (t_zw_at ⟨by decide, by decide⟩) hci hz⟩⟩
    · skip
      by_cases hcase2 : q_sen (iv 155)
      · skip
        have sen9 := (t_seen (g := iv 157) (v := iv 158) (a := iv 159) hk hz).mpr hcase2
        have zx := t_zX (g := iv 157) (v := iv 158) (a := iv 159) hk hz hcase2.1
        refine ⟨_, _, q_flk (iv 155) p, 0, trivial, s_X10_failure_0 (L := L) (iv := iv) p hk hE hB hS hC hA hO hL hP hci hcase0 hcase1 hcase2, Or.inl ⟨rfl, rfl⟩, ?_⟩
        intro iv1 e9
        obtain ⟨o9, l9, n9, w9, d9, m9, V9, W9, U9, Y9, p9, q9, r9, x9, y9, e8, hci9, ho9⟩ := e9
        subst e8
        exact ⟨hsc, fun x9 => ⟨_, t_Rv (s_X11_failure_0 (L := L) (iv := pz_u1 _ 164 x9) p hk hcase0 hcase1 sen9) (congrArg t_Vi (t_fl hk zx)), rfl, rfl, t_I_keep hI (by intro r hr; repeat (first | rfl | refine t_k1 (by omega) ?_ | refine t_k2 rfl ?_)) ho9 (t_zw_at ⟨by decide, by decide⟩) hci9 hz⟩⟩
      · skip
        have sen9 := fun q => hcase2 ((t_seen (g := iv 157) (v := iv 158) (a := iv 159) hk hz).mp q)
        refine ⟨_, _, 32, 2, trivial, s_X10_failure_2b (L := L) (iv := iv) p hk hE hB hS hC hA hO hL hP hci hcase0 hcase1 hcase2, Or.inr ⟨0, rfl, rfl, by decide⟩, ?_⟩
        intro iv1 e9
        obtain ⟨o9, l9, n9, w9, d9, m9, V9, W9, U9, Y9, p9, q9, r9, e8, hci9, ho9⟩ := e9
        subst e8
        exact ⟨hsc, fun x9 => ⟨_, s_X11_failure_2b (L := L) (iv := pz_u1 _ 164 x9) p hk hcase0 hcase1 sen9, rfl, rfl, t_I_keep hI (by intro r hr; repeat (first | rfl | refine t_k1 (by omega) ?_ | refine t_k2 rfl ?_)) ho9 (t_zw_at ⟨by decide, by decide⟩) hci9 hz⟩⟩
  · skip
    refine ⟨_, _, 32, 1, trivial, t_RE (s_X10_failure_1 (L := L) (iv := iv) p hk hE hB hS hC hA hO hL hP hci hcase0), Or.inr ⟨1, rfl, rfl, by decide⟩, ?_⟩
    intro iv1 e9
    have e8 : iv1 = _ := e9
    subst e8
    exact ⟨hsc, fun x9 => ⟨_, s_X11_failure_1 (L := L) (iv := pz_u1 _ 164 x9) p hk hcase0, rfl, rfl, t_I_keep hI (by intro r hr; repeat (first | rfl | refine t_k1 (by omega) ?_ | refine t_k2 rfl ?_)) rfl (rfl) hci hz⟩⟩
theorem t_P_playedAt {sc : Nat → Int} {L : Nat} {iv : Nat → Nat → Int} {e : Int} (h : t_I sc iv) : t_Q t_Bi sc L 145 265 t_Vi t_Vi (pz_hc 320) [.inl e] iv := by
  have hI := h
  obtain ⟨hsc, hk, ⟨hE, hB, hS, hC, hA, hO, hL, hP⟩, hci, hz, hof, ho3, hfr⟩ := h
  have h0 := hk.r0
  by_cases hcase0 : 0 ≤ e ∧ e ≤ iv 155 0 - 1
  · skip
    by_cases hcase1 : iv 155 240 ≤ e
    · skip
      refine ⟨_, _, 0, 2, trivial, t_RE (s_X10_playedAt_2 (L := L) (iv := iv) e hk hE hB hS hC hA hO hL hP hcase0 hcase1), Or.inr ⟨0, rfl, rfl, by decide⟩, ?_⟩
      intro iv1 e9
      have e8 : iv1 = _ := e9
      subst e8
      exact ⟨hsc, fun x9 => ⟨_, s_X11_playedAt_2 (L := L) (iv := pz_u1 _ 164 x9) e hk hcase0 hcase1, rfl, rfl, t_I_keep hI (by intro r hr; repeat (first | rfl | refine t_k1 (by omega) ?_ | refine t_k2 rfl ?_)) rfl (rfl) hci hz⟩⟩
    · skip
      have hcase1 := Int.not_le.mp hcase1
      refine ⟨_, _, iv 155 (241 + e).toNat, 0, trivial, t_RE (s_X10_playedAt_0 (L := L) (iv := iv) e hk hE hB hS hC hA hO hL hP hcase0 hcase1), Or.inl ⟨rfl, rfl⟩, ?_⟩
      intro iv1 e9
      have e8 : iv1 = _ := e9
      subst e8
      exact ⟨hsc, fun x9 => ⟨_, s_X11_playedAt_0 (L := L) (iv := pz_u1 _ 164 x9) e hk hcase0 hcase1, rfl, rfl, t_I_keep hI (by intro r hr; repeat (first | rfl | refine t_k1 (by omega) ?_ | refine t_k2 rfl ?_)) rfl (rfl) hci hz⟩⟩
  · skip
    refine ⟨_, _, 0, 1, trivial, t_RE (s_X10_playedAt_1 (L := L) (iv := iv) e hk hE hB hS hC hA hO hL hP hcase0), Or.inr ⟨2, rfl, rfl, by decide⟩, ?_⟩
    intro iv1 e9
    have e8 : iv1 = _ := e9
    subst e8
    exact ⟨hsc, fun x9 => ⟨_, s_X11_playedAt_1 (L := L) (iv := pz_u1 _ 164 x9) e hk hcase0, rfl, rfl, t_I_keep hI (by intro r hr; repeat (first | rfl | refine t_k1 (by omega) ?_ | refine t_k2 rfl ?_)) rfl (rfl) hci hz⟩⟩
theorem t_P_isKept {sc : Nat → Int} {L : Nat} {iv : Nat → Nat → Int} (h : t_I sc iv) : t_Q t_Bz sc L 146 266 t_Vi t_Vi (pz_hc 321) [] iv := by
  have hI := h
  obtain ⟨hsc, hk, ⟨hE, hB, hS, hC, hA, hO, hL, hP⟩, hci, hz, hof, ho3, hfr⟩ := h
  have h0 := hk.r0
  by_cases hcase0 : q_exi (fun i => 1 ≤ i ∧ q_sta (iv 155) i) (iv 155 0)
  · skip
    refine ⟨_, _, pz_bi False, 1, pz_bi01 _, t_RE (s_X10_isKept_2a (L := L) (iv := iv) hk hE hB hS hC hA hO hL hP hci hcase0), Or.inr ⟨0, rfl, rfl, by decide⟩, ?_⟩
    intro iv1 e9
    have e8 : iv1 = _ := e9
    subst e8
    exact ⟨hsc, fun x9 => ⟨_, s_X11_isKept_1a (L := L) (iv := pz_u1 _ 164 x9) hk hcase0, rfl, rfl, t_I_keep hI (by intro r hr; repeat (first | rfl | refine t_k1 (by omega) ?_ | refine t_k2 rfl ?_)) rfl (t_zw_at ⟨by decide, by decide⟩) hci hz⟩⟩
  · skip
    by_cases hcase1 : q_sen (iv 155)
    · skip
      have sen9 := (t_seen (g := iv 157) (v := iv 158) (a := iv 159) hk hz).mpr hcase1
      have zx := t_zX (g := iv 157) (v := iv 158) (a := iv 159) hk hz hcase1.1
      refine ⟨_, _, pz_bi (q_all (fun p => q_flk (iv 155) p = 45) (q_p2 (iv 155 2))), 0, pz_bi01 _, s_X10_isKept_0 (L := L) (iv := iv) hk hE hB hS hC hA hO hL hP hci hcase0 hcase1, Or.inl ⟨rfl, rfl⟩, ?_⟩
      intro iv1 e9
      obtain ⟨o9, l9, n9, w9, d9, m9, V9, W9, U9, Y9, p9, q9, r9, x9, y9, e8, hci9, ho9⟩ := e9
      subst e8
      exact ⟨hsc, fun x9 => ⟨_, t_Rv (s_X11_isKept_0 (L := L) (iv := pz_u1 _ 164 x9) hk hcase0 sen9) (congrArg t_Vi (pz_bi_iff (t_ik hk zx))), rfl, rfl, t_I_keep hI (by intro r hr; repeat (first | rfl | refine t_k1 (by omega) ?_ | refine t_k2 rfl ?_)) ho9 (t_zw_at ⟨by decide, by decide⟩) hci9 hz⟩⟩
    · skip
      have sen9 := fun q => hcase1 ((t_seen (g := iv 157) (v := iv 158) (a := iv 159) hk hz).mp q)
      refine ⟨_, _, pz_bi False, 1, pz_bi01 _, s_X10_isKept_2b (L := L) (iv := iv) hk hE hB hS hC hA hO hL hP hci hcase0 hcase1, Or.inr ⟨0, rfl, rfl, by decide⟩, ?_⟩
      intro iv1 e9
      obtain ⟨o9, l9, n9, w9, d9, m9, V9, W9, U9, Y9, p9, q9, r9, e8, hci9, ho9⟩ := e9
      subst e8
      exact ⟨hsc, fun x9 => ⟨_, s_X11_isKept_1b (L := L) (iv := pz_u1 _ 164 x9) hk hcase0 sen9, rfl, rfl, t_I_keep hI (by intro r hr; repeat (first | rfl | refine t_k1 (by omega) ?_ | refine t_k2 rfl ?_)) ho9 (t_zw_at ⟨by decide, by decide⟩) hci9 hz⟩⟩
theorem t_P_reason {sc : Nat → Int} {L : Nat} {iv : Nat → Nat → Int} {e : Int} (h : t_I sc iv) : t_Q t_Bi sc L 147 269 t_Vi t_Vi (pz_hc 322) [.inl e] iv := by
  have hI := h
  obtain ⟨hsc, hk, ⟨hE, hB, hS, hC, hA, hO, hL, hP⟩, hci, hz, hof, ho3, hfr⟩ := h
  have h0 := hk.r0
  by_cases hcase0 : 0 ≤ e ∧ e ≤ iv 155 0 - 1
  · skip
    by_cases hcase1 : q_sen (iv 155)
    · skip
      have sen9 := (t_seen (g := iv 157) (v := iv 158) (a := iv 159) hk hz).mpr hcase1
      have zx := t_zX (g := iv 157) (v := iv 158) (a := iv 159) hk hz hcase1.1
      refine ⟨_, _, q_rs (q_val (iv 155)) (q_ka (iv 155)) (iv 155) e (iv 155 4), 0, trivial, s_X10_reason_0 (L := L) (iv := iv) e hk hE hB hS hC hA hO hL hP hci hcase0 hcase1, Or.inl ⟨rfl, rfl⟩, ?_⟩
      intro iv1 e9
      obtain ⟨o9, l9, n9, w9, d9, m9, V9, W9, U9, Y9, p9, q9, r9, e8, hci9, ho9⟩ := e9
      subst e8
      exact ⟨hsc, fun x9 => ⟨_, t_Rv (s_X11_reason_0 (L := L) (iv := pz_u1 _ 164 x9) e hk hcase0 sen9) (congrArg t_Vi (t_rs2 hk zx ⟨by omega, by omega⟩)), rfl, rfl, t_I_keep hI (by intro r hr; repeat (first | rfl | refine t_k1 (by omega) ?_ | refine t_k2 rfl ?_)) ho9 (t_zw_at ⟨by decide, by decide⟩) hci9 hz⟩⟩
    · skip
      have sen9 := fun q => hcase1 ((t_seen (g := iv 157) (v := iv 158) (a := iv 159) hk hz).mp q)
      refine ⟨_, _, 32, 2, trivial, s_X10_reason_2 (L := L) (iv := iv) e hk hE hB hS hC hA hO hL hP hci hcase0 hcase1, Or.inr ⟨0, rfl, rfl, by decide⟩, ?_⟩
      intro iv1 e9
      obtain ⟨o9, l9, n9, w9, d9, m9, V9, W9, U9, Y9, p9, q9, r9, e8, hci9, ho9⟩ := e9
      subst e8
      exact ⟨hsc, fun x9 => ⟨_, s_X11_reason_2 (L := L) (iv := pz_u1 _ 164 x9) e hk hcase0 sen9, rfl, rfl, t_I_keep hI (by intro r hr; repeat (first | rfl | refine t_k1 (by omega) ?_ | refine t_k2 rfl ?_)) ho9 (t_zw_at ⟨by decide, by decide⟩) hci9 hz⟩⟩
  · skip
    refine ⟨_, _, 32, 1, trivial, t_RE (s_X10_reason_1 (L := L) (iv := iv) e hk hE hB hS hC hA hO hL hP hci hcase0), Or.inr ⟨2, rfl, rfl, by decide⟩, ?_⟩
    intro iv1 e9
    have e8 : iv1 = _ := e9
    subst e8
    exact ⟨hsc, fun x9 => ⟨_, s_X11_reason_1 (L := L) (iv := pz_u1 _ 164 x9) e hk hcase0, rfl, rfl, t_I_keep hI (by intro r hr; repeat (first | rfl | refine t_k1 (by omega) ?_ | refine t_k2 rfl ?_)) rfl (rfl) hci hz⟩⟩
theorem t_P_lowest {sc : Nat → Int} {L : Nat} {iv : Nat → Nat → Int} {e : Int} (h : t_I sc iv) : t_Q t_Bi sc L 148 271 t_Vi t_Vi (pz_hc 323) [.inl e] iv := by
  have hI := h
  obtain ⟨hsc, hk, ⟨hE, hB, hS, hC, hA, hO, hL, hP⟩, hci, hz, hof, ho3, hfr⟩ := h
  have h0 := hk.r0
  by_cases hcase0 : 0 ≤ e ∧ e ≤ iv 155 0 - 1
  · skip
    by_cases hsta : q_sta (iv 155) e
    · skip
      by_cases hcase1 : q_sen (iv 155)
      · skip
        have sen9 := (t_seen (g := iv 157) (v := iv 158) (a := iv 159) hk hz).mpr hcase1
        have zx := t_zX (g := iv 157) (v := iv 158) (a := iv 159) hk hz hcase1.1
        refine ⟨_, _, 0, 2, trivial, t_RE (s_X10_lowest_2a (L := L) (iv := iv) e hk hE hB hS hC hA hO hL hP hci hcase0 hsta), Or.inr ⟨0, rfl, rfl, by decide⟩, ?_⟩
        intro iv1 e9
        have e8 : iv1 = _ := e9
        subst e8
        exact ⟨hsc, fun x9 => ⟨_, s_X11_lowest_3 (L := L) (iv := pz_u1 _ 164 x9) e hk hcase0 sen9 hsta, rfl, rfl, t_I_keep hI (by intro r hr; repeat (first | rfl | refine t_k1 (by omega) ?_ | refine t_k2 rfl ?_)) rfl (t_zw_at ⟨by decide, by decide⟩) hci hz⟩⟩
      · skip
        have sen9 := fun q => hcase1 ((t_seen (g := iv 157) (v := iv 158) (a := iv 159) hk hz).mp q)
        refine ⟨_, _, 0, 2, trivial, t_RE (s_X10_lowest_2a (L := L) (iv := iv) e hk hE hB hS hC hA hO hL hP hci hcase0 hsta), Or.inr ⟨0, rfl, rfl, by decide⟩, ?_⟩
        intro iv1 e9
        have e8 : iv1 = _ := e9
        subst e8
        exact ⟨hsc, fun x9 => ⟨_, s_X11_lowest_2 (L := L) (iv := pz_u1 _ 164 x9) e hk hcase0 sen9, rfl, rfl, t_I_keep hI (by intro r hr; repeat (first | rfl | refine t_k1 (by omega) ?_ | refine t_k2 rfl ?_)) rfl (t_zw_at ⟨by decide, by decide⟩) hci hz⟩⟩
    · skip
      by_cases hcase1 : q_sen (iv 155)
      · skip
        have sen9 := (t_seen (g := iv 157) (v := iv 158) (a := iv 159) hk hz).mpr hcase1
        have zx := t_zX (g := iv 157) (v := iv 158) (a := iv 159) hk hz hcase1.1
        refine ⟨_, _, q_lo (q_val (iv 155)) (q_ka (iv 155)) (iv 155) e, 0, trivial, s_X10_lowest_0 (L := L) (iv := iv) e hk hE hB hS hC hA hO hL hP hci hcase0 hsta hcase1, Or.inl ⟨rfl, rfl⟩, ?_⟩
        intro iv1 e9
        obtain ⟨o9, l9, n9, w9, d9, m9, V9, W9, U9, Y9, p9, q9, r9, e8, hci9, ho9⟩ := e9
        subst e8
        exact ⟨hsc, fun x9 => ⟨_, t_Rv (s_X11_lowest_0 (L := L) (iv := pz_u1 _ 164 x9) e hk hcase0 sen9 hsta) (congrArg t_Vi (t_lo2 hk zx ⟨by omega, by omega⟩)), rfl, rfl, t_I_keep hI (by intro r hr; repeat (first | rfl | refine t_k1 (by omega) ?_ | refine t_k2 rfl ?_)) ho9 (t_zw_at ⟨by decide, by decide⟩) hci9 hz⟩⟩
      · skip
        have sen9 := fun q => hcase1 ((t_seen (g := iv 157) (v := iv 158) (a := iv 159) hk hz).mp q)
        refine ⟨_, _, 0, 2, trivial, s_X10_lowest_2b (L := L) (iv := iv) e hk hE hB hS hC hA hO hL hP hci hcase0 hsta hcase1, Or.inr ⟨0, rfl, rfl, by decide⟩, ?_⟩
        intro iv1 e9
        obtain ⟨o9, l9, n9, w9, d9, m9, V9, W9, U9, Y9, p9, q9, r9, e8, hci9, ho9⟩ := e9
        subst e8
        exact ⟨hsc, fun x9 => ⟨_, s_X11_lowest_2 (L := L) (iv := pz_u1 _ 164 x9) e hk hcase0 sen9, rfl, rfl, t_I_keep hI (by intro r hr; repeat (first | rfl | refine t_k1 (by omega) ?_ | refine t_k2 rfl ?_)) ho9 (t_zw_at ⟨by decide, by decide⟩) hci9 hz⟩⟩
  · skip
    refine ⟨_, _, 0, 1, trivial, t_RE (s_X10_lowest_1 (L := L) (iv := iv) e hk hE hB hS hC hA hO hL hP hci hcase0), Or.inr ⟨2, rfl, rfl, by decide⟩, ?_⟩
    intro iv1 e9
    have e8 : iv1 = _ := e9
    subst e8
    exact ⟨hsc, fun x9 => ⟨_, s_X11_lowest_1 (L := L) (iv := pz_u1 _ 164 x9) e hk hcase0, rfl, rfl, t_I_keep hI (by intro r hr; repeat (first | rfl | refine t_k1 (by omega) ?_ | refine t_k2 rfl ?_)) rfl (rfl) hci hz⟩⟩
theorem t_P_uppermost {sc : Nat → Int} {L : Nat} {iv : Nat → Nat → Int} {e : Int} (h : t_I sc iv) : t_Q t_Bi sc L 149 272 t_Vi t_Vi (pz_hc 324) [.inl e] iv := by
  have hI := h
  obtain ⟨hsc, hk, ⟨hE, hB, hS, hC, hA, hO, hL, hP⟩, hci, hz, hof, ho3, hfr⟩ := h
  have h0 := hk.r0
  by_cases hcase0 : 0 ≤ e ∧ e ≤ iv 155 0 - 1
  · skip
    by_cases hsta : q_sta (iv 155) e
    · skip
      by_cases hcase1 : q_sen (iv 155)
      · skip
        have sen9 := (t_seen (g := iv 157) (v := iv 158) (a := iv 159) hk hz).mpr hcase1
        have zx := t_zX (g := iv 157) (v := iv 158) (a := iv 159) hk hz hcase1.1
        refine ⟨_, _, 0, 2, trivial, t_RE (s_X10_uppermost_2a (L := L) (iv := iv) e hk hE hB hS hC hA hO hL hP hci hcase0 hsta), Or.inr ⟨0, rfl, rfl, by decide⟩, ?_⟩
        intro iv1 e9
        have e8 : iv1 = _ := e9
        subst e8
        exact ⟨hsc, fun x9 => ⟨_, s_X11_uppermost_3 (L := L) (iv := pz_u1 _ 164 x9) e hk hcase0 sen9 hsta, rfl, rfl, t_I_keep hI (by intro r hr; repeat (first | rfl | refine t_k1 (by omega) ?_ | refine t_k2 rfl ?_)) rfl (t_zw_at ⟨by decide, by decide⟩) hci hz⟩⟩
      · skip
        have sen9 := fun q => hcase1 ((t_seen (g := iv 157) (v := iv 158) (a := iv 159) hk hz).mp q)
        refine ⟨_, _, 0, 2, trivial, t_RE (s_X10_uppermost_2a (L := L) (iv := iv) e hk hE hB hS hC hA hO hL hP hci hcase0 hsta), Or.inr ⟨0, rfl, rfl, by decide⟩, ?_⟩
        intro iv1 e9
        have e8 : iv1 = _ := e9
        subst e8
        exact ⟨hsc, fun x9 => ⟨_, s_X11_uppermost_2 (L := L) (iv := pz_u1 _ 164 x9) e hk hcase0 sen9, rfl, rfl, t_I_keep hI (by intro r hr; repeat (first | rfl | refine t_k1 (by omega) ?_ | refine t_k2 rfl ?_)) rfl (t_zw_at ⟨by decide, by decide⟩) hci hz⟩⟩
    · skip
      by_cases hcase1 : q_sen (iv 155)
      · skip
        have sen9 := (t_seen (g := iv 157) (v := iv 158) (a := iv 159) hk hz).mpr hcase1
        have zx := t_zX (g := iv 157) (v := iv 158) (a := iv 159) hk hz hcase1.1
        refine ⟨_, _, q_hi (q_val (iv 155)) (q_ka (iv 155)) (iv 155) e, 0, trivial, s_X10_uppermost_0 (L := L) (iv := iv) e hk hE hB hS hC hA hO hL hP hci hcase0 hsta hcase1, Or.inl ⟨rfl, rfl⟩, ?_⟩
        intro iv1 e9
        obtain ⟨o9, l9, n9, w9, d9, m9, V9, W9, U9, Y9, p9, q9, r9, e8, hci9, ho9⟩ := e9
        subst e8
        exact ⟨hsc, fun x9 => ⟨_, t_Rv (s_X11_uppermost_0 (L := L) (iv := pz_u1 _ 164 x9) e hk hcase0 sen9 hsta) (congrArg t_Vi (t_hi2 hk zx ⟨by omega, by omega⟩)), rfl, rfl, t_I_keep hI (by intro r hr; repeat (first | rfl | refine t_k1 (by omega) ?_ | refine t_k2 rfl ?_)) ho9 (t_zw_at ⟨by decide, by decide⟩) hci9 hz⟩⟩
      · skip
        have sen9 := fun q => hcase1 ((t_seen (g := iv 157) (v := iv 158) (a := iv 159) hk hz).mp q)
        refine ⟨_, _, 0, 2, trivial, s_X10_uppermost_2b (L := L) (iv := iv) e hk hE hB hS hC hA hO hL hP hci hcase0 hsta hcase1, Or.inr ⟨0, rfl, rfl, by decide⟩, ?_⟩
        intro iv1 e9
        obtain ⟨o9, l9, n9, w9, d9, m9, V9, W9, U9, Y9, p9, q9, r9, e8, hci9, ho9⟩ := e9
        subst e8
        exact ⟨hsc, fun x9 => ⟨_, s_X11_uppermost_2 (L := L) (iv := pz_u1 _ 164 x9) e hk hcase0 sen9, rfl, rfl, t_I_keep hI (by intro r hr; repeat (first | rfl | refine t_k1 (by omega) ?_ | refine t_k2 rfl ?_)) ho9 (t_zw_at ⟨by decide, by decide⟩) hci9 hz⟩⟩
  · skip
    refine ⟨_, _, 0, 1, trivial, t_RE (s_X10_uppermost_1 (L := L) (iv := iv) e hk hE hB hS hC hA hO hL hP hci hcase0), Or.inr ⟨2, rfl, rfl, by decide⟩, ?_⟩
    intro iv1 e9
    have e8 : iv1 = _ := e9
    subst e8
    exact ⟨hsc, fun x9 => ⟨_, s_X11_uppermost_1 (L := L) (iv := pz_u1 _ 164 x9) e hk hcase0, rfl, rfl, t_I_keep hI (by intro r hr; repeat (first | rfl | refine t_k1 (by omega) ?_ | refine t_k2 rfl ?_)) rfl (rfl) hci hz⟩⟩
theorem t_P_now {sc : Nat → Int} {L : Nat} {iv : Nat → Nat → Int} (h : t_I sc iv) : t_Q t_Bi sc L 153 276 t_Vi t_Vi [] [] iv := by
  have hI := h
  obtain ⟨hsc, hk, ⟨hE, hB, hS, hC, hA, hO, hL, hP⟩, hci, hz, hof, ho3, hfr⟩ := h
  have h0 := hk.r0
  refine ⟨_, _, iv 155 4, 0, trivial, t_RE (s_X10_now_0 (L := L) (iv := iv) hk hE hB hS hC hA hO hL hP), Or.inl ⟨rfl, rfl⟩, ?_⟩
  intro iv1 e9
  have e8 : iv1 = _ := e9
  subst e8
  exact ⟨hsc, fun x9 => ⟨_, s_X11_now (L := L) (iv := pz_u1 _ 164 x9) hk, rfl, rfl, t_I_keep hI (by intro r hr; repeat (first | rfl | refine t_k1 (by omega) ?_ | refine t_k2 rfl ?_)) rfl (rfl) hci hz⟩⟩
theorem t_P_startedAt {sc : Nat → Int} {L : Nat} {iv : Nat → Nat → Int} {e : Int} (h : t_I sc iv) : t_Q t_Bi sc L 154 277 t_Vi t_Vi (pz_hc 328) [.inl e] iv := by
  have hI := h
  obtain ⟨hsc, hk, ⟨hE, hB, hS, hC, hA, hO, hL, hP⟩, hci, hz, hof, ho3, hfr⟩ := h
  have h0 := hk.r0
  by_cases hcase0 : 0 ≤ e ∧ e ≤ iv 155 0 - 1
  · skip
    by_cases hcase1 : q_sta (iv 155) e
    · skip
      refine ⟨_, _, iv 155 (6 + e).toNat, 0, trivial, t_RE (s_X10_startedAt_0 (L := L) (iv := iv) e hk hE hB hS hC hA hO hL hP hcase0 hcase1), Or.inl ⟨rfl, rfl⟩, ?_⟩
      intro iv1 e9
      have e8 : iv1 = _ := e9
      subst e8
      exact ⟨hsc, fun x9 => ⟨_, s_X11_startedAt_0 (L := L) (iv := pz_u1 _ 164 x9) e hk hcase0 hcase1, rfl, rfl, t_I_keep hI (by intro r hr; repeat (first | rfl | refine t_k1 (by omega) ?_ | refine t_k2 rfl ?_)) rfl (rfl) hci hz⟩⟩
    · skip
      refine ⟨_, _, 0, 2, trivial, t_RE (s_X10_startedAt_2 (L := L) (iv := iv) e hk hE hB hS hC hA hO hL hP hcase0 hcase1), Or.inr ⟨0, rfl, rfl, by decide⟩, ?_⟩
      intro iv1 e9
      have e8 : iv1 = _ := e9
      subst e8
      exact ⟨hsc, fun x9 => ⟨_, s_X11_startedAt_2 (L := L) (iv := pz_u1 _ 164 x9) e hk hcase0 hcase1, rfl, rfl, t_I_keep hI (by intro r hr; repeat (first | rfl | refine t_k1 (by omega) ?_ | refine t_k2 rfl ?_)) rfl (rfl) hci hz⟩⟩
  · skip
    refine ⟨_, _, 0, 1, trivial, t_RE (s_X10_startedAt_1 (L := L) (iv := iv) e hk hE hB hS hC hA hO hL hP hcase0), Or.inr ⟨2, rfl, rfl, by decide⟩, ?_⟩
    intro iv1 e9
    have e8 : iv1 = _ := e9
    subst e8
    exact ⟨hsc, fun x9 => ⟨_, s_X11_startedAt_1 (L := L) (iv := pz_u1 _ 164 x9) e hk hcase0, rfl, rfl, t_I_keep hI (by intro r hr; repeat (first | rfl | refine t_k1 (by omega) ?_ | refine t_k2 rfl ?_)) rfl (rfl) hci hz⟩⟩
theorem t_P_firstTime {sc : Nat → Int} {L : Nat} {iv : Nat → Nat → Int} {e : Int} (h : t_I sc iv) : t_Q t_Bi sc L 157 282 t_Vi t_Vi (pz_hc 331) [.inl e] iv := by
  have hI := h
  obtain ⟨hsc, hk, ⟨hE, hB, hS, hC, hA, hO, hL, hP⟩, hci, hz, hof, ho3, hfr⟩ := h
  have h0 := hk.r0
  by_cases hcase0 : 0 ≤ e ∧ e ≤ iv 155 0 - 1
  · skip
    by_cases hcase1 : q_con (iv 155) (fun _ => 0)
    · skip
      have con9 := (t_con hk hz).mpr hcase1
      have dd := t_dd (g := iv 157) hk hz hcase1
      refine ⟨_, _, q_ft (q_D (iv 155)) e, 0, trivial, s_X10_firstTime_0 (L := L) (iv := iv) e hk hE hB hS hC hA hO hL hP hci hcase0 hcase1, Or.inl ⟨rfl, rfl⟩, ?_⟩
      intro iv1 e9
      obtain ⟨o9, l9, n9, w9, d9, e8, hci9, ho9⟩ := e9
      subst e8
      exact ⟨hsc, fun x9 => ⟨_, t_Rv (s_X11_firstTime_0 (L := L) (iv := pz_u1 _ 164 x9) e hk hcase0 con9) (congrArg t_Vi (t_ft dd (by omega))), rfl, rfl, t_I_keep hI (by intro r hr; repeat (first | rfl | refine t_k1 (by omega) ?_ | refine t_k2 rfl ?_)) ho9 (rfl) hci9 hz⟩⟩
    · skip
      have con9 := fun q => hcase1 ((t_con hk hz).mp q)
      refine ⟨_, _, 0, 2, trivial, s_X10_firstTime_2 (L := L) (iv := iv) e hk hE hB hS hC hA hO hL hP hci hcase0 hcase1, Or.inr ⟨0, rfl, rfl, by decide⟩, ?_⟩
      intro iv1 e9
      obtain ⟨o9, l9, n9, w9, d9, e8, hci9, ho9⟩ := e9
      subst e8
      exact ⟨hsc, fun x9 => ⟨_, s_X11_firstTime_2 (L := L) (iv := pz_u1 _ 164 x9) e hk hcase0 con9, rfl, rfl, t_I_keep hI (by intro r hr; repeat (first | rfl | refine t_k1 (by omega) ?_ | refine t_k2 rfl ?_)) ho9 (rfl) hci9 hz⟩⟩
  · skip
    refine ⟨_, _, 0, 1, trivial, t_RE (s_X10_firstTime_1 (L := L) (iv := iv) e hk hE hB hS hC hA hO hL hP hci hcase0), Or.inr ⟨2, rfl, rfl, by decide⟩, ?_⟩
    intro iv1 e9
    have e8 : iv1 = _ := e9
    subst e8
    exact ⟨hsc, fun x9 => ⟨_, s_X11_firstTime_1 (L := L) (iv := pz_u1 _ 164 x9) e hk hcase0, rfl, rfl, t_I_keep hI (by intro r hr; repeat (first | rfl | refine t_k1 (by omega) ?_ | refine t_k2 rfl ?_)) rfl (rfl) hci hz⟩⟩
theorem t_P_use {sc : Nat → Int} {L : Nat} {iv : Nat → Nat → Int} {m : Int} (h : t_I sc iv) : t_Q t_Bi sc L 158 285 t_Vi t_Vi (pz_hc 332) [.inl m] iv := by
  have hI := h
  obtain ⟨hsc, hk, ⟨hE, hB, hS, hC, hA, hO, hL, hP⟩, hci, hz, hof, ho3, hfr⟩ := h
  have h0 := hk.r0
  by_cases hcase0 : 0 ≤ m ∧ m ≤ 999
  · skip
    by_cases hcase1 : q_con (iv 155) (fun _ => 0)
    · skip
      have con9 := (t_con hk hz).mpr hcase1
      have dd := t_dd (g := iv 157) hk hz hcase1
      refine ⟨_, _, q_use (iv 155) (q_D (iv 155)) m, 0, trivial, s_X10_use_0 (L := L) (iv := iv) m hk hE hB hS hC hA hO hL hP hci hcase0 hcase1, Or.inl ⟨rfl, rfl⟩, ?_⟩
      intro iv1 e9
      obtain ⟨o9, l9, n9, w9, d9, e8, hci9, ho9⟩ := e9
      subst e8
      exact ⟨hsc, fun x9 => ⟨_, t_Rv (s_X11_use_0 (L := L) (iv := pz_u1 _ 164 x9) m hk hcase0 con9) (congrArg t_Vi (t_use hk dd)), rfl, rfl, t_I_keep hI (by intro r hr; repeat (first | rfl | refine t_k1 (by omega) ?_ | refine t_k2 rfl ?_)) ho9 (rfl) hci9 hz⟩⟩
    · skip
      have con9 := fun q => hcase1 ((t_con hk hz).mp q)
      refine ⟨_, _, 0, 2, trivial, s_X10_use_2 (L := L) (iv := iv) m hk hE hB hS hC hA hO hL hP hci hcase0 hcase1, Or.inr ⟨0, rfl, rfl, by decide⟩, ?_⟩
      intro iv1 e9
      obtain ⟨o9, l9, n9, w9, d9, e8, hci9, ho9⟩ := e9
      subst e8
      exact ⟨hsc, fun x9 => ⟨_, s_X11_use_2 (L := L) (iv := pz_u1 _ 164 x9) m hk hcase0 con9, rfl, rfl, t_I_keep hI (by intro r hr; repeat (first | rfl | refine t_k1 (by omega) ?_ | refine t_k2 rfl ?_)) ho9 (rfl) hci9 hz⟩⟩
  · skip
    refine ⟨_, _, 0, 1, trivial, t_RE (s_X10_use_1 (L := L) (iv := iv) m hk hE hB hS hC hA hO hL hP hci hcase0), Or.inr ⟨1, rfl, rfl, by decide⟩, ?_⟩
    intro iv1 e9
    have e8 : iv1 = _ := e9
    subst e8
    exact ⟨hsc, fun x9 => ⟨_, s_X11_use_1 (L := L) (iv := pz_u1 _ 164 x9) m hk hcase0, rfl, rfl, t_I_keep hI (by intro r hr; repeat (first | rfl | refine t_k1 (by omega) ?_ | refine t_k2 rfl ?_)) rfl (rfl) hci hz⟩⟩
theorem t_P_peak {sc : Nat → Int} {L : Nat} {iv : Nat → Nat → Int} (h : t_I sc iv) : t_Q t_Bi sc L 159 288 t_Vi t_Vi (pz_hc 333) [] iv := by
  have hI := h
  obtain ⟨hsc, hk, ⟨hE, hB, hS, hC, hA, hO, hL, hP⟩, hci, hz, hof, ho3, hfr⟩ := h
  have h0 := hk.r0
  by_cases hcase0 : q_con (iv 155) (fun _ => 0)
  · skip
    have con9 := (t_con hk hz).mpr hcase0
    have dd := t_dd (g := iv 157) hk hz hcase0
    by_cases hcase1 : q_pk (iv 155) (q_D (iv 155)) = -1
    · skip
      refine ⟨_, _, 0, 2, trivial, s_X10_peak_2 (L := L) (iv := iv) hk hE hB hS hC hA hO hL hP hci hcase0 hcase1, Or.inr ⟨2, rfl, rfl, by decide⟩, ?_⟩
      intro iv1 e9
      obtain ⟨o9, l9, n9, w9, d9, e8, hci9, ho9⟩ := e9
      subst e8
      exact ⟨hsc, fun x9 => ⟨_, s_X11_peak_2 (L := L) (iv := pz_u1 _ 164 x9) hk con9 ((t_pk hk dd).trans hcase1), rfl, rfl, t_I_keep hI (by intro r hr; repeat (first | rfl | refine t_k1 (by omega) ?_ | refine t_k2 rfl ?_)) ho9 (rfl) hci9 hz⟩⟩
    · skip
      refine ⟨_, _, q_pk (iv 155) (q_D (iv 155)), 0, trivial, s_X10_peak_0 (L := L) (iv := iv) hk hE hB hS hC hA hO hL hP hci hcase0 hcase1, Or.inl ⟨rfl, rfl⟩, ?_⟩
      intro iv1 e9
      obtain ⟨o9, l9, n9, w9, d9, e8, hci9, ho9⟩ := e9
      subst e8
      exact ⟨hsc, fun x9 => ⟨_, t_Rv (s_X11_peak_0 (L := L) (iv := pz_u1 _ 164 x9) hk con9 (fun q => hcase1 ((t_pk hk dd).symm.trans q))) (congrArg t_Vi (t_pk hk dd)), rfl, rfl, t_I_keep hI (by intro r hr; repeat (first | rfl | refine t_k1 (by omega) ?_ | refine t_k2 rfl ?_)) ho9 (rfl) hci9 hz⟩⟩
  · skip
    have con9 := fun q => hcase0 ((t_con hk hz).mp q)
    refine ⟨_, _, 0, 1, trivial, s_X10_peak_1 (L := L) (iv := iv) hk hE hB hS hC hA hO hL hP hci hcase0, Or.inr ⟨0, rfl, rfl, by decide⟩, ?_⟩
    intro iv1 e9
    obtain ⟨o9, l9, n9, w9, d9, e8, hci9, ho9⟩ := e9
    subst e8
    exact ⟨hsc, fun x9 => ⟨_, s_X11_peak_1 (L := L) (iv := pz_u1 _ 164 x9) hk con9, rfl, rfl, t_I_keep hI (by intro r hr; repeat (first | rfl | refine t_k1 (by omega) ?_ | refine t_k2 rfl ?_)) ho9 (rfl) hci9 hz⟩⟩
theorem t_P_peakSet {sc : Nat → Int} {L : Nat} {iv : Nat → Nat → Int} (h : t_I sc iv) : t_Q t_Bi sc L 160 289 t_Vi t_Vi (pz_hc 334) [] iv := by
  have hI := h
  obtain ⟨hsc, hk, ⟨hE, hB, hS, hC, hA, hO, hL, hP⟩, hci, hz, hof, ho3, hfr⟩ := h
  have h0 := hk.r0
  by_cases hcase0 : q_con (iv 155) (fun _ => 0)
  · skip
    have con9 := (t_con hk hz).mpr hcase0
    have dd := t_dd (g := iv 157) hk hz hcase0
    by_cases hcase1 : q_pk (iv 155) (q_D (iv 155)) = -1
    · skip
      refine ⟨_, _, 0, 2, trivial, s_X10_peakSet_2 (L := L) (iv := iv) hk hE hB hS hC hA hO hL hP hci hcase0 hcase1, Or.inr ⟨2, rfl, rfl, by decide⟩, ?_⟩
      intro iv1 e9
      obtain ⟨o9, l9, n9, w9, d9, e8, hci9, ho9⟩ := e9
      subst e8
      exact ⟨hsc, fun x9 => ⟨_, s_X11_peakSet_2 (L := L) (iv := pz_u1 _ 164 x9) hk con9 ((t_pk hk dd).trans hcase1), rfl, rfl, t_I_keep hI (by intro r hr; repeat (first | rfl | refine t_k1 (by omega) ?_ | refine t_k2 rfl ?_)) ho9 (rfl) hci9 hz⟩⟩
    · skip
      refine ⟨_, _, q_st (iv 155) (q_D (iv 155)) (q_pk (iv 155) (q_D (iv 155))) (iv 155 3), 0, trivial, s_X10_peakSet_0 (L := L) (iv := iv) hk hE hB hS hC hA hO hL hP hci hcase0 hcase1, Or.inl ⟨rfl, rfl⟩, ?_⟩
      intro iv1 e9
      obtain ⟨o9, l9, n9, w9, d9, e8, hci9, ho9⟩ := e9
      subst e8
      exact ⟨hsc, fun x9 => ⟨_, t_Rv (s_X11_peakSet_0 (L := L) (iv := pz_u1 _ 164 x9) hk con9 (fun q => hcase1 ((t_pk hk dd).symm.trans q))) (congrArg t_Vi (t_st2 hk dd)), rfl, rfl, t_I_keep hI (by intro r hr; repeat (first | rfl | refine t_k1 (by omega) ?_ | refine t_k2 rfl ?_)) ho9 (rfl) hci9 hz⟩⟩
  · skip
    have con9 := fun q => hcase0 ((t_con hk hz).mp q)
    refine ⟨_, _, 0, 1, trivial, s_X10_peakSet_1 (L := L) (iv := iv) hk hE hB hS hC hA hO hL hP hci hcase0, Or.inr ⟨0, rfl, rfl, by decide⟩, ?_⟩
    intro iv1 e9
    obtain ⟨o9, l9, n9, w9, d9, e8, hci9, ho9⟩ := e9
    subst e8
    exact ⟨hsc, fun x9 => ⟨_, s_X11_peakSet_1 (L := L) (iv := pz_u1 _ 164 x9) hk con9, rfl, rfl, t_I_keep hI (by intro r hr; repeat (first | rfl | refine t_k1 (by omega) ?_ | refine t_k2 rfl ?_)) ho9 (rfl) hci9 hz⟩⟩
theorem t_P_slack {sc : Nat → Int} {L : Nat} {iv : Nat → Nat → Int} {x : Int} {y : Int} (h : t_I sc iv) : t_Q t_Bi sc L 161 291 t_Vi t_Vi (pz_hc 335) [.inl x, .inl y] iv := by
  have hI := h
  obtain ⟨hsc, hk, ⟨hE, hB, hS, hC, hA, hO, hL, hP⟩, hci, hz, hof, ho3, hfr⟩ := h
  have h0 := hk.r0
  by_cases hcase0 : 0 ≤ x ∧ x ≤ iv 155 3 - 1 ∧ 0 ≤ y ∧ y ≤ iv 155 3 - 1
  · skip
    by_cases hcase1 : x = y
    · skip
      refine ⟨_, _, 0, 2, trivial, t_RE (s_X10_slack_2 (L := L) (iv := iv) x y hk hE hB hS hC hA hO hL hP hci hcase0 hcase1), Or.inr ⟨1, rfl, rfl, by decide⟩, ?_⟩
      intro iv1 e9
      have e8 : iv1 = _ := e9
      subst e8
      exact ⟨hsc, fun x9 => ⟨_, s_X11_slack_2 (L := L) (iv := pz_u1 _ 164 x9) x y hk hcase0 hcase1, rfl, rfl, t_I_keep hI (by intro r hr; repeat (first | rfl | refine t_k1 (by omega) ?_ | refine t_k2 rfl ?_)) rfl (rfl) hci hz⟩⟩
    · skip
      by_cases hcase2 : q_con (iv 155) (fun _ => 0)
      · skip
        have con9 := (t_con hk hz).mpr hcase2
        have dd := t_dd (g := iv 157) hk hz hcase2
        refine ⟨_, _, q_sl (iv 155) (q_D (iv 155)) x y, 0, trivial, s_X10_slack_0 (L := L) (iv := iv) x y hk hE hB hS hC hA hO hL hP hci hcase0 hcase1 hcase2, Or.inl ⟨rfl, rfl⟩, ?_⟩
        intro iv1 e9
        obtain ⟨o9, l9, n9, w9, d9, e8, hci9, ho9⟩ := e9
        subst e8
        exact ⟨hsc, fun x9 => ⟨_, t_Rv (s_X11_slack_0 (L := L) (iv := pz_u1 _ 164 x9) x y hk hcase0 hcase1 con9) (congrArg t_Vi (t_sl hk dd ⟨by omega, by omega⟩ ⟨by omega, by omega⟩)), rfl, rfl, t_I_keep hI (by intro r hr; repeat (first | rfl | refine t_k1 (by omega) ?_ | refine t_k2 rfl ?_)) ho9 (rfl) hci9 hz⟩⟩
      · skip
        have con9 := fun q => hcase2 ((t_con hk hz).mp q)
        refine ⟨_, _, 0, 3, trivial, s_X10_slack_3 (L := L) (iv := iv) x y hk hE hB hS hC hA hO hL hP hci hcase0 hcase1 hcase2, Or.inr ⟨0, rfl, rfl, by decide⟩, ?_⟩
        intro iv1 e9
        obtain ⟨o9, l9, n9, w9, d9, e8, hci9, ho9⟩ := e9
        subst e8
        exact ⟨hsc, fun x9 => ⟨_, s_X11_slack_3 (L := L) (iv := pz_u1 _ 164 x9) x y hk hcase0 hcase1 con9, rfl, rfl, t_I_keep hI (by intro r hr; repeat (first | rfl | refine t_k1 (by omega) ?_ | refine t_k2 rfl ?_)) ho9 (rfl) hci9 hz⟩⟩
  · skip
    refine ⟨_, _, 0, 1, trivial, t_RE (s_X10_slack_1 (L := L) (iv := iv) x y hk hE hB hS hC hA hO hL hP hci hcase0), Or.inr ⟨2, rfl, rfl, by decide⟩, ?_⟩
    intro iv1 e9
    have e8 : iv1 = _ := e9
    subst e8
    exact ⟨hsc, fun x9 => ⟨_, s_X11_slack_1 (L := L) (iv := pz_u1 _ 164 x9) x y hk hcase0, rfl, rfl, t_I_keep hI (by intro r hr; repeat (first | rfl | refine t_k1 (by omega) ?_ | refine t_k2 rfl ?_)) rfl (rfl) hci hz⟩⟩
theorem t_P_costOf {sc : Nat → Int} {L : Nat} {iv : Nat → Nat → Int} {e : Int} {m : Int} (h : t_I sc iv) : t_Q t_Bi sc L 164 297 t_Vi t_Vi (pz_hc 338) [.inl e, .inl m] iv := by
  have hI := h
  obtain ⟨hsc, hk, ⟨hE, hB, hS, hC, hA, hO, hL, hP⟩, hci, hz, hof, ho3, hfr⟩ := h
  have h0 := hk.r0
  by_cases hcase0 : 0 ≤ e ∧ e ≤ iv 155 0 - 1
  · skip
    by_cases hcase1 : 0 ≤ m ∧ m ≤ 999
    · skip
      refine ⟨_, _, q_cst (iv 155) e m, 0, trivial, t_RE (s_X10_costOf_0 (L := L) (iv := iv) e m hk hE hB hS hC hA hO hL hP hcase0 hcase1), Or.inl ⟨rfl, rfl⟩, ?_⟩
      intro iv1 e9
      have e8 : iv1 = _ := e9
      subst e8
      exact ⟨hsc, fun x9 => ⟨_, s_X11_costOf_0 (L := L) (iv := pz_u1 _ 164 x9) e m hk hcase0 hcase1, rfl, rfl, t_I_keep hI (by intro r hr; repeat (first | rfl | refine t_k1 (by omega) ?_ | refine t_k2 rfl ?_)) rfl (rfl) hci hz⟩⟩
    · skip
      refine ⟨_, _, 0, 2, trivial, t_RE (s_X10_costOf_2 (L := L) (iv := iv) e m hk hE hB hS hC hA hO hL hP hcase0 hcase1), Or.inr ⟨1, rfl, rfl, by decide⟩, ?_⟩
      intro iv1 e9
      have e8 : iv1 = _ := e9
      subst e8
      exact ⟨hsc, fun x9 => ⟨_, s_X11_costOf_2 (L := L) (iv := pz_u1 _ 164 x9) e m hk hcase0 hcase1, rfl, rfl, t_I_keep hI (by intro r hr; repeat (first | rfl | refine t_k1 (by omega) ?_ | refine t_k2 rfl ?_)) rfl (rfl) hci hz⟩⟩
  · skip
    refine ⟨_, _, 0, 1, trivial, t_RE (s_X10_costOf_1 (L := L) (iv := iv) e m hk hE hB hS hC hA hO hL hP hcase0), Or.inr ⟨2, rfl, rfl, by decide⟩, ?_⟩
    intro iv1 e9
    have e8 : iv1 = _ := e9
    subst e8
    exact ⟨hsc, fun x9 => ⟨_, s_X11_costOf_1 (L := L) (iv := pz_u1 _ 164 x9) e m hk hcase0, rfl, rfl, t_I_keep hI (by intro r hr; repeat (first | rfl | refine t_k1 (by omega) ?_ | refine t_k2 rfl ?_)) rfl (rfl) hci hz⟩⟩
theorem t_P_cost {sc : Nat → Int} {L : Nat} {iv : Nat → Nat → Int} (h : t_I sc iv) : t_Q t_Bi sc L 165 298 t_Vj t_Vj (pz_hc 339) [] iv := by
  have hI := h
  obtain ⟨hsc, hk, ⟨hE, hB, hS, hC, hA, hO, hL, hP⟩, hci, hz, hof, ho3, hfr⟩ := h
  have h0 := hk.r0
  by_cases hcase0 : q_con (iv 155) (fun _ => 0)
  · skip
    have con9 := (t_con hk hz).mpr hcase0
    have dd := t_dd (g := iv 157) hk hz hcase0
    refine ⟨_, _, q_cost (iv 155) (q_D (iv 155)) (iv 155 0), 0, trivial, s_X10_cost_0 (L := L) (iv := iv) hk hE hB hS hC hA hO hL hP hci hcase0, Or.inl ⟨rfl, rfl⟩, ?_⟩
    intro iv1 e9
    obtain ⟨o9, l9, n9, w9, d9, e8, hci9, ho9⟩ := e9
    subst e8
    exact ⟨hsc, fun x9 => ⟨_, t_Rv (s_X11_cost_0 (L := L) (iv := pz_u1 _ 164 x9) hk con9) (congrArg t_Vj (t_cost hk dd)), rfl, rfl, t_I_keep hI (by intro r hr; repeat (first | rfl | refine t_k1 (by omega) ?_ | refine t_k2 rfl ?_)) ho9 (rfl) hci9 hz⟩⟩
  · skip
    have con9 := fun q => hcase0 ((t_con hk hz).mp q)
    refine ⟨_, _, 0, 1, trivial, s_X10_cost_1 (L := L) (iv := iv) hk hE hB hS hC hA hO hL hP hci hcase0, Or.inr ⟨0, rfl, rfl, by decide⟩, ?_⟩
    intro iv1 e9
    obtain ⟨o9, l9, n9, w9, d9, e8, hci9, ho9⟩ := e9
    subst e8
    exact ⟨hsc, fun x9 => ⟨_, s_X11_cost_1 (L := L) (iv := pz_u1 _ 164 x9) hk con9, rfl, rfl, t_I_keep hI (by intro r hr; repeat (first | rfl | refine t_k1 (by omega) ?_ | refine t_k2 rfl ?_)) ho9 (rfl) hci9 hz⟩⟩
