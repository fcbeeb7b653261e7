/-! the pairs: frames -/
theorem t_ci2 {k o n w d m V U j c : Nat → Int} {x : Int} (h : q_CI k o n w d m V U j c) : q_CI k (pz_up o 2 x) n w d m V U j c := ⟨h.1, h.2.1, h.2.2⟩
theorem t_f1_any {iv iv2 : Nat → Nat → Int} {m o : Nat} (h : t_f1 iv m o) (hlt : (m : Int) < iv 2 2) (e6 : t_pg (iv2 156) m = t_pg (iv 156) m) (e : ∀ r, 3 + o ≤ r → r ≤ 27 + o → iv2 r = iv r) : t_f1 iv2 m o := by
  intro _
  rw [e6]
  exact ⟨(h hlt).1, t_pn_rows (h hlt).2 e⟩
theorem t_f1_new {iv2 : Nat → Nat → Int} {k f : Nat → Int} {n o : Nat} {x : Int} (hk : q_KR k) (e6 : iv2 156 = q_opn x k f) (hx : x = n) (hp : t_pn k iv2 o) : t_f1 iv2 n o := by
  intro _
  rw [e6]
  exact ⟨t_KR_260 hk (t_pg_new hx), t_pn_260 hk hp (t_pg_new hx)⟩
theorem t_P_open {sc : Nat → Int} {L : Nat} {iv : Nat → Nat → Int} (h : t_I sc iv) : t_Q t_Bi sc L 166 299 t_Vi t_Vi (pz_hc 340) [] iv := by
  have hI := h
  obtain ⟨hsc, hk, ⟨hE, hB, hS, hC, hA, hO, hL, hP⟩, hci, hz, hof, ho3, hfr⟩ := h
  have h0 := hk.r0
  by_cases hcase0 : iv 2 2 = 4
  · refine ⟨_, _, 0, 1, trivial, t_RE (s_X10_open_1 (L := L) (iv := iv) hof hcase0), Or.inr ⟨0, rfl, rfl, by decide⟩, ?_⟩
    intro iv1 e9
    have e8 : iv1 = _ := e9
    have e7 := e8.symm
    subst e7
    exact ⟨hsc, fun x9 => ⟨_, s_X11_open_1 (L := L) (iv := pz_u1 _ 164 x9) (by show 0 ≤ iv 154 3 ∧ iv 154 3 ≤ 4; omega) (by show iv 154 3 = 4; omega), rfl, rfl, t_I_keep hI (by intro r hr; repeat (first | rfl | refine t_k1 (by omega) ?_ | refine t_k2 rfl ?_)) rfl rfl hci hz⟩⟩
  · have c4 : iv 2 2 = 0 ∨ iv 2 2 = 1 ∨ iv 2 2 = 2 ∨ iv 2 2 = 3 := by omega
    rcases c4 with hc | hc | hc | hc
    · refine ⟨_, _, 1, 0, trivial, t_RE (s_X10_open_00 (L := L) (iv := iv) hof hc), Or.inl ⟨rfl, rfl⟩, ?_⟩
      intro iv1 e9
      have e8 : iv1 = _ := e9
      subst e8
      exact ⟨hsc, fun x9 => ⟨_, t_Rv (s_X11_open_0 (L := L) (iv := pz_u1 _ 164 x9) (by show 0 ≤ iv 154 3 ∧ iv 154 3 ≤ 4; omega) (by show iv 154 3 ≠ 4; omega)) (congrArg t_Vi (show iv 154 3 + 1 = 1 by omega)), rfl, rfl, ⟨hsc, hk, ⟨hE, hB, hS, hC, hA, hO, hL, hP⟩, t_ci2 hci, hz, (by show 0 ≤ iv 2 2 + 1 ∧ iv 2 2 + 1 ≤ 4; omega), (show iv 154 3 + 1 = iv 2 2 + 1 by omega), ⟨t_f1_new (n := 0) hk rfl (show iv 154 3 = _ by omega) ⟨t_cpE hE, t_cpB hk hB, t_cpS hk hS, t_cpC hC, t_cpA hk hA, t_cpO hO, t_cpL hL, t_cpP hk hP⟩, fun q => absurd q (by show ¬ ((1 : Nat) : Int) < iv 2 2 + 1; omega), fun q => absurd q (by show ¬ ((2 : Nat) : Int) < iv 2 2 + 1; omega), fun q => absurd q (by show ¬ ((3 : Nat) : Int) < iv 2 2 + 1; omega)⟩⟩⟩⟩
    · refine ⟨_, _, 2, 0, trivial, t_RE (s_X10_open_01 (L := L) (iv := iv) hof hc), Or.inl ⟨rfl, rfl⟩, ?_⟩
      intro iv1 e9
      have e8 : iv1 = _ := e9
      subst e8
      exact ⟨hsc, fun x9 => ⟨_, t_Rv (s_X11_open_0 (L := L) (iv := pz_u1 _ 164 x9) (by show 0 ≤ iv 154 3 ∧ iv 154 3 ≤ 4; omega) (by show iv 154 3 ≠ 4; omega)) (congrArg t_Vi (show iv 154 3 + 1 = 2 by omega)), rfl, rfl, ⟨hsc, hk, ⟨hE, hB, hS, hC, hA, hO, hL, hP⟩, t_ci2 hci, hz, (by show 0 ≤ iv 2 2 + 1 ∧ iv 2 2 + 1 ≤ 4; omega), (show iv 154 3 + 1 = iv 2 2 + 1 by omega), ⟨t_f1_any hfr.1 (by omega) (t_pg_opn (n := 1) (show iv 154 3 = _ by omega) (by decide)) (by intro r h1 h2; repeat (first | rfl | refine t_k1 (by omega) ?_)), t_f1_new (n := 1) hk rfl (show iv 154 3 = _ by omega) ⟨t_cpE hE, t_cpB hk hB, t_cpS hk hS, t_cpC hC, t_cpA hk hA, t_cpO hO, t_cpL hL, t_cpP hk hP⟩, fun q => absurd q (by show ¬ ((2 : Nat) : Int) < iv 2 2 + 1; omega), fun q => absurd q (by show ¬ ((3 : Nat) : Int) < iv 2 2 + 1; omega)⟩⟩⟩⟩
    · refine ⟨_, _, 3, 0, trivial, t_RE (s_X10_open_02 (L := L) (iv := iv) hof hc), Or.inl ⟨rfl, rfl⟩, ?_⟩
      intro iv1 e9
      have e8 : iv1 = _ := e9
      subst e8
      exact ⟨hsc, fun x9 => ⟨_, t_Rv (s_X11_open_0 (L := L) (iv := pz_u1 _ 164 x9) (by show 0 ≤ iv 154 3 ∧ iv 154 3 ≤ 4; omega) (by show iv 154 3 ≠ 4; omega)) (congrArg t_Vi (show iv 154 3 + 1 = 3 by omega)), rfl, rfl, ⟨hsc, hk, ⟨hE, hB, hS, hC, hA, hO, hL, hP⟩, t_ci2 hci, hz, (by show 0 ≤ iv 2 2 + 1 ∧ iv 2 2 + 1 ≤ 4; omega), (show iv 154 3 + 1 = iv 2 2 + 1 by omega), ⟨t_f1_any hfr.1 (by omega) (t_pg_opn (n := 2) (show iv 154 3 = _ by omega) (by decide)) (by intro r h1 h2; repeat (first | rfl | refine t_k1 (by omega) ?_)), t_f1_any hfr.2.1 (by omega) (t_pg_opn (n := 2) (show iv 154 3 = _ by omega) (by decide)) (by intro r h1 h2; repeat (first | rfl | refine t_k1 (by omega) ?_)), t_f1_new (n := 2) hk rfl (show iv 154 3 = _ by omega) ⟨t_cpE hE, t_cpB hk hB, t_cpS hk hS, t_cpC hC, t_cpA hk hA, t_cpO hO, t_cpL hL, t_cpP hk hP⟩, fun q => absurd q (by show ¬ ((3 : Nat) : Int) < iv 2 2 + 1; omega)⟩⟩⟩⟩
    · refine ⟨_, _, 4, 0, trivial, t_RE (s_X10_open_03 (L := L) (iv := iv) hof hc), Or.inl ⟨rfl, rfl⟩, ?_⟩
      intro iv1 e9
      have e8 : iv1 = _ := e9
      subst e8
      exact ⟨hsc, fun x9 => ⟨_, t_Rv (s_X11_open_0 (L := L) (iv := pz_u1 _ 164 x9) (by show 0 ≤ iv 154 3 ∧ iv 154 3 ≤ 4; omega) (by show iv 154 3 ≠ 4; omega)) (congrArg t_Vi (show iv 154 3 + 1 = 4 by omega)), rfl, rfl, ⟨hsc, hk, ⟨hE, hB, hS, hC, hA, hO, hL, hP⟩, t_ci2 hci, hz, (by show 0 ≤ iv 2 2 + 1 ∧ iv 2 2 + 1 ≤ 4; omega), (show iv 154 3 + 1 = iv 2 2 + 1 by omega), ⟨t_f1_any hfr.1 (by omega) (t_pg_opn (n := 3) (show iv 154 3 = _ by omega) (by decide)) (by intro r h1 h2; repeat (first | rfl | refine t_k1 (by omega) ?_)), t_f1_any hfr.2.1 (by omega) (t_pg_opn (n := 3) (show iv 154 3 = _ by omega) (by decide)) (by intro r h1 h2; repeat (first | rfl | refine t_k1 (by omega) ?_)), t_f1_any hfr.2.2.1 (by omega) (t_pg_opn (n := 3) (show iv 154 3 = _ by omega) (by decide)) (by intro r h1 h2; repeat (first | rfl | refine t_k1 (by omega) ?_)), t_f1_new (n := 3) hk rfl (show iv 154 3 = _ by omega) ⟨t_cpE hE, t_cpB hk hB, t_cpS hk hS, t_cpC hC, t_cpA hk hA, t_cpO hO, t_cpL hL, t_cpP hk hP⟩⟩⟩⟩⟩
theorem t_P_takeBack {sc : Nat → Int} {L : Nat} {iv : Nat → Nat → Int} (h : t_I sc iv) : t_Q t_Bi sc L 167 300 t_Vi t_Vi (pz_hc 341) [] iv := by
  have hI := h
  obtain ⟨hsc, hk, ⟨hE, hB, hS, hC, hA, hO, hL, hP⟩, hci, hz, hof, ho3, hfr⟩ := h
  have h0 := hk.r0
  by_cases hcase0 : iv 2 2 = 0
  · refine ⟨_, _, 0, 1, trivial, t_RE (s_X10_takeBack_1 (L := L) (iv := iv) hof hcase0), Or.inr ⟨0, rfl, rfl, by decide⟩, ?_⟩
    intro iv1 e9
    have e8 : iv1 = _ := e9
    have e7 := e8.symm
    subst e7
    exact ⟨hsc, fun x9 => ⟨_, s_X11_takeBack_1 (L := L) (iv := pz_u1 _ 164 x9) (by show 0 ≤ iv 154 3 ∧ iv 154 3 ≤ 4; omega) (by show iv 154 3 = 0; omega), rfl, rfl, t_I_keep hI (by intro r hr; repeat (first | rfl | refine t_k1 (by omega) ?_ | refine t_k2 rfl ?_)) rfl rfl hci hz⟩⟩
  · have c4 : iv 2 2 = 1 ∨ iv 2 2 = 2 ∨ iv 2 2 = 3 ∨ iv 2 2 = 4 := by omega
    rcases c4 with hc | hc | hc | hc
    · obtain ⟨hkn, ⟨fE, fB, fS, fC, fA, fO, fL, fP⟩⟩ := hfr.1 (by omega)
      refine ⟨_, _, 0, 0, trivial, t_RE (s_X10_takeBack_00 (L := L) (iv := iv) hof hc), Or.inl ⟨rfl, rfl⟩, ?_⟩
      intro iv1 e9
      have e8 : iv1 = _ := e9
      subst e8
      exact ⟨hsc, fun x9 => ⟨_, t_Rv (s_X11_takeBack_0 (L := L) (iv := pz_u1 _ 164 x9) (by show 0 ≤ iv 154 3 ∧ iv 154 3 ≤ 4; omega) (by show iv 154 3 ≠ 0; omega)) (congrArg t_Vi (show iv 154 3 - 1 = 0 by omega)), rfl, rfl, ⟨hsc, t_KR_260 hkn (t_tbk (n := 0) (show iv 154 3 - 1 = _ by omega)), t_pn_260 hkn ⟨t_cpE fE, t_cpB hkn fB, t_cpS hkn fS, t_cpC fC, t_cpA hkn fA, t_cpO fO, t_cpL fL, t_cpP hkn fP⟩ (t_tbk (n := 0) (show iv 154 3 - 1 = _ by omega)), t_ci0 ⟨rfl, rfl, rfl⟩, hz, (by show 0 ≤ iv 2 2 - 1 ∧ iv 2 2 - 1 ≤ 4; omega), (show iv 154 3 - 1 = iv 2 2 - 1 by omega), ⟨fun q => absurd q (by show ¬ ((0 : Nat) : Int) < iv 2 2 - 1; omega), fun q => absurd q (by show ¬ ((1 : Nat) : Int) < iv 2 2 - 1; omega), fun q => absurd q (by show ¬ ((2 : Nat) : Int) < iv 2 2 - 1; omega), fun q => absurd q (by show ¬ ((3 : Nat) : Int) < iv 2 2 - 1; omega)⟩⟩⟩⟩
    · obtain ⟨hkn, ⟨fE, fB, fS, fC, fA, fO, fL, fP⟩⟩ := hfr.2.1 (by omega)
      refine ⟨_, _, 1, 0, trivial, t_RE (s_X10_takeBack_01 (L := L) (iv := iv) hof hc), Or.inl ⟨rfl, rfl⟩, ?_⟩
      intro iv1 e9
      have e8 : iv1 = _ := e9
      subst e8
      exact ⟨hsc, fun x9 => ⟨_, t_Rv (s_X11_takeBack_0 (L := L) (iv := pz_u1 _ 164 x9) (by show 0 ≤ iv 154 3 ∧ iv 154 3 ≤ 4; omega) (by show iv 154 3 ≠ 0; omega)) (congrArg t_Vi (show iv 154 3 - 1 = 1 by omega)), rfl, rfl, ⟨hsc, t_KR_260 hkn (t_tbk (n := 1) (show iv 154 3 - 1 = _ by omega)), t_pn_260 hkn ⟨t_cpE fE, t_cpB hkn fB, t_cpS hkn fS, t_cpC fC, t_cpA hkn fA, t_cpO fO, t_cpL fL, t_cpP hkn fP⟩ (t_tbk (n := 1) (show iv 154 3 - 1 = _ by omega)), t_ci0 ⟨rfl, rfl, rfl⟩, hz, (by show 0 ≤ iv 2 2 - 1 ∧ iv 2 2 - 1 ≤ 4; omega), (show iv 154 3 - 1 = iv 2 2 - 1 by omega), ⟨t_f1_any hfr.1 (by omega) rfl (by intro r h1 h2; repeat (first | rfl | refine t_k1 (by omega) ?_)), fun q => absurd q (by show ¬ ((1 : Nat) : Int) < iv 2 2 - 1; omega), fun q => absurd q (by show ¬ ((2 : Nat) : Int) < iv 2 2 - 1; omega), fun q => absurd q (by show ¬ ((3 : Nat) : Int) < iv 2 2 - 1; omega)⟩⟩⟩⟩
    · obtain ⟨hkn, ⟨fE, fB, fS, fC, fA, fO, fL, fP⟩⟩ := hfr.2.2.1 (by omega)
      refine ⟨_, _, 2, 0, trivial, t_RE (s_X10_takeBack_02 (L := L) (iv := iv) hof hc), Or.inl ⟨rfl, rfl⟩, ?_⟩
      intro iv1 e9
      have e8 : iv1 = _ := e9
      subst e8
      exact ⟨hsc, fun x9 => ⟨_, t_Rv (s_X11_takeBack_0 (L := L) (iv := pz_u1 _ 164 x9) (by show 0 ≤ iv 154 3 ∧ iv 154 3 ≤ 4; omega) (by show iv 154 3 ≠ 0; omega)) (congrArg t_Vi (show iv 154 3 - 1 = 2 by omega)), rfl, rfl, ⟨hsc, t_KR_260 hkn (t_tbk (n := 2) (show iv 154 3 - 1 = _ by omega)), t_pn_260 hkn ⟨t_cpE fE, t_cpB hkn fB, t_cpS hkn fS, t_cpC fC, t_cpA hkn fA, t_cpO fO, t_cpL fL, t_cpP hkn fP⟩ (t_tbk (n := 2) (show iv 154 3 - 1 = _ by omega)), t_ci0 ⟨rfl, rfl, rfl⟩, hz, (by show 0 ≤ iv 2 2 - 1 ∧ iv 2 2 - 1 ≤ 4; omega), (show iv 154 3 - 1 = iv 2 2 - 1 by omega), ⟨t_f1_any hfr.1 (by omega) rfl (by intro r h1 h2; repeat (first | rfl | refine t_k1 (by omega) ?_)), t_f1_any hfr.2.1 (by omega) rfl (by intro r h1 h2; repeat (first | rfl | refine t_k1 (by omega) ?_)), fun q => absurd q (by show ¬ ((2 : Nat) : Int) < iv 2 2 - 1; omega), fun q => absurd q (by show ¬ ((3 : Nat) : Int) < iv 2 2 - 1; omega)⟩⟩⟩⟩
    · obtain ⟨hkn, ⟨fE, fB, fS, fC, fA, fO, fL, fP⟩⟩ := hfr.2.2.2 (by omega)
      refine ⟨_, _, 3, 0, trivial, t_RE (s_X10_takeBack_03 (L := L) (iv := iv) hof hc), Or.inl ⟨rfl, rfl⟩, ?_⟩
      intro iv1 e9
      have e8 : iv1 = _ := e9
      subst e8
      exact ⟨hsc, fun x9 => ⟨_, t_Rv (s_X11_takeBack_0 (L := L) (iv := pz_u1 _ 164 x9) (by show 0 ≤ iv 154 3 ∧ iv 154 3 ≤ 4; omega) (by show iv 154 3 ≠ 0; omega)) (congrArg t_Vi (show iv 154 3 - 1 = 3 by omega)), rfl, rfl, ⟨hsc, t_KR_260 hkn (t_tbk (n := 3) (show iv 154 3 - 1 = _ by omega)), t_pn_260 hkn ⟨t_cpE fE, t_cpB hkn fB, t_cpS hkn fS, t_cpC fC, t_cpA hkn fA, t_cpO fO, t_cpL fL, t_cpP hkn fP⟩ (t_tbk (n := 3) (show iv 154 3 - 1 = _ by omega)), t_ci0 ⟨rfl, rfl, rfl⟩, hz, (by show 0 ≤ iv 2 2 - 1 ∧ iv 2 2 - 1 ≤ 4; omega), (show iv 154 3 - 1 = iv 2 2 - 1 by omega), ⟨t_f1_any hfr.1 (by omega) rfl (by intro r h1 h2; repeat (first | rfl | refine t_k1 (by omega) ?_)), t_f1_any hfr.2.1 (by omega) rfl (by intro r h1 h2; repeat (first | rfl | refine t_k1 (by omega) ?_)), t_f1_any hfr.2.2.1 (by omega) rfl (by intro r h1 h2; repeat (first | rfl | refine t_k1 (by omega) ?_)), fun q => absurd q (by show ¬ ((3 : Nat) : Int) < iv 2 2 - 1; omega)⟩⟩⟩⟩
