/-! each call by itself: what tells -/
theorem t_S_labelOf {sc k d kf : Nat → Int} {n : Int} {L : Nat} {iv : Nat → Nat → Int} {l : Int} (h : t_I sc k d n kf iv) : t_O L 196 [.inr (.inl 2), .inl l] iv (.inl (c_labelOf k l)) 1 (t_I sc k d n kf) := by
  have hI := h
  obtain ⟨hsc, hk, ⟨hE, hB, hS, hC, hA, hO, hL, hP⟩, hci, hd, hn2, hfr⟩ := h
  have h0 := hk.r0
  unfold c_labelOf
  by_cases hcase0 : 1 ≤ l ∧ l ≤ 4
  · rw [q_if_t hcase0]
    refine t_w196 (t_REi (t_RE (s_X10_labelOf_0 (L := L) (iv := iv) l hk hE hB hS hC hA hO hL hP hcase0)) (fun iv1 e9 => ?_)) (Or.inl rfl)
    have e8 : iv1 = _ := e9
    subst e8
    exact t_I_keep hI (by intro r hr; repeat (first | rfl | refine t_k1 (by omega) ?_ | refine t_k2 rfl ?_)) rfl (hci)
  · rw [q_if_f hcase0]
    refine t_w196 (t_REi (t_RE (s_X10_labelOf_1 (L := L) (iv := iv) l hk hE hB hS hC hA hO hL hP hcase0)) (fun iv1 e9 => ?_)) (t_an_e (E := 1) (q := 1) rfl)
    have e8 : iv1 = _ := e9
    subst e8
    exact t_I_keep hI (by intro r hr; repeat (first | rfl | refine t_k1 (by omega) ?_ | refine t_k2 rfl ?_)) rfl (hci)
theorem t_S_isConsistent {sc k d kf : Nat → Int} {n : Int} {L : Nat} {iv : Nat → Nat → Int} (h : t_I sc k d n kf iv) : t_O L 131 [.inr (.inl 2)] iv (.inl (c_isConsistent k)) 0 (t_I sc k d n kf) := by
  have hI := h
  obtain ⟨hsc, hk, ⟨hE, hB, hS, hC, hA, hO, hL, hP⟩, hci, hd, hn2, hfr⟩ := h
  have h0 := hk.r0
  unfold c_isConsistent
  refine t_OE (t_REi (s_X10_isConsistent_0 (L := L) (iv := iv) hk hE hB hS hC hA hO hL hP hci) (fun iv1 e9 => ?_))
  obtain ⟨o9, l9, n9, w9, d9, e8, hci9, ho9⟩ := e9
  subst e8
  exact t_I_keep hI (by intro r hr; repeat (first | rfl | refine t_k1 (by omega) ?_ | refine t_k2 rfl ?_)) ho9 (hci9)
theorem t_S_distance {sc k d kf : Nat → Int} {n : Int} {L : Nat} {iv : Nat → Nat → Int} {f : Int} {t : Int} (h : t_I sc k d n kf iv) : t_O L 197 [.inr (.inl 2), .inl f, .inl t] iv (.inl (c_distance k f t)) 1 (t_I sc k d n kf) := by
  have hI := h
  obtain ⟨hsc, hk, ⟨hE, hB, hS, hC, hA, hO, hL, hP⟩, hci, hd, hn2, hfr⟩ := h
  have h0 := hk.r0
  unfold c_distance
  by_cases hcase0 : 0 ≤ f ∧ f ≤ k 0 - 1 ∧ 0 ≤ t ∧ t ≤ k 0 - 1
  · rw [q_if_t hcase0]
    by_cases hcase1 : q_con k (fun _ => 0)
    · rw [q_if_t hcase1]
      by_cases hcase2 : q_D k (10 * f + t).toNat = 1000000
      · rw [q_if_t hcase2]
        refine t_w197 (t_REi (s_X10_distance_3 (L := L) (iv := iv) f t hk hE hB hS hC hA hO hL hP hci hcase0 hcase1 hcase2) (fun iv1 e9 => ?_)) (t_an_e (E := 3) (q := 3) rfl)
        obtain ⟨o9, l9, n9, w9, d9, e8, hci9, ho9⟩ := e9
        subst e8
        exact t_I_keep hI (by intro r hr; repeat (first | rfl | refine t_k1 (by omega) ?_ | refine t_k2 rfl ?_)) ho9 (hci9)
      · rw [q_if_f hcase2]
        refine t_w197 (t_REi (s_X10_distance_0 (L := L) (iv := iv) f t hk hE hB hS hC hA hO hL hP hci hcase0 hcase1 hcase2) (fun iv1 e9 => ?_)) (Or.inl rfl)
        obtain ⟨o9, l9, n9, w9, d9, e8, hci9, ho9⟩ := e9
        subst e8
        exact t_I_keep hI (by intro r hr; repeat (first | rfl | refine t_k1 (by omega) ?_ | refine t_k2 rfl ?_)) ho9 (hci9)
    · rw [q_if_f hcase1]
      refine t_w197 (t_REi (s_X10_distance_2 (L := L) (iv := iv) f t hk hE hB hS hC hA hO hL hP hci hcase0 hcase1) (fun iv1 e9 => ?_)) (t_an_e (E := 0) (q := 2) rfl)
      obtain ⟨o9, l9, n9, w9, d9, e8, hci9, ho9⟩ := e9
      subst e8
      exact t_I_keep hI (by intro r hr; repeat (first | rfl | refine t_k1 (by omega) ?_ | refine t_k2 rfl ?_)) ho9 (hci9)
  · rw [q_if_f hcase0]
    refine t_w197 (t_REi (t_RE (s_X10_distance_1 (L := L) (iv := iv) f t hk hE hB hS hC hA hO hL hP hci hcase0)) (fun iv1 e9 => ?_)) (t_an_e (E := 2) (q := 1) rfl)
    have e8 : iv1 = _ := e9
    subst e8
    exact t_I_keep hI (by intro r hr; repeat (first | rfl | refine t_k1 (by omega) ?_ | refine t_k2 rfl ?_)) rfl (hci)
theorem t_S_distanceByRounds {sc k d kf : Nat → Int} {n : Int} {L : Nat} {iv : Nat → Nat → Int} {f : Int} {t : Int} (h : t_I sc k d n kf iv) : t_O L 198 [.inr (.inl 2), .inl f, .inl t] iv (.inl (c_distanceByRounds k f t)) 1 (t_I sc k d n kf) := by
  have hI := h
  obtain ⟨hsc, hk, ⟨hE, hB, hS, hC, hA, hO, hL, hP⟩, hci, hd, hn2, hfr⟩ := h
  have h0 := hk.r0
  unfold c_distanceByRounds
  by_cases hcase0 : 0 ≤ f ∧ f ≤ k 0 - 1 ∧ 0 ≤ t ∧ t ≤ k 0 - 1
  · rw [q_if_t hcase0]
    by_cases hcase1 : q_con k (fun _ => 0)
    · rw [q_if_t hcase1]
      by_cases hcase2 : q_D k (10 * f + t).toNat = 1000000
      · rw [q_if_t hcase2]
        refine t_w198 (t_REi (s_X10_distanceByRounds_3 (L := L) (iv := iv) f t hk hE hB hS hC hA hO hL hP hci hcase0 hcase1 hcase2) (fun iv1 e9 => ?_)) (t_an_e (E := 3) (q := 3) rfl)
        obtain ⟨o9, l9, n9, w9, d9, g9, e8, hci9, ho9⟩ := e9
        subst e8
        exact t_I_keep hI (by intro r hr; repeat (first | rfl | refine t_k1 (by omega) ?_ | refine t_k2 rfl ?_)) ho9 (hci9)
      · rw [q_if_f hcase2]
        refine t_w198 (t_REi (s_X10_distanceByRounds_0 (L := L) (iv := iv) f t hk hE hB hS hC hA hO hL hP hci hcase0 hcase1 hcase2) (fun iv1 e9 => ?_)) (Or.inl rfl)
        obtain ⟨o9, l9, n9, w9, d9, g9, e8, hci9, ho9⟩ := e9
        subst e8
        exact t_I_keep hI (by intro r hr; repeat (first | rfl | refine t_k1 (by omega) ?_ | refine t_k2 rfl ?_)) ho9 (hci9)
    · rw [q_if_f hcase1]
      refine t_w198 (t_REi (s_X10_distanceByRounds_2 (L := L) (iv := iv) f t hk hE hB hS hC hA hO hL hP hci hcase0 hcase1) (fun iv1 e9 => ?_)) (t_an_e (E := 0) (q := 2) rfl)
      obtain ⟨o9, l9, n9, w9, d9, g9, e8, hci9, ho9⟩ := e9
      subst e8
      exact t_I_keep hI (by intro r hr; repeat (first | rfl | refine t_k1 (by omega) ?_ | refine t_k2 rfl ?_)) ho9 (hci9)
  · rw [q_if_f hcase0]
    refine t_w198 (t_REi (t_RE (s_X10_distanceByRounds_1 (L := L) (iv := iv) f t hk hE hB hS hC hA hO hL hP hci hcase0)) (fun iv1 e9 => ?_)) (t_an_e (E := 2) (q := 1) rfl)
    have e8 : iv1 = _ := e9
    subst e8
    exact t_I_keep hI (by intro r hr; repeat (first | rfl | refine t_k1 (by omega) ?_ | refine t_k2 rfl ?_)) rfl (hci)
theorem t_S_isDirect {sc k d kf : Nat → Int} {n : Int} {L : Nat} {iv : Nat → Nat → Int} {f : Int} {t : Int} (h : t_I sc k d n kf iv) : t_O L 199 [.inr (.inl 2), .inl f, .inl t] iv (.inl (c_isDirect k f t)) 1 (t_I sc k d n kf) := by
  have hI := h
  obtain ⟨hsc, hk, ⟨hE, hB, hS, hC, hA, hO, hL, hP⟩, hci, hd, hn2, hfr⟩ := h
  have h0 := hk.r0
  unfold c_isDirect
  by_cases hcase0 : 0 ≤ f ∧ f ≤ k 0 - 1 ∧ 0 ≤ t ∧ t ≤ k 0 - 1
  · rw [q_if_t hcase0]
    by_cases hcase1 : f = t
    · rw [q_if_t hcase1]
      refine t_w199 (t_REi (t_RE (s_X10_isDirect_2 (L := L) (iv := iv) f t hk hE hB hS hC hA hO hL hP hci hcase0 hcase1)) (fun iv1 e9 => ?_)) (t_an_e (E := 1) (q := 2) rfl) (fun b9 => by cases b9)
      have e8 : iv1 = _ := e9
      subst e8
      exact t_I_keep hI (by intro r hr; repeat (first | rfl | refine t_k1 (by omega) ?_ | refine t_k2 rfl ?_)) rfl (hci)
    · rw [q_if_f hcase1]
      by_cases hcase2 : q_con k (fun _ => 0)
      · rw [q_if_t hcase2]
        refine t_w199 (t_REi (s_X10_isDirect_0 (L := L) (iv := iv) f t hk hE hB hS hC hA hO hL hP hci hcase0 hcase1 hcase2) (fun iv1 e9 => ?_)) (Or.inl rfl) (fun b9 => by cases b9; exact pz_bi01 _)
        obtain ⟨o9, l9, n9, w9, d9, e8, hci9, ho9⟩ := e9
        subst e8
        exact t_I_keep hI (by intro r hr; repeat (first | rfl | refine t_k1 (by omega) ?_ | refine t_k2 rfl ?_)) ho9 (hci9)
      · rw [q_if_f hcase2]
        refine t_w199 (t_REi (s_X10_isDirect_3 (L := L) (iv := iv) f t hk hE hB hS hC hA hO hL hP hci hcase0 hcase1 hcase2) (fun iv1 e9 => ?_)) (t_an_e (E := 0) (q := 3) rfl) (fun b9 => by cases b9)
        obtain ⟨o9, l9, n9, w9, d9, e8, hci9, ho9⟩ := e9
        subst e8
        exact t_I_keep hI (by intro r hr; repeat (first | rfl | refine t_k1 (by omega) ?_ | refine t_k2 rfl ?_)) ho9 (hci9)
  · rw [q_if_f hcase0]
    refine t_w199 (t_REi (t_RE (s_X10_isDirect_1 (L := L) (iv := iv) f t hk hE hB hS hC hA hO hL hP hci hcase0)) (fun iv1 e9 => ?_)) (t_an_e (E := 2) (q := 1) rfl) (fun b9 => by cases b9)
    have e8 : iv1 = _ := e9
    subst e8
    exact t_I_keep hI (by intro r hr; repeat (first | rfl | refine t_k1 (by omega) ?_ | refine t_k2 rfl ?_)) rfl (hci)
theorem t_S_conflictSize {sc k d kf : Nat → Int} {n : Int} {L : Nat} {iv : Nat → Nat → Int} (h : t_I sc k d n kf iv) : t_O L 200 [.inr (.inl 2)] iv (.inl (c_conflictSize k)) 1 (t_I sc k d n kf) := by
  have hI := h
  obtain ⟨hsc, hk, ⟨hE, hB, hS, hC, hA, hO, hL, hP⟩, hci, hd, hn2, hfr⟩ := h
  have h0 := hk.r0
  unfold c_conflictSize
  by_cases hcase0 : q_con k (fun _ => 0)
  · rw [q_if_t hcase0]
    refine t_w200 (t_REi (s_X10_conflictSize_1 (L := L) (iv := iv) hk hE hB hS hC hA hO hL hP hci hcase0) (fun iv1 e9 => ?_)) (t_an_e (E := 0) (q := 1) rfl)
    obtain ⟨o9, j9, a9, b9, c9, l9, e9, n9, w9, d9, e8, hci9, ho9⟩ := e9
    subst e8
    exact t_I_keep hI (by intro r hr; repeat (first | rfl | refine t_k1 (by omega) ?_ | refine t_k2 rfl ?_)) ho9 (hci9)
  · rw [q_if_f hcase0]
    refine t_w200 (t_REi (s_X10_conflictSize_0 (L := L) (iv := iv) hk hE hB hS hC hA hO hL hP hci hcase0) (fun iv1 e9 => ?_)) (Or.inl rfl)
    obtain ⟨o9, j9, a9, b9, c9, l9, e9, n9, w9, d9, e8, hci9, ho9⟩ := e9
    subst e8
    exact t_I_keep hI (by intro r hr; repeat (first | rfl | refine t_k1 (by omega) ?_ | refine t_k2 rfl ?_)) ho9 (hci9)
theorem t_S_conflictAt {sc k d kf : Nat → Int} {n : Int} {L : Nat} {iv : Nat → Nat → Int} {i : Int} (h : t_I sc k d n kf iv) (hi : -2147483648 ≤ i ∧ i ≤ 2147483647) : t_O L 201 [.inr (.inl 2), .inl i] iv (.inl (c_conflictAt k i)) 1 (t_I sc k d n kf) := by
  have hI := h
  obtain ⟨hsc, hk, ⟨hE, hB, hS, hC, hA, hO, hL, hP⟩, hci, hd, hn2, hfr⟩ := h
  have h0 := hk.r0
  unfold c_conflictAt
  by_cases hcase0 : q_con k (fun _ => 0)
  · rw [q_if_t hcase0]
    refine t_w201 (t_REi (s_X10_conflictAt_1 (L := L) (iv := iv) i hk hE hB hS hC hA hO hL hP hci hcase0) (fun iv1 e9 => ?_)) (t_an_e (E := 0) (q := 1) rfl)
    obtain ⟨o9, j9, a9, b9, c9, l9, e9, n9, w9, d9, e8, hci9, ho9⟩ := e9
    subst e8
    exact t_I_keep hI (by intro r hr; repeat (first | rfl | refine t_k1 (by omega) ?_ | refine t_k2 rfl ?_)) ho9 (hci9)
  · rw [q_if_f hcase0]
    by_cases hcase1 : 0 ≤ i ∧ i < q_cnt (q_kp k) (k 1)
    · rw [q_if_t hcase1]
      refine t_w201 (t_REi (s_X10_conflictAt_0 (L := L) (iv := iv) i hk hE hB hS hC hA hO hL hP hci hcase0 hcase1) (fun iv1 e9 => ?_)) (Or.inl rfl)
      obtain ⟨o9, j9, a9, b9, c9, l9, e9, n9, w9, d9, e8, hci9, ho9⟩ := e9
      subst e8
      exact t_I_keep hI (by intro r hr; repeat (first | rfl | refine t_k1 (by omega) ?_ | refine t_k2 rfl ?_)) ho9 (hci9)
    · rw [q_if_f hcase1]
      refine t_w201 (t_REi (s_X10_conflictAt_2 (L := L) (iv := iv) i hk hE hB hS hC hA hO hL hP hci hcase0 hcase1) (fun iv1 e9 => ?_)) (t_an_e (E := 4) (q := 2) rfl)
      obtain ⟨o9, j9, a9, b9, c9, l9, e9, n9, w9, d9, e8, hci9, ho9⟩ := e9
      subst e8
      exact t_I_keep hI (by intro r hr; repeat (first | rfl | refine t_k1 (by omega) ?_ | refine t_k2 rfl ?_)) ho9 (hci9)
theorem t_S_isWeak {sc k d kf : Nat → Int} {n : Int} {L : Nat} {iv : Nat → Nat → Int} (h : t_I sc k d n kf iv) : t_O L 137 [.inr (.inl 2)] iv (.inl (c_isWeak k)) 0 (t_I sc k d n kf) := by
  have hI := h
  obtain ⟨hsc, hk, ⟨hE, hB, hS, hC, hA, hO, hL, hP⟩, hci, hd, hn2, hfr⟩ := h
  have h0 := hk.r0
  unfold c_isWeak
  refine t_OE (t_REi (s_X10_isWeak_0 (L := L) (iv := iv) hk hE hB hS hC hA hO hL hP hci) (fun iv1 e9 => ?_))
  obtain ⟨n9, w9, d9, l9, e8⟩ := e9
  subst e8
  exact t_I_keep hI (by intro r hr; repeat (first | rfl | refine t_k1 (by omega) ?_ | refine t_k2 rfl ?_)) rfl (hci)
theorem t_S_isStrong {sc k d kf : Nat → Int} {n : Int} {L : Nat} {iv : Nat → Nat → Int} (h : t_I sc k d n kf iv) : t_O L 138 [.inr (.inl 2)] iv (.inl (c_isStrong k)) 0 (t_I sc k d n kf) := by
  have hI := h
  obtain ⟨hsc, hk, ⟨hE, hB, hS, hC, hA, hO, hL, hP⟩, hci, hd, hn2, hfr⟩ := h
  have h0 := hk.r0
  unfold c_isStrong
  refine t_OE (t_REi (s_X10_isStrong_0 (L := L) (iv := iv) hk hE hB hS hC hA hO hL hP hci) (fun iv1 e9 => ?_))
  obtain ⟨n9, w9, d9, l9, r9, h9, e8⟩ := e9
  subst e8
  exact t_I_keep hI (by intro r hr; repeat (first | rfl | refine t_k1 (by omega) ?_ | refine t_k2 rfl ?_)) rfl (hci)
theorem t_S_isSeen {sc k d kf : Nat → Int} {n : Int} {L : Nat} {iv : Nat → Nat → Int} (h : t_I sc k d n kf iv) : t_O L 139 [.inr (.inl 2)] iv (.inl (c_isSeen k)) 0 (t_I sc k d n kf) := by
  have hI := h
  obtain ⟨hsc, hk, ⟨hE, hB, hS, hC, hA, hO, hL, hP⟩, hci, hd, hn2, hfr⟩ := h
  have h0 := hk.r0
  unfold c_isSeen
  refine t_OE (t_REi (s_X10_isSeen_0 (L := L) (iv := iv) hk hE hB hS hC hA hO hL hP hci) (fun iv1 e9 => ?_))
  obtain ⟨o9, l9, n9, w9, d9, m9, V9, W9, U9, Y9, p9, q9, r9, e8, hci9, ho9⟩ := e9
  subst e8
  exact t_I_keep hI (by intro r hr; repeat (first | rfl | refine t_k1 (by omega) ?_ | refine t_k2 rfl ?_)) ho9 (hci9)
theorem t_S_rounds {sc k d kf : Nat → Int} {n : Int} {L : Nat} {iv : Nat → Nat → Int} (h : t_I sc k d n kf iv) : t_O L 140 [.inr (.inl 2)] iv (.inl (c_rounds k)) 0 (t_I sc k d n kf) := by
  have hI := h
  obtain ⟨hsc, hk, ⟨hE, hB, hS, hC, hA, hO, hL, hP⟩, hci, hd, hn2, hfr⟩ := h
  have h0 := hk.r0
  unfold c_rounds
  refine t_OE (t_REi (s_X10_rounds_0 (L := L) (iv := iv) hk hE hB hS hC hA hO hL hP hci) (fun iv1 e9 => ?_))
  obtain ⟨o9, l9, n9, w9, d9, m9, V9, W9, U9, Y9, p9, q9, r9, e8, hci9, ho9⟩ := e9
  subst e8
  exact t_I_keep hI (by intro r hr; repeat (first | rfl | refine t_k1 (by omega) ?_ | refine t_k2 rfl ?_)) ho9 (hci9)
theorem t_S_reduced {sc k d kf : Nat → Int} {n : Int} {L : Nat} {iv : Nat → Nat → Int} {f : Int} {t : Int} (h : t_I sc k d n kf iv) : t_O L 202 [.inr (.inl 2), .inl f, .inl t] iv (.inl (c_reduced k f t)) 1 (t_I sc k d n kf) := by
  have hI := h
  obtain ⟨hsc, hk, ⟨hE, hB, hS, hC, hA, hO, hL, hP⟩, hci, hd, hn2, hfr⟩ := h
  have h0 := hk.r0
  unfold c_reduced
  by_cases hcase0 : 0 ≤ f ∧ f ≤ k 0 - 1 ∧ 0 ≤ t ∧ t ≤ k 0 - 1
  · rw [q_if_t hcase0]
    by_cases hcase1 : q_sen k
    · rw [q_if_t hcase1]
      by_cases hcase2 : q_val k (100 * 0 + 10 * f + t).toNat = 1000000
      · rw [q_if_t hcase2]
        refine t_w202 (t_REi (s_X10_reduced_3 (L := L) (iv := iv) f t hk hE hB hS hC hA hO hL hP hci hcase0 hcase1 hcase2) (fun iv1 e9 => ?_)) (t_an_e (E := 3) (q := 3) rfl)
        obtain ⟨o9, l9, n9, w9, d9, m9, V9, W9, U9, Y9, p9, q9, r9, e8, hci9, ho9⟩ := e9
        subst e8
        exact t_I_keep hI (by intro r hr; repeat (first | rfl | refine t_k1 (by omega) ?_ | refine t_k2 rfl ?_)) ho9 (hci9)
      · rw [q_if_f hcase2]
        refine t_w202 (t_REi (s_X10_reduced_0 (L := L) (iv := iv) f t hk hE hB hS hC hA hO hL hP hci hcase0 hcase1 hcase2) (fun iv1 e9 => ?_)) (Or.inl rfl)
        obtain ⟨o9, l9, n9, w9, d9, m9, V9, W9, U9, Y9, p9, q9, r9, e8, hci9, ho9⟩ := e9
        subst e8
        exact t_I_keep hI (by intro r hr; repeat (first | rfl | refine t_k1 (by omega) ?_ | refine t_k2 rfl ?_)) ho9 (hci9)
    · rw [q_if_f hcase1]
      refine t_w202 (t_REi (s_X10_reduced_2 (L := L) (iv := iv) f t hk hE hB hS hC hA hO hL hP hci hcase0 hcase1) (fun iv1 e9 => ?_)) (t_an_e (E := 0) (q := 2) rfl)
      obtain ⟨o9, l9, n9, w9, d9, m9, V9, W9, U9, Y9, p9, q9, r9, e8, hci9, ho9⟩ := e9
      subst e8
      exact t_I_keep hI (by intro r hr; repeat (first | rfl | refine t_k1 (by omega) ?_ | refine t_k2 rfl ?_)) ho9 (hci9)
  · rw [q_if_f hcase0]
    refine t_w202 (t_REi (t_RE (s_X10_reduced_1 (L := L) (iv := iv) f t hk hE hB hS hC hA hO hL hP hci hcase0)) (fun iv1 e9 => ?_)) (t_an_e (E := 2) (q := 1) rfl)
    have e8 : iv1 = _ := e9
    subst e8
    exact t_I_keep hI (by intro r hr; repeat (first | rfl | refine t_k1 (by omega) ?_ | refine t_k2 rfl ?_)) rfl (hci)
theorem t_S_waitFor {sc k d kf : Nat → Int} {n : Int} {L : Nat} {iv : Nat → Nat → Int} {e : Int} {s : Int} (h : t_I sc k d n kf iv) : t_O L 203 [.inr (.inl 2), .inl e, .inl s] iv (.inl (c_waitFor k e s)) 1 (t_I sc k d n kf) := by
  have hI := h
  obtain ⟨hsc, hk, ⟨hE, hB, hS, hC, hA, hO, hL, hP⟩, hci, hd, hn2, hfr⟩ := h
  have h0 := hk.r0
  unfold c_waitFor
  by_cases hcase0 : 0 ≤ e ∧ e ≤ k 0 - 1 ∧ 0 ≤ s ∧ s ≤ k 2 - 1
  · rw [q_if_t hcase0]
    by_cases hcase1 : q_sen k
    · rw [q_if_t hcase1]
      by_cases hcase2 : q_wt (q_val k) k e s = 0
      · rw [q_if_t hcase2]
        refine t_w203 (t_REi (s_X10_waitFor_3 (L := L) (iv := iv) e s hk hE hB hS hC hA hO hL hP hci hcase0 hcase1 hcase2) (fun iv1 e9 => ?_)) (t_an_e (E := 3) (q := 3) rfl)
        obtain ⟨o9, l9, n9, w9, d9, m9, V9, W9, U9, Y9, p9, q9, r9, e8, hci9, ho9⟩ := e9
        subst e8
        exact t_I_keep hI (by intro r hr; repeat (first | rfl | refine t_k1 (by omega) ?_ | refine t_k2 rfl ?_)) ho9 (hci9)
      · rw [q_if_f hcase2]
        refine t_w203 (t_REi (s_X10_waitFor_0 (L := L) (iv := iv) e s hk hE hB hS hC hA hO hL hP hci hcase0 hcase1 hcase2) (fun iv1 e9 => ?_)) (Or.inl rfl)
        obtain ⟨o9, l9, n9, w9, d9, m9, V9, W9, U9, Y9, p9, q9, r9, e8, hci9, ho9⟩ := e9
        subst e8
        exact t_I_keep hI (by intro r hr; repeat (first | rfl | refine t_k1 (by omega) ?_ | refine t_k2 rfl ?_)) ho9 (hci9)
    · rw [q_if_f hcase1]
      refine t_w203 (t_REi (s_X10_waitFor_2 (L := L) (iv := iv) e s hk hE hB hS hC hA hO hL hP hci hcase0 hcase1) (fun iv1 e9 => ?_)) (t_an_e (E := 0) (q := 2) rfl)
      obtain ⟨o9, l9, n9, w9, d9, m9, V9, W9, U9, Y9, p9, q9, r9, e8, hci9, ho9⟩ := e9
      subst e8
      exact t_I_keep hI (by intro r hr; repeat (first | rfl | refine t_k1 (by omega) ?_ | refine t_k2 rfl ?_)) ho9 (hci9)
  · rw [q_if_f hcase0]
    refine t_w203 (t_REi (t_RE (s_X10_waitFor_1 (L := L) (iv := iv) e s hk hE hB hS hC hA hO hL hP hci hcase0)) (fun iv1 e9 => ?_)) (t_an_e (E := 2) (q := 1) rfl)
    have e8 : iv1 = _ := e9
    subst e8
    exact t_I_keep hI (by intro r hr; repeat (first | rfl | refine t_k1 (by omega) ?_ | refine t_k2 rfl ?_)) rfl (hci)
theorem t_S_failure {sc k d kf : Nat → Int} {n : Int} {L : Nat} {iv : Nat → Nat → Int} {p : Int} (h : t_I sc k d n kf iv) : t_O L 205 [.inr (.inl 2), .inl p] iv (.inl (c_failure k p)) 1 (t_I sc k d n kf) := by
  have hI := h
  obtain ⟨hsc, hk, ⟨hE, hB, hS, hC, hA, hO, hL, hP⟩, hci, hd, hn2, hfr⟩ := h
  have h0 := hk.r0
  unfold c_failure
  by_cases hcase0 : 0 ≤ p ∧ p ≤ q_p2 (k 2) - 1
  · rw [q_if_t hcase0]
    by_cases hcase1 : q_exi (fun i => 1 ≤ i ∧ q_sta k i) (k 0)
    · rw [q_if_t hcase1]
      refine t_w205 (t_REi (t_RE (s_X10_failure_2a (L := L) (iv := iv) p hk hE hB hS hC hA hO hL hP hci hcase0 hcase1)) (fun iv1 e9 => ?_)) (t_an_e (E := 0) (q := 2) rfl)
      have e8 : iv1 = _ := e9
      subst e8
      exact t_I_keep hI (by intro r hr; repeat (first | rfl | refine t_k1 (by omega) ?_ | refine t_k2 rfl ?_)) rfl (hci)
    · rw [q_if_f hcase1]
      by_cases hcase2 : q_sen k
      · rw [q_if_t hcase2]
        refine t_w205 (t_REi (s_X10_failure_0 (L := L) (iv := iv) p hk hE hB hS hC hA hO hL hP hci hcase0 hcase1 hcase2) (fun iv1 e9 => ?_)) (Or.inl rfl)
        obtain ⟨o9, l9, n9, w9, d9, m9, V9, W9, U9, Y9, p9, q9, r9, x9, y9, e8, hci9, ho9⟩ := e9
        subst e8
        exact t_I_keep hI (by intro r hr; repeat (first | rfl | refine t_k1 (by omega) ?_ | refine t_k2 rfl ?_)) ho9 (hci9)
      · rw [q_if_f hcase2]
        refine t_w205 (t_REi (s_X10_failure_2b (L := L) (iv := iv) p hk hE hB hS hC hA hO hL hP hci hcase0 hcase1 hcase2) (fun iv1 e9 => ?_)) (t_an_e (E := 0) (q := 2) rfl)
        obtain ⟨o9, l9, n9, w9, d9, m9, V9, W9, U9, Y9, p9, q9, r9, e8, hci9, ho9⟩ := e9
        subst e8
        exact t_I_keep hI (by intro r hr; repeat (first | rfl | refine t_k1 (by omega) ?_ | refine t_k2 rfl ?_)) ho9 (hci9)
  · rw [q_if_f hcase0]
    refine t_w205 (t_REi (t_RE (s_X10_failure_1 (L := L) (iv := iv) p hk hE hB hS hC hA hO hL hP hci hcase0)) (fun iv1 e9 => ?_)) (t_an_e (E := 1) (q := 1) rfl)
    have e8 : iv1 = _ := e9
    subst e8
    exact t_I_keep hI (by intro r hr; repeat (first | rfl | refine t_k1 (by omega) ?_ | refine t_k2 rfl ?_)) rfl (hci)
theorem t_S_playedAt {sc k d kf : Nat → Int} {n : Int} {L : Nat} {iv : Nat → Nat → Int} {e : Int} (h : t_I sc k d n kf iv) : t_O L 206 [.inr (.inl 2), .inl e] iv (.inl (c_playedAt k e)) 1 (t_I sc k d n kf) := by
  have hI := h
  obtain ⟨hsc, hk, ⟨hE, hB, hS, hC, hA, hO, hL, hP⟩, hci, hd, hn2, hfr⟩ := h
  have h0 := hk.r0
  unfold c_playedAt
  by_cases hcase0 : 0 ≤ e ∧ e ≤ k 0 - 1
  · rw [q_if_t hcase0]
    by_cases hcase1 : k 240 ≤ e
    · rw [q_if_t hcase1]
      refine t_w206 (t_REi (t_RE (s_X10_playedAt_2 (L := L) (iv := iv) e hk hE hB hS hC hA hO hL hP hcase0 hcase1)) (fun iv1 e9 => ?_)) (t_an_e (E := 0) (q := 2) rfl)
      have e8 : iv1 = _ := e9
      subst e8
      exact t_I_keep hI (by intro r hr; repeat (first | rfl | refine t_k1 (by omega) ?_ | refine t_k2 rfl ?_)) rfl (hci)
    · rw [q_if_f hcase1]
      have hcase1 := Int.not_le.mp hcase1
      refine t_w206 (t_REi (t_RE (s_X10_playedAt_0 (L := L) (iv := iv) e hk hE hB hS hC hA hO hL hP hcase0 hcase1)) (fun iv1 e9 => ?_)) (Or.inl rfl)
      have e8 : iv1 = _ := e9
      subst e8
      exact t_I_keep hI (by intro r hr; repeat (first | rfl | refine t_k1 (by omega) ?_ | refine t_k2 rfl ?_)) rfl (hci)
  · rw [q_if_f hcase0]
    refine t_w206 (t_REi (t_RE (s_X10_playedAt_1 (L := L) (iv := iv) e hk hE hB hS hC hA hO hL hP hcase0)) (fun iv1 e9 => ?_)) (t_an_e (E := 2) (q := 1) rfl)
    have e8 : iv1 = _ := e9
    subst e8
    exact t_I_keep hI (by intro r hr; repeat (first | rfl | refine t_k1 (by omega) ?_ | refine t_k2 rfl ?_)) rfl (hci)
theorem t_S_isKept {sc k d kf : Nat → Int} {n : Int} {L : Nat} {iv : Nat → Nat → Int} (h : t_I sc k d n kf iv) : t_O L 207 [.inr (.inl 2)] iv (.inl (c_isKept k)) 1 (t_I sc k d n kf) := by
  have hI := h
  obtain ⟨hsc, hk, ⟨hE, hB, hS, hC, hA, hO, hL, hP⟩, hci, hd, hn2, hfr⟩ := h
  have h0 := hk.r0
  unfold c_isKept
  by_cases hcase0 : q_exi (fun i => 1 ≤ i ∧ q_sta k i) (k 0)
  · rw [q_if_t hcase0]
    refine t_w207 (t_REi (t_RE (s_X10_isKept_2a (L := L) (iv := iv) hk hE hB hS hC hA hO hL hP hci hcase0)) (fun iv1 e9 => ?_)) (t_an_e (E := 0) (q := 1) rfl) (fun b9 => by cases b9)
    have e8 : iv1 = _ := e9
    subst e8
    exact t_I_keep hI (by intro r hr; repeat (first | rfl | refine t_k1 (by omega) ?_ | refine t_k2 rfl ?_)) rfl (hci)
  · rw [q_if_f hcase0]
    by_cases hcase1 : q_sen k
    · rw [q_if_t hcase1]
      refine t_w207 (t_REi (s_X10_isKept_0 (L := L) (iv := iv) hk hE hB hS hC hA hO hL hP hci hcase0 hcase1) (fun iv1 e9 => ?_)) (Or.inl rfl) (fun b9 => by cases b9; exact pz_bi01 _)
      obtain ⟨o9, l9, n9, w9, d9, m9, V9, W9, U9, Y9, p9, q9, r9, x9, y9, e8, hci9, ho9⟩ := e9
      subst e8
      exact t_I_keep hI (by intro r hr; repeat (first | rfl | refine t_k1 (by omega) ?_ | refine t_k2 rfl ?_)) ho9 (hci9)
    · rw [q_if_f hcase1]
      refine t_w207 (t_REi (s_X10_isKept_2b (L := L) (iv := iv) hk hE hB hS hC hA hO hL hP hci hcase0 hcase1) (fun iv1 e9 => ?_)) (t_an_e (E := 0) (q := 1) rfl) (fun b9 => by cases b9)
      obtain ⟨o9, l9, n9, w9, d9, m9, V9, W9, U9, Y9, p9, q9, r9, e8, hci9, ho9⟩ := e9
      subst e8
      exact t_I_keep hI (by intro r hr; repeat (first | rfl | refine t_k1 (by omega) ?_ | refine t_k2 rfl ?_)) ho9 (hci9)
theorem t_S_reason {sc k d kf : Nat → Int} {n : Int} {L : Nat} {iv : Nat → Nat → Int} {e : Int} (h : t_I sc k d n kf iv) : t_O L 208 [.inr (.inl 2), .inl e] iv (.inl (c_reason k e)) 1 (t_I sc k d n kf) := by
  have hI := h
  obtain ⟨hsc, hk, ⟨hE, hB, hS, hC, hA, hO, hL, hP⟩, hci, hd, hn2, hfr⟩ := h
  have h0 := hk.r0
  unfold c_reason
  by_cases hcase0 : 0 ≤ e ∧ e ≤ k 0 - 1
  · rw [q_if_t hcase0]
    by_cases hcase1 : q_sen k
    · rw [q_if_t hcase1]
      refine t_w208 (t_REi (s_X10_reason_0 (L := L) (iv := iv) e hk hE hB hS hC hA hO hL hP hci hcase0 hcase1) (fun iv1 e9 => ?_)) (Or.inl rfl)
      obtain ⟨o9, l9, n9, w9, d9, m9, V9, W9, U9, Y9, p9, q9, r9, e8, hci9, ho9⟩ := e9
      subst e8
      exact t_I_keep hI (by intro r hr; repeat (first | rfl | refine t_k1 (by omega) ?_ | refine t_k2 rfl ?_)) ho9 (hci9)
    · rw [q_if_f hcase1]
      refine t_w208 (t_REi (s_X10_reason_2 (L := L) (iv := iv) e hk hE hB hS hC hA hO hL hP hci hcase0 hcase1) (fun iv1 e9 => ?_)) (t_an_e (E := 0) (q := 2) rfl)
      obtain ⟨o9, l9, n9, w9, d9, m9, V9, W9, U9, Y9, p9, q9, r9, e8, hci9, ho9⟩ := e9
      subst e8
      exact t_I_keep hI (by intro r hr; repeat (first | rfl | refine t_k1 (by omega) ?_ | refine t_k2 rfl ?_)) ho9 (hci9)
  · rw [q_if_f hcase0]
    refine t_w208 (t_REi (t_RE (s_X10_reason_1 (L := L) (iv := iv) e hk hE hB hS hC hA hO hL hP hci hcase0)) (fun iv1 e9 => ?_)) (t_an_e (E := 2) (q := 1) rfl)
    have e8 : iv1 = _ := e9
    subst e8
    exact t_I_keep hI (by intro r hr; repeat (first | rfl | refine t_k1 (by omega) ?_ | refine t_k2 rfl ?_)) rfl (hci)
theorem t_S_lowest {sc k d kf : Nat → Int} {n : Int} {L : Nat} {iv : Nat → Nat → Int} {e : Int} (h : t_I sc k d n kf iv) : t_O L 209 [.inr (.inl 2), .inl e] iv (.inl (c_lowest k e)) 1 (t_I sc k d n kf) := by
  have hI := h
  obtain ⟨hsc, hk, ⟨hE, hB, hS, hC, hA, hO, hL, hP⟩, hci, hd, hn2, hfr⟩ := h
  have h0 := hk.r0
  unfold c_lowest
  by_cases hcase0 : 0 ≤ e ∧ e ≤ k 0 - 1
  · rw [q_if_t hcase0]
    by_cases hcase1 : q_sta k e
    · rw [q_if_t hcase1]
      refine t_w209 (t_REi (t_RE (s_X10_lowest_2a (L := L) (iv := iv) e hk hE hB hS hC hA hO hL hP hci hcase0 hcase1)) (fun iv1 e9 => ?_)) (t_an_e (E := 0) (q := 2) rfl)
      have e8 : iv1 = _ := e9
      subst e8
      exact t_I_keep hI (by intro r hr; repeat (first | rfl | refine t_k1 (by omega) ?_ | refine t_k2 rfl ?_)) rfl (hci)
    · rw [q_if_f hcase1]
      by_cases hcase2 : q_sen k
      · rw [q_if_t hcase2]
        refine t_w209 (t_REi (s_X10_lowest_0 (L := L) (iv := iv) e hk hE hB hS hC hA hO hL hP hci hcase0 hcase1 hcase2) (fun iv1 e9 => ?_)) (Or.inl rfl)
        obtain ⟨o9, l9, n9, w9, d9, m9, V9, W9, U9, Y9, p9, q9, r9, e8, hci9, ho9⟩ := e9
        subst e8
        exact t_I_keep hI (by intro r hr; repeat (first | rfl | refine t_k1 (by omega) ?_ | refine t_k2 rfl ?_)) ho9 (hci9)
      · rw [q_if_f hcase2]
        refine t_w209 (t_REi (s_X10_lowest_2b (L := L) (iv := iv) e hk hE hB hS hC hA hO hL hP hci hcase0 hcase1 hcase2) (fun iv1 e9 => ?_)) (t_an_e (E := 0) (q := 2) rfl)
        obtain ⟨o9, l9, n9, w9, d9, m9, V9, W9, U9, Y9, p9, q9, r9, e8, hci9, ho9⟩ := e9
        subst e8
        exact t_I_keep hI (by intro r hr; repeat (first | rfl | refine t_k1 (by omega) ?_ | refine t_k2 rfl ?_)) ho9 (hci9)
  · rw [q_if_f hcase0]
    refine t_w209 (t_REi (t_RE (s_X10_lowest_1 (L := L) (iv := iv) e hk hE hB hS hC hA hO hL hP hci hcase0)) (fun iv1 e9 => ?_)) (t_an_e (E := 2) (q := 1) rfl)
    have e8 : iv1 = _ := e9
    subst e8
    exact t_I_keep hI (by intro r hr; repeat (first | rfl | refine t_k1 (by omega) ?_ | refine t_k2 rfl ?_)) rfl (hci)
theorem t_S_uppermost {sc k d kf : Nat → Int} {n : Int} {L : Nat} {iv : Nat → Nat → Int} {e : Int} (h : t_I sc k d n kf iv) : t_O L 210 [.inr (.inl 2), .inl e] iv (.inl (c_uppermost k e)) 1 (t_I sc k d n kf) := by
  have hI := h
  obtain ⟨hsc, hk, ⟨hE, hB, hS, hC, hA, hO, hL, hP⟩, hci, hd, hn2, hfr⟩ := h
  have h0 := hk.r0
  unfold c_uppermost
  by_cases hcase0 : 0 ≤ e ∧ e ≤ k 0 - 1
  · rw [q_if_t hcase0]
    by_cases hcase1 : q_sta k e
    · rw [q_if_t hcase1]
      refine t_w210 (t_REi (t_RE (s_X10_uppermost_2a (L := L) (iv := iv) e hk hE hB hS hC hA hO hL hP hci hcase0 hcase1)) (fun iv1 e9 => ?_)) (t_an_e (E := 0) (q := 2) rfl)
      have e8 : iv1 = _ := e9
      subst e8
      exact t_I_keep hI (by intro r hr; repeat (first | rfl | refine t_k1 (by omega) ?_ | refine t_k2 rfl ?_)) rfl (hci)
    · rw [q_if_f hcase1]
      by_cases hcase2 : q_sen k
      · rw [q_if_t hcase2]
        refine t_w210 (t_REi (s_X10_uppermost_0 (L := L) (iv := iv) e hk hE hB hS hC hA hO hL hP hci hcase0 hcase1 hcase2) (fun iv1 e9 => ?_)) (Or.inl rfl)
        obtain ⟨o9, l9, n9, w9, d9, m9, V9, W9, U9, Y9, p9, q9, r9, e8, hci9, ho9⟩ := e9
        subst e8
        exact t_I_keep hI (by intro r hr; repeat (first | rfl | refine t_k1 (by omega) ?_ | refine t_k2 rfl ?_)) ho9 (hci9)
      · rw [q_if_f hcase2]
        refine t_w210 (t_REi (s_X10_uppermost_2b (L := L) (iv := iv) e hk hE hB hS hC hA hO hL hP hci hcase0 hcase1 hcase2) (fun iv1 e9 => ?_)) (t_an_e (E := 0) (q := 2) rfl)
        obtain ⟨o9, l9, n9, w9, d9, m9, V9, W9, U9, Y9, p9, q9, r9, e8, hci9, ho9⟩ := e9
        subst e8
        exact t_I_keep hI (by intro r hr; repeat (first | rfl | refine t_k1 (by omega) ?_ | refine t_k2 rfl ?_)) ho9 (hci9)
  · rw [q_if_f hcase0]
    refine t_w210 (t_REi (t_RE (s_X10_uppermost_1 (L := L) (iv := iv) e hk hE hB hS hC hA hO hL hP hci hcase0)) (fun iv1 e9 => ?_)) (t_an_e (E := 2) (q := 1) rfl)
    have e8 : iv1 = _ := e9
    subst e8
    exact t_I_keep hI (by intro r hr; repeat (first | rfl | refine t_k1 (by omega) ?_ | refine t_k2 rfl ?_)) rfl (hci)
theorem t_S_now {sc k d kf : Nat → Int} {n : Int} {L : Nat} {iv : Nat → Nat → Int} (h : t_I sc k d n kf iv) : t_O L 153 [.inr (.inl 2)] iv (.inl (c_now k)) 0 (t_I sc k d n kf) := by
  have hI := h
  obtain ⟨hsc, hk, ⟨hE, hB, hS, hC, hA, hO, hL, hP⟩, hci, hd, hn2, hfr⟩ := h
  have h0 := hk.r0
  unfold c_now
  refine t_OE (t_REi (t_RE (s_X10_now_0 (L := L) (iv := iv) hk hE hB hS hC hA hO hL hP)) (fun iv1 e9 => ?_))
  have e8 : iv1 = _ := e9
  subst e8
  exact t_I_keep hI (by intro r hr; repeat (first | rfl | refine t_k1 (by omega) ?_ | refine t_k2 rfl ?_)) rfl (hci)
theorem t_S_startedAt {sc k d kf : Nat → Int} {n : Int} {L : Nat} {iv : Nat → Nat → Int} {e : Int} (h : t_I sc k d n kf iv) : t_O L 214 [.inr (.inl 2), .inl e] iv (.inl (c_startedAt k e)) 1 (t_I sc k d n kf) := by
  have hI := h
  obtain ⟨hsc, hk, ⟨hE, hB, hS, hC, hA, hO, hL, hP⟩, hci, hd, hn2, hfr⟩ := h
  have h0 := hk.r0
  unfold c_startedAt
  by_cases hcase0 : 0 ≤ e ∧ e ≤ k 0 - 1
  · rw [q_if_t hcase0]
    by_cases hcase1 : q_sta k e
    · rw [q_if_t hcase1]
      refine t_w214 (t_REi (t_RE (s_X10_startedAt_0 (L := L) (iv := iv) e hk hE hB hS hC hA hO hL hP hcase0 hcase1)) (fun iv1 e9 => ?_)) (Or.inl rfl)
      have e8 : iv1 = _ := e9
      subst e8
      exact t_I_keep hI (by intro r hr; repeat (first | rfl | refine t_k1 (by omega) ?_ | refine t_k2 rfl ?_)) rfl (hci)
    · rw [q_if_f hcase1]
      refine t_w214 (t_REi (t_RE (s_X10_startedAt_2 (L := L) (iv := iv) e hk hE hB hS hC hA hO hL hP hcase0 hcase1)) (fun iv1 e9 => ?_)) (t_an_e (E := 0) (q := 2) rfl)
      have e8 : iv1 = _ := e9
      subst e8
      exact t_I_keep hI (by intro r hr; repeat (first | rfl | refine t_k1 (by omega) ?_ | refine t_k2 rfl ?_)) rfl (hci)
  · rw [q_if_f hcase0]
    refine t_w214 (t_REi (t_RE (s_X10_startedAt_1 (L := L) (iv := iv) e hk hE hB hS hC hA hO hL hP hcase0)) (fun iv1 e9 => ?_)) (t_an_e (E := 2) (q := 1) rfl)
    have e8 : iv1 = _ := e9
    subst e8
    exact t_I_keep hI (by intro r hr; repeat (first | rfl | refine t_k1 (by omega) ?_ | refine t_k2 rfl ?_)) rfl (hci)
theorem t_S_firstTime {sc k d kf : Nat → Int} {n : Int} {L : Nat} {iv : Nat → Nat → Int} {e : Int} (h : t_I sc k d n kf iv) : t_O L 217 [.inr (.inl 2), .inl e] iv (.inl (c_firstTime k e)) 1 (t_I sc k d n kf) := by
  have hI := h
  obtain ⟨hsc, hk, ⟨hE, hB, hS, hC, hA, hO, hL, hP⟩, hci, hd, hn2, hfr⟩ := h
  have h0 := hk.r0
  unfold c_firstTime
  by_cases hcase0 : 0 ≤ e ∧ e ≤ k 0 - 1
  · rw [q_if_t hcase0]
    by_cases hcase1 : q_con k (fun _ => 0)
    · rw [q_if_t hcase1]
      refine t_w217 (t_REi (s_X10_firstTime_0 (L := L) (iv := iv) e hk hE hB hS hC hA hO hL hP hci hcase0 hcase1) (fun iv1 e9 => ?_)) (Or.inl rfl)
      obtain ⟨o9, l9, n9, w9, d9, e8, hci9, ho9⟩ := e9
      subst e8
      exact t_I_keep hI (by intro r hr; repeat (first | rfl | refine t_k1 (by omega) ?_ | refine t_k2 rfl ?_)) ho9 (hci9)
    · rw [q_if_f hcase1]
      refine t_w217 (t_REi (s_X10_firstTime_2 (L := L) (iv := iv) e hk hE hB hS hC hA hO hL hP hci hcase0 hcase1) (fun iv1 e9 => ?_)) (t_an_e (E := 0) (q := 2) rfl)
      obtain ⟨o9, l9, n9, w9, d9, e8, hci9, ho9⟩ := e9
      subst e8
      exact t_I_keep hI (by intro r hr; repeat (first | rfl | refine t_k1 (by omega) ?_ | refine t_k2 rfl ?_)) ho9 (hci9)
  · rw [q_if_f hcase0]
    refine t_w217 (t_REi (t_RE (s_X10_firstTime_1 (L := L) (iv := iv) e hk hE hB hS hC hA hO hL hP hci hcase0)) (fun iv1 e9 => ?_)) (t_an_e (E := 2) (q := 1) rfl)
    have e8 : iv1 = _ := e9
    subst e8
    exact t_I_keep hI (by intro r hr; repeat (first | rfl | refine t_k1 (by omega) ?_ | refine t_k2 rfl ?_)) rfl (hci)
theorem t_S_use {sc k d kf : Nat → Int} {n : Int} {L : Nat} {iv : Nat → Nat → Int} {m : Int} (h : t_I sc k d n kf iv) : t_O L 218 [.inr (.inl 2), .inl m] iv (.inl (c_use k m)) 1 (t_I sc k d n kf) := by
  have hI := h
  obtain ⟨hsc, hk, ⟨hE, hB, hS, hC, hA, hO, hL, hP⟩, hci, hd, hn2, hfr⟩ := h
  have h0 := hk.r0
  unfold c_use
  by_cases hcase0 : 0 ≤ m ∧ m ≤ 999
  · rw [q_if_t hcase0]
    by_cases hcase1 : q_con k (fun _ => 0)
    · rw [q_if_t hcase1]
      refine t_w218 (t_REi (s_X10_use_0 (L := L) (iv := iv) m hk hE hB hS hC hA hO hL hP hci hcase0 hcase1) (fun iv1 e9 => ?_)) (Or.inl rfl)
      obtain ⟨o9, l9, n9, w9, d9, e8, hci9, ho9⟩ := e9
      subst e8
      exact t_I_keep hI (by intro r hr; repeat (first | rfl | refine t_k1 (by omega) ?_ | refine t_k2 rfl ?_)) ho9 (hci9)
    · rw [q_if_f hcase1]
      refine t_w218 (t_REi (s_X10_use_2 (L := L) (iv := iv) m hk hE hB hS hC hA hO hL hP hci hcase0 hcase1) (fun iv1 e9 => ?_)) (t_an_e (E := 0) (q := 2) rfl)
      obtain ⟨o9, l9, n9, w9, d9, e8, hci9, ho9⟩ := e9
      subst e8
      exact t_I_keep hI (by intro r hr; repeat (first | rfl | refine t_k1 (by omega) ?_ | refine t_k2 rfl ?_)) ho9 (hci9)
  · rw [q_if_f hcase0]
    refine t_w218 (t_REi (t_RE (s_X10_use_1 (L := L) (iv := iv) m hk hE hB hS hC hA hO hL hP hci hcase0)) (fun iv1 e9 => ?_)) (t_an_e (E := 1) (q := 1) rfl)
    have e8 : iv1 = _ := e9
    subst e8
    exact t_I_keep hI (by intro r hr; repeat (first | rfl | refine t_k1 (by omega) ?_ | refine t_k2 rfl ?_)) rfl (hci)
theorem t_S_peak {sc k d kf : Nat → Int} {n : Int} {L : Nat} {iv : Nat → Nat → Int} (h : t_I sc k d n kf iv) : t_O L 219 [.inr (.inl 2)] iv (.inl (c_peak k)) 1 (t_I sc k d n kf) := by
  have hI := h
  obtain ⟨hsc, hk, ⟨hE, hB, hS, hC, hA, hO, hL, hP⟩, hci, hd, hn2, hfr⟩ := h
  have h0 := hk.r0
  unfold c_peak
  by_cases hcase0 : q_con k (fun _ => 0)
  · rw [q_if_t hcase0]
    by_cases hcase1 : q_pk k (q_D k) = -1
    · rw [q_if_t hcase1]
      refine t_w219 (t_REi (s_X10_peak_2 (L := L) (iv := iv) hk hE hB hS hC hA hO hL hP hci hcase0 hcase1) (fun iv1 e9 => ?_)) (t_an_e (E := 2) (q := 2) rfl)
      obtain ⟨o9, l9, n9, w9, d9, e8, hci9, ho9⟩ := e9
      subst e8
      exact t_I_keep hI (by intro r hr; repeat (first | rfl | refine t_k1 (by omega) ?_ | refine t_k2 rfl ?_)) ho9 (hci9)
    · rw [q_if_f hcase1]
      refine t_w219 (t_REi (s_X10_peak_0 (L := L) (iv := iv) hk hE hB hS hC hA hO hL hP hci hcase0 hcase1) (fun iv1 e9 => ?_)) (Or.inl rfl)
      obtain ⟨o9, l9, n9, w9, d9, e8, hci9, ho9⟩ := e9
      subst e8
      exact t_I_keep hI (by intro r hr; repeat (first | rfl | refine t_k1 (by omega) ?_ | refine t_k2 rfl ?_)) ho9 (hci9)
  · rw [q_if_f hcase0]
    refine t_w219 (t_REi (s_X10_peak_1 (L := L) (iv := iv) hk hE hB hS hC hA hO hL hP hci hcase0) (fun iv1 e9 => ?_)) (t_an_e (E := 0) (q := 1) rfl)
    obtain ⟨o9, l9, n9, w9, d9, e8, hci9, ho9⟩ := e9
    subst e8
    exact t_I_keep hI (by intro r hr; repeat (first | rfl | refine t_k1 (by omega) ?_ | refine t_k2 rfl ?_)) ho9 (hci9)
theorem t_S_peakSet {sc k d kf : Nat → Int} {n : Int} {L : Nat} {iv : Nat → Nat → Int} (h : t_I sc k d n kf iv) : t_O L 220 [.inr (.inl 2)] iv (.inl (c_peakSet k)) 1 (t_I sc k d n kf) := by
  have hI := h
  obtain ⟨hsc, hk, ⟨hE, hB, hS, hC, hA, hO, hL, hP⟩, hci, hd, hn2, hfr⟩ := h
  have h0 := hk.r0
  unfold c_peakSet
  by_cases hcase0 : q_con k (fun _ => 0)
  · rw [q_if_t hcase0]
    by_cases hcase1 : q_pk k (q_D k) = -1
    · rw [q_if_t hcase1]
      refine t_w220 (t_REi (s_X10_peakSet_2 (L := L) (iv := iv) hk hE hB hS hC hA hO hL hP hci hcase0 hcase1) (fun iv1 e9 => ?_)) (t_an_e (E := 2) (q := 2) rfl)
      obtain ⟨o9, l9, n9, w9, d9, e8, hci9, ho9⟩ := e9
      subst e8
      exact t_I_keep hI (by intro r hr; repeat (first | rfl | refine t_k1 (by omega) ?_ | refine t_k2 rfl ?_)) ho9 (hci9)
    · rw [q_if_f hcase1]
      refine t_w220 (t_REi (s_X10_peakSet_0 (L := L) (iv := iv) hk hE hB hS hC hA hO hL hP hci hcase0 hcase1) (fun iv1 e9 => ?_)) (Or.inl rfl)
      obtain ⟨o9, l9, n9, w9, d9, e8, hci9, ho9⟩ := e9
      subst e8
      exact t_I_keep hI (by intro r hr; repeat (first | rfl | refine t_k1 (by omega) ?_ | refine t_k2 rfl ?_)) ho9 (hci9)
  · rw [q_if_f hcase0]
    refine t_w220 (t_REi (s_X10_peakSet_1 (L := L) (iv := iv) hk hE hB hS hC hA hO hL hP hci hcase0) (fun iv1 e9 => ?_)) (t_an_e (E := 0) (q := 1) rfl)
    obtain ⟨o9, l9, n9, w9, d9, e8, hci9, ho9⟩ := e9
    subst e8
    exact t_I_keep hI (by intro r hr; repeat (first | rfl | refine t_k1 (by omega) ?_ | refine t_k2 rfl ?_)) ho9 (hci9)
theorem t_S_costOf {sc k d kf : Nat → Int} {n : Int} {L : Nat} {iv : Nat → Nat → Int} {e : Int} {m : Int} (h : t_I sc k d n kf iv) : t_O L 223 [.inr (.inl 2), .inl e, .inl m] iv (.inl (c_costOf k e m)) 1 (t_I sc k d n kf) := by
  have hI := h
  obtain ⟨hsc, hk, ⟨hE, hB, hS, hC, hA, hO, hL, hP⟩, hci, hd, hn2, hfr⟩ := h
  have h0 := hk.r0
  unfold c_costOf
  by_cases hcase0 : 0 ≤ e ∧ e ≤ k 0 - 1
  · rw [q_if_t hcase0]
    by_cases hcase1 : 0 ≤ m ∧ m ≤ 999
    · rw [q_if_t hcase1]
      refine t_w223 (t_REi (t_RE (s_X10_costOf_0 (L := L) (iv := iv) e m hk hE hB hS hC hA hO hL hP hcase0 hcase1)) (fun iv1 e9 => ?_)) (Or.inl rfl)
      have e8 : iv1 = _ := e9
      subst e8
      exact t_I_keep hI (by intro r hr; repeat (first | rfl | refine t_k1 (by omega) ?_ | refine t_k2 rfl ?_)) rfl (hci)
    · rw [q_if_f hcase1]
      refine t_w223 (t_REi (t_RE (s_X10_costOf_2 (L := L) (iv := iv) e m hk hE hB hS hC hA hO hL hP hcase0 hcase1)) (fun iv1 e9 => ?_)) (t_an_e (E := 1) (q := 2) rfl)
      have e8 : iv1 = _ := e9
      subst e8
      exact t_I_keep hI (by intro r hr; repeat (first | rfl | refine t_k1 (by omega) ?_ | refine t_k2 rfl ?_)) rfl (hci)
  · rw [q_if_f hcase0]
    refine t_w223 (t_REi (t_RE (s_X10_costOf_1 (L := L) (iv := iv) e m hk hE hB hS hC hA hO hL hP hcase0)) (fun iv1 e9 => ?_)) (t_an_e (E := 2) (q := 1) rfl)
    have e8 : iv1 = _ := e9
    subst e8
    exact t_I_keep hI (by intro r hr; repeat (first | rfl | refine t_k1 (by omega) ?_ | refine t_k2 rfl ?_)) rfl (hci)
