/-! facts about what calls tell: control, reductions, reasons -/
theorem f_one {p : Prop} (h : pz_bi p = 1) : p := pz_bi_ne (by rw [h]; decide)
theorem f_str {k : Nat → Int} (hk : q_KR k) (hz : k 0 ≤ 9) (h : c_isStrong k = 1) : c_isWeak k = 1 := pz_bi_1 (fun p p1 p2 => f_strong_wk hk hz (f_one h) p1 p2)
theorem f_wk {k : Nat → Int} (hk : q_KR k) (hz : k 0 ≤ 9) (h : c_isWeak k = 1) : c_isConsistent k = 1 := by
  have h0 := hk.r0
  have hw : q_all (q_wkP k (fun _ => 0)) (q_p2 (k 2)) := f_one h
  have p := q_p2_r (a := k 2) (by omega) (by omega)
  exact pz_bi_1 (f_wk_con hk hz (hw 0 (by omega) (by omega)))
theorem f_sn {k : Nat → Int} (h : c_isSeen k = 1) : c_isConsistent k = 1 := by
  have hs : q_sen k := f_one h
  exact pz_bi_1 hs.1
theorem f_str01 (k : Nat → Int) : c_isStrong k = 0 ∨ c_isStrong k = 1 := pz_bi01 _
theorem f_wk01 (k : Nat → Int) : c_isWeak k = 0 ∨ c_isWeak k = 1 := pz_bi01 _
theorem f_sn01 (k : Nat → Int) : c_isSeen k = 0 ∨ c_isSeen k = 1 := pz_bi01 _
theorem f_sen {k : Nat → Int} (h : c_isSeen k = 1) : q_sen k := f_one h
theorem f_nsen {k : Nat → Int} (h : c_isSeen k = 0) : ¬ q_sen k := pz_bi_eq h
theorem f_rnd (k : Nat → Int) : 0 ≤ c_rounds k ∧ c_rounds k ≤ 60 := by
  unfold c_rounds q_rnd q_rds
  by_cases hc : q_con k (fun _ => 0)
  · rw [q_if_t hc]
    obtain ⟨⟨m1, m2⟩, -, -⟩ := q_m_ok (k := k) (x := q_x0 k (fun _ => 0) (fun _ => 0) (fun _ => 0) (fun _ => 0))
    have b := pz_bi_r (q_ha k (q_rx k (q_m k (q_x0 k (fun _ => 0) (fun _ => 0) (fun _ => 0) (fun _ => 0))) (q_x0 k (fun _ => 0) (fun _ => 0) (fun _ => 0) (fun _ => 0))))
    omega
  · rw [q_if_f hc]; omega
/-- the values of a plan that is seen -/
theorem f_J {k : Nat → Int} (hk : q_KR k) (hs : q_sen k) : ∃ a : Int, (10800 ≤ a ∧ a ≤ 400000) ∧ m_J k (q_D k) 10800 a (q_val k) := by
  have hco : q_con k (fun _ => 0) := hs.1
  obtain ⟨⟨m1, m2⟩, m3, -⟩ := q_m_ok (k := k) (x := q_x0 k (fun _ => 0) (fun _ => 0) (fun _ => 0) (fun _ => 0))
  have J := m_J_all (g := fun _ => 0) (v := fun _ => 0) (a := fun _ => 0) hk hco (q_m k (q_x0 k (fun _ => 0) (fun _ => 0) (fun _ => 0) (fun _ => 0))).toNat (by omega) (fun i' g1 g2 => (m3 i' g1 (by omega)).1)
  rw [Int.toNat_of_nonneg m1] at J
  have e : (q_rx k (q_m k (q_x0 k (fun _ => 0) (fun _ => 0) (fun _ => 0) (fun _ => 0)) + 1) (q_x0 k (fun _ => 0) (fun _ => 0) (fun _ => 0) (fun _ => 0))).1 = q_val k := by
    unfold q_val q_zX
    rw [q_if_t hco]
  have J2 := J.2
  rw [e] at J2
  exact ⟨5400 + 5400 * (q_m k (q_x0 k (fun _ => 0) (fun _ => 0) (fun _ => 0) (fun _ => 0)) + 1), by omega, J2⟩
theorem f_red {k : Nat → Int} {a b : Int} (hk : q_KR k) (ha : 0 ≤ a ∧ a < k 0) (hb : 0 ≤ b ∧ b < k 0) : (c_isSeen k = 0 ∧ c_reduced k a b = -99991002) ∨ (c_isSeen k = 1 ∧ c_reduced k a b ≠ -99991002 ∧ (c_distance k a b = -99991003 ∨ (c_reduced k a b ≠ -99991003 ∧ c_reduced k a b ≤ c_distance k a b))) := by
  have h0 := hk.r0
  unfold c_reduced
  rw [q_if_t (show 0 ≤ a ∧ a ≤ k 0 - 1 ∧ 0 ≤ b ∧ b ≤ k 0 - 1 by omega)]
  rcases f_sn01 k with h | h
  · rw [q_if_f (f_nsen h)]
    exact Or.inl ⟨h, rfl⟩
  · have hs := f_sen h
    rw [q_if_t hs]
    refine Or.inr ⟨h, ?_⟩
    obtain ⟨m, hm, J⟩ := f_J hk hs
    have hD : m_DF (k 0) (q_D k) := m_DF_dd (g := fun _ => 0) hk hs.1
    have r := m_F_r hD (by omega) J.1 (n := (10 * a + b).toNat) (by omega)
    have l := (J.1 a b ha.1 (by omega) hb.1 (by omega)).1
    rw [show (100 * 0 + 10 * a + b).toNat = (10 * a + b).toNat by omega]
    have d := f_D hk ha hb hs.1
    by_cases g : q_val k (10 * a + b).toNat = 1000000
    · rw [q_if_t g]
      refine ⟨by decide, ?_⟩
      rcases d with d | d
      · exact Or.inl d.1
      · omega
    · rw [q_if_f g]
      refine ⟨by omega, ?_⟩
      rcases d with d | d
      · exact Or.inl d.1
      · exact Or.inr (by omega)
theorem f_wai {k : Nat → Int} {s : Int} (hk : q_KR k) (hs9 : 0 ≤ s ∧ s < k 2) (h : c_isSeen k = 1) (hst : c_startedAt k (k (212 + 4 * s + 1).toNat) < 0) : k (212 + 4 * s + 3).toNat ≤ c_waitFor k (k (212 + 4 * s + 1).toNat) s := by
  have h0 := hk.r0
  have sp := hk.sp hs9.1 hs9.2
  have hs := f_sen h
  have ns : ¬ q_sta k (k (212 + 4 * s + 1).toNat) := by
    intro q
    unfold c_startedAt at hst
    rw [q_if_t (show 0 ≤ k (212 + 4 * s + 1).toNat ∧ k (212 + 4 * s + 1).toNat ≤ k 0 - 1 by omega), q_if_t q] at hst
    have := hk.st (e := k (212 + 4 * s + 1).toNat) (by omega) (by omega)
    omega
  obtain ⟨m, hm, J⟩ := f_J hk hs
  have w := J.2.2.2 s hs9.1 hs9.2 ns
  have e : q_wt (q_val k) k (k (212 + 4 * s + 1).toNat) s = -(q_val k (100 * (s + 1) + 10 * k (212 + 4 * s + 1).toNat + k (212 + 4 * s).toNat).toNat) := if_pos (by omega)
  unfold c_waitFor
  rw [q_if_t (show 0 ≤ k (212 + 4 * s + 1).toNat ∧ k (212 + 4 * s + 1).toNat ≤ k 0 - 1 ∧ 0 ≤ s ∧ s ≤ k 2 - 1 by omega), q_if_t hs, q_if_f (show ¬ q_wt (q_val k) k (k (212 + 4 * s + 1).toNat) s = 0 by omega)]
  omega
theorem f_ka {k : Nat → Int} {e : Int} (h : 0 ≤ e) : q_ka k e.toNat = k (6 + e).toNat := by
  show k (6 + e.toNat) = _
  rw [show 6 + e.toNat = (6 + e).toNat by omega]
theorem f_rea {k : Nat → Int} {e : Int} (hk : q_KR k) (he : 0 ≤ e ∧ e < k 0) : (c_isSeen k = 0 ∧ c_reason k e = -99991002) ∨ (c_isSeen k = 1 ∧ (45 ≤ c_reason k e ∧ c_reason k e ≤ 119) ∧ (c_reason k e = 115 → 0 ≤ c_startedAt k e) ∧ (c_reason k e ≠ 115 → c_startedAt k e < 0) ∧ (c_reason k e = 101 → c_now k < c_lowest k e) ∧ (c_reason k e = 108 → c_uppermost k e < c_now k) ∧ (c_reason k e = 45 → c_lowest k e ≤ c_now k ∧ c_now k ≤ c_uppermost k e)) := by
  have h0 := hk.r0
  have st := hk.st (e := e) (by omega) (by omega)
  have ev : 0 ≤ e ∧ e ≤ k 0 - 1 := by omega
  unfold c_reason c_startedAt c_lowest c_uppermost c_now
  rw [q_if_t ev, q_if_t ev, q_if_t ev, q_if_t ev]
  rcases f_sn01 k with h | h
  · rw [q_if_f (f_nsen h)]
    exact Or.inl ⟨h, rfl⟩
  · have hs := f_sen h
    rw [q_if_t hs, q_if_t hs, q_if_t hs]
    refine Or.inr ⟨h, q_rs_r, ?_⟩
    unfold q_rs
    rw [f_ka he.1]
    by_cases g : q_sta k e
    · rw [q_if_t g, q_if_t g, q_if_t g, q_if_t g]
      refine ⟨fun _ => by omega, fun q => absurd rfl q, fun q => absurd q (by decide), fun q => absurd q (by decide), fun q => absurd q (by decide)⟩
    · rw [q_if_f g, q_if_f g, q_if_f g, q_if_f g]
      by_cases g1 : q_ie k e
      · rw [q_if_t g1]
        refine ⟨fun q => absurd q (by decide), fun _ => by decide, fun q => absurd q (by decide), fun q => absurd q (by decide), fun q => absurd q (by decide)⟩
      rw [q_if_f g1]
      by_cases g2 : q_bh (q_val k) (q_ka k) k e
      · rw [q_if_t g2]
        refine ⟨fun q => absurd q (by decide), fun _ => by decide, fun q => absurd q (by decide), fun q => absurd q (by decide), fun q => absurd q (by decide)⟩
      rw [q_if_f g2]
      by_cases g3 : q_mw (q_val k) (q_ka k) k e (k 4)
      · rw [q_if_t g3]
        refine ⟨fun q => absurd q (by decide), fun _ => by decide, fun q => absurd q (by decide), fun q => absurd q (by decide), fun q => absurd q (by decide)⟩
      rw [q_if_f g3]
      by_cases g4 : k 4 < q_lo (q_val k) (q_ka k) k e
      · rw [q_if_t g4]
        refine ⟨fun q => absurd q (by decide), fun _ => by decide, fun _ => g4, fun q => absurd q (by decide), fun q => absurd q (by decide)⟩
      rw [q_if_f g4]
      by_cases g5 : q_hi (q_val k) (q_ka k) k e < k 4
      · rw [q_if_t g5]
        refine ⟨fun q => absurd q (by decide), fun _ => by decide, fun q => absurd q (by decide), fun _ => g5, fun q => absurd q (by decide)⟩
      rw [q_if_f g5]
      refine ⟨fun q => absurd q (by decide), fun _ => by decide, fun q => absurd q (by decide), fun q => absurd q (by decide), fun _ => ⟨by omega, by omega⟩⟩
