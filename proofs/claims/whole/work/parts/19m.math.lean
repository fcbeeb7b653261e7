/-! mathematics that is owed, thirteenth part: what reductions begin with -/
theorem m_vi_low {k d v : Nat → Int} (h : q_KR k) : ∀ n : Nat, n < 100 → q_vi k d v n = d n := by
  have h0 := h.r0
  unfold q_vi
  refine q_fr_ind (f := q_upS k) (fun _ (f : Nat → Int) => ∀ n : Nat, n < 100 → f n = d n) (by omega) ?_ ?_
  · intro n hn
    unfold q_v0
    rw [if_pos (by omega), if_pos hn]
  · intro s f s1 s2 hf n hn
    have hs := h.sp s1 s2
    unfold q_upS
    by_cases g : q_sta k (k (212 + 4 * s + 1).toNat)
    · rw [q_if_t g]; exact hf n hn
    · rw [q_if_f g, pz_up_ne (by omega)]; exact hf n hn
theorem m_vi_up {k d v : Nat → Int} (h : q_KR k) : ∀ s e : Int, 0 ≤ s → s < k 2 → 0 ≤ e → e ≤ 9 → q_vi k d v (100 * (s + 1) + 10 * e + k (212 + 4 * s).toNat).toNat = q_if (¬ q_sta k (k (212 + 4 * s + 1).toNat) ∧ e = k (212 + 4 * s + 1).toNat) (-(k (212 + 4 * s + 3).toNat)) 1000000 := by
  have h0 := h.r0
  have key : ∀ s e : Int, 0 ≤ s → s < k 2 → 0 ≤ e → e ≤ 9 → q_vi k d v (100 * (s + 1) + 10 * e + k (212 + 4 * s).toNat).toNat = q_if (s < k 2 ∧ ¬ q_sta k (k (212 + 4 * s + 1).toNat) ∧ e = k (212 + 4 * s + 1).toNat) (-(k (212 + 4 * s + 3).toNat)) 1000000 := by
    unfold q_vi
    refine q_fr_ind (f := q_upS k) (fun i (f : Nat → Int) => ∀ s e : Int, 0 ≤ s → s < k 2 → 0 ≤ e → e ≤ 9 → f (100 * (s + 1) + 10 * e + k (212 + 4 * s).toNat).toNat = q_if (s < i ∧ ¬ q_sta k (k (212 + 4 * s + 1).toNat) ∧ e = k (212 + 4 * s + 1).toNat) (-(k (212 + 4 * s + 3).toNat)) 1000000) (by omega) ?_ ?_
    · intro s e s1 s2 e1 e2
      have hs := h.sp s1 s2
      rw [q_if_f (fun q => by omega)]
      unfold q_v0
      rw [if_pos (by omega), if_neg (by omega)]
    · intro i f i1 i2 hf s e s1 s2 e1 e2
      have hs := h.sp s1 s2
      have hi := h.sp i1 i2
      have hfs := hf s e s1 s2 e1 e2
      unfold q_upS
      by_cases g : q_sta k (k (212 + 4 * i + 1).toNat)
      · rw [q_if_t g, hfs]
        by_cases c : s < i ∧ ¬ q_sta k (k (212 + 4 * s + 1).toNat) ∧ e = k (212 + 4 * s + 1).toNat
        · rw [q_if_t c, q_if_t ⟨by omega, c.2⟩]
        · rw [q_if_f c, q_if_f]
          rintro ⟨a, b, b2⟩
          by_cases w : s = i
          · rw [w] at b; exact b g
          · exact c ⟨by omega, b, b2⟩
      · rw [q_if_f g]
        by_cases w : s = i
        · by_cases u : e = k (212 + 4 * i + 1).toNat
          · rw [w, u, pz_up_eq, q_if_t ⟨by omega, g, rfl⟩]
          · rw [w] at hfs ⊢
            rw [pz_up_ne (by omega), hfs, q_if_f (fun q => by omega), q_if_f (fun q => u q.2.2)]
        · rw [pz_up_ne (by omega), hfs]
          by_cases c : s < i ∧ ¬ q_sta k (k (212 + 4 * s + 1).toNat) ∧ e = k (212 + 4 * s + 1).toNat
          · rw [q_if_t c, q_if_t ⟨by omega, c.2⟩]
          · rw [q_if_f c, q_if_f (fun q => c ⟨by omega, q.2⟩)]
  intro s e s1 s2 e1 e2
  rw [key s e s1 s2 e1 e2]
  by_cases c : ¬ q_sta k (k (212 + 4 * s + 1).toNat) ∧ e = k (212 + 4 * s + 1).toNat
  · rw [q_if_t c, q_if_t ⟨s2, c⟩]
  · rw [q_if_f c, q_if_f (fun q => c q.2)]
theorem m_tu_at {k u : Nat → Int} (h : q_KR k) : (∀ s e : Int, 0 ≤ s → s < k 2 → 0 ≤ e → e ≤ 9 → q_tu k u (10 * s + e).toNat = q_if (¬ q_sta k (k (212 + 4 * s + 1).toNat) ∧ e = k (212 + 4 * s + 1).toNat) (-(k (212 + 4 * s + 3).toNat)) 1000000000) ∧ q_rng 30 (q_tu k u) := by
  have h0 := h.r0
  have key : (∀ s e : Int, 0 ≤ s → s < k 2 → 0 ≤ e → e ≤ 9 → q_tu k u (10 * s + e).toNat = q_if (s < k 2 ∧ ¬ q_sta k (k (212 + 4 * s + 1).toNat) ∧ e = k (212 + 4 * s + 1).toNat) (-(k (212 + 4 * s + 3).toNat)) 1000000000) ∧ q_rng 30 (q_tu k u) := by
    unfold q_tu
    refine q_fr_ind (f := q_tuS k) (fun i (f : Nat → Int) => (∀ s e : Int, 0 ≤ s → s < k 2 → 0 ≤ e → e ≤ 9 → f (10 * s + e).toNat = q_if (s < i ∧ ¬ q_sta k (k (212 + 4 * s + 1).toNat) ∧ e = k (212 + 4 * s + 1).toNat) (-(k (212 + 4 * s + 3).toNat)) 1000000000) ∧ q_rng 30 f) (by omega) ?_ ?_
    · refine ⟨?_, ?_⟩
      · intro s e s1 s2 e1 e2
        rw [q_if_f (fun q => by omega), if_pos (by omega)]
      · intro j hj
        show -1000000000 ≤ (if j < 30 then (1000000000 : Int) else u j) ∧ (if j < 30 then (1000000000 : Int) else u j) ≤ 1000000000
        rw [if_pos hj]
        omega
    · intro i f i1 i2 hf
      have hi := h.sp i1 i2
      unfold q_tuS
      refine ⟨?_, ?_⟩
      · intro s e s1 s2 e1 e2
        have hs := h.sp s1 s2
        have hfs := hf.1 s e s1 s2 e1 e2
        by_cases g : q_sta k (k (212 + 4 * i + 1).toNat)
        · rw [q_if_t g, hfs]
          by_cases c : s < i ∧ ¬ q_sta k (k (212 + 4 * s + 1).toNat) ∧ e = k (212 + 4 * s + 1).toNat
          · rw [q_if_t c, q_if_t ⟨by omega, c.2⟩]
          · rw [q_if_f c, q_if_f]
            rintro ⟨a, b, b2⟩
            by_cases w : s = i
            · rw [w] at b; exact b g
            · exact c ⟨by omega, b, b2⟩
        · rw [q_if_f g]
          by_cases w : s = i
          · by_cases u : e = k (212 + 4 * i + 1).toNat
            · rw [w, u, pz_up_eq, q_if_t ⟨by omega, g, rfl⟩]
            · rw [w] at hfs ⊢
              rw [pz_up_ne (by omega), hfs, q_if_f (fun q => by omega), q_if_f (fun q => u q.2.2)]
          · rw [pz_up_ne (by omega), hfs]
            by_cases c : s < i ∧ ¬ q_sta k (k (212 + 4 * s + 1).toNat) ∧ e = k (212 + 4 * s + 1).toNat
            · rw [q_if_t c, q_if_t ⟨by omega, c.2⟩]
            · rw [q_if_f c, q_if_f (fun q => c ⟨by omega, q.2⟩)]
      · intro j hj
        have a := hf.2 j hj
        by_cases g : q_sta k (k (212 + 4 * i + 1).toNat)
        · rw [q_if_t g]; exact a
        · rw [q_if_f g, pz_up_at]
          split <;> omega
  refine ⟨?_, key.2⟩
  intro s e s1 s2 e1 e2
  rw [key.1 s e s1 s2 e1 e2]
  by_cases c : ¬ q_sta k (k (212 + 4 * s + 1).toNat) ∧ e = k (212 + 4 * s + 1).toNat
  · rw [q_if_t c, q_if_t ⟨s2, c⟩]
  · rw [q_if_f c, q_if_f (fun q => c q.2)]
theorem m_RL_0 {k d V U : Nat → Int} (h : q_KR k) (hd : q_nD k d (q_dd k (fun _ => 0) (fun _ => 0))) (hr : q_rng 100 d) : q_RL k 0 (q_cp 100 d V) (q_tu k U) := by
  have h0 := h.r0
  have e : (q_rx k 0 (q_X0 k)).1 = q_vi k (q_dd k (fun _ => 0) (fun _ => 0)) (fun _ => 0) := by
    have e1 : q_rx k 0 (q_X0 k) = q_X0 k := q_fr_0 (Int.le_refl 0)
    rw [e1]
    rfl
  have t := m_tu_at (u := U) h
  refine ⟨⟨?_, ?_⟩, ?_, t.2⟩
  · intro i j i1 i2 j1 j2
    rw [e, m_vi_low h _ (by omega), q_cp_full (by omega), hd i j i1 i2 j1 j2]
    congr 2
    omega
  · intro s x s1 s2 x1 x2
    rw [e, m_vi_up h s x s1 s2 x1 (by omega), t.1 s x s1 s2 x1 (by omega)]
    have hs := h.sp s1 s2
    by_cases c : ¬ q_sta k (k (212 + 4 * s + 1).toNat) ∧ x = k (212 + 4 * s + 1).toNat
    · rw [q_if_t c, q_if_t c]
      unfold q_N
      rw [if_neg (by omega)]
    · rw [q_if_f c, q_if_f c]
      rfl
  · intro j hj
    rw [q_cp_full hj]
    exact hr j hj
