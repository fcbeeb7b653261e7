/-! the next event as a function; all that start at a minute -/
noncomputable def q_nxt (v k : Nat → Int) (m : Int) (a : Nat → Int) : Int := Classical.epsilon (q_nx v a k m)
theorem q_nxt_ok {v k a : Nat → Int} {m : Int} (hk : q_KR k) : q_nx v a k m (q_nxt v k m a) := by
  refine Classical.epsilon_spec (p := q_nx v a k m) ?_
  have h0 := hk.r0
  by_cases h : ∀ i : Int, 0 ≤ i → i < ((k 0).toNat : Int) → q_rs v a k i m ≠ 45
  · exact ⟨-1, Or.inr ⟨rfl, fun i g1 g2 => h i g1 (by omega)⟩⟩
  · obtain ⟨e, h1, h2, h3, h4⟩ := q_first (p := fun i => q_rs v a k i m ≠ 45) (k 0).toNat h
    exact ⟨e, Or.inl ⟨h1, by omega, Classical.not_not.mp h4, h3⟩⟩
theorem s_X11_next_f {L : Nat} {iv : Nat → Nat → Int} (m : Int) (hk : q_KR (iv 155)) (hm : 0 ≤ m ∧ m ≤ 1000) (hv : q_vl (iv 158)) (ha : q_al (iv 160)) : pz_R (pz_Sh L) 259 [.inr (.inl 154), .inl m] iv (.inl (some (.inl (q_nxt (iv 158) (iv 155) m (iv 160))))) iv :=
  s_X11_next m (q_nxt (iv 158) (iv 155) m (iv 160)) (q_nxt_ok hk) hk hm hv ha
/-- an event that can start has not started -/
theorem q_rs_45 {v a k : Nat → Int} {e m : Int} (h : q_rs v a k e m = 45) : a e.toNat = -1 := by
  by_cases h1 : a e.toNat ≠ -1
  · unfold q_rs at h
    rw [q_if_t h1] at h
    cases h
  · exact Classical.not_not.mp h1
/-- how many events have not started -/
noncomputable def q_un0 (a : Nat → Int) (n : Int) : Int := q_cnt (fun e => a e.toNat = -1) n
theorem q_cnt_up {a : Nat → Int} {e x : Int} (h0 : 0 ≤ e) (h1 : a e.toNat = -1) (hx : x ≠ -1) : ∀ n : Nat, q_cntN (fun i => pz_up a e.toNat x i.toNat = -1) n = q_cntN (fun i => a i.toNat = -1) n - (if e < n then 1 else 0)
  | 0 => by rw [if_neg (by omega)]; rfl
  | n + 1 => by
    show q_cntN (fun i => pz_up a e.toNat x i.toNat = -1) n + pz_bi (pz_up a e.toNat x (n : Int).toNat = -1) = q_cntN (fun i => a i.toNat = -1) n + pz_bi (a (n : Int).toNat = -1) - _
    rw [q_cnt_up h0 h1 hx n]
    by_cases hn : e = n
    · rw [if_neg (by omega), if_pos (by omega), pz_bi_0 (by rw [← hn, pz_up_eq]; exact hx), pz_bi_1 (by rw [← hn]; exact h1)]
      omega
    · rw [pz_up_ne (show (n : Int).toNat ≠ e.toNat by omega)]
      by_cases h2 : e < n
      · rw [if_pos h2, if_pos (by omega)]
        omega
      · rw [if_neg h2, if_neg (by omega)]
        omega
theorem q_un0_s {a : Nat → Int} {e x n : Int} (h0 : 0 ≤ e) (he : e < n) (h1 : a e.toNat = -1) (hx : x ≠ -1) : q_un0 (pz_up a e.toNat x) n = q_un0 a n - 1 := by
  unfold q_un0 q_cnt
  rw [q_cnt_up h0 h1 hx, if_pos (by omega)]
noncomputable def q_stp (v k : Nat → Int) (m : Int) (a : Nat → Int) : Nat → Int := q_if (q_nxt v k m a = -1) a (pz_up a (q_nxt v k m a).toNat m)
