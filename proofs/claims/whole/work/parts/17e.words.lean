/-! the next event as a function; all that start at a minute -/
noncomputable def q_nxt (v k : Nat → Int) (m : Int) (a : Nat → Int) : Int := Classical.epsilon (q_nx v a k m)
theorem q_nxt_ok {v k a : Nat → Int} {m : Int} (hk : q_KR k) : q_nx v a k m (q_nxt v k m a) := by
  refine Classical.epsilon_spec (p := q_nx v a k m) ?_
  have h0 := hk.r0
  by_cases h : ∀ i : Int, 0 ≤ i → i < ((k 0).toNat : Int) → q_rs v a k i m ≠ 45
  · exact ⟨-1, Or.inr ⟨rfl, fun i g1 g2 => h i g1 (by omega)⟩⟩
  · obtain ⟨e, h1, h2, h3, h4⟩ := q_first (p := fun i => q_rs v a k i m ≠ 45) (k 0).toNat h
    exact ⟨e, Or.inl ⟨h1, by omega, Classical.not_not.mp h4, h3⟩⟩
theorem s_X11_next_f {L : Nat} {iv : Nat → Nat → Int} (m : Int) (hk : q_KR (iv 155)) (hm : 0 ≤ m ∧ m ≤ 1000) (hv : q_vl (iv 158)) (ha : q_al (iv 160)) : pz_R (pz_Sh L) 259 [.inr (.inl 154), .inl m] iv (.inl (some (.inl (q_nxt (iv 158) (iv 155) m (iv 160))))) iv :=
  s_X11_next m (q_nxt (iv 158) (iv 155) m (iv 160)) (q_nxt_ok hk) hk hm hv ha
/-- an event that can start has not started -/
theorem q_rs_45 {v a k : Nat → Int} {e m : Int} (h : q_rs v a k e m = 45) : a e.toNat = -1 := by
  by_cases h1 : a e.toNat ≠ -1
  · unfold q_rs at h
    rw [q_if_t h1] at h
    cases h
  · exact Classical.not_not.mp h1
/-- how many events have not started -/
noncomputable def q_un0 (a : Nat → Int) (n : Int) : Int := q_cnt (fun e => a e.toNat = -1) n
theorem q_cnt_up {a : Nat → Int} {e x : Int} (h0 : 0 ≤ e) (h1 : a e.toNat = -1) (hx : x ≠ -1) : ∀ n : Nat, q_cntN (fun i => pz_up a e.toNat x i.toNat = -1) n = q_cntN (fun i => a i.toNat = -1) n - (if e < n then 1 else 0)
  | 0 => by rw [if_neg (by omega)]; rfl
  | n + 1 => by
    show q_cntN (fun i => pz_up a e.toNat x i.toNat = -1) n + pz_bi (pz_up a e.toNat x (n : Int).toNat = -1) = q_cntN (fun i => a i.toNat = -1) n + pz_bi (a (n : Int).toNat = -1) - _
    rw [q_cnt_up h0 h1 hx n]
    by_cases hn : e = n
    · rw [if_neg (by omega), if_pos (by omega), pz_bi_0 (by rw [← hn, pz_up_eq]; exact hx), pz_bi_1 (by rw [← hn]; exact h1)]
      omega
    · rw [pz_up_ne (show (n : Int).toNat ≠ e.toNat by omega)]
      by_cases h2 : e < n
      · rw [if_pos h2, if_pos (by omega)]
        omega
      · rw [if_neg h2, if_neg (by omega)]
        omega
theorem q_un0_s {a : Nat → Int} {e x n : Int} (h0 : 0 ≤ e) (he : e < n) (h1 : a e.toNat = -1) (hx : x ≠ -1) : q_un0 (pz_up a e.toNat x) n = q_un0 a n - 1 := by
  unfold q_un0 q_cnt
  rw [q_cnt_up h0 h1 hx, if_pos (by omega)]
noncomputable def q_stp (v k : Nat → Int) (m : Int) (a : Nat → Int) : Nat → Int := q_if (q_nxt v k m a = -1) a (pz_up a (q_nxt v k m a).toNat m)
noncomputable def q_sts (v k : Nat → Int) (m n : Int) (a : Nat → Int) : Nat → Int := q_fr (fun _ a => q_stp v k m a) 0 n a
theorem q_sts_s {v k a b : Nat → Int} {m n : Int} (hn : 0 ≤ n) (hb : b = q_sts v k m n a) (he : q_nxt v k m b ≠ -1) : pz_up b (q_nxt v k m b).toNat m = q_sts v k m (n + 1) a := by
  unfold q_sts
  rw [q_fr_s hn]
  show _ = q_stp v k m (q_sts v k m n a)
  rw [← hb]
  unfold q_stp
  rw [q_if_f he]
theorem q_sts_e {v k a b : Nat → Int} {m n : Int} (hn : 0 ≤ n ∧ n ≤ 10) (hb : b = q_sts v k m n a) (he : q_nxt v k m b = -1) : b = q_sts v k m 10 a := by
  have key : ∀ d : Nat, b = q_sts v k m (n + d) a := by
    intro d
    induction d with
    | zero => rw [show n + ((0 : Nat) : Int) = n by omega]; exact hb
    | succ d ih =>
      rw [show n + ((d + 1 : Nat) : Int) = (n + (d : Int)) + 1 by omega]
      unfold q_sts
      rw [q_fr_s (by omega)]
      show _ = q_stp v k m (q_sts v k m (n + d) a)
      rw [← ih]
      unfold q_stp
      rw [q_if_t he]
  have h := key (10 - n).toNat
  rw [show n + ((10 - n).toNat : Int) = 10 by omega] at h
  exact h
noncomputable def q_enS (k : Nat → Int) (p m s : Int) (a : Nat → Int) : Nat → Int := q_if (a (k (212 + 4 * s + 1).toNat).toNat = -1 ∧ a (k (212 + 4 * s).toNat).toNat ≠ -1 ∧ m - a (k (212 + 4 * s).toNat).toNat = q_if (q_up p s) (k (212 + 4 * s + 3).toNat) (k (212 + 4 * s + 2).toNat)) (pz_up a (k (212 + 4 * s + 1).toNat).toNat m) a
noncomputable def q_mi (v k : Nat → Int) (p m : Int) (a : Nat → Int) : Nat → Int := q_sts v k m 10 (q_fr (q_enS k p m) 0 (k 2) a)
noncomputable def q_plS (v k : Nat → Int) (p m : Int) (a : Nat → Int) : Nat → Int := q_if (q_aa k a) a (q_mi v k p m a)
def q_a0 (a : Nat → Int) : Nat → Int := fun j => if j = 0 then 0 else if j < 10 then -1 else a j
noncomputable def q_pl (v k : Nat → Int) (p : Int) (a : Nat → Int) : Nat → Int := q_fr (q_plS v k p) 0 601 (q_a0 a)
theorem q_pl_e {v k a b : Nat → Int} {p m : Int} (hm : 0 ≤ m ∧ m ≤ 601) (hb : b = q_fr (q_plS v k p) 0 m a) (he : m = 601 ∨ q_aa k b) : b = q_fr (q_plS v k p) 0 601 a := by
  rcases he with rfl | he
  · exact hb
  have key : ∀ d : Nat, b = q_fr (q_plS v k p) 0 (m + d) a := by
    intro d
    induction d with
    | zero => rw [show m + ((0 : Nat) : Int) = m by omega]; exact hb
    | succ d ih =>
      rw [show m + ((d + 1 : Nat) : Int) = (m + (d : Int)) + 1 by omega, q_fr_s (by omega), ← ih]
      unfold q_plS
      rw [q_if_t he]
  have h := key (601 - m).toNat
  rw [show m + ((601 - m).toNat : Int) = 601 by omega] at h
  exact h
theorem q_al_up {a : Nat → Int} {e m : Int} (h : q_al a) (he : 0 ≤ e) (hm : 0 ≤ m ∧ m ≤ 600) : q_al (pz_up a e.toNat m) := by
  intro i h1 h2
  rw [pz_up_at]
  split
  · omega
  · exact h i h1 h2
theorem q_nxt_r {v k a : Nat → Int} {m : Int} (hk : q_KR k) (h : q_nxt v k m a ≠ -1) : 0 ≤ q_nxt v k m a ∧ q_nxt v k m a < k 0 ∧ a (q_nxt v k m a).toNat = -1 := by
  rcases q_nxt_ok (v := v) (a := a) (m := m) hk with ⟨h1, h2, h3, -⟩ | ⟨h1, -⟩
  · exact ⟨h1, h2, q_rs_45 h3⟩
  · exact absurd h1 h
