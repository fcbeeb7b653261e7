/-! levelling by what the class keeps -/
def q_lvTk (k : Nat → Int) : Prop := k 1 ≠ 40 ∧ q_pk k (q_D k) ≠ -1 ∧ q_lv k (q_D k) ≠ -1
noncomputable def q_lvk1 (k : Nat → Int) : Nat → Int := q_if (q_lvTk k) (q_lvK k (q_D k)) k
noncomputable def q_lvk (n : Int) (k : Nat → Int) : Nat → Int := q_fr (fun _ => q_lvk1) 0 n k
theorem q_lvk_s {k f : Nat → Int} {n : Int} (hn : 0 ≤ n) (hs : f = q_lvk n k) (h : q_lvTk f) : q_lvK f (q_D f) = q_lvk (n + 1) k := by
  unfold q_lvk
  rw [q_fr_s hn]
  show _ = q_lvk1 (q_lvk n k)
  rw [← hs]
  unfold q_lvk1
  rw [q_if_t h]
theorem q_lvk_e {k f : Nat → Int} {n : Int} (hn : 0 ≤ n ∧ n ≤ 40) (hs : f = q_lvk n k) (h : ¬ q_lvTk f) : f = q_lvk 40 k := by
  have key : ∀ d9 : Nat, f = q_lvk (n + d9) k := by
    intro d9
    induction d9 with
    | zero => rw [show n + ((0 : Nat) : Int) = n by omega]; exact hs
    | succ d9 ih =>
      unfold q_lvk
      rw [show n + ((d9 + 1 : Nat) : Int) = n + (d9 : Int) + 1 by omega, q_fr_s (by omega)]
      show _ = q_lvk1 (q_lvk (n + d9) k)
      rw [← ih]
      unfold q_lvk1
      rw [q_if_f h]
  have h9 := key (40 - n).toNat
  rw [show n + ((40 - n).toNat : Int) = 40 by omega] at h9
  exact h9
theorem q_lvTk_T {k : Nat → Int} (hc : q_con k (fun _ => 0)) (h : q_lvTk k) : q_lvT k (fun _ => 0) (fun _ => 0) := ⟨hc, h.1, h.2.1, h.2.2⟩
/-- an order with a slack of 0 or more keeps the net consistent -/
theorem q_lv_con {k : Nat → Int} (hk : q_KR k) (hc : q_con k (fun _ => 0)) (h : q_lvTk k) : q_con (q_lvK k (q_D k)) (fun _ => 0) := sorry
theorem q_KR_lvk {k : Nat → Int} (hk : q_KR k) (hc : q_con k (fun _ => 0)) (h : q_lvTk k) : q_KR (q_lvK k (q_D k)) := q_KR_lv hk (q_lvTk_T hc h)
theorem q_lvK_ne {k d : Nat → Int} {j : Nat} (h : 0 ≤ k 1 ∧ k 1 ≤ 39) (hj : j ≠ 1 ∧ ¬ (52 ≤ j ∧ j < 212)) : q_lvK k d j = k j := by
  unfold q_lvK
  rw [q_tell_at h.1, if_neg hj.1, if_neg (by omega), if_neg (by omega), if_neg (by omega), if_neg (by omega)]
theorem q_lvK_1 {k d : Nat → Int} (h : 0 ≤ k 1) : q_lvK k d 1 = k 1 + 1 := by
  unfold q_lvK
  rw [q_tell_at h, if_pos rfl]
def q_ag (k f : Nat → Int) : Prop := ∀ j, j ≠ 1 ∧ ¬ (52 ≤ j ∧ j < 212) → f j = k j
theorem q_CI_of {k o n w d m V U j c : Nat → Int} (h : o 7 = 0 ∧ o 8 = 0 ∧ o 9 = 0) : q_CI k o n w d m V U j c := ⟨Or.inl h.1, Or.inl h.2.1, Or.inl h.2.2⟩
