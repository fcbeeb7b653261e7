/-! starts taken over; what is asked when the plan is seen -/
def q_ts (k a : Nat → Int) : Nat → Int := fun j => if j < 10 then k (6 + j) else a j
theorem q_ts_al {k a : Nat → Int} (h : q_KR k) : q_al (q_ts k a) := by
  intro e h1 h2
  have h3 := h.st h1 h2
  unfold q_ts
  rw [if_pos (by omega), show 6 + e.toNat = (6 + e).toNat by omega]
  exact h3.1
theorem q_zv_l {k lf g v a : Nat → Int} (h : q_KR k) (hc : q_seen k lf g v a) : q_vl (q_zX k lf g v a).1 := fun j hj => (q_zv_r h hc j hj).1
theorem q_ts_e {k a : Nat → Int} {e : Int} (h1 : 0 ≤ e) (h2 : e ≤ 9) : q_ts k a e.toNat = k (6 + e).toNat := by
  unfold q_ts
  rw [if_pos (by omega), show 6 + e.toNat = (6 + e).toNat by omega]
theorem q_rs_r {v a k : Nat → Int} {e m : Int} : 45 ≤ q_rs v a k e m ∧ q_rs v a k e m ≤ 119 := by
  have key : ∀ (p : Prop) (x y : Int), (45 ≤ x ∧ x ≤ 119) → (45 ≤ y ∧ y ≤ 119) → (45 ≤ q_if p x y ∧ q_if p x y ≤ 119) := by
    intro p x y hx hy
    by_cases h : p
    · rw [q_if_t h]; exact hx
    · rw [q_if_f h]; exact hy
  unfold q_rs
  exact key _ _ _ (by omega) (key _ _ _ (by omega) (key _ _ _ (by omega) (key _ _ _ (by omega) (key _ _ _ (by omega) (key _ _ _ (by omega) (by omega))))))
