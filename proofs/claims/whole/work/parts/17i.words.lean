theorem q_fl_r {v k a : Nat → Int} {p : Int} : q_fl v k p a = 45 ∨ q_fl v k p a = 98 ∨ q_fl v k p a = 109 := by
  unfold q_fl
  by_cases h1 : q_aa k (q_pl v k p a)
  · rw [q_if_t h1]
    by_cases h2 : q_all (q_kpP k (q_pl v k p a)) (k 1)
    · rw [q_if_t h2]; omega
    · rw [q_if_f h2]; omega
  · rw [q_if_f h1]; omega
