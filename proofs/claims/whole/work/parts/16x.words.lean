/-! the reductions as a whole -/
noncomputable def q_x0 (k lf g v a : Nat → Int) : q_X := (q_vi k (q_dd k lf g) v, a, q_dd k lf g)
noncomputable def q_m (k : Nat → Int) (x : q_X) : Int := Classical.epsilon (q_last k x)
theorem q_m_ok {k : Nat → Int} {x : q_X} : q_last k x (q_m k x) := by
  refine Classical.epsilon_spec (p := q_last k x) ?_
  by_cases h : ∀ i : Int, 0 ≤ i → i < (59 : Nat) → (q_fi k (q_rx k i x) ∧ q_ha k (q_rx k i x))
  · exact ⟨59, ⟨by omega, by omega⟩, fun i h1 h2 => h i h1 h2, fun q => by omega⟩
  · obtain ⟨m, h1, h2, h3, h4⟩ := q_first 59 h
    exact ⟨m, ⟨h1, by omega⟩, h3, fun q => h4 ⟨q.1, q.2.1⟩⟩
noncomputable def q_zX (k lf g v a : Nat → Int) : q_X := q_if (q_con k lf) (q_rx k (q_m k (q_x0 k lf g v a) + 1) (q_x0 k lf g v a)) (q_v0 (q_dd k lf g) v, a, q_dd k lf g)
noncomputable def q_zw (k lf g v a w : Nat → Int) : Nat → Int := q_if (q_con k lf) (q_rf k (q_x0 k lf g v a) (q_m k (q_x0 k lf g v a)) w) (pz_up (pz_up w 8 0) 7 (pz_bi (q_con k lf)))
def q_seen (k lf g v a : Nat → Int) : Prop := q_con k lf ∧ q_fi k (q_rx k (q_m k (q_x0 k lf g v a)) (q_x0 k lf g v a)) ∧ ¬ (q_ha k (q_rx k (q_m k (q_x0 k lf g v a)) (q_x0 k lf g v a)) ∧ q_m k (q_x0 k lf g v a) = 59)
noncomputable def q_rds (k lf g v a : Nat → Int) : Int := q_if (q_con k lf) (q_m k (q_x0 k lf g v a) + pz_bi (q_ha k (q_rx k (q_m k (q_x0 k lf g v a)) (q_x0 k lf g v a)))) 0
theorem q_zw_7 {k lf g v a w : Nat → Int} : q_zw k lf g v a w 7 = pz_bi (q_seen k lf g v a) := by
  unfold q_zw
  by_cases h : q_con k lf
  · rw [q_if_t h]
    unfold q_rf
    rw [pz_up_eq]
    exact pz_bi_iff ⟨fun q => ⟨h, q⟩, fun q => q.2⟩
  · rw [q_if_f h, pz_up_eq]
    exact pz_bi_iff ⟨fun q => absurd q h, fun q => q.1⟩
theorem q_zw_8 {k lf g v a w : Nat → Int} : q_zw k lf g v a w 8 = q_rds k lf g v a := by
  unfold q_zw q_rds
  by_cases h : q_con k lf
  · rw [q_if_t h, q_if_t h]
    unfold q_rf
    rw [pz_up_ne (by decide), pz_up_eq]
  · rw [q_if_f h, q_if_f h, pz_up_ne (by decide), pz_up_eq]
theorem q_rB_ok {k lf g v a : Nat → Int} {m : Int} (h : q_KR k) (hc : q_con k lf) (hl : q_last k (q_x0 k lf g v a) m) : q_rB k (q_x0 k lf g v a) m := sorry
theorem q_zv_r {k lf g v a : Nat → Int} (h : q_KR k) (hc : q_seen k lf g v a) : q_vb (q_zX k lf g v a).1 := sorry
theorem s_X11_reduces {L : Nat} {iv : Nat → Nat → Int} (hk : q_KR (iv 155)) : pz_R (pz_Sh L) 247 [.inr (.inl 154)] iv (.inl none) (pz_u1 (pz_u1 (pz_u1 (pz_u1 iv 154 (q_zw (iv 155) (iv 161) (iv 157) (iv 158) (iv 159) (iv 154))) 157 (q_zX (iv 155) (iv 161) (iv 157) (iv 158) (iv 159)).2.2) 158 (q_zX (iv 155) (iv 161) (iv 157) (iv 158) (iv 159)).1) 159 (q_zX (iv 155) (iv 161) (iv 157) (iv 158) (iv 159)).2.1) := by
  unfold q_zw q_zX
  by_cases h : q_con (iv 155) (iv 161)
  · rw [q_if_t h, q_if_t h]
    exact s_X11_reduces_m (q_m (iv 155) (q_x0 (iv 155) (iv 161) (iv 157) (iv 158) (iv 159))) q_m_ok (q_rB_ok hk h q_m_ok) hk h
  · rw [q_if_f h, q_if_f h]
    exact s_X11_reduces_n hk h
