/-! what words had of contracts -/
theorem s_X11_reduces {L : Nat} {iv : Nat → Nat → Int} (hk : q_KR (iv 155)) : pz_R (pz_Sh L) 247 [.inr (.inl 154)] iv (.inl none) (pz_u1 (pz_u1 (pz_u1 (pz_u1 iv 154 (q_zw (iv 155) (iv 161) (iv 157) (iv 158) (iv 159) (iv 154))) 157 (q_zX (iv 155) (iv 161) (iv 157) (iv 158) (iv 159)).2.2) 158 (q_zX (iv 155) (iv 161) (iv 157) (iv 158) (iv 159)).1) 159 (q_zX (iv 155) (iv 161) (iv 157) (iv 158) (iv 159)).2.1) := by
  unfold q_zw q_zX
  by_cases h : q_con (iv 155) (iv 161)
  · rw [q_if_t h, q_if_t h]
    exact s_X11_reduces_m (q_m (iv 155) (q_x0 (iv 155) (iv 161) (iv 157) (iv 158) (iv 159))) q_m_ok (q_rB_ok hk h q_m_ok) hk h
  · rw [q_if_f h, q_if_f h]
    exact s_X11_reduces_n hk h
