/-! what words had of contracts -/
theorem s_X11_next_f {L : Nat} {iv : Nat → Nat → Int} (m : Int) (hk : q_KR (iv 155)) (hm : 0 ≤ m ∧ m ≤ 1000) (hv : q_vl (iv 158)) (ha : q_al (iv 160)) : pz_R (pz_Sh L) 259 [.inr (.inl 154), .inl m] iv (.inl (some (.inl (q_nxt (iv 158) (iv 155) m (iv 160))))) iv :=
  s_X11_next m (q_nxt (iv 158) (iv 155) m (iv 160)) (q_nxt_ok hk) hk hm hv ha
