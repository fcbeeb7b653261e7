/-! mathematics that is owed, eighth part: an order that is told keeps what the row keeps, and the net consistent -/
theorem m_st_bit {k d : Nat → Int} {m : Int} : ∀ n : Nat, n ≤ 5 → ∀ l : Nat, l < 5 → pz_and (pz_shr (q_st k d m n) l) 1 ≠ 0 → l < n ∧ q_on k d l m := by
  have step : ∀ (n : Fin 5) (x : Fin 16) (l : Fin 5), x.val < 2 ^ n.val → (pz_and (pz_shr (((x.val + 2 ^ n.val : Nat)) : Int) ((l.val : Nat) : Int)) 1 ≠ 0 → (l.val = n.val ∨ pz_and (pz_shr ((x.val : Nat) : Int) ((l.val : Nat) : Int)) 1 ≠ 0)) ∧ (n.val ≤ l.val → pz_and (pz_shr ((x.val : Nat) : Int) ((l.val : Nat) : Int)) 1 = 0) := by decide +kernel
  intro n
  induction n with
  | zero =>
    intro _ l hl q
    have h := (step ⟨0, by omega⟩ ⟨0, by omega⟩ ⟨l, hl⟩ (by show 0 < 2 ^ 0; decide)).2 (Nat.zero_le _)
    exact absurd h q
  | succ n ih =>
    intro hn l hl q
    have hr := q_st_r (k := k) (d := d) (m := m) (n := n) (by omega) (by omega)
    have hp3 := q_p2_le (a := n) (b := 4) (by omega) (by omega)
    have h16 : q_p2 4 = 16 := rfl
    have hs : q_st k d m ((n + 1 : Nat) : Int) = q_st k d m n + q_if (q_on k d n m) (q_p2 n) 0 := by
      unfold q_st
      rw [show ((n + 1 : Nat) : Int) = (n : Int) + 1 by omega, q_sum_s (by omega)]
    rw [hs] at q
    have e1 : ((((q_st k d m n).toNat : Nat)) : Int) = q_st k d m n := Int.toNat_of_nonneg hr.1
    by_cases g : q_on k d n m
    · rw [q_if_t g] at q
      have st := step ⟨n, by omega⟩ ⟨(q_st k d m n).toNat, by omega⟩ ⟨l, hl⟩ (by
        show (q_st k d m n).toNat < 2 ^ n
        have h9 := hr.2
        unfold q_p2 at h9
        rw [Int.toNat_natCast] at h9
        omega)
      have e2 : q_st k d m n + q_p2 n = (((q_st k d m n).toNat + 2 ^ n : Nat) : Int) := by
        unfold q_p2
        rw [Int.toNat_natCast]
        omega
      rw [e2] at q
      rcases st.1 q with a | a
      · have a' : l = n := a
        rw [a']
        exact ⟨by omega, g⟩
      · simp only [e1] at a
        have b := ih (by omega) l hl a
        exact ⟨by omega, b.2⟩
    · rw [q_if_f g, Int.add_zero] at q
      have b := ih (by omega) l hl q
      exact ⟨by omega, b.2⟩
theorem m_lv_spec {k d : Nat → Int} (hk : q_KR k) (h : q_lv k d ≠ -1) : ∃ x y : Int, (0 ≤ x ∧ x < k 3) ∧ (0 ≤ y ∧ y < k 3) ∧ q_lv k d = 5 * x + y ∧ q_on k d x (q_pk k d) ∧ q_on k d y (q_pk k d) ∧ 0 ≤ d (10 * k (224 + 3 * x + 1).toNat + k (224 + 3 * y).toNat).toNat := by
  have h0 := hk.r0
  have key : (q_lvF k d (q_st k d (q_pk k d) (k 3)) (k 3)).2 = -1 ∨ (∃ x y : Int, (0 ≤ x ∧ x < k 3) ∧ (0 ≤ y ∧ y < k 3) ∧ (q_lvF k d (q_st k d (q_pk k d) (k 3)) (k 3)).2 = 5 * x + y ∧ pz_and (pz_shr (q_st k d (q_pk k d) (k 3)) x) 1 ≠ 0 ∧ pz_and (pz_shr (q_st k d (q_pk k d) (k 3)) y) 1 ≠ 0 ∧ 0 ≤ d (10 * k (224 + 3 * x + 1).toNat + k (224 + 3 * y).toNat).toNat) := by
    unfold q_lvF
    refine q_fr_ind (fun _ (s : Int × Int) => s.2 = -1 ∨ (∃ x y : Int, (0 ≤ x ∧ x < k 3) ∧ (0 ≤ y ∧ y < k 3) ∧ s.2 = 5 * x + y ∧ pz_and (pz_shr (q_st k d (q_pk k d) (k 3)) x) 1 ≠ 0 ∧ pz_and (pz_shr (q_st k d (q_pk k d) (k 3)) y) 1 ≠ 0 ∧ 0 ≤ d (10 * k (224 + 3 * x + 1).toNat + k (224 + 3 * y).toNat).toNat)) (by omega) (Or.inl rfl) ?_
    intro x s hx1 hx2 hs
    unfold q_lvX
    refine q_fr_ind (fun _ (s : Int × Int) => s.2 = -1 ∨ (∃ x y : Int, (0 ≤ x ∧ x < k 3) ∧ (0 ≤ y ∧ y < k 3) ∧ s.2 = 5 * x + y ∧ pz_and (pz_shr (q_st k d (q_pk k d) (k 3)) x) 1 ≠ 0 ∧ pz_and (pz_shr (q_st k d (q_pk k d) (k 3)) y) 1 ≠ 0 ∧ 0 ≤ d (10 * k (224 + 3 * x + 1).toNat + k (224 + 3 * y).toNat).toNat)) (by omega) hs ?_
    intro y s hy1 hy2 hs
    unfold q_lvS
    by_cases g : x ≠ y ∧ pz_and (pz_shr (q_st k d (q_pk k d) (k 3)) x) 1 ≠ 0 ∧ pz_and (pz_shr (q_st k d (q_pk k d) (k 3)) y) 1 ≠ 0 ∧ s.1 < q_sl k d x y ∧ 0 ≤ d (10 * k (224 + 3 * x + 1).toNat + k (224 + 3 * y).toNat).toNat
    · rw [q_if_t g]
      exact Or.inr ⟨x, y, ⟨hx1, hx2⟩, ⟨hy1, hy2⟩, rfl, g.2.1, g.2.2.1, g.2.2.2.2⟩
    · rw [q_if_f g]
      exact hs
  rcases key with e | ⟨x, y, hx, hy, e, bx, by_, dd⟩
  · exact absurd e h
  · have n5 : ((k 3).toNat : Int) = k 3 := Int.toNat_of_nonneg (by omega)
    have b1 := m_st_bit (k := k) (d := d) (m := q_pk k d) (k 3).toNat (by omega) x.toNat (by omega) (by rw [n5, Int.toNat_of_nonneg hx.1]; exact bx)
    have b2 := m_st_bit (k := k) (d := d) (m := q_pk k d) (k 3).toNat (by omega) y.toNat (by omega) (by rw [n5, Int.toNat_of_nonneg hy.1]; exact by_)
    rw [Int.toNat_of_nonneg hx.1] at b1
    rw [Int.toNat_of_nonneg hy.1] at b2
    exact ⟨x, y, hx, hy, e, b1.2, b2.2, dd⟩
theorem m_tell_ne {k : Nat → Int} {F T W B : Int} {j : Nat} (h : 0 ≤ k 1 ∧ k 1 ≤ 39) (hj : j ≠ 1 ∧ ¬ (52 ≤ j ∧ j < 212)) : q_tell k F T W B j = k j := by
  rw [q_tell_at h.1, if_neg hj.1, if_neg (by omega), if_neg (by omega), if_neg (by omega), if_neg (by omega)]
theorem m_tell_old {k : Nat → Int} {F T W B b : Int} {j : Nat} (h : 0 ≤ k 1) (hb : 0 ≤ b ∧ b < k 1) (hj : 52 + 4 * b ≤ j ∧ (j : Int) ≤ 52 + 4 * b + 3) : q_tell k F T W B j = k j := by
  rw [q_tell_at h, if_neg (by omega), if_neg (by omega), if_neg (by omega), if_neg (by omega), if_neg (by omega)]
theorem m_tell_new {k : Nat → Int} {F T W B : Int} (h : 0 ≤ k 1) : q_tell k F T W B 1 = k 1 + 1 ∧ q_tell k F T W B (52 + 4 * k 1).toNat = F ∧ q_tell k F T W B (52 + 4 * k 1 + 1).toNat = T ∧ q_tell k F T W B (52 + 4 * k 1 + 2).toNat = W ∧ q_tell k F T W B (52 + 4 * k 1 + 3).toNat = B := by
  refine ⟨?_, ?_, ?_, ?_, ?_⟩
  · rw [q_tell_at h, if_pos rfl]
  · rw [q_tell_at h, if_neg (by omega), if_neg (by omega), if_neg (by omega), if_neg (by omega), if_pos (by omega)]
  · rw [q_tell_at h, if_neg (by omega), if_neg (by omega), if_neg (by omega), if_pos (by omega)]
  · rw [q_tell_at h, if_neg (by omega), if_neg (by omega), if_pos (by omega)]
  · rw [q_tell_at h, if_neg (by omega), if_pos (by omega)]
/-- a bound that may be told keeps what the row keeps -/
theorem m_KR_tell {k : Nat → Int} {F T W B : Int} (hk : q_KR k) (h1 : k 1 ≠ 40) (hF : 0 ≤ F ∧ F < k 0) (hT : 0 ≤ T ∧ T < k 0) (hne : F ≠ T) (hW : -500 ≤ W ∧ W ≤ 500) (hB : -4 ≤ B ∧ B ≤ 4) : q_KR (q_tell k F T W B) := by
  have h0 := hk.r0
  have n := m_tell_new (k := k) (F := F) (T := T) (W := W) (B := B) (by omega)
  refine m_KR_ag hk (fun j hj => m_tell_ne (by omega) ⟨hj.1, hj.2.2⟩) (by rw [n.1]; omega) ?_ ?_
  · intro l l1 l2
    rw [m_tell_ne (by omega) (by omega)]
    exact hk.lb (by omega) l2
  · intro b b1 b2
    rw [n.1] at b2
    by_cases g : b = k 1
    · rw [g, n.2.1, n.2.2.1, n.2.2.2.1, n.2.2.2.2]
      exact ⟨hF, hT, hne, hW, Or.inl hB⟩
    · have hb := hk.bd b1 (by omega)
      rw [m_tell_old (b := b) (by omega) (by omega) (by omega), m_tell_old (b := b) (by omega) (by omega) (by omega), m_tell_old (b := b) (by omega) (by omega) (by omega), m_tell_old (b := b) (by omega) (by omega) (by omega)]
      exact hb
theorem m_KR_lv {k lf g : Nat → Int} (hk : q_KR k) (h : q_lvT k lf g) : q_KR (q_lvK k (q_dd k lf g)) := by
  have h0 := hk.r0
  obtain ⟨x, y, hx, hy, e, ox, oy, dd⟩ := m_lv_spec hk h.2.2.2
  have ax := hk.ac hx.1 hx.2
  have ay := hk.ac hy.1 hy.2
  unfold q_lvK
  rw [e, show (5 * x + y) % 5 = y by omega, show (5 * x + y) / 5 = x by omega]
  refine m_KR_tell hk h.2.1 ay.1 ax.2.1 ?_ (by omega) (by omega)
  intro q
  have a := ox.2
  have b := oy.1
  rw [q] at b
  omega
