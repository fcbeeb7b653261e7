/-! mathematics that is owed, seventeenth part: edges of ended spans follow from the starts -/
theorem m_eg_le {i j x : Int} {w : Nat → Int} (n : Nat) : q_eg w i j x n ≤ w n := by
  unfold q_eg
  rw [m_lw_at]
  split <;> omega
theorem m_drop {a b G L sa sb : Int} {w : Nat → Int} (ha : 0 ≤ a) (hab : a < b) (hb : b ≤ 9) (hz : m_dz w) (h1 : w (10 * a + 0).toNat ≤ -sa) (h2 : w (10 * 0 + a).toNat ≤ sa) (h3 : w (10 * b + 0).toNat ≤ -sb) (h4 : w (10 * 0 + b).toNat ≤ sb) (hs : -1000 ≤ sa ∧ sa ≤ 1000 ∧ -1000 ≤ sb ∧ sb ≤ 1000) (h0 : a = 0 → sa = 0) (hL : L ≤ sb - sa) (hG : sb - sa ≤ G) : q_ph 0 (q_eg (q_eg w a b G) b a (-L)) = q_ph 0 w := by
  have at_ : ∀ i j : Int, 0 ≤ i → i ≤ 9 → 0 ≤ j → j ≤ 9 → q_eg (q_eg w a b G) b a (-L) (10 * i + j).toNat = if i = a ∧ j = b then min (w (10 * i + j).toNat) G else if i = b ∧ j = a then min (w (10 * i + j).toNat) (-L) else w (10 * i + j).toNat := by
    intro i j i1 i2 j1 j2
    unfold q_eg
    rw [m_lw_at, m_lw_at]
    (repeat' split) <;> omega
  have z0 := hz 0 (by omega) (by omega)
  have e0 : q_eg (q_eg w a b G) b a (-L) (10 * (0 : Int) + 0).toNat = 0 := by
    rw [at_ 0 0 (by omega) (by omega) (by omega) (by omega), if_neg (by omega), if_neg (by omega)]
    exact z0
  rw [m_ph_eq (by omega) (by rw [e0]; omega), m_ph_eq (by omega) (by rw [z0]; omega)]
  by_cases g : a = 0
  · have sa0 := h0 g
    have ew : q_eg (q_eg w a b G) b a (-L) = w := by
      funext n
      by_cases hn : n < 100
      · have e : n = (10 * ((n / 10 : Nat) : Int) + ((n % 10 : Nat) : Int)).toNat := by omega
        rw [e, at_ _ _ (by omega) (by omega) (by omega) (by omega)]
        by_cases c1 : ((n / 10 : Nat) : Int) = a ∧ ((n % 10 : Nat) : Int) = b
        · rw [if_pos c1, c1.1, c1.2, g]
          omega
        · rw [if_neg c1]
          by_cases c2 : ((n / 10 : Nat) : Int) = b ∧ ((n % 10 : Nat) : Int) = a
          · rw [if_pos c2, c2.1, c2.2, g]
            omega
          · rw [if_neg c2]
      · unfold q_eg
        rw [m_lw_at, m_lw_at, if_neg (by omega), if_neg (by omega)]
    rw [ew]
  · funext n
    by_cases hn : n < 100
    · have e : n = (10 * ((n / 10 : Nat) : Int) + ((n % 10 : Nat) : Int)).toNat := by omega
      have hi : 0 ≤ ((n / 10 : Nat) : Int) ∧ ((n / 10 : Nat) : Int) ≤ 9 := by omega
      have hj : 0 ≤ ((n % 10 : Nat) : Int) ∧ ((n % 10 : Nat) : Int) ≤ 9 := by omega
      have go : ∀ i j : Int, 0 ≤ i ∧ i ≤ 9 → 0 ≤ j ∧ j ≤ 9 → m_sh 0 (q_eg (q_eg w a b G) b a (-L)) (10 * i + j).toNat = m_sh 0 w (10 * i + j).toNat := by
        intro i j hi hj
        rw [m_sh_at hi hj, m_sh_at hi hj, at_ i 0 hi.1 hi.2 (by omega) (by omega), at_ 0 j (by omega) (by omega) hj.1 hj.2, at_ i j hi.1 hi.2 hj.1 hj.2]
        rw [if_neg (show ¬ (i = a ∧ (0 : Int) = b) by omega), if_neg (show ¬ (i = b ∧ (0 : Int) = a) by omega), if_neg (show ¬ ((0 : Int) = a ∧ j = b) by omega), if_neg (show ¬ ((0 : Int) = b ∧ j = a) by omega)]
        by_cases c1 : i = a ∧ j = b
        · rw [if_pos c1, c1.1, c1.2]
          (repeat' split) <;> omega
        · rw [if_neg c1]
          by_cases c2 : i = b ∧ j = a
          · rw [if_pos c2, c2.1, c2.2]
            (repeat' split) <;> omega
          · rw [if_neg c2]
      rw [e]
      exact go _ _ hi hj
    · unfold m_sh
      rw [if_neg (fun q => hn q.1), if_neg (fun q => hn q.1)]
      unfold q_eg
      rw [m_lw_at, m_lw_at, if_neg (by omega), if_neg (by omega)]
/-- starts are laid: what is told of each event that has started -/
def m_sl (k w : Nat → Int) : Prop := ∀ e : Int, 0 ≤ e → e ≤ 9 → q_sta k e → w (10 * 0 + e).toNat ≤ k (6 + e).toNat ∧ w (10 * e + 0).toNat ≤ -(k (6 + e).toNat)
theorem m_sl_le {k w w' : Nat → Int} (h : m_sl k w) (hl : ∀ n, w' n ≤ w n) : m_sl k w' := by
  intro e e1 e2 e3
  have a := h e e1 e2 e3
  have b := hl (10 * 0 + e).toNat
  have c := hl (10 * e + 0).toNat
  omega
theorem m_sl_st {k w : Nat → Int} (hk : q_KR k) (hz : m_dz w) : m_sl k (q_fr (q_stE k) 1 (k 0) w) ∧ ∀ n, q_fr (q_stE k) 1 (k 0) w n ≤ w n := by
  have h0 := hk.r0
  have key := q_fr_ind (f := q_stE k) (a := 1) (n := k 0) (x := w) (fun i (u : Nat → Int) => (∀ e : Int, 1 ≤ e → e < i → e ≤ 9 → q_sta k e → u (10 * 0 + e).toNat ≤ k (6 + e).toNat ∧ u (10 * e + 0).toNat ≤ -(k (6 + e).toNat)) ∧ ∀ n, u n ≤ w n) (by omega) ⟨fun e e1 e2 => by omega, fun n => Int.le_refl _⟩ (by
    intro i u i1 i2 hu
    unfold q_stE
    by_cases g : q_sta k i
    · rw [q_if_t g]
      have l1 := fun n => m_eg_le (i := 0) (j := i) (x := k (6 + i).toNat) (w := u) n
      have l2 := fun n => m_eg_le (i := i) (j := 0) (x := -(k (6 + i).toNat)) (w := q_eg u 0 i (k (6 + i).toNat)) n
      refine ⟨?_, fun n => Int.le_trans (l2 n) (Int.le_trans (l1 n) (hu.2 n))⟩
      intro e e1 e2 e3 e4
      by_cases c : e = i
      · rw [c]
        unfold q_eg
        rw [m_lw_at, m_lw_at, m_lw_at, m_lw_at]
        (repeat' split) <;> omega
      · have a := hu.1 e e1 (by omega) e3 e4
        have b1 := l1 (10 * 0 + e).toNat
        have b2 := l2 (10 * 0 + e).toNat
        have b3 := l1 (10 * e + 0).toNat
        have b4 := l2 (10 * e + 0).toNat
        omega
    · rw [q_if_f g]
      refine ⟨?_, hu.2⟩
      intro e e1 e2 e3 e4
      by_cases c : e = i
      · rw [c] at e4; exact absurd e4 g
      · exact hu.1 e e1 (by omega) e3 e4)
  refine ⟨?_, key.2⟩
  intro e e1 e2 e3
  by_cases c : e = 0
  · have a := key.2 (10 * (0 : Int) + 0).toNat
    rw [hz 0 (by omega) (by omega)] at a
    rw [c]
    have k6 : k (6 + 0 : Int).toNat = 0 := h0.2.2.2.2.2.2.1
    rw [k6]
    omega
  · exact key.1 e (by omega) ((hk.st e1 e2).2 e3) e2 e3
