/-! mathematics that is owed, sixteenth part: soundness with greater weights -/
theorem m_ps_le2 {w : Nat → Int} : ∀ c : Nat, (c : Int) ≤ 10 → (∀ c' : Int, 0 ≤ c' → c' < c → q_dg (q_ps c' w)) → ∀ n : Nat, q_ps c w n ≤ w n := by
  intro c
  induction c with
  | zero =>
    intro _ _ n
    rw [show q_ps ((0 : Nat) : Int) w = w from q_fr_0 (by omega)]
    exact Int.le_refl _
  | succ c ih =>
    intro hc hd n
    have hdc := hd c (by omega) (by omega) c (by omega) (by omega)
    rw [show (11 * (c : Int)).toNat = (10 * (c : Int) + c).toNat by omega] at hdc
    rw [show ((c + 1 : Nat) : Int) = (c : Int) + 1 by omega, q_ps_s (by omega), m_ph_eq (by omega) hdc]
    exact Int.le_trans (m_sh_le n) (ih (by omega) (fun c' g1 g2 => hd c' g1 (by omega)) n)
theorem m_okc_c2 {z : Int} {w r : Nat → Int} (hz : 1 ≤ z ∧ z ≤ 10) (h : m_R2 z w r) {c : Int} (hc : 0 ≤ c ∧ c ≤ z) (hd : ∀ c' : Int, 0 ≤ c' → c' < c → q_dg (q_ps c' w)) : q_okc z (q_cI z c r) ↔ q_dg (q_ps c w) := by
  have p9 : q_p2 9 = 512 := rfl
  by_cases g : c ≤ 9
  · have m := m_chain2 hz h c.toNat (by omega) (fun c' g1 g2 => hd c' g1 (by omega))
    rw [Int.toNat_of_nonneg hc.1] at m
    have p2 := q_p2_le (a := c) (b := 9) (by omega) (by omega)
    exact m_okc_dg hz.2 (m.2.2 hc.2).1 m.1 (m_wb_le (by omega) m.2.1)
  · have m := m_chain2 hz h 9 (by omega) (fun c' g1 g2 => hd c' g1 (by omega))
    have e9 : ((9 : Nat) : Int) = 9 := rfl
    rw [e9] at m
    have d9 := hd 9 (by omega) (by omega) 9 (by omega) (by omega)
    have l9 := m_ps_le2 (w := w) 9 (by omega) (fun c' g1 g2 => hd c' g1 (by omega))
    rw [e9] at l9
    have e1 : q_ps c w = m_sh 9 (q_ps 9 w) := by
      rw [show c = 9 + 1 by omega, q_ps_s (by omega), m_ph_eq (by omega) d9]
    have e2 : q_cI z c r = q_cs z 9 (q_cI z 9 r) := by
      rw [show c = 9 + 1 by omega, q_cI_s (by omega)]
    rw [e1, e2]
    refine m_dg_last hz (M := 1100 * q_p2 9) (by omega) (by omega) (m.2.2 (by omega)).1 m.1 m.2.1 ?_
    intro i i1 i2
    have a := l9 (10 * i + i).toNat
    rw [h.2.2.2.1 i i1 i2] at a
    exact a
theorem m_R2_cp {z : Int} {w r u : Nat → Int} (hz : z ≤ 10) (h : m_R2 z w r) : m_R2 z w (q_cp 100 r u) := by
  obtain ⟨h1, h2, h3, h4, h5⟩ := h
  refine ⟨?_, h2, h3, h4, ?_⟩
  · intro i j i1 i2 j1 j2
    rw [q_cp_full (by omega)]
    exact h1 i j i1 i2 j1 j2
  · intro i j i1 i2 j1 j2 c
    rw [q_cp_full (by omega)]
    exact h5 i j i1 i2 j1 j2 c
theorem m_okc_all2 {z : Int} {w r : Nat → Int} (hz : 1 ≤ z ∧ z ≤ 10) (h : m_R2 z w r) {m : Int} (hm : m ≤ z) (hk : ∀ c : Int, 0 ≤ c → c ≤ m → q_okc z (q_cI z c r)) : ∀ c : Int, 0 ≤ c → c ≤ m → q_dg (q_ps c w) := by
  have key : ∀ n : Nat, (n : Int) ≤ m → q_dg (q_ps n w) := by
    intro n
    induction n using Nat.strongRecOn with
    | _ n ih =>
      intro hn
      exact (m_okc_c2 hz h (c := n) (by omega) (fun c' g1 g2 => by
        have := ih c'.toNat (by omega) (by omega)
        rw [Int.toNat_of_nonneg g1] at this
        exact this)).mp (hk n (by omega) hn)
  intro c h1 h2
  have := key c.toNat (by omega)
  rw [Int.toNat_of_nonneg h1] at this
  exact this
theorem m_dg_up2 {z : Int} {w r : Nat → Int} (hz : 1 ≤ z ∧ z ≤ 9) (h : m_R2 z w r) (hk : ∀ c : Int, 0 ≤ c → c ≤ z → q_dg (q_ps c w)) : ∀ d : Nat, z + d ≤ 10 → q_ps (z + d) w = q_ps z w := by
  have m := m_chain2 (by omega) h z.toNat (by omega) (fun c' g1 g2 => hk c' g1 (by omega))
  rw [Int.toNat_of_nonneg (by omega)] at m
  intro d
  induction d with
  | zero => intro _; rw [show z + ((0 : Nat) : Int) = z by omega]
  | succ d ih =>
    intro hd
    have ih1 := ih (by omega)
    have hz0 := m.1 (z + d) (z + d) (by omega) (by omega) (by omega) (by omega) (by omega)
    rw [if_pos rfl] at hz0
    rw [show z + ((d + 1 : Nat) : Int) = z + (d : Int) + 1 by omega, q_ps_s (by omega), ih1, m_ph_eq (by omega) (by omega), m_sh_id ⟨by omega, by omega, by omega⟩ m.1]
theorem m_dg02 {z : Int} {w r : Nat → Int} (h : m_R2 z w r) : q_dg (q_ps 0 w) := by
  rw [show q_ps 0 w = w from q_fr_0 (by omega)]
  intro i i1 i2
  rw [show (11 * i).toNat = (10 * i + i).toNat by omega, h.2.2.2.1 i i1 (by omega)]
  omega
theorem m_snd_ok2 {z : Int} {w W u : Nat → Int} (hz : 1 ≤ z ∧ z ≤ 10) (h0 : m_R2 z w W) : q_snd z W u ↔ q_ok w := by
  have h := m_R2_cp (u := u) hz.2 h0
  have hs := q_cz_ok (z := z) (r := q_cp 100 W u) (by omega)
  unfold q_snd
  constructor
  · intro q
    have e : q_cz z (q_cp 100 W u) = z := by
      rcases hs.2.2.2 with g | g
      · exact g
      · exact absurd q g
    have hk : ∀ c : Int, 0 ≤ c → c ≤ z → q_okc z (q_cI z c (q_cp 100 W u)) := by
      intro c c1 c2
      by_cases g : c = z
      · rw [g, ← e]; rw [e] at q ⊢; exact q
      · exact hs.2.2.1 c c1 (by omega)
    have hd := m_okc_all2 hz h (Int.le_refl z) hk
    intro c c1 c2
    by_cases g : c + 1 ≤ z
    · exact hd (c + 1) (by omega) g
    · have hu := m_dg_up2 (by omega) h hd (c + 1 - z).toNat (by omega)
      rw [show z + (((c + 1 - z).toNat : Nat) : Int) = c + 1 by omega] at hu
      rw [hu]
      exact hd z (by omega) (Int.le_refl z)
  · intro q
    have hd : ∀ c : Int, 0 ≤ c → c ≤ 10 → q_dg (q_ps c w) := by
      intro c h1 h2
      by_cases g : c = 0
      · rw [g]; exact m_dg02 h
      · have := q (c - 1) (by omega) (by omega)
        rw [show c - 1 + 1 = c by omega] at this
        exact this
    have hk : ∀ c : Int, 0 ≤ c → c ≤ z → q_okc z (q_cI z c (q_cp 100 W u)) := fun c c1 c2 => (m_okc_c2 hz h ⟨c1, c2⟩ (fun c' g1 g2 => hd c' g1 (by omega))).mpr (hd c c1 (by omega))
    exact hk _ hs.1 hs.2.1
theorem m_cw2 {z : Int} {w W u : Nat → Int} (hz : 1 ≤ z ∧ z ≤ 10) (h0 : m_R2 z w W) : q_cw z (q_cp 100 W u) := by
  have h := m_R2_cp (u := u) hz.2 h0
  intro c c1 c2 hk
  have hd := m_okc_all2 hz h (m := c) (by omega) hk
  have m := m_chain2 hz h c.toNat (by omega) (fun c' g1 g2 => hd c' g1 (by omega))
  rw [Int.toNat_of_nonneg c1] at m
  have p2 := q_p2_le (a := c) (b := 9) (by omega) (by omega)
  have p9 : q_p2 9 = 512 := rfl
  obtain ⟨t1, t2⟩ := m.2.2 (by omega)
  intro n hn
  have e : n = (10 * ((n / 10 : Nat) : Int) + ((n % 10 : Nat) : Int)).toNat := by omega
  by_cases g : ((n / 10 : Nat) : Int) < z ∧ ((n % 10 : Nat) : Int) < z
  · have a := t1 ((n / 10 : Nat) : Int) ((n % 10 : Nat) : Int) (by omega) g.1 (by omega) g.2
    rw [← e] at a
    have b := m.2.1 n hn
    have v := q_N_v (x := q_ps c w n) (by omega)
    rw [a]
    exact v.2.2
  · have a := t2 ((n / 10 : Nat) : Int) ((n % 10 : Nat) : Int) (by omega) (by omega) (by omega) (by omega) (by omega)
    rw [← e] at a
    rw [a]
    omega
