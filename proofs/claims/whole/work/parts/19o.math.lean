/-! mathematics that is owed, fifteenth part: closing in lockstep where weights are greater: the last phase tells by its diagonal alone -/
def m_R2 (z : Int) (w r : Nat → Int) : Prop := m_T z w r ∧ m_O z w ∧ m_wb 1100 w ∧ m_dz w ∧ m_OC z r
theorem m_chain2 {z : Int} {w r : Nat → Int} (hz : 1 ≤ z ∧ z ≤ 10) (h : m_R2 z w r) : ∀ c : Nat, (c : Int) ≤ 9 → (∀ c' : Int, 0 ≤ c' → c' < c → q_dg (q_ps c' w)) → m_O z (q_ps c w) ∧ m_wb (1100 * q_p2 c) (q_ps c w) ∧ ((c : Int) ≤ z → m_T z (q_ps c w) (q_cI z c r) ∧ m_OC z (q_cI z c r)) := by
  intro c
  induction c with
  | zero =>
    intro _ _
    have e1 : q_ps ((0 : Nat) : Int) w = w := q_fr_0 (by omega)
    have e2 : q_cI z ((0 : Nat) : Int) r = r := q_fr_0 (by omega)
    rw [e1, e2]
    refine ⟨h.2.1, ?_, fun _ => ⟨h.1, h.2.2.2.2⟩⟩
    have := h.2.2.1
    rw [show q_p2 ((0 : Nat) : Int) = 1 from rfl]
    exact this
  | succ c ih =>
    intro hc hd
    have ih1 := ih (by omega) (fun c' g1 g2 => hd c' g1 (by omega))
    have hdc := hd c (by omega) (by omega) c (by omega) (by omega)
    rw [show (11 * (c : Int)).toNat = (10 * (c : Int) + c).toNat by omega] at hdc
    have e1 : q_ps ((c + 1 : Nat) : Int) w = m_sh c (q_ps c w) := by
      rw [show ((c + 1 : Nat) : Int) = (c : Int) + 1 by omega, q_ps_s (by omega), m_ph_eq (by omega) hdc]
    have p1 := q_p2_s (a := c) (by omega)
    have p2 := q_p2_le (a := c) (b := 8) (by omega) (by omega)
    have p3 : q_p2 8 = 256 := rfl
    have p4 : 1 ≤ q_p2 c := by
      have := q_p2_le (a := 0) (b := c) (by omega) (by omega)
      have e0 : q_p2 0 = 1 := rfl
      omega
    rw [e1, show ((c + 1 : Nat) : Int) = (c : Int) + 1 by omega, p1]
    by_cases g : (c : Int) < z
    · obtain ⟨t1, t2⟩ := ih1.2.2 (by omega)
      have s := m_T_sh (M := 1100 * q_p2 c) hz.2 (by omega) ⟨by omega, g⟩ t1 ih1.1 ih1.2.1
      refine ⟨s.2.1, ?_, fun _ => ⟨?_, ?_⟩⟩
      · rw [show 1100 * (2 * q_p2 c) = 2 * (1100 * q_p2 c) by omega]; exact s.2.2
      · rw [q_cI_s (by omega)]; exact s.1
      · rw [q_cI_s (by omega)]
        intro i j i1 i2 j1 j2 e
        rw [q_cs_n i1 (by omega) (fun q => by omega)]
        exact t2 i j i1 i2 j1 j2 e
    · rw [m_sh_id ⟨by omega, by omega, by omega⟩ ih1.1]
      refine ⟨ih1.1, ?_, fun q => by omega⟩
      intro n hn
      have := ih1.2.1 n hn
      omega
/-- the diagonal behind a phase: the same on both sides, whatever the sums off it -/
theorem m_dg_last {z c M : Int} {w r : Nat → Int} (hz : 1 ≤ z ∧ z ≤ 10) (hM : 0 ≤ M ∧ M < 1000000) (hc : 0 ≤ c ∧ c < z) (h1 : m_T z w r) (h2 : m_O z w) (h3 : m_wb M w) (hn : ∀ i : Int, 0 ≤ i → i ≤ 9 → w (10 * i + i).toNat ≤ 0) : q_okc z (q_cs z c r) ↔ q_dg (m_sh c w) := by
  have key : ∀ i : Int, 0 ≤ i → i < z → (0 ≤ q_cs z c r (10 * i + i).toNat ↔ 0 ≤ m_sh c w (10 * i + i).toNat) := by
    intro i i1 i2
    have a1 := h1 i c i1 i2 hc.1 hc.2
    have a2 := h1 c i hc.1 hc.2 i1 i2
    have a3 := h1 i i i1 i2 i1 i2
    have b1 := h3 (10 * i + c).toNat (by omega)
    have b2 := h3 (10 * c + i).toNat (by omega)
    have b3 := h3 (10 * i + i).toNat (by omega)
    have d3 := hn i i1 (by omega)
    have n1 := q_N_v (x := w (10 * i + c).toNat) (by omega)
    have n2 := q_N_v (x := w (10 * c + i).toNat) (by omega)
    have n3 := q_N_v (x := w (10 * i + i).toNat) (by omega)
    rw [m_sh_at (by omega) (by omega)]
    by_cases g : w (10 * i + c).toNat < 1000000 ∧ w (10 * c + i).toNat < 1000000 ∧ w (10 * i + c).toNat + w (10 * c + i).toNat < w (10 * i + i).toNat
    · rw [if_pos g]
      have e1 : r (10 * i + c).toNat = w (10 * i + c).toNat := by omega
      have e2 : r (10 * c + i).toNat = w (10 * c + i).toNat := by omega
      rw [q_cs_y hz.2 ⟨i1, i2⟩ ⟨i1, i2⟩ (by omega), e1, e2]
    · rw [if_neg g, q_cs_n i1 (by omega) (by omega), a3, n3.2.1 (by omega)]
  constructor
  · intro q i i1 i2
    rw [show (11 * i).toNat = (10 * i + i).toNat by omega]
    by_cases g : i < z
    · exact (key i i1 g).mp (q i i1 g)
    · have o := h2 i i i1 (by omega) i1 (by omega) (by omega)
      rw [if_pos rfl] at o
      have oc := h2 i c i1 (by omega) hc.1 (by omega) (by omega)
      rw [if_neg (by omega)] at oc
      rw [m_sh_at (by omega) (by omega), if_neg (by omega), o]
      omega
  · intro q i i1 i2
    have a := q i i1 (by omega)
    rw [show (11 * i).toNat = (10 * i + i).toNat by omega] at a
    exact (key i i1 i2).mpr a
