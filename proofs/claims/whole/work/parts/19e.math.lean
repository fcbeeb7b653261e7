/-! mathematics that is owed, fifth part: distances are closed; potentials -/
def m_tri (c : Int) (w : Nat → Int) : Prop := ∀ i j v : Int, 0 ≤ i → i ≤ 9 → 0 ≤ j → j ≤ 9 → 0 ≤ v → v < c → w (10 * i + v).toNat < 1000000 → w (10 * v + j).toNat < 1000000 → w (10 * i + j).toNat ≤ w (10 * i + v).toNat + w (10 * v + j).toNat
theorem m_sh_le2 {c i j : Int} {f : Nat → Int} (hi : 0 ≤ i ∧ i ≤ 9) (hj : 0 ≤ j ∧ j ≤ 9) (h1 : f (10 * i + c).toNat < 1000000) (h2 : f (10 * c + j).toNat < 1000000) : m_sh c f (10 * i + j).toNat ≤ f (10 * i + c).toNat + f (10 * c + j).toNat := by
  rw [m_sh_at hi hj]
  split <;> omega
theorem m_tri_sh {c M : Int} {w : Nat → Int} (hM : 0 ≤ M ∧ 2 * M < 1000000) (hc : 0 ≤ c ∧ c ≤ 9) (hd : 0 ≤ w (10 * c + c).toNat) (h3 : m_wb M w) (ht : m_tri c w) : m_tri (c + 1) (m_sh c w) := by
  have hcol : ∀ i : Int, 0 ≤ i → i ≤ 9 → m_sh c w (10 * i + c).toNat = w (10 * i + c).toNat := by
    intro i h1 h2
    rw [m_sh_at ⟨h1, h2⟩ hc, if_neg (by omega)]
  have hrow : ∀ j : Int, 0 ≤ j → j ≤ 9 → m_sh c w (10 * c + j).toNat = w (10 * c + j).toNat := by
    intro j h1 h2
    rw [m_sh_at hc ⟨h1, h2⟩, if_neg (by omega)]
  intro i j v i1 i2 j1 j2 v1 v2 f1 f2
  by_cases g : v = c
  · rw [g, hcol i i1 i2] at f1 ⊢
    rw [g, hrow j j1 j2] at f2
    rw [hrow j j1 j2]
    exact m_sh_le2 ⟨i1, i2⟩ ⟨j1, j2⟩ f1 f2
  · have v3 : v < c := by omega
    have b1 := h3 (10 * i + v).toNat (by omega)
    have b2 := h3 (10 * v + j).toNat (by omega)
    have b3 := h3 (10 * c + v).toNat (by omega)
    have b4 := h3 (10 * v + c).toNat (by omega)
    have b5 := h3 (10 * i + c).toNat (by omega)
    have b6 := h3 (10 * c + j).toNat (by omega)
    have t1 := ht i j v i1 i2 j1 j2 v1 v3
    have t2 := ht c j v hc.1 hc.2 j1 j2 v1 v3
    have t3 := ht i c v i1 i2 hc.1 hc.2 v1 v3
    have t4 := ht c c v hc.1 hc.2 hc.1 hc.2 v1 v3
    have l0 := m_sh_le (c := c) (f := w) (10 * i + j).toNat
    have l1 := m_sh_le2 (c := c) (f := w) ⟨i1, i2⟩ ⟨j1, j2⟩
    have e1 := m_sh_at (c := c) (f := w) (i := i) (j := v) ⟨i1, i2⟩ ⟨v1, by omega⟩
    have e2 := m_sh_at (c := c) (f := w) (i := v) (j := j) ⟨v1, by omega⟩ ⟨j1, j2⟩
    by_cases a1 : w (10 * i + c).toNat < 1000000 ∧ w (10 * c + v).toNat < 1000000 ∧ w (10 * i + c).toNat + w (10 * c + v).toNat < w (10 * i + v).toNat
    · rw [if_pos a1] at e1
      by_cases a2 : w (10 * v + c).toNat < 1000000 ∧ w (10 * c + j).toNat < 1000000 ∧ w (10 * v + c).toNat + w (10 * c + j).toNat < w (10 * v + j).toNat
      · rw [if_pos a2] at e2
        have t5 := t4 a1.2.1 a2.1
        have l2 := l1 a1.1 a2.2.1
        omega
      · rw [if_neg a2] at e2
        have f3 : w (10 * v + j).toNat < 1000000 := by omega
        have t5 := t2 a1.2.1 f3
        have l2 := l1 a1.1 (by omega)
        omega
    · rw [if_neg a1] at e1
      have f3 : w (10 * i + v).toNat < 1000000 := by omega
      by_cases a2 : w (10 * v + c).toNat < 1000000 ∧ w (10 * c + j).toNat < 1000000 ∧ w (10 * v + c).toNat + w (10 * c + j).toNat < w (10 * v + j).toNat
      · rw [if_pos a2] at e2
        have t5 := t3 f3 a2.1
        have l2 := l1 (by omega) a2.2.1
        omega
      · rw [if_neg a2] at e2
        have t5 := t1 f3 (by omega)
        omega
theorem m_tri_all {z : Int} {w r : Nat → Int} (hz : 1 ≤ z ∧ z ≤ 10) (h : m_R z 600 w r) (hk : q_ok w) : ∀ c : Nat, (c : Int) ≤ 10 → m_tri c (q_ps c w) := by
  have hd := m_ok_all h hk
  intro c
  induction c with
  | zero => intro _ i j v _ _ _ _ v1 v2; omega
  | succ c ih =>
    intro hc
    have m := m_chain hz h c (by omega) (fun c' g1 g2 => hd c' g1 (by omega))
    have hdc := hd c (by omega) (by omega) c (by omega) (by omega)
    rw [show (11 * (c : Int)).toNat = (10 * (c : Int) + c).toNat by omega] at hdc
    have p2 := q_p2_le (a := c) (b := 9) (by omega) (by omega)
    have p3 := m_p2v
    have p4 := q_p2_le (a := 0) (b := c) (by omega) (by omega)
    rw [show ((c + 1 : Nat) : Int) = (c : Int) + 1 by omega, q_ps_s (by omega), m_ph_eq (by omega) hdc]
    exact m_tri_sh (M := 600 * q_p2 c) (by omega) (by omega) hdc m.2.1 (ih (by omega))
theorem m_ps_le {w : Nat → Int} (hd : ∀ c : Int, 0 ≤ c → c ≤ 10 → q_dg (q_ps c w)) : ∀ c : Nat, (c : Int) ≤ 10 → ∀ n : Nat, q_ps c w n ≤ w n := by
  intro c
  induction c with
  | zero =>
    intro _ n
    rw [show q_ps ((0 : Nat) : Int) w = w from q_fr_0 (by omega)]
    exact Int.le_refl _
  | succ c ih =>
    intro hc n
    have hdc := hd c (by omega) (by omega) c (by omega) (by omega)
    rw [show (11 * (c : Int)).toNat = (10 * (c : Int) + c).toNat by omega] at hdc
    rw [show ((c + 1 : Nat) : Int) = (c : Int) + 1 by omega, q_ps_s (by omega), m_ph_eq (by omega) hdc]
    exact Int.le_trans (m_sh_le n) (ih (by omega) n)
/-- a potential of a square -/
def m_pot (p w : Nat → Int) : Prop := ∀ i j : Int, 0 ≤ i → i ≤ 9 → 0 ≤ j → j ≤ 9 → w (10 * i + j).toNat < 1000000 → p j.toNat ≤ p i.toNat + w (10 * i + j).toNat
theorem m_pot_sh {c : Int} {p w : Nat → Int} (hc : 0 ≤ c ∧ c ≤ 9) (h : m_pot p w) : m_pot p (m_sh c w) := by
  intro i j i1 i2 j1 j2 f
  rw [m_sh_at ⟨i1, i2⟩ ⟨j1, j2⟩] at f ⊢
  by_cases g : w (10 * i + c).toNat < 1000000 ∧ w (10 * c + j).toNat < 1000000 ∧ w (10 * i + c).toNat + w (10 * c + j).toNat < w (10 * i + j).toNat
  · rw [if_pos g]
    have a := h i c i1 i2 hc.1 hc.2 g.1
    have b := h c j hc.1 hc.2 j1 j2 g.2.1
    omega
  · rw [if_neg g] at f ⊢
    exact h i j i1 i2 j1 j2 f
/-- where there is a potential no way back is below 0 -/
theorem m_pot_dg {p w : Nat → Int} (h : m_pot p w) : q_dg w := by
  intro i i1 i2
  rw [show (11 * i).toNat = (10 * i + i).toNat by omega]
  rcases Int.lt_or_le (w (10 * i + i).toNat) 1000000 with g | g
  · have := h i i i1 (by omega) i1 (by omega) g
    omega
  · omega
theorem m_pot_ps {p w : Nat → Int} (h : m_pot p w) : ∀ c : Nat, (c : Int) ≤ 10 → m_pot p (q_ps c w) := by
  intro c
  induction c with
  | zero =>
    intro _
    rw [show q_ps ((0 : Nat) : Int) w = w from q_fr_0 (by omega)]
    exact h
  | succ c ih =>
    intro hc
    have ih1 := ih (by omega)
    have hdc := m_pot_dg ih1 c (by omega) (by omega)
    rw [show (11 * (c : Int)).toNat = (10 * (c : Int) + c).toNat by omega] at hdc
    rw [show ((c + 1 : Nat) : Int) = (c : Int) + 1 by omega, q_ps_s (by omega), m_ph_eq (by omega) hdc]
    exact m_pot_sh (by omega) ih1
theorem m_pot_ok {p w : Nat → Int} (h : m_pot p w) : q_ok w := by
  intro c c1 c2
  have := m_pot_ps h (c + 1).toNat (by omega)
  rw [Int.toNat_of_nonneg (by omega)] at this
  exact m_pot_dg this
/-- what distances of a consistent net are: closed, at most the edges, 0 from an event to itself -/
theorem m_D {k lf g : Nat → Int} (h : q_KR k) (hc : q_con k lf) : m_tri 10 (q_dd k lf g) ∧ (∀ n : Nat, q_dd k lf g n ≤ q_net k lf g n) ∧ (∀ i : Int, 0 ≤ i → i ≤ 9 → q_dd k lf g (10 * i + i).toNat = 0) ∧ m_wb 614400 (q_dd k lf g) ∧ m_O (k 0) (q_dd k lf g) := by
  have h0 := h.r0
  have hR := m_R_lay (lf := lf) (g := g) (r := fun _ => 0) h
  have hk := m_con_eq (g := g).mpr hc
  have hd := m_ok_all hR hk
  have e : q_dd k lf g = q_ps 10 (q_net k lf g) := q_cg_t hk
  have m := m_chain (by omega) hR 10 (by omega) (fun c' g1 g2 => hd c' g1 (by omega))
  have p3 := m_p2v
  have hle := m_ps_le hd 10 (by omega)
  have e10 : ((10 : Nat) : Int) = 10 := rfl
  rw [e10] at m hle
  have t := m_tri_all (by omega) hR hk 10 (by omega)
  rw [e10] at t
  rw [e]
  refine ⟨t, hle, ?_, ?_, m.1⟩
  · intro i i1 i2
    have a := hle (10 * i + i).toNat
    rw [hR.2.2.2.1 i i1 i2] at a
    have b := hd 10 (by omega) (by omega) i i1 (by omega)
    rw [show (11 * i).toNat = (10 * i + i).toNat by omega] at b
    omega
  · intro n hn
    have := m.2.1 n hn
    omega
/-- a potential bounds the distances from below -/
theorem m_D_pot {k lf g p : Nat → Int} (h : q_KR k) (hc : q_con k lf) (hp : m_pot p (q_net k lf g)) : m_pot p (q_dd k lf g) := by
  have hk := m_con_eq (g := g).mpr hc
  have e : q_dd k lf g = q_ps 10 (q_net k lf g) := q_cg_t hk
  rw [e]
  exact m_pot_ps hp 10 (by omega)
