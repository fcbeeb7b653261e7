/-! mathematics that is owed, twelfth part: shifts of roots; sums of strong control -/
theorem m_shift {k : Nat → Int} {p : Int} {x : (Nat → Int) × (Nat → Int)} (h : q_KR k) : ∀ n : Nat, n ≤ 9 → 0 ≤ (q_rt k p x).2 n ∧ (q_rt k p x).2 n ≤ 200 * q_cnt (fun s => k (212 + 4 * s + 1).toNat ≤ n) (k 2) := by
  have h0 := h.r0
  intro n
  induction n using Nat.strongRecOn with
  | _ n ih =>
    intro hn
    have c0 := (q_cnt_r (fun s => k (212 + 4 * s + 1).toNat ≤ n) (n := k 2) (by omega)).1
    by_cases d : q_we k n ≠ -1 ∧ ¬ q_sta k (k (212 + 4 * q_we k n + 1).toNat)
    · have h3 := (m_rt_y (p := p) (x := x) h (e := n) (by omega) d.1 d.2).2
      rcases q_we_spec (k := k) (e := n) (by omega) with ⟨w1, w2⟩ | ⟨w1, w2, w3, w4⟩
      · exact absurd w1 d.1
      · have hw := h.sp w1 w2
        have h5 := q_pck_r (p := p) h w1 w2
        have h4 := ih (k (212 + 4 * q_we k n).toNat).toNat (by omega) (by omega)
        have m := (q_cnt_mono (p := fun s => k (212 + 4 * s + 1).toNat ≤ ((k (212 + 4 * q_we k n).toNat).toNat : Int)) (q := fun s => k (212 + 4 * s + 1).toNat ≤ n) (k 2).toNat (fun i i1 i2 q => by
          have q' : k (212 + 4 * i + 1).toNat ≤ ((k (212 + 4 * q_we k n).toNat).toNat : Int) := q
          show k (212 + 4 * i + 1).toNat ≤ n
          omega)).2 ⟨q_we k n, w1, by omega, by show k (212 + 4 * q_we k n + 1).toNat ≤ n; omega, fun q => by
          have q' : k (212 + 4 * q_we k n + 1).toNat ≤ ((k (212 + 4 * q_we k n).toNat).toNat : Int) := q
          omega⟩
        rw [Int.toNat_of_nonneg (show 0 ≤ k 2 by omega)] at m
        rw [show ((n : Int)).toNat = n from rfl] at h3
        rw [h3]
        omega
    · have h3 := (m_rt_n (p := p) (x := x) h (e := n) (by omega) (by
        by_cases f : q_we k n = -1
        · exact Or.inl f
        · exact Or.inr (Classical.not_not.mp (fun g => d ⟨f, g⟩)))).2
      rw [show ((n : Int)).toNat = n from rfl] at h3
      rw [h3]
      omega
theorem m_shift600 {k : Nat → Int} {p e : Int} {x : (Nat → Int) × (Nat → Int)} (h : q_KR k) (he : 0 ≤ e ∧ e ≤ 9) : 0 ≤ (q_rt k p x).2 e.toNat ∧ (q_rt k p x).2 e.toNat ≤ 600 := by
  have h0 := h.r0
  have a := m_shift (p := p) (x := x) h e.toNat (by omega)
  have b := (q_cnt_r (fun s => k (212 + 4 * s + 1).toNat ≤ (e.toNat : Int)) (n := k 2) (by omega)).2
  omega
theorem m_wb_eg {M i j x : Int} {w : Nat → Int} (h : m_wb M w) (hM : M < 1000000) (hx : -M ≤ x ∧ x ≤ M) : m_wb M (q_eg w i j x) := by
  intro n hn
  have := h n hn
  unfold q_eg
  rw [m_lw_at]
  split
  · right; omega
  · exact this
theorem m_dz_eg {i j x : Int} {w : Nat → Int} (h : m_dz w) (hi : 0 ≤ i ∧ i ≤ 9) (hj : 0 ≤ j ∧ j ≤ 9) (hij : i ≠ j) : m_dz (q_eg w i j x) := by
  intro a a1 a2
  unfold q_eg
  rw [m_lw_at, if_neg (by omega)]
  exact h a a1 a2
def m_R1 (w : Nat → Int) : Prop := m_wb 1100 w ∧ m_dz w
theorem m_R1_eg {i j x : Int} {w : Nat → Int} (h : m_R1 w) (hi : 0 ≤ i ∧ i ≤ 9) (hj : 0 ≤ j ∧ j ≤ 9) (hij : i ≠ j) (hx : -1100 ≤ x ∧ x ≤ 1100) : m_R1 (q_eg w i j x) := ⟨m_wb_eg h.1 (by omega) hx, m_dz_eg h.2 hi hj hij⟩
theorem m_R1_if {p : Prop} {w w' : Nat → Int} (h1 : p → m_R1 w) (h2 : ¬ p → m_R1 w') : m_R1 (q_if p w w') := by
  by_cases e : p
  · rw [q_if_t e]; exact h1 e
  · rw [q_if_f e]; exact h2 e
theorem m_R1_sg {k g : Nat → Int} {x : (Nat → Int) × (Nat → Int)} {p : Int} (h : q_KR k) (hp : 0 ≤ p) : m_R1 (q_sg k p (q_clr g, x)).1 := by
  have h0 := h.r0
  unfold q_sg
  refine q_fr_ind (f := q_sgP k) (fun _ (y : (Nat → Int) × ((Nat → Int) × (Nat → Int))) => m_R1 y.1) hp ?_ ?_
  · have c := m_R_clr (z := 10) (g := g) (r := fun _ => 0) (by omega)
    refine ⟨fun n hn => ?_, c.2.2.2.1⟩
    have := c.2.2.1 n hn
    show q_clr g n = 1000000 ∨ (-1100 ≤ q_clr g n ∧ q_clr g n ≤ 1100)
    omega
  · intro i y i1 i2 hy
    unfold q_sgP
    show m_R1 (q_fr (q_sgB k (q_rt k i y.2).1 (q_rt k i y.2).2) 0 (k 1) y.1)
    refine q_fr_ind (f := q_sgB k (q_rt k i y.2).1 (q_rt k i y.2).2) (fun _ (w : Nat → Int) => m_R1 w) (by omega) hy ?_
    intro b w b1 b2 hw
    have hb := h.bd b1 b2
    have r := m_rt_r (p := i) (x := y.2) h
    have r1 := r (k (52 + 4 * b).toNat) (by omega) (by omega)
    have r2 := r (k (52 + 4 * b + 1).toNat) (by omega) (by omega)
    have s1 := m_shift600 (p := i) (x := y.2) (e := k (52 + 4 * b).toNat) h (by omega)
    have s2 := m_shift600 (p := i) (x := y.2) (e := k (52 + 4 * b + 1).toNat) h (by omega)
    unfold q_sgB
    exact m_R1_if (fun _ => m_R1_if (fun q => m_R1_eg hw (by omega) (by omega) q (by omega)) (fun _ => hw)) (fun _ => hw)
theorem m_R1_sgF {k g : Nat → Int} {x : (Nat → Int) × (Nat → Int)} (h : q_KR k) : m_R1 (q_sgF k (q_clr g, x)) := by
  have h0 := h.r0
  have hp2 := q_p2_r (a := k 2) (by omega) (by omega)
  unfold q_sgF
  refine q_fr_ind (f := q_stE k) (fun _ (w : Nat → Int) => m_R1 w) (by omega) ?_ ?_
  · refine q_fr_ind (f := q_sgS k) (fun _ (w : Nat → Int) => m_R1 w) (by omega) (m_R1_sg h (by omega)) ?_
    intro s w s1 s2 hw
    have hs := h.sp s1 s2
    unfold q_sgS
    exact m_R1_if (fun _ => m_R1_eg (m_R1_eg hw (by omega) (by omega) (by omega) (by omega)) (by omega) (by omega) (by omega) (by omega)) (fun _ => hw)
  · intro e w e1 e2 hw
    have he := h.st (e := e) (by omega) (by omega)
    unfold q_stE
    exact m_R1_if (fun hs => m_R1_eg (m_R1_eg hw (by omega) (by omega) (by omega) (by omega)) (by omega) (by omega) (by omega) (by omega)) (fun _ => hw)
theorem m_cb_strong {k : Nat → Int} {g : Nat → Int} {x : (Nat → Int) × (Nat → Int)} (h : q_KR k) : q_cb (q_sgF k (q_clr g, x)) := by
  have r := m_R1_sgF (g := g) (x := x) h
  refine m_cb r.1 ?_
  intro i i1 i2
  rw [show (11 * i).toNat = (10 * i + i).toNat by omega, r.2 i i1 (by omega)]
  omega
