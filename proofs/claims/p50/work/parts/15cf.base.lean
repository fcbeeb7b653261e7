/-! words and mathematics, each behind what it wants: chunk 6 -/
theorem q_last_end {k v a g : Nat → Int} {n m : Int} {x : q_X} (hl : q_last k x m) (hn : 0 ≤ n ∧ n ≤ m) (hx : (v, a, g) = q_rx k n x) (h : ¬ (q_ok (q_ir k (q_rd k (q_c4 v a) v) g) ∧ q_hc (q_rd k (q_c4 v a) v) (q_c4 v a) ∧ n + 1 < 60)) : n = m := by
  obtain ⟨h0, h1, -⟩ := hl
  rcases Int.lt_or_le n m with hq | hq
  · exfalso
    have h2 := h1 n hn.1 hq
    rw [← hx] at h2
    exact h ⟨h2.1, h2.2, by omega⟩
  · omega
theorem q_rB_v {k v a g : Nat → Int} {n m : Int} {x : q_X} (hB : q_rB k x m) (hn : 0 ≤ n ∧ n ≤ m) (hx : (v, a, g) = q_rx k n x) : q_vb v ∧ q_cb (q_ir k (q_rd k (q_c4 v a) v) g) := by
  have h := hB n hn.1 hn.2
  rw [← q_rx_s hn.1 hx, ← hx] at h
  exact h
/-- the fields behind: rounds, fine -/
noncomputable def q_rf (k : Nat → Int) (x : q_X) (m : Int) (w : Nat → Int) : Nat → Int := pz_up (pz_up w 8 (m + pz_bi (q_ha k (q_rx k m x)))) 7 (pz_bi (q_fi k (q_rx k m x) ∧ ¬ (q_ha k (q_rx k m x) ∧ m = 59)))
theorem q_w7 {w0 w : Nat → Int} {n p q r : Int} (hw : w = pz_up (pz_up w0 8 n) 7 r) : pz_up (pz_up w 8 p) 7 q = pz_up (pz_up w0 8 p) 7 q := by
  funext j
  rw [hw]
  simp only [pz_up_at]
  (repeat' split) <;> rfl
theorem q_w77 {w : Nat → Int} {p q r : Int} : pz_up (pz_up (pz_up w 8 p) 7 q) 7 r = pz_up (pz_up w 8 p) 7 r := by
  funext j
  simp only [pz_up_at]
  (repeat' split) <;> rfl
section QRF
variable {k v a g w0 w : Nat → Int} {n m : Int} {x : q_X}
theorem q_rf_e (hl : q_last k x m) (hn : 0 ≤ n ∧ n ≤ m) (hx : (v, a, g) = q_rx k n x) (h : ¬ (q_ok (q_ir k (q_rd k (q_c4 v a) v) g) ∧ q_hc (q_rd k (q_c4 v a) v) (q_c4 v a) ∧ n + 1 < 60)) :
    q_rf k x m w0 = pz_up (pz_up w0 8 (n + pz_bi (q_hc (q_rd k (q_c4 v a) v) (q_c4 v a)))) 7 (pz_bi (q_ok (q_ir k (q_rd k (q_c4 v a) v) g) ∧ ¬ (q_hc (q_rd k (q_c4 v a) v) (q_c4 v a) ∧ n = 59))) := by
  have hq := q_last_end hl hn hx h
  subst hq
  unfold q_rf q_ha q_fi
  rw [← hx]
theorem q_rf_1 (hl : q_last k x m) (hn : 0 ≤ n ∧ n ≤ m) (hx : (v, a, g) = q_rx k n x) (hw : w = pz_up (pz_up w0 8 n) 7 1) (hf : ¬ q_ok (q_ir k (q_rd k (q_c4 v a) v) g)) (hh : q_hc (q_rd k (q_c4 v a) v) (q_c4 v a)) :
    pz_up (pz_up w 8 (w 8 + 1)) 7 (pz_bi (q_ok (q_ir k (q_rd k (q_c4 v a) v) g))) = q_rf k x m w0 := by
  have hw8 : w 8 = n := by rw [hw]; rfl
  rw [q_rf_e hl hn hx (fun q => hf q.1), q_w7 hw, hw8, pz_bi_1 hh, pz_bi_0 hf, pz_bi_0 (fun q => hf q.1)]
theorem q_rf_2 (hl : q_last k x m) (hn : 0 ≤ n ∧ n ≤ m) (hx : (v, a, g) = q_rx k n x) (hw : w = pz_up (pz_up w0 8 n) 7 1) (hh : ¬ q_hc (q_rd k (q_c4 v a) v) (q_c4 v a)) :
    pz_up (pz_up w 8 (w 8 + 0)) 7 (pz_bi (q_ok (q_ir k (q_rd k (q_c4 v a) v) g))) = q_rf k x m w0 := by
  have hw8 : w 8 = n := by rw [hw]; rfl
  rw [q_rf_e hl hn hx (fun q => hh q.2.1), q_w7 hw, hw8, pz_bi_0 hh]
  congr 1
  exact pz_bi_iff ⟨fun q => ⟨q, fun p => hh p.1⟩, fun q => q.1⟩
theorem q_rf_4 (hl : q_last k x m) (hn : 0 ≤ n ∧ n ≤ m) (hx : (v, a, g) = q_rx k n x) (hw : w = pz_up (pz_up w0 8 n) 7 1) (hh : q_hc (q_rd k (q_c4 v a) v) (q_c4 v a)) (h60 : ¬ (w 8 + 1 < 60)) :
    pz_up (pz_up (pz_up w 8 (w 8 + 1)) 7 (pz_bi (q_ok (q_ir k (q_rd k (q_c4 v a) v) g)))) 7 0 = q_rf k x m w0 := by
  have hw8 : w 8 = n := by rw [hw]; rfl
  have hm := hl.1.2
  rw [hw8] at h60
  rw [q_rf_e hl hn hx (fun q => h60 q.2.2), q_w77, q_w7 hw, hw8, pz_bi_1 hh, pz_bi_0 (fun q => q.2 ⟨hh, by omega⟩)]
theorem q_rx_e (hl : q_last k x m) (hn : 0 ≤ n ∧ n ≤ m) (hx : (v, a, g) = q_rx k n x) (h : ¬ (q_ok (q_ir k (q_rd k (q_c4 v a) v) g) ∧ q_hc (q_rd k (q_c4 v a) v) (q_c4 v a) ∧ n + 1 < 60)) :
    (q_rd k (q_c4 v a) v, q_c4 v a, q_cg (q_ir k (q_rd k (q_c4 v a) v) g)) = q_rx k (m + 1) x := by
  rw [q_rx_s hn.1 hx, q_last_end hl hn hx h]
end QRF
noncomputable def q_x0 (k lf g v a : Nat → Int) : q_X := (q_vi k (q_dd k lf g) v, a, q_dd k lf g)
noncomputable def q_m (k : Nat → Int) (x : q_X) : Int := Classical.epsilon (q_last k x)
theorem q_m_ok {k : Nat → Int} {x : q_X} : q_last k x (q_m k x) := by
  refine Classical.epsilon_spec (p := q_last k x) ?_
  by_cases h : ∀ i : Int, 0 ≤ i → i < (59 : Nat) → (q_fi k (q_rx k i x) ∧ q_ha k (q_rx k i x))
  · exact ⟨59, ⟨by omega, by omega⟩, fun i h1 h2 => h i h1 h2, fun q => by omega⟩
  · obtain ⟨m, h1, h2, h3, h4⟩ := q_first 59 h
    exact ⟨m, ⟨h1, by omega⟩, h3, fun q => h4 ⟨q.1, q.2.1⟩⟩
noncomputable def q_zX (k lf g v a : Nat → Int) : q_X := q_if (q_con k lf) (q_rx k (q_m k (q_x0 k lf g v a) + 1) (q_x0 k lf g v a)) (q_v0 (q_dd k lf g) v, a, q_dd k lf g)
noncomputable def q_zw (k lf g v a w : Nat → Int) : Nat → Int := q_if (q_con k lf) (q_rf k (q_x0 k lf g v a) (q_m k (q_x0 k lf g v a)) w) (pz_up (pz_up w 8 0) 7 (pz_bi (q_con k lf)))
def q_seen (k lf g v a : Nat → Int) : Prop := q_con k lf ∧ q_fi k (q_rx k (q_m k (q_x0 k lf g v a)) (q_x0 k lf g v a)) ∧ ¬ (q_ha k (q_rx k (q_m k (q_x0 k lf g v a)) (q_x0 k lf g v a)) ∧ q_m k (q_x0 k lf g v a) = 59)
noncomputable def q_rds (k lf g v a : Nat → Int) : Int := q_if (q_con k lf) (q_m k (q_x0 k lf g v a) + pz_bi (q_ha k (q_rx k (q_m k (q_x0 k lf g v a)) (q_x0 k lf g v a)))) 0
theorem q_zw_7 {k lf g v a w : Nat → Int} : q_zw k lf g v a w 7 = pz_bi (q_seen k lf g v a) := by
  unfold q_zw
  by_cases h : q_con k lf
  · rw [q_if_t h]
    unfold q_rf
    rw [pz_up_eq]
    exact pz_bi_iff ⟨fun q => ⟨h, q⟩, fun q => q.2⟩
  · rw [q_if_f h, pz_up_eq]
    exact pz_bi_iff ⟨fun q => absurd q h, fun q => q.1⟩
theorem q_zw_8 {k lf g v a w : Nat → Int} : q_zw k lf g v a w 8 = q_rds k lf g v a := by
  unfold q_zw q_rds
  by_cases h : q_con k lf
  · rw [q_if_t h, q_if_t h]
    unfold q_rf
    rw [pz_up_ne (by decide), pz_up_eq]
  · rw [q_if_f h, q_if_f h, pz_up_ne (by decide), pz_up_eq]
/-- what levels want of distances -/
def m_DF (z : Int) (D : Nat → Int) : Prop := m_tri 10 D ∧ (∀ i : Int, 0 ≤ i → i ≤ 9 → D (10 * i + i).toNat = 0) ∧ m_wb 5400 D ∧ m_O z D
theorem m_DF_dd {k lf g : Nat → Int} (h : q_KR k) (hc : q_con k lf) : m_DF (k 0) (q_dd k lf g) := by
  have mD := m_D (g := g) h hc
  exact ⟨mD.1, mD.2.2.1, m_dd_5 h hc, mD.2.2.2.2⟩
noncomputable def m_lev (D : Nat → Int) (i : Int) : Int := q_cnt (fun j => D (10 * i + j).toNat < 1000000) 10
/-- how far below 0 a value over d levels may lie -/
def m_be (m a d : Int) : Int := if d = 0 then m else a * d
/-- a square whose finite places are those of the distances, not above them, not too far below -/
def m_F (D : Nat → Int) (m a : Int) (w : Nat → Int) : Prop := ∀ i j : Int, 0 ≤ i → i ≤ 9 → 0 ≤ j → j ≤ 9 → w (10 * i + j).toNat ≤ D (10 * i + j).toNat ∧ (w (10 * i + j).toNat < 1000000 → D (10 * i + j).toNat < 1000000 ∧ -(m_be m a (m_lev D i - m_lev D j)) ≤ w (10 * i + j).toNat)
theorem m_DF_le {z : Int} {D : Nat → Int} (h : m_DF z D) {n : Nat} (hn : n < 100) : D n ≤ 1000000 ∧ (D n < 1000000 → -5400 ≤ D n ∧ D n ≤ 5400) := by
  have b := h.2.2.1 n hn
  omega
theorem m_lev_r {D : Nat → Int} {i : Int} : 0 ≤ m_lev D i ∧ m_lev D i ≤ 10 := q_cnt_r _ (by omega)
theorem m_DF_tr {z i c j : Int} {D : Nat → Int} (h : m_DF z D) (hi : 0 ≤ i ∧ i ≤ 9) (hc : 0 ≤ c ∧ c ≤ 9) (hj : 0 ≤ j ∧ j ≤ 9) (h1 : D (10 * i + c).toNat < 1000000) (h2 : D (10 * c + j).toNat < 1000000) : D (10 * i + j).toNat < 1000000 := by
  have t := h.1 i j c hi.1 hi.2 hj.1 hj.2 hc.1 (by omega) h1 h2
  have b1 := h.2.2.1 (10 * i + c).toNat (by omega)
  have b2 := h.2.2.1 (10 * c + j).toNat (by omega)
  omega
theorem m_lev_le {z i j : Int} {D : Nat → Int} (h : m_DF z D) (hi : 0 ≤ i ∧ i ≤ 9) (hj : 0 ≤ j ∧ j ≤ 9) (h1 : D (10 * i + j).toNat < 1000000) : m_lev D j ≤ m_lev D i ∧ (m_lev D j = m_lev D i → D (10 * j + i).toNat < 1000000) := by
  have m := q_cnt_mono (p := fun x => D (10 * j + x).toNat < 1000000) (q := fun x => D (10 * i + x).toNat < 1000000) 10 (fun x x1 x2 q => m_DF_tr h hi hj ⟨x1, by omega⟩ h1 q)
  rw [show ((10 : Nat) : Int) = 10 from rfl] at m
  refine ⟨m.1, fun e => ?_⟩
  refine Classical.byContradiction (fun hn => ?_)
  have s := m.2 ⟨i, hi.1, by omega, by
    show D (10 * i + i).toNat < 1000000
    rw [h.2.1 i hi.1 hi.2]; omega, hn⟩
  unfold m_lev at e
  omega
theorem m_be_r {m a d : Int} (hm : 0 ≤ m ∧ m ≤ a) (hd : 0 ≤ d ∧ d ≤ 10) : 0 ≤ m_be m a d ∧ m_be m a d ≤ 10 * a := by
  unfold m_be
  split
  · omega
  · have a1 := Int.mul_le_mul_of_nonneg_left hd.2 (show 0 ≤ a by omega)
    have a2 := Int.mul_nonneg (show 0 ≤ a by omega) hd.1
    omega
theorem m_F_r {z m a : Int} {D w : Nat → Int} (hD : m_DF z D) (hm : 0 ≤ m ∧ m ≤ a) (h : m_F D m a w) {n : Nat} (hn : n < 100) : w n = 1000000 ∨ (-(10 * a) ≤ w n ∧ w n ≤ 5400) := by
  have e1 : n = (10 * ((n / 10 : Nat) : Int) + ((n % 10 : Nat) : Int)).toNat := by omega
  have f := h ((n / 10 : Nat) : Int) ((n % 10 : Nat) : Int) (by omega) (by omega) (by omega) (by omega)
  have l := m_lev_le hD (i := ((n / 10 : Nat) : Int)) (j := ((n % 10 : Nat) : Int)) (by omega) (by omega)
  rw [← e1] at f l
  have b := m_DF_le hD hn
  by_cases c : w n < 1000000
  · obtain ⟨f2, f3⟩ := f.2 c
    have l1 := (l f2).1
    have r1 := m_lev_r (D := D) (i := ((n / 10 : Nat) : Int))
    have r2 := m_lev_r (D := D) (i := ((n % 10 : Nat) : Int))
    have r := m_be_r hm (d := m_lev D ((n / 10 : Nat) : Int) - m_lev D ((n % 10 : Nat) : Int)) (by omega)
    omega
  · left
    omega
theorem m_be_add {m a d e : Int} (hm : 0 ≤ m) (ha : 0 ≤ a) (hd : 0 ≤ d) (he : 0 ≤ e) : m_be m a d + m_be m a e ≤ m_be (2 * m) (a + m) (d + e) := by
  unfold m_be
  by_cases c1 : d = 0
  · by_cases c2 : e = 0
    · rw [if_pos c1, if_pos c2, if_pos (by omega)]; omega
    · have a1 := Int.mul_le_mul_of_nonneg_left (show 1 ≤ e by omega) hm
      rw [if_pos c1, if_neg c2, if_neg (by omega), c1, Int.zero_add, Int.add_mul]
      omega
  · by_cases c2 : e = 0
    · have a1 := Int.mul_le_mul_of_nonneg_left (show 1 ≤ d by omega) hm
      rw [if_neg c1, if_pos c2, if_neg (by omega), c2, Int.add_zero, Int.add_mul]
      omega
    · have a1 := Int.mul_nonneg hm (show 0 ≤ d + e by omega)
      rw [if_neg c1, if_neg c2, if_neg (by omega), Int.add_mul, Int.mul_add]
      omega
theorem m_be_mono {m a m' a' d : Int} (hm : m ≤ m') (ha : a ≤ a') (hd : 0 ≤ d) : m_be m a d ≤ m_be m' a' d := by
  unfold m_be
  split
  · exact hm
  · exact Int.mul_le_mul_of_nonneg_right ha hd
theorem m_F_sh {z m a c : Int} {D w : Nat → Int} (hD : m_DF z D) (hm : 0 ≤ m) (ha : 0 ≤ a) (hc : 0 ≤ c ∧ c ≤ 9) (h : m_F D m a w) : m_F D (2 * m) (a + m) (m_sh c w) := by
  intro i j i1 i2 j1 j2
  have f := h i j i1 i2 j1 j2
  rw [m_sh_at ⟨i1, i2⟩ ⟨j1, j2⟩]
  by_cases g : w (10 * i + c).toNat < 1000000 ∧ w (10 * c + j).toNat < 1000000 ∧ w (10 * i + c).toNat + w (10 * c + j).toNat < w (10 * i + j).toNat
  · rw [if_pos g]
    obtain ⟨p1, p2⟩ := (h i c i1 i2 hc.1 hc.2).2 g.1
    obtain ⟨q1, q2⟩ := (h c j hc.1 hc.2 j1 j2).2 g.2.1
    have l1 := (m_lev_le hD ⟨i1, i2⟩ hc p1).1
    have l2 := (m_lev_le hD hc ⟨j1, j2⟩ q1).1
    have s := m_be_add hm ha (d := m_lev D i - m_lev D c) (e := m_lev D c - m_lev D j) (by omega) (by omega)
    rw [show m_lev D i - m_lev D c + (m_lev D c - m_lev D j) = m_lev D i - m_lev D j by omega] at s
    refine ⟨by omega, fun _ => ⟨m_DF_tr hD ⟨i1, i2⟩ hc ⟨j1, j2⟩ p1 q1, by omega⟩⟩
  · rw [if_neg g]
    refine ⟨f.1, fun q => ?_⟩
    obtain ⟨p1, p2⟩ := f.2 q
    have l1 := (m_lev_le hD ⟨i1, i2⟩ ⟨j1, j2⟩ p1).1
    have s := m_be_mono (m := m) (a := a) (m' := 2 * m) (a' := a + m) (d := m_lev D i - m_lev D j) (by omega) (by omega) (by omega)
    exact ⟨p1, by omega⟩
theorem m_p2_r {c : Int} (h : 0 ≤ c ∧ c ≤ 10) : 1 ≤ q_p2 c ∧ q_p2 c ≤ 1024 := by
  have p2 := q_p2_le (a := c) (b := 10) (by omega) (by omega)
  have p4 := q_p2_le (a := 0) (b := c) (by omega) (by omega)
  have p3 := m_p2v
  omega
theorem m_F_mono {z m a m' a' : Int} {D w : Nat → Int} (hD : m_DF z D) (hm : m ≤ m') (ha : a ≤ a') (h : m_F D m a w) : m_F D m' a' w := by
  intro i j i1 i2 j1 j2
  have f := h i j i1 i2 j1 j2
  refine ⟨f.1, fun q => ?_⟩
  obtain ⟨p1, p2⟩ := f.2 q
  have l1 := (m_lev_le hD ⟨i1, i2⟩ ⟨j1, j2⟩ p1).1
  have s := m_be_mono (m := m) (a := a) (m' := m') (a' := a') (d := m_lev D i - m_lev D j) hm ha (by omega)
  exact ⟨p1, by omega⟩
theorem m_F_ps {z A : Int} {D w : Nat → Int} (hD : m_DF z D) (hA : 10800 ≤ A) (h : m_F D 10800 A w) : ∀ c : Nat, (c : Int) ≤ 10 → (∀ c' : Int, 0 ≤ c' → c' < c → q_dg (q_ps c' w)) → m_F D (10800 * q_p2 c) (A + 10800 * q_p2 c) (q_ps c w) := by
  intro c
  induction c with
  | zero =>
    intro _ _
    rw [show q_ps ((0 : Nat) : Int) w = w from q_fr_0 (by omega)]
    rw [show q_p2 ((0 : Nat) : Int) = 1 from rfl]
    exact m_F_mono hD (by omega) (by omega) h
  | succ c ih =>
    intro hc hd
    have ih1 := ih (by omega) (fun c' g1 g2 => hd c' g1 (by omega))
    have hdc := hd c (by omega) (by omega) c (by omega) (by omega)
    rw [show (11 * (c : Int)).toNat = (10 * (c : Int) + c).toNat by omega] at hdc
    have p1 := q_p2_s (a := c) (by omega)
    have p2 := m_p2_r (c := c) (by omega)
    rw [show ((c + 1 : Nat) : Int) = (c : Int) + 1 by omega, q_ps_s (by omega), m_ph_eq (by omega) hdc, p1]
    have s := m_F_sh hD (by omega) (by omega) (c := c) (by omega) ih1
    exact m_F_mono hD (by omega) (by omega) s
def m_v3 (w : Nat → Int) : Prop := ∀ n : Nat, n < 100 → w n = 1000000 ∨ (-400000000 ≤ w n ∧ w n ≤ 5400)
theorem m_F_v3 {z A : Int} {c : Int} {D w : Nat → Int} (hD : m_DF z D) (hA : 10800 ≤ A ∧ A ≤ 1000000) (hc : 0 ≤ c ∧ c ≤ 10) (h : m_F D (10800 * q_p2 c) (A + 10800 * q_p2 c) w) : m_v3 w := by
  intro n hn
  have p2 := m_p2_r hc
  have r := m_F_r hD (by omega) h hn
  omega
theorem m_eg_le {i j x : Int} {w : Nat → Int} (n : Nat) : q_eg w i j x n ≤ w n := by
  unfold q_eg
  rw [m_lw_at]
  split <;> omega
/-- a phase in place only lowers, whatever the diagonal -/
theorem m_ph_le {c : Int} {f : Nat → Int} (n : Nat) : q_ph c f n ≤ f n := by
  have key : ∀ n, q_ph c f n ≤ f n := by
    unfold q_ph
    refine q_fr_ind (f := q_i c) (fun _ (y : Nat → Int) => ∀ n, y n ≤ f n) (by omega) (fun n => Int.le_refl _) ?_
    intro i y i1 i2 hy
    unfold q_i
    refine q_fr_ind (f := q_j c i) (fun _ (u : Nat → Int) => ∀ n, u n ≤ f n) (by omega) hy ?_
    intro j u j1 j2 hu n
    unfold q_j
    by_cases g : u (10 * i + c).toNat < 1000000 ∧ u (10 * c + j).toNat < 1000000
    · rw [q_if_t g]
      exact Int.le_trans (m_eg_le n) (hu n)
    · rw [q_if_f g]; exact hu n
  exact key n
/-- a phase in place over 0, when 0's own place may be below 0 -/
theorem m_ph0_lb {B : Int} {f : Nat → Int} (hB : 0 ≤ B) (h : ∀ n : Nat, n < 100 → -B ≤ f n) {i j : Int} (hi : 0 ≤ i ∧ i ≤ 9) (hj : 0 ≤ j ∧ j ≤ 9) : ∀ n : Nat, n < 100 → -(6 * B) ≤ q_fr (q_j 0 i) 0 j (q_fr (q_i 0) 0 i f) n := by
  have key : ∀ n : Nat, n < 100 → (if (n : Int) < 10 * i + j then (if n = 0 then -(2 * B) else if n < 10 ∨ n % 10 = 0 then -(3 * B) else -(6 * B)) else -B) ≤ q_fr (q_j 0 i) 0 j (q_fr (q_i 0) 0 i f) n := by
    have rowlem : ∀ (a b : Int) (y : Nat → Int), 0 ≤ a → a ≤ 9 → 0 ≤ b → b ≤ 10 → (∀ n : Nat, n < 100 → (if (n : Int) < 10 * a then (if n = 0 then -(2 * B) else if n < 10 ∨ n % 10 = 0 then -(3 * B) else -(6 * B)) else -B) ≤ y n) → ∀ n : Nat, n < 100 → (if (n : Int) < 10 * a + b then (if n = 0 then -(2 * B) else if n < 10 ∨ n % 10 = 0 then -(3 * B) else -(6 * B)) else -B) ≤ q_fr (q_j 0 a) 0 b y n := by
      intro a b y a1 a2 b1 b2 hy
      refine q_fr_ind (f := q_j 0 a) (fun j (u : Nat → Int) => ∀ n : Nat, n < 100 → (if (n : Int) < 10 * a + j then (if n = 0 then -(2 * B) else if n < 10 ∨ n % 10 = 0 then -(3 * B) else -(6 * B)) else -B) ≤ u n) b1 (fun n hn => by rw [Int.add_zero]; exact hy n hn) ?_
      intro j u j1 j2 hu n hn
      have un := hu n hn
      have e1 := hu (10 * a + 0).toNat (by omega)
      have e2 := hu (10 * 0 + j).toNat (by omega)
      unfold q_j
      by_cases g : u (10 * a + 0).toNat < 1000000 ∧ u (10 * 0 + j).toNat < 1000000
      · rw [q_if_t g]
        unfold q_eg
        rw [m_lw_at]
        by_cases en : n = (10 * a + j).toNat
        · rw [if_pos en, if_pos (by omega)]
          rw [if_neg (by omega)] at un
          by_cases ca : a = 0
          · rw [if_neg (by omega)] at e2
            by_cases cj : j = 0
            · rw [if_neg (by omega)] at e1
              rw [if_pos (by omega)]
              omega
            · rw [if_pos (by omega), if_pos (by omega)] at e1
              rw [if_neg (by omega), if_pos (by omega)]
              omega
          · rw [if_pos (by omega)] at e2
            by_cases cj : j = 0
            · rw [if_neg (by omega)] at e1
              rw [if_pos (by omega)] at e2
              rw [if_neg (by omega), if_pos (by omega)]
              omega
            · rw [if_pos (by omega), if_neg (by omega), if_pos (by omega)] at e1
              rw [if_neg (by omega), if_pos (by omega)] at e2
              rw [if_neg (by omega), if_neg (by omega)]
              omega
        · rw [if_neg en]
          by_cases c : (n : Int) < 10 * a + j
          · rw [if_pos c] at un
            rw [if_pos (by omega)]
            exact un
          · rw [if_neg c] at un
            rw [if_neg (by omega)]
            exact un
      · rw [q_if_f g]
        by_cases c : (n : Int) < 10 * a + j
        · rw [if_pos c] at un
          rw [if_pos (by omega)]
          exact un
        · rw [if_neg c] at un
          split
          · split
            · omega
            · split <;> omega
          · exact un
    have hrows : ∀ n : Nat, n < 100 → (if (n : Int) < 10 * i then (if n = 0 then -(2 * B) else if n < 10 ∨ n % 10 = 0 then -(3 * B) else -(6 * B)) else -B) ≤ q_fr (q_i 0) 0 i f n := by
      refine q_fr_ind (f := q_i 0) (fun a (y : Nat → Int) => a ≤ 10 → ∀ n : Nat, n < 100 → (if (n : Int) < 10 * a then (if n = 0 then -(2 * B) else if n < 10 ∨ n % 10 = 0 then -(3 * B) else -(6 * B)) else -B) ≤ y n) hi.1 (fun _ n hn => by rw [if_neg (by omega)]; exact h n hn) ?_ (by omega)
      intro a y a1 a2 hy ha n hn
      have r := rowlem a 10 y a1 (by omega) (by omega) (by omega) (hy (by omega)) n hn
      rw [show 10 * (a + 1) = 10 * a + 10 by omega]
      exact r
    exact rowlem i j _ hi.1 hi.2 hj.1 (by omega) hrows
  intro n hn
  have a := key n hn
  split at a
  · split at a
    · omega
    · split at a <;> omega
  · omega
