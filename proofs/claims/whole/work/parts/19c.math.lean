/-! mathematics that is owed, third part: closing in lockstep -/
theorem m_T_sh {z c M : Int} {w r : Nat → Int} (hz : z ≤ 10) (hM : 0 ≤ M ∧ 2 * M < 1000000) (hc : 0 ≤ c ∧ c < z) (h1 : m_T z w r) (h2 : m_O z w) (h3 : m_wb M w) : m_T z (m_sh c w) (q_cs z c r) ∧ m_O z (m_sh c w) ∧ m_wb (2 * M) (m_sh c w) := by
  refine ⟨?_, ?_, ?_⟩
  · intro i j i1 i2 j1 j2
    have a1 := h1 i c i1 i2 hc.1 hc.2
    have a2 := h1 c j hc.1 hc.2 j1 j2
    have a3 := h1 i j i1 i2 j1 j2
    have b1 := h3 (10 * i + c).toNat (by omega)
    have b2 := h3 (10 * c + j).toNat (by omega)
    have b3 := h3 (10 * i + j).toNat (by omega)
    have n1 := q_N_v (x := w (10 * i + c).toNat) (by omega)
    have n2 := q_N_v (x := w (10 * c + j).toNat) (by omega)
    have n3 := q_N_v (x := w (10 * i + j).toNat) (by omega)
    rw [m_sh_at (by omega) (by omega)]
    by_cases g : w (10 * i + c).toNat < 1000000 ∧ w (10 * c + j).toNat < 1000000 ∧ w (10 * i + c).toNat + w (10 * c + j).toNat < w (10 * i + j).toNat
    · rw [if_pos g]
      have n4 := q_N_v (x := w (10 * i + c).toNat + w (10 * c + j).toNat) (by omega)
      have e1 : r (10 * i + c).toNat = w (10 * i + c).toNat := by omega
      have e2 : r (10 * c + j).toNat = w (10 * c + j).toNat := by omega
      rw [q_cs_y hz ⟨i1, i2⟩ ⟨j1, j2⟩ (by omega), e1, e2]
      omega
    · rw [if_neg g, q_cs_n i1 (by omega) (by omega)]
      exact a3
  · intro i j i1 i2 j1 j2 g
    rw [m_sh_at ⟨i1, i2⟩ ⟨j1, j2⟩]
    have g1 := h2 i j i1 i2 j1 j2 g
    by_cases e : z ≤ i
    · have g2 := h2 i c i1 i2 hc.1 (by omega) (Or.inl e)
      rw [if_neg (show ¬ i = c by omega)] at g2
      rw [if_neg (by omega)]
      exact g1
    · have g2 := h2 c j hc.1 (by omega) j1 j2 (by omega)
      rw [if_neg (show ¬ c = j by omega)] at g2
      rw [if_neg (by omega)]
      exact g1
  · intro n hn
    have b3 := h3 n hn
    unfold m_sh
    have b1 := h3 (10 * ((n / 10 : Nat) : Int) + c).toNat (by omega)
    have b2 := h3 (10 * c + ((n % 10 : Nat) : Int)).toNat (by omega)
    split
    · right; omega
    · omega
theorem m_sh_id {z c : Int} {w : Nat → Int} (hc : z ≤ c ∧ 0 ≤ c ∧ c ≤ 9) (h2 : m_O z w) : m_sh c w = w := by
  funext n
  by_cases hn : n < 100
  · have e : n = (10 * ((n / 10 : Nat) : Int) + ((n % 10 : Nat) : Int)).toNat := by omega
    rw [e, m_sh_at (by omega) (by omega), if_neg]
    intro q
    have g1 := h2 ((n / 10 : Nat) : Int) c (by omega) (by omega) hc.2.1 hc.2.2 (Or.inr hc.1)
    have g2 := h2 c ((n % 10 : Nat) : Int) hc.2.1 hc.2.2 (by omega) (by omega) (Or.inl hc.1)
    by_cases a : ((n / 10 : Nat) : Int) = c
    · by_cases b : c = ((n % 10 : Nat) : Int)
      · rw [if_pos a] at g1
        rw [if_pos b] at g2
        have g3 := h2 ((n / 10 : Nat) : Int) ((n % 10 : Nat) : Int) (by omega) (by omega) (by omega) (by omega) (by omega)
        rw [if_pos (by omega)] at g3
        omega
      · rw [if_neg b] at g2; omega
    · rw [if_neg a] at g1; omega
  · unfold m_sh
    rw [if_neg (fun q => hn q.1)]
theorem m_okc_dg {z : Int} {w r : Nat → Int} (hz : z ≤ 10) (h1 : m_T z w r) (h2 : m_O z w) (h3 : ∀ n : Nat, n < 100 → w n ≤ 1000000) : q_okc z r ↔ q_dg w := by
  constructor
  · intro q i i1 i2
    rw [show (11 * i).toNat = (10 * i + i).toNat by omega]
    by_cases g : i < z
    · have a := q i i1 g
      rw [h1 i i i1 g i1 g] at a
      have b := h3 (10 * i + i).toNat (by omega)
      unfold q_N at a
      split at a <;> omega
    · rw [h2 i i i1 (by omega) i1 (by omega) (by omega), if_pos rfl]
      omega
  · intro q i i1 i2
    rw [h1 i i i1 i2 i1 i2]
    have a := q i i1 (by omega)
    rw [show (11 * i).toNat = (10 * i + i).toNat by omega] at a
    unfold q_N
    split <;> omega
theorem m_wb_le {M : Int} {w : Nat → Int} (hM : M < 1000000) (h : m_wb M w) : ∀ n : Nat, n < 100 → w n ≤ 1000000 := fun n hn => by
  have := h n hn
  omega
theorem m_p2v : q_p2 0 = 1 ∧ q_p2 9 = 512 ∧ q_p2 10 = 1024 := ⟨rfl, rfl, rfl⟩
/-- all stages, as long as no way back is below 0 -/
theorem m_chain {z : Int} {w r : Nat → Int} (hz : 1 ≤ z ∧ z ≤ 10) (h : m_R z 600 w r) : ∀ c : Nat, (c : Int) ≤ 10 → (∀ c' : Int, 0 ≤ c' → c' < c → q_dg (q_ps c' w)) → m_O z (q_ps c w) ∧ m_wb (600 * q_p2 c) (q_ps c w) ∧ ((c : Int) ≤ z → m_T z (q_ps c w) (q_cI z c r) ∧ m_OC z (q_cI z c r)) := by
  intro c
  induction c with
  | zero =>
    intro _ _
    have e1 : q_ps ((0 : Nat) : Int) w = w := q_fr_0 (by omega)
    have e2 : q_cI z ((0 : Nat) : Int) r = r := q_fr_0 (by omega)
    rw [e1, e2]
    refine ⟨h.2.1, ?_, fun _ => ⟨h.1, h.2.2.2.2⟩⟩
    have := h.2.2.1
    rw [show q_p2 ((0 : Nat) : Int) = 1 from rfl]
    exact this
  | succ c ih =>
    intro hc hd
    have ih1 := ih (by omega) (fun c' g1 g2 => hd c' g1 (by omega))
    have hdc := hd c (by omega) (by omega) c (by omega) (by omega)
    rw [show (11 * (c : Int)).toNat = (10 * (c : Int) + c).toNat by omega] at hdc
    have e1 : q_ps ((c + 1 : Nat) : Int) w = m_sh c (q_ps c w) := by
      rw [show ((c + 1 : Nat) : Int) = (c : Int) + 1 by omega, q_ps_s (by omega), m_ph_eq (by omega) hdc]
    have p1 := q_p2_s (a := c) (by omega)
    have p2 := q_p2_le (a := c) (b := 9) (by omega) (by omega)
    have p3 := m_p2v
    have p4 : 1 ≤ q_p2 c := by
      have := q_p2_le (a := 0) (b := c) (by omega) (by omega)
      omega
    rw [e1, show ((c + 1 : Nat) : Int) = (c : Int) + 1 by omega, p1]
    by_cases g : (c : Int) < z
    · obtain ⟨t1, t2⟩ := ih1.2.2 (by omega)
      have s := m_T_sh (M := 600 * q_p2 c) hz.2 (by omega) ⟨by omega, g⟩ t1 ih1.1 ih1.2.1
      refine ⟨s.2.1, ?_, fun _ => ⟨?_, ?_⟩⟩
      · rw [show 600 * (2 * q_p2 c) = 2 * (600 * q_p2 c) by omega]; exact s.2.2
      · rw [q_cI_s (by omega)]; exact s.1
      · rw [q_cI_s (by omega)]
        intro i j i1 i2 j1 j2 e
        rw [q_cs_n i1 (by omega) (fun q => by omega)]
        exact t2 i j i1 i2 j1 j2 e
    · rw [m_sh_id ⟨by omega, by omega, by omega⟩ ih1.1]
      refine ⟨ih1.1, ?_, fun q => by omega⟩
      intro n hn
      have := ih1.2.1 n hn
      omega
theorem m_dg0 {z M : Int} {w r : Nat → Int} (h : m_R z M w r) : q_dg (q_ps 0 w) := by
  rw [show q_ps 0 w = w from q_fr_0 (by omega)]
  intro i i1 i2
  rw [show (11 * i).toNat = (10 * i + i).toNat by omega, h.2.2.2.1 i i1 (by omega)]
  omega
theorem m_ok_all {z M : Int} {w r : Nat → Int} (h : m_R z M w r) (hk : q_ok w) : ∀ c : Int, 0 ≤ c → c ≤ 10 → q_dg (q_ps c w) := by
  intro c h1 h2
  by_cases g : c = 0
  · rw [g]; exact m_dg0 h
  · have := hk (c - 1) (by omega) (by omega)
    rw [show c - 1 + 1 = c by omega] at this
    exact this
/-- what is copied is as well held -/
theorem m_R_cp {z M : Int} {w r u : Nat → Int} (hz : z ≤ 10) (h : m_R z M w r) : m_R z M w (q_cp 100 r u) := by
  obtain ⟨h1, h2, h3, h4, h5⟩ := h
  refine ⟨?_, h2, h3, h4, ?_⟩
  · intro i j i1 i2 j1 j2
    rw [q_cp_full (by omega)]
    exact h1 i j i1 i2 j1 j2
  · intro i j i1 i2 j1 j2 c
    rw [q_cp_full (by omega)]
    exact h5 i j i1 i2 j1 j2 c
theorem m_okc_c {z : Int} {w r : Nat → Int} (hz : 1 ≤ z ∧ z ≤ 10) (h : m_R z 600 w r) {c : Int} (hc : 0 ≤ c ∧ c ≤ z) (hd : ∀ c' : Int, 0 ≤ c' → c' < c → q_dg (q_ps c' w)) : q_okc z (q_cI z c r) ↔ q_dg (q_ps c w) := by
  have m := m_chain hz h c.toNat (by omega) (fun c' g1 g2 => hd c' g1 (by omega))
  rw [Int.toNat_of_nonneg hc.1] at m
  have p2 := q_p2_le (a := c) (b := 10) (by omega) (by omega)
  have p3 := m_p2v
  exact m_okc_dg hz.2 (m.2.2 hc.2).1 m.1 (m_wb_le (by omega) m.2.1)
theorem m_okc_all {z : Int} {w r : Nat → Int} (hz : 1 ≤ z ∧ z ≤ 10) (h : m_R z 600 w r) {m : Int} (hm : m ≤ z) (hk : ∀ c : Int, 0 ≤ c → c ≤ m → q_okc z (q_cI z c r)) : ∀ c : Int, 0 ≤ c → c ≤ m → q_dg (q_ps c w) := by
  have key : ∀ n : Nat, (n : Int) ≤ m → q_dg (q_ps n w) := by
    intro n
    induction n using Nat.strongRecOn with
    | _ n ih =>
      intro hn
      exact (m_okc_c hz h (c := n) (by omega) (fun c' g1 g2 => by
        have := ih c'.toNat (by omega) (by omega)
        rw [Int.toNat_of_nonneg g1] at this
        exact this)).mp (hk n (by omega) hn)
  intro c h1 h2
  have := key c.toNat (by omega)
  rw [Int.toNat_of_nonneg h1] at this
  exact this
theorem m_dg_up {z : Int} {w r : Nat → Int} (hz : 1 ≤ z ∧ z ≤ 10) (h : m_R z 600 w r) (hk : ∀ c : Int, 0 ≤ c → c ≤ z → q_dg (q_ps c w)) : ∀ d : Nat, z + d ≤ 10 → q_ps (z + d) w = q_ps z w := by
  have m := m_chain hz h z.toNat (by omega) (fun c' g1 g2 => hk c' g1 (by omega))
  rw [Int.toNat_of_nonneg (by omega)] at m
  intro d
  induction d with
  | zero => intro _; rw [show z + ((0 : Nat) : Int) = z by omega]
  | succ d ih =>
    intro hd
    have ih1 := ih (by omega)
    have hz0 := m.1 (z + d) (z + d) (by omega) (by omega) (by omega) (by omega) (by omega)
    rw [if_pos rfl] at hz0
    rw [show z + ((d + 1 : Nat) : Int) = z + (d : Int) + 1 by omega, q_ps_s (by omega), ih1, m_ph_eq (by omega) (by omega), m_sh_id ⟨by omega, by omega, by omega⟩ m.1]
theorem m_snd_ok {z : Int} {w W u : Nat → Int} (hz : 1 ≤ z ∧ z ≤ 10) (h0 : m_R z 600 w W) : q_snd z W u ↔ q_ok w := by
  have h := m_R_cp (u := u) hz.2 h0
  have hs := q_cz_ok (z := z) (r := q_cp 100 W u) (by omega)
  unfold q_snd
  constructor
  · intro q
    have e : q_cz z (q_cp 100 W u) = z := by
      rcases hs.2.2.2 with g | g
      · exact g
      · exact absurd q g
    have hk : ∀ c : Int, 0 ≤ c → c ≤ z → q_okc z (q_cI z c (q_cp 100 W u)) := by
      intro c c1 c2
      by_cases g : c = z
      · rw [g, ← e]; rw [e] at q ⊢; exact q
      · exact hs.2.2.1 c c1 (by omega)
    have hd := m_okc_all hz h (Int.le_refl z) hk
    intro c c1 c2
    by_cases g : c + 1 ≤ z
    · exact hd (c + 1) (by omega) g
    · have hu := m_dg_up hz h hd (c + 1 - z).toNat (by omega)
      rw [show z + (((c + 1 - z).toNat : Nat) : Int) = c + 1 by omega] at hu
      rw [hu]
      exact hd z (by omega) (Int.le_refl z)
  · intro q
    have hd := m_ok_all h q
    have hk : ∀ c : Int, 0 ≤ c → c ≤ z → q_okc z (q_cI z c (q_cp 100 W u)) := fun c c1 c2 => (m_okc_c hz h ⟨c1, c2⟩ (fun c' g1 g2 => hd c' g1 (by omega))).mpr (hd c c1 (by omega))
    exact hk _ hs.1 hs.2.1
theorem m_cls_eq {z : Int} {w W u : Nat → Int} (hz : 1 ≤ z ∧ z ≤ 10) (h0 : m_R z 600 w W) (hk : q_ok w) : q_cls z W u = q_cI z z (q_cp 100 W u) ∧ q_cg w = q_ps z w ∧ m_T z (q_ps z w) (q_cI z z (q_cp 100 W u)) ∧ m_OC z (q_cI z z (q_cp 100 W u)) ∧ m_O z (q_ps z w) ∧ m_wb 614400 (q_ps z w) := by
  have h := m_R_cp (u := u) hz.2 h0
  have hd := m_ok_all h hk
  have hs : q_czP z (q_cp 100 W u) z := ⟨by omega, Int.le_refl z, fun c c1 c2 => (m_okc_c hz h ⟨c1, by omega⟩ (fun c' g1 g2 => hd c' g1 (by omega))).mpr (hd c c1 (by omega)), Or.inl rfl⟩
  have m := m_chain hz h z.toNat (by omega) (fun c' g1 g2 => hd c' g1 (by omega))
  rw [Int.toNat_of_nonneg (by omega)] at m
  have p2 := q_p2_le (a := z) (b := 10) (by omega) (by omega)
  have p3 := m_p2v
  refine ⟨?_, ?_, (m.2.2 (Int.le_refl z)).1, (m.2.2 (Int.le_refl z)).2, m.1, ?_⟩
  · unfold q_cls; rw [q_cz_is hs]
  · rw [q_cg_t hk]
    have hu := m_dg_up hz h (fun c c1 c2 => hd c c1 (by omega)) (10 - z).toNat (by omega)
    rw [show z + (((10 - z).toNat : Nat) : Int) = 10 by omega] at hu
    exact hu
  · intro n hn
    have := m.2.1 n hn
    omega
theorem m_cw {z : Int} {w W u : Nat → Int} (hz : 1 ≤ z ∧ z ≤ 10) (h0 : m_R z 600 w W) : q_cw z (q_cp 100 W u) := by
  have h := m_R_cp (u := u) hz.2 h0
  intro c c1 c2 hk
  have hd := m_okc_all hz h (m := c) (by omega) hk
  have m := m_chain hz h c.toNat (by omega) (fun c' g1 g2 => hd c' g1 (by omega))
  rw [Int.toNat_of_nonneg c1] at m
  have p2 := q_p2_le (a := c) (b := 10) (by omega) (by omega)
  have p3 := m_p2v
  obtain ⟨t1, t2⟩ := m.2.2 (by omega)
  intro n hn
  have e : n = (10 * ((n / 10 : Nat) : Int) + ((n % 10 : Nat) : Int)).toNat := by omega
  by_cases g : ((n / 10 : Nat) : Int) < z ∧ ((n % 10 : Nat) : Int) < z
  · have a := t1 ((n / 10 : Nat) : Int) ((n % 10 : Nat) : Int) (by omega) g.1 (by omega) g.2
    rw [← e] at a
    have b := m.2.1 n hn
    have v := q_N_v (x := q_ps c w n) (by omega)
    rw [a]
    exact v.2.2
  · have a := t2 ((n / 10 : Nat) : Int) ((n % 10 : Nat) : Int) (by omega) (by omega) (by omega) (by omega) (by omega)
    rw [← e] at a
    rw [a]
    omega
theorem m_cw_lay {k lf r u : Nat → Int} (h : q_KR k) : q_cw (k 0) (q_cp 100 (q_lay k lf r) u) := by
  have h0 := h.r0
  exact m_cw (by omega) (m_R_lay (lf := lf) (g := fun _ => 0) (r := r) h)
theorem m_lay_con {k lf r u : Nat → Int} (h : q_KR k) : q_snd (k 0) (q_lay k lf r) u ↔ q_con k lf := by
  have h0 := h.r0
  exact m_snd_ok (by omega) (m_R_lay (lf := lf) (g := fun _ => 0) (r := r) h)
theorem m_lay_dd {k lf r u g : Nat → Int} (h : q_KR k) (hc : q_con k lf) : q_nD k (q_cls (k 0) (q_lay k lf r) u) (q_dd k lf g) := by
  have h0 := h.r0
  have m := m_cls_eq (u := u) (by omega) (m_R_lay (lf := lf) (g := g) (r := r) h) (m_con_eq.mpr hc)
  rw [m.1]
  unfold q_dd
  rw [m.2.1]
  exact m.2.2.1
theorem m_lay_rng {k lf r u : Nat → Int} (h : q_KR k) (hc : q_con k lf) : q_rng 100 (q_cls (k 0) (q_lay k lf r) u) := by
  have h0 := h.r0
  have m := m_cls_eq (u := u) (by omega) (m_R_lay (lf := lf) (g := fun _ => 0) (r := r) h) (m_con_eq.mpr hc)
  rw [m.1]
  intro n hn
  have e : n = (10 * ((n / 10 : Nat) : Int) + ((n % 10 : Nat) : Int)).toNat := by omega
  by_cases g : ((n / 10 : Nat) : Int) < k 0 ∧ ((n % 10 : Nat) : Int) < k 0
  · have a := m.2.2.1 ((n / 10 : Nat) : Int) ((n % 10 : Nat) : Int) (by omega) g.1 (by omega) g.2
    rw [← e] at a
    have b := m.2.2.2.2.2 n hn
    have v := q_N_v (x := q_ps (k 0) (q_net k lf (fun _ => 0)) n) (by omega)
    rw [a]
    exact v.2.2
  · have a := m.2.2.2.1 ((n / 10 : Nat) : Int) ((n % 10 : Nat) : Int) (by omega) (by omega) (by omega) (by omega) (by omega)
    rw [← e] at a
    rw [a]
    omega
/-- distances of a consistent net: within 614400, or none -/
theorem m_dd_r {k lf g : Nat → Int} {j : Nat} (h : q_KR k) (hc : q_con k lf) (hj : j < 100) : -614400 ≤ q_dd k lf g j ∧ (q_dd k lf g j ≤ 614400 ∨ q_dd k lf g j = 1000000) := by
  have h0 := h.r0
  have m := m_cls_eq (u := fun _ => 0) (by omega) (m_R_lay (lf := lf) (g := g) (r := fun _ => 0) h) (m_con_eq.mpr hc)
  unfold q_dd
  rw [m.2.1]
  have := m.2.2.2.2.2 j hj
  omega
theorem m_dX_D {k : Nat → Int} (h : q_KR k) (hc : q_con k (fun _ => 0)) : q_dX k (q_D k) := by
  have h0 := h.r0
  have m := m_cls_eq (u := fun _ => 0) (by omega) (m_R_lay (lf := fun _ => 0) (g := fun _ => 0) (r := fun _ => 0) h) (m_con_eq.mpr hc)
  intro i j i1 i2 j1 j2
  unfold q_D q_dd
  rw [m.2.1, m.2.2.2.2.1 i j i1 (by omega) (by omega) j2 (Or.inr j1), if_neg (by omega)]
