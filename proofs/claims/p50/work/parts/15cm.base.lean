/-! words and mathematics, each behind what it wants: chunk 13 -/
theorem m_chain2 {z : Int} {w r : Nat → Int} (hz : 1 ≤ z ∧ z ≤ 10) (h : m_R2 z w r) : ∀ c : Nat, (c : Int) ≤ 9 → (∀ c' : Int, 0 ≤ c' → c' < c → q_dg (q_ps c' w)) → m_O z (q_ps c w) ∧ m_wb (1100 * q_p2 c) (q_ps c w) ∧ ((c : Int) ≤ z → m_T z (q_ps c w) (q_cI z c r) ∧ m_OC z (q_cI z c r)) := by
  intro c
  induction c with
  | zero =>
    intro _ _
    have e1 : q_ps ((0 : Nat) : Int) w = w := q_fr_0 (by omega)
    have e2 : q_cI z ((0 : Nat) : Int) r = r := q_fr_0 (by omega)
    rw [e1, e2]
    refine ⟨h.2.1, ?_, fun _ => ⟨h.1, h.2.2.2.2⟩⟩
    have := h.2.2.1
    rw [show q_p2 ((0 : Nat) : Int) = 1 from rfl]
    exact this
  | succ c ih =>
    intro hc hd
    have ih1 := ih (by omega) (fun c' g1 g2 => hd c' g1 (by omega))
    have hdc := hd c (by omega) (by omega) c (by omega) (by omega)
    rw [show (11 * (c : Int)).toNat = (10 * (c : Int) + c).toNat by omega] at hdc
    have e1 : q_ps ((c + 1 : Nat) : Int) w = m_sh c (q_ps c w) := by
      rw [show ((c + 1 : Nat) : Int) = (c : Int) + 1 by omega, q_ps_s (by omega), m_ph_eq (by omega) hdc]
    have p1 := q_p2_s (a := c) (by omega)
    have p2 := q_p2_le (a := c) (b := 8) (by omega) (by omega)
    have p3 : q_p2 8 = 256 := rfl
    have p4 : 1 ≤ q_p2 c := by
      have := q_p2_le (a := 0) (b := c) (by omega) (by omega)
      have e0 : q_p2 0 = 1 := rfl
      omega
    rw [e1, show ((c + 1 : Nat) : Int) = (c : Int) + 1 by omega, p1]
    by_cases g : (c : Int) < z
    · obtain ⟨t1, t2⟩ := ih1.2.2 (by omega)
      have s := m_T_sh (M := 1100 * q_p2 c) hz.2 (by omega) ⟨by omega, g⟩ t1 ih1.1 ih1.2.1
      refine ⟨s.2.1, ?_, fun _ => ⟨?_, ?_⟩⟩
      · rw [show 1100 * (2 * q_p2 c) = 2 * (1100 * q_p2 c) by omega]; exact s.2.2
      · rw [q_cI_s (by omega)]; exact s.1
      · rw [q_cI_s (by omega)]
        intro i j i1 i2 j1 j2 e
        rw [q_cs_n i1 (by omega) (fun q => by omega)]
        exact t2 i j i1 i2 j1 j2 e
    · rw [m_sh_id ⟨by omega, by omega, by omega⟩ ih1.1]
      refine ⟨ih1.1, ?_, fun q => by omega⟩
      intro n hn
      have := ih1.2.1 n hn
      omega
theorem m_R2_cp {z : Int} {w r u : Nat → Int} (hz : z ≤ 10) (h : m_R2 z w r) : m_R2 z w (q_cp 100 r u) := by
  obtain ⟨h1, h2, h3, h4, h5⟩ := h
  refine ⟨?_, h2, h3, h4, ?_⟩
  · intro i j i1 i2 j1 j2
    rw [q_cp_full (by omega)]
    exact h1 i j i1 i2 j1 j2
  · intro i j i1 i2 j1 j2 c
    rw [q_cp_full (by omega)]
    exact h5 i j i1 i2 j1 j2 c
/-- the diagonal behind a phase: the same on both sides, whatever the sums off it -/
theorem m_dg_last {z c M : Int} {w r : Nat → Int} (hz : 1 ≤ z ∧ z ≤ 10) (hM : 0 ≤ M ∧ M < 1000000) (hc : 0 ≤ c ∧ c < z) (h1 : m_T z w r) (h2 : m_O z w) (h3 : m_wb M w) (hn : ∀ i : Int, 0 ≤ i → i ≤ 9 → w (10 * i + i).toNat ≤ 0) : q_okc z (q_cs z c r) ↔ q_dg (m_sh c w) := by
  have key : ∀ i : Int, 0 ≤ i → i < z → (0 ≤ q_cs z c r (10 * i + i).toNat ↔ 0 ≤ m_sh c w (10 * i + i).toNat) := by
    intro i i1 i2
    have a1 := h1 i c i1 i2 hc.1 hc.2
    have a2 := h1 c i hc.1 hc.2 i1 i2
    have a3 := h1 i i i1 i2 i1 i2
    have b1 := h3 (10 * i + c).toNat (by omega)
    have b2 := h3 (10 * c + i).toNat (by omega)
    have b3 := h3 (10 * i + i).toNat (by omega)
    have d3 := hn i i1 (by omega)
    have n1 := q_N_v (x := w (10 * i + c).toNat) (by omega)
    have n2 := q_N_v (x := w (10 * c + i).toNat) (by omega)
    have n3 := q_N_v (x := w (10 * i + i).toNat) (by omega)
    rw [m_sh_at (by omega) (by omega)]
    by_cases g : w (10 * i + c).toNat < 1000000 ∧ w (10 * c + i).toNat < 1000000 ∧ w (10 * i + c).toNat + w (10 * c + i).toNat < w (10 * i + i).toNat
    · rw [if_pos g]
      have e1 : r (10 * i + c).toNat = w (10 * i + c).toNat := by omega
      have e2 : r (10 * c + i).toNat = w (10 * c + i).toNat := by omega
      rw [q_cs_y hz.2 ⟨i1, i2⟩ ⟨i1, i2⟩ (by omega), e1, e2]
    · rw [if_neg g, q_cs_n i1 (by omega) (by omega), a3, n3.2.1 (by omega)]
  constructor
  · intro q i i1 i2
    rw [show (11 * i).toNat = (10 * i + i).toNat by omega]
    by_cases g : i < z
    · exact (key i i1 g).mp (q i i1 g)
    · have o := h2 i i i1 (by omega) i1 (by omega) (by omega)
      rw [if_pos rfl] at o
      have oc := h2 i c i1 (by omega) hc.1 (by omega) (by omega)
      rw [if_neg (by omega)] at oc
      rw [m_sh_at (by omega) (by omega), if_neg (by omega), o]
      omega
  · intro q i i1 i2
    have a := q i i1 (by omega)
    rw [show (11 * i).toNat = (10 * i + i).toNat by omega] at a
    exact (key i i1 i2).mpr a
theorem m_ps_le2 {w : Nat → Int} : ∀ c : Nat, (c : Int) ≤ 10 → (∀ c' : Int, 0 ≤ c' → c' < c → q_dg (q_ps c' w)) → ∀ n : Nat, q_ps c w n ≤ w n := by
  intro c
  induction c with
  | zero =>
    intro _ _ n
    rw [show q_ps ((0 : Nat) : Int) w = w from q_fr_0 (by omega)]
    exact Int.le_refl _
  | succ c ih =>
    intro hc hd n
    have hdc := hd c (by omega) (by omega) c (by omega) (by omega)
    rw [show (11 * (c : Int)).toNat = (10 * (c : Int) + c).toNat by omega] at hdc
    rw [show ((c + 1 : Nat) : Int) = (c : Int) + 1 by omega, q_ps_s (by omega), m_ph_eq (by omega) hdc]
    exact Int.le_trans (m_sh_le n) (ih (by omega) (fun c' g1 g2 => hd c' g1 (by omega)) n)
theorem m_okc_c2 {z : Int} {w r : Nat → Int} (hz : 1 ≤ z ∧ z ≤ 10) (h : m_R2 z w r) {c : Int} (hc : 0 ≤ c ∧ c ≤ z) (hd : ∀ c' : Int, 0 ≤ c' → c' < c → q_dg (q_ps c' w)) : q_okc z (q_cI z c r) ↔ q_dg (q_ps c w) := by
  have p9 : q_p2 9 = 512 := rfl
  by_cases g : c ≤ 9
  · have m := m_chain2 hz h c.toNat (by omega) (fun c' g1 g2 => hd c' g1 (by omega))
    rw [Int.toNat_of_nonneg hc.1] at m
    have p2 := q_p2_le (a := c) (b := 9) (by omega) (by omega)
    exact m_okc_dg hz.2 (m.2.2 hc.2).1 m.1 (m_wb_le (by omega) m.2.1)
  · have m := m_chain2 hz h 9 (by omega) (fun c' g1 g2 => hd c' g1 (by omega))
    have e9 : ((9 : Nat) : Int) = 9 := rfl
    rw [e9] at m
    have d9 := hd 9 (by omega) (by omega) 9 (by omega) (by omega)
    have l9 := m_ps_le2 (w := w) 9 (by omega) (fun c' g1 g2 => hd c' g1 (by omega))
    rw [e9] at l9
    have e1 : q_ps c w = m_sh 9 (q_ps 9 w) := by
      rw [show c = 9 + 1 by omega, q_ps_s (by omega), m_ph_eq (by omega) d9]
    have e2 : q_cI z c r = q_cs z 9 (q_cI z 9 r) := by
      rw [show c = 9 + 1 by omega, q_cI_s (by omega)]
    rw [e1, e2]
    refine m_dg_last hz (M := 1100 * q_p2 9) (by omega) (by omega) (m.2.2 (by omega)).1 m.1 m.2.1 ?_
    intro i i1 i2
    have a := l9 (10 * i + i).toNat
    rw [h.2.2.2.1 i i1 i2] at a
    exact a
theorem m_okc_all2 {z : Int} {w r : Nat → Int} (hz : 1 ≤ z ∧ z ≤ 10) (h : m_R2 z w r) {m : Int} (hm : m ≤ z) (hk : ∀ c : Int, 0 ≤ c → c ≤ m → q_okc z (q_cI z c r)) : ∀ c : Int, 0 ≤ c → c ≤ m → q_dg (q_ps c w) := by
  have key : ∀ n : Nat, (n : Int) ≤ m → q_dg (q_ps n w) := by
    intro n
    induction n using Nat.strongRecOn with
    | _ n ih =>
      intro hn
      exact (m_okc_c2 hz h (c := n) (by omega) (fun c' g1 g2 => by
        have := ih c'.toNat (by omega) (by omega)
        rw [Int.toNat_of_nonneg g1] at this
        exact this)).mp (hk n (by omega) hn)
  intro c h1 h2
  have := key c.toNat (by omega)
  rw [Int.toNat_of_nonneg h1] at this
  exact this
theorem m_cw2 {z : Int} {w W u : Nat → Int} (hz : 1 ≤ z ∧ z ≤ 10) (h0 : m_R2 z w W) : q_cw z (q_cp 100 W u) := by
  have h := m_R2_cp (u := u) hz.2 h0
  intro c c1 c2 hk
  have hd := m_okc_all2 hz h (m := c) (by omega) hk
  have m := m_chain2 hz h c.toNat (by omega) (fun c' g1 g2 => hd c' g1 (by omega))
  rw [Int.toNat_of_nonneg c1] at m
  have p2 := q_p2_le (a := c) (b := 9) (by omega) (by omega)
  have p9 : q_p2 9 = 512 := rfl
  obtain ⟨t1, t2⟩ := m.2.2 (by omega)
  intro n hn
  have e : n = (10 * ((n / 10 : Nat) : Int) + ((n % 10 : Nat) : Int)).toNat := by omega
  by_cases g : ((n / 10 : Nat) : Int) < z ∧ ((n % 10 : Nat) : Int) < z
  · have a := t1 ((n / 10 : Nat) : Int) ((n % 10 : Nat) : Int) (by omega) g.1 (by omega) g.2
    rw [← e] at a
    have b := m.2.1 n hn
    have v := q_N_v (x := q_ps c w n) (by omega)
    rw [a]
    exact v.2.2
  · have a := t2 ((n / 10 : Nat) : Int) ((n % 10 : Nat) : Int) (by omega) (by omega) (by omega) (by omega) (by omega)
    rw [← e] at a
    rw [a]
    omega
noncomputable def m_sB (k : Nat → Int) (p : Int) (f : Nat → Int) : Nat → Int := q_fr (q_sgB k (q_rtP k p).1 (q_rtP k p).2) 0 (k 1) f
theorem m_sb_st {k a h f : Nat → Int} {e : Int} : q_sb k a h (q_stE k e f) = q_stE k e (q_sb k a h f) := by
  unfold q_sb
  refine (q_fr_comm (h := q_stE k e) (fun b y _ _ => ?_)).symm
  unfold q_sbE
  by_cases g : q_hld k b
  · rw [q_if_t g, q_if_t g]
    unfold q_stE
    by_cases c : q_sta k e
    · rw [q_if_t c, q_if_t c, m_eg_comm (i := a (k (52 + 4 * b).toNat).toNat), m_eg_comm (i := a (k (52 + 4 * b).toNat).toNat)]
    · rw [q_if_f c, q_if_f c]
  · rw [q_if_f g, q_if_f g]
theorem m_fx_eq {k r : Nat → Int} : q_fx k r = q_fr (q_stE k) 1 (k 0) (q_fr (q_fxS k) 0 (q_p2 (k 2)) (q_ncl (k 0) r)) := by
  unfold q_fx
  exact q_fr_comm2 (f := q_stE k) (g := q_fxS k) (fun i j y _ _ _ _ => m_sb_st)
/-- an edge from an event to itself that is not below 0 changes nothing -/
theorem m_R_self {z i x : Int} {w r : Nat → Int} (h : m_R z 1100 w r) (hz : z ≤ 10) (hi : 0 ≤ i ∧ i < z) (hx : 0 ≤ x) : m_R z 1100 w (q_eg r i i x) := by
  have e : q_eg r i i x = r := by
    have a := h.1 i i hi.1 hi.2 hi.1 hi.2
    rw [h.2.2.2.1 i hi.1 (by omega)] at a
    have n := (q_N_v (x := 0) (by omega)).2.1 (by omega)
    rw [n] at a
    funext m
    unfold q_eg
    rw [m_lw_at]
    split
    · rename_i g; rw [g, a]; omega
    · rfl
  rw [e]
  exact h
theorem m_R_le {z M M' : Int} {w r : Nat → Int} (h : m_R z M w r) (hM : M ≤ M') : m_R z M' w r := by
  obtain ⟨h1, h2, h3, h4, h5⟩ := h
  refine ⟨h1, h2, fun n hn => ?_, h4, h5⟩
  have := h3 n hn
  omega
theorem m_R_fx {k g r : Nat → Int} (hk : q_KR k) (ho : ∀ p : Int, 0 ≤ p → p < q_p2 (k 2) → q_all (q_sgO k (q_rtP k p).1 (q_rtP k p).2) (k 1)) : m_R (k 0) 1100 (q_fr (q_stE k) 1 (k 0) (q_fr (m_sB k) 0 (q_p2 (k 2)) (q_clr g))) (q_fx k r) := by
  have h0 := hk.r0
  rw [m_fx_eq]
  refine q_fr_rel (f := q_stE k) (g := q_stE k) (m_R (k 0) 1100) ?_ ?_
  · refine q_fr_rel (f := m_sB k) (g := q_fxS k) (m_R (k 0) 1100) (m_R_le (m_R_clr (by omega)) (by omega)) ?_
    intro p x y p1 p2 h
    unfold m_sB q_fxS q_sb
    refine q_fr_rel (m_R (k 0) 1100) h ?_
    intro b x y b1 b2 h
    have o := ho p p1 p2 b b1 b2
    have hb := hk.bd b1 b2
    have rr : q_rb (q_rtP k p).1 (q_rtP k p).2 10 := m_rt_r (p := p) (x := (fun _ => 0, fun _ => 0)) hk
    have r1 := rr (k (52 + 4 * b).toNat) (by omega) (by omega)
    have r2 := rr (k (52 + 4 * b + 1).toNat) (by omega) (by omega)
    have s1 : 0 ≤ (q_rtP k p).2 (k (52 + 4 * b).toNat).toNat ∧ (q_rtP k p).2 (k (52 + 4 * b).toNat).toNat ≤ 600 := m_shift600 (p := p) (x := (fun _ => 0, fun _ => 0)) (e := k (52 + 4 * b).toNat) hk (by omega)
    have s2 : 0 ≤ (q_rtP k p).2 (k (52 + 4 * b + 1).toNat).toNat ∧ (q_rtP k p).2 (k (52 + 4 * b + 1).toNat).toNat ≤ 600 := m_shift600 (p := p) (x := (fun _ => 0, fun _ => 0)) (e := k (52 + 4 * b + 1).toNat) hk (by omega)
    unfold q_sgB q_sbE
    refine m_R_if (fun hh => ?_) (fun _ => h)
    by_cases c : (q_rtP k p).1 (k (52 + 4 * b).toNat).toNat = (q_rtP k p).1 (k (52 + 4 * b + 1).toNat).toNat
    · rw [q_if_f (fun q => q c), ← c]
      refine m_R_self h (by omega) (by omega) ?_
      rcases o hh with q | q
      · exact absurd c q
      · omega
    · rw [q_if_t c, show k (52 + 4 * b + 2).toNat + (q_rtP k p).2 (k (52 + 4 * b).toNat).toNat - (q_rtP k p).2 (k (52 + 4 * b + 1).toNat).toNat = k (52 + 4 * b + 2).toNat - (q_rtP k p).2 (k (52 + 4 * b + 1).toNat).toNat + (q_rtP k p).2 (k (52 + 4 * b).toNat).toNat by omega]
      exact m_R_eg h (by omega) (by omega) (by omega) (by omega) c (by omega)
  · intro e x y e1 e2 h
    have he := hk.st (e := e) (by omega) (by omega)
    unfold q_stE
    exact m_R_if (fun hs => m_R_eg (m_R_eg h (by omega) (by omega) (by omega) (by omega) (by omega) (by omega)) (by omega) (by omega) (by omega) (by omega) (by omega) (by omega)) (fun _ => h)
/-- a diagonal below 0 at once: not sound, and nothing to close -/
theorem m_neg_snd {z i : Int} {w u : Nat → Int} (hz : 1 ≤ z ∧ z ≤ 10) (hi : 0 ≤ i ∧ i < z) (h : w (10 * i + i).toNat < 0) : ¬ q_snd z w u ∧ q_cw z (q_cp 100 w u) := by
  have n0 : ¬ q_okc z (q_cI z 0 (q_cp 100 w u)) := by
    intro q
    have a := q i hi.1 hi.2
    have e : q_cI z 0 (q_cp 100 w u) = q_cp 100 w u := q_fr_0 (by omega)
    rw [e, q_cp_full (by omega)] at a
    omega
  constructor
  · have e : q_cz z (q_cp 100 w u) = 0 := q_cz_is ⟨by omega, by omega, fun c c1 c2 => by omega, Or.inr n0⟩
    unfold q_snd
    rw [e]
    exact n0
  · intro c c1 c2 hk
    exact absurd (hk 0 (by omega) c1) n0
/-- every bound that holds has its edge between the roots -/
theorem m_sb_has {k a h f : Nat → Int} (hk : q_KR k) : (∀ b : Int, 0 ≤ b → b < k 1 → q_hld k b → q_sb k a h f (10 * a (k (52 + 4 * b).toNat).toNat + a (k (52 + 4 * b + 1).toNat).toNat).toNat ≤ k (52 + 4 * b + 2).toNat - h (k (52 + 4 * b + 1).toNat).toNat + h (k (52 + 4 * b).toNat).toNat) ∧ ∀ n, q_sb k a h f n ≤ f n := by
  have h0 := hk.r0
  unfold q_sb
  refine q_fr_ind (f := q_sbE k a h) (fun i (y : Nat → Int) => (∀ b : Int, 0 ≤ b → b < i → q_hld k b → y (10 * a (k (52 + 4 * b).toNat).toNat + a (k (52 + 4 * b + 1).toNat).toNat).toNat ≤ k (52 + 4 * b + 2).toNat - h (k (52 + 4 * b + 1).toNat).toNat + h (k (52 + 4 * b).toNat).toNat) ∧ ∀ n, y n ≤ f n) (by omega) ⟨fun b b1 b2 => by omega, fun n => Int.le_refl _⟩ ?_
  intro i y i1 i2 hy
  unfold q_sbE
  by_cases g : q_hld k i
  · rw [q_if_t g]
    refine ⟨?_, fun n => Int.le_trans (m_eg_le n) (hy.2 n)⟩
    intro b b1 b2 b3
    by_cases c : b = i
    · rw [c]
      unfold q_eg
      rw [m_lw_at, if_pos rfl]
      omega
    · exact Int.le_trans (m_eg_le _) (hy.1 b b1 (by omega) b3)
  · rw [q_if_f g]
    refine ⟨?_, hy.2⟩
    intro b b1 b2 b3
    by_cases c : b = i
    · rw [c] at b3; exact absurd b3 g
    · exact hy.1 b b1 (by omega) b3
theorem m_fx_has {k r : Nat → Int} (hk : q_KR k) {p b : Int} (p1 : 0 ≤ p) (p2 : p < q_p2 (k 2)) (b1 : 0 ≤ b) (b2 : b < k 1) (hh : q_hld k b) : q_fx k r (10 * (q_rtP k p).1 (k (52 + 4 * b).toNat).toNat + (q_rtP k p).1 (k (52 + 4 * b + 1).toNat).toNat).toNat ≤ k (52 + 4 * b + 2).toNat - (q_rtP k p).2 (k (52 + 4 * b + 1).toNat).toNat + (q_rtP k p).2 (k (52 + 4 * b).toNat).toNat := by
  unfold q_fx
  have key := q_fr_ind (f := q_fxS k) (a := 0) (n := q_p2 (k 2)) (x := q_fr (q_stE k) 1 (k 0) (q_ncl (k 0) r)) (fun i (y : Nat → Int) => p < i → y (10 * (q_rtP k p).1 (k (52 + 4 * b).toNat).toNat + (q_rtP k p).1 (k (52 + 4 * b + 1).toNat).toNat).toNat ≤ k (52 + 4 * b + 2).toNat - (q_rtP k p).2 (k (52 + 4 * b + 1).toNat).toNat + (q_rtP k p).2 (k (52 + 4 * b).toNat).toNat) (by omega) (fun q => by omega) (by
    intro i y i1 i2 hy q
    unfold q_fxS
    by_cases c : p = i
    · rw [← c]
      exact (m_sb_has hk).1 b b1 b2 hh
    · exact Int.le_trans ((m_sb_has hk).2 _) (hy (by omega)))
  exact key p2
theorem m_fx_cases {k : Nat → Int} (hk : q_KR k) : (∀ p : Int, 0 ≤ p → p < q_p2 (k 2) → q_all (q_sgO k (q_rtP k p).1 (q_rtP k p).2) (k 1)) ∨ ((¬ ∀ p : Int, 0 ≤ p → p < q_p2 (k 2) → q_all (q_sgO k (q_rtP k p).1 (q_rtP k p).2) (k 1)) ∧ ∀ r : Nat → Int, ∃ i : Int, (0 ≤ i ∧ i < k 0) ∧ q_fx k r (10 * i + i).toNat < 0) := by
  by_cases c : ∀ p : Int, 0 ≤ p → p < q_p2 (k 2) → q_all (q_sgO k (q_rtP k p).1 (q_rtP k p).2) (k 1)
  · exact Or.inl c
  · refine Or.inr ⟨c, fun r => ?_⟩
    have h0 := hk.r0
    refine Classical.byContradiction (fun hn => c (fun p p1 p2 b b1 b2 hh => ?_))
    refine Classical.byContradiction (fun hx => hn ?_)
    have hb := hk.bd b1 b2
    have rr : q_rb (q_rtP k p).1 (q_rtP k p).2 10 := m_rt_r (p := p) (x := (fun _ => 0, fun _ => 0)) hk
    have r1 := rr (k (52 + 4 * b).toNat) (by omega) (by omega)
    have e : (q_rtP k p).1 (k (52 + 4 * b).toNat).toNat = (q_rtP k p).1 (k (52 + 4 * b + 1).toNat).toNat := Classical.not_not.mp (fun q => hx (Or.inl q))
    have l : ¬ 0 ≤ k (52 + 4 * b + 2).toNat + (q_rtP k p).2 (k (52 + 4 * b).toNat).toNat - (q_rtP k p).2 (k (52 + 4 * b + 1).toNat).toNat := fun q => hx (Or.inr q)
    have f := m_fx_has (r := r) hk p1 p2 b1 b2 hh
    rw [← e] at f
    exact ⟨(q_rtP k p).1 (k (52 + 4 * b).toNat).toNat, by omega, by omega⟩
theorem m_cw_fx {k r u : Nat → Int} (h : q_KR k) : q_cw (k 0) (q_cp 100 (q_fx k r) u) := by
  have h0 := h.r0
  rcases m_fx_cases h with c | ⟨_, c⟩
  · exact m_cw2 (by omega) (m_R_fx (g := fun _ => 0) h c)
  · obtain ⟨i, hi, hn⟩ := c r
    exact (m_neg_snd (u := u) (by omega) hi hn).2
theorem q_cw_fx {k r u : Nat → Int} (h : q_KR k) : q_cw (k 0) (q_cp 100 (q_fx k r) u) := m_cw_fx h
theorem m_dg_up2 {z : Int} {w r : Nat → Int} (hz : 1 ≤ z ∧ z ≤ 9) (h : m_R2 z w r) (hk : ∀ c : Int, 0 ≤ c → c ≤ z → q_dg (q_ps c w)) : ∀ d : Nat, z + d ≤ 10 → q_ps (z + d) w = q_ps z w := by
  have m := m_chain2 (by omega) h z.toNat (by omega) (fun c' g1 g2 => hk c' g1 (by omega))
  rw [Int.toNat_of_nonneg (by omega)] at m
  intro d
  induction d with
  | zero => intro _; rw [show z + ((0 : Nat) : Int) = z by omega]
  | succ d ih =>
    intro hd
    have ih1 := ih (by omega)
    have hz0 := m.1 (z + d) (z + d) (by omega) (by omega) (by omega) (by omega) (by omega)
    rw [if_pos rfl] at hz0
    rw [show z + ((d + 1 : Nat) : Int) = z + (d : Int) + 1 by omega, q_ps_s (by omega), ih1, m_ph_eq (by omega) (by omega), m_sh_id ⟨by omega, by omega, by omega⟩ m.1]
theorem m_dg02 {z : Int} {w r : Nat → Int} (h : m_R2 z w r) : q_dg (q_ps 0 w) := by
  rw [show q_ps 0 w = w from q_fr_0 (by omega)]
  intro i i1 i2
  rw [show (11 * i).toNat = (10 * i + i).toNat by omega, h.2.2.2.1 i i1 (by omega)]
  omega
