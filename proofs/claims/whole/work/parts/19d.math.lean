/-! mathematics that is owed, fourth part: corners; sums within bounds -/
theorem q_fr_merge {α : Type} {f g : Int → α → α} {a n : Int} {x : α} (hc : ∀ i j y, a ≤ i → i < n → a ≤ j → j < n → g j (f i y) = f i (g j y)) : q_fr g a n (q_fr f a n x) = q_fr (fun i y => g i (f i y)) a n x := by
  rcases Int.lt_or_le n a with h | h
  · rw [q_fr_0 (by omega), q_fr_0 (by omega), q_fr_0 (by omega)]
  · have key : ∀ d : Nat, a + d ≤ n → q_fr g a (a + d) (q_fr f a (a + d) x) = q_fr (fun i y => g i (f i y)) a (a + d) x := by
      intro d
      induction d with
      | zero => intro _; rw [q_fr_0 (by omega), q_fr_0 (by omega), q_fr_0 (by omega)]
      | succ d ih =>
        intro hd
        have ih1 := ih (by omega)
        rw [show a + ((d + 1 : Nat) : Int) = a + (d : Int) + 1 by omega, q_fr_s (by omega), q_fr_s (by omega), q_fr_s (by omega)]
        rw [← q_fr_comm (f := g) (h := f (a + d)) (fun i y h1 h2 => (hc (a + d) i y (by omega) (by omega) h1 (by omega)).symm), ih1]
    have h9 := key (n - a).toNat (by omega)
    rw [show a + (((n - a).toNat : Nat) : Int) = n by omega] at h9
    exact h9
theorem m_eg_comm {f : Nat → Int} {i j x a b y : Int} : q_eg (q_eg f i j x) a b y = q_eg (q_eg f a b y) i j x := m_lw_comm
theorem m_co_st {k : Nat → Int} {p s e : Int} {f : Nat → Int} : q_coE k p s (q_stE k e f) = q_stE k e (q_coE k p s f) := by
  unfold q_stE
  by_cases h : q_sta k e
  · rw [q_if_t h, q_if_t h]
    unfold q_coE
    rw [m_eg_comm (i := e) (j := 0), m_eg_comm (i := 0) (j := e), m_eg_comm (i := e) (j := 0), m_eg_comm (i := 0) (j := e)]
  · rw [q_if_f h, q_if_f h]
theorem m_lp_st {k : Nat → Int} {p s e : Int} {f : Nat → Int} : q_lpE k p s (q_stE k e f) = q_stE k e (q_lpE k p s f) := by
  unfold q_lpE
  by_cases g : q_sta k (k (212 + 4 * s + 1).toNat)
  · rw [q_if_t g, q_if_t g]
  · rw [q_if_f g, q_if_f g]
    unfold q_stE
    by_cases h : q_sta k e
    · rw [q_if_t h, q_if_t h]
      rw [m_eg_comm (i := e) (j := 0), m_eg_comm (i := 0) (j := e), m_eg_comm (i := e) (j := 0), m_eg_comm (i := 0) (j := e)]
    · rw [q_if_f h, q_if_f h]
theorem m_lp_sp {k : Nat → Int} {p s t : Int} {f : Nat → Int} : q_lpE k p s (q_spE k t f) = q_spE k t (q_lpE k p s f) := by
  unfold q_lpE
  by_cases g : q_sta k (k (212 + 4 * s + 1).toNat)
  · rw [q_if_t g, q_if_t g]
  · rw [q_if_f g, q_if_f g]
    unfold q_spE
    rw [m_eg_comm (i := k (212 + 4 * t + 1).toNat) (j := k (212 + 4 * t).toNat), m_eg_comm (i := k (212 + 4 * t).toNat) (j := k (212 + 4 * t + 1).toNat), m_eg_comm (i := k (212 + 4 * t + 1).toNat) (j := k (212 + 4 * t).toNat), m_eg_comm (i := k (212 + 4 * t).toNat) (j := k (212 + 4 * t + 1).toNat)]
theorem m_eg_pk {f : Nat → Int} {a b L P G : Int} (h1 : L ≤ P) (h2 : P ≤ G) : q_eg (q_eg (q_eg (q_eg f a b G) b a (-L)) a b P) b a (-P) = q_eg (q_eg f a b P) b a (-P) := by
  funext n
  unfold q_eg
  rw [m_lw_at, m_lw_at, m_lw_at, m_lw_at, m_lw_at, m_lw_at]
  (repeat' split) <;> omega
theorem m_R_wk {k lf g r : Nat → Int} {p : Int} (hk : q_KR k) : m_R (k 0) 600 (q_cor k p (q_bds k lf g)) (q_fr (q_lpE k p) 0 (k 2) (q_lay k lf r)) := by
  have h0 := hk.r0
  have e1 : q_cor k p (q_bds k lf g) = q_fr (q_stE k) 1 (k 0) (q_fr (q_coE k p) 0 (k 2) (q_fr (q_bdE k lf) 0 (k 1) (q_clr g))) := by
    unfold q_cor q_bds
    exact q_fr_comm2 (fun i j y _ _ _ _ => m_co_st)
  have e2 : q_fr (q_lpE k p) 0 (k 2) (q_lay k lf r) = q_fr (q_stE k) 1 (k 0) (q_fr (fun s y => q_lpE k p s (q_spE k s y)) 0 (k 2) (q_fr (q_bdE k lf) 0 (k 1) (q_ncl (k 0) r))) := by
    unfold q_lay
    rw [q_fr_comm2 (f := q_stE k) (g := q_lpE k p) (fun i j y _ _ _ _ => m_lp_st), q_fr_merge (f := q_spE k) (g := q_lpE k p) (fun i j y _ _ _ _ => m_lp_sp)]
  rw [e1, e2]
  refine q_fr_rel (m_R (k 0) 600) ?_ ?_
  · refine q_fr_rel (m_R (k 0) 600) ?_ ?_
    · refine q_fr_rel (m_R (k 0) 600) (m_R_clr (by omega)) ?_
      intro b x y b1 b2 h
      have hb := hk.bd b1 b2
      unfold q_bdE
      exact m_R_if (fun _ => m_R_eg h (by omega) (by omega) (by omega) (by omega) hb.2.2.1 (by omega)) (fun _ => h)
    · intro s x y s1 s2 h
      have hs := hk.sp s1 s2
      have hp := q_pck_r (p := p) hk s1 s2
      unfold q_lpE
      by_cases g : q_sta k (k (212 + 4 * s + 1).toNat)
      · rw [q_if_t g]
        unfold q_coE q_spE
        rw [q_if_t (p := q_sta k (k (212 + 4 * s + 1).toNat) ∨ q_up p s) (Or.inl g), q_if_t (p := q_sta k (k (212 + 4 * s + 1).toNat) ∨ ¬ q_up p s) (Or.inl g)]
        exact m_R_eg (m_R_eg h (by omega) (by omega) (by omega) (by omega) (by omega) (by omega)) (by omega) (by omega) (by omega) (by omega) (by omega) (by omega)
      · rw [q_if_f g]
        have e3 : q_coE k p s x = q_eg (q_eg x (k (212 + 4 * s).toNat) (k (212 + 4 * s + 1).toNat) (q_pck k p s)) (k (212 + 4 * s + 1).toNat) (k (212 + 4 * s).toNat) (-(q_pck k p s)) := by
          unfold q_coE q_pck
          by_cases u : q_up p s
          · rw [q_if_t (p := q_sta k (k (212 + 4 * s + 1).toNat) ∨ q_up p s) (Or.inr u), q_if_f (p := q_sta k (k (212 + 4 * s + 1).toNat) ∨ ¬ q_up p s) (fun q => q.elim g (fun a => a u)), q_if_t u]
          · rw [q_if_f (p := q_sta k (k (212 + 4 * s + 1).toNat) ∨ q_up p s) (fun q => q.elim g u), q_if_t (p := q_sta k (k (212 + 4 * s + 1).toNat) ∨ ¬ q_up p s) (Or.inr u), q_if_f u]
        have hLG : k (212 + 4 * s + 2).toNat ≤ q_pck k p s ∧ q_pck k p s ≤ k (212 + 4 * s + 3).toNat := by
          unfold q_pck
          by_cases u : q_up p s
          · rw [q_if_t u]; omega
          · rw [q_if_f u]; omega
        rw [e3]
        unfold q_spE
        rw [m_eg_pk hLG.1 hLG.2]
        exact m_R_eg (m_R_eg h (by omega) (by omega) (by omega) (by omega) (by omega) (by omega)) (by omega) (by omega) (by omega) (by omega) (by omega) (by omega)
  · intro e x y e1 e2 h
    have he := hk.st (e := e) (by omega) (by omega)
    unfold q_stE
    exact m_R_if (fun hs => m_R_eg (m_R_eg h (by omega) (by omega) (by omega) (by omega) (by omega) (by omega)) (by omega) (by omega) (by omega) (by omega) (by omega) (by omega)) (fun _ => h)
theorem m_cw_wk {k lf r u : Nat → Int} {p : Int} (h : q_KR k) : q_cw (k 0) (q_cp 100 (q_fr (q_lpE k p) 0 (k 2) (q_lay k lf r)) u) := by
  have h0 := h.r0
  exact m_cw (by omega) (m_R_wk (lf := lf) (g := fun _ => 0) (r := r) (p := p) h)
theorem m_lay_wk {k lf r u : Nat → Int} {p : Int} (h : q_KR k) : q_snd (k 0) (q_fr (q_lpE k p) 0 (k 2) (q_lay k lf r)) u ↔ q_wkP k lf p := by
  have h0 := h.r0
  exact m_snd_ok (by omega) (m_R_wk (lf := lf) (g := fun _ => 0) (r := r) (p := p) h)
/-- within a phase -/
theorem m_at_eq {c i j : Int} {f : Nat → Int} (hc : 0 ≤ c ∧ c ≤ 9) (hd : 0 ≤ f (10 * c + c).toNat) (hi : 0 ≤ i ∧ i ≤ 9) (hj : 0 ≤ j ∧ j ≤ 10) : ∀ n : Nat, q_fr (q_j c i) 0 j (q_fr (q_i c) 0 i f) n = if (n : Int) < 10 * i + j then m_sh c f n else f n := by
  have hcol : ∀ i : Int, 0 ≤ i → i ≤ 9 → m_sh c f (10 * i + c).toNat = f (10 * i + c).toNat := by
    intro i h1 h2
    rw [m_sh_at ⟨h1, h2⟩ hc, if_neg (by omega)]
  have hrow : ∀ j : Int, 0 ≤ j → j ≤ 9 → m_sh c f (10 * c + j).toNat = f (10 * c + j).toNat := by
    intro j h1 h2
    rw [m_sh_at hc ⟨h1, h2⟩, if_neg (by omega)]
  have inner : ∀ (i : Int) (y : Nat → Int), 0 ≤ i → i ≤ 9 → (∀ n : Nat, y n = if (n : Int) < 10 * i then m_sh c f n else f n) → ∀ m : Int, 0 ≤ m → m ≤ 10 → ∀ n : Nat, q_fr (q_j c i) 0 m y n = if (n : Int) < 10 * i + m then m_sh c f n else f n := by
    intro i y i1 i2 hy m m1 m2
    refine q_fr_ind (f := q_j c i) (fun j (u : Nat → Int) => j ≤ 10 → ∀ n : Nat, u n = if (n : Int) < 10 * i + j then m_sh c f n else f n) m1 (fun _ n => by rw [hy n, Int.add_zero]) ?_ m2
    intro j u j1 j2 hu0 _
    have hu := hu0 (by omega)
    have e1 : u (10 * i + c).toNat = f (10 * i + c).toNat := by
      rw [hu]
      split
      · exact hcol i i1 i2
      · rfl
    have e2 : u (10 * c + j).toNat = f (10 * c + j).toNat := by
      rw [hu]
      split
      · exact hrow j j1 (by omega)
      · rfl
    have e3 : u (10 * i + j).toNat = f (10 * i + j).toNat := by rw [hu, if_neg (by omega)]
    intro n
    unfold q_j
    rw [e1, e2]
    have e4 := m_sh_at (c := c) (f := f) (i := i) (j := j) (by omega) (by omega)
    by_cases hn : n = (10 * i + j).toNat
    · rw [hn, if_pos (by omega), e4]
      by_cases g : f (10 * i + c).toNat < 1000000 ∧ f (10 * c + j).toNat < 1000000
      · rw [q_if_t g]
        unfold q_eg
        rw [m_lw_at, if_pos rfl, e3]
        split <;> omega
      · rw [q_if_f g, e3, if_neg (fun q => g ⟨q.1, q.2.1⟩)]
    · have e5 : (q_if (f (10 * i + c).toNat < 1000000 ∧ f (10 * c + j).toNat < 1000000) (q_eg u i j (f (10 * i + c).toNat + f (10 * c + j).toNat)) u) n = u n := by
        by_cases g : f (10 * i + c).toNat < 1000000 ∧ f (10 * c + j).toNat < 1000000
        · rw [q_if_t g]
          unfold q_eg
          rw [m_lw_at, if_neg hn]
        · rw [q_if_f g]
      rw [e5, hu n]
      by_cases g : (n : Int) < 10 * i + j
      · rw [if_pos g, if_pos (by omega)]
      · rw [if_neg g, if_neg (by omega)]
  have outer : ∀ n : Nat, q_fr (q_i c) 0 i f n = if (n : Int) < 10 * i then m_sh c f n else f n := by
    refine q_fr_ind (f := q_i c) (fun i (y : Nat → Int) => i ≤ 9 → ∀ n : Nat, y n = if (n : Int) < 10 * i then m_sh c f n else f n) hi.1 (fun _ n => by rw [if_neg (by omega)]) ?_ hi.2
    intro i y i1 i2 hy _ n
    unfold q_i
    rw [inner i y i1 (by omega) (hy (by omega)) 10 (by omega) (by omega) n, show 10 * i + 10 = 10 * (i + 1) by omega]
  exact inner i _ hi.1 hi.2 outer j hj.1 hj.2
theorem m_wb_sh {M c : Int} {w : Nat → Int} (hM : 0 ≤ M) (hc : 0 ≤ c ∧ c ≤ 9) (h3 : m_wb M w) : m_wb (2 * M) (m_sh c w) := by
  intro n hn
  have b3 := h3 n hn
  unfold m_sh
  have b1 := h3 (10 * ((n / 10 : Nat) : Int) + c).toNat (by omega)
  have b2 := h3 (10 * c + ((n % 10 : Nat) : Int)).toNat (by omega)
  split
  · right; omega
  · omega
theorem m_wbc {M : Int} {f : Nat → Int} (hM : 0 ≤ M) (h : m_wb M f) (hd0 : q_dg f) : ∀ c : Nat, (c : Int) ≤ 10 → (∀ c1 : Int, 0 ≤ c1 → c1 < c → q_dg (q_ps (c1 + 1) f)) → m_wb (M * q_p2 c) (q_ps c f) ∧ q_dg (q_ps c f) := by
  intro c
  induction c with
  | zero =>
    intro _ _
    have e1 : q_ps ((0 : Nat) : Int) f = f := q_fr_0 (by omega)
    rw [e1, show q_p2 ((0 : Nat) : Int) = 1 from rfl, Int.mul_one]
    exact ⟨h, hd0⟩
  | succ c ih =>
    intro hc hd
    have ih1 := ih (by omega) (fun c1 g1 g2 => hd c1 g1 (by omega))
    have hdc := ih1.2 c (by omega) (by omega)
    rw [show (11 * (c : Int)).toNat = (10 * (c : Int) + c).toNat by omega] at hdc
    have hp : 1 ≤ q_p2 c := by
      have := q_p2_le (a := 0) (b := c) (by omega) (by omega)
      have e0 : q_p2 0 = 1 := rfl
      omega
    refine ⟨?_, ?_⟩
    · rw [show ((c + 1 : Nat) : Int) = (c : Int) + 1 by omega, q_ps_s (by omega), m_ph_eq (by omega) hdc, q_p2_s (by omega)]
      have := m_wb_sh (c := c) (Int.mul_nonneg hM (by omega : (0 : Int) ≤ q_p2 c)) (by omega) ih1.1
      rw [show M * (2 * q_p2 c) = 2 * (M * q_p2 c) from Int.mul_left_comm M 2 (q_p2 c)]
      exact this
    · have := hd c (by omega) (by omega)
      rw [show ((c + 1 : Nat) : Int) = (c : Int) + 1 by omega]
      exact this
theorem m_cb {f : Nat → Int} (h : m_wb 1100 f) (hd0 : q_dg f) : q_cb f := by
  intro c i j c1 c2 hd i1 i2 j1 j2
  have m := m_wbc (by omega) h hd0 c.toNat (by omega) (fun c1 g1 g2 => hd c1 g1 (by omega))
  rw [Int.toNat_of_nonneg c1] at m
  have hdc := m.2 c c1 (by omega)
  rw [show (11 * c).toNat = (10 * c + c).toNat by omega] at hdc
  have hp := q_p2_le (a := c) (b := 9) c1 (by omega)
  have p3 := m_p2v
  have hp1 : 1 ≤ q_p2 c := by
    have := q_p2_le (a := 0) (b := c) (by omega) (by omega)
    omega
  have w2 := m_wb_sh (c := c) (M := 1100 * q_p2 c) (by omega) ⟨c1, c2⟩ m.1
  have key : ∀ n : Nat, n < 100 → -1000000000 ≤ q_at f c i j n := by
    intro n hn
    unfold q_at
    rw [m_at_eq ⟨c1, c2⟩ hdc ⟨i1, i2⟩ ⟨j1, by omega⟩ n]
    have a := m.1 n hn
    have b := w2 n hn
    split <;> omega
  exact ⟨key _ (by omega), key _ (by omega)⟩
theorem m_R_cb {z : Int} {w r : Nat → Int} (h : m_R z 600 w r) : q_cb w := by
  refine m_cb (fun n hn => ?_) ?_
  · have := h.2.2.1 n hn
    omega
  · intro i i1 i2
    rw [show (11 * i).toNat = (10 * i + i).toNat by omega, h.2.2.2.1 i i1 (by omega)]
    omega
theorem m_cb_net {k lf g : Nat → Int} (h : q_KR k) : q_cb (q_net k lf g) := m_R_cb (m_R_lay (lf := lf) (g := g) (r := fun _ => 0) h)
theorem m_cb_weak {k lf g : Nat → Int} {p : Int} (h : q_KR k) : q_cb (q_cor k p (q_bds k lf g)) := m_R_cb (m_R_wk (lf := lf) (g := g) (r := fun _ => 0) (p := p) h)
