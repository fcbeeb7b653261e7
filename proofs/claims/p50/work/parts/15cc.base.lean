/-! words and mathematics, each behind what it wants: chunk 3 -/
theorem m_tri_sh {c M : Int} {w : Nat → Int} (hM : 0 ≤ M ∧ 2 * M < 1000000) (hc : 0 ≤ c ∧ c ≤ 9) (hd : 0 ≤ w (10 * c + c).toNat) (h3 : m_wb M w) (ht : m_tri c w) : m_tri (c + 1) (m_sh c w) := by
  have hcol : ∀ i : Int, 0 ≤ i → i ≤ 9 → m_sh c w (10 * i + c).toNat = w (10 * i + c).toNat := by
    intro i h1 h2
    rw [m_sh_at ⟨h1, h2⟩ hc, if_neg (by omega)]
  have hrow : ∀ j : Int, 0 ≤ j → j ≤ 9 → m_sh c w (10 * c + j).toNat = w (10 * c + j).toNat := by
    intro j h1 h2
    rw [m_sh_at hc ⟨h1, h2⟩, if_neg (by omega)]
  intro i j v i1 i2 j1 j2 v1 v2 f1 f2
  by_cases g : v = c
  · rw [g, hcol i i1 i2] at f1 ⊢
    rw [g, hrow j j1 j2] at f2
    rw [hrow j j1 j2]
    exact m_sh_le2 ⟨i1, i2⟩ ⟨j1, j2⟩ f1 f2
  · have v3 : v < c := by omega
    have b1 := h3 (10 * i + v).toNat (by omega)
    have b2 := h3 (10 * v + j).toNat (by omega)
    have b3 := h3 (10 * c + v).toNat (by omega)
    have b4 := h3 (10 * v + c).toNat (by omega)
    have b5 := h3 (10 * i + c).toNat (by omega)
    have b6 := h3 (10 * c + j).toNat (by omega)
    have t1 := ht i j v i1 i2 j1 j2 v1 v3
    have t2 := ht c j v hc.1 hc.2 j1 j2 v1 v3
    have t3 := ht i c v i1 i2 hc.1 hc.2 v1 v3
    have t4 := ht c c v hc.1 hc.2 hc.1 hc.2 v1 v3
    have l0 := m_sh_le (c := c) (f := w) (10 * i + j).toNat
    have l1 := m_sh_le2 (c := c) (f := w) ⟨i1, i2⟩ ⟨j1, j2⟩
    have e1 := m_sh_at (c := c) (f := w) (i := i) (j := v) ⟨i1, i2⟩ ⟨v1, by omega⟩
    have e2 := m_sh_at (c := c) (f := w) (i := v) (j := j) ⟨v1, by omega⟩ ⟨j1, j2⟩
    by_cases a1 : w (10 * i + c).toNat < 1000000 ∧ w (10 * c + v).toNat < 1000000 ∧ w (10 * i + c).toNat + w (10 * c + v).toNat < w (10 * i + v).toNat
    · rw [if_pos a1] at e1
      by_cases a2 : w (10 * v + c).toNat < 1000000 ∧ w (10 * c + j).toNat < 1000000 ∧ w (10 * v + c).toNat + w (10 * c + j).toNat < w (10 * v + j).toNat
      · rw [if_pos a2] at e2
        have t5 := t4 a1.2.1 a2.1
        have l2 := l1 a1.1 a2.2.1
        omega
      · rw [if_neg a2] at e2
        have f3 : w (10 * v + j).toNat < 1000000 := by omega
        have t5 := t2 a1.2.1 f3
        have l2 := l1 a1.1 (by omega)
        omega
    · rw [if_neg a1] at e1
      have f3 : w (10 * i + v).toNat < 1000000 := by omega
      by_cases a2 : w (10 * v + c).toNat < 1000000 ∧ w (10 * c + j).toNat < 1000000 ∧ w (10 * v + c).toNat + w (10 * c + j).toNat < w (10 * v + j).toNat
      · rw [if_pos a2] at e2
        have t5 := t3 f3 a2.1
        have l2 := l1 (by omega) a2.2.1
        omega
      · rw [if_neg a2] at e2
        have t5 := t1 f3 (by omega)
        omega
theorem m_tri_all {z : Int} {w r : Nat → Int} (hz : 1 ≤ z ∧ z ≤ 10) (h : m_R z 600 w r) (hk : q_ok w) : ∀ c : Nat, (c : Int) ≤ 10 → m_tri c (q_ps c w) := by
  have hd := m_ok_all h hk
  intro c
  induction c with
  | zero => intro _ i j v _ _ _ _ v1 v2; omega
  | succ c ih =>
    intro hc
    have m := m_chain hz h c (by omega) (fun c' g1 g2 => hd c' g1 (by omega))
    have hdc := hd c (by omega) (by omega) c (by omega) (by omega)
    rw [show (11 * (c : Int)).toNat = (10 * (c : Int) + c).toNat by omega] at hdc
    have p2 := q_p2_le (a := c) (b := 9) (by omega) (by omega)
    have p3 := m_p2v
    have p4 := q_p2_le (a := 0) (b := c) (by omega) (by omega)
    rw [show ((c + 1 : Nat) : Int) = (c : Int) + 1 by omega, q_ps_s (by omega), m_ph_eq (by omega) hdc]
    exact m_tri_sh (M := 600 * q_p2 c) (by omega) (by omega) hdc m.2.1 (ih (by omega))
theorem m_ps_le {w : Nat → Int} (hd : ∀ c : Int, 0 ≤ c → c ≤ 10 → q_dg (q_ps c w)) : ∀ c : Nat, (c : Int) ≤ 10 → ∀ n : Nat, q_ps c w n ≤ w n := by
  intro c
  induction c with
  | zero =>
    intro _ n
    rw [show q_ps ((0 : Nat) : Int) w = w from q_fr_0 (by omega)]
    exact Int.le_refl _
  | succ c ih =>
    intro hc n
    have hdc := hd c (by omega) (by omega) c (by omega) (by omega)
    rw [show (11 * (c : Int)).toNat = (10 * (c : Int) + c).toNat by omega] at hdc
    rw [show ((c + 1 : Nat) : Int) = (c : Int) + 1 by omega, q_ps_s (by omega), m_ph_eq (by omega) hdc]
    exact Int.le_trans (m_sh_le n) (ih (by omega) n)
/-- what distances of a consistent net are: closed, at most the edges, 0 from an event to itself -/
theorem m_D {k lf g : Nat → Int} (h : q_KR k) (hc : q_con k lf) : m_tri 10 (q_dd k lf g) ∧ (∀ n : Nat, q_dd k lf g n ≤ q_net k lf g n) ∧ (∀ i : Int, 0 ≤ i → i ≤ 9 → q_dd k lf g (10 * i + i).toNat = 0) ∧ m_wb 614400 (q_dd k lf g) ∧ m_O (k 0) (q_dd k lf g) := by
  have h0 := h.r0
  have hR := m_R_lay (lf := lf) (g := g) (r := fun _ => 0) h
  have hk := m_con_eq (g := g).mpr hc
  have hd := m_ok_all hR hk
  have e : q_dd k lf g = q_ps 10 (q_net k lf g) := q_cg_t hk
  have m := m_chain (by omega) hR 10 (by omega) (fun c' g1 g2 => hd c' g1 (by omega))
  have p3 := m_p2v
  have hle := m_ps_le hd 10 (by omega)
  have e10 : ((10 : Nat) : Int) = 10 := rfl
  rw [e10] at m hle
  have t := m_tri_all (by omega) hR hk 10 (by omega)
  rw [e10] at t
  rw [e]
  refine ⟨t, hle, ?_, ?_, m.1⟩
  · intro i i1 i2
    have a := hle (10 * i + i).toNat
    rw [hR.2.2.2.1 i i1 i2] at a
    have b := hd 10 (by omega) (by omega) i i1 (by omega)
    rw [show (11 * i).toNat = (10 * i + i).toNat by omega] at b
    omega
  · intro n hn
    have := m.2.1 n hn
    omega
/-- what is reached by tight edges from f is all that is reached -/
theorem m_tight {z : Int} {w r D : Nat → Int} {f : Int} (hz : 1 ≤ z ∧ z ≤ 10) (h : m_R z 600 w r) (hk : q_ok w) (hD : D = q_ps 10 w) (hf : 0 ≤ f ∧ f ≤ 9) (S : Int → Prop) (hS : S f) (hc : ∀ x y : Int, 0 ≤ x → x ≤ 9 → 0 ≤ y → y ≤ 9 → S x → w (10 * x + y).toNat < 1000000 → D (10 * f + x).toNat < 1000000 → D (10 * f + y).toNat = D (10 * f + x).toNat + w (10 * x + y).toNat → S y) : ∀ y : Int, 0 ≤ y → y ≤ 9 → D (10 * f + y).toNat < 1000000 → S y := by
  have hd := m_ok_all h hk
  have t10 := m_tri_all hz h hk 10 (by omega)
  rw [show ((10 : Nat) : Int) = 10 from rfl, ← hD] at t10
  have hle : ∀ c : Nat, (c : Int) ≤ 10 → ∀ n : Nat, D n ≤ q_ps c w n := by
    intro c hc10
    have key : ∀ d : Nat, (c : Int) + d ≤ 10 → ∀ n : Nat, q_ps (c + d) w n ≤ q_ps c w n := by
      intro d
      induction d with
      | zero => intro _ n; rw [show (c : Int) + ((0 : Nat) : Int) = c by omega]; exact Int.le_refl _
      | succ d ih =>
        intro hd2 n
        have hdc := hd (c + d) (by omega) (by omega) (c + d) (by omega) (by omega)
        rw [show (11 * ((c : Int) + d)).toNat = (10 * ((c : Int) + d) + (c + d)).toNat by omega] at hdc
        rw [show (c : Int) + ((d + 1 : Nat) : Int) = (c : Int) + d + 1 by omega, q_ps_s (by omega), m_ph_eq (by omega) hdc]
        exact Int.le_trans (m_sh_le n) (ih (by omega) n)
    have := key (10 - c) (by omega)
    rw [show (c : Int) + ((10 - c : Nat) : Int) = 10 by omega] at this
    rw [hD]
    exact this
  have key : ∀ c : Nat, (c : Int) ≤ 10 → ∀ x y : Int, 0 ≤ x → x ≤ 9 → 0 ≤ y → y ≤ 9 → S x → q_ps c w (10 * x + y).toNat < 1000000 → D (10 * f + x).toNat < 1000000 → D (10 * f + y).toNat = D (10 * f + x).toNat + q_ps c w (10 * x + y).toNat → S y := by
    intro c
    induction c with
    | zero =>
      intro _
      rw [show q_ps ((0 : Nat) : Int) w = w from q_fr_0 (by omega)]
      exact hc
    | succ c ih =>
      intro hc1 x y x1 x2 y1 y2 sx f1 f2 e
      have ih1 := ih (by omega)
      have hdc := hd c (by omega) (by omega) c (by omega) (by omega)
      rw [show (11 * (c : Int)).toNat = (10 * (c : Int) + c).toNat by omega] at hdc
      rw [show ((c + 1 : Nat) : Int) = (c : Int) + 1 by omega, q_ps_s (by omega), m_ph_eq (by omega) hdc, m_sh_at ⟨x1, x2⟩ ⟨y1, y2⟩] at f1 e
      by_cases g : q_ps c w (10 * x + c).toNat < 1000000 ∧ q_ps c w (10 * c + y).toNat < 1000000 ∧ q_ps c w (10 * x + c).toNat + q_ps c w (10 * c + y).toNat < q_ps c w (10 * x + y).toNat
      · rw [if_pos g] at f1 e
        have l1 := hle c (by omega) (10 * x + c).toNat
        have l2 := hle c (by omega) (10 * c + y).toNat
        have t1 := t10 f c x hf.1 hf.2 (by omega) (by omega) x1 (by omega) f2 (by omega)
        have m := m_chain hz h 10 (by omega) (fun c' g1 g2 => hd c' g1 (by omega))
        rw [show ((10 : Nat) : Int) = 10 from rfl, ← hD] at m
        have p3 := m_p2v
        have b1 := m.2.1 (10 * f + x).toNat (by omega)
        have b2 := m.2.1 (10 * x + c).toNat (by omega)
        have b3 := m.2.1 (10 * f + c).toNat (by omega)
        have mc := m_chain hz h c (by omega) (fun c' g1 g2 => hd c' g1 (by omega))
        have p2 := q_p2_le (a := c) (b := 9) (by omega) (by omega)
        have p4 := q_p2_le (a := 0) (b := c) (by omega) (by omega)
        have b4 := mc.2.1 (10 * x + c).toNat (by omega)
        have b5 := mc.2.1 (10 * c + y).toNat (by omega)
        have by_ := m.2.1 (10 * f + y).toNat (by omega)
        by_cases fc : D (10 * f + c).toNat < 1000000
        · have t2 := t10 f y c hf.1 hf.2 y1 y2 (by omega) (by omega) fc (by omega)
          have sc := ih1 x c x1 x2 (by omega) (by omega) sx g.1 f2 (by omega)
          exact ih1 c y (by omega) (by omega) y1 y2 sc g.2.1 fc (by omega)
        · omega
      · rw [if_neg g] at f1 e
        exact ih1 x y x1 x2 y1 y2 sx f1 f2 e
  have hff : D (10 * f + f).toNat = 0 := by
    have a := m_ps_le hd 10 (by omega) (10 * f + f).toNat
    rw [show ((10 : Nat) : Int) = 10 from rfl, h.2.2.2.1 f hf.1 hf.2] at a
    have b := hd 10 (by omega) (by omega) f hf.1 (by omega)
    rw [show (11 * f).toNat = (10 * f + f).toNat by omega] at b
    rw [hD]
    omega
  intro y y1 y2 fy
  exact key 10 (by omega) f y hf.1 hf.2 y1 y2 hS (by rw [show ((10 : Nat) : Int) = 10 from rfl, ← hD]; exact fy) (by omega) (by rw [show ((10 : Nat) : Int) = 10 from rfl, ← hD]; omega)
theorem q_cnt_mono {p q : Int → Prop} : ∀ n : Nat, (∀ i : Int, 0 ≤ i → i < n → p i → q i) → q_cnt p n ≤ q_cnt q n ∧ ((∃ y : Int, 0 ≤ y ∧ y < n ∧ q y ∧ ¬ p y) → q_cnt p n + 1 ≤ q_cnt q n)
  | 0, _ => ⟨Int.le_refl _, fun ⟨y, h1, h2, _⟩ => by omega⟩
  | n + 1, h => by
    have ih := q_cnt_mono (p := p) (q := q) n (fun i h1 h2 => h i h1 (by omega))
    have hn := h n (by omega) (by omega)
    rw [show ((n + 1 : Nat) : Int) = (n : Int) + 1 by omega, q_cnt_s (by omega), q_cnt_s (by omega)]
    have e : pz_bi (p n) ≤ pz_bi (q n) := by
      by_cases g : p n
      · rw [pz_bi_1 g, pz_bi_1 (hn g)]; exact Int.le_refl _
      · rw [pz_bi_0 g]; exact (pz_bi_r _).1
    refine ⟨by omega, ?_⟩
    rintro ⟨y, y1, y2, y3, y4⟩
    by_cases g : y < n
    · have := ih.2 ⟨y, y1, g, y3, y4⟩
      omega
    · have e2 : y = n := by omega
      rw [e2] at y3 y4
      rw [pz_bi_0 y4, pz_bi_1 y3]
      omega
theorem m_nest {S : Nat → Int → Prop} (h0 : ∃ y : Int, 0 ≤ y ∧ y < 10 ∧ S 0 y) (hm : ∀ n y, S n y → S (n + 1) y) : ∃ n : Nat, n ≤ 9 ∧ ∀ y : Int, 0 ≤ y → y < 10 → S (n + 1) y → S n y := by
  refine Classical.byContradiction (fun hn => ?_)
  have hs : ∀ n : Nat, n ≤ 9 → ∃ y : Int, 0 ≤ y ∧ y < ((10 : Nat) : Int) ∧ S (n + 1) y ∧ ¬ S n y := by
    intro n hn9
    refine Classical.byContradiction (fun hx => hn ⟨n, hn9, fun y y1 y2 y3 => ?_⟩)
    exact Classical.byContradiction (fun y4 => hx ⟨y, y1, by omega, y3, y4⟩)
  have key : ∀ n : Nat, n ≤ 10 → (n : Int) + 1 ≤ q_cnt (S n) 10 := by
    intro n
    induction n with
    | zero =>
      intro _
      obtain ⟨y, y1, y2, y3⟩ := h0
      have a := (q_cnt_mono (p := fun _ => False) (q := S 0) 10 (fun i _ _ q => q.elim)).2 ⟨y, y1, by omega, y3, fun q => q⟩
      have b := (q_cnt_r (fun _ => False) (n := ((10 : Nat) : Int)) (by omega)).1
      rw [show ((10 : Nat) : Int) = 10 from rfl] at a b
      omega
    | succ n ih =>
      intro hn10
      have i1 := ih (by omega)
      have a := (q_cnt_mono (p := S n) (q := S (n + 1)) 10 (fun i _ _ q => hm n i q)).2 (hs n (by omega))
      rw [show ((10 : Nat) : Int) = 10 from rfl] at a
      omega
  have a := key 10 (by omega)
  have b := (q_cnt_r (S 10) (n := 10) (by omega)).2
  omega
theorem m_dd_5 {k lf g : Nat → Int} (h : q_KR k) (hc : q_con k lf) : m_wb 5400 (q_dd k lf g) := by
  have h0 := h.r0
  have hR := m_R_lay (lf := lf) (g := g) (r := fun _ => 0) h
  have hk := m_con_eq (g := g).mpr hc
  have e : q_dd k lf g = q_ps 10 (q_net k lf g) := q_cg_t hk
  have mD := m_D (g := g) h hc
  have go : ∀ i j : Int, 0 ≤ i → i ≤ 9 → 0 ≤ j → j ≤ 9 → q_dd k lf g (10 * i + j).toNat < 1000000 → -5400 ≤ q_dd k lf g (10 * i + j).toNat ∧ q_dd k lf g (10 * i + j).toNat ≤ 5400 := by
    intro i j i1 i2 j1 j2 hf
    have dii := mD.2.2.1 i i1 i2
    obtain ⟨n, n9, hn⟩ := m_nest (S := fun n y => -(600 * (n : Int)) ≤ q_dd k lf g (10 * i + y).toNat ∧ q_dd k lf g (10 * i + y).toNat ≤ 600 * (n : Int)) ⟨i, i1, by omega, by
      rw [dii]; omega⟩ (fun n y q => by
        obtain ⟨q1, q2⟩ := q
        constructor <;> omega)
    have t := m_tight (z := k 0) (w := q_net k lf g) (D := q_dd k lf g) (f := i) (by omega) hR hk e ⟨i1, i2⟩ (fun y => -(600 * (n : Int)) ≤ q_dd k lf g (10 * i + y).toNat ∧ q_dd k lf g (10 * i + y).toNat ≤ 600 * (n : Int)) (by
      show -(600 * (n : Int)) ≤ q_dd k lf g (10 * i + i).toNat ∧ q_dd k lf g (10 * i + i).toNat ≤ 600 * (n : Int)
      rw [dii]; omega) (by
      intro x y x1 x2 y1 y2 hx w1 d1 d2
      have wb := hR.2.2.1 (10 * x + y).toNat (by omega)
      obtain ⟨hx1, hx2⟩ := hx
      refine hn y y1 (by omega) ?_
      show -(600 * ((n + 1 : Nat) : Int)) ≤ q_dd k lf g (10 * i + y).toNat ∧ q_dd k lf g (10 * i + y).toNat ≤ 600 * ((n + 1 : Nat) : Int)
      omega) j j1 j2 hf
    have t1 : -(600 * (n : Int)) ≤ q_dd k lf g (10 * i + j).toNat := t.1
    have t2 : q_dd k lf g (10 * i + j).toNat ≤ 600 * (n : Int) := t.2
    omega
  intro n hn
  have e1 : n = (10 * ((n / 10 : Nat) : Int) + ((n % 10 : Nat) : Int)).toNat := by omega
  have a := mD.2.2.2.1 n hn
  by_cases c : q_dd k lf g n = 1000000
  · exact Or.inl c
  · right
    have b := go ((n / 10 : Nat) : Int) ((n % 10 : Nat) : Int) (by omega) (by omega) (by omega) (by omega)
    rw [← e1] at b
    exact b (by omega)
theorem q_dd_r {k lf g : Nat → Int} {j : Nat} (h : q_KR k) (hc : q_con k lf) (hj : j < 100) : -10000 ≤ q_dd k lf g j ∧ (q_dd k lf g j ≤ 10000 ∨ q_dd k lf g j = 1000000) := by
  have a := m_dd_5 (g := g) h hc j hj
  omega
/-- the first time of an event, by a square -/
def q_ft (d : Nat → Int) (e : Int) : Int := if d (10 * e).toNat < 0 then -(d (10 * e).toNat) else 0
abbrev q_dl (d : Nat → Int) : Prop := ∀ e : Int, 0 ≤ e → e ≤ 9 → -1000000000 ≤ d (10 * e).toNat
theorem q_dd_l {k lf g : Nat → Int} (h : q_KR k) (hc : q_con k lf) : q_dl (q_dd k lf g) := fun e h1 h2 => by
  have h3 := q_dd_r (g := g) (j := (10 * e).toNat) h hc (by omega)
  omega
theorem q_ft_r {d : Nat → Int} {e : Int} (h : q_dl d) (h1 : 0 ≤ e) (h2 : e ≤ 9) : 0 ≤ q_ft d e ∧ q_ft d e ≤ 1000000000 := by
  have h3 := h e h1 h2
  unfold q_ft
  split <;> omega
abbrev q_on (k d : Nat → Int) (a m : Int) : Prop := q_ft d (k (224 + 3 * a).toNat) ≤ m ∧ m < q_ft d (k (224 + 3 * a + 1).toNat)
noncomputable def q_sumN (f : Int → Int) : Nat → Int
  | 0 => 0
  | n + 1 => q_sumN f n + f n
noncomputable def q_sum (f : Int → Int) (n : Int) : Int := q_sumN f n.toNat
theorem q_sum_s {f : Int → Int} {n : Int} (h : 0 ≤ n) : q_sum f (n + 1) = q_sum f n + f n := by
  unfold q_sum
  rw [show (n + 1).toNat = n.toNat + 1 by omega]
  show q_sumN f n.toNat + f (n.toNat : Int) = _
  rw [Int.toNat_of_nonneg h]
theorem q_sumN_r {f : Int → Int} {lo hi : Int} : ∀ {n : Nat}, (∀ i : Int, 0 ≤ i → i < n → lo ≤ f i ∧ f i ≤ hi) → lo * n ≤ q_sumN f n ∧ q_sumN f n ≤ hi * n
  | 0, _ => by show lo * 0 ≤ 0 ∧ 0 ≤ hi * 0; omega
  | n + 1, h => by
    have h1 := q_sumN_r (n := n) (fun i g1 g2 => h i g1 (by omega))
    have h2 := h n (by omega) (by omega)
    show lo * ((n + 1 : Nat) : Int) ≤ q_sumN f n + f n ∧ q_sumN f n + f n ≤ hi * ((n + 1 : Nat) : Int)
    have e1 : lo * ((n + 1 : Nat) : Int) = lo * (n : Int) + lo := by rw [Int.natCast_add, Int.mul_add]; omega
    have e2 : hi * ((n + 1 : Nat) : Int) = hi * (n : Int) + hi := by rw [Int.natCast_add, Int.mul_add]; omega
    omega
theorem q_sum_r {f : Int → Int} {lo hi n : Int} (hn : 0 ≤ n) (h : ∀ i : Int, 0 ≤ i → i < n → lo ≤ f i ∧ f i ≤ hi) : lo * n ≤ q_sum f n ∧ q_sum f n ≤ hi * n := by
  have h1 := q_sumN_r (f := f) (lo := lo) (hi := hi) (n := n.toNat) (fun i g1 g2 => h i g1 (by omega))
  rw [Int.toNat_of_nonneg hn] at h1
  exact h1
theorem q_sum_congr {f g : Int → Int} {n : Int} (h : ∀ i : Int, 0 ≤ i → i < n → f i = g i) : q_sum f n = q_sum g n := by
  have key : ∀ m : Nat, (m : Int) ≤ n → q_sumN f m = q_sumN g m := by
    intro m
    induction m with
    | zero => intro _; rfl
    | succ m ih =>
      intro hm
      show q_sumN f m + f m = q_sumN g m + g m
      rw [ih (by omega), h m (by omega) (by omega)]
  rcases Int.lt_or_le n 0 with hn | hn
  · unfold q_sum
    rw [show n.toNat = 0 by omega]
    rfl
  · exact key n.toNat (by omega)
/-- the use of a minute -/
noncomputable def q_use (k d : Nat → Int) (m : Int) : Int := q_sum (fun a => q_if (q_on k d a m) (k (224 + 3 * a + 2).toNat) 0) (k 3)
/-- the first peak, or -1 -/
noncomputable def q_pkS (k d : Nat → Int) (a best : Int) : Int := q_if (k 5 < q_use k d (q_ft d (k (224 + 3 * a).toNat)) ∧ (best = -1 ∨ q_ft d (k (224 + 3 * a).toNat) < best)) (q_ft d (k (224 + 3 * a).toNat)) best
noncomputable def q_pk (k d : Nat → Int) : Int := q_fr (q_pkS k d) 0 (k 3) (-1)
def q_sl (k d : Nat → Int) (x y : Int) : Int := if d (10 * k (224 + 3 * x + 1).toNat + k (224 + 3 * y).toNat).toNat = 1000000 then 9999 else d (10 * k (224 + 3 * x + 1).toNat + k (224 + 3 * y).toNat).toNat
def q_cst (k : Nat → Int) (e m : Int) : Int := if k (16 + e).toNat = -1 then 0 else if m < k (16 + e).toNat then k (26 + e).toNat * (k (16 + e).toNat - m) else k (36 + e).toNat * (m - k (16 + e).toNat)
theorem q_mul_r {x y a b : Int} (hx : 0 ≤ x ∧ x ≤ a) (hy : 0 ≤ y ∧ y ≤ b) : 0 ≤ x * y ∧ x * y ≤ a * b := ⟨Int.mul_nonneg hx.1 hy.1, Int.mul_le_mul hx.2 hy.2 hy.1 (by omega)⟩
def q_opn (o : Int) (k fr : Nat → Int) : Nat → Int := fun j => if 260 * o ≤ (j : Int) ∧ (j : Int) < 260 * o + 260 then k ((j : Int) - 260 * o).toNat else fr j
def q_tbk (o : Int) (fr k : Nat → Int) : Nat → Int := fun j => if j < 260 then fr (260 * o + (j : Int)).toNat else k j
abbrev q_ovr (k : Nat → Int) (m s : Int) : Prop := q_sta k (k (212 + 4 * s).toNat) ∧ ¬ q_sta k (k (212 + 4 * s + 1).toNat) ∧ k (212 + 4 * s + 3).toNat < k 4 + m - k (6 + k (212 + 4 * s).toNat).toNat
theorem q_shlN : ∀ a : Fin 5, pz_shl 1 ((a.val : Nat) : Int) = ((2 ^ a.val : Nat) : Int) := by decide +kernel
theorem q_orN : ∀ (a : Fin 5) (x : Fin 16), x.val < 2 ^ a.val → pz_or ((x.val : Nat) : Int) (pz_shl 1 ((a.val : Nat) : Int)) = ((x.val + 2 ^ a.val : Nat) : Int) := by decide +kernel
theorem q_or0N : ∀ (x : Fin 32), pz_or ((x.val : Nat) : Int) 0 = ((x.val : Nat) : Int) := by decide +kernel
theorem q_p2_r : ∀ {a : Int}, 0 ≤ a → a ≤ 4 → 1 ≤ q_p2 a ∧ q_p2 a ≤ 16 := by
  intro a h1 h2
  have h3 : a = 0 ∨ a = 1 ∨ a = 2 ∨ a = 3 ∨ a = 4 := by omega
  rcases h3 with rfl | rfl | rfl | rfl | rfl <;> decide
theorem q_or_p2 {a x : Int} (h1 : 0 ≤ a) (h2 : a ≤ 4) (h3 : 0 ≤ x) (h4 : x < q_p2 a) : pz_or x (pz_shl 1 a) = x + q_p2 a := by
  have h5 := q_p2_r h1 h2
  have h6 := q_orN ⟨a.toNat, by omega⟩ ⟨x.toNat, by omega⟩ (by unfold q_p2 at h4; show x.toNat < 2 ^ a.toNat; omega)
  dsimp only at h6
  rw [Int.toNat_of_nonneg h1, Int.toNat_of_nonneg h3] at h6
  rw [h6]
  unfold q_p2
  omega
theorem q_or_0 {x : Int} (h3 : 0 ≤ x) (h4 : x < 32) : pz_or x 0 = x := by
  have h6 := q_or0N ⟨x.toNat, by omega⟩
  dsimp only at h6
  rw [Int.toNat_of_nonneg h3] at h6
  exact h6
