/-! mathematics that is owed, sixth part: distances by rounds -/
theorem q_cnt_mono {p q : Int → Prop} : ∀ n : Nat, (∀ i : Int, 0 ≤ i → i < n → p i → q i) → q_cnt p n ≤ q_cnt q n ∧ ((∃ y : Int, 0 ≤ y ∧ y < n ∧ q y ∧ ¬ p y) → q_cnt p n + 1 ≤ q_cnt q n)
  | 0, _ => ⟨Int.le_refl _, fun ⟨y, h1, h2, _⟩ => by omega⟩
  | n + 1, h => by
    have ih := q_cnt_mono (p := p) (q := q) n (fun i h1 h2 => h i h1 (by omega))
    have hn := h n (by omega) (by omega)
    rw [show ((n + 1 : Nat) : Int) = (n : Int) + 1 by omega, q_cnt_s (by omega), q_cnt_s (by omega)]
    have e : pz_bi (p n) ≤ pz_bi (q n) := by
      by_cases g : p n
      · rw [pz_bi_1 g, pz_bi_1 (hn g)]; exact Int.le_refl _
      · rw [pz_bi_0 g]; exact (pz_bi_r _).1
    refine ⟨by omega, ?_⟩
    rintro ⟨y, y1, y2, y3, y4⟩
    by_cases g : y < n
    · have := ih.2 ⟨y, y1, g, y3, y4⟩
      omega
    · have e2 : y = n := by omega
      rw [e2] at y3 y4
      rw [pz_bi_0 y4, pz_bi_1 y3]
      omega
/-- what is reached by tight edges from f is all that is reached -/
theorem m_tight {z : Int} {w r D : Nat → Int} {f : Int} (hz : 1 ≤ z ∧ z ≤ 10) (h : m_R z 600 w r) (hk : q_ok w) (hD : D = q_ps 10 w) (hf : 0 ≤ f ∧ f ≤ 9) (S : Int → Prop) (hS : S f) (hc : ∀ x y : Int, 0 ≤ x → x ≤ 9 → 0 ≤ y → y ≤ 9 → S x → w (10 * x + y).toNat < 1000000 → D (10 * f + x).toNat < 1000000 → D (10 * f + y).toNat = D (10 * f + x).toNat + w (10 * x + y).toNat → S y) : ∀ y : Int, 0 ≤ y → y ≤ 9 → D (10 * f + y).toNat < 1000000 → S y := by
  have hd := m_ok_all h hk
  have t10 := m_tri_all hz h hk 10 (by omega)
  rw [show ((10 : Nat) : Int) = 10 from rfl, ← hD] at t10
  have hle : ∀ c : Nat, (c : Int) ≤ 10 → ∀ n : Nat, D n ≤ q_ps c w n := by
    intro c hc10
    have key : ∀ d : Nat, (c : Int) + d ≤ 10 → ∀ n : Nat, q_ps (c + d) w n ≤ q_ps c w n := by
      intro d
      induction d with
      | zero => intro _ n; rw [show (c : Int) + ((0 : Nat) : Int) = c by omega]; exact Int.le_refl _
      | succ d ih =>
        intro hd2 n
        have hdc := hd (c + d) (by omega) (by omega) (c + d) (by omega) (by omega)
        rw [show (11 * ((c : Int) + d)).toNat = (10 * ((c : Int) + d) + (c + d)).toNat by omega] at hdc
        rw [show (c : Int) + ((d + 1 : Nat) : Int) = (c : Int) + d + 1 by omega, q_ps_s (by omega), m_ph_eq (by omega) hdc]
        exact Int.le_trans (m_sh_le n) (ih (by omega) n)
    have := key (10 - c) (by omega)
    rw [show (c : Int) + ((10 - c : Nat) : Int) = 10 by omega] at this
    rw [hD]
    exact this
  have key : ∀ c : Nat, (c : Int) ≤ 10 → ∀ x y : Int, 0 ≤ x → x ≤ 9 → 0 ≤ y → y ≤ 9 → S x → q_ps c w (10 * x + y).toNat < 1000000 → D (10 * f + x).toNat < 1000000 → D (10 * f + y).toNat = D (10 * f + x).toNat + q_ps c w (10 * x + y).toNat → S y := by
    intro c
    induction c with
    | zero =>
      intro _
      rw [show q_ps ((0 : Nat) : Int) w = w from q_fr_0 (by omega)]
      exact hc
    | succ c ih =>
      intro hc1 x y x1 x2 y1 y2 sx f1 f2 e
      have ih1 := ih (by omega)
      have hdc := hd c (by omega) (by omega) c (by omega) (by omega)
      rw [show (11 * (c : Int)).toNat = (10 * (c : Int) + c).toNat by omega] at hdc
      rw [show ((c + 1 : Nat) : Int) = (c : Int) + 1 by omega, q_ps_s (by omega), m_ph_eq (by omega) hdc, m_sh_at ⟨x1, x2⟩ ⟨y1, y2⟩] at f1 e
      by_cases g : q_ps c w (10 * x + c).toNat < 1000000 ∧ q_ps c w (10 * c + y).toNat < 1000000 ∧ q_ps c w (10 * x + c).toNat + q_ps c w (10 * c + y).toNat < q_ps c w (10 * x + y).toNat
      · rw [if_pos g] at f1 e
        have l1 := hle c (by omega) (10 * x + c).toNat
        have l2 := hle c (by omega) (10 * c + y).toNat
        have t1 := t10 f c x hf.1 hf.2 (by omega) (by omega) x1 (by omega) f2 (by omega)
        have m := m_chain hz h 10 (by omega) (fun c' g1 g2 => hd c' g1 (by omega))
        rw [show ((10 : Nat) : Int) = 10 from rfl, ← hD] at m
        have p3 := m_p2v
        have b1 := m.2.1 (10 * f + x).toNat (by omega)
        have b2 := m.2.1 (10 * x + c).toNat (by omega)
        have b3 := m.2.1 (10 * f + c).toNat (by omega)
        have mc := m_chain hz h c (by omega) (fun c' g1 g2 => hd c' g1 (by omega))
        have p2 := q_p2_le (a := c) (b := 9) (by omega) (by omega)
        have p4 := q_p2_le (a := 0) (b := c) (by omega) (by omega)
        have b4 := mc.2.1 (10 * x + c).toNat (by omega)
        have b5 := mc.2.1 (10 * c + y).toNat (by omega)
        have by_ := m.2.1 (10 * f + y).toNat (by omega)
        by_cases fc : D (10 * f + c).toNat < 1000000
        · have t2 := t10 f y c hf.1 hf.2 y1 y2 (by omega) (by omega) fc (by omega)
          have sc := ih1 x c x1 x2 (by omega) (by omega) sx g.1 f2 (by omega)
          exact ih1 c y (by omega) (by omega) y1 y2 sc g.2.1 fc (by omega)
        · omega
      · rw [if_neg g] at f1 e
        exact ih1 x y x1 x2 y1 y2 sx f1 f2 e
  have hff : D (10 * f + f).toNat = 0 := by
    have a := m_ps_le hd 10 (by omega) (10 * f + f).toNat
    rw [show ((10 : Nat) : Int) = 10 from rfl, h.2.2.2.1 f hf.1 hf.2] at a
    have b := hd 10 (by omega) (by omega) f hf.1 (by omega)
    rw [show (11 * f).toNat = (10 * f + f).toNat by omega] at b
    rw [hD]
    omega
  intro y y1 y2 fy
  exact key 10 (by omega) f y hf.1 hf.2 y1 y2 hS (by rw [show ((10 : Nat) : Int) = 10 from rfl, ← hD]; exact fy) (by omega) (by rw [show ((10 : Nat) : Int) = 10 from rfl, ← hD]; omega)
/-- a round: nothing grows, nothing falls below the distance, edges from where the distance stands are kept -/
theorem m_round {z f : Int} {W R d : Nat → Int} (hz : 0 ≤ z) (hd : ∀ x y : Int, 0 ≤ x → x < z → 0 ≤ y → y < z → W (10 * x + y).toNat ≠ 1000000000 → d x.toNat < 1000000 → d y.toNat ≤ d x.toNat + W (10 * x + y).toNat ∧ d y.toNat < 1000000) (hR : ∀ x : Int, 0 ≤ x → x < z → R x.toNat = 1000000000 ∨ (d x.toNat < 1000000 ∧ d x.toNat ≤ R x.toNat ∧ R x.toNat < 1000000000)) (hW : ∀ x y : Int, 0 ≤ x → x < z → 0 ≤ y → y < z → W (10 * x + y).toNat ≤ 1000000000) :
    (∀ x : Int, 0 ≤ x → x < z → (q_gr z W (R, 0)).1 x.toNat = 1000000000 ∨ (d x.toNat < 1000000 ∧ d x.toNat ≤ (q_gr z W (R, 0)).1 x.toNat ∧ (q_gr z W (R, 0)).1 x.toNat < 1000000000)) ∧ (∀ x : Int, 0 ≤ x → x < z → (q_gr z W (R, 0)).1 x.toNat ≤ R x.toNat) ∧ (∀ x y : Int, 0 ≤ x → x < z → 0 ≤ y → y < z → R x.toNat = d x.toNat → d x.toNat < 1000000 → W (10 * x + y).toNat ≠ 1000000000 → d y.toNat = d x.toNat + W (10 * x + y).toNat → (q_gr z W (R, 0)).1 y.toNat = d y.toNat) := by
  have J : (∀ x : Int, 0 ≤ x → x < z → (q_gr z W (R, 0)).1 x.toNat = 1000000000 ∨ (d x.toNat < 1000000 ∧ d x.toNat ≤ (q_gr z W (R, 0)).1 x.toNat ∧ (q_gr z W (R, 0)).1 x.toNat < 1000000000)) ∧ (∀ x : Int, 0 ≤ x → x < z → (q_gr z W (R, 0)).1 x.toNat ≤ R x.toNat) ∧ (∀ x y : Int, 0 ≤ x → x < z → 0 ≤ y → y < z → R x.toNat = d x.toNat → d x.toNat < 1000000 → W (10 * x + y).toNat ≠ 1000000000 → (q_gr z W (R, 0)).1 y.toNat ≤ d x.toNat + W (10 * x + y).toNat) := by
    unfold q_gr
    refine q_fr_ind (f := q_gF z W) (fun i (s : (Nat → Int) × Int) => (∀ x : Int, 0 ≤ x → x < z → s.1 x.toNat = 1000000000 ∨ (d x.toNat < 1000000 ∧ d x.toNat ≤ s.1 x.toNat ∧ s.1 x.toNat < 1000000000)) ∧ (∀ x : Int, 0 ≤ x → x < z → s.1 x.toNat ≤ R x.toNat) ∧ (∀ x y : Int, 0 ≤ x → x < i → 0 ≤ y → y < z → R x.toNat = d x.toNat → d x.toNat < 1000000 → W (10 * x + y).toNat ≠ 1000000000 → s.1 y.toNat ≤ d x.toNat + W (10 * x + y).toNat)) hz ⟨hR, fun x _ _ => Int.le_refl _, fun x y x1 x2 => by omega⟩ ?_
    intro i s i1 i2 hs
    unfold q_gF
    have K := q_fr_ind (f := q_gS W i) (a := 0) (n := z) (x := s) (fun t (u : (Nat → Int) × Int) => (∀ x : Int, 0 ≤ x → x < z → u.1 x.toNat = 1000000000 ∨ (d x.toNat < 1000000 ∧ d x.toNat ≤ u.1 x.toNat ∧ u.1 x.toNat < 1000000000)) ∧ (∀ x : Int, 0 ≤ x → x < z → u.1 x.toNat ≤ s.1 x.toNat) ∧ (∀ y : Int, 0 ≤ y → y < t → R i.toNat = d i.toNat → d i.toNat < 1000000 → W (10 * i + y).toNat ≠ 1000000000 → u.1 y.toNat ≤ d i.toNat + W (10 * i + y).toNat)) hz ⟨hs.1, fun x _ _ => Int.le_refl _, fun y y1 y2 => by omega⟩ (by
      intro t u t1 t2 hu
      have ui := hu.1 i i1 i2
      have ut := hu.1 t t1 t2
      have us := hu.2.1 i i1 i2
      have ss := hs.2.1 i i1 i2
      have hw := hW i t i1 i2 t1 t2
      unfold q_gS
      by_cases g : W (10 * i + t).toNat ≠ 1000000000 ∧ u.1 i.toNat ≠ 1000000000 ∧ u.1 i.toNat + W (10 * i + t).toNat < u.1 t.toNat
      · rw [q_if_t g]
        have hdi := hd i t i1 i2 t1 t2 g.1 (by omega)
        refine ⟨?_, ?_, ?_⟩
        · intro x x1 x2
          show pz_up u.1 t.toNat _ x.toNat = _ ∨ _
          by_cases e : x = t
          · rw [e]
            right
            show d t.toNat < 1000000 ∧ d t.toNat ≤ pz_up u.1 t.toNat _ t.toNat ∧ pz_up u.1 t.toNat _ t.toNat < 1000000000
            rw [pz_up_eq]
            omega
          · have hx := hu.1 x x1 x2
            show pz_up u.1 t.toNat _ x.toNat = 1000000000 ∨ (d x.toNat < 1000000 ∧ d x.toNat ≤ pz_up u.1 t.toNat _ x.toNat ∧ pz_up u.1 t.toNat _ x.toNat < 1000000000)
            rw [pz_up_ne (by omega)]
            exact hx
        · intro x x1 x2
          show pz_up u.1 t.toNat _ x.toNat ≤ _
          have hx := hu.2.1 x x1 x2
          by_cases e : x = t
          · rw [e, pz_up_eq]
            rw [e] at hx
            omega
          · rw [pz_up_ne (by omega)]
            exact hx
        · intro y y1 y2 a1 a2 a3
          show pz_up u.1 t.toNat _ y.toNat ≤ _
          by_cases e : y = t
          · rw [e, pz_up_eq]
            omega
          · rw [pz_up_ne (by omega)]
            exact hu.2.2 y y1 (by omega) a1 a2 a3
      · rw [q_if_f g]
        refine ⟨hu.1, hu.2.1, ?_⟩
        intro y y1 y2 a1 a2 a3
        by_cases e : y = t
        · rw [e] at a3 ⊢
          omega
        · exact hu.2.2 y y1 (by omega) a1 a2 a3)
    refine ⟨K.1, fun x x1 x2 => Int.le_trans (K.2.1 x x1 x2) (hs.2.1 x x1 x2), ?_⟩
    intro x y x1 x2 y1 y2 a1 a2 a3
    by_cases e : x = i
    · rw [e] at a1 a2 a3 ⊢
      exact K.2.2 y y1 y2 a1 a2 a3
    · exact Int.le_trans (K.2.1 y y1 y2) (hs.2.2 x y x1 (by omega) y1 y2 a1 a2 a3)
  refine ⟨J.1, J.2.1, ?_⟩
  intro x y x1 x2 y1 y2 a1 a2 a3 a4
  have b1 := J.2.2 x y x1 x2 y1 y2 a1 a2 a3
  have b2 := J.1 y y1 y2
  have b3 := hd x y x1 x2 y1 y2 a3 a2
  have b4 := hW x y x1 x2 y1 y2
  omega
