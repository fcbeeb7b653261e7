/-! more words that do not hang on junk: conflicts, strong control, labels -/
theorem t_cnt_le {P : Int → Prop} {a b : Int} (ha : 0 ≤ a) (h : a ≤ b) : q_cnt P a ≤ q_cnt P b := by
  have key : ∀ d : Nat, q_cnt P a ≤ q_cnt P (a + d) := by
    intro d
    induction d with
    | zero => rw [show a + ((0 : Nat) : Int) = a by omega]; exact Int.le_refl _
    | succ d ih =>
      rw [show a + ((d + 1 : Nat) : Int) = a + (d : Int) + 1 by omega, q_cnt_s (n := a + (d : Int)) (by omega)]
      have := pz_bi_r (P (a + d))
      omega
  have := key (b - a).toNat
  rw [show a + (((b - a).toNat : Nat) : Int) = b by omega] at this
  exact this
theorem t_cf {k lf g : Nat → Int} (hk : q_KR k) (h : m_A 40 lf (fun _ => 0)) : ∀ n : Nat, (n : Int) ≤ k 1 → m_A 40 (q_cf k n lf g).1 (q_lo0 k n) := by
  have h0 := hk.r0
  intro n
  induction n with
  | zero =>
    intro _
    have e1 : q_cf k ((0 : Nat) : Int) lf g = (lf, g) := q_fr_0 (Int.le_refl 0)
    have e2 : q_lo0 k ((0 : Nat) : Int) = fun _ => 0 := q_fr_0 (Int.le_refl 0)
    rw [e1, e2]
    exact h
  | succ n ih =>
    intro hn
    have i1 := ih (by omega)
    have e1 : q_cf k ((n : Int) + 1) lf g = q_cfP k n (q_cf k n lf g) := q_fr_s (by omega)
    rw [show ((n + 1 : Nat) : Int) = (n : Int) + 1 by omega, e1, q_lo0_s (by omega)]
    have z : q_lo0 k n (n : Int).toNat = 0 := q_lo0_0 (by omega) _ (by omega)
    have u : m_A 40 (pz_up (q_cf k n lf g).1 (n : Int).toNat 1) (pz_up (q_lo0 k n) (n : Int).toNat 1) := m_A_up i1 (fun _ => rfl)
    have c := m_con_lf hk u
    unfold q_cfP q_loS0
    by_cases g1 : q_hld k n
    · rw [q_if_t g1]
      by_cases g2 : q_con k (pz_up (q_lo0 k n) (n : Int).toNat 1)
      · rw [q_if_f (p := q_hld k n ∧ ¬ q_con k (pz_up (q_lo0 k n) (n : Int).toNat 1)) (fun q => q.2 g2)]
        dsimp only
        rw [q_if_t (c.mpr g2)]
        intro j hj
        by_cases e : j = (n : Int).toNat
        · rw [e, pz_up_eq, z]
        · rw [pz_up_ne e, pz_up_ne e]
          exact i1 j hj
      · rw [q_if_t (p := q_hld k n ∧ ¬ q_con k (pz_up (q_lo0 k n) (n : Int).toNat 1)) ⟨g1, g2⟩]
        dsimp only
        rw [q_if_f (fun q => g2 (c.mp q))]
        exact u
    · rw [q_if_f g1, q_if_f (fun q => g1 q.1)]
      exact i1
theorem t_kept {k lf g : Nat → Int} {b : Int} (hk : q_KR k) (h : m_A 40 lf (fun _ => 0)) (b1 : 0 ≤ b) (b2 : b < k 1) : q_kept k lf g b ↔ q_kp k b := by
  have c := t_cf (g := g) hk h b.toNat (by omega)
  rw [Int.toNat_of_nonneg b1] at c
  unfold q_kept q_kp
  rw [m_con_lf hk (m_A_up c (fun _ => rfl))]
theorem t_cnt_kept {k lf g : Nat → Int} (hk : q_KR k) (h : m_A 40 lf (fun _ => 0)) : q_cnt (q_kept k lf g) (k 1) = q_cnt (q_kp k) (k 1) := q_cnt_congr (fun i i1 i2 => t_kept hk h i1 i2)
/-- what is left out at the end, at a bound -/
theorem t_lo0_at {k : Nat → Int} {b : Int} (b1 : 0 ≤ b) : ∀ d : Nat, (q_lo0 k (b + 1 + d) b.toNat = 0 ∧ ¬ (q_hld k b ∧ ¬ q_con k (pz_up (q_lo0 k b) b.toNat 1))) ∨ (q_lo0 k (b + 1 + d) b.toNat = 1 ∧ q_hld k b ∧ ¬ q_con k (pz_up (q_lo0 k b) b.toNat 1)) := by
  intro d
  induction d with
  | zero =>
    rw [show b + 1 + ((0 : Nat) : Int) = b + 1 by omega, q_lo0_s b1]
    unfold q_loS0
    by_cases g : q_hld k b ∧ ¬ q_con k (pz_up (q_lo0 k b) b.toNat 1)
    · rw [q_if_t g, pz_up_eq]
      exact Or.inr ⟨rfl, g⟩
    · rw [q_if_f g]
      exact Or.inl ⟨q_lo0_0 b1 _ (by omega), g⟩
  | succ d ih =>
    rw [show b + 1 + ((d + 1 : Nat) : Int) = b + 1 + (d : Int) + 1 by omega, q_lo0_s (by omega)]
    unfold q_loS0
    by_cases g : q_hld k (b + 1 + d) ∧ ¬ q_con k (pz_up (q_lo0 k (b + 1 + d)) (b + 1 + (d : Int)).toNat 1)
    · rw [q_if_t g, pz_up_ne (by omega)]
      exact ih
    · rw [q_if_f g]
      exact ih
theorem t_ckP {k lf g : Nat → Int} {b : Int} (hk : q_KR k) (h : m_A 40 lf (fun _ => 0)) (b1 : 0 ≤ b) (b2 : b < k 1) : q_ckP k (q_cf k (k 1) lf g).1 b ↔ q_kp k b := by
  have h0 := hk.r0
  have c := t_cf (g := g) hk h (k 1).toNat (by omega)
  rw [Int.toNat_of_nonneg (by omega)] at c
  have a := t_lo0_at (k := k) b1 (k 1 - (b + 1)).toNat
  rw [show b + 1 + (((k 1 - (b + 1)).toNat : Nat) : Int) = k 1 by omega] at a
  have cb := c b.toNat (by omega)
  unfold q_ckP q_kp
  rw [cb]
  rcases a with ⟨a1, a2⟩ | ⟨a1, a2, a3⟩
  · constructor
    · rintro ⟨q1, -⟩
      exact ⟨q1, Classical.not_not.mp (fun q => a2 ⟨q1, q⟩)⟩
    · rintro ⟨q1, -⟩
      exact ⟨q1, a1⟩
  · constructor
    · rintro ⟨-, q2⟩; omega
    · rintro ⟨-, q2⟩; exact absurd q2 a3
theorem t_ck {k lf g : Nat → Int} {i : Int} (hk : q_KR k) (h : m_A 40 lf (fun _ => 0)) : (0 ≤ i ∧ i < q_cnt (q_kp k) (k 1) → q_ck k (q_cf k (k 1) lf g).1 i = q_cat k i ∧ q_ck k (q_cf k (k 1) lf g).1 i ≠ -1) ∧ (¬ (0 ≤ i ∧ i < q_cnt (q_kp k) (k 1)) → q_ck k (q_cf k (k 1) lf g).1 i = -1) := by
  have h0 := hk.r0
  have cnt : ∀ b : Int, 0 ≤ b → b ≤ k 1 → q_cnt (q_ckP k (q_cf k (k 1) lf g).1) b = q_cnt (q_kp k) b := fun b b1 b2 => q_cnt_congr (fun i i1 i2 => t_ckP hk h i1 (by omega))
  have key := q_fr_ind (f := q_ckS k (q_cf k (k 1) lf g).1 i) (a := 0) (n := k 1) (x := -1) (fun n (y : Int) => (∃ b : Int, 0 ≤ b ∧ b < n ∧ q_kp k b ∧ q_cnt (q_kp k) b = i ∧ y = b) ∨ (y = -1 ∧ ∀ b : Int, 0 ≤ b → b < n → ¬ (q_kp k b ∧ q_cnt (q_kp k) b = i))) (by omega) (Or.inr ⟨rfl, fun b b1 b2 => by omega⟩) (by
    intro b y b1 b2 hy
    unfold q_ckS
    have p := t_ckP (g := g) hk h b1 b2
    have c := cnt b b1 (by omega)
    by_cases q : q_ckP k (q_cf k (k 1) lf g).1 b ∧ q_cnt (q_ckP k (q_cf k (k 1) lf g).1) b = i
    · rw [q_if_t q]
      rw [c] at q
      exact Or.inl ⟨b, b1, by omega, p.mp q.1, q.2, rfl⟩
    · rw [q_if_f q]
      rw [c] at q
      rcases hy with ⟨x, x1, x2, x3, x4, x5⟩ | ⟨x1, x2⟩
      · exact Or.inl ⟨x, x1, by omega, x3, x4, x5⟩
      · refine Or.inr ⟨x1, fun x y1 y2 y3 => ?_⟩
        by_cases e : x = b
        · rw [e] at y3
          exact q ⟨p.mpr y3.1, y3.2⟩
        · exact x2 x y1 (by omega) y3)
  have key' : (∃ b : Int, 0 ≤ b ∧ b < k 1 ∧ q_kp k b ∧ q_cnt (q_kp k) b = i ∧ q_ck k (q_cf k (k 1) lf g).1 i = b) ∨ (q_ck k (q_cf k (k 1) lf g).1 i = -1 ∧ ∀ b : Int, 0 ≤ b → b < k 1 → ¬ (q_kp k b ∧ q_cnt (q_kp k) b = i)) := key
  constructor
  · intro hi
    have ok := q_cat_ok (k := k) (by omega) hi
    obtain ⟨o1, o2, o3, o4⟩ := ok
    rcases key' with ⟨b, b1, b2, b3, b4, b5⟩ | ⟨e1, e2⟩
    · have : b = q_cat k i := by
        rcases Int.lt_trichotomy b (q_cat k i) with l | l | l
        · have s := q_cnt_s (p := q_kp k) b1
          rw [pz_bi_1 b3] at s
          have m := t_cnt_le (P := q_kp k) (a := b + 1) (b := q_cat k i) (by omega) (by omega)
          omega
        · exact l
        · have s := q_cnt_s (p := q_kp k) o1
          rw [pz_bi_1 o3] at s
          have m := t_cnt_le (P := q_kp k) (a := q_cat k i + 1) (b := b) (by omega) (by omega)
          omega
      exact ⟨by rw [b5, this], by omega⟩
    · exact absurd ⟨o3, o4⟩ (e2 _ o1 o2)
  · intro hi
    rcases key' with ⟨b, b1, b2, b3, b4, b5⟩ | ⟨e1, e2⟩
    · exfalso
      have s := q_cnt_s (p := q_kp k) b1
      rw [pz_bi_1 b3] at s
      have m := t_cnt_le (P := q_kp k) (a := b + 1) (b := k 1) (by omega) (by omega)
      have r := (q_cnt_r (q_kp k) b1).1
      exact hi ⟨by omega, by omega⟩
    · exact e1
/-- strong control -/
theorem t_strong {k g : Nat → Int} {x : (Nat → Int) × (Nat → Int)} (hk : q_KR k) : (q_ok (q_sgF k (q_clr g, x)) ∧ q_all (q_sgA k (q_clr g, x)) (q_p2 (k 2))) ↔ q_strong k := by
  have h0 := hk.r0
  unfold q_strong
  have A : ∀ g : Nat → Int, ∀ x : (Nat → Int) × (Nat → Int), q_all (q_sgA k (q_clr g, x)) (q_p2 (k 2)) ↔ ∀ p : Int, 0 ≤ p → p < q_p2 (k 2) → q_all (q_sgO k (q_rtP k p).1 (q_rtP k p).2) (k 1) := fun g x => ⟨fun q p p1 p2 => (m_sgA hk).mp (q p p1 p2), fun q p p1 p2 => (m_sgA hk).mpr (q p p1 p2)⟩
  have B : m_A 100 (q_fr (q_stE k) 1 (k 0) (q_fr (m_sB k) 0 (q_p2 (k 2)) (q_clr g))) (q_fr (q_stE k) 1 (k 0) (q_fr (m_sB k) 0 (q_p2 (k 2)) (q_clr (fun _ => 0)))) := by
    refine q_fr_rel (m_A 100) ?_ ?_
    · refine q_fr_rel (m_A 100) ?_ ?_
      · intro j hj
        unfold q_clr
        rw [if_pos hj, if_pos hj]
      · intro p x y _ _ h
        unfold m_sB
        refine q_fr_rel (m_A 100) h ?_
        intro b x y _ _ h
        unfold q_sgB
        exact m_A_if (fun _ => m_A_if (fun _ => m_A_eg h) (fun _ => h)) (fun _ => h)
    · intro e x y _ _ h
      unfold q_stE
      exact m_A_if (fun _ => m_A_eg (m_A_eg h)) (fun _ => h)
  rw [A, A, m_sgF_ok hk, m_sgF_ok hk, m_sg_eq hk, m_sg_eq hk, m_A_ok B]
/-- labels packed and unpacked -/
theorem t_dec {k : Nat → Int} {l : Int} (hk : q_KR k) (h1 : 0 ≤ l) (h2 : l ≤ 4) : (0 ≤ q_cd k l ∧ q_cd k l ≤ 4) ∧ q_dec (q_cd k l) = k (46 + l).toNat := by
  have lb := hk.lb h1 h2
  unfold q_cd q_dec
  rcases lb with e | e | e | e | e <;> rw [e] <;> decide
theorem t_un {k f : Nat → Int} (hk : q_KR k) (h : ∀ j, ¬ (47 ≤ j ∧ j ≤ 50) → f j = k j) : q_un (q_pkd k) f = k := by
  have d1 := t_dec hk (l := 1) (by omega) (by omega)
  have d2 := t_dec hk (l := 2) (by omega) (by omega)
  have d3 := t_dec hk (l := 3) (by omega) (by omega)
  have d4 := t_dec hk (l := 4) (by omega) (by omega)
  have e : q_pkd k = 125 * q_cd k 4 + 25 * q_cd k 3 + 5 * q_cd k 2 + q_cd k 1 := by
    unfold q_pkd
    rw [show q_fr (q_pdS k) 0 4 0 = q_fr (q_pdS k) 0 (0 + 1 + 1 + 1 + 1) 0 from rfl, q_fr_s (by omega), q_fr_s (by omega), q_fr_s (by omega), q_fr_s (by omega), q_fr_0 (by omega)]
    unfold q_pdS
    rw [show (4 - (0 + 1 + 1 + 1) : Int) = 1 by omega, show (4 - (0 + 1 + 1) : Int) = 2 by omega, show (4 - (0 + 1) : Int) = 3 by omega, show (4 - 0 : Int) = 4 by omega]
    omega
  unfold q_un
  rw [show (5 : Int) = 1 + 1 + 1 + 1 + 1 by omega, q_fr_s (by omega), q_fr_s (by omega), q_fr_s (by omega), q_fr_s (by omega), q_fr_0 (by omega)]
  unfold q_unP
  dsimp only
  have n1 : q_pkd k % 5 = q_cd k 1 := by omega
  have n2 : q_pkd k / 5 % 5 = q_cd k 2 := by omega
  have n3 : q_pkd k / 5 / 5 % 5 = q_cd k 3 := by omega
  have n4 : q_pkd k / 5 / 5 / 5 % 5 = q_cd k 4 := by omega
  rw [n1, n2, n3, n4, d1.2, d2.2, d3.2, d4.2]
  funext j
  by_cases j4 : j = 50
  · rw [j4]; exact pz_up_eq' (by decide)
  · rw [pz_up_ne (by omega)]
    by_cases j3 : j = 49
    · rw [j3]; exact pz_up_eq' (by decide)
    · rw [pz_up_ne (by omega)]
      by_cases j2 : j = 48
      · rw [j2]; exact pz_up_eq' (by decide)
      · rw [pz_up_ne (by omega)]
        by_cases j1 : j = 47
        · rw [j1]; exact pz_up_eq' (by decide)
        · rw [pz_up_ne (by omega)]
          exact h j (by omega)
theorem t_sets_at {f : Nat → Int} {t u : Int} : (∀ j, ¬ (47 ≤ j ∧ j ≤ 50) → q_sets t u f j = f j) ∧ ∀ l : Int, 1 ≤ l → l ≤ 4 → q_sets t u f (46 + l).toNat = q_if (q_obs f l) (f (46 + l).toNat) (q_if (q_up t (l - 1)) 84 (q_if (q_up u (l - 1)) 70 111)) := by
  have key : (∀ j, ¬ (47 ≤ j ∧ j ≤ 50) → q_sets t u f j = f j) ∧ ∀ l : Int, 1 ≤ l → l ≤ 4 → q_sets t u f (46 + l).toNat = if l < 5 then q_if (q_obs f l) (f (46 + l).toNat) (q_if (q_up t (l - 1)) 84 (q_if (q_up u (l - 1)) 70 111)) else f (46 + l).toNat := by
    unfold q_sets
    refine q_fr_ind (f := q_seS t u) (fun i (y : Nat → Int) => (∀ j, ¬ (47 ≤ j ∧ j ≤ 50) → y j = f j) ∧ ∀ l : Int, 1 ≤ l → l ≤ 4 → y (46 + l).toNat = if l < i then q_if (q_obs f l) (f (46 + l).toNat) (q_if (q_up t (l - 1)) 84 (q_if (q_up u (l - 1)) 70 111)) else f (46 + l).toNat) (by omega) ⟨fun j _ => rfl, fun l l1 l2 => by rw [if_neg (by omega)]⟩ ?_
    intro i y i1 i2 hy
    have yi := hy.2 i i1 (by omega)
    rw [if_neg (by omega)] at yi
    have ob : q_obs y i ↔ q_obs f i := by
      unfold q_obs
      rw [yi]
    unfold q_seS
    by_cases g : q_obs f i
    · rw [q_if_t (ob.mpr g)]
      refine ⟨hy.1, fun l l1 l2 => ?_⟩
      by_cases e : l = i
      · rw [e, if_pos (by omega), q_if_t g]; exact yi
      · rw [hy.2 l l1 l2]
        by_cases c : l < i
        · rw [if_pos c, if_pos (by omega)]
        · rw [if_neg c, if_neg (by omega)]
    · rw [q_if_f (fun q => g (ob.mp q))]
      refine ⟨fun j hj => by rw [pz_up_ne (by omega)]; exact hy.1 j hj, fun l l1 l2 => ?_⟩
      by_cases e : l = i
      · rw [e, pz_up_eq, if_pos (by omega), q_if_f g]
      · rw [pz_up_ne (by omega), hy.2 l l1 l2]
        by_cases c : l < i
        · rw [if_pos c, if_pos (by omega)]
        · rw [if_neg c, if_neg (by omega)]
  exact ⟨key.1, fun l l1 l2 => by rw [key.2 l l1 l2, if_pos (by omega)]⟩
theorem t_un_sets {k : Nat → Int} {tr fa : Int} (hk : q_KR k) : q_un (q_pkd k) (q_sets tr fa (q_lop k)) = k := by
  refine t_un hk (fun j hj => ?_)
  rw [t_sets_at.1 j hj]
  exact if_neg hj
