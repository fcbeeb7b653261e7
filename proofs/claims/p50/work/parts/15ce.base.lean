/-! words and mathematics, each behind what it wants: chunk 5 -/
theorem q_w1 {i c : Int} : pz_w (pz_w (i - c) + (-1)) = pz_w (i - (c + 1)) := by
  unfold pz_w
  rw [Int32.ofInt_add, Int32.ofInt_toInt, ← Int32.ofInt_add]
  congr 2
  omega
/-- the span whose end an event is, or -1 -/
noncomputable def q_weS (k : Nat → Int) (e s x : Int) : Int := q_if (x = -1 ∧ k (212 + 4 * s + 1).toNat = e) s x
noncomputable def q_we (k : Nat → Int) (e : Int) : Int := q_fr (q_weS k e) 0 (k 2) (-1)
theorem q_we_spec {k : Nat → Int} {e : Int} (hn : 0 ≤ k 2) : (q_we k e = -1 ∧ ∀ s : Int, 0 ≤ s → s < k 2 → k (212 + 4 * s + 1).toNat ≠ e) ∨ (0 ≤ q_we k e ∧ q_we k e < k 2 ∧ k (212 + 4 * q_we k e + 1).toNat = e ∧ ∀ s : Int, 0 ≤ s → s < q_we k e → k (212 + 4 * s + 1).toNat ≠ e) := by
  unfold q_we
  refine q_fr_ind (f := q_weS k e) (fun i x => (x = -1 ∧ ∀ s : Int, 0 ≤ s → s < i → k (212 + 4 * s + 1).toNat ≠ e) ∨ (0 ≤ x ∧ x < i ∧ k (212 + 4 * x + 1).toNat = e ∧ ∀ s : Int, 0 ≤ s → s < x → k (212 + 4 * s + 1).toNat ≠ e)) hn ?_ ?_
  · exact Or.inl ⟨rfl, fun s h1 h2 => by omega⟩
  · intro i x h1 h2 h
    rcases h with ⟨h3, h4⟩ | ⟨h3, h4, h5, h6⟩
    · by_cases h7 : k (212 + 4 * i + 1).toNat = e
      · unfold q_weS
        rw [q_if_t ⟨h3, h7⟩]
        exact Or.inr ⟨h1, by omega, h7, h4⟩
      · unfold q_weS
        rw [q_if_f (fun q => h7 q.2)]
        refine Or.inl ⟨h3, fun s g1 g2 => ?_⟩
        by_cases g3 : s = i
        · rw [g3]; exact h7
        · exact h4 s g1 (by omega)
    · unfold q_weS
      rw [q_if_f (fun q => by omega)]
      exact Or.inr ⟨h3, by omega, h5, h6⟩
/-- roots: a step for each event, by the span whose end it is -/
theorem m_rtE_eq {k : Nat → Int} {p e : Int} {x : (Nat → Int) × (Nat → Int)} (h : q_KR k) (he : 0 ≤ e ∧ e ≤ 9) : q_rtE k p e x = q_if (q_we k e ≠ -1 ∧ ¬ q_sta k (k (212 + 4 * q_we k e + 1).toNat)) (pz_up (pz_up x.1 e.toNat e) e.toNat (x.1 (k (212 + 4 * q_we k e).toNat).toNat), pz_up (pz_up x.2 e.toNat 0) e.toNat (x.2 (k (212 + 4 * q_we k e).toNat).toNat + q_pck k p (q_we k e))) (pz_up x.1 e.toNat e, pz_up x.2 e.toNat 0) := by
  have h0 := h.r0
  unfold q_rtE
  have key : ∀ n : Int, 0 ≤ n → n ≤ k 2 → q_fr (q_rtS k p e) 0 n (pz_up x.1 e.toNat e, pz_up x.2 e.toNat 0) = q_if ((0 ≤ q_we k e ∧ q_we k e < n) ∧ ¬ q_sta k (k (212 + 4 * q_we k e + 1).toNat)) (pz_up (pz_up x.1 e.toNat e) e.toNat (x.1 (k (212 + 4 * q_we k e).toNat).toNat), pz_up (pz_up x.2 e.toNat 0) e.toNat (x.2 (k (212 + 4 * q_we k e).toNat).toNat + q_pck k p (q_we k e))) (pz_up x.1 e.toNat e, pz_up x.2 e.toNat 0) := by
    intro n hn hn2
    refine q_fr_ind (f := q_rtS k p e) (fun i y => i ≤ k 2 → y = q_if ((0 ≤ q_we k e ∧ q_we k e < i) ∧ ¬ q_sta k (k (212 + 4 * q_we k e + 1).toNat)) (pz_up (pz_up x.1 e.toNat e) e.toNat (x.1 (k (212 + 4 * q_we k e).toNat).toNat), pz_up (pz_up x.2 e.toNat 0) e.toNat (x.2 (k (212 + 4 * q_we k e).toNat).toNat + q_pck k p (q_we k e))) (pz_up x.1 e.toNat e, pz_up x.2 e.toNat 0)) hn ?_ ?_ hn2
    · intro _
      rw [q_if_f (fun q => by omega)]
    · intro i y g1 g2 g3 g4
      have g5 := g3 (by omega)
      have hs := h.sp g1 (by omega)
      rcases q_we_spec (k := k) (e := e) (by omega) with ⟨w1, w2⟩ | ⟨w1, w2, w3, w4⟩
      · rw [q_if_f (fun q => by omega)] at g5 ⊢
        unfold q_rtS
        rw [q_if_f (fun q => w2 i g1 (by omega) q.1)]
        exact g5
      · have hw := h.sp w1 w2
        by_cases c : i = q_we k e
        · rw [q_if_f (fun q => by omega)] at g5
          unfold q_rtS
          by_cases d : q_sta k (k (212 + 4 * q_we k e + 1).toNat)
          · rw [c, q_if_f (fun q => q.2 d), q_if_f (fun q => q.2 d)]
            exact g5
          · rw [c, q_if_t (p := k (212 + 4 * q_we k e + 1).toNat = e ∧ ¬ q_sta k (k (212 + 4 * q_we k e + 1).toNat)) ⟨w3, d⟩, q_if_t (p := (0 ≤ q_we k e ∧ q_we k e < q_we k e + 1) ∧ ¬ q_sta k (k (212 + 4 * q_we k e + 1).toNat)) ⟨⟨w1, by omega⟩, d⟩, g5]
            dsimp only
            rw [pz_up_ne (f := x.1) (j := (k (212 + 4 * q_we k e).toNat).toNat) (by omega), pz_up_ne (f := x.2) (j := (k (212 + 4 * q_we k e).toNat).toNat) (by omega)]
            rfl
        · have hne : k (212 + 4 * i + 1).toNat ≠ e := by
            intro q
            rcases Int.lt_or_le i (q_we k e) with a | a
            · exact w4 i g1 a q
            · exact h.sq w1 (show q_we k e < i by omega) (by omega) (by rw [w3, q])
          unfold q_rtS
          rw [q_if_f (fun q => hne q.1), g5]
          by_cases d : q_we k e < i ∧ ¬ q_sta k (k (212 + 4 * q_we k e + 1).toNat)
          · rw [q_if_t ⟨⟨w1, d.1⟩, d.2⟩, q_if_t ⟨⟨w1, by omega⟩, d.2⟩]
          · rw [q_if_f (fun q => d ⟨q.1.2, q.2⟩), q_if_f (fun q => d ⟨by omega, q.2⟩)]
  rw [key (k 2) (by omega) (Int.le_refl _)]
  rcases q_we_spec (k := k) (e := e) (by omega) with ⟨w1, w2⟩ | ⟨w1, w2, w3, w4⟩
  · rw [q_if_f (fun q => by omega), q_if_f (fun q => q.1 w1)]
  · by_cases d : ¬ q_sta k (k (212 + 4 * q_we k e + 1).toNat)
    · rw [q_if_t ⟨⟨w1, w2⟩, d⟩, q_if_t ⟨by omega, d⟩]
    · rw [q_if_f (fun q => d q.2), q_if_f (fun q => d q.2)]
/-- later steps leave earlier events as they are -/
theorem m_rtE_ne {k : Nat → Int} {p e : Int} {x : (Nat → Int) × (Nat → Int)} {j : Nat} (h : q_KR k) (he : 0 ≤ e ∧ e ≤ 9) (hj : j ≠ e.toNat) : (q_rtE k p e x).1 j = x.1 j ∧ (q_rtE k p e x).2 j = x.2 j := by
  rw [m_rtE_eq h he]
  by_cases c : q_we k e ≠ -1 ∧ ¬ q_sta k (k (212 + 4 * q_we k e + 1).toNat)
  · rw [q_if_t c]
    dsimp only
    rw [pz_up_ne hj, pz_up_ne hj, pz_up_ne hj, pz_up_ne hj]
    exact ⟨rfl, rfl⟩
  · rw [q_if_f c]
    dsimp only
    rw [pz_up_ne hj, pz_up_ne hj]
    exact ⟨rfl, rfl⟩
theorem m_rt_keep {k : Nat → Int} {p i n : Int} {x : (Nat → Int) × (Nat → Int)} {j : Nat} (h : q_KR k) (hi : 0 ≤ i ∧ i ≤ n) (hn : n ≤ 10) (hj : (j : Int) < i) : (q_fr (q_rtE k p) 0 n x).1 j = (q_fr (q_rtE k p) 0 i x).1 j ∧ (q_fr (q_rtE k p) 0 n x).2 j = (q_fr (q_rtE k p) 0 i x).2 j := by
  have key : ∀ d : Nat, i + d ≤ 10 → (q_fr (q_rtE k p) 0 (i + d) x).1 j = (q_fr (q_rtE k p) 0 i x).1 j ∧ (q_fr (q_rtE k p) 0 (i + d) x).2 j = (q_fr (q_rtE k p) 0 i x).2 j := by
    intro d
    induction d with
    | zero => intro _; rw [show i + ((0 : Nat) : Int) = i by omega]; exact ⟨rfl, rfl⟩
    | succ d ih =>
      intro hd
      have h1 := ih (by omega)
      rw [show i + ((d + 1 : Nat) : Int) = i + (d : Int) + 1 by omega, q_fr_s (by omega)]
      have h2 := m_rtE_ne (p := p) (x := q_fr (q_rtE k p) 0 (i + d) x) (j := j) h (e := i + d) (by omega) (by omega)
      exact ⟨h2.1.trans h1.1, h2.2.trans h1.2⟩
  have h9 := key (n - i).toNat (by omega)
  rw [show i + (((n - i).toNat : Nat) : Int) = n by omega] at h9
  exact h9
theorem m_rt_y {k : Nat → Int} {p e : Int} {x : (Nat → Int) × (Nat → Int)} (h : q_KR k) (he : 0 ≤ e ∧ e ≤ 9) (h1 : q_we k e ≠ -1) (h2 : ¬ q_sta k (k (212 + 4 * q_we k e + 1).toNat)) : (q_rt k p x).1 e.toNat = (q_rt k p x).1 (k (212 + 4 * q_we k e).toNat).toNat ∧ (q_rt k p x).2 e.toNat = (q_rt k p x).2 (k (212 + 4 * q_we k e).toNat).toNat + q_pck k p (q_we k e) := by
  have h0 := h.r0
  rcases q_we_spec (k := k) (e := e) (by omega) with ⟨w1, w2⟩ | ⟨w1, w2, w3, w4⟩
  · exact absurd w1 h1
  · have hw := h.sp w1 w2
    have a1 := m_rt_keep (p := p) (x := x) (i := e + 1) (n := 10) (j := e.toNat) h (by omega) (by omega) (by omega)
    have a2 := m_rt_keep (p := p) (x := x) (i := e) (n := 10) (j := (k (212 + 4 * q_we k e).toNat).toNat) h (by omega) (by omega) (by omega)
    unfold q_rt
    rw [a1.1, a1.2, a2.1, a2.2, q_fr_s he.1, m_rtE_eq h he, q_if_t ⟨h1, h2⟩]
    dsimp only
    rw [pz_up_eq, pz_up_eq]
    exact ⟨rfl, rfl⟩
theorem m_rt_n {k : Nat → Int} {p e : Int} {x : (Nat → Int) × (Nat → Int)} (h : q_KR k) (he : 0 ≤ e ∧ e ≤ 9) (h1 : q_we k e = -1 ∨ q_sta k (k (212 + 4 * q_we k e + 1).toNat)) : (q_rt k p x).1 e.toNat = e ∧ (q_rt k p x).2 e.toNat = 0 := by
  have a1 := m_rt_keep (p := p) (x := x) (i := e + 1) (n := 10) (j := e.toNat) h (by omega) (by omega) (by omega)
  unfold q_rt
  rw [a1.1, a1.2, q_fr_s he.1, m_rtE_eq h he, q_if_f (fun q => by
    rcases h1 with g | g
    · exact q.1 g
    · exact q.2 g)]
  dsimp only
  rw [pz_up_eq, pz_up_eq]
  exact ⟨rfl, rfl⟩
theorem m_rt_r {k : Nat → Int} {p : Int} {x : (Nat → Int) × (Nat → Int)} (h : q_KR k) : q_rb (q_rt k p x).1 (q_rt k p x).2 10 := by
  have key : ∀ n : Nat, n ≤ 10 → q_rb (q_rt k p x).1 (q_rt k p x).2 n := by
    intro n
    induction n with
    | zero => intro _ i g1 g2; omega
    | succ n ih =>
      intro hn i g1 g2
      have ih1 := ih (by omega)
      by_cases c : i < n
      · exact ih1 i g1 c
      · have h0 := h.r0
        by_cases d : q_we k i ≠ -1 ∧ ¬ q_sta k (k (212 + 4 * q_we k i + 1).toNat)
        · have h3 := m_rt_y (p := p) (x := x) h (e := i) (by omega) d.1 d.2
          rcases q_we_spec (k := k) (e := i) (by omega) with ⟨w1, w2⟩ | ⟨w1, w2, w3, w4⟩
          · exact absurd w1 d.1
          · have hw := h.sp w1 w2
            have h4 := ih1 (k (212 + 4 * q_we k i).toNat) (by omega) (by omega)
            have h5 := q_pck_r (p := p) h w1 w2
            rw [h3.1, h3.2]
            omega
        · have h3 := m_rt_n (p := p) (x := x) h (e := i) (by omega) (by
            by_cases f : q_we k i = -1
            · exact Or.inl f
            · exact Or.inr (Classical.not_not.mp (fun g => d ⟨f, g⟩)))
          rw [h3.1, h3.2]
          omega
  exact key 10 (by omega)
theorem q_rt_r {k : Nat → Int} {p : Int} {x : (Nat → Int) × (Nat → Int)} (h : q_KR k) : q_rb (q_rt k p x).1 (q_rt k p x).2 10 := m_rt_r h
noncomputable def q_sgB (k r h : Nat → Int) (b : Int) (f : Nat → Int) : Nat → Int := q_if (q_hld k b) (q_if (r (k (52 + 4 * b).toNat).toNat ≠ r (k (52 + 4 * b + 1).toNat).toNat) (q_eg f (r (k (52 + 4 * b).toNat).toNat) (r (k (52 + 4 * b + 1).toNat).toNat) (k (52 + 4 * b + 2).toNat + h (k (52 + 4 * b).toNat).toNat - h (k (52 + 4 * b + 1).toNat).toNat)) f) f
abbrev q_sgO (k r h : Nat → Int) (b : Int) : Prop := q_hld k b → (r (k (52 + 4 * b).toNat).toNat ≠ r (k (52 + 4 * b + 1).toNat).toNat ∨ 0 ≤ k (52 + 4 * b + 2).toNat + h (k (52 + 4 * b).toNat).toNat - h (k (52 + 4 * b + 1).toNat).toNat)
noncomputable def q_sgP (k : Nat → Int) (p : Int) (y : (Nat → Int) × ((Nat → Int) × (Nat → Int))) : (Nat → Int) × ((Nat → Int) × (Nat → Int)) := (q_fr (q_sgB k (q_rt k p y.2).1 (q_rt k p y.2).2) 0 (k 1) y.1, q_rt k p y.2)
noncomputable def q_sg (k : Nat → Int) (p : Int) (y : (Nat → Int) × ((Nat → Int) × (Nat → Int))) : (Nat → Int) × ((Nat → Int) × (Nat → Int)) := q_fr (q_sgP k) 0 p y
def q_sgA (k : Nat → Int) (y : (Nat → Int) × ((Nat → Int) × (Nat → Int))) (p : Int) : Prop := q_all (q_sgO k (q_rt k p (q_sg k p y).2).1 (q_rt k p (q_sg k p y).2).2) (k 1)
noncomputable def q_sgS (k : Nat → Int) (s : Int) (f : Nat → Int) : Nat → Int := q_if (q_sta k (k (212 + 4 * s + 1).toNat)) (q_eg (q_eg f (k (212 + 4 * s).toNat) (k (212 + 4 * s + 1).toNat) (k (212 + 4 * s + 3).toNat)) (k (212 + 4 * s + 1).toNat) (k (212 + 4 * s).toNat) (-(k (212 + 4 * s + 2).toNat))) f
noncomputable def q_sgF (k : Nat → Int) (y : (Nat → Int) × ((Nat → Int) × (Nat → Int))) : Nat → Int := q_fr (q_stE k) 1 (k 0) (q_fr (q_sgS k) 0 (k 2) (q_sg k (q_p2 (k 2)) y).1)
def m_R1 (w : Nat → Int) : Prop := m_wb 1100 w ∧ m_dz w
theorem m_wb_eg {M i j x : Int} {w : Nat → Int} (h : m_wb M w) (hM : M < 1000000) (hx : -M ≤ x ∧ x ≤ M) : m_wb M (q_eg w i j x) := by
  intro n hn
  have := h n hn
  unfold q_eg
  rw [m_lw_at]
  split
  · right; omega
  · exact this
theorem m_dz_eg {i j x : Int} {w : Nat → Int} (h : m_dz w) (hi : 0 ≤ i ∧ i ≤ 9) (hj : 0 ≤ j ∧ j ≤ 9) (hij : i ≠ j) : m_dz (q_eg w i j x) := by
  intro a a1 a2
  unfold q_eg
  rw [m_lw_at, if_neg (by omega)]
  exact h a a1 a2
theorem m_R1_eg {i j x : Int} {w : Nat → Int} (h : m_R1 w) (hi : 0 ≤ i ∧ i ≤ 9) (hj : 0 ≤ j ∧ j ≤ 9) (hij : i ≠ j) (hx : -1100 ≤ x ∧ x ≤ 1100) : m_R1 (q_eg w i j x) := ⟨m_wb_eg h.1 (by omega) hx, m_dz_eg h.2 hi hj hij⟩
theorem m_R1_if {p : Prop} {w w' : Nat → Int} (h1 : p → m_R1 w) (h2 : ¬ p → m_R1 w') : m_R1 (q_if p w w') := by
  by_cases e : p
  · rw [q_if_t e]; exact h1 e
  · rw [q_if_f e]; exact h2 e
theorem m_shift {k : Nat → Int} {p : Int} {x : (Nat → Int) × (Nat → Int)} (h : q_KR k) : ∀ n : Nat, n ≤ 9 → 0 ≤ (q_rt k p x).2 n ∧ (q_rt k p x).2 n ≤ 200 * q_cnt (fun s => k (212 + 4 * s + 1).toNat ≤ n) (k 2) := by
  have h0 := h.r0
  intro n
  induction n using Nat.strongRecOn with
  | _ n ih =>
    intro hn
    have c0 := (q_cnt_r (fun s => k (212 + 4 * s + 1).toNat ≤ n) (n := k 2) (by omega)).1
    by_cases d : q_we k n ≠ -1 ∧ ¬ q_sta k (k (212 + 4 * q_we k n + 1).toNat)
    · have h3 := (m_rt_y (p := p) (x := x) h (e := n) (by omega) d.1 d.2).2
      rcases q_we_spec (k := k) (e := n) (by omega) with ⟨w1, w2⟩ | ⟨w1, w2, w3, w4⟩
      · exact absurd w1 d.1
      · have hw := h.sp w1 w2
        have h5 := q_pck_r (p := p) h w1 w2
        have h4 := ih (k (212 + 4 * q_we k n).toNat).toNat (by omega) (by omega)
        have m := (q_cnt_mono (p := fun s => k (212 + 4 * s + 1).toNat ≤ ((k (212 + 4 * q_we k n).toNat).toNat : Int)) (q := fun s => k (212 + 4 * s + 1).toNat ≤ n) (k 2).toNat (fun i i1 i2 q => by
          have q' : k (212 + 4 * i + 1).toNat ≤ ((k (212 + 4 * q_we k n).toNat).toNat : Int) := q
          show k (212 + 4 * i + 1).toNat ≤ n
          omega)).2 ⟨q_we k n, w1, by omega, by show k (212 + 4 * q_we k n + 1).toNat ≤ n; omega, fun q => by
          have q' : k (212 + 4 * q_we k n + 1).toNat ≤ ((k (212 + 4 * q_we k n).toNat).toNat : Int) := q
          omega⟩
        rw [Int.toNat_of_nonneg (show 0 ≤ k 2 by omega)] at m
        rw [show ((n : Int)).toNat = n from rfl] at h3
        rw [h3]
        omega
    · have h3 := (m_rt_n (p := p) (x := x) h (e := n) (by omega) (by
        by_cases f : q_we k n = -1
        · exact Or.inl f
        · exact Or.inr (Classical.not_not.mp (fun g => d ⟨f, g⟩)))).2
      rw [show ((n : Int)).toNat = n from rfl] at h3
      rw [h3]
      omega
theorem m_shift600 {k : Nat → Int} {p e : Int} {x : (Nat → Int) × (Nat → Int)} (h : q_KR k) (he : 0 ≤ e ∧ e ≤ 9) : 0 ≤ (q_rt k p x).2 e.toNat ∧ (q_rt k p x).2 e.toNat ≤ 600 := by
  have h0 := h.r0
  have a := m_shift (p := p) (x := x) h e.toNat (by omega)
  have b := (q_cnt_r (fun s => k (212 + 4 * s + 1).toNat ≤ (e.toNat : Int)) (n := k 2) (by omega)).2
  omega
theorem m_R1_sg {k g : Nat → Int} {x : (Nat → Int) × (Nat → Int)} {p : Int} (h : q_KR k) (hp : 0 ≤ p) : m_R1 (q_sg k p (q_clr g, x)).1 := by
  have h0 := h.r0
  unfold q_sg
  refine q_fr_ind (f := q_sgP k) (fun _ (y : (Nat → Int) × ((Nat → Int) × (Nat → Int))) => m_R1 y.1) hp ?_ ?_
  · have c := m_R_clr (z := 10) (g := g) (r := fun _ => 0) (by omega)
    refine ⟨fun n hn => ?_, c.2.2.2.1⟩
    have := c.2.2.1 n hn
    show q_clr g n = 1000000 ∨ (-1100 ≤ q_clr g n ∧ q_clr g n ≤ 1100)
    omega
  · intro i y i1 i2 hy
    unfold q_sgP
    show m_R1 (q_fr (q_sgB k (q_rt k i y.2).1 (q_rt k i y.2).2) 0 (k 1) y.1)
    refine q_fr_ind (f := q_sgB k (q_rt k i y.2).1 (q_rt k i y.2).2) (fun _ (w : Nat → Int) => m_R1 w) (by omega) hy ?_
    intro b w b1 b2 hw
    have hb := h.bd b1 b2
    have r := m_rt_r (p := i) (x := y.2) h
    have r1 := r (k (52 + 4 * b).toNat) (by omega) (by omega)
    have r2 := r (k (52 + 4 * b + 1).toNat) (by omega) (by omega)
    have s1 := m_shift600 (p := i) (x := y.2) (e := k (52 + 4 * b).toNat) h (by omega)
    have s2 := m_shift600 (p := i) (x := y.2) (e := k (52 + 4 * b + 1).toNat) h (by omega)
    unfold q_sgB
    exact m_R1_if (fun _ => m_R1_if (fun q => m_R1_eg hw (by omega) (by omega) q (by omega)) (fun _ => hw)) (fun _ => hw)
theorem m_R1_sgF {k g : Nat → Int} {x : (Nat → Int) × (Nat → Int)} (h : q_KR k) : m_R1 (q_sgF k (q_clr g, x)) := by
  have h0 := h.r0
  have hp2 := q_p2_r (a := k 2) (by omega) (by omega)
  unfold q_sgF
  refine q_fr_ind (f := q_stE k) (fun _ (w : Nat → Int) => m_R1 w) (by omega) ?_ ?_
  · refine q_fr_ind (f := q_sgS k) (fun _ (w : Nat → Int) => m_R1 w) (by omega) (m_R1_sg h (by omega)) ?_
    intro s w s1 s2 hw
    have hs := h.sp s1 s2
    unfold q_sgS
    exact m_R1_if (fun _ => m_R1_eg (m_R1_eg hw (by omega) (by omega) (by omega) (by omega)) (by omega) (by omega) (by omega) (by omega)) (fun _ => hw)
  · intro e w e1 e2 hw
    have he := h.st (e := e) (by omega) (by omega)
    unfold q_stE
    exact m_R1_if (fun hs => m_R1_eg (m_R1_eg hw (by omega) (by omega) (by omega) (by omega)) (by omega) (by omega) (by omega) (by omega)) (fun _ => hw)
theorem m_cb_strong {k : Nat → Int} {g : Nat → Int} {x : (Nat → Int) × (Nat → Int)} (h : q_KR k) : q_cb (q_sgF k (q_clr g, x)) := by
  have r := m_R1_sgF (g := g) (x := x) h
  refine m_cb r.1 ?_
  intro i i1 i2
  rw [show (11 * i).toNat = (10 * i + i).toNat by omega, r.2 i i1 (by omega)]
  omega
theorem q_cb_strong {k : Nat → Int} {g : Nat → Int} {x : (Nat → Int) × (Nat → Int)} (h : q_KR k) : q_cb (q_sgF k (q_clr g, x)) := m_cb_strong h
theorem q_sg_s {k f r h : Nat → Int} {p : Int} {y : (Nat → Int) × ((Nat → Int) × (Nat → Int))} (hp : 0 ≤ p) (hy : (f, r, h) = q_sg k p y) : (q_fr (q_sgB k (q_rt k p (r, h)).1 (q_rt k p (r, h)).2) 0 (k 1) f, (q_rt k p (r, h)).1, (q_rt k p (r, h)).2) = q_sg k (p + 1) y := by
  unfold q_sg
  rw [q_fr_s hp]
  show _ = q_sgP k p (q_sg k p y)
  rw [← hy]
  rfl
theorem q_sgA_s {k f r h : Nat → Int} {p z b : Int} {y : (Nat → Int) × ((Nat → Int) × (Nat → Int))} (hp : 0 ≤ p) (hy : (f, r, h) = q_sg k p y) (hb : b = k 1) (hz : z = pz_bi (q_all (q_sgA k y) p ∧ q_all (q_sgO k (q_rt k p (r, h)).1 (q_rt k p (r, h)).2) b)) : z = pz_bi (q_all (q_sgA k y) (p + 1)) := by
  rw [hz]
  refine pz_bi_iff ?_
  rw [q_all_s hp, hb]
  unfold q_sgA
  rw [← hy]
theorem q_fin2 {P A : Prop} {z : Int} (hz : z = pz_bi A) (h : P) : ((0 : Int) = 0 ∧ (z : Int) = 1) ↔ (P ∧ A) := ⟨fun q => ⟨h, (q_fin hz).mp q⟩, fun q => (q_fin hz).mpr q.2⟩
theorem q_aal_k {A : Prop} {p : Int → Prop} {n z : Int} (hz : z = pz_bi (A ∧ q_all p n)) (hn : 0 ≤ n) (hp : p n) : z = pz_bi (A ∧ q_all p (n + 1)) := by
  rw [hz]
  exact pz_bi_iff ⟨fun q => ⟨q.1, (q_all_s hn).mpr ⟨q.2, hp⟩⟩, fun q => ⟨q.1, ((q_all_s hn).mp q.2).1⟩⟩
abbrev q_vl (v : Nat → Int) : Prop := ∀ j : Nat, j < 400 → -1000000000 ≤ v j
abbrev q_al (a : Nat → Int) : Prop := ∀ e : Int, 0 ≤ e → e ≤ 9 → -1 ≤ a e.toNat ∧ a e.toNat ≤ 600
def q_wt (v k : Nat → Int) (e s : Int) : Int := if v (100 * (s + 1) + 10 * e + k (212 + 4 * s).toNat).toNat < 0 then -(v (100 * (s + 1) + 10 * e + k (212 + 4 * s).toNat).toNat) else 0
noncomputable def q_loS (v a : Nat → Int) (e s x : Int) : Int := q_if (a s.toNat ≠ -1 ∧ v (100 * 0 + 10 * e + s).toNat < 1000000 ∧ x < a s.toNat - v (100 * 0 + 10 * e + s).toNat) (a s.toNat - v (100 * 0 + 10 * e + s).toNat) x
noncomputable def q_lo (v a k : Nat → Int) (e : Int) : Int := q_fr (q_loS v a e) 0 (k 0) 0
noncomputable def q_hiS (v a : Nat → Int) (e s x : Int) : Int := q_if (a s.toNat ≠ -1 ∧ v (100 * 0 + 10 * s + e).toNat < 1000000 ∧ a s.toNat + v (100 * 0 + 10 * s + e).toNat < x) (a s.toNat + v (100 * 0 + 10 * s + e).toNat) x
noncomputable def q_hi (v a k : Nat → Int) (e : Int) : Int := q_fr (q_hiS v a e) 0 (k 0) 9999
abbrev q_mwP (v a k : Nat → Int) (e m s : Int) : Prop := a (k (212 + 4 * s + 1).toNat).toNat = -1 ∧ 0 < q_wt v k e s ∧ (a (k (212 + 4 * s).toNat).toNat = -1 ∨ m - a (k (212 + 4 * s).toNat).toNat < q_wt v k e s)
abbrev q_bhP (v a : Nat → Int) (e o : Int) : Prop := a o.toNat = -1 ∧ v (100 * 0 + 10 * e + o).toNat < 0
def q_mw (v a k : Nat → Int) (e m : Int) : Prop := q_exi (q_mwP v a k e m) (k 2)
def q_bh (v a k : Nat → Int) (e : Int) : Prop := q_exi (q_bhP v a e) (k 0)
def q_ie (k : Nat → Int) (e : Int) : Prop := q_exi (fun s => k (212 + 4 * s + 1).toNat = e) (k 2)
noncomputable def q_rs (v a k : Nat → Int) (e m : Int) : Int := q_if (a e.toNat ≠ -1) 115 (q_if (q_ie k e) 110 (q_if (q_bh v a k e) 98 (q_if (q_mw v a k e m) 119 (q_if (m < q_lo v a k e) 101 (q_if (q_hi v a k e < m) 108 45)))))
theorem q_wt_r {v k : Nat → Int} {e s : Int} (hv : q_vl v) (h : (100 * (s + 1) + 10 * e + k (212 + 4 * s).toNat).toNat < 400) : 0 ≤ q_wt v k e s ∧ q_wt v k e s ≤ 1000000000 := by
  have h1 := hv _ h
  unfold q_wt
  split <;> omega
abbrev q_vb (v : Nat → Int) : Prop := ∀ j : Nat, j < 400 → -1000000000 ≤ v j ∧ v j ≤ 1000000
noncomputable def q_spA (k a : Nat → Int) (s e : Int) (v : Nat → Int) : Nat → Int := q_if (e ≠ k (212 + 4 * s + 1).toNat ∧ a (100 * 0 + 10 * k (212 + 4 * s + 1).toNat + e).toNat ≤ 0) (q_lw v (100 * 0 + 10 * k (212 + 4 * s).toNat + e) (k (212 + 4 * s + 2).toNat + a (100 * 0 + 10 * k (212 + 4 * s + 1).toNat + e).toNat)) v
noncomputable def q_spB (k a : Nat → Int) (s e o : Int) (v : Nat → Int) : Nat → Int := q_if (o ≠ s ∧ a (100 * (o + 1) + 10 * k (212 + 4 * s + 1).toNat + e).toNat ≤ 0) (q_lw v (100 * (o + 1) + 10 * k (212 + 4 * s).toNat + e) (k (212 + 4 * s + 2).toNat + a (100 * (o + 1) + 10 * k (212 + 4 * s + 1).toNat + e).toNat)) v
noncomputable def q_spC (k a : Nat → Int) (s e : Int) (v : Nat → Int) : Nat → Int := q_if (a (100 * (s + 1) + 10 * e + k (212 + 4 * s).toNat).toNat < 1000000 ∧ -(k (212 + 4 * s + 2).toNat) ≤ a (100 * (s + 1) + 10 * e + k (212 + 4 * s).toNat).toNat) (q_lw v (100 * 0 + 10 * e + k (212 + 4 * s).toNat) (a (100 * (s + 1) + 10 * e + k (212 + 4 * s).toNat).toNat)) v
noncomputable def q_spR (k a : Nat → Int) (s e : Int) (v : Nat → Int) : Nat → Int := q_spC k a s e (q_fr (q_spB k a s e) 0 (k 2) (q_spA k a s e v))
noncomputable def q_spn (k a : Nat → Int) (s : Int) (v : Nat → Int) : Nat → Int := q_fr (q_spR k a s) 0 10 v
noncomputable def q_rdT (a : Nat → Int) (f c q t : Int) (v : Nat → Int) : Nat → Int := q_if (a (100 * q + 10 * c + t).toNat < 1000000) (q_lw v (100 * q + 10 * f + t) (a (100 * 0 + 10 * f + c).toNat + a (100 * q + 10 * c + t).toNat)) v
noncomputable def q_rdQ (a : Nat → Int) (f c q : Int) (v : Nat → Int) : Nat → Int := q_fr (q_rdT a f c q) 0 10 v
noncomputable def q_rdC (k a : Nat → Int) (f c : Int) (v : Nat → Int) : Nat → Int := q_if (a (100 * 0 + 10 * f + c).toNat = 1000000) v (q_fr (q_rdQ a f c) 0 (k 2 + 1) v)
noncomputable def q_rdF (k a : Nat → Int) (f : Int) (v : Nat → Int) : Nat → Int := q_fr (q_rdC k a f) 0 10 v
noncomputable def q_rdS (k a : Nat → Int) (s : Int) (v : Nat → Int) : Nat → Int := q_if (q_sta k (k (212 + 4 * s + 1).toNat)) v (q_spn k a s v)
noncomputable def q_rd (k a v : Nat → Int) : Nat → Int := q_fr (q_rdS k a) 0 (k 2) (q_fr (q_rdF k a) 0 10 v)
def q_c4 (v a : Nat → Int) : Nat → Int := fun j => if j < 400 then v j else a j
abbrev q_hcP (v a : Nat → Int) (i : Int) : Prop := v i.toNat ≠ a i.toNat
def q_hc (v a : Nat → Int) : Prop := q_exi (q_hcP v a) 400
noncomputable def q_irS (v : Nat → Int) (i q : Int) (f : Nat → Int) : Nat → Int := q_if (v (100 * q + i).toNat < f i.toNat) (pz_up f i.toNat (v (100 * q + i).toNat)) f
noncomputable def q_irI (k v : Nat → Int) (i : Int) (f : Nat → Int) : Nat → Int := q_fr (q_irS v i) 0 (k 2 + 1) (pz_up f i.toNat 1000000)
noncomputable def q_ir (k v f : Nat → Int) : Nat → Int := q_fr (q_irI k v) 0 100 f
def q_v0 (d v : Nat → Int) : Nat → Int := fun j => if j < 400 then (if j < 100 then d j else 1000000) else v j
noncomputable def q_upS (k : Nat → Int) (s : Int) (v : Nat → Int) : Nat → Int := q_if (q_sta k (k (212 + 4 * s + 1).toNat)) v (pz_up v (100 * (s + 1) + 10 * k (212 + 4 * s + 1).toNat + k (212 + 4 * s).toNat).toNat (-(k (212 + 4 * s + 3).toNat)))
noncomputable def q_vi (k d v : Nat → Int) : Nat → Int := q_fr (q_upS k) 0 (k 2) (q_v0 d v)
abbrev q_X : Type := (Nat → Int) × ((Nat → Int) × (Nat → Int))
noncomputable def q_rx1 (k : Nat → Int) (x : q_X) : q_X := (q_rd k (q_c4 x.1 x.2.1) x.1, q_c4 x.1 x.2.1, q_cg (q_ir k (q_rd k (q_c4 x.1 x.2.1) x.1) x.2.2))
noncomputable def q_rx (k : Nat → Int) (n : Int) (x : q_X) : q_X := q_fr (fun _ => q_rx1 k) 0 n x
def q_fi (k : Nat → Int) (x : q_X) : Prop := q_ok (q_ir k (q_rd k (q_c4 x.1 x.2.1) x.1) x.2.2)
def q_ha (k : Nat → Int) (x : q_X) : Prop := q_hc (q_rd k (q_c4 x.1 x.2.1) x.1) (q_c4 x.1 x.2.1)
theorem q_rx_s {k v a g : Nat → Int} {n : Int} {x : q_X} (hn : 0 ≤ n) (hx : (v, a, g) = q_rx k n x) : (q_rd k (q_c4 v a) v, q_c4 v a, q_cg (q_ir k (q_rd k (q_c4 v a) v) g)) = q_rx k (n + 1) x := by
  unfold q_rx
  rw [q_fr_s hn]
  show _ = q_rx1 k (q_rx k n x)
  rw [← hx]
  rfl
/-- a last round: before it each one was fine and changed something -/
def q_last (k : Nat → Int) (x : q_X) (m : Int) : Prop := (0 ≤ m ∧ m ≤ 59) ∧ (∀ i : Int, 0 ≤ i → i < m → q_fi k (q_rx k i x) ∧ q_ha k (q_rx k i x)) ∧ ¬ (q_fi k (q_rx k m x) ∧ q_ha k (q_rx k m x) ∧ m < 59)
def q_rB (k : Nat → Int) (x : q_X) (m : Int) : Prop := ∀ i : Int, 0 ≤ i → i ≤ m → q_vb (q_rx k i x).1 ∧ q_cb (q_ir k (q_rx k (i + 1) x).1 (q_rx k i x).2.2)
theorem q_last_go {k v a g : Nat → Int} {n m : Int} {x : q_X} (hl : q_last k x m) (hn : 0 ≤ n ∧ n ≤ m) (hx : (v, a, g) = q_rx k n x) (h1 : q_ok (q_ir k (q_rd k (q_c4 v a) v) g)) (h2 : q_hc (q_rd k (q_c4 v a) v) (q_c4 v a)) (h3 : n + 1 < 60) : n < m := by
  obtain ⟨-, -, h⟩ := hl
  rcases Int.lt_or_le n m with hq | hq
  · exact hq
  · exfalso
    have hq : n = m := by omega
    subst hq
    apply h
    rw [← hx]
    exact ⟨h1, h2, by omega⟩
