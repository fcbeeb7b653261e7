/-! mathematics that is owed, eleventh part: between two minutes of the player nothing happens -/
theorem m_so_le {m n x : Int} : q_so m n x ≤ n ∧ (q_so m n x ≤ x ∨ x ≤ m) := by
  unfold q_so
  split <;> omega
theorem m_fso {P : Int → Prop} {f : Int → Int} {g : Int → Int → Int} {m a n x0 : Int} (hn : a ≤ n) (hg1 : ∀ i x, P i → g i x = q_so m x (f i)) (hg2 : ∀ i x, ¬ P i → g i x = x) : q_fr g a n x0 ≤ x0 ∧ ∀ i : Int, a ≤ i → i < n → P i → (q_fr g a n x0 ≤ f i ∨ f i ≤ m) := by
  refine q_fr_ind (f := g) (fun j x => x ≤ x0 ∧ ∀ i : Int, a ≤ i → i < j → P i → (x ≤ f i ∨ f i ≤ m)) hn ⟨Int.le_refl _, fun i h1 h2 => by omega⟩ ?_
  intro j x j1 j2 hx
  by_cases h : P j
  · rw [hg1 j x h]
    have s := m_so_le (m := m) (n := x) (x := f j)
    refine ⟨by omega, fun i i1 i2 hi => ?_⟩
    by_cases e : i = j
    · rw [e]; omega
    · have := hx.2 i i1 (by omega) hi
      omega
  · rw [hg2 j x h]
    refine ⟨hx.1, fun i i1 i2 hi => ?_⟩
    by_cases e : i = j
    · rw [e] at hi; exact absurd hi h
    · exact hx.2 i i1 (by omega) hi
theorem m_nw_le {v k a : Nat → Int} {e m n : Int} (h2 : 0 ≤ k 2) : q_nw v k a e m n ≤ n ∧ ∀ s : Int, 0 ≤ s → s < k 2 → q_run k a s → (q_nw v k a e m n ≤ a (k (212 + 4 * s).toNat).toNat + q_wt v k e s ∨ a (k (212 + 4 * s).toNat).toNat + q_wt v k e s ≤ m) :=
  m_fso (P := q_run k a) (f := fun s => a (k (212 + 4 * s).toNat).toNat + q_wt v k e s) (g := q_nwS v k a e m) h2 (fun i x h => q_if_t h) (fun i x h => q_if_f h)
theorem m_nm_le {v k a : Nat → Int} {p m : Int} (hk : q_KR k) : (∀ s : Int, 0 ≤ s → s < k 2 → q_run k a s → (q_nm v k p m a ≤ a (k (212 + 4 * s).toNat).toNat + q_pck k p s ∨ a (k (212 + 4 * s).toNat).toNat + q_pck k p s ≤ m)) ∧ (∀ e : Int, 0 ≤ e → e < k 0 → a e.toNat = -1 → (q_nm v k p m a ≤ q_lo v a k e ∨ q_lo v a k e ≤ m) ∧ ∀ s : Int, 0 ≤ s → s < k 2 → q_run k a s → (q_nm v k p m a ≤ a (k (212 + 4 * s).toNat).toNat + q_wt v k e s ∨ a (k (212 + 4 * s).toNat).toNat + q_wt v k e s ≤ m)) := by
  have h0 := hk.r0
  have A := m_fso (P := q_run k a) (f := fun s => a (k (212 + 4 * s).toNat).toNat + q_pck k p s) (g := q_nsS k a p m) (m := m) (a := 0) (n := k 2) (x0 := q_fr (q_neS v k a m) 0 (k 0) 601) (by omega) (fun i x h => q_if_t h) (fun i x h => q_if_f h)
  have B : q_fr (q_neS v k a m) 0 (k 0) 601 ≤ 601 ∧ ∀ e : Int, 0 ≤ e → e < k 0 → a e.toNat = -1 → (q_fr (q_neS v k a m) 0 (k 0) 601 ≤ q_lo v a k e ∨ q_lo v a k e ≤ m) ∧ ∀ s : Int, 0 ≤ s → s < k 2 → q_run k a s → (q_fr (q_neS v k a m) 0 (k 0) 601 ≤ a (k (212 + 4 * s).toNat).toNat + q_wt v k e s ∨ a (k (212 + 4 * s).toNat).toNat + q_wt v k e s ≤ m) := by
    refine q_fr_ind (f := q_neS v k a m) (fun j x => x ≤ 601 ∧ ∀ e : Int, 0 ≤ e → e < j → a e.toNat = -1 → (x ≤ q_lo v a k e ∨ q_lo v a k e ≤ m) ∧ ∀ s : Int, 0 ≤ s → s < k 2 → q_run k a s → (x ≤ a (k (212 + 4 * s).toNat).toNat + q_wt v k e s ∨ a (k (212 + 4 * s).toNat).toNat + q_wt v k e s ≤ m)) (by omega) ⟨Int.le_refl _, fun e h1 h2 => by omega⟩ ?_
    intro j x j1 j2 hx
    unfold q_neS
    by_cases h : a j.toNat = -1
    · rw [q_if_t h]
      have s1 := m_so_le (m := m) (n := x) (x := q_lo v a k j)
      have s2 := m_nw_le (v := v) (k := k) (a := a) (e := j) (m := m) (n := q_so m x (q_lo v a k j)) (by omega)
      refine ⟨by omega, fun e e1 e2 he => ?_⟩
      by_cases g : e = j
      · rw [g]
        exact ⟨by omega, s2.2⟩
      · have t := hx.2 e e1 (by omega) he
        refine ⟨by omega, fun s a1 a2 a3 => ?_⟩
        have := t.2 s a1 a2 a3
        omega
    · rw [q_if_f h]
      refine ⟨hx.1, fun e e1 e2 he => ?_⟩
      by_cases g : e = j
      · rw [g] at he; exact absurd he h
      · exact hx.2 e e1 (by omega) he
  have e : q_nm v k p m a = q_fr (q_nsS k a p m) 0 (k 2) (q_fr (q_neS v k a m) 0 (k 0) 601) := rfl
  rw [e]
  refine ⟨A.2, fun x x1 x2 hx => ?_⟩
  have t := B.2 x x1 x2 hx
  refine ⟨by omega, fun s a1 a2 a3 => ?_⟩
  have := t.2 s a1 a2 a3
  omega
/-- when all that could start has started, nothing more can -/
theorem m_sts_end {v k b : Nat → Int} {m : Int} (hk : q_KR k) (hm : m ≠ -1) : q_nxt v k m (q_sts v k m 10 b) = -1 := by
  have h0 := hk.r0
  refine Classical.not_not.mp (fun hne => ?_)
  have all : ∀ n : Int, 0 ≤ n → n ≤ 10 → q_nxt v k m (q_sts v k m n b) ≠ -1 := by
    intro n n1 n2 q
    have e := q_sts_e (v := v) (k := k) (a := b) ⟨n1, n2⟩ rfl q
    rw [← e] at hne
    exact hne q
  have key : ∀ n : Nat, (n : Int) ≤ 10 → q_un0 (q_sts v k m n b) (k 0) ≤ k 0 - n := by
    intro n
    induction n with
    | zero =>
      intro _
      have := (q_cnt_r (fun e => q_sts v k m ((0 : Nat) : Int) b e.toNat = -1) (n := k 0) (by omega)).2
      unfold q_un0
      omega
    | succ n ih =>
      intro hn
      have h1 := all n (by omega) (by omega)
      have r := q_nxt_r hk h1
      have e := q_sts_s (v := v) (k := k) (m := m) (n := n) (a := b) (b := q_sts v k m n b) (by omega) rfl h1
      rw [show ((n + 1 : Nat) : Int) = (n : Int) + 1 by omega, ← e, q_un0_s r.1 r.2.1 r.2.2 hm]
      have := ih (by omega)
      omega
  have k10 := key 10 (by omega)
  rw [show ((10 : Nat) : Int) = 10 from rfl] at k10
  have r := q_nxt_r hk hne
  have u := q_un0_s (n := k 0) r.1 r.2.1 r.2.2 hm
  have u0 := (q_cnt_r (fun e => pz_up (q_sts v k m 10 b) (q_nxt v k m (q_sts v k m 10 b)).toNat m e.toNat = -1) (n := k 0) (by omega)).1
  have u1 : 0 ≤ q_un0 (pz_up (q_sts v k m 10 b) (q_nxt v k m (q_sts v k m 10 b)).toNat m) (k 0) := u0
  omega
theorem m_rs_later {v k c : Nat → Int} {p m m' e : Int} (hk : q_KR k) (h1 : m < m') (h2 : m' < q_nm v k p m c) (he : 0 ≤ e ∧ e < k 0) (h : q_rs v c k e m ≠ 45) : q_rs v c k e m' ≠ 45 := by
  have h0 := hk.r0
  unfold q_rs at h ⊢
  by_cases a1 : c e.toNat ≠ -1
  · rw [q_if_t a1]; omega
  · rw [q_if_f a1] at h ⊢
    have ce : c e.toNat = -1 := Classical.not_not.mp a1
    have nm := (m_nm_le (v := v) (k := k) (a := c) (p := p) (m := m) hk).2 e he.1 he.2 ce
    by_cases a2 : q_ie k e
    · rw [q_if_t a2]; omega
    · rw [q_if_f a2] at h ⊢
      by_cases a3 : q_bh v c k e
      · rw [q_if_t a3]; omega
      · rw [q_if_f a3] at h ⊢
        by_cases a4 : q_mw v c k e m'
        · rw [q_if_t a4]; omega
        · rw [q_if_f a4]
          have a5 : ¬ q_mw v c k e m := by
            rintro ⟨s, s1, s2, s3⟩
            apply a4
            refine ⟨s, s1, s2, ?_⟩
            obtain ⟨t1, t2, t3⟩ := s3
            refine ⟨t1, t2, ?_⟩
            rcases t3 with t3 | t3
            · exact Or.inl t3
            · by_cases t4 : c (k (212 + 4 * s).toNat).toNat = -1
              · exact Or.inl t4
              · right
                have := nm.2 s s1 s2 ⟨t4, fun q => q t1⟩
                omega
          rw [q_if_f a5] at h
          by_cases a6 : m < q_lo v c k e
          · rw [q_if_t (p := m' < q_lo v c k e) (by have := nm.1; omega)]
            omega
          · rw [q_if_f a6] at h
            by_cases a7 : q_hi v c k e < m
            · by_cases a8 : m' < q_lo v c k e
              · rw [q_if_t a8]; omega
              · rw [q_if_f a8, q_if_t (p := q_hi v c k e < m') (by omega)]; omega
            · rw [q_if_f a7] at h
              exact absurd rfl h
theorem m_jump {v k a : Nat → Int} {p m : Int} (hk : q_KR k) (hm : 0 ≤ m ∧ m ≤ 600) : ∀ m' : Int, m < m' → m' < q_nm v k p m (q_mi v k p m a) → q_mi v k p m' (q_mi v k p m a) = q_mi v k p m a := by
  have h0 := hk.r0
  intro m' h1 h2
  have hend : q_nxt v k m (q_mi v k p m a) = -1 := m_sts_end hk (by omega)
  generalize q_mi v k p m a = c at h2 hend ⊢
  have nm := (m_nm_le (v := v) (k := k) (a := c) (p := p) (m := m) hk).1
  have e1 : q_fr (q_enS k p m') 0 (k 2) c = c := by
    refine q_fr_ind (f := q_enS k p m') (fun _ y => y = c) (by omega) rfl ?_
    intro s y s1 s2 hy
    rw [hy]
    unfold q_enS
    rw [q_if_f]
    rintro ⟨t1, t2, t3⟩
    have := nm s s1 s2 ⟨t2, fun q => q t1⟩
    have t3' : m' - c (k (212 + 4 * s).toNat).toNat = q_pck k p s := t3
    omega
  have hrs : ∀ e : Int, 0 ≤ e → e < k 0 → q_rs v c k e m ≠ 45 := by
    rcases q_nxt_ok (v := v) (a := c) (m := m) hk with ⟨g1, -, -, -⟩ | ⟨-, g2⟩
    · omega
    · exact g2
  have e2 : q_nxt v k m' c = -1 := q_nxt_is (Or.inr ⟨rfl, fun i i1 i2 => m_rs_later hk h1 h2 ⟨i1, i2⟩ (hrs i i1 i2)⟩)
  unfold q_mi
  rw [e1]
  refine q_fr_ind (fun _ y => y = c) (by omega) rfl ?_
  intro i y i1 i2 hy
  show q_stp v k m' y = c
  rw [hy]
  unfold q_stp
  rw [q_if_t e2]
