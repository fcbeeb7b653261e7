/-! what the plan's row keeps, change by change -/
theorem t_KR_ev {k : Nat → Int} (h : q_KR k) (h1 : k 0 ≠ 10) : q_KR (pz_up k 0 (k 0 + 1)) := by
  have h0 := h.r0
  have e0 : pz_up k 0 (k 0 + 1) 0 = k 0 + 1 := pz_up_eq
  have e : ∀ j, j ≠ 0 → pz_up k 0 (k 0 + 1) j = k j := fun j hj => pz_up_ne hj
  refine ⟨?_, ?_, ?_, ?_, ?_, ?_, ?_, ?_, ?_, ?_⟩
  · rw [e0, e 1 (by decide), e 2 (by decide), e 3 (by decide), e 4 (by decide), e 5 (by decide), e 6 (by decide), e 240 (by decide)]; omega
  · intro x g1 g2
    rw [e (6 + x).toNat (by omega), e 4 (by decide), e0]
    have q := h.2.1 x g1 g2
    exact ⟨q.1, fun z => by have := q.2 z; omega⟩
  · intro x g1 g2
    rw [e (16 + x).toNat (by omega), e (26 + x).toNat (by omega), e (36 + x).toNat (by omega)]
    exact h.2.2.1 x g1 g2
  · intro l g1 g2
    rw [e (46 + l).toNat (by omega)]
    exact h.2.2.2.1 l g1 g2
  · intro b g1 g2
    rw [e 1 (by decide)] at g2
    have q := h.bd g1 g2
    rw [e (52 + 4 * b).toNat (by omega), e (52 + 4 * b + 1).toNat (by omega), e (52 + 4 * b + 2).toNat (by omega), e (52 + 4 * b + 3).toNat (by omega), e0]
    exact ⟨by omega, by omega, q.2.2.1, q.2.2.2.1, q.2.2.2.2⟩
  · intro s g1 g2
    rw [e 2 (by decide)] at g2
    have q := h.sp g1 g2
    rw [e (212 + 4 * s).toNat (by omega), e (212 + 4 * s + 1).toNat (by omega), e (212 + 4 * s + 2).toNat (by omega), e (212 + 4 * s + 3).toNat (by omega), e0]
    omega
  · intro s t g1 g2 g3
    rw [e 2 (by decide)] at g3
    rw [e (212 + 4 * s + 1).toNat (by omega), e (212 + 4 * t + 1).toNat (by omega)]
    exact h.sq g1 g2 g3
  · intro s g1 g2 g3
    rw [e 2 (by decide)] at g2
    have hs := h.sp g1 g2
    have a0 := e (212 + 4 * s).toNat (by omega)
    have a1 := e (212 + 4 * s + 1).toNat (by omega)
    have a2 := e (212 + 4 * s + 2).toNat (by omega)
    have a3 := e (212 + 4 * s + 3).toNat (by omega)
    have a4 := e (6 + k (212 + 4 * s + 1).toNat).toNat (by omega)
    have a5 := e (6 + k (212 + 4 * s).toNat).toNat (by omega)
    have g4 : q_sta k (k (212 + 4 * s + 1).toNat) := by
      intro q
      apply g3
      rw [a1, a4]
      exact q
    have h9 := h.en g1 g2 g4
    rw [a0, a1, a2, a3, a4, a5]
    refine ⟨?_, h9.2⟩
    show pz_up k 0 (k 0 + 1) (6 + k (212 + 4 * s).toNat).toNat ≠ -1
    rw [a5]
    exact h9.1
  · intro a g1 g2
    rw [e 3 (by decide)] at g2
    have q := h.ac g1 g2
    rw [e (224 + 3 * a).toNat (by omega), e (224 + 3 * a + 1).toNat (by omega), e (224 + 3 * a + 2).toNat (by omega), e0]
    exact ⟨by omega, by omega, q.2.2.1, q.2.2.2⟩
  · intro x g1 g2
    rw [e 240 (by decide)] at g2
    rw [e (241 + x).toNat (by omega)]
    exact h.pl g1 g2
theorem t_KR_tell {k : Nat → Int} {F T W B : Int} (h : q_KR k) (hF : 0 ≤ F ∧ F < k 0) (hT : 0 ≤ T ∧ T < k 0) (hne : F ≠ T) (hW : -500 ≤ W ∧ W ≤ 500) (hB : -4 ≤ B ∧ B ≤ 4) (h1 : k 1 ≠ 40) : q_KR (q_tell k F T W B) := by
  have h0 := h.r0
  have at_ := q_tell_at (k := k) (F := F) (T := T) (W := W) (B := B) (by omega)
  have e1 : q_tell k F T W B 1 = k 1 + 1 := by rw [at_, if_pos rfl]
  refine m_KR_ag h (fun j hj => ?_) (by rw [e1]; omega) ?_ ?_
  · rw [at_, if_neg (by omega), if_neg (by omega), if_neg (by omega), if_neg (by omega), if_neg (by omega)]
  · intro l g1 g2
    rw [at_, if_neg (by omega), if_neg (by omega), if_neg (by omega), if_neg (by omega), if_neg (by omega)]
    exact h.lb (by omega) g2
  · intro b g1 g2
    rw [e1] at g2
    by_cases c : b = k 1
    · have v0 : q_tell k F T W B (52 + 4 * b).toNat = F := by
        rw [at_, if_neg (by omega), if_neg (by omega), if_neg (by omega), if_neg (by omega), if_pos (by omega)]
      have v1 : q_tell k F T W B (52 + 4 * b + 1).toNat = T := by
        rw [at_, if_neg (by omega), if_neg (by omega), if_neg (by omega), if_pos (by omega)]
      have v2 : q_tell k F T W B (52 + 4 * b + 2).toNat = W := by
        rw [at_, if_neg (by omega), if_neg (by omega), if_pos (by omega)]
      have v3 : q_tell k F T W B (52 + 4 * b + 3).toNat = B := by
        rw [at_, if_neg (by omega), if_pos (by omega)]
      rw [v0, v1, v2, v3]
      exact ⟨hF, hT, hne, hW, Or.inl hB⟩
    · have q := h.bd g1 (by omega)
      rw [at_ (52 + 4 * b).toNat, at_ (52 + 4 * b + 1).toNat, at_ (52 + 4 * b + 2).toNat, at_ (52 + 4 * b + 3).toNat]
      rw [if_neg (by omega), if_neg (by omega), if_neg (by omega), if_neg (by omega), if_neg (by omega), if_neg (by omega), if_neg (by omega), if_neg (by omega), if_neg (by omega), if_neg (by omega), if_neg (by omega), if_neg (by omega), if_neg (by omega), if_neg (by omega), if_neg (by omega), if_neg (by omega), if_neg (by omega), if_neg (by omega), if_neg (by omega), if_neg (by omega)]
      exact q
/-- rows that agree but for spans and how many there are -/
theorem t_KR_sp {k : Nat → Int} {F T W G : Int} (h : q_KR k) (hF : 0 ≤ F ∧ F < T) (hT : T < k 0) (hW : 1 ≤ W ∧ W ≤ G ∧ G ≤ 200) (h2 : k 2 ≠ 3) (hx : ¬ q_exi (fun s => k (212 + 4 * s + 1).toNat = T) (k 2)) (hs : ¬ q_sta k T) : q_KR (q_addsp k F T W G) := by
  have h0 := h.r0
  have at_ := q_addsp_at (k := k) (F := F) (T := T) (W := W) (B := G) (by omega)
  have e : ∀ j : Nat, (j < 212 ∨ 224 ≤ j) → j ≠ 2 → q_addsp k F T W G j = k j := fun j h1 h3 => by
    rw [at_, if_neg h3, if_neg (by omega), if_neg (by omega), if_neg (by omega), if_neg (by omega)]
  have e2 : q_addsp k F T W G 2 = k 2 + 1 := by rw [at_, if_pos rfl]
  have v0 : q_addsp k F T W G (212 + 4 * k 2).toNat = F := by
    rw [at_, if_neg (by omega), if_neg (by omega), if_neg (by omega), if_neg (by omega), if_pos (by omega)]
  have v1 : q_addsp k F T W G (212 + 4 * k 2 + 1).toNat = T := by
    rw [at_, if_neg (by omega), if_neg (by omega), if_neg (by omega), if_pos (by omega)]
  have v2 : q_addsp k F T W G (212 + 4 * k 2 + 2).toNat = W := by
    rw [at_, if_neg (by omega), if_neg (by omega), if_pos (by omega)]
  have v3 : q_addsp k F T W G (212 + 4 * k 2 + 3).toNat = G := by
    rw [at_, if_neg (by omega), if_pos (by omega)]
  have old : ∀ s i : Int, 0 ≤ s → s < k 2 → 0 ≤ i → i ≤ 3 → q_addsp k F T W G (212 + 4 * s + i).toNat = k (212 + 4 * s + i).toNat := fun s i s1 s2 i1 i2 => by
    rw [at_, if_neg (by omega), if_neg (by omega), if_neg (by omega), if_neg (by omega), if_neg (by omega)]
  have old0 : ∀ s : Int, 0 ≤ s → s < k 2 → q_addsp k F T W G (212 + 4 * s).toNat = k (212 + 4 * s).toNat := fun s s1 s2 => by
    have := old s 0 s1 s2 (by omega) (by omega)
    rw [Int.add_zero] at this
    exact this
  have nt : ∀ s : Int, 0 ≤ s → s < k 2 → k (212 + 4 * s + 1).toNat ≠ T := fun s s1 s2 q => hx ⟨s, s1, s2, q⟩
  refine ⟨?_, ?_, ?_, ?_, ?_, ?_, ?_, ?_, ?_, ?_⟩
  · rw [e 0 (by omega) (by decide), e 1 (by omega) (by decide), e2, e 3 (by omega) (by decide), e 4 (by omega) (by decide), e 5 (by omega) (by decide), e 6 (by omega) (by decide), e 240 (by omega) (by decide)]; omega
  · intro x g1 g2
    rw [e (6 + x).toNat (by omega) (by omega), e 4 (by omega) (by decide), e 0 (by omega) (by decide)]
    exact h.2.1 x g1 g2
  · intro x g1 g2
    rw [e (16 + x).toNat (by omega) (by omega), e (26 + x).toNat (by omega) (by omega), e (36 + x).toNat (by omega) (by omega)]
    exact h.2.2.1 x g1 g2
  · intro l g1 g2
    rw [e (46 + l).toNat (by omega) (by omega)]
    exact h.2.2.2.1 l g1 g2
  · intro b g1 g2
    rw [e 1 (by omega) (by decide)] at g2
    rw [e (52 + 4 * b).toNat (by omega) (by omega), e (52 + 4 * b + 1).toNat (by omega) (by omega), e (52 + 4 * b + 2).toNat (by omega) (by omega), e (52 + 4 * b + 3).toNat (by omega) (by omega), e 0 (by omega) (by decide)]
    exact h.bd g1 g2
  · intro s g1 g2
    rw [e2] at g2
    by_cases c : s = k 2
    · rw [c, v0, v1, v2, v3, e 0 (by omega) (by decide)]
      omega
    · have q := h.sp g1 (show s < k 2 by omega)
      rw [old0 s g1 (by omega), old s 1 g1 (by omega) (by omega) (by omega), old s 2 g1 (by omega) (by omega) (by omega), old s 3 g1 (by omega) (by omega) (by omega), e 0 (by omega) (by decide)]
      exact q
  · intro s t g1 g2 g3
    rw [e2] at g3
    by_cases c : t = k 2
    · rw [c, v1, old s 1 g1 (by omega) (by omega) (by omega)]
      exact nt s g1 (by omega)
    · rw [old s 1 g1 (by omega) (by omega) (by omega), old t 1 (by omega) (by omega) (by omega) (by omega)]
      exact h.sq g1 g2 (by omega)
  · intro s g1 g2 g3
    rw [e2] at g2
    by_cases c : s = k 2
    · exfalso
      rw [c, v1] at g3
      have g4 : q_addsp k F T W G (6 + T).toNat ≠ -1 := g3
      rw [e (6 + T).toNat (by omega) (by omega)] at g4
      exact hs g4
    · have s2 : s < k 2 := by omega
      have sp := h.sp g1 s2
      have a0 := old0 s g1 s2
      have a1 := old s 1 g1 s2 (by omega) (by omega)
      have a2 := old s 2 g1 s2 (by omega) (by omega)
      have a3 := old s 3 g1 s2 (by omega) (by omega)
      have a4 := e (6 + k (212 + 4 * s + 1).toNat).toNat (by omega) (by omega)
      have a5 := e (6 + k (212 + 4 * s).toNat).toNat (by omega) (by omega)
      have g4 : q_sta k (k (212 + 4 * s + 1).toNat) := by
        intro q
        apply g3
        rw [a1, a4]
        exact q
      have h9 := h.en g1 s2 g4
      rw [a0, a1, a2, a3, a4, a5]
      refine ⟨?_, h9.2⟩
      show q_addsp k F T W G (6 + k (212 + 4 * s).toNat).toNat ≠ -1
      rw [a5]
      exact h9.1
  · intro a g1 g2
    rw [e 3 (by omega) (by decide)] at g2
    rw [e (224 + 3 * a).toNat (by omega) (by omega), e (224 + 3 * a + 1).toNat (by omega) (by omega), e (224 + 3 * a + 2).toNat (by omega) (by omega), e 0 (by omega) (by decide)]
    exact h.ac g1 g2
  · intro x g1 g2
    rw [e 240 (by omega) (by decide)] at g2
    rw [e (241 + x).toNat (by omega) (by omega)]
    exact h.pl g1 g2
/-- an event started, or a span ended, now -/
theorem t_KR_st {k : Nat → Int} {x : Int} (h : q_KR k) (hx : 1 ≤ x ∧ x < k 0) (hn : ¬ q_sta k x) (hend : ∀ s : Int, 0 ≤ s → s < k 2 → k (212 + 4 * s + 1).toNat = x → q_sta k (k (212 + 4 * s).toNat) ∧ k (212 + 4 * s + 2).toNat ≤ k 4 - k (6 + k (212 + 4 * s).toNat).toNat ∧ k 4 - k (6 + k (212 + 4 * s).toNat).toNat ≤ k (212 + 4 * s + 3).toNat) : q_KR (pz_up k (6 + x).toNat (k 4)) := by
  have h0 := h.r0
  have e : ∀ j, j ≠ (6 + x).toNat → pz_up k (6 + x).toNat (k 4) j = k j := fun j hj => pz_up_ne hj
  have ex : pz_up k (6 + x).toNat (k 4) (6 + x).toNat = k 4 := pz_up_eq
  have hn' : k (6 + x).toNat = -1 := Classical.not_not.mp hn
  refine ⟨?_, ?_, ?_, ?_, ?_, ?_, ?_, ?_, ?_, ?_⟩
  · rw [e 0 (by omega), e 1 (by omega), e 2 (by omega), e 3 (by omega), e 4 (by omega), e 5 (by omega), e 6 (by omega), e 240 (by omega)]; omega
  · intro y g1 g2
    rw [e 4 (by omega), e 0 (by omega)]
    by_cases c : y = x
    · rw [c, ex]
      exact ⟨by omega, fun _ => hx.2⟩
    · rw [e (6 + y).toNat (by omega)]
      exact h.2.1 y g1 g2
  · intro y g1 g2
    rw [e (16 + y).toNat (by omega), e (26 + y).toNat (by omega), e (36 + y).toNat (by omega)]
    exact h.2.2.1 y g1 g2
  · intro l g1 g2
    rw [e (46 + l).toNat (by omega)]
    exact h.2.2.2.1 l g1 g2
  · intro b g1 g2
    rw [e 1 (by omega)] at g2
    rw [e (52 + 4 * b).toNat (by omega), e (52 + 4 * b + 1).toNat (by omega), e (52 + 4 * b + 2).toNat (by omega), e (52 + 4 * b + 3).toNat (by omega), e 0 (by omega)]
    exact h.bd g1 g2
  · intro s g1 g2
    rw [e 2 (by omega)] at g2
    rw [e (212 + 4 * s).toNat (by omega), e (212 + 4 * s + 1).toNat (by omega), e (212 + 4 * s + 2).toNat (by omega), e (212 + 4 * s + 3).toNat (by omega), e 0 (by omega)]
    exact h.sp g1 g2
  · intro s t g1 g2 g3
    rw [e 2 (by omega)] at g3
    rw [e (212 + 4 * s + 1).toNat (by omega), e (212 + 4 * t + 1).toNat (by omega)]
    exact h.sq g1 g2 g3
  · intro s g1 g2 g3
    rw [e 2 (by omega)] at g2
    have hs := h.sp g1 g2
    have a0 := e (212 + 4 * s).toNat (by omega)
    have a1 := e (212 + 4 * s + 1).toNat (by omega)
    have a2 := e (212 + 4 * s + 2).toNat (by omega)
    have a3 := e (212 + 4 * s + 3).toNat (by omega)
    -- the span's first has started, and is not x
    have go : q_sta k (k (212 + 4 * s).toNat) → k (212 + 4 * s).toNat ≠ x := fun q z => by
      rw [z] at q
      exact hn q
    by_cases c : k (212 + 4 * s + 1).toNat = x
    · have q := hend s g1 g2 c
      have nx := go q.1
      have a5 := e (6 + k (212 + 4 * s).toNat).toNat (by omega)
      have a4 : pz_up k (6 + x).toNat (k 4) (6 + k (212 + 4 * s + 1).toNat).toNat = k 4 := by rw [c]; exact ex
      rw [a0, a1, a2, a3, a4, a5]
      refine ⟨?_, q.2⟩
      show pz_up k (6 + x).toNat (k 4) (6 + k (212 + 4 * s).toNat).toNat ≠ -1
      rw [a5]
      exact q.1
    · have a4 := e (6 + k (212 + 4 * s + 1).toNat).toNat (by omega)
      have g4 : q_sta k (k (212 + 4 * s + 1).toNat) := by
        intro q
        apply g3
        rw [a1, a4]
        exact q
      have h9 := h.en g1 g2 g4
      have nx := go h9.1
      have a5 := e (6 + k (212 + 4 * s).toNat).toNat (by omega)
      rw [a0, a1, a2, a3, a4, a5]
      refine ⟨?_, h9.2⟩
      show pz_up k (6 + x).toNat (k 4) (6 + k (212 + 4 * s).toNat).toNat ≠ -1
      rw [a5]
      exact h9.1
  · intro a g1 g2
    rw [e 3 (by omega)] at g2
    rw [e (224 + 3 * a).toNat (by omega), e (224 + 3 * a + 1).toNat (by omega), e (224 + 3 * a + 2).toNat (by omega), e 0 (by omega)]
    exact h.ac g1 g2
  · intro y g1 g2
    rw [e 240 (by omega)] at g2
    rw [e (241 + y).toNat (by omega)]
    exact h.pl g1 g2
/-- rows that agree in all that starts, bounds and spans tell -/
theorem t_KR_oth {k k' : Nat → Int} (h : q_KR k) (e : ∀ j, j ≠ 3 → j ≠ 4 → j ≠ 5 → ¬ (16 ≤ j ∧ j < 46) → j < 224 → k' j = k j) (h4 : k 4 ≤ k' 4 ∧ k' 4 ≤ 600) (h5 : 0 ≤ k' 5 ∧ k' 5 ≤ 40) (h240 : 0 ≤ k' 240 ∧ k' 240 ≤ k 0) (h3 : 0 ≤ k' 3 ∧ k' 3 ≤ 5) (hc : ∀ x : Int, 0 ≤ x → x ≤ 9 → (-1 ≤ k' (16 + x).toNat ∧ k' (16 + x).toNat ≤ 999) ∧ (0 ≤ k' (26 + x).toNat ∧ k' (26 + x).toNat ≤ 99) ∧ (0 ≤ k' (36 + x).toNat ∧ k' (36 + x).toNat ≤ 99)) (ha : ∀ a : Int, 0 ≤ a → a < k' 3 → (0 ≤ k' (224 + 3 * a).toNat ∧ k' (224 + 3 * a).toNat < k 0) ∧ (0 ≤ k' (224 + 3 * a + 1).toNat ∧ k' (224 + 3 * a + 1).toNat < k 0) ∧ k' (224 + 3 * a).toNat ≠ k' (224 + 3 * a + 1).toNat ∧ (1 ≤ k' (224 + 3 * a + 2).toNat ∧ k' (224 + 3 * a + 2).toNat ≤ 9)) (hp : ∀ x : Int, 0 ≤ x → x < k' 240 → 0 ≤ k' (241 + x).toNat ∧ k' (241 + x).toNat ≤ 600) : q_KR k' := by
  have h0 := h.r0
  have n : ∀ j, j ≠ 3 ∧ j ≠ 4 ∧ j ≠ 5 ∧ ¬ (16 ≤ j ∧ j < 46) ∧ j < 224 → k' j = k j := fun j q => e j q.1 q.2.1 q.2.2.1 q.2.2.2.1 q.2.2.2.2
  refine ⟨?_, ?_, hc, ?_, ?_, ?_, ?_, ?_, ?_, hp⟩
  · rw [n 0 (by omega), n 1 (by omega), n 2 (by omega), n 6 (by omega)]; omega
  · intro x g1 g2
    have q := h.2.1 x g1 g2
    rw [n (6 + x).toNat (by omega), n 0 (by omega)]
    exact ⟨by omega, q.2⟩
  · intro l g1 g2
    rw [n (46 + l).toNat (by omega)]
    exact h.2.2.2.1 l g1 g2
  · intro b g1 g2
    rw [n 1 (by omega)] at g2
    rw [n (52 + 4 * b).toNat (by omega), n (52 + 4 * b + 1).toNat (by omega), n (52 + 4 * b + 2).toNat (by omega), n (52 + 4 * b + 3).toNat (by omega), n 0 (by omega)]
    exact h.bd g1 g2
  · intro s g1 g2
    rw [n 2 (by omega)] at g2
    rw [n (212 + 4 * s).toNat (by omega), n (212 + 4 * s + 1).toNat (by omega), n (212 + 4 * s + 2).toNat (by omega), n (212 + 4 * s + 3).toNat (by omega), n 0 (by omega)]
    exact h.sp g1 g2
  · intro s t g1 g2 g3
    rw [n 2 (by omega)] at g3
    rw [n (212 + 4 * s + 1).toNat (by omega), n (212 + 4 * t + 1).toNat (by omega)]
    exact h.sq g1 g2 g3
  · intro s g1 g2 g3
    rw [n 2 (by omega)] at g2
    have hs := h.sp g1 g2
    have a0 := n (212 + 4 * s).toNat (by omega)
    have a1 := n (212 + 4 * s + 1).toNat (by omega)
    have a2 := n (212 + 4 * s + 2).toNat (by omega)
    have a3 := n (212 + 4 * s + 3).toNat (by omega)
    have a4 := n (6 + k (212 + 4 * s + 1).toNat).toNat (by omega)
    have a5 := n (6 + k (212 + 4 * s).toNat).toNat (by omega)
    have g4 : q_sta k (k (212 + 4 * s + 1).toNat) := by
      intro q
      apply g3
      rw [a1, a4]
      exact q
    have h9 := h.en g1 g2 g4
    rw [a0, a1, a2, a3, a4, a5]
    refine ⟨?_, h9.2⟩
    show k' (6 + k (212 + 4 * s).toNat).toNat ≠ -1
    rw [a5]
    exact h9.1
  · intro a g1 g2
    rw [n 0 (by omega)]
    exact ha a g1 g2
theorem t_KR_pass {k : Nat → Int} {m : Int} (h : q_KR k) (hm : k 4 ≤ m ∧ m ≤ 600) : q_KR (pz_up k 4 m) := by
  have h0 := h.r0
  have e : ∀ j, j ≠ 4 → pz_up k 4 m j = k j := fun j hj => pz_up_ne hj
  refine t_KR_oth h (fun j _ h4 _ _ _ => e j h4) (by rw [pz_up_eq]; exact hm) (by rw [e 5 (by decide)]; omega) (by rw [e 240 (by decide)]; omega) (by rw [e 3 (by decide)]; omega) ?_ ?_ ?_
  · intro x g1 g2
    rw [e (16 + x).toNat (by omega), e (26 + x).toNat (by omega), e (36 + x).toNat (by omega)]
    exact h.2.2.1 x g1 g2
  · intro a g1 g2
    rw [e 3 (by decide)] at g2
    rw [e (224 + 3 * a).toNat (by omega), e (224 + 3 * a + 1).toNat (by omega), e (224 + 3 * a + 2).toNat (by omega)]
    exact h.ac g1 g2
  · intro x g1 g2
    rw [e 240 (by decide)] at g2
    rw [e (241 + x).toNat (by omega)]
    exact h.pl g1 g2
theorem t_KR_cap {k : Nat → Int} {c : Int} (h : q_KR k) (hc : 0 ≤ c ∧ c ≤ 40) : q_KR (pz_up k 5 c) := by
  have h0 := h.r0
  have e : ∀ j, j ≠ 5 → pz_up k 5 c j = k j := fun j hj => pz_up_ne hj
  refine t_KR_oth h (fun j _ _ h5 _ _ => e j h5) (by rw [e 4 (by decide)]; omega) (by rw [pz_up_eq]; exact hc) (by rw [e 240 (by decide)]; omega) (by rw [e 3 (by decide)]; omega) ?_ ?_ ?_
  · intro x g1 g2
    rw [e (16 + x).toNat (by omega), e (26 + x).toNat (by omega), e (36 + x).toNat (by omega)]
    exact h.2.2.1 x g1 g2
  · intro a g1 g2
    rw [e 3 (by decide)] at g2
    rw [e (224 + 3 * a).toNat (by omega), e (224 + 3 * a + 1).toNat (by omega), e (224 + 3 * a + 2).toNat (by omega)]
    exact h.ac g1 g2
  · intro x g1 g2
    rw [e 240 (by decide)] at g2
    rw [e (241 + x).toNat (by omega)]
    exact h.pl g1 g2
theorem t_KR_cost {k : Nat → Int} {x d y z : Int} (h : q_KR k) (hx : 0 ≤ x ∧ x ≤ 9) (hd : 0 ≤ d ∧ d ≤ 999) (hy : 0 ≤ y ∧ y ≤ 99) (hz : 0 ≤ z ∧ z ≤ 99) : q_KR (pz_up (pz_up (pz_up k (16 + x).toNat d) (26 + x).toNat y) (36 + x).toNat z) := by
  have h0 := h.r0
  have e : ∀ j, ¬ (16 ≤ j ∧ j < 46) → pz_up (pz_up (pz_up k (16 + x).toNat d) (26 + x).toNat y) (36 + x).toNat z j = k j := fun j hj => by
    rw [pz_up_ne (by omega), pz_up_ne (by omega), pz_up_ne (by omega)]
  refine t_KR_oth h (fun j _ _ _ h6 _ => e j h6) (by rw [e 4 (by decide)]; omega) (by rw [e 5 (by decide)]; omega) (by rw [e 240 (by decide)]; omega) (by rw [e 3 (by decide)]; omega) ?_ ?_ ?_
  · intro w g1 g2
    have q := h.2.2.1 w g1 g2
    simp only [pz_up_at]
    refine ⟨?_, ?_, ?_⟩
    · (repeat' split) <;> omega
    · (repeat' split) <;> omega
    · (repeat' split) <;> omega
  · intro a g1 g2
    rw [e 3 (by decide)] at g2
    rw [e (224 + 3 * a).toNat (by omega), e (224 + 3 * a + 1).toNat (by omega), e (224 + 3 * a + 2).toNat (by omega)]
    exact h.ac g1 g2
  · intro w g1 g2
    rw [e 240 (by decide)] at g2
    rw [e (241 + w).toNat (by omega)]
    exact h.pl g1 g2
theorem t_KR_ac {k : Nat → Int} {F T W : Int} (h : q_KR k) (hF : 0 ≤ F ∧ F < k 0) (hT : 0 ≤ T ∧ T < k 0) (hne : F ≠ T) (hW : 1 ≤ W ∧ W ≤ 9) (h3 : k 3 ≠ 5) : q_KR (q_addac k F T W) := by
  have h0 := h.r0
  have e : ∀ j : Nat, (j < 224 ∨ 240 ≤ j) → j ≠ 3 → q_addac k F T W j = k j := fun j h1 h2 => by
    unfold q_addac
    rw [pz_up_ne h2, pz_up_ne (by omega), pz_up_ne (by omega), pz_up_ne (by omega)]
  have e3 : q_addac k F T W 3 = k 3 + 1 := pz_up_eq
  refine t_KR_oth h (fun j h3 _ _ _ h6 => e j (Or.inl h6) h3) (by rw [e 4 (by omega) (by decide)]; omega) (by rw [e 5 (by omega) (by decide)]; omega) (by rw [e 240 (by omega) (by decide)]; omega) (by rw [e3]; omega) ?_ ?_ ?_
  · intro x g1 g2
    rw [e (16 + x).toNat (by omega) (by omega), e (26 + x).toNat (by omega) (by omega), e (36 + x).toNat (by omega) (by omega)]
    exact h.2.2.1 x g1 g2
  · intro a g1 g2
    rw [e3] at g2
    by_cases c : a = k 3
    · have v0 : q_addac k F T W (224 + 3 * a).toNat = F := by
        unfold q_addac
        rw [pz_up_ne (by omega), pz_up_ne (by omega), pz_up_ne (by omega), pz_up_eq' (by omega)]
      have v1 : q_addac k F T W (224 + 3 * a + 1).toNat = T := by
        unfold q_addac
        rw [pz_up_ne (by omega), pz_up_ne (by omega), pz_up_eq' (by omega)]
      have v2 : q_addac k F T W (224 + 3 * a + 2).toNat = W := by
        unfold q_addac
        rw [pz_up_ne (by omega), pz_up_eq' (by omega)]
      rw [v0, v1, v2]
      exact ⟨hF, hT, hne, hW⟩
    · have old : ∀ i : Int, 0 ≤ i → i ≤ 2 → q_addac k F T W (224 + 3 * a + i).toNat = k (224 + 3 * a + i).toNat := fun i i1 i2 => by
        unfold q_addac
        rw [pz_up_ne (by omega), pz_up_ne (by omega), pz_up_ne (by omega), pz_up_ne (by omega)]
      have o0 := old 0 (by omega) (by omega)
      rw [Int.add_zero] at o0
      rw [o0, old 1 (by omega) (by omega), old 2 (by omega) (by omega)]
      exact h.ac g1 (by omega)
  · intro x g1 g2
    rw [e 240 (by omega) (by decide)] at g2
    rw [e (241 + x).toNat (by omega) (by omega)]
    exact h.pl g1 g2
theorem t_KR_kpl {k a : Nat → Int} (h : q_KR k) (ha : ∀ x : Int, 0 ≤ x → x < k 0 → 0 ≤ a x.toNat ∧ a x.toNat ≤ 600) : q_KR (q_kpl k a (k 0)) := by
  have h0 := h.r0
  have e : ∀ j : Nat, j < 240 → q_kpl k a (k 0) j = k j := fun j hj => by
    unfold q_kpl
    rw [if_neg (by omega), if_neg (by omega)]
  have e240 : q_kpl k a (k 0) 240 = k 0 := if_pos rfl
  refine t_KR_oth h (fun j _ _ _ _ h6 => e j (by omega)) (by rw [e 4 (by decide)]; omega) (by rw [e 5 (by decide)]; omega) (by rw [e240]; omega) (by rw [e 3 (by decide)]; omega) ?_ ?_ ?_
  · intro x g1 g2
    rw [e (16 + x).toNat (by omega), e (26 + x).toNat (by omega), e (36 + x).toNat (by omega)]
    exact h.2.2.1 x g1 g2
  · intro x g1 g2
    rw [e 3 (by decide)] at g2
    rw [e (224 + 3 * x).toNat (by omega), e (224 + 3 * x + 1).toNat (by omega), e (224 + 3 * x + 2).toNat (by omega)]
    exact h.ac g1 g2
  · intro x g1 g2
    rw [e240] at g2
    have v : q_kpl k a (k 0) (241 + x).toNat = a x.toNat := by
      unfold q_kpl
      rw [if_neg (by omega), if_pos (by omega)]
      congr 1
      omega
    rw [v]
    exact ha x g1 g2
/-- places from 260 on tell nothing -/
theorem t_KR_260 {k k' : Nat → Int} (h : q_KR k) (e : ∀ j, j < 260 → k' j = k j) : q_KR k' := by
  have h0 := h.r0
  have e0 := e 0 (by omega)
  refine t_KR_oth h (fun j _ _ _ _ hj => e j (by omega)) (by rw [e 4 (by omega)]; omega) (by rw [e 5 (by omega)]; omega) (by rw [e 240 (by omega)]; omega) (by rw [e 3 (by omega)]; omega) ?_ ?_ ?_
  · intro x g1 g2
    rw [e (16 + x).toNat (by omega), e (26 + x).toNat (by omega), e (36 + x).toNat (by omega)]
    exact h.2.2.1 x g1 g2
  · intro a g1 g2
    rw [e 3 (by omega)] at g2
    rw [e (224 + 3 * a).toNat (by omega), e (224 + 3 * a + 1).toNat (by omega), e (224 + 3 * a + 2).toNat (by omega)]
    exact h.ac g1 g2
  · intro x g1 g2
    rw [e 240 (by omega)] at g2
    rw [e (241 + x).toNat (by omega)]
    exact h.pl g1 g2
theorem t_pn_260 {k k' : Nat → Int} {iv : Nat → Nat → Int} {o : Nat} (hk : q_KR k) (h : t_pn k iv o) (e : ∀ j, j < 260 → k' j = k j) : t_pn k' iv o := by
  have h0 := hk.r0
  obtain ⟨hE, hB, hS, hC, hA, hO, hL, hP⟩ := h
  exact ⟨q_cE_ag hE (e 0 (by omega)) (e 240 (by omega)), q_cB_ag hB (by omega) (e 1 (by omega)) (fun j g1 g2 => e j (by omega)), q_cS_ag hS (by omega) (e 2 (by omega)) (fun j g1 g2 => e j (by omega)), q_cC_ag hC (e 4 (by omega)) (fun j g1 g2 => e j (by omega)), q_cA_ag hA (by omega) (e 3 (by omega)) (e 5 (by omega)) (fun j g1 g2 => e j (by omega)), q_cO_ag hO (fun j g1 g2 => e j (by omega)), q_cL_ag hL (fun j g1 g2 => e j (by omega)), q_cP_ag hP (by omega) (e 240 (by omega)) (fun j g1 g2 => e j (by omega))⟩
theorem t_rs_ne {v a k : Nat → Int} {e m : Int} (h : q_rs v a k e m = 45) : ¬ q_ie k e := by
  intro q
  have a1 := q_rs_45 h
  unfold q_rs at h
  rw [q_if_f (fun z => z a1), q_if_t q] at h
  omega
