/-! how rows go on holding the plan's row when it changes -/
theorem q_cE_ag {k k' p : Nat → Int} (h : q_cE k p) (e0 : k' 0 = k 0) (e1 : k' 240 = k 240) : q_cE k' p := by
  refine ⟨?_, ?_⟩
  · rw [e0]; exact h.1
  · rw [e1]; exact h.2
theorem q_cB_ag {k k' c f t m l d : Nat → Int} (h : q_cB k c f t m l d) (hk : k 1 ≤ 40) (e0 : k' 1 = k 1) (e : ∀ j, 52 ≤ j → j < 212 → k' j = k j) : q_cB k' c f t m l d := by
  refine ⟨by rw [e0]; exact h.1, fun b g1 g2 => ?_⟩
  rw [e0] at g2
  rw [e _ (by omega) (by omega), e _ (by omega) (by omega), e _ (by omega) (by omega), e _ (by omega) (by omega)]
  exact h.2 b g1 g2
theorem q_cS_ag {k k' c f t l g : Nat → Int} (h : q_cS k c f t l g) (hk : k 2 ≤ 3) (e0 : k' 2 = k 2) (e : ∀ j, 212 ≤ j → j < 224 → k' j = k j) : q_cS k' c f t l g := by
  refine ⟨by rw [e0]; exact h.1, fun s g1 g2 => ?_⟩
  rw [e0] at g2
  rw [e _ (by omega) (by omega), e _ (by omega) (by omega), e _ (by omega) (by omega), e _ (by omega) (by omega)]
  exact h.2 s g1 g2
theorem q_cC_ag {k k' c s : Nat → Int} (h : q_cC k c s) (e0 : k' 4 = k 4) (e : ∀ j, 6 ≤ j → j < 16 → k' j = k j) : q_cC k' c s := by
  refine ⟨by rw [e0]; exact h.1, fun x g1 g2 => ?_⟩
  rw [e _ (by omega) (by omega)]
  exact h.2 x g1 g2
theorem q_cA_ag {k k' c f t d : Nat → Int} (h : q_cA k c f t d) (hk : k 3 ≤ 5) (e0 : k' 3 = k 3) (e1 : k' 5 = k 5) (e : ∀ j, 224 ≤ j → j < 239 → k' j = k j) : q_cA k' c f t d := by
  refine ⟨by rw [e0, e1]; exact h.1, fun a g1 g2 => ?_⟩
  rw [e0] at g2
  rw [e _ (by omega) (by omega), e _ (by omega) (by omega), e _ (by omega) (by omega)]
  exact h.2 a g1 g2
theorem q_cO_ag {k k' u y z : Nat → Int} (h : q_cO k u y z) (e : ∀ j, 16 ≤ j → j < 46 → k' j = k j) : q_cO k' u y z := by
  intro x g1 g2
  rw [e _ (by omega) (by omega), e _ (by omega) (by omega), e _ (by omega) (by omega)]
  exact h x g1 g2
theorem q_cL_ag {k k' r : Nat → Int} (h : q_cL k r) (e : ∀ j, 47 ≤ j → j < 51 → k' j = k j) : q_cL k' r := by
  intro x g1 g2
  rw [e _ (by omega) (by omega)]
  exact h x g1 g2
theorem q_cP_ag {k k' r : Nat → Int} (h : q_cP k r) (hk : k 240 ≤ 10) (e0 : k' 240 = k 240) (e : ∀ j, 241 ≤ j → j < 251 → k' j = k j) : q_cP k' r := by
  intro x g1 g2
  rw [e0] at g2
  rw [e _ (by omega) (by omega)]
  exact h x g1 g2
theorem q_tell_at {k : Nat → Int} {F T W B : Int} (h : 0 ≤ k 1) (j : Nat) : q_tell k F T W B j = if j = 1 then k 1 + 1 else if (j : Int) = 52 + 4 * k 1 + 3 then B else if (j : Int) = 52 + 4 * k 1 + 2 then W else if (j : Int) = 52 + 4 * k 1 + 1 then T else if (j : Int) = 52 + 4 * k 1 then F else k j := by
  unfold q_tell
  rw [pz_up_at, pz_up_at, pz_up_at, pz_up_at, pz_up_at]
  (repeat' split) <;> first | rfl | omega
theorem q_cB_tell {k c f t m l d : Nat → Int} {F T W B : Int} (h : q_cB k c f t m l d) (h0 : 0 ≤ k 1) (hB : B ≠ 99) : q_cB (q_tell k F T W B) (pz_up c 0 (k 1 + 1)) (pz_up f (k 1).toNat F) (pz_up t (k 1).toNat T) (pz_up m (k 1).toNat W) (pz_up l (k 1).toNat B) (pz_up d (k 1).toNat 0) := by
  have e1 : q_tell k F T W B 1 = k 1 + 1 := by rw [q_tell_at h0, if_pos rfl]
  refine ⟨by rw [e1, pz_up_eq], fun b g1 g2 => ?_⟩
  rw [e1] at g2
  rw [q_tell_at h0, q_tell_at h0, q_tell_at h0, q_tell_at h0]
  by_cases g : b = k 1
  · rw [g, pz_up_eq, pz_up_eq, pz_up_eq, pz_up_eq, pz_up_eq]
    have a0 : (((52 + 4 * k 1).toNat : Nat) : Int) = 52 + 4 * k 1 := by omega
    have a1 : (((52 + 4 * k 1 + 1).toNat : Nat) : Int) = 52 + 4 * k 1 + 1 := by omega
    have a2 : (((52 + 4 * k 1 + 2).toNat : Nat) : Int) = 52 + 4 * k 1 + 2 := by omega
    have a3 : (((52 + 4 * k 1 + 3).toNat : Nat) : Int) = 52 + 4 * k 1 + 3 := by omega
    rw [a0, a1, a2, a3]
    refine ⟨?_, ?_, ?_, Or.inr ⟨rfl, ?_, ?_⟩⟩
    · (repeat' split) <;> first | rfl | omega
    · (repeat' split) <;> first | rfl | omega
    · (repeat' split) <;> first | rfl | omega
    · (repeat' split) <;> first | exact hB | omega
    · (repeat' split) <;> first | rfl | omega
  · have h2 := h.2 b g1 (by omega)
    rw [pz_up_ne (by omega), pz_up_ne (by omega), pz_up_ne (by omega), pz_up_ne (by omega), pz_up_ne (by omega)]
    have a0 : (((52 + 4 * b).toNat : Nat) : Int) = 52 + 4 * b := by omega
    have a1 : (((52 + 4 * b + 1).toNat : Nat) : Int) = 52 + 4 * b + 1 := by omega
    have a2 : (((52 + 4 * b + 2).toNat : Nat) : Int) = 52 + 4 * b + 2 := by omega
    have a3 : (((52 + 4 * b + 3).toNat : Nat) : Int) = 52 + 4 * b + 3 := by omega
    rw [a0, a1, a2, a3, if_neg (by omega), if_neg (by omega), if_neg (by omega), if_neg (by omega), if_neg (by omega), if_neg (by omega), if_neg (by omega), if_neg (by omega), if_neg (by omega), if_neg (by omega), if_neg (by omega), if_neg (by omega), if_neg (by omega), if_neg (by omega), if_neg (by omega), if_neg (by omega), if_neg (by omega), if_neg (by omega), if_neg (by omega), if_neg (by omega)]
    exact h2
theorem q_cB_drop {k c f t m l d : Nat → Int} {b : Int} (h : q_cB k c f t m l d) (hb : 0 ≤ b ∧ b < k 1) : q_cB (pz_up k (52 + 4 * b + 3).toNat 99) c f t m l (pz_up d b.toNat 1) := by
  have e1 : pz_up k (52 + 4 * b + 3).toNat 99 1 = k 1 := pz_up_ne (by omega)
  refine ⟨by rw [e1]; exact h.1, fun x g1 g2 => ?_⟩
  rw [e1] at g2
  have h2 := h.2 x g1 g2
  rw [pz_up_ne (j := (52 + 4 * x).toNat) (by omega), pz_up_ne (j := (52 + 4 * x + 1).toNat) (by omega), pz_up_ne (j := (52 + 4 * x + 2).toNat) (by omega)]
  by_cases g : x = b
  · rw [g] at h2 ⊢
    rw [pz_up_eq, pz_up_eq]
    exact ⟨h2.1, h2.2.1, h2.2.2.1, Or.inl ⟨rfl, rfl⟩⟩
  · rw [pz_up_ne (by omega), pz_up_ne (by omega)]
    exact h2
theorem q_cL_obs {k r : Nat → Int} {l v : Int} (h : q_cL k r) (hl : 1 ≤ l) : q_cL (pz_up k (46 + l).toNat v) (pz_up r l.toNat v) := by
  intro x g1 g2
  by_cases g : x = l
  · rw [g, pz_up_eq, pz_up_eq]
  · rw [pz_up_ne (by omega), pz_up_ne (by omega)]
    exact h x g1 g2
theorem q_addsp_at {k : Nat → Int} {F T W B : Int} (h : 0 ≤ k 2) (j : Nat) : q_addsp k F T W B j = if j = 2 then k 2 + 1 else if (j : Int) = 212 + 4 * k 2 + 3 then B else if (j : Int) = 212 + 4 * k 2 + 2 then W else if (j : Int) = 212 + 4 * k 2 + 1 then T else if (j : Int) = 212 + 4 * k 2 then F else k j := by
  unfold q_addsp
  rw [pz_up_at, pz_up_at, pz_up_at, pz_up_at, pz_up_at]
  (repeat' split) <;> first | rfl | omega
theorem q_cS_add {k c f t l g : Nat → Int} {F T W B : Int} (h : q_cS k c f t l g) (h0 : 0 ≤ k 2) : q_cS (q_addsp k F T W B) (pz_up c 0 (k 2 + 1)) (pz_up f (k 2).toNat F) (pz_up t (k 2).toNat T) (pz_up l (k 2).toNat W) (pz_up g (k 2).toNat B) := by
  have e1 : q_addsp k F T W B 2 = k 2 + 1 := by rw [q_addsp_at h0, if_pos rfl]
  refine ⟨by rw [e1, pz_up_eq], fun s g1 g2 => ?_⟩
  rw [e1] at g2
  rw [q_addsp_at h0, q_addsp_at h0, q_addsp_at h0, q_addsp_at h0]
  have a0 : (((212 + 4 * s).toNat : Nat) : Int) = 212 + 4 * s := by omega
  have a1 : (((212 + 4 * s + 1).toNat : Nat) : Int) = 212 + 4 * s + 1 := by omega
  have a2 : (((212 + 4 * s + 2).toNat : Nat) : Int) = 212 + 4 * s + 2 := by omega
  have a3 : (((212 + 4 * s + 3).toNat : Nat) : Int) = 212 + 4 * s + 3 := by omega
  rw [a0, a1, a2, a3]
  by_cases g : s = k 2
  · rw [g, pz_up_eq, pz_up_eq, pz_up_eq, pz_up_eq]
    refine ⟨?_, ?_, ?_, ?_⟩
    · (repeat' split) <;> first | rfl | omega
    · (repeat' split) <;> first | rfl | omega
    · (repeat' split) <;> first | rfl | omega
    · (repeat' split) <;> first | rfl | omega
  · have h2 := h.2 s g1 (by omega)
    rw [pz_up_ne (by omega), pz_up_ne (by omega), pz_up_ne (by omega), pz_up_ne (by omega)]
    rw [if_neg (by omega), if_neg (by omega), if_neg (by omega), if_neg (by omega), if_neg (by omega), if_neg (by omega), if_neg (by omega), if_neg (by omega), if_neg (by omega), if_neg (by omega), if_neg (by omega), if_neg (by omega), if_neg (by omega), if_neg (by omega), if_neg (by omega), if_neg (by omega), if_neg (by omega), if_neg (by omega), if_neg (by omega), if_neg (by omega)]
    exact h2
theorem q_cC_st {k c s : Nat → Int} {e m : Int} (h : q_cC k c s) (he : 0 ≤ e ∧ e ≤ 9) : q_cC (pz_up k (6 + e).toNat m) c (pz_up s e.toNat m) := by
  refine ⟨by rw [pz_up_ne (by omega)]; exact h.1, fun x g1 g2 => ?_⟩
  by_cases g : x = e
  · rw [g, pz_up_eq, pz_up_eq]
  · rw [pz_up_ne (by omega), pz_up_ne (by omega)]
    exact h.2 x g1 g2
theorem q_cC_now {k c s : Nat → Int} {m : Int} (h : q_cC k c s) : q_cC (pz_up k 4 m) (pz_up c 0 m) s := by
  refine ⟨by rw [pz_up_eq, pz_up_eq], fun x g1 g2 => ?_⟩
  rw [pz_up_ne (by omega)]
  exact h.2 x g1 g2
theorem q_addac_at {k : Nat → Int} {F T W : Int} (h : 0 ≤ k 3) (j : Nat) : q_addac k F T W j = if j = 3 then k 3 + 1 else if (j : Int) = 224 + 3 * k 3 + 2 then W else if (j : Int) = 224 + 3 * k 3 + 1 then T else if (j : Int) = 224 + 3 * k 3 then F else k j := by
  unfold q_addac
  rw [pz_up_at, pz_up_at, pz_up_at, pz_up_at]
  (repeat' split) <;> first | rfl | omega
theorem q_cA_add {k c f t d : Nat → Int} {F T W : Int} (h : q_cA k c f t d) (h0 : 0 ≤ k 3) : q_cA (q_addac k F T W) (pz_up c 0 (k 3 + 1)) (pz_up f (k 3).toNat F) (pz_up t (k 3).toNat T) (pz_up d (k 3).toNat W) := by
  have e1 : q_addac k F T W 3 = k 3 + 1 := by rw [q_addac_at h0, if_pos rfl]
  have e5 : q_addac k F T W 5 = k 5 := by rw [q_addac_at h0]; (repeat' split) <;> first | rfl | omega
  refine ⟨⟨by rw [e1, pz_up_eq], by rw [e5, pz_up_ne (by decide)]; exact h.1.2⟩, fun s g1 g2 => ?_⟩
  rw [e1] at g2
  rw [q_addac_at h0, q_addac_at h0, q_addac_at h0]
  have a0 : (((224 + 3 * s).toNat : Nat) : Int) = 224 + 3 * s := by omega
  have a1 : (((224 + 3 * s + 1).toNat : Nat) : Int) = 224 + 3 * s + 1 := by omega
  have a2 : (((224 + 3 * s + 2).toNat : Nat) : Int) = 224 + 3 * s + 2 := by omega
  rw [a0, a1, a2]
  by_cases g : s = k 3
  · rw [g, pz_up_eq, pz_up_eq, pz_up_eq]
    refine ⟨?_, ?_, ?_⟩
    · (repeat' split) <;> first | rfl | omega
    · (repeat' split) <;> first | rfl | omega
    · (repeat' split) <;> first | rfl | omega
  · have h2 := h.2 s g1 (by omega)
    rw [pz_up_ne (by omega), pz_up_ne (by omega), pz_up_ne (by omega)]
    rw [if_neg (by omega), if_neg (by omega), if_neg (by omega), if_neg (by omega), if_neg (by omega), if_neg (by omega), if_neg (by omega), if_neg (by omega), if_neg (by omega), if_neg (by omega), if_neg (by omega), if_neg (by omega)]
    exact h2
theorem q_cA_cap {k c f t d : Nat → Int} {x : Int} (h : q_cA k c f t d) (hk : 0 ≤ k 3) : q_cA (pz_up k 5 x) (pz_up c 1 x) f t d := by
  have e1 : pz_up k 5 x 3 = k 3 := pz_up_ne (by decide)
  refine ⟨⟨by rw [e1, pz_up_ne (by decide)]; exact h.1.1, by rw [pz_up_eq, pz_up_eq]⟩, fun s g1 g2 => ?_⟩
  rw [e1] at g2
  rw [pz_up_ne (by omega), pz_up_ne (by omega), pz_up_ne (by omega)]
  exact h.2 s g1 g2
theorem q_cO_put {k u y z : Nat → Int} {e a b c : Int} (h : q_cO k u y z) (he : 0 ≤ e ∧ e ≤ 9) : q_cO (pz_up (pz_up (pz_up k (16 + e).toNat a) (26 + e).toNat b) (36 + e).toNat c) (pz_up u e.toNat a) (pz_up y e.toNat b) (pz_up z e.toNat c) := by
  intro x g1 g2
  by_cases g : x = e
  · rw [g, pz_up_eq, pz_up_eq, pz_up_eq, pz_up_eq]
    rw [pz_up_ne (by omega), pz_up_ne (by omega), pz_up_eq, pz_up_ne (by omega), pz_up_eq]
    exact ⟨rfl, rfl, rfl⟩
  · have h2 := h x g1 g2
    rw [pz_up_ne (f := u) (by omega), pz_up_ne (f := y) (by omega), pz_up_ne (f := z) (by omega)]
    rw [pz_up_ne (by omega), pz_up_ne (by omega), pz_up_ne (by omega), pz_up_ne (by omega), pz_up_ne (by omega), pz_up_ne (by omega), pz_up_ne (by omega), pz_up_ne (by omega), pz_up_ne (by omega)]
    exact h2
theorem q_cP_pl {k a r : Nat → Int} (hk : 0 ≤ k 0 ∧ k 0 ≤ 10) : q_cP (q_kpl k a (k 0)) (q_cp 10 a r) := by
  have e0 : q_kpl k a (k 0) 240 = k 0 := by unfold q_kpl; rw [if_pos (by omega)]
  intro x g1 g2
  rw [e0] at g2
  unfold q_kpl q_cp
  rw [if_pos (by omega), if_neg (by omega), if_pos (by omega)]
  congr 1
  omega
