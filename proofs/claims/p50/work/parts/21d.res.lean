/-! facts about what calls tell: the resource, and what changes the plan -/
theorem f_res0 {k : Nat → Int} (hk : q_KR k) (h : c_isConsistent k = 0) : c_peak k = -99991001 ∧ c_firstTime k 0 = -99991002 ∧ c_level k = -99991001 ∧ k_level k = k := by
  have h0 := hk.r0
  have hc := f_con0 h
  unfold c_peak c_firstTime c_level k_level
  rw [q_if_f hc, q_if_f hc, q_if_f hc, q_if_f hc]
  exact ⟨rfl, q_if_t (by omega), rfl, rfl⟩
theorem f_ft0 {d : Nat → Int} {e : Int} : 0 ≤ q_ft d e := by
  unfold q_ft
  split <;> omega
theorem f_fti {k : Nat → Int} {e : Int} (hk : q_KR k) (he : 0 ≤ e ∧ e < k 0) (h : c_isConsistent k = 1) : (c_distance k e 0 = -99991003 ∧ c_firstTime k e = 0) ∨ (c_distance k e 0 ≠ -99991003 ∧ (-10000 ≤ c_distance k e 0 ∧ c_distance k e 0 ≤ 10000) ∧ c_firstTime k e = max 0 (-(c_distance k e 0))) := by
  have h0 := hk.r0
  have hc := f_con1 h
  have d := f_D hk he (b := 0) (by omega) hc
  have e1 : (10 * e).toNat = (10 * e + 0).toNat := by omega
  unfold c_firstTime
  rw [q_if_t (show 0 ≤ e ∧ e ≤ k 0 - 1 by omega), q_if_t hc]
  unfold q_ft
  rw [e1]
  rcases d with ⟨d1, d2⟩ | ⟨d1, d2⟩
  · exact Or.inl ⟨d1, if_neg (by omega)⟩
  · refine Or.inr ⟨by omega, by omega, ?_⟩
    rw [d1]
    split <;> omega
theorem f_cst {k : Nat → Int} {e m : Int} (hk : q_KR k) (he : 0 ≤ e ∧ e < k 0) (hm : 0 ≤ m ∧ m < 1000) : 0 ≤ c_costOf k e m ∧ c_costOf k e m ≤ 99000000 := by
  have h0 := hk.r0
  unfold c_costOf
  rw [q_if_t (show 0 ≤ e ∧ e ≤ k 0 - 1 by omega), q_if_t (show 0 ≤ m ∧ m ≤ 999 by omega)]
  exact q_cst_r hk he.1 (by omega) (by omega)
theorem f_pkU {k d : Nat → Int} (hn : 0 ≤ k 3) : q_pk k d = -1 ∨ (0 ≤ q_pk k d ∧ k 5 < q_use k d (q_pk k d)) := by
  unfold q_pk
  refine q_fr_ind (f := q_pkS k d) (fun _ (x : Int) => x = -1 ∨ (0 ≤ x ∧ k 5 < q_use k d x)) hn (Or.inl rfl) ?_
  intro a x a1 a2 hx
  unfold q_pkS
  by_cases g : k 5 < q_use k d (q_ft d (k (224 + 3 * a).toNat)) ∧ (x = -1 ∨ q_ft d (k (224 + 3 * a).toNat) < x)
  · rw [q_if_t g]
    exact Or.inr ⟨f_ft0, g.1⟩
  · rw [q_if_f g]; exact hx
theorem f_peak {k : Nat → Int} (hk : q_KR k) (h : c_isConsistent k = 1) : (c_peak k = -99991002 ∧ c_peakSet k = -99991002) ∨ (0 ≤ c_peak k ∧ c_peakSet k ≠ -99991002 ∧ (c_peak k ≤ 999 → k 5 < c_use k (c_peak k))) := by
  have h0 := hk.r0
  have hc := f_con1 h
  unfold c_peak c_peakSet
  rw [q_if_t hc, q_if_t hc]
  rcases f_pkU (k := k) (d := q_D k) (by omega) with g | ⟨g1, g2⟩
  · rw [q_if_t g, q_if_t g]; exact Or.inl ⟨rfl, rfl⟩
  · have g : ¬ q_pk k (q_D k) = -1 := by omega
    rw [q_if_f g, q_if_f g]
    have st := q_st_r (k := k) (d := q_D k) (m := q_pk k (q_D k)) (n := k 3) (by omega) (by omega)
    refine Or.inr ⟨g1, by omega, fun q => ?_⟩
    unfold c_use
    rw [q_if_t ⟨g1, q⟩, q_if_t hc]
    exact g2
theorem f_cap {k : Nat → Int} (h : k 5 = 9) : c_setCapacity k 9 = 9 ∧ k_setCapacity k 9 = k := by
  unfold c_setCapacity k_setCapacity
  rw [q_if_t (by decide), q_if_t (by decide)]
  refine ⟨h, ?_⟩
  funext j
  unfold pz_up
  split
  · rename_i q; rw [q, h]
  · rfl
/-! what changes the plan -/
theorem f_bc (x : Int) : 0 ≤ q_bc x ∧ q_bc x ≤ 4 := by
  unfold q_bc
  omega
theorem f_choose {k : Nat → Int} : (c_choose k = -99991001 ∧ k_choose k = k) ∨ ((0 ≤ c_choose k ∧ c_choose k ≤ 4) ∧ c_isConsistent (k_choose k) = 1 ∧ k_choose k = q_kw k (q_fsw k)) := by
  unfold c_choose k_choose
  by_cases g : q_fsw k = -1
  · rw [q_if_t g, q_if_t g]; exact Or.inl ⟨rfl, rfl⟩
  · rw [q_if_f g, q_if_f g]
    refine Or.inr ⟨f_bc _, ?_, rfl⟩
    rcases q_fsw_ok (k := k) with ⟨w, -, -, w3, -, w5⟩ | ⟨w1, -⟩
    · rw [w5]
      exact pz_bi_1 w3
    · exact absurd w1 g
theorem f_start {k : Nat → Int} {e : Int} (hk : q_KR k) (he : 0 ≤ e ∧ e < k 0) : (c_reason k e = 45 ∧ c_start k e = k 4 ∧ k_start k e = pz_up k (6 + e).toNat (k 4)) ∨ (c_reason k e ≠ 45 ∧ c_start k e < 0 ∧ k_start k e = k) := by
  have ev : 0 ≤ e ∧ e ≤ k 0 - 1 := by omega
  unfold c_reason c_start k_start
  rw [q_if_t ev, q_if_t ev, q_if_t ev]
  by_cases h : q_sen k
  · rw [q_if_t h, q_if_t h, q_if_t h]
    by_cases g : q_rs (q_val k) (q_ka k) k e (k 4) = 45
    · rw [q_if_t g, q_if_t g]
      exact Or.inl ⟨g, rfl, rfl⟩
    · rw [q_if_f g, q_if_f g]
      exact Or.inr ⟨g, by omega, rfl⟩
  · rw [q_if_f h, q_if_f h, q_if_f h]
    exact Or.inr ⟨by decide, by decide, rfl⟩
theorem f_start2 {k : Nat → Int} {e : Int} (hk : q_KR k) (he : 0 ≤ e ∧ e < k 0) : c_startedAt (pz_up k (6 + e).toNat (k 4)) e = k 4 ∧ c_now (pz_up k (6 + e).toNat (k 4)) = k 4 := by
  have h0 := hk.r0
  have e0 : pz_up k (6 + e).toNat (k 4) 0 = k 0 := pz_up_ne (by omega)
  have e1 : pz_up k (6 + e).toNat (k 4) (6 + e).toNat = k 4 := pz_up_eq
  unfold c_startedAt c_now
  rw [e0, q_if_t (show 0 ≤ e ∧ e ≤ k 0 - 1 by omega)]
  refine ⟨?_, pz_up_ne (by omega)⟩
  rw [q_if_t (show q_sta (pz_up k (6 + e).toNat (k 4)) e by
    show pz_up k (6 + e).toNat (k 4) (6 + e).toNat ≠ -1
    rw [e1]; omega), e1]
theorem f_observe {k : Nat → Int} {l z : Int} (hk : q_KR k) (hl : 1 ≤ l ∧ l ≤ 4) : c_observe k l z ≠ -99991001 ∧ c_labelOf (k_observe k l z) l ≠ 111 ∧ (∀ j : Nat, ¬ (46 ≤ j ∧ j ≤ 50) → k_observe k l z j = k j) := by
  have lab : ∀ k2 : Nat → Int, c_labelOf k2 l = k2 (46 + l).toNat := fun k2 => q_if_t hl
  rw [lab]
  unfold c_observe k_observe
  rw [q_if_t hl, q_if_t hl]
  by_cases g : q_obs k l
  · rw [q_if_t g, q_if_t g]
    refine ⟨by decide, ?_, fun _ _ => rfl⟩
    rcases g with g | g <;> omega
  · rw [q_if_f g, q_if_f g]
    by_cases g2 : z = 0
    · rw [q_if_t g2, q_if_t g2]
      refine ⟨?_, by rw [pz_up_eq]; decide, fun j hj => pz_up_ne (by omega)⟩
      have := (q_cnt_r (q_hld (pz_up k (46 + l).toNat 102)) (n := pz_up k (46 + l).toNat 102 1) (by rw [pz_up_ne (by omega)]; exact hk.r0.2.1.1)).1
      unfold q_held
      omega
    · rw [q_if_f g2, q_if_f g2]
      refine ⟨?_, by rw [pz_up_eq]; decide, fun j hj => pz_up_ne (by omega)⟩
      have := (q_cnt_r (q_hld (pz_up k (46 + l).toNat 116)) (n := pz_up k (46 + l).toNat 116 1) (by rw [pz_up_ne (by omega)]; exact hk.r0.2.1.1)).1
      unfold q_held
      omega
theorem f_drop {k : Nat → Int} {b : Int} (hk : q_KR k) (hb : 0 ≤ b ∧ b < k 1) : c_dropBound k b ≠ -99991001 ∧ (∀ j : Nat, ¬ (52 ≤ j ∧ j < 212) → k_dropBound k b j = k j) := by
  have h0 := hk.r0
  unfold c_dropBound k_dropBound
  rw [q_if_t (show 0 ≤ b ∧ b ≤ k 1 - 1 by omega), q_if_t (show 0 ≤ b ∧ b ≤ k 1 - 1 by omega)]
  by_cases g : k (52 + 4 * b + 3).toNat = 99
  · rw [q_if_t g, q_if_t g]
    exact ⟨by decide, fun _ _ => rfl⟩
  · rw [q_if_f g, q_if_f g]
    refine ⟨?_, fun j hj => pz_up_ne (by omega)⟩
    have := (q_cnt_r (q_hld (pz_up k (52 + 4 * b + 3).toNat 99)) (n := pz_up k (52 + 4 * b + 3).toNat 99 1) (by rw [pz_up_ne (by omega)]; exact hk.r0.2.1.1)).1
    unfold q_held
    omega
theorem f_end {k : Nat → Int} {s : Int} (hk : q_KR k) (hs : 0 ≤ s ∧ s < k 2) : c_end k s ≠ -99991001 ∧ (∀ j : Nat, ¬ (6 ≤ j ∧ j < 16) → k_end k s j = k j) := by
  have h0 := hk.r0
  have sp := hk.sp hs.1 hs.2
  unfold c_end k_end
  rw [q_if_t (show 0 ≤ s ∧ s ≤ k 2 - 1 by omega), q_if_t (show 0 ≤ s ∧ s ≤ k 2 - 1 by omega)]
  by_cases g : q_sta k (k (212 + 4 * s).toNat) ∧ ¬ q_sta k (k (212 + 4 * s + 1).toNat)
  · rw [q_if_t g, q_if_t g]
    by_cases g2 : k (212 + 4 * s + 2).toNat ≤ k 4 - k (6 + k (212 + 4 * s).toNat).toNat ∧ k 4 - k (6 + k (212 + 4 * s).toNat).toNat ≤ k (212 + 4 * s + 3).toNat
    · rw [q_if_t g2, q_if_t g2]
      exact ⟨by omega, fun j hj => pz_up_ne (by omega)⟩
    · rw [q_if_f g2, q_if_f g2]
      exact ⟨by decide, fun _ _ => rfl⟩
  · rw [q_if_f g, q_if_f g]
    exact ⟨by decide, fun _ _ => rfl⟩
theorem f_pass {k : Nat → Int} {m : Int} (hk : q_KR k) (hm : 1 ≤ m ∧ m ≤ 200) : c_pass k m ≠ -99991001 ∧ (∀ j : Nat, j ≠ 4 → k_pass k m j = k j) := by
  have h0 := hk.r0
  unfold c_pass k_pass
  rw [q_if_t hm, q_if_t hm]
  by_cases g : q_exi (q_ovr k m) (k 2)
  · rw [q_if_t g, q_if_t g]
    exact ⟨by decide, fun _ _ => rfl⟩
  · rw [q_if_f g, q_if_f g]
    by_cases g2 : 600 < k 4 + m
    · rw [q_if_t g2, q_if_t g2]
      exact ⟨by decide, fun _ _ => rfl⟩
    · rw [q_if_f g2, q_if_f g2]
      exact ⟨by omega, fun j hj => pz_up_ne hj⟩
theorem f_setCost {k : Nat → Int} {e d y z : Int} (hk : q_KR k) (he : 0 ≤ e ∧ e < k 0) (hd : 0 ≤ d ∧ d ≤ 999) (hy : 0 ≤ y ∧ y ≤ 99) (hz : 0 ≤ z ∧ z ≤ 99) : -1 ≤ c_setCost k e d y z ∧ (∀ j : Nat, ¬ (16 ≤ j ∧ j < 46) → k_setCost k e d y z j = k j) := by
  have h0 := hk.r0
  have cs := hk.cs (e := e) (by omega) (by omega)
  unfold c_setCost k_setCost
  have r : 0 ≤ d ∧ d ≤ 999 ∧ 0 ≤ y ∧ y ≤ 99 ∧ 0 ≤ z ∧ z ≤ 99 := ⟨hd.1, hd.2, hy.1, hy.2, hz.1, hz.2⟩
  rw [q_if_t (show 0 ≤ e ∧ e ≤ k 0 - 1 by omega), q_if_t (show 0 ≤ e ∧ e ≤ k 0 - 1 by omega), q_if_t r, q_if_t r]
  exact ⟨cs.1.1, fun j hj => (pz_up_ne (by omega)).trans ((pz_up_ne (by omega)).trans (pz_up_ne (by omega)))⟩
theorem f_bound {k : Nat → Int} {f t w l : Int} (hk : q_KR k) (hf : 0 ≤ f ∧ f < k 0) (ht : 0 ≤ t ∧ t < k 0) (hw : -500 ≤ w ∧ w ≤ 500) (hl : -4 ≤ l ∧ l ≤ 4) (h1 : k 1 ≠ 40) : (f = t ∧ c_bound k f t w l = -99991002 ∧ k_bound k f t w l = k) ∨ (f ≠ t ∧ c_bound k f t w l = k 1 ∧ k_bound k f t w l = q_tell k f t w l) := by
  unfold c_bound k_bound
  have r : 0 ≤ f ∧ f ≤ k 0 - 1 ∧ 0 ≤ t ∧ t ≤ k 0 - 1 := by omega
  rw [q_if_t r, q_if_t r]
  by_cases g : f = t
  · have r2 : ¬ (f ≠ t ∧ -500 ≤ w ∧ w ≤ 500 ∧ -4 ≤ l ∧ l ≤ 4) := fun q => q.1 g
    rw [q_if_f r2, q_if_f r2]
    exact Or.inl ⟨g, rfl, rfl⟩
  · have r2 : f ≠ t ∧ -500 ≤ w ∧ w ≤ 500 ∧ -4 ≤ l ∧ l ≤ 4 := ⟨g, hw.1, hw.2, hl.1, hl.2⟩
    rw [q_if_t r2, q_if_t r2, q_if_f h1, q_if_f h1]
    exact Or.inr ⟨g, rfl, rfl⟩
theorem f_tell_ne {k : Nat → Int} {f t w l : Int} (h : 0 ≤ k 1 ∧ k 1 ≤ 39) {j : Nat} (hj : j ≠ 1 ∧ ¬ (52 ≤ j ∧ j < 212)) : q_tell k f t w l j = k j := t_tell_ne h hj
theorem f_tell_1 {k : Nat → Int} {f t w l : Int} : q_tell k f t w l 1 = k 1 + 1 := pz_up_eq
theorem f_addSpan {k : Nat → Int} {f t l g : Int} (hk : q_KR k) (hf : 0 ≤ f ∧ f < k 0) (ht : 0 ≤ t ∧ t < k 0) (hl : 1 ≤ l ∧ l ≤ g ∧ g ≤ 200) : (t ≤ f ∧ c_addSpan k f t l g = -99991002 ∧ k_addSpan k f t l g = k) ∨ (f < t ∧ c_addSpan k f t l g = -99991003 ∧ k_addSpan k f t l g = k) ∨ (f < t ∧ k 2 ≤ 2 ∧ c_addSpan k f t l g = k 2 ∧ k_addSpan k f t l g = q_addsp k f t l g) := by
  have h0 := hk.r0
  unfold c_addSpan k_addSpan
  have r : 0 ≤ f ∧ f ≤ k 0 - 1 ∧ 0 ≤ t ∧ t ≤ k 0 - 1 := by omega
  rw [q_if_t r, q_if_t r]
  by_cases q : f < t
  · have r2 : f < t ∧ 1 ≤ l ∧ l ≤ 200 ∧ l ≤ g ∧ g ≤ 200 := by omega
    rw [q_if_t r2, q_if_t r2]
    by_cases a1 : k 2 = 3
    · rw [q_if_t a1, q_if_t a1]; exact Or.inr (Or.inl ⟨q, rfl, rfl⟩)
    rw [q_if_f a1, q_if_f a1]
    by_cases a2 : q_exi (fun s => k (212 + 4 * s + 1).toNat = t) (k 2)
    · rw [q_if_t a2, q_if_t a2]; exact Or.inr (Or.inl ⟨q, rfl, rfl⟩)
    rw [q_if_f a2, q_if_f a2]
    by_cases a3 : 0 < f ∧ q_sta k f
    · rw [q_if_t a3, q_if_t a3]; exact Or.inr (Or.inl ⟨q, rfl, rfl⟩)
    rw [q_if_f a3, q_if_f a3]
    by_cases a4 : q_sta k t
    · rw [q_if_t a4, q_if_t a4]; exact Or.inr (Or.inl ⟨q, rfl, rfl⟩)
    rw [q_if_f a4, q_if_f a4]
    exact Or.inr (Or.inr ⟨q, by omega, rfl, rfl⟩)
  · have r2 : ¬ (f < t ∧ 1 ≤ l ∧ l ≤ 200 ∧ l ≤ g ∧ g ≤ 200) := fun w => q w.1
    rw [q_if_f r2, q_if_f r2]
    exact Or.inl ⟨by omega, rfl, rfl⟩
theorem f_addAct {k : Nat → Int} {f t w : Int} (hk : q_KR k) (hf : 0 ≤ f ∧ f < k 0) (ht : 0 ≤ t ∧ t < k 0) (hw : 1 ≤ w ∧ w ≤ 9) : (f = t ∧ c_addActivity k f t w = -99991002 ∧ k_addActivity k f t w = k) ∨ (f ≠ t ∧ k 3 = 5 ∧ c_addActivity k f t w = -99991003 ∧ k_addActivity k f t w = k) ∨ (f ≠ t ∧ k 3 ≤ 4 ∧ c_addActivity k f t w = k 3 ∧ k_addActivity k f t w = q_addac k f t w) := by
  have h0 := hk.r0
  unfold c_addActivity k_addActivity
  have r : 0 ≤ f ∧ f ≤ k 0 - 1 ∧ 0 ≤ t ∧ t ≤ k 0 - 1 := by omega
  rw [q_if_t r, q_if_t r]
  by_cases g : f = t
  · have r2 : ¬ (f ≠ t ∧ 1 ≤ w ∧ w ≤ 9) := fun q => q.1 g
    rw [q_if_f r2, q_if_f r2]
    exact Or.inl ⟨g, rfl, rfl⟩
  · have r2 : f ≠ t ∧ 1 ≤ w ∧ w ≤ 9 := ⟨g, hw.1, hw.2⟩
    rw [q_if_t r2, q_if_t r2]
    by_cases a : k 3 = 5
    · rw [q_if_t a, q_if_t a]; exact Or.inr (Or.inl ⟨g, a, rfl, rfl⟩)
    · rw [q_if_f a, q_if_f a]; exact Or.inr (Or.inr ⟨g, by omega, rfl, rfl⟩)
/-! the law's own row -/
def t_d (k d : Nat → Int) : Prop := d 0 = k 0 ∧ d 1 = k 1 ∧ d 2 = k 2 ∧ d 3 = k 3 ∧ ∀ s : Int, 0 ≤ s → s < k 2 → d (170 + 4 * s).toNat = k (212 + 4 * s).toNat ∧ d (171 + 4 * s).toNat = k (212 + 4 * s + 1).toNat ∧ d (172 + 4 * s).toNat = k (212 + 4 * s + 2).toNat ∧ d (173 + 4 * s).toNat = k (212 + 4 * s + 3).toNat
theorem t_d_ag {k k' d : Nat → Int} (hk : q_KR k) (h : t_d k d) (e : ∀ j : Nat, (j < 4 ∨ (212 ≤ j ∧ j < 224)) → k' j = k j) : t_d k' d := by
  have h0 := hk.r0
  obtain ⟨a0, a1, a2, a3, a4⟩ := h
  have e2 := e 2 (by omega)
  refine ⟨by rw [e 0 (by omega)]; exact a0, by rw [e 1 (by omega)]; exact a1, by rw [e2]; exact a2, by rw [e 3 (by omega)]; exact a3, fun s s1 s2 => ?_⟩
  rw [e2] at s2
  rw [e (212 + 4 * s).toNat (by omega), e (212 + 4 * s + 1).toNat (by omega), e (212 + 4 * s + 2).toNat (by omega), e (212 + 4 * s + 3).toNat (by omega)]
  exact a4 s s1 s2
