/-! mathematics that is owed, first part: what the plan's row keeps; what does not hang on other places -/
theorem m_KR_ag {k k' : Nat → Int} (h : q_KR k) (e : ∀ j, (j ≠ 1 ∧ ¬ (47 ≤ j ∧ j ≤ 50) ∧ ¬ (52 ≤ j ∧ j < 212)) → k' j = k j) (h1 : 0 ≤ k' 1 ∧ k' 1 ≤ 40) (hl : ∀ l : Int, 1 ≤ l → l ≤ 4 → k' (46 + l).toNat = 111 ∨ k' (46 + l).toNat = 116 ∨ k' (46 + l).toNat = 102 ∨ k' (46 + l).toNat = 84 ∨ k' (46 + l).toNat = 70)
    (hb : ∀ b : Int, 0 ≤ b → b < k' 1 → (0 ≤ k' (52 + 4 * b).toNat ∧ k' (52 + 4 * b).toNat < k 0) ∧ (0 ≤ k' (52 + 4 * b + 1).toNat ∧ k' (52 + 4 * b + 1).toNat < k 0) ∧ k' (52 + 4 * b).toNat ≠ k' (52 + 4 * b + 1).toNat ∧ (-500 ≤ k' (52 + 4 * b + 2).toNat ∧ k' (52 + 4 * b + 2).toNat ≤ 500) ∧ ((-4 ≤ k' (52 + 4 * b + 3).toNat ∧ k' (52 + 4 * b + 3).toNat ≤ 4) ∨ k' (52 + 4 * b + 3).toNat = 99)) : q_KR k' := by
  have h0 := h.r0
  have n0 : ∀ i : Nat, (i < 47 ∨ 50 < i) → i ≠ 1 → (i < 52 ∨ 212 ≤ i) → k' i = k i := fun i a1 a2 a3 => e i (by omega)
  refine ⟨?_, ?_, ?_, ?_, ?_, ?_, ?_, ?_, ?_, ?_⟩
  · rw [n0 0 (by omega) (by omega) (by omega), n0 2 (by omega) (by omega) (by omega), n0 3 (by omega) (by omega) (by omega), n0 4 (by omega) (by omega) (by omega), n0 5 (by omega) (by omega) (by omega), n0 6 (by omega) (by omega) (by omega), n0 240 (by omega) (by omega) (by omega)]
    omega
  · intro x g1 g2
    rw [n0 (6 + x).toNat (by omega) (by omega) (by omega), n0 4 (by omega) (by omega) (by omega), n0 0 (by omega) (by omega) (by omega)]
    exact h.2.1 x g1 g2
  · intro x g1 g2
    rw [n0 (16 + x).toNat (by omega) (by omega) (by omega), n0 (26 + x).toNat (by omega) (by omega) (by omega), n0 (36 + x).toNat (by omega) (by omega) (by omega)]
    exact h.2.2.1 x g1 g2
  · intro l g1 g2
    by_cases g : 1 ≤ l
    · exact hl l g g2
    · rw [n0 (46 + l).toNat (by omega) (by omega) (by omega)]
      exact h.2.2.2.1 l g1 g2
  · intro b g1 g2
    rw [n0 0 (by omega) (by omega) (by omega)]
    exact hb b g1 g2
  · intro s g1 g2
    rw [n0 2 (by omega) (by omega) (by omega)] at g2
    rw [n0 (212 + 4 * s).toNat (by omega) (by omega) (by omega), n0 (212 + 4 * s + 1).toNat (by omega) (by omega) (by omega), n0 (212 + 4 * s + 2).toNat (by omega) (by omega) (by omega), n0 (212 + 4 * s + 3).toNat (by omega) (by omega) (by omega), n0 0 (by omega) (by omega) (by omega)]
    exact h.sp g1 g2
  · intro s t g1 g2 g3
    rw [n0 2 (by omega) (by omega) (by omega)] at g3
    rw [n0 (212 + 4 * s + 1).toNat (by omega) (by omega) (by omega), n0 (212 + 4 * t + 1).toNat (by omega) (by omega) (by omega)]
    exact h.sq g1 g2 g3
  · intro s g1 g2 g3
    rw [n0 2 (by omega) (by omega) (by omega)] at g2
    have hs := h.sp g1 g2
    have e0 := n0 (212 + 4 * s).toNat (by omega) (by omega) (by omega)
    have e1 := n0 (212 + 4 * s + 1).toNat (by omega) (by omega) (by omega)
    have e2 := n0 (212 + 4 * s + 2).toNat (by omega) (by omega) (by omega)
    have e3 := n0 (212 + 4 * s + 3).toNat (by omega) (by omega) (by omega)
    have e4 := n0 (6 + k (212 + 4 * s + 1).toNat).toNat (by omega) (by omega) (by omega)
    have e5 := n0 (6 + k (212 + 4 * s).toNat).toNat (by omega) (by omega) (by omega)
    have g4 : q_sta k (k (212 + 4 * s + 1).toNat) := by
      intro q
      apply g3
      rw [e1, e4]
      exact q
    have h9 := h.en g1 g2 g4
    rw [e0, e1, e2, e3, e4, e5]
    refine ⟨?_, h9.2⟩
    show k' (6 + k (212 + 4 * s).toNat).toNat ≠ -1
    rw [e5]
    exact h9.1
  · intro a g1 g2
    rw [n0 3 (by omega) (by omega) (by omega)] at g2
    rw [n0 (224 + 3 * a).toNat (by omega) (by omega) (by omega), n0 (224 + 3 * a + 1).toNat (by omega) (by omega) (by omega), n0 (224 + 3 * a + 2).toNat (by omega) (by omega) (by omega), n0 0 (by omega) (by omega) (by omega)]
    exact h.ac g1 g2
  · intro x g1 g2
    rw [n0 240 (by omega) (by omega) (by omega)] at g2
    rw [n0 (241 + x).toNat (by omega) (by omega) (by omega)]
    exact h.pl g1 g2
theorem m_KR_lab {k k' : Nat → Int} (h : q_KR k) (e : ∀ j, ¬ (47 ≤ j ∧ j ≤ 50) → k' j = k j) (hl : ∀ l : Int, 1 ≤ l → l ≤ 4 → k' (46 + l).toNat = 111 ∨ k' (46 + l).toNat = 116 ∨ k' (46 + l).toNat = 102 ∨ k' (46 + l).toNat = 84 ∨ k' (46 + l).toNat = 70) : q_KR k' := by
  have h0 := h.r0
  have e1 : k' 1 = k 1 := e 1 (by omega)
  refine m_KR_ag h (fun j hj => e j hj.2.1) (by rw [e1]; omega) hl ?_
  intro b g1 g2
  rw [e1] at g2
  rw [e _ (by omega), e _ (by omega), e _ (by omega), e _ (by omega)]
  exact h.bd g1 g2
theorem m_KR_drop {k : Nat → Int} {b : Int} (h : q_KR k) (h1 : 0 ≤ b) (h2 : b < k 1) : q_KR (pz_up k (52 + 4 * b + 3).toNat 99) := by
  have h0 := h.r0
  have e1 : pz_up k (52 + 4 * b + 3).toNat 99 1 = k 1 := pz_up_ne (by omega)
  refine m_KR_ag h (fun j hj => pz_up_ne (by omega)) (by rw [e1]; omega) ?_ ?_
  · intro l g1 g2
    rw [pz_up_ne (by omega)]
    exact h.lb (by omega) g2
  · intro x g1 g2
    rw [e1] at g2
    rw [pz_up_ne (j := (52 + 4 * x).toNat) (by omega), pz_up_ne (j := (52 + 4 * x + 1).toNat) (by omega), pz_up_ne (j := (52 + 4 * x + 2).toNat) (by omega)]
    have h3 := h.bd g1 g2
    by_cases g : x = b
    · rw [g, pz_up_eq]
      rw [g] at h3
      exact ⟨h3.1, h3.2.1, h3.2.2.1, h3.2.2.2.1, Or.inr rfl⟩
    · rw [pz_up_ne (by omega)]
      exact h3
theorem m_KR_obs {k : Nat → Int} {l v : Int} (h : q_KR k) (h1 : 1 ≤ l) (h2 : l ≤ 4) (hv : v = 111 ∨ v = 116 ∨ v = 102 ∨ v = 84 ∨ v = 70) : q_KR (pz_up k (46 + l).toNat v) := by
  refine m_KR_lab h (fun j hj => pz_up_ne (by omega)) ?_
  intro i g1 g2
  by_cases g : i = l
  · rw [g, pz_up_eq]; exact hv
  · rw [pz_up_ne (by omega)]; exact h.lb (by omega) g2
theorem m_KR_sets {k : Nat → Int} {tr fa : Int} (h : q_KR k) : q_KR (q_sets tr fa k) := by
  unfold q_sets
  refine q_fr_ind (f := q_seS tr fa) (fun _ (f : Nat → Int) => q_KR f) (by omega) h ?_
  intro l f g1 g2 g3
  unfold q_seS
  by_cases g : q_obs f l
  · rw [q_if_t g]; exact g3
  · rw [q_if_f g]
    refine m_KR_obs g3 g1 (by omega) ?_
    by_cases a1 : q_up tr (l - 1)
    · rw [q_if_t a1]; omega
    · rw [q_if_f a1]
      by_cases a2 : q_up fa (l - 1)
      · rw [q_if_t a2]; omega
      · rw [q_if_f a2]; omega
theorem m_KR_lop {k : Nat → Int} (h : q_KR k) : q_KR (q_lop k) := by
  refine m_KR_lab h (fun j hj => if_neg hj) ?_
  intro l g1 g2
  left
  exact if_pos (by omega)
theorem m_KR_kw {k : Nat → Int} {x : Int} (h : q_KR k) : q_KR (q_kw k x) := by
  refine m_KR_lab h (fun j hj => q_kw_same hj) ?_
  intro l g1 g2
  rw [q_kw_l g1 g2]
  unfold q_kwL
  by_cases a1 : q_obs k l
  · rw [q_if_t a1]; exact h.lb (by omega) g2
  · rw [q_if_f a1]
    by_cases a2 : pz_and x (pz_shl 1 (l - 1)) ≠ 0
    · rw [q_if_t a2]; omega
    · rw [q_if_f a2]; omega
theorem m_pkd_r {k : Nat → Int} : 0 ≤ q_pkd k ∧ q_pkd k ≤ 624 := by
  have hc : ∀ l, 0 ≤ q_cd k l ∧ q_cd k l ≤ 4 := by
    intro l
    unfold q_cd
    (repeat' split) <;> omega
  have a0 := hc (4 - 0)
  have a1 := hc (4 - 1)
  have a2 := hc (4 - 2)
  have a3 := hc (4 - 3)
  unfold q_pkd
  rw [show (4 : Int) = 0 + 1 + 1 + 1 + 1 by omega, q_fr_s (by omega), q_fr_s (by omega), q_fr_s (by omega), q_fr_s (by omega), q_fr_0 (by omega)]
  unfold q_pdS
  rw [show (0 : Int) + 1 = 1 by omega, show (1 : Int) + 1 = 2 by omega, show (2 : Int) + 1 = 3 by omega]
  omega
theorem q_fr_rel {α β : Type} {f : Int → α → α} {g : Int → β → β} {a n : Int} {x : α} {y : β} (R : α → β → Prop) (h0 : R x y) (hs : ∀ i x y, a ≤ i → i < n → R x y → R (f i x) (g i y)) : R (q_fr f a n x) (q_fr g a n y) := by
  rcases Int.lt_or_le n a with h | h
  · rw [q_fr_0 (by omega), q_fr_0 (by omega)]; exact h0
  · have key : ∀ d : Nat, a + d ≤ n → R (q_fr f a (a + d) x) (q_fr g a (a + d) y) := by
      intro d
      induction d with
      | zero =>
        intro _
        rw [q_fr_0 (by omega), q_fr_0 (by omega)]
        exact h0
      | succ d ih =>
        intro hd
        rw [show a + ((d + 1 : Nat) : Int) = a + (d : Int) + 1 by omega, q_fr_s (by omega), q_fr_s (by omega)]
        exact hs _ _ _ (by omega) (by omega) (ih (by omega))
    have h9 := key (n - a).toNat (by omega)
    rw [show a + (((n - a).toNat : Nat) : Int) = n by omega] at h9
    exact h9
/-- equal below n -/
def m_A (n : Nat) (f g : Nat → Int) : Prop := ∀ j, j < n → f j = g j
theorem m_A_up {n c : Nat} {f g : Nat → Int} {x y : Int} (h : m_A n f g) (hx : c < n → x = y) : m_A n (pz_up f c x) (pz_up g c y) := by
  intro j hj
  rw [pz_up_at, pz_up_at]
  split
  · rename_i e; exact hx (by omega)
  · exact h j hj
theorem m_A_up0 {n c : Nat} {f g : Nat → Int} {x : Int} (h : m_A n f g) (hc : n ≤ c) : m_A n (pz_up f c x) g := by
  intro j hj
  rw [pz_up_ne (by omega)]
  exact h j hj
theorem m_A_sym {n : Nat} {f g : Nat → Int} (h : m_A n f g) : m_A n g f := fun j hj => (h j hj).symm
theorem m_A_lw {n : Nat} {f g : Nat → Int} {c w : Int} (h : m_A n f g) : m_A n (q_lw f c w) (q_lw g c w) := by
  unfold q_lw
  by_cases hc : c.toNat < n
  · rw [h c.toNat hc]
    by_cases e : w < g c.toNat
    · rw [q_if_t e, q_if_t e]; exact m_A_up h (fun _ => rfl)
    · rw [q_if_f e, q_if_f e]; exact h
  · by_cases e1 : w < f c.toNat <;> by_cases e2 : w < g c.toNat
    · rw [q_if_t e1, q_if_t e2]; exact m_A_up h (fun _ => rfl)
    · rw [q_if_t e1, q_if_f e2]; exact m_A_up0 h (by omega)
    · rw [q_if_f e1, q_if_t e2]; exact m_A_sym (m_A_up0 (m_A_sym h) (by omega))
    · rw [q_if_f e1, q_if_f e2]; exact h
theorem m_A_eg {n : Nat} {f g : Nat → Int} {i j w : Int} (h : m_A n f g) : m_A n (q_eg f i j w) (q_eg g i j w) := m_A_lw h
theorem m_A_if {n : Nat} {p : Prop} {f g f' g' : Nat → Int} (h1 : p → m_A n f g) (h2 : ¬ p → m_A n f' g') : m_A n (q_if p f f') (q_if p g g') := by
  by_cases e : p
  · rw [q_if_t e, q_if_t e]; exact h1 e
  · rw [q_if_f e, q_if_f e]; exact h2 e
theorem m_A_net {k lf g g' : Nat → Int} : m_A 100 (q_net k lf g) (q_net k lf g') := by
  unfold q_net q_bds
  refine q_fr_rel (m_A 100) ?_ ?_
  · refine q_fr_rel (m_A 100) ?_ ?_
    · refine q_fr_rel (m_A 100) ?_ ?_
      · intro j hj
        unfold q_clr
        rw [if_pos hj, if_pos hj]
      · intro b x y _ _ h
        unfold q_bdE
        exact m_A_if (fun _ => m_A_eg h) (fun _ => h)
    · intro b x y _ _ h
      unfold q_stE
      exact m_A_if (fun _ => m_A_eg (m_A_eg h)) (fun _ => h)
  · intro b x y _ _ h
    unfold q_spE
    exact m_A_eg (m_A_eg h)
theorem m_A_ph {c : Int} {f g : Nat → Int} (hc : 0 ≤ c ∧ c < 10) (h : m_A 100 f g) : m_A 100 (q_ph c f) (q_ph c g) := by
  unfold q_ph
  refine q_fr_rel (m_A 100) h ?_
  intro i x y i1 i2 h
  unfold q_i
  refine q_fr_rel (m_A 100) h ?_
  intro j x y j1 j2 h
  unfold q_j
  rw [h (10 * i + c).toNat (by omega), h (10 * c + j).toNat (by omega)]
  exact m_A_if (fun _ => m_A_eg h) (fun _ => h)
theorem m_A_ps {n : Int} {f g : Nat → Int} (hn : n ≤ 10) (h : m_A 100 f g) : m_A 100 (q_ps n f) (q_ps n g) := by
  unfold q_ps
  exact q_fr_rel (m_A 100) h (fun c x y h1 h2 h => m_A_ph ⟨h1, by omega⟩ h)
theorem m_A_dg {f g : Nat → Int} (h : m_A 100 f g) : q_dg f ↔ q_dg g := by
  constructor
  · intro q i h1 h2; rw [← h _ (by omega)]; exact q i h1 h2
  · intro q i h1 h2; rw [h _ (by omega)]; exact q i h1 h2
theorem m_A_ok {f g : Nat → Int} (h : m_A 100 f g) : q_ok f ↔ q_ok g := by
  constructor
  · intro q c h1 h2; exact (m_A_dg (m_A_ps (by omega) h)).mp (q c h1 h2)
  · intro q c h1 h2; exact (m_A_dg (m_A_ps (by omega) h)).mpr (q c h1 h2)
theorem m_con_eq {k lf g : Nat → Int} : q_ok (q_net k lf g) ↔ q_con k lf := m_A_ok m_A_net
theorem m_A_cor {k : Nat → Int} {p : Int} {f g : Nat → Int} (h : m_A 100 f g) : m_A 100 (q_cor k p f) (q_cor k p g) := by
  unfold q_cor
  refine q_fr_rel (m_A 100) h ?_
  intro s x y _ _ h
  unfold q_coE
  exact m_A_eg (m_A_eg h)
theorem m_A_bds {k lf g g' : Nat → Int} : m_A 100 (q_bds k lf g) (q_bds k lf g') := by
  unfold q_bds
  refine q_fr_rel (m_A 100) ?_ ?_
  · refine q_fr_rel (m_A 100) ?_ ?_
    · intro j hj
      unfold q_clr
      rw [if_pos hj, if_pos hj]
    · intro b x y _ _ h
      unfold q_bdE
      exact m_A_if (fun _ => m_A_eg h) (fun _ => h)
  · intro b x y _ _ h
    unfold q_stE
    exact m_A_if (fun _ => m_A_eg (m_A_eg h)) (fun _ => h)
theorem m_wk_eq {k lf g : Nat → Int} {p : Int} : q_ok (q_cor k p (q_bds k lf g)) ↔ q_wkP k lf p := m_A_ok (m_A_cor m_A_bds)
/-- what is left out tells only below 40 -/
theorem m_con_lf {k lf lf' : Nat → Int} (hk : q_KR k) (h : m_A 40 lf lf') : q_con k lf ↔ q_con k lf' := by
  have h0 := hk.r0
  unfold q_con
  have e : q_net k lf (fun _ => 0) = q_net k lf' (fun _ => 0) := by
    unfold q_net q_bds
    congr 2
    refine q_fr_congr (fun b y g1 g2 => ?_)
    unfold q_bdE
    rw [h b.toNat (by omega)]
  rw [e]
theorem m_rs_congr {v k a b : Nat → Int} {e m : Int} (hk : q_KR k) (h : m_A 10 a b) (he : 0 ≤ e ∧ e ≤ 9) : q_rs v a k e m = q_rs v b k e m := by
  have h0 := hk.r0
  have hlo : q_lo v a k e = q_lo v b k e := by
    unfold q_lo
    refine q_fr_congr (fun s y g1 g2 => ?_)
    unfold q_loS
    rw [h s.toNat (by omega)]
  have hhi : q_hi v a k e = q_hi v b k e := by
    unfold q_hi
    refine q_fr_congr (fun s y g1 g2 => ?_)
    unfold q_hiS
    rw [h s.toNat (by omega)]
  have hbh : q_bh v a k e = q_bh v b k e := by
    apply propext
    constructor
    · rintro ⟨i, g1, g2, g3⟩
      refine ⟨i, g1, g2, ?_⟩
      unfold q_bhP at g3 ⊢
      rw [h i.toNat (by omega)] at g3
      exact g3
    · rintro ⟨i, g1, g2, g3⟩
      refine ⟨i, g1, g2, ?_⟩
      unfold q_bhP at g3 ⊢
      rw [← h i.toNat (by omega)] at g3
      exact g3
  have hmw : q_mw v a k e m = q_mw v b k e m := by
    apply propext
    constructor
    · rintro ⟨i, g1, g2, g3⟩
      have hs := hk.sp g1 g2
      refine ⟨i, g1, g2, ?_⟩
      unfold q_mwP at g3 ⊢
      rw [h (k (212 + 4 * i + 1).toNat).toNat (by omega), h (k (212 + 4 * i).toNat).toNat (by omega)] at g3
      exact g3
    · rintro ⟨i, g1, g2, g3⟩
      have hs := hk.sp g1 g2
      refine ⟨i, g1, g2, ?_⟩
      unfold q_mwP at g3 ⊢
      rw [← h (k (212 + 4 * i + 1).toNat).toNat (by omega), ← h (k (212 + 4 * i).toNat).toNat (by omega)] at g3
      exact g3
  unfold q_rs
  rw [hlo, hhi, hbh, hmw, h e.toNat (by omega)]
theorem m_nxt_congr {v k a b : Nat → Int} {m : Int} (hk : q_KR k) (h : m_A 10 a b) : q_nxt v k m a = q_nxt v k m b := by
  have h0 := hk.r0
  have e : q_nx v a k m = q_nx v b k m := by
    funext x
    have hr : ∀ i : Int, 0 ≤ i → i < k 0 → q_rs v a k i m = q_rs v b k i m := fun i g1 g2 => m_rs_congr hk h ⟨g1, by omega⟩
    apply propext
    unfold q_nx
    constructor
    · rintro (⟨g1, g2, g3, g4⟩ | ⟨g1, g2⟩)
      · exact Or.inl ⟨g1, g2, by rw [← hr x g1 g2]; exact g3, fun i e1 e2 => by rw [← hr i e1 (by omega)]; exact g4 i e1 e2⟩
      · exact Or.inr ⟨g1, fun i e1 e2 => by rw [← hr i e1 e2]; exact g2 i e1 e2⟩
    · rintro (⟨g1, g2, g3, g4⟩ | ⟨g1, g2⟩)
      · exact Or.inl ⟨g1, g2, by rw [hr x g1 g2]; exact g3, fun i e1 e2 => by rw [hr i e1 (by omega)]; exact g4 i e1 e2⟩
      · exact Or.inr ⟨g1, fun i e1 e2 => by rw [hr i e1 e2]; exact g2 i e1 e2⟩
  unfold q_nxt
  rw [e]
theorem m_aa_congr {k a b : Nat → Int} (hk : q_KR k) (h : m_A 10 a b) : q_aa k a = q_aa k b := by
  have h0 := hk.r0
  apply propext
  constructor
  · intro q e g1 g2; rw [← h e.toNat (by omega)]; exact q e g1 g2
  · intro q e g1 g2; rw [h e.toNat (by omega)]; exact q e g1 g2
theorem m_mi_congr {v k a b : Nat → Int} {p m : Int} (hk : q_KR k) (h : m_A 10 a b) : m_A 10 (q_mi v k p m a) (q_mi v k p m b) := by
  unfold q_mi q_sts
  refine q_fr_rel (m_A 10) ?_ ?_
  · refine q_fr_rel (m_A 10) h ?_
    intro s x y g1 g2 h
    have hs := hk.sp g1 g2
    have h0 := hk.r0
    unfold q_enS
    rw [h (k (212 + 4 * s + 1).toNat).toNat (by omega), h (k (212 + 4 * s).toNat).toNat (by omega)]
    exact m_A_if (fun _ => m_A_up h (fun _ => rfl)) (fun _ => h)
  · intro s x y g1 g2 h
    show m_A 10 (q_stp v k m x) (q_stp v k m y)
    unfold q_stp
    rw [m_nxt_congr hk h]
    exact m_A_if (fun _ => h) (fun _ => m_A_up h (fun _ => rfl))
theorem m_pl_ind {v k a b : Nat → Int} {p : Int} (hk : q_KR k) : ∀ e : Int, 0 ≤ e → e ≤ 9 → q_pl v k p a e.toNat = q_pl v k p b e.toNat := by
  have h : m_A 10 (q_pl v k p a) (q_pl v k p b) := by
    unfold q_pl
    refine q_fr_rel (m_A 10) ?_ ?_
    · intro j hj
      unfold q_a0
      (repeat' split) <;> first | rfl | omega
    · intro m x y g1 g2 h
      unfold q_plS
      rw [m_aa_congr hk h]
      exact m_A_if (fun _ => h) (fun _ => m_mi_congr hk h)
  intro e g1 g2
  exact h e.toNat (by omega)
theorem m_pl_al {v k a : Nat → Int} {p : Int} (h : q_KR k) : q_al (q_pl v k p a) := by
  unfold q_pl
  refine q_fr_ind (f := q_plS v k p) (fun _ (b : Nat → Int) => q_al b) (by omega) (q_ub_al q_a0_ub (by omega)) ?_
  intro m b g1 g2 g3
  unfold q_plS
  by_cases e : q_aa k b
  · rw [q_if_t e]; exact g3
  · rw [q_if_f e]
    unfold q_mi q_sts
    have h0 := h.r0
    refine q_fr_ind (fun _ (b : Nat → Int) => q_al b) (by omega) ?_ ?_
    · refine q_fr_ind (f := q_enS k p m) (fun _ (b : Nat → Int) => q_al b) (by omega) g3 ?_
      intro s b s1 s2 s3
      have hs := h.sp s1 s2
      unfold q_enS
      by_cases c : b (k (212 + 4 * s + 1).toNat).toNat = -1 ∧ b (k (212 + 4 * s).toNat).toNat ≠ -1 ∧ m - b (k (212 + 4 * s).toNat).toNat = q_if (q_up p s) (k (212 + 4 * s + 3).toNat) (k (212 + 4 * s + 2).toNat)
      · rw [q_if_t c]; exact q_al_up s3 (by omega) (by omega)
      · rw [q_if_f c]; exact s3
    · intro s b s1 s2 s3
      show q_al (q_stp v k m b)
      unfold q_stp
      by_cases c : q_nxt v k m b = -1
      · rw [q_if_t c]; exact s3
      · rw [q_if_f c]
        exact q_al_up s3 (q_nxt_r h c).1 (by omega)
/-- roots: a step for each event, by the span whose end it is -/
theorem m_rtE_eq {k : Nat → Int} {p e : Int} {x : (Nat → Int) × (Nat → Int)} (h : q_KR k) (he : 0 ≤ e ∧ e ≤ 9) : q_rtE k p e x = q_if (q_we k e ≠ -1 ∧ ¬ q_sta k (k (212 + 4 * q_we k e + 1).toNat)) (pz_up (pz_up x.1 e.toNat e) e.toNat (x.1 (k (212 + 4 * q_we k e).toNat).toNat), pz_up (pz_up x.2 e.toNat 0) e.toNat (x.2 (k (212 + 4 * q_we k e).toNat).toNat + q_pck k p (q_we k e))) (pz_up x.1 e.toNat e, pz_up x.2 e.toNat 0) := by
  have h0 := h.r0
  unfold q_rtE
  have key : ∀ n : Int, 0 ≤ n → n ≤ k 2 → q_fr (q_rtS k p e) 0 n (pz_up x.1 e.toNat e, pz_up x.2 e.toNat 0) = q_if ((0 ≤ q_we k e ∧ q_we k e < n) ∧ ¬ q_sta k (k (212 + 4 * q_we k e + 1).toNat)) (pz_up (pz_up x.1 e.toNat e) e.toNat (x.1 (k (212 + 4 * q_we k e).toNat).toNat), pz_up (pz_up x.2 e.toNat 0) e.toNat (x.2 (k (212 + 4 * q_we k e).toNat).toNat + q_pck k p (q_we k e))) (pz_up x.1 e.toNat e, pz_up x.2 e.toNat 0) := by
    intro n hn hn2
    refine q_fr_ind (f := q_rtS k p e) (fun i y => i ≤ k 2 → y = q_if ((0 ≤ q_we k e ∧ q_we k e < i) ∧ ¬ q_sta k (k (212 + 4 * q_we k e + 1).toNat)) (pz_up (pz_up x.1 e.toNat e) e.toNat (x.1 (k (212 + 4 * q_we k e).toNat).toNat), pz_up (pz_up x.2 e.toNat 0) e.toNat (x.2 (k (212 + 4 * q_we k e).toNat).toNat + q_pck k p (q_we k e))) (pz_up x.1 e.toNat e, pz_up x.2 e.toNat 0)) hn ?_ ?_ hn2
    · intro _
      rw [q_if_f (fun q => by omega)]
    · intro i y g1 g2 g3 g4
      have g5 := g3 (by omega)
      have hs := h.sp g1 (by omega)
      rcases q_we_spec (k := k) (e := e) (by omega) with ⟨w1, w2⟩ | ⟨w1, w2, w3, w4⟩
      · rw [q_if_f (fun q => by omega)] at g5 ⊢
        unfold q_rtS
        rw [q_if_f (fun q => w2 i g1 (by omega) q.1)]
        exact g5
      · have hw := h.sp w1 w2
        by_cases c : i = q_we k e
        · rw [q_if_f (fun q => by omega)] at g5
          unfold q_rtS
          by_cases d : q_sta k (k (212 + 4 * q_we k e + 1).toNat)
          · rw [c, q_if_f (fun q => q.2 d), q_if_f (fun q => q.2 d)]
            exact g5
          · rw [c, q_if_t (p := k (212 + 4 * q_we k e + 1).toNat = e ∧ ¬ q_sta k (k (212 + 4 * q_we k e + 1).toNat)) ⟨w3, d⟩, q_if_t (p := (0 ≤ q_we k e ∧ q_we k e < q_we k e + 1) ∧ ¬ q_sta k (k (212 + 4 * q_we k e + 1).toNat)) ⟨⟨w1, by omega⟩, d⟩, g5]
            dsimp only
            rw [pz_up_ne (f := x.1) (j := (k (212 + 4 * q_we k e).toNat).toNat) (by omega), pz_up_ne (f := x.2) (j := (k (212 + 4 * q_we k e).toNat).toNat) (by omega)]
            rfl
        · have hne : k (212 + 4 * i + 1).toNat ≠ e := by
            intro q
            rcases Int.lt_or_le i (q_we k e) with a | a
            · exact w4 i g1 a q
            · exact h.sq w1 (show q_we k e < i by omega) (by omega) (by rw [w3, q])
          unfold q_rtS
          rw [q_if_f (fun q => hne q.1), g5]
          by_cases d : q_we k e < i ∧ ¬ q_sta k (k (212 + 4 * q_we k e + 1).toNat)
          · rw [q_if_t ⟨⟨w1, d.1⟩, d.2⟩, q_if_t ⟨⟨w1, by omega⟩, d.2⟩]
          · rw [q_if_f (fun q => d ⟨q.1.2, q.2⟩), q_if_f (fun q => d ⟨by omega, q.2⟩)]
  rw [key (k 2) (by omega) (Int.le_refl _)]
  rcases q_we_spec (k := k) (e := e) (by omega) with ⟨w1, w2⟩ | ⟨w1, w2, w3, w4⟩
  · rw [q_if_f (fun q => by omega), q_if_f (fun q => q.1 w1)]
  · by_cases d : ¬ q_sta k (k (212 + 4 * q_we k e + 1).toNat)
    · rw [q_if_t ⟨⟨w1, w2⟩, d⟩, q_if_t ⟨by omega, d⟩]
    · rw [q_if_f (fun q => d q.2), q_if_f (fun q => d q.2)]
/-- later steps leave earlier events as they are -/
theorem m_rtE_ne {k : Nat → Int} {p e : Int} {x : (Nat → Int) × (Nat → Int)} {j : Nat} (h : q_KR k) (he : 0 ≤ e ∧ e ≤ 9) (hj : j ≠ e.toNat) : (q_rtE k p e x).1 j = x.1 j ∧ (q_rtE k p e x).2 j = x.2 j := by
  rw [m_rtE_eq h he]
  by_cases c : q_we k e ≠ -1 ∧ ¬ q_sta k (k (212 + 4 * q_we k e + 1).toNat)
  · rw [q_if_t c]
    dsimp only
    rw [pz_up_ne hj, pz_up_ne hj, pz_up_ne hj, pz_up_ne hj]
    exact ⟨rfl, rfl⟩
  · rw [q_if_f c]
    dsimp only
    rw [pz_up_ne hj, pz_up_ne hj]
    exact ⟨rfl, rfl⟩
theorem m_rt_keep {k : Nat → Int} {p i n : Int} {x : (Nat → Int) × (Nat → Int)} {j : Nat} (h : q_KR k) (hi : 0 ≤ i ∧ i ≤ n) (hn : n ≤ 10) (hj : (j : Int) < i) : (q_fr (q_rtE k p) 0 n x).1 j = (q_fr (q_rtE k p) 0 i x).1 j ∧ (q_fr (q_rtE k p) 0 n x).2 j = (q_fr (q_rtE k p) 0 i x).2 j := by
  have key : ∀ d : Nat, i + d ≤ 10 → (q_fr (q_rtE k p) 0 (i + d) x).1 j = (q_fr (q_rtE k p) 0 i x).1 j ∧ (q_fr (q_rtE k p) 0 (i + d) x).2 j = (q_fr (q_rtE k p) 0 i x).2 j := by
    intro d
    induction d with
    | zero => intro _; rw [show i + ((0 : Nat) : Int) = i by omega]; exact ⟨rfl, rfl⟩
    | succ d ih =>
      intro hd
      have h1 := ih (by omega)
      rw [show i + ((d + 1 : Nat) : Int) = i + (d : Int) + 1 by omega, q_fr_s (by omega)]
      have h2 := m_rtE_ne (p := p) (x := q_fr (q_rtE k p) 0 (i + d) x) (j := j) h (e := i + d) (by omega) (by omega)
      exact ⟨h2.1.trans h1.1, h2.2.trans h1.2⟩
  have h9 := key (n - i).toNat (by omega)
  rw [show i + (((n - i).toNat : Nat) : Int) = n by omega] at h9
  exact h9
theorem m_rt_y {k : Nat → Int} {p e : Int} {x : (Nat → Int) × (Nat → Int)} (h : q_KR k) (he : 0 ≤ e ∧ e ≤ 9) (h1 : q_we k e ≠ -1) (h2 : ¬ q_sta k (k (212 + 4 * q_we k e + 1).toNat)) : (q_rt k p x).1 e.toNat = (q_rt k p x).1 (k (212 + 4 * q_we k e).toNat).toNat ∧ (q_rt k p x).2 e.toNat = (q_rt k p x).2 (k (212 + 4 * q_we k e).toNat).toNat + q_pck k p (q_we k e) := by
  have h0 := h.r0
  rcases q_we_spec (k := k) (e := e) (by omega) with ⟨w1, w2⟩ | ⟨w1, w2, w3, w4⟩
  · exact absurd w1 h1
  · have hw := h.sp w1 w2
    have a1 := m_rt_keep (p := p) (x := x) (i := e + 1) (n := 10) (j := e.toNat) h (by omega) (by omega) (by omega)
    have a2 := m_rt_keep (p := p) (x := x) (i := e) (n := 10) (j := (k (212 + 4 * q_we k e).toNat).toNat) h (by omega) (by omega) (by omega)
    unfold q_rt
    rw [a1.1, a1.2, a2.1, a2.2, q_fr_s he.1, m_rtE_eq h he, q_if_t ⟨h1, h2⟩]
    dsimp only
    rw [pz_up_eq, pz_up_eq]
    exact ⟨rfl, rfl⟩
theorem m_rt_n {k : Nat → Int} {p e : Int} {x : (Nat → Int) × (Nat → Int)} (h : q_KR k) (he : 0 ≤ e ∧ e ≤ 9) (h1 : q_we k e = -1 ∨ q_sta k (k (212 + 4 * q_we k e + 1).toNat)) : (q_rt k p x).1 e.toNat = e ∧ (q_rt k p x).2 e.toNat = 0 := by
  have a1 := m_rt_keep (p := p) (x := x) (i := e + 1) (n := 10) (j := e.toNat) h (by omega) (by omega) (by omega)
  unfold q_rt
  rw [a1.1, a1.2, q_fr_s he.1, m_rtE_eq h he, q_if_f (fun q => by
    rcases h1 with g | g
    · exact q.1 g
    · exact q.2 g)]
  dsimp only
  rw [pz_up_eq, pz_up_eq]
  exact ⟨rfl, rfl⟩
theorem m_rt_r {k : Nat → Int} {p : Int} {x : (Nat → Int) × (Nat → Int)} (h : q_KR k) : q_rb (q_rt k p x).1 (q_rt k p x).2 10 := by
  have key : ∀ n : Nat, n ≤ 10 → q_rb (q_rt k p x).1 (q_rt k p x).2 n := by
    intro n
    induction n with
    | zero => intro _ i g1 g2; omega
    | succ n ih =>
      intro hn i g1 g2
      have ih1 := ih (by omega)
      by_cases c : i < n
      · exact ih1 i g1 c
      · have h0 := h.r0
        by_cases d : q_we k i ≠ -1 ∧ ¬ q_sta k (k (212 + 4 * q_we k i + 1).toNat)
        · have h3 := m_rt_y (p := p) (x := x) h (e := i) (by omega) d.1 d.2
          rcases q_we_spec (k := k) (e := i) (by omega) with ⟨w1, w2⟩ | ⟨w1, w2, w3, w4⟩
          · exact absurd w1 d.1
          · have hw := h.sp w1 w2
            have h4 := ih1 (k (212 + 4 * q_we k i).toNat) (by omega) (by omega)
            have h5 := q_pck_r (p := p) h w1 w2
            rw [h3.1, h3.2]
            omega
        · have h3 := m_rt_n (p := p) (x := x) h (e := i) (by omega) (by
            by_cases f : q_we k i = -1
            · exact Or.inl f
            · exact Or.inr (Classical.not_not.mp (fun g => d ⟨f, g⟩)))
          rw [h3.1, h3.2]
          omega
  exact key 10 (by omega)
