/-! words and mathematics, each behind what it wants: chunk 2 -/
theorem q_cb_net {k lf g : Nat → Int} (h : q_KR k) : q_cb (q_net k lf g) := m_cb_net h
/-- equal below n -/
def m_A (n : Nat) (f g : Nat → Int) : Prop := ∀ j, j < n → f j = g j
theorem m_A_up {n c : Nat} {f g : Nat → Int} {x y : Int} (h : m_A n f g) (hx : c < n → x = y) : m_A n (pz_up f c x) (pz_up g c y) := by
  intro j hj
  rw [pz_up_at, pz_up_at]
  split
  · rename_i e; exact hx (by omega)
  · exact h j hj
theorem m_A_up0 {n c : Nat} {f g : Nat → Int} {x : Int} (h : m_A n f g) (hc : n ≤ c) : m_A n (pz_up f c x) g := by
  intro j hj
  rw [pz_up_ne (by omega)]
  exact h j hj
theorem m_A_sym {n : Nat} {f g : Nat → Int} (h : m_A n f g) : m_A n g f := fun j hj => (h j hj).symm
theorem m_A_lw {n : Nat} {f g : Nat → Int} {c w : Int} (h : m_A n f g) : m_A n (q_lw f c w) (q_lw g c w) := by
  unfold q_lw
  by_cases hc : c.toNat < n
  · rw [h c.toNat hc]
    by_cases e : w < g c.toNat
    · rw [q_if_t e, q_if_t e]; exact m_A_up h (fun _ => rfl)
    · rw [q_if_f e, q_if_f e]; exact h
  · by_cases e1 : w < f c.toNat <;> by_cases e2 : w < g c.toNat
    · rw [q_if_t e1, q_if_t e2]; exact m_A_up h (fun _ => rfl)
    · rw [q_if_t e1, q_if_f e2]; exact m_A_up0 h (by omega)
    · rw [q_if_f e1, q_if_t e2]; exact m_A_sym (m_A_up0 (m_A_sym h) (by omega))
    · rw [q_if_f e1, q_if_f e2]; exact h
theorem m_A_eg {n : Nat} {f g : Nat → Int} {i j w : Int} (h : m_A n f g) : m_A n (q_eg f i j w) (q_eg g i j w) := m_A_lw h
theorem m_A_if {n : Nat} {p : Prop} {f g f' g' : Nat → Int} (h1 : p → m_A n f g) (h2 : ¬ p → m_A n f' g') : m_A n (q_if p f f') (q_if p g g') := by
  by_cases e : p
  · rw [q_if_t e, q_if_t e]; exact h1 e
  · rw [q_if_f e, q_if_f e]; exact h2 e
theorem m_A_net {k lf g g' : Nat → Int} : m_A 100 (q_net k lf g) (q_net k lf g') := by
  unfold q_net q_bds
  refine q_fr_rel (m_A 100) ?_ ?_
  · refine q_fr_rel (m_A 100) ?_ ?_
    · refine q_fr_rel (m_A 100) ?_ ?_
      · intro j hj
        unfold q_clr
        rw [if_pos hj, if_pos hj]
      · intro b x y _ _ h
        unfold q_bdE
        exact m_A_if (fun _ => m_A_eg h) (fun _ => h)
    · intro b x y _ _ h
      unfold q_stE
      exact m_A_if (fun _ => m_A_eg (m_A_eg h)) (fun _ => h)
  · intro b x y _ _ h
    unfold q_spE
    exact m_A_eg (m_A_eg h)
theorem m_A_ph {c : Int} {f g : Nat → Int} (hc : 0 ≤ c ∧ c < 10) (h : m_A 100 f g) : m_A 100 (q_ph c f) (q_ph c g) := by
  unfold q_ph
  refine q_fr_rel (m_A 100) h ?_
  intro i x y i1 i2 h
  unfold q_i
  refine q_fr_rel (m_A 100) h ?_
  intro j x y j1 j2 h
  unfold q_j
  rw [h (10 * i + c).toNat (by omega), h (10 * c + j).toNat (by omega)]
  exact m_A_if (fun _ => m_A_eg h) (fun _ => h)
theorem m_A_ps {n : Int} {f g : Nat → Int} (hn : n ≤ 10) (h : m_A 100 f g) : m_A 100 (q_ps n f) (q_ps n g) := by
  unfold q_ps
  exact q_fr_rel (m_A 100) h (fun c x y h1 h2 h => m_A_ph ⟨h1, by omega⟩ h)
theorem m_A_dg {f g : Nat → Int} (h : m_A 100 f g) : q_dg f ↔ q_dg g := by
  constructor
  · intro q i h1 h2; rw [← h _ (by omega)]; exact q i h1 h2
  · intro q i h1 h2; rw [h _ (by omega)]; exact q i h1 h2
theorem m_A_ok {f g : Nat → Int} (h : m_A 100 f g) : q_ok f ↔ q_ok g := by
  constructor
  · intro q c h1 h2; exact (m_A_dg (m_A_ps (by omega) h)).mp (q c h1 h2)
  · intro q c h1 h2; exact (m_A_dg (m_A_ps (by omega) h)).mpr (q c h1 h2)
theorem m_con_eq {k lf g : Nat → Int} : q_ok (q_net k lf g) ↔ q_con k lf := m_A_ok m_A_net
theorem q_con_eq {k lf g : Nat → Int} : q_ok (q_net k lf g) ↔ q_con k lf := m_con_eq
theorem m_KR_ag {k k' : Nat → Int} (h : q_KR k) (e : ∀ j, (j ≠ 1 ∧ ¬ (47 ≤ j ∧ j ≤ 50) ∧ ¬ (52 ≤ j ∧ j < 212)) → k' j = k j) (h1 : 0 ≤ k' 1 ∧ k' 1 ≤ 40) (hl : ∀ l : Int, 1 ≤ l → l ≤ 4 → k' (46 + l).toNat = 111 ∨ k' (46 + l).toNat = 116 ∨ k' (46 + l).toNat = 102 ∨ k' (46 + l).toNat = 84 ∨ k' (46 + l).toNat = 70)
    (hb : ∀ b : Int, 0 ≤ b → b < k' 1 → (0 ≤ k' (52 + 4 * b).toNat ∧ k' (52 + 4 * b).toNat < k 0) ∧ (0 ≤ k' (52 + 4 * b + 1).toNat ∧ k' (52 + 4 * b + 1).toNat < k 0) ∧ k' (52 + 4 * b).toNat ≠ k' (52 + 4 * b + 1).toNat ∧ (-500 ≤ k' (52 + 4 * b + 2).toNat ∧ k' (52 + 4 * b + 2).toNat ≤ 500) ∧ ((-4 ≤ k' (52 + 4 * b + 3).toNat ∧ k' (52 + 4 * b + 3).toNat ≤ 4) ∨ k' (52 + 4 * b + 3).toNat = 99)) : q_KR k' := by
  have h0 := h.r0
  have n0 : ∀ i : Nat, (i < 47 ∨ 50 < i) → i ≠ 1 → (i < 52 ∨ 212 ≤ i) → k' i = k i := fun i a1 a2 a3 => e i (by omega)
  refine ⟨?_, ?_, ?_, ?_, ?_, ?_, ?_, ?_, ?_, ?_⟩
  · rw [n0 0 (by omega) (by omega) (by omega), n0 2 (by omega) (by omega) (by omega), n0 3 (by omega) (by omega) (by omega), n0 4 (by omega) (by omega) (by omega), n0 5 (by omega) (by omega) (by omega), n0 6 (by omega) (by omega) (by omega), n0 240 (by omega) (by omega) (by omega)]
    omega
  · intro x g1 g2
    rw [n0 (6 + x).toNat (by omega) (by omega) (by omega), n0 4 (by omega) (by omega) (by omega), n0 0 (by omega) (by omega) (by omega)]
    exact h.2.1 x g1 g2
  · intro x g1 g2
    rw [n0 (16 + x).toNat (by omega) (by omega) (by omega), n0 (26 + x).toNat (by omega) (by omega) (by omega), n0 (36 + x).toNat (by omega) (by omega) (by omega)]
    exact h.2.2.1 x g1 g2
  · intro l g1 g2
    by_cases g : 1 ≤ l
    · exact hl l g g2
    · rw [n0 (46 + l).toNat (by omega) (by omega) (by omega)]
      exact h.2.2.2.1 l g1 g2
  · intro b g1 g2
    rw [n0 0 (by omega) (by omega) (by omega)]
    exact hb b g1 g2
  · intro s g1 g2
    rw [n0 2 (by omega) (by omega) (by omega)] at g2
    rw [n0 (212 + 4 * s).toNat (by omega) (by omega) (by omega), n0 (212 + 4 * s + 1).toNat (by omega) (by omega) (by omega), n0 (212 + 4 * s + 2).toNat (by omega) (by omega) (by omega), n0 (212 + 4 * s + 3).toNat (by omega) (by omega) (by omega), n0 0 (by omega) (by omega) (by omega)]
    exact h.sp g1 g2
  · intro s t g1 g2 g3
    rw [n0 2 (by omega) (by omega) (by omega)] at g3
    rw [n0 (212 + 4 * s + 1).toNat (by omega) (by omega) (by omega), n0 (212 + 4 * t + 1).toNat (by omega) (by omega) (by omega)]
    exact h.sq g1 g2 g3
  · intro s g1 g2 g3
    rw [n0 2 (by omega) (by omega) (by omega)] at g2
    have hs := h.sp g1 g2
    have e0 := n0 (212 + 4 * s).toNat (by omega) (by omega) (by omega)
    have e1 := n0 (212 + 4 * s + 1).toNat (by omega) (by omega) (by omega)
    have e2 := n0 (212 + 4 * s + 2).toNat (by omega) (by omega) (by omega)
    have e3 := n0 (212 + 4 * s + 3).toNat (by omega) (by omega) (by omega)
    have e4 := n0 (6 + k (212 + 4 * s + 1).toNat).toNat (by omega) (by omega) (by omega)
    have e5 := n0 (6 + k (212 + 4 * s).toNat).toNat (by omega) (by omega) (by omega)
    have g4 : q_sta k (k (212 + 4 * s + 1).toNat) := by
      intro q
      apply g3
      rw [e1, e4]
      exact q
    have h9 := h.en g1 g2 g4
    rw [e0, e1, e2, e3, e4, e5]
    refine ⟨?_, h9.2⟩
    show k' (6 + k (212 + 4 * s).toNat).toNat ≠ -1
    rw [e5]
    exact h9.1
  · intro a g1 g2
    rw [n0 3 (by omega) (by omega) (by omega)] at g2
    rw [n0 (224 + 3 * a).toNat (by omega) (by omega) (by omega), n0 (224 + 3 * a + 1).toNat (by omega) (by omega) (by omega), n0 (224 + 3 * a + 2).toNat (by omega) (by omega) (by omega), n0 0 (by omega) (by omega) (by omega)]
    exact h.ac g1 g2
  · intro x g1 g2
    rw [n0 240 (by omega) (by omega) (by omega)] at g2
    rw [n0 (241 + x).toNat (by omega) (by omega) (by omega)]
    exact h.pl g1 g2
theorem m_KR_drop {k : Nat → Int} {b : Int} (h : q_KR k) (h1 : 0 ≤ b) (h2 : b < k 1) : q_KR (pz_up k (52 + 4 * b + 3).toNat 99) := by
  have h0 := h.r0
  have e1 : pz_up k (52 + 4 * b + 3).toNat 99 1 = k 1 := pz_up_ne (by omega)
  refine m_KR_ag h (fun j hj => pz_up_ne (by omega)) (by rw [e1]; omega) ?_ ?_
  · intro l g1 g2
    rw [pz_up_ne (by omega)]
    exact h.lb (by omega) g2
  · intro x g1 g2
    rw [e1] at g2
    rw [pz_up_ne (j := (52 + 4 * x).toNat) (by omega), pz_up_ne (j := (52 + 4 * x + 1).toNat) (by omega), pz_up_ne (j := (52 + 4 * x + 2).toNat) (by omega)]
    have h3 := h.bd g1 g2
    by_cases g : x = b
    · rw [g, pz_up_eq]
      rw [g] at h3
      exact ⟨h3.1, h3.2.1, h3.2.2.1, h3.2.2.2.1, Or.inr rfl⟩
    · rw [pz_up_ne (by omega)]
      exact h3
theorem q_KR_drop {k : Nat → Int} {b : Int} (h : q_KR k) (h1 : 0 ≤ b) (h2 : b < k 1) : q_KR (pz_up k (52 + 4 * b + 3).toNat 99) := m_KR_drop h h1 h2
theorem m_KR_lab {k k' : Nat → Int} (h : q_KR k) (e : ∀ j, ¬ (47 ≤ j ∧ j ≤ 50) → k' j = k j) (hl : ∀ l : Int, 1 ≤ l → l ≤ 4 → k' (46 + l).toNat = 111 ∨ k' (46 + l).toNat = 116 ∨ k' (46 + l).toNat = 102 ∨ k' (46 + l).toNat = 84 ∨ k' (46 + l).toNat = 70) : q_KR k' := by
  have h0 := h.r0
  have e1 : k' 1 = k 1 := e 1 (by omega)
  refine m_KR_ag h (fun j hj => e j hj.2.1) (by rw [e1]; omega) hl ?_
  intro b g1 g2
  rw [e1] at g2
  rw [e _ (by omega), e _ (by omega), e _ (by omega), e _ (by omega)]
  exact h.bd g1 g2
theorem m_KR_obs {k : Nat → Int} {l v : Int} (h : q_KR k) (h1 : 1 ≤ l) (h2 : l ≤ 4) (hv : v = 111 ∨ v = 116 ∨ v = 102 ∨ v = 84 ∨ v = 70) : q_KR (pz_up k (46 + l).toNat v) := by
  refine m_KR_lab h (fun j hj => pz_up_ne (by omega)) ?_
  intro i g1 g2
  by_cases g : i = l
  · rw [g, pz_up_eq]; exact hv
  · rw [pz_up_ne (by omega)]; exact h.lb (by omega) g2
theorem q_KR_obs {k : Nat → Int} {l v : Int} (h : q_KR k) (h1 : 1 ≤ l) (h2 : l ≤ 4) (hv : v = 111 ∨ v = 116 ∨ v = 102 ∨ v = 84 ∨ v = 70) : q_KR (pz_up k (46 + l).toNat v) := m_KR_obs h h1 h2 hv
def q_addsp (k : Nat → Int) (f t l g : Int) : Nat → Int := pz_up (pz_up (pz_up (pz_up (pz_up k (212 + 4 * k 2).toNat f) (212 + 4 * k 2 + 1).toNat t) (212 + 4 * k 2 + 2).toNat l) (212 + 4 * k 2 + 3).toNat g) 2 (k 2 + 1)
def q_addac (k : Nat → Int) (f t d : Int) : Nat → Int := pz_up (pz_up (pz_up (pz_up k (224 + 3 * k 3).toNat f) (224 + 3 * k 3 + 1).toNat t) (224 + 3 * k 3 + 2).toNat d) 3 (k 3 + 1)
/-- all pairs below z, shortened over c -/
def q_cs (z c : Int) (r : Nat → Int) : Nat → Int := fun n => if (n < 100 ∧ ((n / 10 : Nat) : Int) < z ∧ ((n % 10 : Nat) : Int) < z) ∧ r (10 * ((n / 10 : Nat) : Int) + c).toNat ≠ 1000000000 ∧ r (10 * c + ((n % 10 : Nat) : Int)).toNat ≠ 1000000000 ∧ r (10 * ((n / 10 : Nat) : Int) + c).toNat + r (10 * c + ((n % 10 : Nat) : Int)).toNat < r n then r (10 * ((n / 10 : Nat) : Int) + c).toNat + r (10 * c + ((n % 10 : Nat) : Int)).toNat else r n
theorem q_cs_n {z c i j : Int} {r : Nat → Int} (hi : 0 ≤ i) (hj : 0 ≤ j ∧ j < 10) (h : ¬ (i < z ∧ j < z ∧ r (10 * i + c).toNat ≠ 1000000000 ∧ r (10 * c + j).toNat ≠ 1000000000 ∧ r (10 * i + c).toNat + r (10 * c + j).toNat < r (10 * i + j).toNat)) : q_cs z c r (10 * i + j).toNat = r (10 * i + j).toNat := by
  have h1 : ((((10 * i + j).toNat / 10 : Nat)) : Int) = i := by omega
  have h2 : ((((10 * i + j).toNat % 10 : Nat)) : Int) = j := by omega
  unfold q_cs
  rw [h1, h2, if_neg (fun ⟨⟨g1, g2, g3⟩, g4⟩ => h ⟨g2, g3, g4⟩)]
def q_cI (z c : Int) (r : Nat → Int) : Nat → Int := q_fr (q_cs z) 0 c r
theorem q_cI_s {z c : Int} {r : Nat → Int} (h : 0 ≤ c) : q_cI z (c + 1) r = q_cs z c (q_cI z c r) := q_fr_s h
theorem q_cs_y {z c i j : Int} {r : Nat → Int} (hz : z ≤ 10) (hi : 0 ≤ i ∧ i < z) (hj : 0 ≤ j ∧ j < z) (h : r (10 * i + c).toNat ≠ 1000000000 ∧ r (10 * c + j).toNat ≠ 1000000000 ∧ r (10 * i + c).toNat + r (10 * c + j).toNat < r (10 * i + j).toNat) : q_cs z c r (10 * i + j).toNat = r (10 * i + c).toNat + r (10 * c + j).toNat := by
  have h1 : ((((10 * i + j).toNat / 10 : Nat)) : Int) = i := by omega
  have h2 : ((((10 * i + j).toNat % 10 : Nat)) : Int) = j := by omega
  unfold q_cs
  rw [h1, h2, if_pos ⟨⟨by omega, by omega, by omega⟩, h⟩]
theorem q_N_v {x : Int} (h : -1000000000 ≤ x ∧ x ≤ 1000000) : (q_N x = 1000000000 ↔ x = 1000000) ∧ (x ≠ 1000000 → q_N x = x) ∧ -1000000000 ≤ q_N x ∧ q_N x ≤ 1000000000 := by
  unfold q_N
  split <;> omega
theorem m_T_sh {z c M : Int} {w r : Nat → Int} (hz : z ≤ 10) (hM : 0 ≤ M ∧ 2 * M < 1000000) (hc : 0 ≤ c ∧ c < z) (h1 : m_T z w r) (h2 : m_O z w) (h3 : m_wb M w) : m_T z (m_sh c w) (q_cs z c r) ∧ m_O z (m_sh c w) ∧ m_wb (2 * M) (m_sh c w) := by
  refine ⟨?_, ?_, ?_⟩
  · intro i j i1 i2 j1 j2
    have a1 := h1 i c i1 i2 hc.1 hc.2
    have a2 := h1 c j hc.1 hc.2 j1 j2
    have a3 := h1 i j i1 i2 j1 j2
    have b1 := h3 (10 * i + c).toNat (by omega)
    have b2 := h3 (10 * c + j).toNat (by omega)
    have b3 := h3 (10 * i + j).toNat (by omega)
    have n1 := q_N_v (x := w (10 * i + c).toNat) (by omega)
    have n2 := q_N_v (x := w (10 * c + j).toNat) (by omega)
    have n3 := q_N_v (x := w (10 * i + j).toNat) (by omega)
    rw [m_sh_at (by omega) (by omega)]
    by_cases g : w (10 * i + c).toNat < 1000000 ∧ w (10 * c + j).toNat < 1000000 ∧ w (10 * i + c).toNat + w (10 * c + j).toNat < w (10 * i + j).toNat
    · rw [if_pos g]
      have n4 := q_N_v (x := w (10 * i + c).toNat + w (10 * c + j).toNat) (by omega)
      have e1 : r (10 * i + c).toNat = w (10 * i + c).toNat := by omega
      have e2 : r (10 * c + j).toNat = w (10 * c + j).toNat := by omega
      rw [q_cs_y hz ⟨i1, i2⟩ ⟨j1, j2⟩ (by omega), e1, e2]
      omega
    · rw [if_neg g, q_cs_n i1 (by omega) (by omega)]
      exact a3
  · intro i j i1 i2 j1 j2 g
    rw [m_sh_at ⟨i1, i2⟩ ⟨j1, j2⟩]
    have g1 := h2 i j i1 i2 j1 j2 g
    by_cases e : z ≤ i
    · have g2 := h2 i c i1 i2 hc.1 (by omega) (Or.inl e)
      rw [if_neg (show ¬ i = c by omega)] at g2
      rw [if_neg (by omega)]
      exact g1
    · have g2 := h2 c j hc.1 (by omega) j1 j2 (by omega)
      rw [if_neg (show ¬ c = j by omega)] at g2
      rw [if_neg (by omega)]
      exact g1
  · intro n hn
    have b3 := h3 n hn
    unfold m_sh
    have b1 := h3 (10 * ((n / 10 : Nat) : Int) + c).toNat (by omega)
    have b2 := h3 (10 * c + ((n % 10 : Nat) : Int)).toNat (by omega)
    split
    · right; omega
    · omega
theorem m_sh_id {z c : Int} {w : Nat → Int} (hc : z ≤ c ∧ 0 ≤ c ∧ c ≤ 9) (h2 : m_O z w) : m_sh c w = w := by
  funext n
  by_cases hn : n < 100
  · have e : n = (10 * ((n / 10 : Nat) : Int) + ((n % 10 : Nat) : Int)).toNat := by omega
    rw [e, m_sh_at (by omega) (by omega), if_neg]
    intro q
    have g1 := h2 ((n / 10 : Nat) : Int) c (by omega) (by omega) hc.2.1 hc.2.2 (Or.inr hc.1)
    have g2 := h2 c ((n % 10 : Nat) : Int) hc.2.1 hc.2.2 (by omega) (by omega) (Or.inl hc.1)
    by_cases a : ((n / 10 : Nat) : Int) = c
    · by_cases b : c = ((n % 10 : Nat) : Int)
      · rw [if_pos a] at g1
        rw [if_pos b] at g2
        have g3 := h2 ((n / 10 : Nat) : Int) ((n % 10 : Nat) : Int) (by omega) (by omega) (by omega) (by omega) (by omega)
        rw [if_pos (by omega)] at g3
        omega
      · rw [if_neg b] at g2; omega
    · rw [if_neg a] at g1; omega
  · unfold m_sh
    rw [if_neg (fun q => hn q.1)]
/-- all stages, as long as no way back is below 0 -/
theorem m_chain {z : Int} {w r : Nat → Int} (hz : 1 ≤ z ∧ z ≤ 10) (h : m_R z 600 w r) : ∀ c : Nat, (c : Int) ≤ 10 → (∀ c' : Int, 0 ≤ c' → c' < c → q_dg (q_ps c' w)) → m_O z (q_ps c w) ∧ m_wb (600 * q_p2 c) (q_ps c w) ∧ ((c : Int) ≤ z → m_T z (q_ps c w) (q_cI z c r) ∧ m_OC z (q_cI z c r)) := by
  intro c
  induction c with
  | zero =>
    intro _ _
    have e1 : q_ps ((0 : Nat) : Int) w = w := q_fr_0 (by omega)
    have e2 : q_cI z ((0 : Nat) : Int) r = r := q_fr_0 (by omega)
    rw [e1, e2]
    refine ⟨h.2.1, ?_, fun _ => ⟨h.1, h.2.2.2.2⟩⟩
    have := h.2.2.1
    rw [show q_p2 ((0 : Nat) : Int) = 1 from rfl]
    exact this
  | succ c ih =>
    intro hc hd
    have ih1 := ih (by omega) (fun c' g1 g2 => hd c' g1 (by omega))
    have hdc := hd c (by omega) (by omega) c (by omega) (by omega)
    rw [show (11 * (c : Int)).toNat = (10 * (c : Int) + c).toNat by omega] at hdc
    have e1 : q_ps ((c + 1 : Nat) : Int) w = m_sh c (q_ps c w) := by
      rw [show ((c + 1 : Nat) : Int) = (c : Int) + 1 by omega, q_ps_s (by omega), m_ph_eq (by omega) hdc]
    have p1 := q_p2_s (a := c) (by omega)
    have p2 := q_p2_le (a := c) (b := 9) (by omega) (by omega)
    have p3 := m_p2v
    have p4 : 1 ≤ q_p2 c := by
      have := q_p2_le (a := 0) (b := c) (by omega) (by omega)
      omega
    rw [e1, show ((c + 1 : Nat) : Int) = (c : Int) + 1 by omega, p1]
    by_cases g : (c : Int) < z
    · obtain ⟨t1, t2⟩ := ih1.2.2 (by omega)
      have s := m_T_sh (M := 600 * q_p2 c) hz.2 (by omega) ⟨by omega, g⟩ t1 ih1.1 ih1.2.1
      refine ⟨s.2.1, ?_, fun _ => ⟨?_, ?_⟩⟩
      · rw [show 600 * (2 * q_p2 c) = 2 * (600 * q_p2 c) by omega]; exact s.2.2
      · rw [q_cI_s (by omega)]; exact s.1
      · rw [q_cI_s (by omega)]
        intro i j i1 i2 j1 j2 e
        rw [q_cs_n i1 (by omega) (fun q => by omega)]
        exact t2 i j i1 i2 j1 j2 e
    · rw [m_sh_id ⟨by omega, by omega, by omega⟩ ih1.1]
      refine ⟨ih1.1, ?_, fun q => by omega⟩
      intro n hn
      have := ih1.2.1 n hn
      omega
theorem m_dg0 {z M : Int} {w r : Nat → Int} (h : m_R z M w r) : q_dg (q_ps 0 w) := by
  rw [show q_ps 0 w = w from q_fr_0 (by omega)]
  intro i i1 i2
  rw [show (11 * i).toNat = (10 * i + i).toNat by omega, h.2.2.2.1 i i1 (by omega)]
  omega
theorem m_ok_all {z M : Int} {w r : Nat → Int} (h : m_R z M w r) (hk : q_ok w) : ∀ c : Int, 0 ≤ c → c ≤ 10 → q_dg (q_ps c w) := by
  intro c h1 h2
  by_cases g : c = 0
  · rw [g]; exact m_dg0 h
  · have := hk (c - 1) (by omega) (by omega)
    rw [show c - 1 + 1 = c by omega] at this
    exact this
def m_tri (c : Int) (w : Nat → Int) : Prop := ∀ i j v : Int, 0 ≤ i → i ≤ 9 → 0 ≤ j → j ≤ 9 → 0 ≤ v → v < c → w (10 * i + v).toNat < 1000000 → w (10 * v + j).toNat < 1000000 → w (10 * i + j).toNat ≤ w (10 * i + v).toNat + w (10 * v + j).toNat
theorem m_sh_le {c : Int} {f : Nat → Int} (n : Nat) : m_sh c f n ≤ f n := by
  unfold m_sh
  split <;> omega
theorem m_sh_le2 {c i j : Int} {f : Nat → Int} (hi : 0 ≤ i ∧ i ≤ 9) (hj : 0 ≤ j ∧ j ≤ 9) (h1 : f (10 * i + c).toNat < 1000000) (h2 : f (10 * c + j).toNat < 1000000) : m_sh c f (10 * i + j).toNat ≤ f (10 * i + c).toNat + f (10 * c + j).toNat := by
  rw [m_sh_at hi hj]
  split <;> omega
