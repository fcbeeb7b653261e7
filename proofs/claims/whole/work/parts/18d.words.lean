/-! the class's nets, as rows -/
def q_ncl (e : Int) (r : Nat → Int) : Nat → Int := fun j => if j < 100 then (if j % 11 = 0 ∧ (j : Int) < 11 * e then 0 else 1000000000) else r j
/-- all pairs below z, shortened over c -/
def q_cs (z c : Int) (r : Nat → Int) : Nat → Int := fun n => if (n < 100 ∧ ((n / 10 : Nat) : Int) < z ∧ ((n % 10 : Nat) : Int) < z) ∧ r (10 * ((n / 10 : Nat) : Int) + c).toNat ≠ 1000000000 ∧ r (10 * c + ((n % 10 : Nat) : Int)).toNat ≠ 1000000000 ∧ r (10 * ((n / 10 : Nat) : Int) + c).toNat + r (10 * c + ((n % 10 : Nat) : Int)).toNat < r n then r (10 * ((n / 10 : Nat) : Int) + c).toNat + r (10 * c + ((n % 10 : Nat) : Int)).toNat else r n
theorem q_cs_y {z c i j : Int} {r : Nat → Int} (hz : z ≤ 10) (hi : 0 ≤ i ∧ i < z) (hj : 0 ≤ j ∧ j < z) (h : r (10 * i + c).toNat ≠ 1000000000 ∧ r (10 * c + j).toNat ≠ 1000000000 ∧ r (10 * i + c).toNat + r (10 * c + j).toNat < r (10 * i + j).toNat) : q_cs z c r (10 * i + j).toNat = r (10 * i + c).toNat + r (10 * c + j).toNat := by
  have h1 : ((((10 * i + j).toNat / 10 : Nat)) : Int) = i := by omega
  have h2 : ((((10 * i + j).toNat % 10 : Nat)) : Int) = j := by omega
  unfold q_cs
  rw [h1, h2, if_pos ⟨⟨by omega, by omega, by omega⟩, h⟩]
theorem q_cs_n {z c i j : Int} {r : Nat → Int} (hi : 0 ≤ i) (hj : 0 ≤ j ∧ j < 10) (h : ¬ (i < z ∧ j < z ∧ r (10 * i + c).toNat ≠ 1000000000 ∧ r (10 * c + j).toNat ≠ 1000000000 ∧ r (10 * i + c).toNat + r (10 * c + j).toNat < r (10 * i + j).toNat)) : q_cs z c r (10 * i + j).toNat = r (10 * i + j).toNat := by
  have h1 : ((((10 * i + j).toNat / 10 : Nat)) : Int) = i := by omega
  have h2 : ((((10 * i + j).toNat % 10 : Nat)) : Int) = j := by omega
  unfold q_cs
  rw [h1, h2, if_neg (fun ⟨⟨g1, g2, g3⟩, g4⟩ => h ⟨g2, g3, g4⟩)]
theorem q_sh_up {z c i j x : Int} {r f : Nat → Int} (hi : 0 ≤ i) (hj : 0 ≤ j) (hf : ∀ n : Nat, f n = if (n : Int) < 10 * i + j then q_cs z c r n else r n) (hx : x = q_cs z c r (10 * i + j).toNat) : ∀ n : Nat, pz_up f (10 * i + j).toNat x n = if (n : Int) < 10 * i + (j + 1) then q_cs z c r n else r n := by
  intro n
  by_cases hn : n = (10 * i + j).toNat
  · rw [hn, pz_up_eq, if_pos (by omega), hx]
  · rw [pz_up_ne hn, hf n]
    by_cases g : (n : Int) < 10 * i + j
    · rw [if_pos g, if_pos (by omega)]
    · rw [if_neg g, if_neg (by omega)]
theorem q_sh_no {z c i j : Int} {r f : Nat → Int} (hi : 0 ≤ i) (hj : 0 ≤ j) (hf : ∀ n : Nat, f n = if (n : Int) < 10 * i + j then q_cs z c r n else r n) (hx : r (10 * i + j).toNat = q_cs z c r (10 * i + j).toNat) : ∀ n : Nat, f n = if (n : Int) < 10 * i + (j + 1) then q_cs z c r n else r n := by
  intro n
  rw [hf n]
  by_cases hn : n = (10 * i + j).toNat
  · rw [hn, if_neg (by omega), if_pos (by omega), ← hx]
  · by_cases g : (n : Int) < 10 * i + j
    · rw [if_pos g, if_pos (by omega)]
    · rw [if_neg g, if_neg (by omega)]
theorem q_sh_end {z c i j : Int} {r f : Nat → Int} (hi : 0 ≤ i ∧ i < z) (hj : 0 ≤ j ∧ j ≤ 10) (hf : ∀ n : Nat, f n = if (n : Int) < 10 * i + j then q_cs z c r n else r n) (h : z ≤ j ∨ r (10 * i + c).toNat = 1000000000) : ∀ n : Nat, f n = if (n : Int) < 10 * (i + 1) then q_cs z c r n else r n := by
  intro n
  rw [hf n]
  by_cases g : (n : Int) < 10 * i + j
  · rw [if_pos g, if_pos (by omega)]
  · rw [if_neg g]
    by_cases g2 : (n : Int) < 10 * (i + 1)
    · rw [if_pos g2]
      have h1 : n = (10 * i + ((n : Int) - 10 * i)).toNat := by omega
      rw [h1, q_cs_n (by omega) (by omega) (fun ⟨e1, e2, e3, e4⟩ => by rcases h with h | h; omega; exact e3 h)]
    · rw [if_neg g2]
def q_cI (z c : Int) (r : Nat → Int) : Nat → Int := q_fr (q_cs z) 0 c r
def q_okc (z : Int) (r : Nat → Int) : Prop := ∀ i : Int, 0 ≤ i → i < z → 0 ≤ r (10 * i + i).toNat
def q_bnd (r : Nat → Int) : Prop := ∀ j : Nat, j < 100 → -1000000000 ≤ r j ∧ r j ≤ 1000000000
def q_cw (z : Int) (r : Nat → Int) : Prop := ∀ c : Int, 0 ≤ c → c < z → (∀ c1 : Int, 0 ≤ c1 → c1 ≤ c → q_okc z (q_cI z c1 r)) → q_bnd (q_cI z c r)
def q_czP (z : Int) (r : Nat → Int) (m : Int) : Prop := 0 ≤ m ∧ m ≤ z ∧ (∀ c : Int, 0 ≤ c → c < m → q_okc z (q_cI z c r)) ∧ (m = z ∨ ¬ q_okc z (q_cI z m r))
/-- the middle at which closing stops -/
noncomputable def q_cz (z : Int) (r : Nat → Int) : Int := Classical.epsilon (q_czP z r)
theorem q_czP_eq {z m m' : Int} {r : Nat → Int} (h : q_czP z r m) (h' : q_czP z r m') : m = m' := by
  rcases Int.lt_trichotomy m m' with g | g | g
  · rcases h.2.2.2 with e | e
    · have := h'.2.1; omega
    · exact absurd (h'.2.2.1 m h.1 g) e
  · exact g
  · rcases h'.2.2.2 with e | e
    · have := h.2.1; omega
    · exact absurd (h.2.2.1 m' h'.1 g) e
theorem q_cz_is {z m : Int} {r : Nat → Int} (h : q_czP z r m) : q_cz z r = m := q_czP_eq (Classical.epsilon_spec (p := q_czP z r) ⟨m, h⟩) h
theorem q_cz_ok {z : Int} {r : Nat → Int} (hz : 0 ≤ z) : q_czP z r (q_cz z r) := by
  refine Classical.epsilon_spec (p := q_czP z r) ?_
  by_cases h : ∀ c : Int, 0 ≤ c → c < (z.toNat : Int) → q_okc z (q_cI z c r)
  · exact ⟨z, hz, Int.le_refl _, fun c h1 h2 => h c h1 (by omega), Or.inl rfl⟩
  · obtain ⟨c, h1, h2, h3, h4⟩ := q_first z.toNat h
    exact ⟨c, h1, by omega, h3, Or.inr h4⟩
theorem q_okc_exi {z : Int} {r : Nat → Int} : ¬ q_exi (fun i => r (10 * i + i).toNat < 0) z ↔ q_okc z r := by
  constructor
  · intro h i h1 h2
    rcases Int.lt_or_le (r (10 * i + i).toNat) 0 with g | g
    · exact absurd ⟨i, h1, h2, g⟩ h
    · exact g
  · rintro h ⟨i, h1, h2, h3⟩
    have := h i h1 h2
    try dsimp only at h3
    omega
theorem q_cI_s {z c : Int} {r : Nat → Int} (h : 0 ≤ c) : q_cI z (c + 1) r = q_cs z c (q_cI z c r) := q_fr_s h
/-- a round over all edges: what is reached, whether it moved -/
noncomputable def q_gS (w : Nat → Int) (f t : Int) (s : (Nat → Int) × Int) : (Nat → Int) × Int := q_if (w (10 * f + t).toNat ≠ 1000000000 ∧ s.1 f.toNat ≠ 1000000000 ∧ s.1 f.toNat + w (10 * f + t).toNat < s.1 t.toNat) (pz_up s.1 t.toNat (s.1 f.toNat + w (10 * f + t).toNat), 1) s
noncomputable def q_gF (z : Int) (w : Nat → Int) (f : Int) (s : (Nat → Int) × Int) : (Nat → Int) × Int := q_fr (q_gS w f) 0 z s
noncomputable def q_gr (z : Int) (w : Nat → Int) (s : (Nat → Int) × Int) : (Nat → Int) × Int := q_fr (q_gF z w) 0 z s
def q_po (z : Int) (p w : Nat → Int) : Prop := ∀ i j : Int, 0 ≤ i → i < z → 0 ≤ j → j < z → (-1000000000 ≤ w (10 * i + j).toNat ∧ w (10 * i + j).toNat ≤ 1000000000) ∧ (w (10 * i + j).toNat ≠ 1000000000 → p j.toNat ≤ p i.toNat + w (10 * i + j).toNat) ∧ -20000 ≤ p i.toNat ∧ p i.toNat ≤ 20000
def q_rp (z : Int) (p r : Nat → Int) : Prop := ∀ x : Int, 0 ≤ x → x < z → p x.toNat ≤ r x.toNat ∧ r x.toNat ≤ 1000000000
theorem q_gS_t {w R R0 : Nat → Int} {f t y y0 : Int} (ht : 0 ≤ t) (hs : (R, y) = q_fr (q_gS w f) 0 t (R0, y0)) (h : w (10 * f + t).toNat ≠ 1000000000 ∧ R f.toNat ≠ 1000000000 ∧ R f.toNat + w (10 * f + t).toNat < R t.toNat) : (pz_up R t.toNat (R f.toNat + w (10 * f + t).toNat), (1 : Int)) = q_fr (q_gS w f) 0 (t + 1) (R0, y0) := by
  rw [q_fr_s ht, ← hs]
  unfold q_gS
  rw [q_if_t h]
theorem q_gS_f {w R R0 : Nat → Int} {f t y y0 : Int} (ht : 0 ≤ t) (hs : (R, y) = q_fr (q_gS w f) 0 t (R0, y0)) (h : ¬ (w (10 * f + t).toNat ≠ 1000000000 ∧ R f.toNat ≠ 1000000000 ∧ R f.toNat + w (10 * f + t).toNat < R t.toNat)) : (R, y) = q_fr (q_gS w f) 0 (t + 1) (R0, y0) := by
  rw [q_fr_s ht, ← hs]
  unfold q_gS
  rw [q_if_f h]
theorem q_rp_up {z x f t : Int} {p w R : Nat → Int} (hp : q_po z p w) (hr : q_rp z p R) (hf : 0 ≤ f ∧ f < z) (ht : 0 ≤ t ∧ t < z) (hw : w (10 * f + t).toNat ≠ 1000000000) (hl : R f.toNat + w (10 * f + t).toNat < R t.toNat) (hx : x = R f.toNat + w (10 * f + t).toNat) : q_rp z p (pz_up R t.toNat x) := by
  intro i h1 h2
  have h3 := (hp f t hf.1 hf.2 ht.1 ht.2).2.1 hw
  have h4 := hr f hf.1 hf.2
  have h5 := hr t ht.1 ht.2
  rw [pz_up_at]
  split
  · rename_i g
    rw [g, hx]
    omega
  · exact hr i h1 h2
/-- a round that did not move left all as it was -/
theorem q_gr_0 {z : Int} {w R : Nat → Int} (hz : 0 ≤ z) : ((q_gr z w (R, 0)).2 = 0 ∨ (q_gr z w (R, 0)).2 = 1) ∧ ((q_gr z w (R, 0)).2 = 0 → (q_gr z w (R, 0)).1 = R) := by
  unfold q_gr
  refine q_fr_ind (f := q_gF z w) (fun _ (s : (Nat → Int) × Int) => (s.2 = 0 ∨ s.2 = 1) ∧ (s.2 = 0 → s.1 = R)) hz ⟨Or.inl rfl, fun _ => rfl⟩ ?_
  intro f s h1 h2 h3
  unfold q_gF
  refine q_fr_ind (f := q_gS w f) (fun _ (s : (Nat → Int) × Int) => (s.2 = 0 ∨ s.2 = 1) ∧ (s.2 = 0 → s.1 = R)) hz h3 ?_
  intro t s g1 g2 g3
  unfold q_gS
  by_cases h : w (10 * f + t).toNat ≠ 1000000000 ∧ s.1 f.toNat ≠ 1000000000 ∧ s.1 f.toNat + w (10 * f + t).toNat < s.1 t.toNat
  · rw [q_if_t h]
    exact ⟨Or.inr rfl, fun q => absurd (show (1 : Int) = 0 from q) (by decide)⟩
  · rw [q_if_f h]
    exact g3
def q_ri (f : Int) (r : Nat → Int) : Nat → Int := fun j => if j < 10 then (if (j : Int) = f then 0 else 1000000000) else r j
noncomputable def q_gi (z : Int) (w : Nat → Int) (n : Int) (r : Nat → Int) : Nat → Int := q_fr (fun _ R => (q_gr z w (R, 0)).1) 0 n r
theorem q_gi_s {z n : Int} {w r : Nat → Int} (h : 0 ≤ n) : q_gi z w (n + 1) r = (q_gr z w (q_gi z w n r, 0)).1 := q_fr_s h
theorem q_gi_e {z n : Int} {w r R : Nat → Int} (h : 0 ≤ n ∧ n ≤ z) (hR : R = q_gi z w n r) (hs : (q_gr z w (R, 0)).1 = R) : R = q_gi z w z r := by
  have key : ∀ d : Nat, R = q_gi z w (n + d) r := by
    intro d
    induction d with
    | zero => rw [show n + ((0 : Nat) : Int) = n by omega]; exact hR
    | succ d ih =>
      rw [show n + ((d + 1 : Nat) : Int) = n + (d : Int) + 1 by omega, q_gi_s (by omega), ← ih]
      exact hs.symm
  have h9 := key (z - n).toNat
  rw [show n + (((z - n).toNat : Nat) : Int) = z by omega] at h9
  exact h9
def q_dX (k d : Nat → Int) : Prop := ∀ i j : Int, 0 ≤ i → i < k 0 → k 0 ≤ j → j ≤ 9 → d (10 * i + j).toNat = 1000000
theorem q_gr_rp {z : Int} {p w R : Nat → Int} (hz : 0 ≤ z) (hp : q_po z p w) (hr : q_rp z p R) : q_rp z p (q_gr z w (R, 0)).1 := by
  unfold q_gr
  refine q_fr_ind (f := q_gF z w) (fun _ (s : (Nat → Int) × Int) => q_rp z p s.1) hz hr ?_
  intro f s h1 h2 h3
  unfold q_gF
  refine q_fr_ind (f := q_gS w f) (fun _ (s : (Nat → Int) × Int) => q_rp z p s.1) hz h3 ?_
  intro t s g1 g2 g3
  unfold q_gS
  by_cases h : w (10 * f + t).toNat ≠ 1000000000 ∧ s.1 f.toNat ≠ 1000000000 ∧ s.1 f.toNat + w (10 * f + t).toNat < s.1 t.toNat
  · rw [q_if_t h]
    exact q_rp_up hp g3 ⟨h1, h2⟩ ⟨g1, g2⟩ h.1 h.2.2 rfl
  · rw [q_if_f h]
    exact g3
theorem q_dir_0 {k r d : Nat → Int} {f t : Int} (hk : q_KR k) (hN : q_nD k r d) (hD : q_dR d) (hf : 0 ≤ f ∧ f < k 0) (ht : 0 ≤ t ∧ t < k 0) : (r (10 * f + t).toNat = 1000000000 ↔ ¬ d (10 * f + t).toNat < 1000000) ∧ -1000000000 ≤ r (10 * f + t).toNat ∧ r (10 * f + t).toNat ≤ 1000000000 := by
  have h0 := hk.r0
  have h1 := hN f t hf.1 hf.2 ht.1 ht.2
  have h2 := hD (10 * f + t).toNat (by omega)
  have h3 := q_N_r h2.2
  omega
theorem q_dir_c {k r d : Nat → Int} {f t c : Int} (hk : q_KR k) (hN : q_nD k r d) (hD : q_dR d) (hf : 0 ≤ f ∧ f < k 0) (ht : 0 ≤ t ∧ t < k 0) (hc : 0 ≤ c ∧ c < k 0) (h : r (10 * f + t).toNat ≠ 1000000000) : ((c ≠ f ∧ c ≠ t ∧ r (10 * f + c).toNat ≠ 1000000000 ∧ r (10 * c + t).toNat ≠ 1000000000 ∧ r (10 * f + c).toNat + r (10 * c + t).toNat = r (10 * f + t).toNat) ↔ ¬ q_dirP d f t c) := by
  have h0 := hk.r0
  have a1 := hN f t hf.1 hf.2 ht.1 ht.2
  have a2 := q_N_r (hD (10 * f + t).toNat (by omega)).2
  have b1 := hN f c hf.1 hf.2 hc.1 hc.2
  have b2 := q_N_r (hD (10 * f + c).toNat (by omega)).2
  have c1 := hN c t hc.1 hc.2 ht.1 ht.2
  have c2 := q_N_r (hD (10 * c + t).toNat (by omega)).2
  have a3 : d (10 * f + t).toNat ≠ 1000000 := fun q => h (by rw [a1]; exact a2.1.mpr q)
  rw [a1, b1, c1, a2.2 a3]
  unfold q_dirP
  by_cases e1 : d (10 * f + c).toNat = 1000000
  · have := b2.1.mpr e1
    constructor
    · intro q; exact absurd this q.2.2.1
    · intro q; exact absurd (Or.inr (Or.inr (Or.inl e1))) q
  · by_cases e2 : d (10 * c + t).toNat = 1000000
    · have := c2.1.mpr e2
      constructor
      · intro q; exact absurd this q.2.2.2.1
      · intro q; exact absurd (Or.inr (Or.inr (Or.inr (Or.inl e2)))) q
    · rw [b2.2 e1, c2.2 e2]
      have g1 : d (10 * f + c).toNat ≠ 1000000000 := fun q => by have := b2.2 e1; rw [q] at this; exact e1 (b2.1.mp (by rw [q]; exact this))
      have g2 : d (10 * c + t).toNat ≠ 1000000000 := fun q => by have := c2.2 e2; rw [q] at this; exact e2 (c2.1.mp (by rw [q]; exact this))
      constructor
      · rintro ⟨q1, q2, -, -, q3⟩ (p | p | p | p | p)
        · exact q1 p
        · exact q2 p
        · exact e1 p
        · exact e2 p
        · exact p q3
      · intro q
        refine ⟨fun p => q (Or.inl p), fun p => q (Or.inr (Or.inl p)), g1, g2, ?_⟩
        exact Classical.not_not.mp (fun p => q (Or.inr (Or.inr (Or.inr (Or.inr p)))))
