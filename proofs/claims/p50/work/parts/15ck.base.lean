/-! words and mathematics, each behind what it wants: chunk 11 -/
theorem q_hld_c {k c f t m l d : Nat → Int} {b x y : Int} (hk : q_KR k) (hB : q_cB k c f t m l d) (hb : 0 ≤ b ∧ b < k 1) (hT : q_cT k x y) : (d b.toNat = 0 ∨ d b.toNat = 1) ∧ (d b.toNat ≠ 0 → ¬ q_hldX k b) ∧ (d b.toNat = 0 → -4 ≤ l b.toNat ∧ l b.toNat ≤ 4) ∧ (d b.toNat = 0 → l b.toNat = 0 → q_hldX k b) ∧ (d b.toNat = 0 → 0 < l b.toNat → (pz_and x (pz_shl 1 (l b.toNat - 1)) ≠ 0 ↔ q_hldX k b)) ∧ (d b.toNat = 0 → l b.toNat < 0 → (pz_and y (pz_shl 1 (-(l b.toNat) - 1)) ≠ 0 ↔ q_hldX k b)) := by
  have hBb := (hB.2 b hb.1 hb.2).2.2.2
  have hbd := (hk.bd hb.1 hb.2).2.2.2.2
  unfold q_hldX
  rcases hBb with ⟨h1, h2⟩ | ⟨h1, h2, h3⟩
  · refine ⟨Or.inr h1, fun _ q => q.1 h2, fun g => by omega, fun g => by omega, fun g => by omega, fun g => by omega⟩
  · rw [h3]
    have hn : k (52 + 4 * b + 3).toNat ≠ 99 := h2
    refine ⟨Or.inl h1, fun g => absurd h1 g, fun _ => by omega, fun _ g => ⟨h2, Or.inl g⟩, fun _ g => ?_, fun _ g => ?_⟩
    · have hT1 := (hT.2.2 (k (52 + 4 * b + 3).toNat) (by omega) (by omega)).1
      rw [hT1]
      exact ⟨fun q => ⟨h2, Or.inr (Or.inl ⟨g, q⟩)⟩, fun q => by
        rcases q.2 with e | ⟨_, e⟩ | ⟨e, _⟩
        · omega
        · exact e
        · omega⟩
    · have hT2 := (hT.2.2 (-(k (52 + 4 * b + 3).toNat)) (by omega) (by omega)).2
      rw [hT2]
      exact ⟨fun q => ⟨h2, Or.inr (Or.inr ⟨g, q⟩)⟩, fun q => by
        rcases q.2 with e | ⟨e, _⟩ | ⟨_, e⟩
        · omega
        · omega
        · exact e⟩
theorem q_sh_up {z c i j x : Int} {r f : Nat → Int} (hi : 0 ≤ i) (hj : 0 ≤ j) (hf : ∀ n : Nat, f n = if (n : Int) < 10 * i + j then q_cs z c r n else r n) (hx : x = q_cs z c r (10 * i + j).toNat) : ∀ n : Nat, pz_up f (10 * i + j).toNat x n = if (n : Int) < 10 * i + (j + 1) then q_cs z c r n else r n := by
  intro n
  by_cases hn : n = (10 * i + j).toNat
  · rw [hn, pz_up_eq, if_pos (by omega), hx]
  · rw [pz_up_ne hn, hf n]
    by_cases g : (n : Int) < 10 * i + j
    · rw [if_pos g, if_pos (by omega)]
    · rw [if_neg g, if_neg (by omega)]
theorem q_sh_no {z c i j : Int} {r f : Nat → Int} (hi : 0 ≤ i) (hj : 0 ≤ j) (hf : ∀ n : Nat, f n = if (n : Int) < 10 * i + j then q_cs z c r n else r n) (hx : r (10 * i + j).toNat = q_cs z c r (10 * i + j).toNat) : ∀ n : Nat, f n = if (n : Int) < 10 * i + (j + 1) then q_cs z c r n else r n := by
  intro n
  rw [hf n]
  by_cases hn : n = (10 * i + j).toNat
  · rw [hn, if_neg (by omega), if_pos (by omega), ← hx]
  · by_cases g : (n : Int) < 10 * i + j
    · rw [if_pos g, if_pos (by omega)]
    · rw [if_neg g, if_neg (by omega)]
theorem q_sh_end {z c i j : Int} {r f : Nat → Int} (hi : 0 ≤ i ∧ i < z) (hj : 0 ≤ j ∧ j ≤ 10) (hf : ∀ n : Nat, f n = if (n : Int) < 10 * i + j then q_cs z c r n else r n) (h : z ≤ j ∨ r (10 * i + c).toNat = 1000000000) : ∀ n : Nat, f n = if (n : Int) < 10 * (i + 1) then q_cs z c r n else r n := by
  intro n
  rw [hf n]
  by_cases g : (n : Int) < 10 * i + j
  · rw [if_pos g, if_pos (by omega)]
  · rw [if_neg g]
    by_cases g2 : (n : Int) < 10 * (i + 1)
    · rw [if_pos g2]
      have h1 : n = (10 * i + ((n : Int) - 10 * i)).toNat := by omega
      rw [h1, q_cs_n (by omega) (by omega) (fun ⟨e1, e2, e3, e4⟩ => by rcases h with h | h; omega; exact e3 h)]
    · rw [if_neg g2]
def q_okc (z : Int) (r : Nat → Int) : Prop := ∀ i : Int, 0 ≤ i → i < z → 0 ≤ r (10 * i + i).toNat
def q_bnd (r : Nat → Int) : Prop := ∀ j : Nat, j < 100 → -1000000000 ≤ r j ∧ r j ≤ 1000000000
def q_cw (z : Int) (r : Nat → Int) : Prop := ∀ c : Int, 0 ≤ c → c < z → (∀ c1 : Int, 0 ≤ c1 → c1 ≤ c → q_okc z (q_cI z c1 r)) → q_bnd (q_cI z c r)
def q_czP (z : Int) (r : Nat → Int) (m : Int) : Prop := 0 ≤ m ∧ m ≤ z ∧ (∀ c : Int, 0 ≤ c → c < m → q_okc z (q_cI z c r)) ∧ (m = z ∨ ¬ q_okc z (q_cI z m r))
/-- the middle at which closing stops -/
noncomputable def q_cz (z : Int) (r : Nat → Int) : Int := Classical.epsilon (q_czP z r)
theorem q_czP_eq {z m m' : Int} {r : Nat → Int} (h : q_czP z r m) (h' : q_czP z r m') : m = m' := by
  rcases Int.lt_trichotomy m m' with g | g | g
  · rcases h.2.2.2 with e | e
    · have := h'.2.1; omega
    · exact absurd (h'.2.2.1 m h.1 g) e
  · exact g
  · rcases h'.2.2.2 with e | e
    · have := h.2.1; omega
    · exact absurd (h.2.2.1 m' h'.1 g) e
theorem q_cz_is {z m : Int} {r : Nat → Int} (h : q_czP z r m) : q_cz z r = m := q_czP_eq (Classical.epsilon_spec (p := q_czP z r) ⟨m, h⟩) h
theorem q_cz_ok {z : Int} {r : Nat → Int} (hz : 0 ≤ z) : q_czP z r (q_cz z r) := by
  refine Classical.epsilon_spec (p := q_czP z r) ?_
  by_cases h : ∀ c : Int, 0 ≤ c → c < (z.toNat : Int) → q_okc z (q_cI z c r)
  · exact ⟨z, hz, Int.le_refl _, fun c h1 h2 => h c h1 (by omega), Or.inl rfl⟩
  · obtain ⟨c, h1, h2, h3, h4⟩ := q_first z.toNat h
    exact ⟨c, h1, by omega, h3, Or.inr h4⟩
theorem q_okc_exi {z : Int} {r : Nat → Int} : ¬ q_exi (fun i => r (10 * i + i).toNat < 0) z ↔ q_okc z r := by
  constructor
  · intro h i h1 h2
    rcases Int.lt_or_le (r (10 * i + i).toNat) 0 with g | g
    · exact absurd ⟨i, h1, h2, g⟩ h
    · exact g
  · rintro h ⟨i, h1, h2, h3⟩
    have := h i h1 h2
    try dsimp only at h3
    omega
/-- a round over all edges: what is reached, whether it moved -/
noncomputable def q_gS (w : Nat → Int) (f t : Int) (s : (Nat → Int) × Int) : (Nat → Int) × Int := q_if (w (10 * f + t).toNat ≠ 1000000000 ∧ s.1 f.toNat ≠ 1000000000 ∧ s.1 f.toNat + w (10 * f + t).toNat < s.1 t.toNat) (pz_up s.1 t.toNat (s.1 f.toNat + w (10 * f + t).toNat), 1) s
noncomputable def q_gF (z : Int) (w : Nat → Int) (f : Int) (s : (Nat → Int) × Int) : (Nat → Int) × Int := q_fr (q_gS w f) 0 z s
noncomputable def q_gr (z : Int) (w : Nat → Int) (s : (Nat → Int) × Int) : (Nat → Int) × Int := q_fr (q_gF z w) 0 z s
def q_po (z : Int) (p w : Nat → Int) : Prop := ∀ i j : Int, 0 ≤ i → i < z → 0 ≤ j → j < z → (-1000000000 ≤ w (10 * i + j).toNat ∧ w (10 * i + j).toNat ≤ 1000000000) ∧ (w (10 * i + j).toNat ≠ 1000000000 → p j.toNat ≤ p i.toNat + w (10 * i + j).toNat) ∧ -20000 ≤ p i.toNat ∧ p i.toNat ≤ 20000
def q_rp (z : Int) (p r : Nat → Int) : Prop := ∀ x : Int, 0 ≤ x → x < z → p x.toNat ≤ r x.toNat ∧ r x.toNat ≤ 1000000000
theorem q_gS_t {w R R0 : Nat → Int} {f t y y0 : Int} (ht : 0 ≤ t) (hs : (R, y) = q_fr (q_gS w f) 0 t (R0, y0)) (h : w (10 * f + t).toNat ≠ 1000000000 ∧ R f.toNat ≠ 1000000000 ∧ R f.toNat + w (10 * f + t).toNat < R t.toNat) : (pz_up R t.toNat (R f.toNat + w (10 * f + t).toNat), (1 : Int)) = q_fr (q_gS w f) 0 (t + 1) (R0, y0) := by
  rw [q_fr_s ht, ← hs]
  unfold q_gS
  rw [q_if_t h]
theorem q_gS_f {w R R0 : Nat → Int} {f t y y0 : Int} (ht : 0 ≤ t) (hs : (R, y) = q_fr (q_gS w f) 0 t (R0, y0)) (h : ¬ (w (10 * f + t).toNat ≠ 1000000000 ∧ R f.toNat ≠ 1000000000 ∧ R f.toNat + w (10 * f + t).toNat < R t.toNat)) : (R, y) = q_fr (q_gS w f) 0 (t + 1) (R0, y0) := by
  rw [q_fr_s ht, ← hs]
  unfold q_gS
  rw [q_if_f h]
theorem q_rp_up {z x f t : Int} {p w R : Nat → Int} (hp : q_po z p w) (hr : q_rp z p R) (hf : 0 ≤ f ∧ f < z) (ht : 0 ≤ t ∧ t < z) (hw : w (10 * f + t).toNat ≠ 1000000000) (hl : R f.toNat + w (10 * f + t).toNat < R t.toNat) (hx : x = R f.toNat + w (10 * f + t).toNat) : q_rp z p (pz_up R t.toNat x) := by
  intro i h1 h2
  have h3 := (hp f t hf.1 hf.2 ht.1 ht.2).2.1 hw
  have h4 := hr f hf.1 hf.2
  have h5 := hr t ht.1 ht.2
  rw [pz_up_at]
  split
  · rename_i g
    rw [g, hx]
    omega
  · exact hr i h1 h2
/-- a round that did not move left all as it was -/
theorem q_gr_0 {z : Int} {w R : Nat → Int} (hz : 0 ≤ z) : ((q_gr z w (R, 0)).2 = 0 ∨ (q_gr z w (R, 0)).2 = 1) ∧ ((q_gr z w (R, 0)).2 = 0 → (q_gr z w (R, 0)).1 = R) := by
  unfold q_gr
  refine q_fr_ind (f := q_gF z w) (fun _ (s : (Nat → Int) × Int) => (s.2 = 0 ∨ s.2 = 1) ∧ (s.2 = 0 → s.1 = R)) hz ⟨Or.inl rfl, fun _ => rfl⟩ ?_
  intro f s h1 h2 h3
  unfold q_gF
  refine q_fr_ind (f := q_gS w f) (fun _ (s : (Nat → Int) × Int) => (s.2 = 0 ∨ s.2 = 1) ∧ (s.2 = 0 → s.1 = R)) hz h3 ?_
  intro t s g1 g2 g3
  unfold q_gS
  by_cases h : w (10 * f + t).toNat ≠ 1000000000 ∧ s.1 f.toNat ≠ 1000000000 ∧ s.1 f.toNat + w (10 * f + t).toNat < s.1 t.toNat
  · rw [q_if_t h]
    exact ⟨Or.inr rfl, fun q => absurd (show (1 : Int) = 0 from q) (by decide)⟩
  · rw [q_if_f h]
    exact g3
def q_ri (f : Int) (r : Nat → Int) : Nat → Int := fun j => if j < 10 then (if (j : Int) = f then 0 else 1000000000) else r j
noncomputable def q_gi (z : Int) (w : Nat → Int) (n : Int) (r : Nat → Int) : Nat → Int := q_fr (fun _ R => (q_gr z w (R, 0)).1) 0 n r
theorem q_gi_s {z n : Int} {w r : Nat → Int} (h : 0 ≤ n) : q_gi z w (n + 1) r = (q_gr z w (q_gi z w n r, 0)).1 := q_fr_s h
theorem q_gi_e {z n : Int} {w r R : Nat → Int} (h : 0 ≤ n ∧ n ≤ z) (hR : R = q_gi z w n r) (hs : (q_gr z w (R, 0)).1 = R) : R = q_gi z w z r := by
  have key : ∀ d : Nat, R = q_gi z w (n + d) r := by
    intro d
    induction d with
    | zero => rw [show n + ((0 : Nat) : Int) = n by omega]; exact hR
    | succ d ih =>
      rw [show n + ((d + 1 : Nat) : Int) = n + (d : Int) + 1 by omega, q_gi_s (by omega), ← ih]
      exact hs.symm
  have h9 := key (z - n).toNat
  rw [show n + (((z - n).toNat : Nat) : Int) = z by omega] at h9
  exact h9
def q_dX (k d : Nat → Int) : Prop := ∀ i j : Int, 0 ≤ i → i < k 0 → k 0 ≤ j → j ≤ 9 → d (10 * i + j).toNat = 1000000
theorem q_gr_rp {z : Int} {p w R : Nat → Int} (hz : 0 ≤ z) (hp : q_po z p w) (hr : q_rp z p R) : q_rp z p (q_gr z w (R, 0)).1 := by
  unfold q_gr
  refine q_fr_ind (f := q_gF z w) (fun _ (s : (Nat → Int) × Int) => q_rp z p s.1) hz hr ?_
  intro f s h1 h2 h3
  unfold q_gF
  refine q_fr_ind (f := q_gS w f) (fun _ (s : (Nat → Int) × Int) => q_rp z p s.1) hz h3 ?_
  intro t s g1 g2 g3
  unfold q_gS
  by_cases h : w (10 * f + t).toNat ≠ 1000000000 ∧ s.1 f.toNat ≠ 1000000000 ∧ s.1 f.toNat + w (10 * f + t).toNat < s.1 t.toNat
  · rw [q_if_t h]
    exact q_rp_up hp g3 ⟨h1, h2⟩ ⟨g1, g2⟩ h.1 h.2.2 rfl
  · rw [q_if_f h]
    exact g3
theorem q_dir_0 {k r d : Nat → Int} {f t : Int} (hk : q_KR k) (hN : q_nD k r d) (hD : q_dR d) (hf : 0 ≤ f ∧ f < k 0) (ht : 0 ≤ t ∧ t < k 0) : (r (10 * f + t).toNat = 1000000000 ↔ ¬ d (10 * f + t).toNat < 1000000) ∧ -1000000000 ≤ r (10 * f + t).toNat ∧ r (10 * f + t).toNat ≤ 1000000000 := by
  have h0 := hk.r0
  have h1 := hN f t hf.1 hf.2 ht.1 ht.2
  have h2 := hD (10 * f + t).toNat (by omega)
  have h3 := q_N_r h2.2
  omega
theorem q_dir_c {k r d : Nat → Int} {f t c : Int} (hk : q_KR k) (hN : q_nD k r d) (hD : q_dR d) (hf : 0 ≤ f ∧ f < k 0) (ht : 0 ≤ t ∧ t < k 0) (hc : 0 ≤ c ∧ c < k 0) (h : r (10 * f + t).toNat ≠ 1000000000) : ((c ≠ f ∧ c ≠ t ∧ r (10 * f + c).toNat ≠ 1000000000 ∧ r (10 * c + t).toNat ≠ 1000000000 ∧ r (10 * f + c).toNat + r (10 * c + t).toNat = r (10 * f + t).toNat) ↔ ¬ q_dirP d f t c) := by
  have h0 := hk.r0
  have a1 := hN f t hf.1 hf.2 ht.1 ht.2
  have a2 := q_N_r (hD (10 * f + t).toNat (by omega)).2
  have b1 := hN f c hf.1 hf.2 hc.1 hc.2
  have b2 := q_N_r (hD (10 * f + c).toNat (by omega)).2
  have c1 := hN c t hc.1 hc.2 ht.1 ht.2
  have c2 := q_N_r (hD (10 * c + t).toNat (by omega)).2
  have a3 : d (10 * f + t).toNat ≠ 1000000 := fun q => h (by rw [a1]; exact a2.1.mpr q)
  rw [a1, b1, c1, a2.2 a3]
  unfold q_dirP
  by_cases e1 : d (10 * f + c).toNat = 1000000
  · have := b2.1.mpr e1
    constructor
    · intro q; exact absurd this q.2.2.1
    · intro q; exact absurd (Or.inr (Or.inr (Or.inl e1))) q
  · by_cases e2 : d (10 * c + t).toNat = 1000000
    · have := c2.1.mpr e2
      constructor
      · intro q; exact absurd this q.2.2.2.1
      · intro q; exact absurd (Or.inr (Or.inr (Or.inr (Or.inl e2)))) q
    · rw [b2.2 e1, c2.2 e2]
      have g1 : d (10 * f + c).toNat ≠ 1000000000 := fun q => by have := b2.2 e1; rw [q] at this; exact e1 (b2.1.mp (by rw [q]; exact this))
      have g2 : d (10 * c + t).toNat ≠ 1000000000 := fun q => by have := c2.2 e2; rw [q] at this; exact e2 (c2.1.mp (by rw [q]; exact this))
      constructor
      · rintro ⟨q1, q2, -, -, q3⟩ (p | p | p | p | p)
        · exact q1 p
        · exact q2 p
        · exact e1 p
        · exact e2 p
        · exact p q3
      · intro q
        refine ⟨fun p => q (Or.inl p), fun p => q (Or.inr (Or.inl p)), g1, g2, ?_⟩
        exact Classical.not_not.mp (fun p => q (Or.inr (Or.inr (Or.inr (Or.inr p)))))
abbrev q_lfP (k lf : Nat → Int) (b : Int) : Prop := b < k 1 ∧ q_hld k b ∧ lf b.toNat = 0
def q_isl (k lf r : Nat → Int) : Prop := ∀ b : Int, 0 ≤ b → b ≤ 39 → r b.toNat = pz_bi (q_lfP k lf b)
theorem q_isl_up {P : Int → Prop} {f r : Nat → Int} {b v : Int} (hb : 0 ≤ b) (hf : ∀ j : Nat, f j = if (j : Int) < b then pz_bi (P j) else r j) (hv : v = pz_bi (P b)) : ∀ j : Nat, pz_up f b.toNat v j = if (j : Int) < b + 1 then pz_bi (P j) else r j := by
  intro j
  by_cases hn : j = b.toNat
  · rw [hn, pz_up_eq, if_pos (by omega), show ((b.toNat : Nat) : Int) = b by omega]
    exact hv
  · rw [pz_up_ne hn, hf j]
    by_cases g : (j : Int) < b
    · rw [if_pos g, if_pos (by omega)]
    · rw [if_neg g, if_neg (by omega)]
theorem q_lb_y {k lf f r : Nat → Int} {b x y w : Int} (hb : 0 ≤ b) (h : q_lfP k lf b) (hf : f = q_fr (q_bdE k lf) 0 (min b (k 1)) r) (e1 : x = k (52 + 4 * b).toNat) (e2 : y = k (52 + 4 * b + 1).toNat) (e3 : w = k (52 + 4 * b + 2).toNat) : q_eg f x y w = q_fr (q_bdE k lf) 0 (min (b + 1) (k 1)) r := by
  rw [show min (b + 1) (k 1) = b + 1 by have := h.1; omega, q_fr_s hb, hf, show min b (k 1) = b by have := h.1; omega]
  unfold q_bdE
  rw [q_if_t h.2, e1, e2, e3]
theorem q_lb_n {k lf f r : Nat → Int} {b : Int} (hb : 0 ≤ b) (h : ¬ q_lfP k lf b) (hf : f = q_fr (q_bdE k lf) 0 (min b (k 1)) r) : f = q_fr (q_bdE k lf) 0 (min (b + 1) (k 1)) r := by
  by_cases g : b < k 1
  · rw [show min (b + 1) (k 1) = b + 1 by omega, q_fr_s hb, hf, show min b (k 1) = b by omega]
    unfold q_bdE
    rw [q_if_f (fun q => h ⟨g, q⟩)]
  · rw [hf, show min (b + 1) (k 1) = min b (k 1) by omega]
/-- a square, closed: whether it is sound, what it holds -/
noncomputable def q_snd (z : Int) (w r : Nat → Int) : Prop := q_okc z (q_cI z (q_cz z (q_cp 100 w r)) (q_cp 100 w r))
noncomputable def q_cls (z : Int) (w r : Nat → Int) : Nat → Int := q_cI z (q_cz z (q_cp 100 w r)) (q_cp 100 w r)
/-- what is copied is as well held -/
theorem m_R_cp {z M : Int} {w r u : Nat → Int} (hz : z ≤ 10) (h : m_R z M w r) : m_R z M w (q_cp 100 r u) := by
  obtain ⟨h1, h2, h3, h4, h5⟩ := h
  refine ⟨?_, h2, h3, h4, ?_⟩
  · intro i j i1 i2 j1 j2
    rw [q_cp_full (by omega)]
    exact h1 i j i1 i2 j1 j2
  · intro i j i1 i2 j1 j2 c
    rw [q_cp_full (by omega)]
    exact h5 i j i1 i2 j1 j2 c
theorem m_okc_dg {z : Int} {w r : Nat → Int} (hz : z ≤ 10) (h1 : m_T z w r) (h2 : m_O z w) (h3 : ∀ n : Nat, n < 100 → w n ≤ 1000000) : q_okc z r ↔ q_dg w := by
  constructor
  · intro q i i1 i2
    rw [show (11 * i).toNat = (10 * i + i).toNat by omega]
    by_cases g : i < z
    · have a := q i i1 g
      rw [h1 i i i1 g i1 g] at a
      have b := h3 (10 * i + i).toNat (by omega)
      unfold q_N at a
      split at a <;> omega
    · rw [h2 i i i1 (by omega) i1 (by omega) (by omega), if_pos rfl]
      omega
  · intro q i i1 i2
    rw [h1 i i i1 i2 i1 i2]
    have a := q i i1 (by omega)
    rw [show (11 * i).toNat = (10 * i + i).toNat by omega] at a
    unfold q_N
    split <;> omega
theorem m_wb_le {M : Int} {w : Nat → Int} (hM : M < 1000000) (h : m_wb M w) : ∀ n : Nat, n < 100 → w n ≤ 1000000 := fun n hn => by
  have := h n hn
  omega
theorem m_okc_c {z : Int} {w r : Nat → Int} (hz : 1 ≤ z ∧ z ≤ 10) (h : m_R z 600 w r) {c : Int} (hc : 0 ≤ c ∧ c ≤ z) (hd : ∀ c' : Int, 0 ≤ c' → c' < c → q_dg (q_ps c' w)) : q_okc z (q_cI z c r) ↔ q_dg (q_ps c w) := by
  have m := m_chain hz h c.toNat (by omega) (fun c' g1 g2 => hd c' g1 (by omega))
  rw [Int.toNat_of_nonneg hc.1] at m
  have p2 := q_p2_le (a := c) (b := 10) (by omega) (by omega)
  have p3 := m_p2v
  exact m_okc_dg hz.2 (m.2.2 hc.2).1 m.1 (m_wb_le (by omega) m.2.1)
theorem m_okc_all {z : Int} {w r : Nat → Int} (hz : 1 ≤ z ∧ z ≤ 10) (h : m_R z 600 w r) {m : Int} (hm : m ≤ z) (hk : ∀ c : Int, 0 ≤ c → c ≤ m → q_okc z (q_cI z c r)) : ∀ c : Int, 0 ≤ c → c ≤ m → q_dg (q_ps c w) := by
  have key : ∀ n : Nat, (n : Int) ≤ m → q_dg (q_ps n w) := by
    intro n
    induction n using Nat.strongRecOn with
    | _ n ih =>
      intro hn
      exact (m_okc_c hz h (c := n) (by omega) (fun c' g1 g2 => by
        have := ih c'.toNat (by omega) (by omega)
        rw [Int.toNat_of_nonneg g1] at this
        exact this)).mp (hk n (by omega) hn)
  intro c h1 h2
  have := key c.toNat (by omega)
  rw [Int.toNat_of_nonneg h1] at this
  exact this
theorem m_cw {z : Int} {w W u : Nat → Int} (hz : 1 ≤ z ∧ z ≤ 10) (h0 : m_R z 600 w W) : q_cw z (q_cp 100 W u) := by
  have h := m_R_cp (u := u) hz.2 h0
  intro c c1 c2 hk
  have hd := m_okc_all hz h (m := c) (by omega) hk
  have m := m_chain hz h c.toNat (by omega) (fun c' g1 g2 => hd c' g1 (by omega))
  rw [Int.toNat_of_nonneg c1] at m
  have p2 := q_p2_le (a := c) (b := 10) (by omega) (by omega)
  have p3 := m_p2v
  obtain ⟨t1, t2⟩ := m.2.2 (by omega)
  intro n hn
  have e : n = (10 * ((n / 10 : Nat) : Int) + ((n % 10 : Nat) : Int)).toNat := by omega
  by_cases g : ((n / 10 : Nat) : Int) < z ∧ ((n % 10 : Nat) : Int) < z
  · have a := t1 ((n / 10 : Nat) : Int) ((n % 10 : Nat) : Int) (by omega) g.1 (by omega) g.2
    rw [← e] at a
    have b := m.2.1 n hn
    have v := q_N_v (x := q_ps c w n) (by omega)
    rw [a]
    exact v.2.2
  · have a := t2 ((n / 10 : Nat) : Int) ((n % 10 : Nat) : Int) (by omega) (by omega) (by omega) (by omega) (by omega)
    rw [← e] at a
    rw [a]
    omega
theorem m_cw_lay {k lf r u : Nat → Int} (h : q_KR k) : q_cw (k 0) (q_cp 100 (q_lay k lf r) u) := by
  have h0 := h.r0
  exact m_cw (by omega) (m_R_lay (lf := lf) (g := fun _ => 0) (r := r) h)
theorem q_cw_lay {k lf r u : Nat → Int} (h : q_KR k) : q_cw (k 0) (q_cp 100 (q_lay k lf r) u) := m_cw_lay h
theorem m_dg_up {z : Int} {w r : Nat → Int} (hz : 1 ≤ z ∧ z ≤ 10) (h : m_R z 600 w r) (hk : ∀ c : Int, 0 ≤ c → c ≤ z → q_dg (q_ps c w)) : ∀ d : Nat, z + d ≤ 10 → q_ps (z + d) w = q_ps z w := by
  have m := m_chain hz h z.toNat (by omega) (fun c' g1 g2 => hk c' g1 (by omega))
  rw [Int.toNat_of_nonneg (by omega)] at m
  intro d
  induction d with
  | zero => intro _; rw [show z + ((0 : Nat) : Int) = z by omega]
  | succ d ih =>
    intro hd
    have ih1 := ih (by omega)
    have hz0 := m.1 (z + d) (z + d) (by omega) (by omega) (by omega) (by omega) (by omega)
    rw [if_pos rfl] at hz0
    rw [show z + ((d + 1 : Nat) : Int) = z + (d : Int) + 1 by omega, q_ps_s (by omega), ih1, m_ph_eq (by omega) (by omega), m_sh_id ⟨by omega, by omega, by omega⟩ m.1]
theorem m_snd_ok {z : Int} {w W u : Nat → Int} (hz : 1 ≤ z ∧ z ≤ 10) (h0 : m_R z 600 w W) : q_snd z W u ↔ q_ok w := by
  have h := m_R_cp (u := u) hz.2 h0
  have hs := q_cz_ok (z := z) (r := q_cp 100 W u) (by omega)
  unfold q_snd
  constructor
  · intro q
    have e : q_cz z (q_cp 100 W u) = z := by
      rcases hs.2.2.2 with g | g
      · exact g
      · exact absurd q g
    have hk : ∀ c : Int, 0 ≤ c → c ≤ z → q_okc z (q_cI z c (q_cp 100 W u)) := by
      intro c c1 c2
      by_cases g : c = z
      · rw [g, ← e]; rw [e] at q ⊢; exact q
      · exact hs.2.2.1 c c1 (by omega)
    have hd := m_okc_all hz h (Int.le_refl z) hk
    intro c c1 c2
    by_cases g : c + 1 ≤ z
    · exact hd (c + 1) (by omega) g
    · have hu := m_dg_up hz h hd (c + 1 - z).toNat (by omega)
      rw [show z + (((c + 1 - z).toNat : Nat) : Int) = c + 1 by omega] at hu
      rw [hu]
      exact hd z (by omega) (Int.le_refl z)
  · intro q
    have hd := m_ok_all h q
    have hk : ∀ c : Int, 0 ≤ c → c ≤ z → q_okc z (q_cI z c (q_cp 100 W u)) := fun c c1 c2 => (m_okc_c hz h ⟨c1, c2⟩ (fun c' g1 g2 => hd c' g1 (by omega))).mpr (hd c c1 (by omega))
    exact hk _ hs.1 hs.2.1
