/-! strong control -/
theorem q_rt_r {k : Nat → Int} {p : Int} {x : (Nat → Int) × (Nat → Int)} (h : q_KR k) : q_rb (q_rt k p x).1 (q_rt k p x).2 10 := sorry
noncomputable def q_sgB (k r h : Nat → Int) (b : Int) (f : Nat → Int) : Nat → Int := q_if (q_hld k b) (q_if (r (k (52 + 4 * b).toNat).toNat ≠ r (k (52 + 4 * b + 1).toNat).toNat) (q_eg f (r (k (52 + 4 * b).toNat).toNat) (r (k (52 + 4 * b + 1).toNat).toNat) (k (52 + 4 * b + 2).toNat + h (k (52 + 4 * b).toNat).toNat - h (k (52 + 4 * b + 1).toNat).toNat)) f) f
abbrev q_sgO (k r h : Nat → Int) (b : Int) : Prop := q_hld k b → (r (k (52 + 4 * b).toNat).toNat ≠ r (k (52 + 4 * b + 1).toNat).toNat ∨ 0 ≤ k (52 + 4 * b + 2).toNat + h (k (52 + 4 * b).toNat).toNat - h (k (52 + 4 * b + 1).toNat).toNat)
noncomputable def q_sgP (k : Nat → Int) (p : Int) (y : (Nat → Int) × ((Nat → Int) × (Nat → Int))) : (Nat → Int) × ((Nat → Int) × (Nat → Int)) := (q_fr (q_sgB k (q_rt k p y.2).1 (q_rt k p y.2).2) 0 (k 1) y.1, q_rt k p y.2)
noncomputable def q_sg (k : Nat → Int) (p : Int) (y : (Nat → Int) × ((Nat → Int) × (Nat → Int))) : (Nat → Int) × ((Nat → Int) × (Nat → Int)) := q_fr (q_sgP k) 0 p y
def q_sgA (k : Nat → Int) (y : (Nat → Int) × ((Nat → Int) × (Nat → Int))) (p : Int) : Prop := q_all (q_sgO k (q_rt k p (q_sg k p y).2).1 (q_rt k p (q_sg k p y).2).2) (k 1)
noncomputable def q_sgS (k : Nat → Int) (s : Int) (f : Nat → Int) : Nat → Int := q_if (q_sta k (k (212 + 4 * s + 1).toNat)) (q_eg (q_eg f (k (212 + 4 * s).toNat) (k (212 + 4 * s + 1).toNat) (k (212 + 4 * s + 3).toNat)) (k (212 + 4 * s + 1).toNat) (k (212 + 4 * s).toNat) (-(k (212 + 4 * s + 2).toNat))) f
noncomputable def q_sgF (k : Nat → Int) (y : (Nat → Int) × ((Nat → Int) × (Nat → Int))) : Nat → Int := q_fr (q_stE k) 1 (k 0) (q_fr (q_sgS k) 0 (k 2) (q_sg k (q_p2 (k 2)) y).1)
theorem q_cb_strong {k : Nat → Int} {g : Nat → Int} {x : (Nat → Int) × (Nat → Int)} (h : q_KR k) : q_cb (q_sgF k (q_clr g, x)) := sorry
theorem q_sg_s {k f r h : Nat → Int} {p : Int} {y : (Nat → Int) × ((Nat → Int) × (Nat → Int))} (hp : 0 ≤ p) (hy : (f, r, h) = q_sg k p y) : (q_fr (q_sgB k (q_rt k p (r, h)).1 (q_rt k p (r, h)).2) 0 (k 1) f, (q_rt k p (r, h)).1, (q_rt k p (r, h)).2) = q_sg k (p + 1) y := by
  unfold q_sg
  rw [q_fr_s hp]
  show _ = q_sgP k p (q_sg k p y)
  rw [← hy]
  rfl
theorem q_sgA_s {k f r h : Nat → Int} {p z b : Int} {y : (Nat → Int) × ((Nat → Int) × (Nat → Int))} (hp : 0 ≤ p) (hy : (f, r, h) = q_sg k p y) (hb : b = k 1) (hz : z = pz_bi (q_all (q_sgA k y) p ∧ q_all (q_sgO k (q_rt k p (r, h)).1 (q_rt k p (r, h)).2) b)) : z = pz_bi (q_all (q_sgA k y) (p + 1)) := by
  rw [hz]
  refine pz_bi_iff ?_
  rw [q_all_s hp, hb]
  unfold q_sgA
  rw [← hy]
theorem q_fin2 {P A : Prop} {z : Int} (hz : z = pz_bi A) (h : P) : ((0 : Int) = 0 ∧ (z : Int) = 1) ↔ (P ∧ A) := ⟨fun q => ⟨h, (q_fin hz).mp q⟩, fun q => (q_fin hz).mpr q.2⟩
theorem q_aal_k {A : Prop} {p : Int → Prop} {n z : Int} (hz : z = pz_bi (A ∧ q_all p n)) (hn : 0 ≤ n) (hp : p n) : z = pz_bi (A ∧ q_all p (n + 1)) := by
  rw [hz]
  exact pz_bi_iff ⟨fun q => ⟨q.1, (q_all_s hn).mpr ⟨q.2, hp⟩⟩, fun q => ⟨q.1, ((q_all_s hn).mp q.2).1⟩⟩
