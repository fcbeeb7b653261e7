/-! the reference's square of numbers: edges, and how it is closed -/
def q_clr (g : Nat → Int) : Nat → Int := fun j => if j < 100 then (if j % 11 = 0 then 0 else 1000000) else g j
noncomputable def q_bdE (k lf : Nat → Int) (b : Int) (f : Nat → Int) : Nat → Int := q_if (q_hld k b ∧ lf b.toNat = 0) (q_eg f (k (52 + 4 * b).toNat) (k (52 + 4 * b + 1).toNat) (k (52 + 4 * b + 2).toNat)) f
noncomputable def q_stE (k : Nat → Int) (e : Int) (f : Nat → Int) : Nat → Int := q_if (q_sta k e) (q_eg (q_eg f 0 e (k (6 + e).toNat)) e 0 (-(k (6 + e).toNat))) f
noncomputable def q_spE (k : Nat → Int) (s : Int) (f : Nat → Int) : Nat → Int := q_eg (q_eg f (k (212 + 4 * s).toNat) (k (212 + 4 * s + 1).toNat) (k (212 + 4 * s + 3).toNat)) (k (212 + 4 * s + 1).toNat) (k (212 + 4 * s).toNat) (-(k (212 + 4 * s + 2).toNat))
noncomputable def q_bds (k lf g : Nat → Int) : Nat → Int := q_fr (q_stE k) 1 (k 0) (q_fr (q_bdE k lf) 0 (k 1) (q_clr g))
noncomputable def q_net (k lf g : Nat → Int) : Nat → Int := q_fr (q_spE k) 0 (k 2) (q_bds k lf g)
noncomputable def q_j (c i j : Int) (f : Nat → Int) : Nat → Int := q_if (f (10 * i + c).toNat < 1000000 ∧ f (10 * c + j).toNat < 1000000) (q_eg f i j (f (10 * i + c).toNat + f (10 * c + j).toNat)) f
noncomputable def q_i (c i : Int) (f : Nat → Int) : Nat → Int := q_fr (q_j c i) 0 10 f
noncomputable def q_ph (c : Int) (f : Nat → Int) : Nat → Int := q_fr (q_i c) 0 10 f
noncomputable def q_ps (c : Int) (f : Nat → Int) : Nat → Int := q_fr q_ph 0 c f
noncomputable def q_at (f : Nat → Int) (c i j : Int) : Nat → Int := q_fr (q_j c i) 0 j (q_fr (q_i c) 0 i (q_ps c f))
def q_dg (f : Nat → Int) : Prop := ∀ i : Int, 0 ≤ i → i < 10 → 0 ≤ f (11 * i).toNat
/-- as long as no way back is below 0, no sum grows too far below 0 -/
def q_cb (f : Nat → Int) : Prop := ∀ c i j : Int, 0 ≤ c → c ≤ 9 → (∀ c1 : Int, 0 ≤ c1 → c1 < c → q_dg (q_ps (c1 + 1) f)) → 0 ≤ i → i ≤ 9 → 0 ≤ j → j ≤ 9 → -1000000000 ≤ q_at f c i j (10 * i + c).toNat ∧ -1000000000 ≤ q_at f c i j (10 * c + j).toNat
def q_ok (f : Nat → Int) : Prop := ∀ c : Int, 0 ≤ c → c < 10 → q_dg (q_ps (c + 1) f)
theorem q_ps_s {c : Int} {f : Nat → Int} (h : 0 ≤ c) : q_ps (c + 1) f = q_ph c (q_ps c f) := q_fr_s h
theorem w_iremp {m nx l a b c e : Nat} {ops : List pz_Op} {lc : pz_L} {sk : List pz_V} {h : pz_H} {Q : pz_Q} {x y : Int} (hx : 0 ≤ x ∧ 0 < y) (k : pz_W m nx ops lc (.inl (x % y) :: sk) h Q) : pz_W m nx ((0, .irem, l, a, b, c, e) :: ops) lc (.inl y :: .inl x :: sk) h Q := w_irem (by omega) (by unfold pz_rem; rw [Int.tmod_eq_emod_of_nonneg hx.1]; exact k)
/-- what closing leaves of the square -/
noncomputable def q_cg (f : Nat → Int) : Nat → Int := q_if (q_ok f) (q_ps 10 f) (q_ps (Classical.epsilon (fun c : Int => 0 ≤ c ∧ c < 10 ∧ (∀ c1 : Int, 0 ≤ c1 → c1 < c → q_dg (q_ps (c1 + 1) f)) ∧ ¬ q_dg (q_ps (c + 1) f)) + 1) f)
theorem q_cg_t {f : Nat → Int} (h : q_ok f) : q_cg f = q_ps 10 f := q_if_t h
theorem q_first {p : Int → Prop} : ∀ n : Nat, ¬ (∀ c : Int, 0 ≤ c → c < n → p c) → ∃ c : Int, 0 ≤ c ∧ c < n ∧ (∀ c1 : Int, 0 ≤ c1 → c1 < c → p c1) ∧ ¬ p c
  | 0, h => absurd (fun c h1 h2 => by omega) h
  | n + 1, h => by
    by_cases hn : ∀ c : Int, 0 ≤ c → c < n → p c
    · refine ⟨n, by omega, by omega, fun c1 h1 h2 => hn c1 h1 h2, fun hp => h (fun c h1 h2 => ?_)⟩
      rcases Int.lt_or_le c n with h3 | h3
      · exact hn c h1 h3
      · have : c = n := by omega
        rw [this]; exact hp
    · obtain ⟨c, h1, h2, h3, h4⟩ := q_first n hn
      exact ⟨c, h1, by omega, h3, h4⟩
theorem q_cg_f {f : Nat → Int} (h : ¬ q_ok f) : ∃ c : Int, 0 ≤ c ∧ c < 10 ∧ (∀ c1 : Int, 0 ≤ c1 → c1 < c → q_dg (q_ps (c1 + 1) f)) ∧ ¬ q_dg (q_ps (c + 1) f) ∧ q_cg f = q_ps (c + 1) f := by
  have h1 := q_first (p := fun c => q_dg (q_ps (c + 1) f)) 10 h
  have h2 := Classical.epsilon_spec h1
  exact ⟨_, h2.1, h2.2.1, h2.2.2.1, h2.2.2.2, q_if_f h⟩
