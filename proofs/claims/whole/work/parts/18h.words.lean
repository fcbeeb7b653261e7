/-! the class's reductions, as rows: V values, U upper edges -/
theorem q_fr_id {α : Type} {f : Int → α → α} {a n : Int} {x : α} (h : ∀ i y, a ≤ i → i < n → f i y = y) : q_fr f a n x = x := by
  rcases Int.lt_or_le n a with g | g
  · exact q_fr_0 (by omega)
  · exact q_fr_ind (f := f) (fun _ y => y = x) g rfl (fun i y h1 h2 h3 => by rw [h i y h1 h2, h3])
def q_ka (k : Nat → Int) : Nat → Int := fun j => k (6 + j)
theorem q_ka_e {k : Nat → Int} {e : Int} (h : 0 ≤ e) : q_ka k e.toNat = k (6 + e).toNat := by
  unfold q_ka
  rw [show 6 + e.toNat = (6 + e).toNat by omega]
def q_VU (k v V U : Nat → Int) : Prop := (∀ i j : Int, 0 ≤ i → i < k 0 → 0 ≤ j → j < k 0 → V (10 * i + j).toNat = q_N (v (100 * 0 + 10 * i + j).toNat)) ∧ ∀ s e : Int, 0 ≤ s → s < k 2 → 0 ≤ e → e < k 0 → U (10 * s + e).toNat = q_N (v (100 * (s + 1) + 10 * e + k (212 + 4 * s).toNat).toNat)
theorem q_N_v {x : Int} (h : -1000000000 ≤ x ∧ x ≤ 1000000) : (q_N x = 1000000000 ↔ x = 1000000) ∧ (x ≠ 1000000 → q_N x = x) ∧ -1000000000 ≤ q_N x ∧ q_N x ≤ 1000000000 := by
  unfold q_N
  split <;> omega
theorem q_we_ie {k : Nat → Int} {e : Int} (h : 0 ≤ k 2) : q_we k e ≠ -1 ↔ q_ie k e := by
  rcases q_we_spec (k := k) (e := e) h with ⟨g1, g2⟩ | ⟨g1, g2, g3, -⟩
  · exact ⟨fun q => absurd g1 q, fun ⟨s, h1, h2, h3⟩ => absurd h3 (g2 s h1 h2)⟩
  · exact ⟨fun _ => ⟨q_we k e, g1, g2, g3⟩, fun _ => by omega⟩
def q_rng (n : Nat) (r : Nat → Int) : Prop := ∀ j : Nat, j < n → -1000000000 ≤ r j ∧ r j ≤ 1000000000
noncomputable def q_aT (r : Nat → Int) (i c t : Int) (f : Nat → Int) : Nat → Int := q_if (r (10 * i + c).toNat ≠ 1000000000 ∧ r (10 * c + t).toNat ≠ 1000000000) (q_lw f (10 * i + t) (r (10 * i + c).toNat + r (10 * c + t).toNat)) f
noncomputable def q_aC (r : Nat → Int) (z i c : Int) (f : Nat → Int) : Nat → Int := q_fr (q_aT r i c) 0 z f
noncomputable def q_aI (r : Nat → Int) (z i : Int) (f : Nat → Int) : Nat → Int := q_fr (q_aC r z i) 0 z f
noncomputable def q_av (r : Nat → Int) (z : Int) (f : Nat → Int) : Nat → Int := q_fr (q_aI r z) 0 z f
noncomputable def q_uT (V U : Nat → Int) (s c i : Int) (f : Nat → Int) : Nat → Int := q_if (U (10 * s + c).toNat ≠ 1000000000 ∧ V (10 * i + c).toNat ≠ 1000000000) (q_lw f (10 * s + i) (V (10 * i + c).toNat + U (10 * s + c).toNat)) f
noncomputable def q_uC (V U : Nat → Int) (z s c : Int) (f : Nat → Int) : Nat → Int := q_fr (q_uT V U s c) 0 z f
noncomputable def q_uu (V U : Nat → Int) (z s : Int) (f : Nat → Int) : Nat → Int := q_fr (q_uC V U z s) 0 z f
noncomputable def q_rlE (k V : Nat → Int) (s e : Int) (f : Nat → Int) : Nat → Int := q_if (e ≠ k (212 + 4 * s + 1).toNat ∧ V (10 * k (212 + 4 * s + 1).toNat + e).toNat ≤ 0) (q_lw f (10 * k (212 + 4 * s).toNat + e) (k (212 + 4 * s + 2).toNat + V (10 * k (212 + 4 * s + 1).toNat + e).toNat)) f
noncomputable def q_rl (k V : Nat → Int) (s : Int) (f : Nat → Int) : Nat → Int := q_fr (q_rlE k V s) 0 (k 0) f
noncomputable def q_raE (k U : Nat → Int) (s o : Int) (f : Nat → Int) : Nat → Int := q_if (o ≠ s ∧ U (10 * o + k (212 + 4 * s + 1).toNat).toNat ≤ 0) (q_lw f (10 * o + k (212 + 4 * s).toNat) (k (212 + 4 * s + 2).toNat + U (10 * o + k (212 + 4 * s + 1).toNat).toNat)) f
noncomputable def q_ra (k U : Nat → Int) (s : Int) (f : Nat → Int) : Nat → Int := q_fr (q_raE k U s) 0 (k 2) f
noncomputable def q_fuE (k U : Nat → Int) (s e : Int) (f : Nat → Int) : Nat → Int := q_if (U (10 * s + e).toNat ≠ 1000000000 ∧ -(k (212 + 4 * s + 2).toNat) ≤ U (10 * s + e).toNat) (q_lw f (10 * e + k (212 + 4 * s).toNat) (U (10 * s + e).toNat)) f
noncomputable def q_fu (k U : Nat → Int) (s : Int) (f : Nat → Int) : Nat → Int := q_fr (q_fuE k U s) 0 (k 0) f
/-- one open span's part of a round: next values, next upper edges -/
noncomputable def q_osS (k V U : Nat → Int) (s : Int) (x : (Nat → Int) × (Nat → Int)) : (Nat → Int) × (Nat → Int) := q_if (q_sta k (k (212 + 4 * s + 1).toNat)) x (q_fu k U s (q_rl k V s x.1), q_ra k U s (q_uu V U (k 0) s x.2))
noncomputable def q_rn (k V U : Nat → Int) (x : (Nat → Int) × (Nat → Int)) : (Nat → Int) × (Nat → Int) := q_fr (q_osS k V U) 0 (k 2) (q_av V (k 0) x.1, x.2)
/-- whether something was lowered since f0, u0; the other fields stay -/
def q_mvP (m0 f0 u0 f u m : Nat → Int) : Prop := (m 3 = 0 ∨ m 3 = 1) ∧ (m 3 = 0 → f = f0 ∧ u = u0) ∧ (∀ n, f n ≤ f0 n ∧ u n ≤ u0 n) ∧ (m 3 = 1 → ∃ n, f n < f0 n ∨ u n < u0 n) ∧ ∀ j, j ≠ 3 → m j = m0 j
theorem q_lw_y {f : Nat → Int} {c w : Int} (h : w < f c.toNat) : q_lw f c w = pz_up f c.toNat w := q_if_t h
theorem q_lw_n {f : Nat → Int} {c w : Int} (h : ¬ w < f c.toNat) : q_lw f c w = f := q_if_f h
theorem q_lw_le {f : Nat → Int} {c w : Int} (n : Nat) : q_lw f c w n ≤ f n := by
  by_cases h : w < f c.toNat
  · rw [q_lw_y h, pz_up_at]
    split
    · rename_i g; rw [g]; omega
    · omega
  · rw [q_lw_n h]; omega
theorem q_mv_v {m0 f0 u0 f u m : Nat → Int} {c w : Int} (h : q_mvP m0 f0 u0 f u m) : q_mvP m0 f0 u0 (q_lw f c w) u (q_if (w < f c.toNat) (pz_up m 3 1) m) := by
  obtain ⟨h1, h2, h3, h4, h5⟩ := h
  by_cases g : w < f c.toNat
  · rw [q_if_t g, q_lw_y g]
    refine ⟨Or.inr pz_up_eq, fun q => by rw [pz_up_eq] at q; omega, fun n => ⟨?_, (h3 n).2⟩, fun _ => ⟨c.toNat, Or.inl ?_⟩, fun j hj => by rw [pz_up_ne hj]; exact h5 j hj⟩
    · rw [pz_up_at]
      split
      · rename_i e; have := (h3 n).1; rw [e] at *; omega
      · exact (h3 n).1
    · rw [pz_up_eq]; have := (h3 c.toNat).1; omega
  · rw [q_if_f g, q_lw_n g]
    exact ⟨h1, h2, h3, h4, h5⟩
theorem q_mv_u {m0 f0 u0 f u m : Nat → Int} {c w : Int} (h : q_mvP m0 f0 u0 f u m) : q_mvP m0 f0 u0 f (q_lw u c w) (q_if (w < u c.toNat) (pz_up m 3 1) m) := by
  obtain ⟨h1, h2, h3, h4, h5⟩ := h
  by_cases g : w < u c.toNat
  · rw [q_if_t g, q_lw_y g]
    refine ⟨Or.inr pz_up_eq, fun q => by rw [pz_up_eq] at q; omega, fun n => ⟨(h3 n).1, ?_⟩, fun _ => ⟨c.toNat, Or.inr ?_⟩, fun j hj => by rw [pz_up_ne hj]; exact h5 j hj⟩
    · rw [pz_up_at]
      split
      · rename_i e; have := (h3 n).2; rw [e] at *; omega
      · exact (h3 n).2
    · rw [pz_up_eq]; have := (h3 c.toNat).2; omega
  · rw [q_if_f g, q_lw_n g]
    exact ⟨h1, h2, h3, h4, h5⟩
/-- values and upper edges as one net -/
noncomputable def q_wzT (V : Nat → Int) (i j : Int) (f : Nat → Int) : Nat → Int := q_eg f i j (V (10 * i + j).toNat)
noncomputable def q_wzS (k U : Nat → Int) (i s : Int) (f : Nat → Int) : Nat → Int := q_eg f i (k (212 + 4 * s).toNat) (U (10 * s + i).toNat)
noncomputable def q_wzI (k V U : Nat → Int) (i : Int) (f : Nat → Int) : Nat → Int := q_fr (q_wzS k U i) 0 (k 2) (q_fr (q_wzT V i) 0 (k 0) f)
noncomputable def q_wz (k V U r : Nat → Int) : Nat → Int := q_fr (q_wzI k V U) 0 (k 0) (q_ncl (k 0) r)
/-- what is taken up ahead of the first round -/
noncomputable def q_tuS (k : Nat → Int) (s : Int) (u : Nat → Int) : Nat → Int := q_if (q_sta k (k (212 + 4 * s + 1).toNat)) u (pz_up u (10 * s + k (212 + 4 * s + 1).toNat).toNat (-(k (212 + 4 * s + 3).toNat)))
noncomputable def q_tu (k u : Nat → Int) : Nat → Int := q_fr (q_tuS k) 0 (k 2) (fun j => if j < 30 then 1000000000 else u j)
theorem q_mv_0 {m f u : Nat → Int} : q_mvP m f u f u (pz_up m 3 0) := ⟨Or.inl pz_up_eq, fun _ => ⟨rfl, rfl⟩, fun _ => ⟨Int.le_refl _, Int.le_refl _⟩, fun q => by rw [pz_up_eq] at q; omega, fun j hj => pz_up_ne hj⟩
theorem q_aT_id {r f : Nat → Int} {i c n : Int} (h : r (10 * i + c).toNat = 1000000000) : q_fr (q_aT r i c) 0 n f = f := q_fr_id (fun _ _ _ _ => q_if_f (fun q => q.1 h))
theorem q_uT_id {V U f : Nat → Int} {s c n : Int} (h : U (10 * s + c).toNat = 1000000000) : q_fr (q_uT V U s c) 0 n f = f := q_fr_id (fun _ _ _ _ => q_if_f (fun q => q.1 h))
