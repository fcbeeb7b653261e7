/-! what is kept of a play; all plays; levelling -/
def q_kpl (k a : Nat → Int) (n : Int) : Nat → Int := fun j => if (j : Int) = 240 then k 0 else if 241 ≤ (j : Int) ∧ (j : Int) < 241 + n then a ((j : Int) - 241).toNat else k j
noncomputable def q_laS (a : Nat → Int) (e x : Int) : Int := q_if (x < a e.toNat) (a e.toNat) x
noncomputable def q_la (a : Nat → Int) (n : Int) : Int := q_fr (q_laS a) 0 n 0
noncomputable def q_kpI (v k : Nat → Int) (n : Int) (a : Nat → Int) : Nat → Int := q_fr (fun p a => q_pl v k p a) 0 n a
theorem q_kpI_s {v k a b : Nat → Int} {n : Int} (hn : 0 ≤ n) (hb : b = q_kpI v k n a) : q_pl v k n b = q_kpI v k (n + 1) a := by
  unfold q_kpI
  rw [q_fr_s hn, hb]
  rfl
abbrev q_ikP (v k a : Nat → Int) (p : Int) : Prop := q_fl v k p (q_kpI v k p a) = 45
noncomputable def q_lvS (k d : Nat → Int) (t x y : Int) (s : Int × Int) : Int × Int := q_if (x ≠ y ∧ pz_and (pz_shr t x) 1 ≠ 0 ∧ pz_and (pz_shr t y) 1 ≠ 0 ∧ s.1 < q_sl k d x y ∧ 0 ≤ d (10 * k (224 + 3 * x + 1).toNat + k (224 + 3 * y).toNat).toNat) (q_sl k d x y, 5 * x + y) s
noncomputable def q_lvX (k d : Nat → Int) (t x : Int) (s : Int × Int) : Int × Int := q_fr (q_lvS k d t x) 0 (k 3) s
noncomputable def q_lvF (k d : Nat → Int) (t n : Int) : Int × Int := q_fr (q_lvX k d t) 0 n (-1, -1)
noncomputable def q_lv (k d : Nat → Int) : Int := (q_lvF k d (q_st k d (q_pk k d) (k 3)) (k 3)).2
theorem q_lvS_t {k d : Nat → Int} {t x y mo be : Int} {s : Int × Int} (hy : 0 ≤ y) (hs : (mo, be) = q_fr (q_lvS k d t x) 0 y s) (h : x ≠ y ∧ pz_and (pz_shr t x) 1 ≠ 0 ∧ pz_and (pz_shr t y) 1 ≠ 0 ∧ mo < q_sl k d x y ∧ 0 ≤ d (10 * k (224 + 3 * x + 1).toNat + k (224 + 3 * y).toNat).toNat) : (q_sl k d x y, 5 * x + y) = q_fr (q_lvS k d t x) 0 (y + 1) s := by
  rw [q_fr_s hy, ← hs]
  unfold q_lvS
  rw [q_if_t h]
theorem q_lvS_f {k d : Nat → Int} {t x y mo be : Int} {s : Int × Int} (hy : 0 ≤ y) (hs : (mo, be) = q_fr (q_lvS k d t x) 0 y s) (h : ¬ (x ≠ y ∧ pz_and (pz_shr t x) 1 ≠ 0 ∧ pz_and (pz_shr t y) 1 ≠ 0 ∧ mo < q_sl k d x y ∧ 0 ≤ d (10 * k (224 + 3 * x + 1).toNat + k (224 + 3 * y).toNat).toNat)) : (mo, be) = q_fr (q_lvS k d t x) 0 (y + 1) s := by
  rw [q_fr_s hy, ← hs]
  unfold q_lvS
  rw [q_if_f h]
def q_lvT (k lf g : Nat → Int) : Prop := q_con k lf ∧ k 1 ≠ 40 ∧ q_pk k (q_dd k lf g) ≠ -1 ∧ q_lv k (q_dd k lf g) ≠ -1
noncomputable def q_lvK (k d : Nat → Int) : Nat → Int := q_tell k (k (224 + 3 * (q_lv k d % 5)).toNat) (k (224 + 3 * (q_lv k d / 5) + 1).toNat) 0 0
theorem q_lv_r {k d : Nat → Int} (hk : q_KR k) : q_lv k d = -1 ∨ (0 ≤ q_lv k d % 5 ∧ q_lv k d % 5 < k 3 ∧ 0 ≤ q_lv k d / 5 ∧ q_lv k d / 5 < k 3 ∧ 0 ≤ q_lv k d ∧ q_lv k d < 25) := by
  have h0 := hk.r0
  have key : (q_lvF k d (q_st k d (q_pk k d) (k 3)) (k 3)).2 = -1 ∨ (∃ x y : Int, 0 ≤ x ∧ x < k 3 ∧ 0 ≤ y ∧ y < k 3 ∧ (q_lvF k d (q_st k d (q_pk k d) (k 3)) (k 3)).2 = 5 * x + y) := by
    unfold q_lvF
    refine q_fr_ind (fun _ (s : Int × Int) => s.2 = -1 ∨ (∃ x y : Int, 0 ≤ x ∧ x < k 3 ∧ 0 ≤ y ∧ y < k 3 ∧ s.2 = 5 * x + y)) (by omega) (Or.inl rfl) ?_
    intro x s hx1 hx2 hs
    unfold q_lvX
    refine q_fr_ind (fun _ (s : Int × Int) => s.2 = -1 ∨ (∃ x y : Int, 0 ≤ x ∧ x < k 3 ∧ 0 ≤ y ∧ y < k 3 ∧ s.2 = 5 * x + y)) (by omega) hs ?_
    intro y s hy1 hy2 hs
    unfold q_lvS
    by_cases h : x ≠ y ∧ pz_and (pz_shr (q_st k d (q_pk k d) (k 3)) x) 1 ≠ 0 ∧ pz_and (pz_shr (q_st k d (q_pk k d) (k 3)) y) 1 ≠ 0 ∧ s.1 < q_sl k d x y ∧ 0 ≤ d (10 * k (224 + 3 * x + 1).toNat + k (224 + 3 * y).toNat).toNat
    · rw [q_if_t h]
      exact Or.inr ⟨x, y, hx1, hx2, hy1, hy2, rfl⟩
    · rw [q_if_f h]
      exact hs
  rcases key with h | ⟨x, y, h1, h2, h3, h4, h5⟩
  · exact Or.inl h
  · right
    show 0 ≤ q_lv k d % 5 ∧ _
    have h6 : q_lv k d = 5 * x + y := h5
    omega
theorem q_KR_lv {k lf g : Nat → Int} (hk : q_KR k) (h : q_lvT k lf g) : q_KR (q_lvK k (q_dd k lf g)) := sorry
/-- one order told after the other: the plan's row, the square -/
noncomputable def q_lv1 (lf : Nat → Int) (s : (Nat → Int) × (Nat → Int)) : (Nat → Int) × (Nat → Int) := q_if (q_lvT s.1 lf s.2) (q_lvK s.1 (q_dd s.1 lf s.2), q_dd s.1 lf s.2) s
noncomputable def q_lvs (lf : Nat → Int) (n : Int) (s : (Nat → Int) × (Nat → Int)) : (Nat → Int) × (Nat → Int) := q_fr (fun _ => q_lv1 lf) 0 n s
theorem q_lvs_s {lf f d : Nat → Int} {n : Int} {s : (Nat → Int) × (Nat → Int)} (hn : 0 ≤ n) (hs : (f, d) = q_lvs lf n s) (h : q_lvT f lf d) : (q_lvK f (q_dd f lf d), q_dd f lf d) = q_lvs lf (n + 1) s := by
  unfold q_lvs
  rw [q_fr_s hn]
  show _ = q_lv1 lf (q_lvs lf n s)
  rw [← hs]
  unfold q_lv1
  rw [q_if_t h]
theorem q_lvs_e {lf f d : Nat → Int} {n : Int} {s : (Nat → Int) × (Nat → Int)} (hn : 0 ≤ n ∧ n ≤ 40) (hs : (f, d) = q_lvs lf n s) (h : ¬ q_lvT f lf d) : (f, d) = q_lvs lf 40 s := by
  have key : ∀ d9 : Nat, (f, d) = q_lvs lf (n + d9) s := by
    intro d9
    induction d9 with
    | zero => rw [show n + ((0 : Nat) : Int) = n by omega]; exact hs
    | succ d9 ih =>
      unfold q_lvs
      rw [show n + ((d9 + 1 : Nat) : Int) = n + (d9 : Int) + 1 by omega, q_fr_s (by omega)]
      show _ = q_lv1 lf (q_lvs lf (n + d9) s)
      rw [← ih]
      unfold q_lv1
      rw [q_if_f h]
  have h9 := key (40 - n).toNat
  rw [show n + ((40 - n).toNat : Int) = 40 by omega] at h9
  exact h9
