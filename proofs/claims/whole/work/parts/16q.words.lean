/-! waits, windows and reasons, by values v, starts a, the plan's row k -/
abbrev q_vl (v : Nat → Int) : Prop := ∀ j : Nat, j < 400 → -1000000000 ≤ v j
abbrev q_al (a : Nat → Int) : Prop := ∀ e : Int, 0 ≤ e → e ≤ 9 → -1 ≤ a e.toNat ∧ a e.toNat ≤ 600
def q_wt (v k : Nat → Int) (e s : Int) : Int := if v (100 * (s + 1) + 10 * e + k (212 + 4 * s).toNat).toNat < 0 then -(v (100 * (s + 1) + 10 * e + k (212 + 4 * s).toNat).toNat) else 0
noncomputable def q_loS (v a : Nat → Int) (e s x : Int) : Int := q_if (a s.toNat ≠ -1 ∧ v (100 * 0 + 10 * e + s).toNat < 1000000 ∧ x < a s.toNat - v (100 * 0 + 10 * e + s).toNat) (a s.toNat - v (100 * 0 + 10 * e + s).toNat) x
noncomputable def q_lo (v a k : Nat → Int) (e : Int) : Int := q_fr (q_loS v a e) 0 (k 0) 0
noncomputable def q_hiS (v a : Nat → Int) (e s x : Int) : Int := q_if (a s.toNat ≠ -1 ∧ v (100 * 0 + 10 * s + e).toNat < 1000000 ∧ a s.toNat + v (100 * 0 + 10 * s + e).toNat < x) (a s.toNat + v (100 * 0 + 10 * s + e).toNat) x
noncomputable def q_hi (v a k : Nat → Int) (e : Int) : Int := q_fr (q_hiS v a e) 0 (k 0) 9999
abbrev q_mwP (v a k : Nat → Int) (e m s : Int) : Prop := a (k (212 + 4 * s + 1).toNat).toNat = -1 ∧ 0 < q_wt v k e s ∧ (a (k (212 + 4 * s).toNat).toNat = -1 ∨ m - a (k (212 + 4 * s).toNat).toNat < q_wt v k e s)
abbrev q_bhP (v a : Nat → Int) (e o : Int) : Prop := a o.toNat = -1 ∧ v (100 * 0 + 10 * e + o).toNat < 0
def q_mw (v a k : Nat → Int) (e m : Int) : Prop := q_exi (q_mwP v a k e m) (k 2)
def q_bh (v a k : Nat → Int) (e : Int) : Prop := q_exi (q_bhP v a e) (k 0)
def q_ie (k : Nat → Int) (e : Int) : Prop := q_exi (fun s => k (212 + 4 * s + 1).toNat = e) (k 2)
noncomputable def q_rs (v a k : Nat → Int) (e m : Int) : Int := q_if (a e.toNat ≠ -1) 115 (q_if (q_ie k e) 110 (q_if (q_bh v a k e) 98 (q_if (q_mw v a k e m) 119 (q_if (m < q_lo v a k e) 101 (q_if (q_hi v a k e < m) 108 45)))))
theorem q_wt_r {v k : Nat → Int} {e s : Int} (hv : q_vl v) (h : (100 * (s + 1) + 10 * e + k (212 + 4 * s).toNat).toNat < 400) : 0 ≤ q_wt v k e s ∧ q_wt v k e s ≤ 1000000000 := by
  have h1 := hv _ h
  unfold q_wt
  split <;> omega
