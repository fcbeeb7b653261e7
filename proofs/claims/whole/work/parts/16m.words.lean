/-! roots, strong control; the place in a conflict -/
noncomputable def q_rtS (k : Nat → Int) (p e s : Int) (x : (Nat → Int) × (Nat → Int)) : (Nat → Int) × (Nat → Int) :=
  q_if (k (212 + 4 * s + 1).toNat = e ∧ ¬ q_sta k (k (212 + 4 * s + 1).toNat)) (pz_up x.1 e.toNat (x.1 (k (212 + 4 * s).toNat).toNat), pz_up x.2 e.toNat (x.2 (k (212 + 4 * s).toNat).toNat + q_if (q_up p s) (k (212 + 4 * s + 3).toNat) (k (212 + 4 * s + 2).toNat))) x
noncomputable def q_rtE (k : Nat → Int) (p e : Int) (x : (Nat → Int) × (Nat → Int)) : (Nat → Int) × (Nat → Int) := q_fr (q_rtS k p e) 0 (k 2) (pz_up x.1 e.toNat e, pz_up x.2 e.toNat 0)
noncomputable def q_rt (k : Nat → Int) (p : Int) (x : (Nat → Int) × (Nat → Int)) : (Nat → Int) × (Nat → Int) := q_fr (q_rtE k p) 0 10 x
abbrev q_rb (r h : Nat → Int) (e : Int) : Prop := ∀ i : Int, 0 ≤ i → i < e → (0 ≤ r i.toNat ∧ r i.toNat ≤ i) ∧ 0 ≤ h i.toNat ∧ h i.toNat ≤ 200 * i
theorem q_rtS_s {k r h : Nat → Int} {p e s n : Int} {x : (Nat → Int) × (Nat → Int)} (hs : 0 ≤ s) (hp : (r, h) = q_fr (q_rtS k p e) 0 s x) (h1 : k (212 + 4 * s + 1).toNat = e) (h2 : ¬ q_sta k (k (212 + 4 * s + 1).toNat)) (hn : n = q_if (q_up p s) (k (212 + 4 * s + 3).toNat) (k (212 + 4 * s + 2).toNat)) :
    (pz_up r e.toNat (r (k (212 + 4 * s).toNat).toNat), pz_up h e.toNat (h (k (212 + 4 * s).toNat).toNat + n)) = q_fr (q_rtS k p e) 0 (s + 1) x := by
  rw [q_fr_s hs, ← hp]
  unfold q_rtS
  rw [q_if_t (show k (212 + 4 * s + 1).toNat = e ∧ ¬ q_sta k (k (212 + 4 * s + 1).toNat) from ⟨h1, h2⟩), hn]
theorem q_rtS_n {k r h : Nat → Int} {p e s : Int} {x : (Nat → Int) × (Nat → Int)} (hs : 0 ≤ s) (hp : (r, h) = q_fr (q_rtS k p e) 0 s x) (h1 : ¬ (k (212 + 4 * s + 1).toNat = e ∧ ¬ q_sta k (k (212 + 4 * s + 1).toNat))) : (r, h) = q_fr (q_rtS k p e) 0 (s + 1) x := by
  rw [q_fr_s hs, ← hp]
  unfold q_rtS
  rw [q_if_f h1]
abbrev q_ckP (k lf : Nat → Int) (b : Int) : Prop := q_hld k b ∧ lf b.toNat = 0
noncomputable def q_ckS (k lf : Nat → Int) (i b y : Int) : Int := q_if (q_ckP k lf b ∧ q_cnt (q_ckP k lf) b = i) b y
noncomputable def q_ck (k lf : Nat → Int) (i : Int) : Int := q_fr (q_ckS k lf i) 0 (k 1) (-1)
theorem q_w0 {i c : Int} (hi : -2147483648 ≤ i ∧ i ≤ 2147483647) (hc : 0 ≤ c ∧ c ≤ 40) : pz_w (i - c) = 0 ↔ c = i := by
  constructor
  · intro h
    by_cases h1 : -2147483648 ≤ i - c
    · rw [pz_wr ⟨h1, by omega⟩] at h
      omega
    · exfalso
      have h2 : pz_w (i - c) = pz_w (i - c + 4294967296) := by
        unfold pz_w
        rw [Int32.ofInt_add]
        have h3 : Int32.ofInt 4294967296 = 0 := by decide
        rw [h3, Int32.add_zero]
      rw [h2, pz_wr ⟨by omega, by omega⟩] at h
      omega
  · intro h
    rw [h, Int.sub_self]
    decide
theorem q_w1 {i c : Int} : pz_w (pz_w (i - c) + (-1)) = pz_w (i - (c + 1)) := by
  unfold pz_w
  rw [Int32.ofInt_add, Int32.ofInt_toInt, ← Int32.ofInt_add]
  congr 2
  omega
