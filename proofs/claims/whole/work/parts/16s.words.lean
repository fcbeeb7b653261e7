/-! a round of reductions, by the values ahead of it -/
abbrev q_vb (v : Nat → Int) : Prop := ∀ j : Nat, j < 400 → -1000000000 ≤ v j ∧ v j ≤ 1000000
noncomputable def q_spA (k a : Nat → Int) (s e : Int) (v : Nat → Int) : Nat → Int := q_if (e ≠ k (212 + 4 * s + 1).toNat ∧ a (100 * 0 + 10 * k (212 + 4 * s + 1).toNat + e).toNat ≤ 0) (q_lw v (100 * 0 + 10 * k (212 + 4 * s).toNat + e) (k (212 + 4 * s + 2).toNat + a (100 * 0 + 10 * k (212 + 4 * s + 1).toNat + e).toNat)) v
noncomputable def q_spB (k a : Nat → Int) (s e o : Int) (v : Nat → Int) : Nat → Int := q_if (o ≠ s ∧ a (100 * (o + 1) + 10 * k (212 + 4 * s + 1).toNat + e).toNat ≤ 0) (q_lw v (100 * (o + 1) + 10 * k (212 + 4 * s).toNat + e) (k (212 + 4 * s + 2).toNat + a (100 * (o + 1) + 10 * k (212 + 4 * s + 1).toNat + e).toNat)) v
noncomputable def q_spC (k a : Nat → Int) (s e : Int) (v : Nat → Int) : Nat → Int := q_if (a (100 * (s + 1) + 10 * e + k (212 + 4 * s).toNat).toNat < 1000000 ∧ -(k (212 + 4 * s + 2).toNat) ≤ a (100 * (s + 1) + 10 * e + k (212 + 4 * s).toNat).toNat) (q_lw v (100 * 0 + 10 * e + k (212 + 4 * s).toNat) (a (100 * (s + 1) + 10 * e + k (212 + 4 * s).toNat).toNat)) v
noncomputable def q_spR (k a : Nat → Int) (s e : Int) (v : Nat → Int) : Nat → Int := q_spC k a s e (q_fr (q_spB k a s e) 0 (k 2) (q_spA k a s e v))
noncomputable def q_spn (k a : Nat → Int) (s : Int) (v : Nat → Int) : Nat → Int := q_fr (q_spR k a s) 0 10 v
noncomputable def q_rdT (a : Nat → Int) (f c q t : Int) (v : Nat → Int) : Nat → Int := q_if (a (100 * q + 10 * c + t).toNat < 1000000) (q_lw v (100 * q + 10 * f + t) (a (100 * 0 + 10 * f + c).toNat + a (100 * q + 10 * c + t).toNat)) v
noncomputable def q_rdQ (a : Nat → Int) (f c q : Int) (v : Nat → Int) : Nat → Int := q_fr (q_rdT a f c q) 0 10 v
noncomputable def q_rdC (k a : Nat → Int) (f c : Int) (v : Nat → Int) : Nat → Int := q_if (a (100 * 0 + 10 * f + c).toNat = 1000000) v (q_fr (q_rdQ a f c) 0 (k 2 + 1) v)
noncomputable def q_rdF (k a : Nat → Int) (f : Int) (v : Nat → Int) : Nat → Int := q_fr (q_rdC k a f) 0 10 v
noncomputable def q_rdS (k a : Nat → Int) (s : Int) (v : Nat → Int) : Nat → Int := q_if (q_sta k (k (212 + 4 * s + 1).toNat)) v (q_spn k a s v)
noncomputable def q_rd (k a v : Nat → Int) : Nat → Int := q_fr (q_rdS k a) 0 (k 2) (q_fr (q_rdF k a) 0 10 v)
def q_c4 (v a : Nat → Int) : Nat → Int := fun j => if j < 400 then v j else a j
abbrev q_hcP (v a : Nat → Int) (i : Int) : Prop := v i.toNat ≠ a i.toNat
def q_hc (v a : Nat → Int) : Prop := q_exi (q_hcP v a) 400
noncomputable def q_irS (v : Nat → Int) (i q : Int) (f : Nat → Int) : Nat → Int := q_if (v (100 * q + i).toNat < f i.toNat) (pz_up f i.toNat (v (100 * q + i).toNat)) f
noncomputable def q_irI (k v : Nat → Int) (i : Int) (f : Nat → Int) : Nat → Int := q_fr (q_irS v i) 0 (k 2 + 1) (pz_up f i.toNat 1000000)
noncomputable def q_ir (k v f : Nat → Int) : Nat → Int := q_fr (q_irI k v) 0 100 f
