/-! why a play fails -/
theorem q_pl_al {v k a : Nat → Int} {p : Int} (h : q_KR k) : q_al (q_pl v k p a) := sorry
abbrev q_kpP (k a : Nat → Int) (b : Int) : Prop := q_hld k b → a (k (52 + 4 * b + 1).toNat).toNat - a (k (52 + 4 * b).toNat).toNat ≤ k (52 + 4 * b + 2).toNat
noncomputable def q_fl (v k : Nat → Int) (p : Int) (a : Nat → Int) : Int := q_if (q_aa k (q_pl v k p a)) (q_if (q_all (q_kpP k (q_pl v k p a)) (k 1)) 45 98) 109
