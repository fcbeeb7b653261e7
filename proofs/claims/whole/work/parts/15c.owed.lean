/-! rows of the mathematics that are still owed -/
noncomputable def q_dd (k lf g : Nat → Int) : Nat → Int := q_cg (q_net k lf g)
def q_con (k lf : Nat → Int) : Prop := q_ok (q_net k lf (fun _ => 0))
theorem q_cb_net {k lf g : Nat → Int} (h : q_KR k) : q_cb (q_net k lf g) := sorry
theorem q_con_eq {k lf g : Nat → Int} : q_ok (q_net k lf g) ↔ q_con k lf := sorry
theorem q_KR_drop {k : Nat → Int} {b : Int} (h : q_KR k) (h1 : 0 ≤ b) (h2 : b < k 1) : q_KR (pz_up k (52 + 4 * b + 3).toNat 99) := sorry
theorem q_KR_obs {k : Nat → Int} {l v : Int} (h : q_KR k) (h1 : 1 ≤ l) (h2 : l ≤ 4) (hv : v = 111 ∨ v = 116 ∨ v = 102 ∨ v = 84 ∨ v = 70) : q_KR (pz_up k (46 + l).toNat v) := sorry
def q_addsp (k : Nat → Int) (f t l g : Int) : Nat → Int := pz_up (pz_up (pz_up (pz_up (pz_up k (212 + 4 * k 2).toNat f) (212 + 4 * k 2 + 1).toNat t) (212 + 4 * k 2 + 2).toNat l) (212 + 4 * k 2 + 3).toNat g) 2 (k 2 + 1)
def q_addac (k : Nat → Int) (f t d : Int) : Nat → Int := pz_up (pz_up (pz_up (pz_up k (224 + 3 * k 3).toNat f) (224 + 3 * k 3 + 1).toNat t) (224 + 3 * k 3 + 2).toNat d) 3 (k 3 + 1)
