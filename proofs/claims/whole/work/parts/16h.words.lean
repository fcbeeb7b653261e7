/-! labels: sets, sums of base 5 -/
noncomputable def q_seS (tr fa l : Int) (f : Nat → Int) : Nat → Int := q_if (q_obs f l) f (pz_up f (46 + l).toNat (q_if (q_up tr (l - 1)) 84 (q_if (q_up fa (l - 1)) 70 111)))
noncomputable def q_sets (tr fa : Int) (k : Nat → Int) : Nat → Int := q_fr (q_seS tr fa) 1 5 k
abbrev q_fitP (k : Nat → Int) (tr l : Int) : Prop := 1 ≤ l → (¬ q_obs k l ∨ (q_tru k l ↔ q_up tr (l - 1)))
def q_fit (k : Nat → Int) (tr : Int) : Prop := q_all (q_fitP k tr) 5
def q_cd (k : Nat → Int) (l : Int) : Int := if k (46 + l).toNat = 116 then 1 else if k (46 + l).toNat = 102 then 2 else if k (46 + l).toNat = 84 then 3 else if k (46 + l).toNat = 70 then 4 else 0
def q_pdS (k : Nat → Int) (m s : Int) : Int := 5 * s + q_cd k (4 - m)
def q_pkd (k : Nat → Int) : Int := q_fr (q_pdS k) 0 4 0
def q_dec (c : Int) : Int := if c = 1 then 116 else if c = 2 then 102 else if c = 3 then 84 else if c = 4 then 70 else 111
def q_unP (l : Int) (s : Int × (Nat → Int)) : Int × (Nat → Int) := (s.1 / 5, pz_up s.2 (46 + l).toNat (q_dec (s.1 % 5)))
def q_un (n : Int) (k : Nat → Int) : Nat → Int := (q_fr q_unP 1 5 (n, k)).2
def q_lop (k : Nat → Int) : Nat → Int := fun j => if 47 ≤ j ∧ j ≤ 50 then 111 else k j
theorem w_idivp {m nx l a b c e : Nat} {ops : List pz_Op} {lc : pz_L} {sk : List pz_V} {h : pz_H} {Q : pz_Q} {x y : Int} (hx : 0 ≤ x ∧ x ≤ 2147483647 ∧ 0 < y) (k : pz_W m nx ops lc (.inl (x / y) :: sk) h Q) : pz_W m nx ((0, .idiv, l, a, b, c, e) :: ops) lc (.inl y :: .inl x :: sk) h Q := by
  refine w_idiv (by omega) ?_
  unfold pz_div
  rw [Int.tdiv_eq_ediv_of_nonneg hx.1, pz_wr]
  · exact k
  · have h1 := Int.ediv_nonneg hx.1 (Int.le_of_lt hx.2.2)
    have h2 := Int.ediv_le_self y hx.1
    omega
theorem q_shrN : ∀ (x : Fin 16) (i : Fin 4), pz_and (pz_shr ((x.val : Nat) : Int) ((i.val : Nat) : Int)) 1 = ((x.val / 2 ^ i.val % 2 : Nat) : Int) := by decide +kernel
theorem q_KR_sets {k : Nat → Int} {tr fa : Int} (h : q_KR k) : q_KR (q_sets tr fa k) := sorry
theorem q_KR_lop {k : Nat → Int} (h : q_KR k) : q_KR (q_lop k) := sorry
theorem q_ft_dd {k lf g : Nat → Int} {e : Int} (h : q_KR k) (hc : q_con k lf) (h1 : 0 ≤ e) (h2 : e ≤ 9) : 0 ≤ q_ft (q_dd k lf g) e ∧ q_ft (q_dd k lf g) e ≤ 10000 := by
  have h3 := q_dd_r (g := g) (j := (10 * e).toNat) h hc (by omega)
  unfold q_ft
  split <;> omega
theorem q_cst_r {k : Nat → Int} {e m : Int} (h : q_KR k) (h1 : 0 ≤ e) (h2 : e ≤ 9) (h3 : 0 ≤ m ∧ m ≤ 1000000) : 0 ≤ q_cst k e m ∧ q_cst k e m ≤ 99000000 := by
  have hcs := h.cs h1 h2
  unfold q_cst
  split
  · omega
  · split
    · have h4 := q_mul_r (x := k (26 + e).toNat) (y := k (16 + e).toNat - m) (a := 99) (b := 999) hcs.2.1 (by omega)
      omega
    · have h4 := q_mul_r (x := k (36 + e).toNat) (y := m - k (16 + e).toNat) (a := 99) (b := 1000000) hcs.2.2 (by omega)
      omega
theorem q_pkd_r {k : Nat → Int} : 0 ≤ q_pkd k ∧ q_pkd k ≤ 624 := by
  have hc : ∀ l, 0 ≤ q_cd k l ∧ q_cd k l ≤ 4 := by
    intro l
    unfold q_cd
    (repeat' split) <;> omega
  unfold q_pkd
  rw [show (4 : Int) = 3 + 1 by omega, q_fr_s (by omega), show (3 : Int) = 2 + 1 by omega, q_fr_s (by omega), show (2 : Int) = 1 + 1 by omega, q_fr_s (by omega), show (1 : Int) = 0 + 1 by omega, q_fr_s (by omega), q_fr_0 (by omega)]
  unfold q_pdS
  have h1 := hc (4 - 0)
  have h2 := hc (4 - (0 + 1))
  have h3 := hc (4 - (0 + 1 + 1))
  have h4 := hc (4 - (0 + 1 + 1 + 1))
  constructor
  · sorry
  · sorry
def q_wkP (k lf : Nat → Int) (p : Int) : Prop := q_ok (q_cor k p (q_bds k lf (fun _ => 0)))
noncomputable def q_wkG (k lf : Nat → Int) (p : Int) (g : Nat → Int) : Nat → Int := q_cg (q_cor k p (q_bds k lf g))
theorem q_wk_eq {k lf g : Nat → Int} {p : Int} : q_ok (q_cor k p (q_bds k lf g)) ↔ q_wkP k lf p := sorry
theorem q_cb_weak {k lf g : Nat → Int} {p : Int} (h : q_KR k) : q_cb (q_cor k p (q_bds k lf g)) := sorry
theorem w_iincw {m nx l a b c e : Nat} {ops : List pz_Op} {lc lc' : pz_L} {sk : List pz_V} {h : pz_H} {Q : pz_Q} {i : Nat} {n : Int} {x : Int} (h1 : lc[i]? = some (some (.inl x))) (h2 : pz_np lc i = true) (h3 : lc.set i (some (.inl (pz_w (x + n)))) = lc') (k : pz_W m nx ops lc' sk h Q) : pz_W m nx ((1, .iinc i n, l, a, b, c, e) :: ops) lc sk h Q := by
  refine w_loc (ls' := lc') (st' := sk) ?_ k
  unfold pz_loc
  dsimp only [pz_ldk, pz_stk]
  rw [h1]
  dsimp only
  rw [if_pos h2, h3]
