/-! shares and means: no NaN -/
theorem t_nan32 {a : UInt32} (h : FP.Core.fIsNaN a = false) : a &&& 0x7fffffff ≤ 0x7f800000 := sorry
theorem t_nan64 {a : UInt64} (h : FP.Core.dIsNaN a = false) : a &&& 0x7fffffffffffffff ≤ 0x7ff0000000000000 := sorry
def t_sh (x y : Int) : UInt32 := FP.fdiv (FP.i2f (Int32.ofInt x)) (FP.i2f (Int32.ofInt y))
def t_me (x y : Int) : UInt64 := FP.ddiv (FP.i2d (Int32.ofInt x)) (FP.i2d (Int32.ofInt y))
theorem t_sh_n {x y : Int} (h : -2147483648 ≤ y ∧ y ≤ 2147483647) (h0 : y ≠ 0) : FP.Core.fIsNaN (t_sh x y) = false := sorry
theorem t_me_n {x y : Int} (h : -2147483648 ≤ y ∧ y ≤ 2147483647) (h0 : y ≠ 0) : FP.Core.dIsNaN (t_me x y) = false := sorry
theorem t_f2d_n {a : UInt32} (h : FP.Core.fIsNaN a = false) : FP.Core.dIsNaN (FP.f2d a) = false := sorry
theorem t_dcmp {a : UInt64} {op : CmpOp} (h : FP.Core.dIsNaN a = false) : (Op.cmpValue (FP.dcmp a a) op).toInt = 0 := sorry
section PZF
variable {m nx l a b c e : Nat} {ops : List pz_Op} {lc : pz_L} {sk : List pz_V} {h : pz_H} {Q : pz_Q}
theorem w_fdiv {x y : Int} (hy : (-2147483648 ≤ y ∧ y ≤ 2147483647) ∧ y ≠ 0) (k : pz_W m nx ops lc (.inr (.inr (.inr (.inl (t_sh x y)))) :: sk) h Q) : pz_W m nx ((0, .fdiv, l, a, b, c, e) :: ops) lc (.inr (.inr (.inr (.inl (FP.i2f (Int32.ofInt y))))) :: .inr (.inr (.inr (.inl (FP.i2f (Int32.ofInt x))))) :: sk) h Q :=
  w_pure (st' := .inr (.inr (.inr (.inl (t_sh x y)))) :: sk) (if_pos (t_nan32 (t_sh_n hy.1 hy.2))) k
theorem w_ddiv {x y : Int} (hy : (-2147483648 ≤ y ∧ y ≤ 2147483647) ∧ y ≠ 0) (k : pz_W m nx ops lc (.inr (.inr (.inr (.inr (t_me x y)))) :: sk) h Q) : pz_W m nx ((0, .ddiv, l, a, b, c, e) :: ops) lc (.inr (.inr (.inr (.inr (FP.i2d (Int32.ofInt y))))) :: .inr (.inr (.inr (.inr (FP.i2d (Int32.ofInt x))))) :: sk) h Q :=
  w_pure (st' := .inr (.inr (.inr (.inr (t_me x y)))) :: sk) (if_pos (t_nan64 (t_me_n hy.1 hy.2))) k
theorem w_f2d {x : UInt32} (hx : FP.Core.fIsNaN x = false) (k : pz_W m nx ops lc (.inr (.inr (.inr (.inr (FP.f2d x)))) :: sk) h Q) : pz_W m nx ((0, .f2d, l, a, b, c, e) :: ops) lc (.inr (.inr (.inr (.inl x))) :: sk) h Q :=
  w_pure (st' := .inr (.inr (.inr (.inr (FP.f2d x)))) :: sk) (if_pos (t_nan64 (t_f2d_n hx))) k
end PZF
/-- the mean of the slacks: sum and number over the events that have a distance from the start -/
noncomputable def t_smS (d : Nat → Int) (e : Int) (s : Int × Int) : Int × Int := q_if (d e.toNat ≠ 1000000) (s.1 + (d e.toNat - q_ft d e), s.2 + 1) s
noncomputable def t_sm (d : Nat → Int) (n : Int) : Int × Int := q_fr (t_smS d) 1 n (0, 0)
theorem t_sm_0 {d : Nat → Int} : ((0, 0) : Int × Int) = t_sm d 1 := (q_fr_0 (Int.le_refl 1)).symm
theorem t_sm_n {d : Nat → Int} {e s n : Int} (he : 1 ≤ e) (hs : (s, n) = t_sm d e) (h : d e.toNat = 1000000) : (s, n) = t_sm d (e + 1) := by
  have q : t_sm d (e + 1) = t_smS d e (t_sm d e) := q_fr_s he
  rw [q, ← hs]
  exact (q_if_f (fun z => z h)).symm
theorem t_sm_y {d : Nat → Int} {e s n : Int} (he : 1 ≤ e) (hs : (s, n) = t_sm d e) (h : d e.toNat ≠ 1000000) : (s + (d e.toNat - q_ft d e), n + 1) = t_sm d (e + 1) := by
  have q : t_sm d (e + 1) = t_smS d e (t_sm d e) := q_fr_s he
  rw [q, ← hs]
  exact (q_if_t h).symm
theorem t_sm_y2 {d : Nat → Int} {e s n x : Int} (he : 1 ≤ e) (hs : (s, n) = t_sm d e) (h : d e.toNat ≠ 1000000) (hx : x = d e.toNat) : (s + (x - q_ft d e), n + 1) = t_sm d (e + 1) := by
  rw [hx]
  exact t_sm_y he hs h
theorem t_ft_r {d : Nat → Int} {e : Int} : 0 ≤ q_ft d e ∧ (q_ft d e = 0 ∨ q_ft d e = -(d (10 * e).toNat)) := by
  unfold q_ft
  split <;> omega
theorem t_sm_c {d d' : Nat → Int} {n : Int} (h : m_A 100 d d') (hn : n ≤ 10) : t_sm d n = t_sm d' n := by
  unfold t_sm
  refine q_fr_congr (fun e y e1 e2 => ?_)
  unfold t_smS
  rw [h e.toNat (by omega), t_ft h (e := e) (by omega)]
section LFF
variable {S : pz_S} {iv' iv2 : Nat → Nat → Int}
theorem lf_f {x y : UInt32} {dv : Nat → Nat → UInt64} {cc ss : Nat} (hv : x = y) (hm : iv' = iv2) : (.inl (some (.inr (.inr (.inr (.inl x))))) : Option pz_V ⊕ Nat) = .inl (some (.inr (.inr (.inr (.inl y))))) ∧ ((S, iv', dv, cc, ss) : pz_H) = (S, iv2, dv, cc + pz_x (.inl (some (.inr (.inr (.inr (.inl y)))))), ss + 6 * pz_x (.inl (some (.inr (.inr (.inr (.inl y))))))) := by rw [hv, hm]; exact ⟨rfl, rfl⟩
theorem lf_d {x y : UInt64} {dv : Nat → Nat → UInt64} {cc ss : Nat} (hv : x = y) (hm : iv' = iv2) : (.inl (some (.inr (.inr (.inr (.inr x))))) : Option pz_V ⊕ Nat) = .inl (some (.inr (.inr (.inr (.inr y))))) ∧ ((S, iv', dv, cc, ss) : pz_H) = (S, iv2, dv, cc + pz_x (.inl (some (.inr (.inr (.inr (.inr y)))))), ss + 6 * pz_x (.inl (some (.inr (.inr (.inr (.inr y))))))) := by rw [hv, hm]; exact ⟨rfl, rfl⟩
end LFF
