/-! the law's own methods: what they want beside the calls -/
section TD
variable {sc k k1 d kf : Nat → Int} {n : Int} {iv : Nat → Nat → Int}
theorem t_I_at (hI : t_I sc k1 d n kf iv) (j : Nat) : iv 154 j = d j := congrFun hI.2.2.2.2.1 j
theorem t_I_d0 (hI : t_I sc k1 d n kf iv) (hd : t_d k d) : iv 154 (0 : Int).toNat = k 0 := (t_I_at hI 0).trans hd.1
theorem t_I_d1 (hI : t_I sc k1 d n kf iv) (hd : t_d k d) : iv 154 (1 : Int).toNat = k 1 := (t_I_at hI 1).trans hd.2.1
theorem t_I_d2 (hI : t_I sc k1 d n kf iv) (hd : t_d k d) : iv 154 (2 : Int).toNat = k 2 := (t_I_at hI 2).trans hd.2.2.1
theorem t_I_d3 (hI : t_I sc k1 d n kf iv) (hd : t_d k d) : iv 154 (3 : Int).toNat = k 3 := (t_I_at hI 3).trans hd.2.2.2.1
theorem t_I_s0 (hI : t_I sc k1 d n kf iv) (hd : t_d k d) {s : Int} (h1 : 0 ≤ s) (h2 : s < k 2) : iv 154 (170 + 4 * s).toNat = k (212 + 4 * s).toNat := (t_I_at hI _).trans (hd.2.2.2.2 s h1 h2).1
theorem t_I_s1 (hI : t_I sc k1 d n kf iv) (hd : t_d k d) {s : Int} (h1 : 0 ≤ s) (h2 : s < k 2) : iv 154 (171 + 4 * s).toNat = k (212 + 4 * s + 1).toNat := (t_I_at hI _).trans (hd.2.2.2.2 s h1 h2).2.1
theorem t_I_s2 (hI : t_I sc k1 d n kf iv) (hd : t_d k d) {s : Int} (h1 : 0 ≤ s) (h2 : s < k 2) : iv 154 (172 + 4 * s).toNat = k (212 + 4 * s + 2).toNat := (t_I_at hI _).trans (hd.2.2.2.2 s h1 h2).2.2.1
theorem t_I_s3 (hI : t_I sc k1 d n kf iv) (hd : t_d k d) {s : Int} (h1 : 0 ≤ s) (h2 : s < k 2) : iv 154 (173 + 4 * s).toNat = k (212 + 4 * s + 3).toNat := (t_I_at hI _).trans (hd.2.2.2.2 s h1 h2).2.2.2
theorem t_st_d (hI : t_I sc k1 d n kf iv) (j : Nat) (v : Int) : t_I sc k1 (pz_up d j v) n kf (pz_u1 iv 154 (pz_up (iv 154) j v)) := by
  rw [show iv 154 = d from hI.2.2.2.2.1]
  exact t_I_d hI
end TD
section TL
variable {m nx l a b c e : Nat} {ops : List pz_Op} {lc : pz_L} {sk : List pz_V} {h : pz_H} {Q : pz_Q}
theorem w_lmulw {x y : Int} (k : pz_W m nx ops lc (.inr (.inr (.inl (pz_wl (x * y)))) :: sk) h Q) : pz_W m nx ((0, .lmul, l, a, b, c, e) :: ops) lc (.inr (.inr (.inl y)) :: .inr (.inr (.inl x)) :: sk) h Q := w_pure rfl k
theorem w_laddw {x y : Int} (k : pz_W m nx ops lc (.inr (.inr (.inl (pz_wl (x + y)))) :: sk) h Q) : pz_W m nx ((0, .ladd, l, a, b, c, e) :: ops) lc (.inr (.inr (.inl y)) :: .inr (.inr (.inl x)) :: sk) h Q := w_pure rfl k
def f_sg (x : Int) : Int := if 0 < x then 1 else 0
theorem w_lcmpg {x : Int} (hx : 0 ≤ x) (k : pz_W m nx ops lc (.inl (f_sg x) :: sk) h Q) : pz_W m nx ((0, .lcmp, l, a, b, c, e) :: ops) lc (.inr (.inr (.inl 0)) :: .inr (.inr (.inl x)) :: sk) h Q :=
  w_pure (st' := .inl (f_sg x) :: sk) (by
    show some (.inl (if 0 < x then (1 : Int) else if x = 0 then 0 else -1) :: sk) = _
    unfold f_sg
    by_cases g : 0 < x
    · rw [if_pos g, if_pos g]
    · rw [if_neg g, if_neg g, if_pos (by omega)]) k
theorem w_lcmp0 {x y : Int} (e9 : x = y) (k : pz_W m nx ops lc (.inl 0 :: sk) h Q) : pz_W m nx ((0, .lcmp, l, a, b, c, e) :: ops) lc (.inr (.inr (.inl y)) :: .inr (.inr (.inl x)) :: sk) h Q :=
  w_pure (st' := .inl 0 :: sk) (by
    show some (.inl (if y < x then (1 : Int) else if x = y then 0 else -1) :: sk) = _
    rw [if_neg (by omega), if_pos e9]) k
def f_us (x : Int) : Int := ((Int32.ofInt x).toUInt32 >>> ((Int32.ofInt 1 : Int32) &&& 31).toUInt32).toInt32.toInt
theorem w_iushr1 {x : Int} (k : pz_W m nx ops lc (.inl (f_us x) :: sk) h Q) : pz_W m nx ((0, .iushr, l, a, b, c, e) :: ops) lc (.inl 1 :: .inl x :: sk) h Q := w_pure rfl k
end TL
theorem f_us_r (x : Int) : 0 ≤ f_us x ∧ f_us x ≤ 2147483647 := by
  unfold f_us
  have e : ((Int32.ofInt 1 : Int32) &&& 31).toUInt32 = 1 := by decide
  rw [e]
  generalize (Int32.ofInt x).toUInt32 = u
  have h1 : (u >>> 1).toNat < 2147483648 := by
    rw [UInt32.toNat_shiftRight]
    have := u.toNat_lt
    rw [show (1 : UInt32).toNat % 32 = 1 from rfl, Nat.shiftRight_eq_div_pow]
    omega
  have h2 : (u >>> 1).toInt32.toInt = ((u >>> 1).toNat : Int) := by
    show (BitVec.toInt (u >>> 1).toBitVec) = _
    rw [BitVec.toInt_eq_toNat_of_lt]
    · rfl
    · show 2 * (u >>> 1).toNat < 2 ^ 32
      omega
  rw [h2]
  omega
theorem f_sg_r (x : Int) : 0 ≤ f_sg x := by
  unfold f_sg
  split <;> omega
