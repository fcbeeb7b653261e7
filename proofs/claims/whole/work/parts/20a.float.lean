/-! shares and means: no NaN -/
/-- a number that is not 0 -/
def t_pos : FP.Core.Datum → Bool
  | .nan => false
  | .inf _ => false
  | .fin _ d _ => decide (d ≠ 0)
theorem t_nan32i {n : Nat} : FP.Core.decode FP.Core.b32 n = .nan ↔ (n / 8388608 % 256 = 255 ∧ n % 8388608 ≠ 0) := by
  have e1 : FP.Core.fieldE FP.Core.b32 n = n / 8388608 % 256 := rfl
  have e2 : FP.Core.fieldT FP.Core.b32 n = n % 8388608 := rfl
  have e3 : FP.Core.Fmt.exps FP.Core.b32 - 1 = 255 := rfl
  unfold FP.Core.decode
  rw [e1, e2, e3]
  by_cases h1 : n / 8388608 % 256 = 255
  · rw [if_pos h1]
    by_cases h2 : n % 8388608 = 0
    · rw [if_pos h2]
      exact ⟨fun q => (by cases q), fun q => absurd h2 q.2⟩
    · rw [if_neg h2]
      exact ⟨fun _ => ⟨h1, h2⟩, fun _ => rfl⟩
  · rw [if_neg h1]
    by_cases h2 : n / 8388608 % 256 = 0
    · rw [if_pos h2]
      exact ⟨fun q => (by cases q), fun q => absurd q.1 h1⟩
    · rw [if_neg h2]
      exact ⟨fun q => (by cases q), fun q => absurd q.1 h1⟩
/-- a number or an infinity, within the format -/
def t_ok32 : FP.Core.Datum → Prop
  | .nan => False
  | .inf _ => True
  | .fin _ c q => c < 16777216 ∧ q ≤ 104
theorem t_enc32 {d : FP.Core.Datum} (h : t_ok32 d) : FP.Core.encode FP.Core.b32 d < 4294967296 ∧ FP.Core.decode FP.Core.b32 (FP.Core.encode FP.Core.b32 d) ≠ .nan := by
  have key : ∀ n : Nat, n < 4294967296 → ¬ (n / 8388608 % 256 = 255 ∧ n % 8388608 ≠ 0) → n < 4294967296 ∧ FP.Core.decode FP.Core.b32 n ≠ .nan := fun n h1 h2 => ⟨h1, fun q => h2 (t_nan32i.mp q)⟩
  cases d with
  | nan => exact h.elim
  | inf s =>
    have e : FP.Core.encode FP.Core.b32 (.inf s) = (s.toNat * 256 + 255) * 8388608 + 0 := rfl
    rw [e]
    have s1 : s.toNat ≤ 1 := by cases s <;> decide
    exact key _ (by omega) (by omega)
  | fin s c q =>
    obtain ⟨hc, hq⟩ := h
    have e : FP.Core.encode FP.Core.b32 (.fin s c q) = if c < 8388608 then (s.toNat * 256 + 0) * 8388608 + c else (s.toNat * 256 + ((q - (-149)).toNat + 1)) * 8388608 + (c - 8388608) := rfl
    rw [e]
    have s1 : s.toNat ≤ 1 := by cases s <;> decide
    by_cases h1 : c < 8388608
    · rw [if_pos h1]
      exact key _ (by omega) (by omega)
    · rw [if_neg h1]
      exact key _ (by omega) (by omega)
theorem t_rr32 {s : Bool} {num den : Nat} {e : Int} : t_ok32 (FP.Core.roundRatio FP.Core.b32 s num den e) := by
  have b : ∀ (c : Nat) (q : Int), c < 16777216 → t_ok32 (FP.Core.bound FP.Core.b32 s c q) := by
    intro c q hc
    unfold FP.Core.bound
    have e9 : FP.Core.Fmt.qmax FP.Core.b32 = 104 := rfl
    rw [e9]
    by_cases h9 : q ≤ 104
    · rw [if_pos h9]
      exact ⟨hc, h9⟩
    · rw [if_neg h9]
      exact True.intro
  have z : ∀ (c : Nat) (q : Int), t_ok32 (FP.Core.settle FP.Core.b32 s c q) := by
    intro c q
    unfold FP.Core.settle
    have p9 : 2 ^ (FP.Core.b32).p = 16777216 := rfl
    rw [p9]
    by_cases h9 : c < 16777216
    · rw [if_pos h9]
      exact b c q h9
    · rw [if_neg h9]
      exact b _ _ (by decide)
  unfold FP.Core.roundRatio
  by_cases h0 : num = 0
  · rw [if_pos h0]
    exact ⟨by decide, by decide⟩
  · rw [if_neg h0]
    exact z _ _
theorem t_un32 {n : Nat} (h : n < 4294967296) : (UInt32.ofNat n).toNat = n := Nat.mod_eq_of_lt h
theorem t_fi32 {i : Int} : FP.Core.fromInt FP.Core.b32 i < 4294967296 ∧ FP.Core.decode FP.Core.b32 (FP.Core.fromInt FP.Core.b32 i) ≠ .nan := t_enc32 (d := FP.Core.round FP.Core.b32 (FP.Core.ofInt i)) t_rr32
theorem t_q32 {a b : FP.Core.Datum} (ha : a ≠ .nan) (hb : t_pos b = true) : t_ok32 (FP.Core.quotient FP.Core.b32 a b) := by
  cases b with
  | nan => cases hb
  | inf t => cases hb
  | fin t d r =>
    have hd : d ≠ 0 := of_decide_eq_true hb
    cases a with
    | nan => exact absurd rfl ha
    | inf s => exact True.intro
    | fin s c q =>
      show t_ok32 (if d = 0 then (if c = 0 then .nan else .inf (s != t)) else FP.Core.roundRatio FP.Core.b32 (s != t) c d (q - r))
      rw [if_neg hd]
      exact t_rr32
theorem t_fnn {v : Int32} : FP.Core.decode FP.Core.b32 (FP.i2f v).toNat ≠ .nan := by
  have e : (FP.i2f v).toNat = FP.Core.fromInt FP.Core.b32 v.toInt := t_un32 t_fi32.1
  rw [e]
  exact t_fi32.2
theorem t_den32 : ∀ y : Fin 41, y.val ≠ 0 → t_pos (FP.Core.decode FP.Core.b32 (FP.i2f (Int32.ofInt ((y.val : Nat) : Int))).toNat) = true := by decide +kernel
theorem t_nan32 {a : UInt32} (h : FP.Core.fIsNaN a = false) : a &&& 0x7fffffff ≤ 0x7f800000 := by
  have hn : FP.Core.decode FP.Core.b32 a.toNat ≠ .nan := of_decide_eq_false h
  have hb : ¬ (a.toNat / 8388608 % 256 = 255 ∧ a.toNat % 8388608 ≠ 0) := fun q => hn (t_nan32i.mpr q)
  show (a &&& 0x7fffffff).toNat ≤ (0x7f800000 : UInt32).toNat
  rw [UInt32.toNat_and]
  have e : (0x7fffffff : UInt32).toNat = 2 ^ 31 - 1 := rfl
  have e2 : (0x7f800000 : UInt32).toNat = 255 * 8388608 := rfl
  rw [e, Nat.and_two_pow_sub_one_eq_mod, e2]
  have lt := a.toNat_lt
  omega
theorem t_nan64i {n : Nat} : FP.Core.decode FP.Core.b64 n = .nan ↔ (n / 4503599627370496 % 2048 = 2047 ∧ n % 4503599627370496 ≠ 0) := by
  have e1 : FP.Core.fieldE FP.Core.b64 n = n / 4503599627370496 % 2048 := rfl
  have e2 : FP.Core.fieldT FP.Core.b64 n = n % 4503599627370496 := rfl
  have e3 : FP.Core.Fmt.exps FP.Core.b64 - 1 = 2047 := rfl
  unfold FP.Core.decode
  rw [e1, e2, e3]
  by_cases h1 : n / 4503599627370496 % 2048 = 2047
  · rw [if_pos h1]
    by_cases h2 : n % 4503599627370496 = 0
    · rw [if_pos h2]
      exact ⟨fun q => (by cases q), fun q => absurd h2 q.2⟩
    · rw [if_neg h2]
      exact ⟨fun _ => ⟨h1, h2⟩, fun _ => rfl⟩
  · rw [if_neg h1]
    by_cases h2 : n / 4503599627370496 % 2048 = 0
    · rw [if_pos h2]
      exact ⟨fun q => (by cases q), fun q => absurd q.1 h1⟩
    · rw [if_neg h2]
      exact ⟨fun q => (by cases q), fun q => absurd q.1 h1⟩
/-- a number or an infinity, within the format -/
def t_ok64 : FP.Core.Datum → Prop
  | .nan => False
  | .inf _ => True
  | .fin _ c q => c < 9007199254740992 ∧ q ≤ 971
theorem t_enc64 {d : FP.Core.Datum} (h : t_ok64 d) : FP.Core.encode FP.Core.b64 d < 18446744073709551616 ∧ FP.Core.decode FP.Core.b64 (FP.Core.encode FP.Core.b64 d) ≠ .nan := by
  have key : ∀ n : Nat, n < 18446744073709551616 → ¬ (n / 4503599627370496 % 2048 = 2047 ∧ n % 4503599627370496 ≠ 0) → n < 18446744073709551616 ∧ FP.Core.decode FP.Core.b64 n ≠ .nan := fun n h1 h2 => ⟨h1, fun q => h2 (t_nan64i.mp q)⟩
  cases d with
  | nan => exact h.elim
  | inf s =>
    have e : FP.Core.encode FP.Core.b64 (.inf s) = (s.toNat * 2048 + 2047) * 4503599627370496 + 0 := rfl
    rw [e]
    have s1 : s.toNat ≤ 1 := by cases s <;> decide
    exact key _ (by omega) (by omega)
  | fin s c q =>
    obtain ⟨hc, hq⟩ := h
    have e : FP.Core.encode FP.Core.b64 (.fin s c q) = if c < 4503599627370496 then (s.toNat * 2048 + 0) * 4503599627370496 + c else (s.toNat * 2048 + ((q - (-1074)).toNat + 1)) * 4503599627370496 + (c - 4503599627370496) := rfl
    rw [e]
    have s1 : s.toNat ≤ 1 := by cases s <;> decide
    by_cases h1 : c < 4503599627370496
    · rw [if_pos h1]
      exact key _ (by omega) (by omega)
    · rw [if_neg h1]
      exact key _ (by omega) (by omega)
theorem t_rr64 {s : Bool} {num den : Nat} {e : Int} : t_ok64 (FP.Core.roundRatio FP.Core.b64 s num den e) := by
  have b : ∀ (c : Nat) (q : Int), c < 9007199254740992 → t_ok64 (FP.Core.bound FP.Core.b64 s c q) := by
    intro c q hc
    unfold FP.Core.bound
    have e9 : FP.Core.Fmt.qmax FP.Core.b64 = 971 := rfl
    rw [e9]
    by_cases h9 : q ≤ 971
    · rw [if_pos h9]
      exact ⟨hc, h9⟩
    · rw [if_neg h9]
      exact True.intro
  have z : ∀ (c : Nat) (q : Int), t_ok64 (FP.Core.settle FP.Core.b64 s c q) := by
    intro c q
    unfold FP.Core.settle
    have p9 : 2 ^ (FP.Core.b64).p = 9007199254740992 := rfl
    rw [p9]
    by_cases h9 : c < 9007199254740992
    · rw [if_pos h9]
      exact b c q h9
    · rw [if_neg h9]
      exact b _ _ (by decide)
  unfold FP.Core.roundRatio
  by_cases h0 : num = 0
  · rw [if_pos h0]
    exact ⟨by decide, by decide⟩
  · rw [if_neg h0]
    exact z _ _
theorem t_un64 {n : Nat} (h : n < 18446744073709551616) : (UInt64.ofNat n).toNat = n := Nat.mod_eq_of_lt h
theorem t_fi64 {i : Int} : FP.Core.fromInt FP.Core.b64 i < 18446744073709551616 ∧ FP.Core.decode FP.Core.b64 (FP.Core.fromInt FP.Core.b64 i) ≠ .nan := t_enc64 (d := FP.Core.round FP.Core.b64 (FP.Core.ofInt i)) t_rr64
theorem t_q64 {a b : FP.Core.Datum} (ha : a ≠ .nan) (hb : t_pos b = true) : t_ok64 (FP.Core.quotient FP.Core.b64 a b) := by
  cases b with
  | nan => cases hb
  | inf t => cases hb
  | fin t d r =>
    have hd : d ≠ 0 := of_decide_eq_true hb
    cases a with
    | nan => exact absurd rfl ha
    | inf s => exact True.intro
    | fin s c q =>
      show t_ok64 (if d = 0 then (if c = 0 then .nan else .inf (s != t)) else FP.Core.roundRatio FP.Core.b64 (s != t) c d (q - r))
      rw [if_neg hd]
      exact t_rr64
theorem t_dnn {v : Int32} : FP.Core.decode FP.Core.b64 (FP.i2d v).toNat ≠ .nan := by
  have e : (FP.i2d v).toNat = FP.Core.fromInt FP.Core.b64 v.toInt := t_un64 t_fi64.1
  rw [e]
  exact t_fi64.2
theorem t_den64 : ∀ y : Fin 41, y.val ≠ 0 → t_pos (FP.Core.decode FP.Core.b64 (FP.i2d (Int32.ofInt ((y.val : Nat) : Int))).toNat) = true := by decide +kernel
theorem t_nan64 {a : UInt64} (h : FP.Core.dIsNaN a = false) : a &&& 0x7fffffffffffffff ≤ 0x7ff0000000000000 := by
  have hn : FP.Core.decode FP.Core.b64 a.toNat ≠ .nan := of_decide_eq_false h
  have hb : ¬ (a.toNat / 4503599627370496 % 2048 = 2047 ∧ a.toNat % 4503599627370496 ≠ 0) := fun q => hn (t_nan64i.mpr q)
  show (a &&& 0x7fffffffffffffff).toNat ≤ (0x7ff0000000000000 : UInt64).toNat
  rw [UInt64.toNat_and]
  have e : (0x7fffffffffffffff : UInt64).toNat = 2 ^ 63 - 1 := rfl
  have e2 : (0x7ff0000000000000 : UInt64).toNat = 2047 * 4503599627370496 := rfl
  rw [e, Nat.and_two_pow_sub_one_eq_mod, e2]
  have lt := a.toNat_lt
  omega
def t_sh (x y : Int) : UInt32 := FP.fdiv (FP.i2f (Int32.ofInt x)) (FP.i2f (Int32.ofInt y))
def t_me (x y : Int) : UInt64 := FP.ddiv (FP.i2d (Int32.ofInt x)) (FP.i2d (Int32.ofInt y))
theorem t_sh_n {x y : Int} (h : 1 ≤ y ∧ y ≤ 40) : FP.Core.fIsNaN (t_sh x y) = false := by
  have hb := t_den32 ⟨y.toNat, by omega⟩ (by show y.toNat ≠ 0; omega)
  simp only [Int.toNat_of_nonneg (show 0 ≤ y by omega)] at hb
  have ok := t_enc32 (t_q32 (t_fnn (v := Int32.ofInt x)) hb)
  have e : (t_sh x y).toNat = FP.Core.encode FP.Core.b32 (FP.Core.quotient FP.Core.b32 (FP.Core.decode FP.Core.b32 (FP.i2f (Int32.ofInt x)).toNat) (FP.Core.decode FP.Core.b32 (FP.i2f (Int32.ofInt y)).toNat)) := t_un32 ok.1
  show decide (FP.Core.decode FP.Core.b32 (t_sh x y).toNat = .nan) = false
  rw [e]
  exact decide_eq_false ok.2
theorem t_me_n {x y : Int} (h : 1 ≤ y ∧ y ≤ 40) : FP.Core.dIsNaN (t_me x y) = false := by
  have hb := t_den64 ⟨y.toNat, by omega⟩ (by show y.toNat ≠ 0; omega)
  simp only [Int.toNat_of_nonneg (show 0 ≤ y by omega)] at hb
  have ok := t_enc64 (t_q64 (t_dnn (v := Int32.ofInt x)) hb)
  have e : (t_me x y).toNat = FP.Core.encode FP.Core.b64 (FP.Core.quotient FP.Core.b64 (FP.Core.decode FP.Core.b64 (FP.i2d (Int32.ofInt x)).toNat) (FP.Core.decode FP.Core.b64 (FP.i2d (Int32.ofInt y)).toNat)) := t_un64 ok.1
  show decide (FP.Core.decode FP.Core.b64 (t_me x y).toNat = .nan) = false
  rw [e]
  exact decide_eq_false ok.2
theorem t_f2d_n {a : UInt32} (h : FP.Core.fIsNaN a = false) : FP.Core.dIsNaN (FP.f2d a) = false := by
  have hn : FP.Core.decode FP.Core.b32 a.toNat ≠ .nan := of_decide_eq_false h
  have e0 : FP.f2d a = FP.Core.f2d a := by
    unfold FP.f2d
    rw [if_neg (by rw [h]; exact Bool.false_ne_true)]
  have ok : t_ok64 (FP.Core.round FP.Core.b64 (FP.Core.decode FP.Core.b32 a.toNat)) := by
    cases hd : FP.Core.decode FP.Core.b32 a.toNat with
    | nan => exact absurd hd hn
    | inf s => exact True.intro
    | fin s c q => exact t_rr64
  have en := t_enc64 ok
  have e : (FP.Core.f2d a).toNat = FP.Core.encode FP.Core.b64 (FP.Core.round FP.Core.b64 (FP.Core.decode FP.Core.b32 a.toNat)) := t_un64 en.1
  show decide (FP.Core.decode FP.Core.b64 (FP.f2d a).toNat = .nan) = false
  rw [e0, e]
  exact decide_eq_false en.2
theorem t_cmp (x : Int) : compare x x = Ordering.eq := by
  show compareOfLessAndEq x x = Ordering.eq
  unfold compareOfLessAndEq
  rw [if_neg (by omega), if_pos rfl]
theorem t_dcmp {a : UInt64} {op : CmpOp} (h : FP.Core.dIsNaN a = false) : (Op.cmpValue (FP.dcmp a a) op).toInt = 0 := by
  have hn : FP.Core.decode FP.Core.b64 a.toNat ≠ .nan := of_decide_eq_false h
  have e : FP.dcmp a a = some .eq := by
    show FP.Core.order (FP.Core.decode FP.Core.b64 a.toNat) (FP.Core.decode FP.Core.b64 a.toNat) = some .eq
    cases hd : FP.Core.decode FP.Core.b64 a.toNat with
    | nan => exact absurd hd hn
    | inf s => exact congrArg some (t_cmp _)
    | fin s c q => exact congrArg some (t_cmp _)
  rw [e]
  rfl
section PZF
variable {m nx l a b c e : Nat} {ops : List pz_Op} {lc : pz_L} {sk : List pz_V} {h : pz_H} {Q : pz_Q}
theorem w_fdiv {x y : Int} (hy : 1 ≤ y ∧ y ≤ 40) (k : pz_W m nx ops lc (.inr (.inr (.inr (.inl (t_sh x y)))) :: sk) h Q) : pz_W m nx ((0, .fdiv, l, a, b, c, e) :: ops) lc (.inr (.inr (.inr (.inl (FP.i2f (Int32.ofInt y))))) :: .inr (.inr (.inr (.inl (FP.i2f (Int32.ofInt x))))) :: sk) h Q :=
  w_pure (st' := .inr (.inr (.inr (.inl (t_sh x y)))) :: sk) (if_pos (t_nan32 (t_sh_n hy))) k
theorem w_ddiv {x y : Int} (hy : 1 ≤ y ∧ y ≤ 40) (k : pz_W m nx ops lc (.inr (.inr (.inr (.inr (t_me x y)))) :: sk) h Q) : pz_W m nx ((0, .ddiv, l, a, b, c, e) :: ops) lc (.inr (.inr (.inr (.inr (FP.i2d (Int32.ofInt y))))) :: .inr (.inr (.inr (.inr (FP.i2d (Int32.ofInt x))))) :: sk) h Q :=
  w_pure (st' := .inr (.inr (.inr (.inr (t_me x y)))) :: sk) (if_pos (t_nan64 (t_me_n hy))) k
theorem w_f2d {x : UInt32} (hx : FP.Core.fIsNaN x = false) (k : pz_W m nx ops lc (.inr (.inr (.inr (.inr (FP.f2d x)))) :: sk) h Q) : pz_W m nx ((0, .f2d, l, a, b, c, e) :: ops) lc (.inr (.inr (.inr (.inl x))) :: sk) h Q :=
  w_pure (st' := .inr (.inr (.inr (.inr (FP.f2d x)))) :: sk) (if_pos (t_nan64 (t_f2d_n hx))) k
end PZF
/-- the mean of the slacks: sum and number over the events that have a distance from the start -/
noncomputable def t_smS (d : Nat → Int) (e : Int) (s : Int × Int) : Int × Int := q_if (d e.toNat ≠ 1000000) (s.1 + (d e.toNat - q_ft d e), s.2 + 1) s
noncomputable def t_sm (d : Nat → Int) (n : Int) : Int × Int := q_fr (t_smS d) 1 n (0, 0)
theorem t_sm_0 {d : Nat → Int} : ((0, 0) : Int × Int) = t_sm d 1 := (q_fr_0 (Int.le_refl 1)).symm
theorem t_sm_n {d : Nat → Int} {e s n : Int} (he : 1 ≤ e) (hs : (s, n) = t_sm d e) (h : d e.toNat = 1000000) : (s, n) = t_sm d (e + 1) := by
  have q : t_sm d (e + 1) = t_smS d e (t_sm d e) := q_fr_s he
  rw [q, ← hs]
  exact (q_if_f (fun z => z h)).symm
theorem t_sm_y {d : Nat → Int} {e s n : Int} (he : 1 ≤ e) (hs : (s, n) = t_sm d e) (h : d e.toNat ≠ 1000000) : (s + (d e.toNat - q_ft d e), n + 1) = t_sm d (e + 1) := by
  have q : t_sm d (e + 1) = t_smS d e (t_sm d e) := q_fr_s he
  rw [q, ← hs]
  exact (q_if_t h).symm
theorem t_sm_y2 {d : Nat → Int} {e s n x : Int} (he : 1 ≤ e) (hs : (s, n) = t_sm d e) (h : d e.toNat ≠ 1000000) (hx : x = d e.toNat) : (s + (x - q_ft d e), n + 1) = t_sm d (e + 1) := by
  rw [hx]
  exact t_sm_y he hs h
theorem t_ft_r {d : Nat → Int} {e : Int} : 0 ≤ q_ft d e ∧ (q_ft d e = 0 ∨ q_ft d e = -(d (10 * e).toNat)) := by
  unfold q_ft
  split <;> omega
theorem t_sm_c {d d' : Nat → Int} {n : Int} (h : m_A 100 d d') (hn : n ≤ 10) : t_sm d n = t_sm d' n := by
  unfold t_sm
  refine q_fr_congr (fun e y e1 e2 => ?_)
  unfold t_smS
  rw [h e.toNat (by omega), t_ft h (e := e) (by omega)]
section LFF
variable {S : pz_S} {iv' iv2 : Nat → Nat → Int}
theorem lf_f {x y : UInt32} {dv : Nat → Nat → UInt64} {cc ss : Nat} (hv : x = y) (hm : iv' = iv2) : (.inl (some (.inr (.inr (.inr (.inl x))))) : Option pz_V ⊕ Nat) = .inl (some (.inr (.inr (.inr (.inl y))))) ∧ ((S, iv', dv, cc, ss) : pz_H) = (S, iv2, dv, cc + pz_x (.inl (some (.inr (.inr (.inr (.inl y)))))), ss + 6 * pz_x (.inl (some (.inr (.inr (.inr (.inl y))))))) := by rw [hv, hm]; exact ⟨rfl, rfl⟩
theorem lf_d {x y : UInt64} {dv : Nat → Nat → UInt64} {cc ss : Nat} (hv : x = y) (hm : iv' = iv2) : (.inl (some (.inr (.inr (.inr (.inr x))))) : Option pz_V ⊕ Nat) = .inl (some (.inr (.inr (.inr (.inr y))))) ∧ ((S, iv', dv, cc, ss) : pz_H) = (S, iv2, dv, cc + pz_x (.inl (some (.inr (.inr (.inr (.inr y)))))), ss + 6 * pz_x (.inl (some (.inr (.inr (.inr (.inr y))))))) := by rw [hv, hm]; exact ⟨rfl, rfl⟩
end LFF
