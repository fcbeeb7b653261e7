/-! a run over a box: ints of the script of which only bounds are known are symbols; such a run is a run of the evaluator for every script in the box -/
/-- what an int or a long stands for: from 2^70 on the ints of the script -/
def pz_dn (xs : Nat → Int32) : Int → Int
  | .ofNat n => if n < 1180591620717411303424 then .ofNat n else (xs (n - 1180591620717411303424)).toInt
  | .negSucc n => .negSucc n
def pz_dv (xs : Nat → Int32) : pz_V → pz_V
  | .inl z => .inl (pz_dn xs z)
  | .inr (.inl r) => .inr (.inl r)
  | .inr (.inr (.inl z)) => .inr (.inr (.inl (pz_dn xs z)))
  | .inr (.inr (.inr (.inl x))) => .inr (.inr (.inr (.inl x)))
  | .inr (.inr (.inr (.inr x))) => .inr (.inr (.inr (.inr x)))
/-- an int known exactly -/
def pz_xi : Int → Bool
  | .ofNat n => Nat.ble n 2147483647
  | .negSucc n => Nat.ble n 2147483647
def pz_xl : Int → Bool
  | .ofNat n => Nat.ble n 9223372036854775807
  | .negSucc n => Nat.ble n 9223372036854775807
theorem pz_xi_i {z : Int} (h : pz_xi z = true) : pz_i z := by
  cases z with
  | ofNat n =>
    have h1 := Nat.le_of_ble_eq_true h
    exact ⟨by omega, by omega⟩
  | negSucc n =>
    have h1 := Nat.le_of_ble_eq_true h
    exact ⟨by omega, by omega⟩
theorem pz_xl_j {z : Int} (h : pz_xl z = true) : pz_j z := by
  cases z with
  | ofNat n =>
    have h1 := Nat.le_of_ble_eq_true h
    exact ⟨by omega, by omega⟩
  | negSucc n =>
    have h1 := Nat.le_of_ble_eq_true h
    exact ⟨by omega, by omega⟩
theorem pz_dn_j {xs : Nat → Int32} {z : Int} (h : pz_j z) : pz_dn xs z = z := by
  cases z with
  | ofNat n =>
    have h1 := h.2
    unfold pz_dn
    rw [if_pos (by omega)]
  | negSucc n => rfl
theorem pz_dn_i {xs : Nat → Int32} {z : Int} (h : pz_i z) : pz_dn xs z = z := pz_dn_j (pz_ij h)
/-! trees of 2 to the n leaves -/
def pz_Tr (α : Type) : Nat → Type
  | 0 => α
  | n + 1 => pz_Tr α n × pz_Tr α n
def pz_tz {α : Type} (x : α) : (n : Nat) → pz_Tr α n
  | 0 => x
  | n + 1 => (pz_tz x n, pz_tz x n)
def pz_tg {α : Type} : (n : Nat) → pz_Tr α n → Nat → α
  | 0, x, _ => x
  | n + 1, t, i => match (t : pz_Tr α n × pz_Tr α n) with
    | (a, b) => cond (Nat.beq (i % 2) 0) (pz_tg n a (i / 2)) (pz_tg n b (i / 2))
def pz_ts {α : Type} : (n : Nat) → pz_Tr α n → Nat → α → pz_Tr α n
  | 0, _, _, x => x
  | n + 1, t, i, x => match (t : pz_Tr α n × pz_Tr α n) with
    | (a, b) => cond (Nat.beq (i % 2) 0) (pz_ts n a (i / 2) x, b) (a, pz_ts n b (i / 2) x)
def pz_tk {α β : Type} : (n : Nat) → pz_Tr α n → Nat → α → (pz_Tr α n → β) → β
  | 0, _, _, x, k => k x
  | n + 1, t, i, x, k => match (t : pz_Tr α n × pz_Tr α n) with
    | (a, b) => cond (Nat.beq (i % 2) 0) (pz_tk n a (i / 2) x (fun a' => k (a', b))) (pz_tk n b (i / 2) x (fun b' => k (a, b')))
theorem pz_tk_eq {α β : Type} : ∀ (n : Nat) (t : pz_Tr α n) (i : Nat) (x : α) (k : pz_Tr α n → β), pz_tk n t i x k = k (pz_ts n t i x)
  | 0, _, _, _, _ => rfl
  | n + 1, (a, b), i, x, k => by
    unfold pz_tk pz_ts
    dsimp only
    cases Nat.beq (i % 2) 0 with
    | true => exact pz_tk_eq n a (i / 2) x _
    | false => exact pz_tk_eq n b (i / 2) x _
theorem pz_tg_tz {α : Type} (x : α) : ∀ (n i : Nat), pz_tg n (pz_tz x n) i = x
  | 0, _ => rfl
  | n + 1, i => by
    show cond (Nat.beq (i % 2) 0) (pz_tg n (pz_tz x n) (i / 2)) (pz_tg n (pz_tz x n) (i / 2)) = x
    rw [pz_tg_tz x n]
    cases Nat.beq (i % 2) 0 <;> rfl
theorem pz_tg_ts {α : Type} : ∀ (n : Nat) (t : pz_Tr α n) (i : Nat) (x : α) (j : Nat), i < 2 ^ n → j < 2 ^ n → pz_tg n (pz_ts n t i x) j = if j = i then x else pz_tg n t j
  | 0, t, i, x, j, hi, hj => by
    have h1 : i = 0 := by omega
    have h2 : j = 0 := by omega
    subst h1
    subst h2
    rfl
  | n + 1, (a, b), i, x, j, hi, hj => by
    have hi2 : i / 2 < 2 ^ n := by omega
    have hj2 : j / 2 < 2 ^ n := by omega
    unfold pz_ts
    dsimp only
    have hbi : Nat.beq (i % 2) 0 = decide (i % 2 = 0) := by
      rcases Nat.mod_two_eq_zero_or_one i with h | h <;> rw [h] <;> rfl
    have hbj : Nat.beq (j % 2) 0 = decide (j % 2 = 0) := by
      rcases Nat.mod_two_eq_zero_or_one j with h | h <;> rw [h] <;> rfl
    rw [hbi]
    by_cases ci : i % 2 = 0
    · rw [decide_eq_true ci]
      show cond (Nat.beq (j % 2) 0) (pz_tg n (pz_ts n a (i / 2) x) (j / 2)) (pz_tg n b (j / 2)) = if j = i then x else cond (Nat.beq (j % 2) 0) (pz_tg n a (j / 2)) (pz_tg n b (j / 2))
      rw [hbj]
      by_cases cj : j % 2 = 0
      · rw [decide_eq_true cj]
        show pz_tg n (pz_ts n a (i / 2) x) (j / 2) = if j = i then x else pz_tg n a (j / 2)
        rw [pz_tg_ts n a (i / 2) x (j / 2) hi2 hj2]
        by_cases h : j = i
        · rw [if_pos h, if_pos (by omega)]
        · rw [if_neg h, if_neg (by omega)]
      · rw [decide_eq_false cj]
        show pz_tg n b (j / 2) = if j = i then x else pz_tg n b (j / 2)
        rw [if_neg (by omega)]
    · rw [decide_eq_false ci]
      show cond (Nat.beq (j % 2) 0) (pz_tg n a (j / 2)) (pz_tg n (pz_ts n b (i / 2) x) (j / 2)) = if j = i then x else cond (Nat.beq (j % 2) 0) (pz_tg n a (j / 2)) (pz_tg n b (j / 2))
      rw [hbj]
      by_cases cj : j % 2 = 0
      · rw [decide_eq_true cj]
        show pz_tg n a (j / 2) = if j = i then x else pz_tg n a (j / 2)
        rw [if_neg (by omega)]
      · rw [decide_eq_false cj]
        show pz_tg n (pz_ts n b (i / 2) x) (j / 2) = if j = i then x else pz_tg n b (j / 2)
        rw [pz_tg_ts n b (i / 2) x (j / 2) hi2 hj2]
        by_cases h : j = i
        · rw [if_pos h, if_pos (by omega)]
        · rw [if_neg h, if_neg (by omega)]
/-! numbers by their values -/
def pz_fn {β : Type} (n : Nat) (k : Nat → β) : β := match n with
  | 0 => k 0
  | m + 1 => k (m + 1)
theorem pz_fn_eq {β : Type} (n : Nat) (k : Nat → β) : pz_fn n k = k n := by cases n <;> rfl
def pz_fz {β : Type} (z : Int) (k : Int → β) : β := match z with
  | .ofNat n => pz_fn n (fun n => k (.ofNat n))
  | .negSucc n => pz_fn n (fun n => k (.negSucc n))
theorem pz_fz_eq {β : Type} (z : Int) (k : Int → β) : pz_fz z k = k z := by
  cases z with
  | ofNat n => exact pz_fn_eq n _
  | negSucc n => exact pz_fn_eq n _
def pz_fvl {β : Type} (v : pz_V) (k : pz_V → β) : β := match v with
  | .inl z => pz_fz z (fun z => k (.inl z))
  | .inr (.inl r) => pz_fn r (fun r => k (.inr (.inl r)))
  | .inr (.inr w) => k (.inr (.inr w))
theorem pz_fvl_eq {β : Type} (v : pz_V) (k : pz_V → β) : pz_fvl v k = k v := by
  rcases v with z | r | w
  · exact pz_fz_eq z _
  · exact pz_fn_eq r _
  · rfl
/-- known cells; kinds; lengths; references; ints and longs; doubles (rows of one); counts -/
abbrev pz_aH : Type := Nat × pz_Tr Nat 8 × pz_Tr Nat 8 × pz_Tr Nat 12 × pz_Tr Int 19 × pz_Tr UInt64 8 × Nat × Nat
abbrev pz_aO : Type := (Option pz_V ⊕ Nat) × pz_aH
def pz_dh (L : Nat) (xs : Nat → Int32) (h : pz_aH) : pz_H :=
  ((h.1, fun r => if r < 256 then pz_tg 8 h.2.1 r else 20, fun r => if r = 1 then L else if r < 256 then pz_tg 8 h.2.2.1 r else 0, fun r j => if r < 256 ∧ j < 16 then pz_tg 12 h.2.2.2.1 (r * 16 + j) else 0),
   fun r j => if r = 1 then (xs j).toInt else if r < 256 ∧ j < 2048 then pz_dn xs (pz_tg 19 h.2.2.2.2.1 (r * 2048 + j)) else 0,
   fun r j => if r < 256 ∧ j = 0 then pz_tg 8 h.2.2.2.2.2.1 r else 0, h.2.2.2.2.2.2.1, h.2.2.2.2.2.2.2)
/-- what isn't made yet is zero -/
def pz_az (h : pz_aH) : Prop := (∀ r j, h.1 + 2 ≤ r → r < 256 → (j < 16 → pz_tg 12 h.2.2.2.1 (r * 16 + j) = 0) ∧ (j < 2048 → pz_tg 19 h.2.2.2.2.1 (r * 2048 + j) = 0)) ∧ (∀ r, h.1 + 2 ≤ r → r < 256 → pz_tg 8 h.2.2.2.2.2.1 r = 0)
/-- r is a known cell of the kind c -/
def pz_ai (h : pz_aH) (r c : Nat) : Bool := Nat.ble 2 r && (Nat.blt r (h.1 + 2) && (Nat.blt r 256 && Nat.beq (pz_tg 8 h.2.1 r) c))
def pz_sq (ins : Instr) (st : List pz_V) : Option (List pz_V) := match ins, st with
  | .i2l, .inl x :: r => some (.inr (.inr (.inl x)) :: r)
  | .dup, .inl x :: r => some (.inl x :: .inl x :: r)
  | .pop, .inl _ :: r => some r
  | ins, .inl y :: r => (match pz_pure ins [] with
    | some [v] => some (v :: .inl y :: r)
    | _ => if pz_xi y = true then (match pz_pure ins [.inl y] with
      | some [v] => some (v :: r)
      | _ => none) else none)
  | _, _ => none
def pz_sp (ins : Instr) (st : List pz_V) : Option (List pz_V) := match st with
  | .inl y :: .inl x :: _ => if (pz_xi y && pz_xi x) = true then pz_pure ins st else pz_sq ins st
  | .inl y :: _ => if pz_xi y = true then pz_pure ins st else pz_sq ins st
  | .inr (.inr (.inl y)) :: .inr (.inr (.inl x)) :: r => if (pz_xl y && pz_xl x) = true then pz_pure ins st else (match ins with
    | .lcmp => if x = y then some (.inl 0 :: r) else none
    | _ => none)
  | _ => pz_pure ins st
def pz_sl (ins : Instr) (ls : pz_L) (st : List pz_V) : Option (pz_L × List pz_V) := match ins with
  | .iinc i n => (match ls[i]? with
    | some (some (.inl x)) => if (pz_xi x && pz_np ls i) = true then pz_fz (pz_w (x + n)) (fun z => some (ls.set i (some (.inl z)), st)) else none
    | _ => none)
  | ins => pz_loc ins ls st
/-- the bounds of an int -/
def pz_rg (env : Nat → Int × Int) (z : Int) : Int × Int := match z with
  | .ofNat n => cond (Nat.blt n 1180591620717411303424) (.ofNat n, .ofNat n) (env (n - 1180591620717411303424))
  | .negSucc n => (.negSucc n, .negSucc n)
def pz_sc (env : Nat → Int × Int) (c : ClassFile.Cond) (x y : Int) : Option Bool := match pz_rg env x, pz_rg env y with
  | (a, b), (d, e) => (match c with
    | .eq => if x = y then some true else if b < d ∨ e < a then some false else none
    | .ne => if x = y then some false else if b < d ∨ e < a then some true else none
    | .lt => if b < d then some true else if e ≤ a then some false else none
    | .ge => if e ≤ a then some true else if b < d then some false else none
    | .gt => if e < a then some true else if b ≤ d then some false else none
    | .le => if b ≤ d then some true else if e < a then some false else none)
def pz_sm (L : Nat) (env : Nat → Int × Int) (ins : Instr) (a b c : Nat) (st : List pz_V) (h : pz_aH) : Option (List pz_V × pz_aH) := match h with
  | (n, K, Ln, R, I, D, cs, ss) => match ins, st with
    | .getfield _, .inr (.inl r) :: st => if (pz_ai (n, K, Ln, R, I, D, cs, ss) r a && Nat.blt b 16) = true then some ((if c = 9 then .inr (.inl (pz_tg 12 R (r * 16 + b))) else .inl (pz_tg 19 I (r * 2048 + b))) :: st, (n, K, Ln, R, I, D, cs, ss)) else none
    | .putfield _, .inl x :: .inr (.inl r) :: st => if (pz_ai (n, K, Ln, R, I, D, cs, ss) r a && (Nat.blt b 16 && (Nat.beq c 0 || (Nat.beq c 1 && (decide (x = 0) || decide (x = 1)))))) = true then pz_tk 19 I (r * 2048 + b) x (fun I => some (st, (n, K, Ln, R, I, D, cs, ss))) else none
    | .putfield _, .inr (.inl q) :: .inr (.inl r) :: st => if (pz_ai (n, K, Ln, R, I, D, cs, ss) r a && (Nat.blt b 16 && (Nat.beq c 9 && (Nat.beq q 0 || (Nat.ble 2 q && Nat.blt q (n + 2)))))) = true then pz_tk 12 R (r * 16 + b) q (fun R => some (st, (n, K, Ln, R, I, D, cs, ss))) else none
    | .iaload, .inl (.ofNat i) :: .inr (.inl r) :: st => if Nat.beq r 1 = true then (if (Nat.blt i L && Nat.blt L 70000) = true then (match env i with
        | (lo, hi) => if lo = hi then some (.inl lo :: st, (n, K, Ln, R, I, D, cs, ss)) else some (.inl (.ofNat (1180591620717411303424 + i)) :: st, (n, K, Ln, R, I, D, cs, ss))) else none)
      else if (pz_ai (n, K, Ln, R, I, D, cs, ss) r 20 && (Nat.blt i (pz_tg 8 Ln r) && Nat.blt i 2048)) = true then some (.inl (pz_tg 19 I (r * 2048 + i)) :: st, (n, K, Ln, R, I, D, cs, ss)) else none
    | .baload, .inl (.ofNat i) :: .inr (.inl r) :: st => if (pz_ai (n, K, Ln, R, I, D, cs, ss) r 21 && (Nat.blt i (pz_tg 8 Ln r) && Nat.blt i 2048)) = true then some (.inl (pz_tg 19 I (r * 2048 + i)) :: st, (n, K, Ln, R, I, D, cs, ss)) else none
    | .caload, .inl (.ofNat i) :: .inr (.inl r) :: st => if (pz_ai (n, K, Ln, R, I, D, cs, ss) r 22 && (Nat.blt i (pz_tg 8 Ln r) && Nat.blt i 2048)) = true then some (.inl (pz_tg 19 I (r * 2048 + i)) :: st, (n, K, Ln, R, I, D, cs, ss)) else none
    | .laload, .inl (.ofNat i) :: .inr (.inl r) :: st => if (pz_ai (n, K, Ln, R, I, D, cs, ss) r 24 && (Nat.blt i (pz_tg 8 Ln r) && Nat.blt i 2048)) = true then some (.inr (.inr (.inl (pz_tg 19 I (r * 2048 + i)))) :: st, (n, K, Ln, R, I, D, cs, ss)) else none
    | .daload, .inl (.ofNat 0) :: .inr (.inl r) :: st => if (pz_ai (n, K, Ln, R, I, D, cs, ss) r 25 && Nat.blt 0 (pz_tg 8 Ln r)) = true then some (.inr (.inr (.inr (.inr (pz_tg 8 D r)))) :: st, (n, K, Ln, R, I, D, cs, ss)) else none
    | .aaload, .inl (.ofNat i) :: .inr (.inl r) :: st => if (pz_ai (n, K, Ln, R, I, D, cs, ss) r 23 && (Nat.blt i (pz_tg 8 Ln r) && Nat.blt i 16)) = true then some (.inr (.inl (pz_tg 12 R (r * 16 + i))) :: st, (n, K, Ln, R, I, D, cs, ss)) else none
    | .iastore, .inl x :: .inl (.ofNat i) :: .inr (.inl r) :: st => if (pz_ai (n, K, Ln, R, I, D, cs, ss) r 20 && (Nat.blt i (pz_tg 8 Ln r) && Nat.blt i 2048)) = true then pz_tk 19 I (r * 2048 + i) x (fun I => some (st, (n, K, Ln, R, I, D, cs, ss))) else none
    | .bastore, .inl x :: .inl (.ofNat i) :: .inr (.inl r) :: st => if (pz_ai (n, K, Ln, R, I, D, cs, ss) r 21 && (Nat.blt i (pz_tg 8 Ln r) && (Nat.blt i 2048 && (decide (x = 0) || decide (x = 1))))) = true then pz_tk 19 I (r * 2048 + i) x (fun I => some (st, (n, K, Ln, R, I, D, cs, ss))) else none
    | .castore, .inl (.ofNat x) :: .inl (.ofNat i) :: .inr (.inl r) :: st => if (pz_ai (n, K, Ln, R, I, D, cs, ss) r 22 && (Nat.blt i (pz_tg 8 Ln r) && (Nat.blt i 2048 && Nat.ble x 65535))) = true then pz_tk 19 I (r * 2048 + i) (.ofNat x) (fun I => some (st, (n, K, Ln, R, I, D, cs, ss))) else none
    | .lastore, .inr (.inr (.inl x)) :: .inl (.ofNat i) :: .inr (.inl r) :: st => if (pz_ai (n, K, Ln, R, I, D, cs, ss) r 24 && (Nat.blt i (pz_tg 8 Ln r) && Nat.blt i 2048)) = true then pz_tk 19 I (r * 2048 + i) x (fun I => some (st, (n, K, Ln, R, I, D, cs, ss))) else none
    | .dastore, .inr (.inr (.inr (.inr x))) :: .inl (.ofNat 0) :: .inr (.inl r) :: st => if (pz_ai (n, K, Ln, R, I, D, cs, ss) r 25 && Nat.blt 0 (pz_tg 8 Ln r)) = true then pz_tk 8 D r x (fun D => some (st, (n, K, Ln, R, I, D, cs, ss))) else none
    | .aastore, .inr (.inl q) :: .inl (.ofNat i) :: .inr (.inl r) :: st => if (pz_ai (n, K, Ln, R, I, D, cs, ss) r 23 && (Nat.blt i (pz_tg 8 Ln r) && (Nat.blt i 16 && pz_ai (n, K, Ln, R, I, D, cs, ss) q 6))) = true then pz_tk 12 R (r * 16 + i) q (fun R => some (st, (n, K, Ln, R, I, D, cs, ss))) else none
    | .arraylength, .inr (.inl r) :: st => if Nat.beq r 1 = true then if Nat.blt L 70000 = true then some (.inl (.ofNat L) :: st, (n, K, Ln, R, I, D, cs, ss)) else none else if (Nat.ble 2 r && (Nat.blt r (n + 2) && (Nat.blt r 256 && (Nat.ble 20 (pz_tg 8 K r) && (Nat.ble (pz_tg 8 K r) 25 && Nat.ble (pz_tg 8 Ln r) 2048))))) = true then some (.inl (.ofNat (pz_tg 8 Ln r)) :: st, (n, K, Ln, R, I, D, cs, ss)) else none
    | .new _, st => if Nat.blt (n + 2) 256 = true then pz_tk 8 K (n + 2) a (fun K => pz_fn n (fun n => pz_tk 8 Ln (n + 2) 0 (fun Ln => some (.inr (.inl (n + 2)) :: st, (n + 1, K, Ln, R, I, D, cs + 1, ss + b))))) else none
    | .newarray _, .inl (.ofNat m) :: st => if (Nat.blt (n + 2) 256 && Nat.ble m 2048) = true then pz_tk 8 K (n + 2) a (fun K => pz_fn n (fun n => pz_tk 8 Ln (n + 2) m (fun Ln => some (.inr (.inl (n + 2)) :: st, (n + 1, K, Ln, R, I, D, cs + 1, ss + m))))) else none
    | .anewarray _, .inl (.ofNat m) :: st => if (Nat.blt (n + 2) 256 && Nat.ble m 2048) = true then pz_tk 8 K (n + 2) 23 (fun K => pz_fn n (fun n => pz_tk 8 Ln (n + 2) m (fun Ln => some (.inr (.inl (n + 2)) :: st, (n + 1, K, Ln, R, I, D, cs + 1, ss + m))))) else none
    | _, _ => none
def pz_sx (L : Nat) (env : Nat → Int × Int) (C : Nat → List pz_V → pz_aH → Option pz_aO) (J : Nat → pz_L → List pz_V → pz_aH → Option pz_aO) (hh : List (Nat × Nat)) (nx : Nat) : List pz_Op → pz_L → List pz_V → pz_aH → Option pz_aO
  | [], ls, st, h => J nx ls st h
  | (g, ins, _, a, b, c, _) :: ops, ls, st, h => match g with
    | 0 => (match pz_sp ins st with
      | some (v :: st') => pz_fvl v (fun v => pz_sx L env C J hh nx ops ls (v :: st') h)
      | some [] => pz_sx L env C J hh nx ops ls [] h
      | none => none)
    | 1 => (match pz_sl ins ls st with
      | some (ls', st') => pz_sx L env C J hh nx ops ls' st' h
      | none => none)
    | 2 => (match pz_sm L env ins a b c st h with
      | some (st', h') => pz_sx L env C J hh nx ops ls st' h'
      | none => none)
    | 3 => if Nat.ble a 2147483647 = true then pz_sx L env C J hh nx ops ls (.inl (.ofNat a) :: st) h else none
    | 4 => if b ≤ st.length ∧ (st.drop b).length ≤ 4 ∧ (st.take b).all (fun v => pz_cat v == 1) = true ∧ (c = 99 ∨ (match (st.take b).reverse with | .inr (.inl r) :: _ => pz_ai h r c | _ => false) = true) then
        (match C a (st.take b).reverse h with
        | some (.inl none, h') => pz_sx L env C J hh nx ops ls (st.drop b) h'
        | some (.inl (some v), h') => pz_sx L env C J hh nx ops ls (v :: st.drop b) h'
        | some (.inr E, h') => (match pz_lk hh E with
          | some k => some (.inl (some (.inl (.ofNat k))), h')
          | none => some (.inr E, h'))
        | none => none)
      else none
    | 5 => none
    | 6 => (match st with
      | .inr (.inl r) :: st' => if 2 ≤ r ∧ st'.length ≤ 4 then pz_sx L env C J hh nx ops ls st' h else none
      | _ => none)
    | 7 => if st.length ≤ 4 then some (.inr a, (h.1, h.2.1, h.2.2.1, h.2.2.2.1, h.2.2.2.2.1, h.2.2.2.2.2.1, h.2.2.2.2.2.2.1 + 1, h.2.2.2.2.2.2.2 + 6)) else none
    | 8 => J a ls st h
    | 9 => (match ins, st with
      | .ifCond cd _, .inl x :: st' => (match pz_sc env cd x 0 with
        | some true => J a ls st' h
        | some false => pz_sx L env C J hh nx ops ls st' h
        | none => none)
      | .if_icmp cd _, .inl y :: .inl x :: st' => (match pz_sc env cd x y with
        | some true => J a ls st' h
        | some false => pz_sx L env C J hh nx ops ls st' h
        | none => none)
      | .ifnull _, .inr (.inl r) :: st' => if r = 0 then J a ls st' h else pz_sx L env C J hh nx ops ls st' h
      | _, _ => none)
    | 10 => (match st with
      | [v] => if pz_rok a v = true then some (.inl (some v), h) else none
      | _ => none)
    | 11 => (match st with
      | [] => some (.inl none, h)
      | _ => none)
    | 12 => (match ins, st with
      | .tableswitch d lo hi offs, .inl x :: st' => if pz_xi x = true then (if x < lo ∨ hi < x then J ((a : Int) + d).toNat ls st' h else (match offs[(x - lo).toNat]? with
        | some o => J ((a : Int) + o).toNat ls st' h
        | none => none)) else none
      | _, _ => none)
    | _ => none
def pz_srun (L : Nat) (env : Nat → Int × Int) : Nat → Nat → Nat → pz_L → List pz_V → pz_aH → Option pz_aO
  | 0, _, _, _, _, _ => none
  | n + 1, m, pc, ls, st, h => match pz_blk m pc with
    | (ops, nx) => pz_sx L env (fun m' as h' => pz_srun L env n m' 0 (pz_en m' as) [] h') (fun pc' ls' st' h' => pz_srun L env n m pc' ls' st' h') (pz_hc m) nx ops ls st h
/-! such a run is a run -/
section PZB
variable {L : Nat} {xs : Nat → Int32} {env : Nat → Int × Int}
theorem pz_ai_is {h : pz_aH} {r c : Nat} (q : pz_ai h r c = true) : pz_is (pz_dh L xs h).1 r c = true ∧ 2 ≤ r ∧ r < h.1 + 2 ∧ r < 256 ∧ pz_tg 8 h.2.1 r = c := by
  simp only [pz_ai, Bool.and_eq_true, Nat.ble_eq, Nat.blt_eq, Nat.beq_eq] at q
  obtain ⟨q1, q2, q3, q4⟩ := q
  refine ⟨?_, q1, q2, q3, q4⟩
  unfold pz_is pz_dh
  dsimp only
  rw [if_pos q3, q4, decide_eq_true q1, decide_eq_true q2, decide_eq_true rfl]
  rfl
theorem pz_dh_iv {h : pz_aH} {r j : Nat} (h1 : 2 ≤ r) (h2 : r < 256) (h3 : j < 2048) : (pz_dh L xs h).2.1 r j = pz_dn xs (pz_tg 19 h.2.2.2.2.1 (r * 2048 + j)) := by
  unfold pz_dh
  dsimp only
  rw [if_neg (by omega), if_pos ⟨h2, h3⟩]
theorem pz_dh_rf {h : pz_aH} {r j : Nat} (h2 : r < 256) (h3 : j < 16) : (pz_dh L xs h).1.2.2.2 r j = pz_tg 12 h.2.2.2.1 (r * 16 + j) := by
  unfold pz_dh
  dsimp only
  rw [if_pos ⟨h2, h3⟩]
theorem pz_dh_ln {h : pz_aH} {r : Nat} (h1 : 2 ≤ r) (h2 : r < 256) : (pz_dh L xs h).1.2.2.1 r = pz_tg 8 h.2.2.1 r := by
  unfold pz_dh
  dsimp only
  rw [if_neg (by omega), if_pos h2]
theorem pz_dh_kd {h : pz_aH} {r : Nat} (h2 : r < 256) : (pz_dh L xs h).1.2.1 r = pz_tg 8 h.2.1 r := by
  unfold pz_dh
  dsimp only
  rw [if_pos h2]
theorem pz_dh_I {n cs ss : Nat} {K Ln : pz_Tr Nat 8} {R : pz_Tr Nat 12} {I : pz_Tr Int 19} {D : pz_Tr UInt64 8} {r i : Nat} {x : Int} (h1 : 2 ≤ r) (h2 : r < 256) (h3 : i < 2048) :
    pz_dh L xs (n, K, Ln, R, pz_ts 19 I (r * 2048 + i) x, D, cs, ss) = ((pz_dh L xs (n, K, Ln, R, I, D, cs, ss)).1, pz_u2 (pz_dh L xs (n, K, Ln, R, I, D, cs, ss)).2.1 r i (pz_dn xs x), (pz_dh L xs (n, K, Ln, R, I, D, cs, ss)).2.2) := by
  have e : (fun r' j => if r' = 1 then (xs j).toInt else if r' < 256 ∧ j < 2048 then pz_dn xs (pz_tg 19 (pz_ts 19 I (r * 2048 + i) x) (r' * 2048 + j)) else 0) =
      pz_u2 (fun r' j => if r' = 1 then (xs j).toInt else if r' < 256 ∧ j < 2048 then pz_dn xs (pz_tg 19 I (r' * 2048 + j)) else 0) r i (pz_dn xs x) := by
    funext r' j
    rw [pz_u2_at]
    by_cases c1 : r' = 1
    · have c3 : ¬ (r' = r ∧ j = i) := by omega
      rw [if_pos c1, if_neg c3, if_pos c1]
    · rw [if_neg c1, if_neg c1]
      by_cases c2 : r' < 256 ∧ j < 2048
      · rw [if_pos c2, if_pos c2, pz_tg_ts 19 I _ x _ (by show r * 2048 + i < 524288; omega) (by show r' * 2048 + j < 524288; omega)]
        by_cases c3 : r' = r ∧ j = i
        · rw [if_pos c3, if_pos (by rw [c3.1, c3.2])]
        · rw [if_neg c3, if_neg (by omega)]
      · have c3 : ¬ (r' = r ∧ j = i) := by omega
        rw [if_neg c2, if_neg c2, if_neg c3]
  unfold pz_dh
  dsimp only
  rw [e]
theorem pz_dh_R {n cs ss : Nat} {K Ln : pz_Tr Nat 8} {R : pz_Tr Nat 12} {I : pz_Tr Int 19} {D : pz_Tr UInt64 8} {r i x : Nat} (h2 : r < 256) (h3 : i < 16) :
    pz_dh L xs (n, K, Ln, pz_ts 12 R (r * 16 + i) x, I, D, cs, ss) = (((pz_dh L xs (n, K, Ln, R, I, D, cs, ss)).1.1, (pz_dh L xs (n, K, Ln, R, I, D, cs, ss)).1.2.1, (pz_dh L xs (n, K, Ln, R, I, D, cs, ss)).1.2.2.1, pz_u2 (pz_dh L xs (n, K, Ln, R, I, D, cs, ss)).1.2.2.2 r i x), (pz_dh L xs (n, K, Ln, R, I, D, cs, ss)).2) := by
  have e : (fun r' j => if r' < 256 ∧ j < 16 then pz_tg 12 (pz_ts 12 R (r * 16 + i) x) (r' * 16 + j) else 0) =
      pz_u2 (fun r' j => if r' < 256 ∧ j < 16 then pz_tg 12 R (r' * 16 + j) else 0) r i x := by
    funext r' j
    rw [pz_u2_at]
    by_cases c2 : r' < 256 ∧ j < 16
    · rw [if_pos c2, if_pos c2, pz_tg_ts 12 R _ x _ (by show r * 16 + i < 4096; omega) (by show r' * 16 + j < 4096; omega)]
      by_cases c3 : r' = r ∧ j = i
      · rw [if_pos c3, if_pos (by rw [c3.1, c3.2])]
      · rw [if_neg c3, if_neg (by omega)]
    · have c3 : ¬ (r' = r ∧ j = i) := by omega
      rw [if_neg c2, if_neg c2, if_neg c3]
  unfold pz_dh
  dsimp only
  rw [e]
theorem pz_dh_D {n cs ss : Nat} {K Ln : pz_Tr Nat 8} {R : pz_Tr Nat 12} {I : pz_Tr Int 19} {D : pz_Tr UInt64 8} {r : Nat} {x : UInt64} (h2 : r < 256) :
    pz_dh L xs (n, K, Ln, R, I, pz_ts 8 D r x, cs, ss) = ((pz_dh L xs (n, K, Ln, R, I, D, cs, ss)).1, (pz_dh L xs (n, K, Ln, R, I, D, cs, ss)).2.1, pz_u2 (pz_dh L xs (n, K, Ln, R, I, D, cs, ss)).2.2.1 r 0 x, (pz_dh L xs (n, K, Ln, R, I, D, cs, ss)).2.2.2) := by
  have e : (fun r' j => if r' < 256 ∧ j = 0 then pz_tg 8 (pz_ts 8 D r x) r' else 0) = pz_u2 (fun r' j => if r' < 256 ∧ j = 0 then pz_tg 8 D r' else 0) r 0 x := by
    funext r' j
    rw [pz_u2_at]
    by_cases c2 : r' < 256 ∧ j = 0
    · rw [if_pos c2, if_pos c2, pz_tg_ts 8 D _ x _ h2 c2.1]
      by_cases c3 : r' = r ∧ j = 0
      · rw [if_pos c3, if_pos c3.1]
      · rw [if_neg c3, if_neg (fun q => c3 ⟨q, c2.2⟩)]
    · have c3 : ¬ (r' = r ∧ j = 0) := by omega
      rw [if_neg c2, if_neg c2, if_neg c3]
  unfold pz_dh
  dsimp only
  rw [e]
theorem pz_dh_new {n cs ss a m b : Nat} {K Ln : pz_Tr Nat 8} {R : pz_Tr Nat 12} {I : pz_Tr Int 19} {D : pz_Tr UInt64 8} (hn : n + 2 < 256) (hz : pz_az (n, K, Ln, R, I, D, cs, ss)) :
    pz_dh L xs (n + 1, pz_ts 8 K (n + 2) a, pz_ts 8 Ln (n + 2) m, R, I, D, cs + 1, ss + b) = pz_new (pz_dh L xs (n, K, Ln, R, I, D, cs, ss)) a m b ∧ pz_az (n + 1, pz_ts 8 K (n + 2) a, pz_ts 8 Ln (n + 2) m, R, I, D, cs + 1, ss + b) := by
  obtain ⟨hz1, hz2⟩ := hz
  refine ⟨?_, fun r j h1 h2 => hz1 r j (by show n + 2 ≤ r; have : n + 1 + 2 ≤ r := h1; omega) h2, fun r h1 h2 => hz2 r (by show n + 2 ≤ r; have : n + 1 + 2 ≤ r := h1; omega) h2⟩
  have e1 : (fun r => if r < 256 then pz_tg 8 (pz_ts 8 K (n + 2) a) r else 20) = pz_u1 (fun r => if r < 256 then pz_tg 8 K r else 20) (n + 2) a := by
    funext r
    rw [pz_u1_at]
    by_cases c : r < 256
    · rw [if_pos c, if_pos c, pz_tg_ts 8 K _ a _ hn c]
    · rw [if_neg c, if_neg c, if_neg (by omega)]
  have e2 : (fun r => if r = 1 then L else if r < 256 then pz_tg 8 (pz_ts 8 Ln (n + 2) m) r else 0) = pz_u1 (fun r => if r = 1 then L else if r < 256 then pz_tg 8 Ln r else 0) (n + 2) m := by
    funext r
    rw [pz_u1_at]
    by_cases c1 : r = 1
    · rw [if_pos c1, if_pos c1, if_neg (by omega)]
    · rw [if_neg c1, if_neg c1]
      by_cases c : r < 256
      · rw [if_pos c, if_pos c, pz_tg_ts 8 Ln _ m _ hn c]
      · rw [if_neg c, if_neg c, if_neg (by omega)]
  have e3 : (fun r j => if r < 256 ∧ j < 16 then pz_tg 12 R (r * 16 + j) else 0) = pz_u1 (fun r j => if r < 256 ∧ j < 16 then pz_tg 12 R (r * 16 + j) else 0) (n + 2) (fun _ => 0) := by
    funext r
    rw [pz_u1_at]
    by_cases c1 : r = n + 2
    · rw [if_pos c1]
      funext j
      by_cases c : r < 256 ∧ j < 16
      · rw [if_pos c]
        exact (hz1 r j (by show n + 2 ≤ r; omega) c.1).1 c.2
      · rw [if_neg c]
    · rw [if_neg c1]
  have e4 : (fun r j => if r = 1 then (xs j).toInt else if r < 256 ∧ j < 2048 then pz_dn xs (pz_tg 19 I (r * 2048 + j)) else 0) = pz_u1 (fun r j => if r = 1 then (xs j).toInt else if r < 256 ∧ j < 2048 then pz_dn xs (pz_tg 19 I (r * 2048 + j)) else 0) (n + 2) (fun _ => 0) := by
    funext r
    rw [pz_u1_at]
    by_cases c1 : r = n + 2
    · rw [if_pos c1]
      funext j
      rw [if_neg (by omega)]
      by_cases c : r < 256 ∧ j < 2048
      · rw [if_pos c]
        have h9 : pz_tg 19 I (r * 2048 + j) = 0 := (hz1 r j (by show n + 2 ≤ r; omega) c.1).2 c.2
        rw [h9]
        rfl
      · rw [if_neg c]
    · rw [if_neg c1]
  have e5 : (fun r j => if r < 256 ∧ j = 0 then pz_tg 8 D r else 0) = pz_u1 (fun r j => if r < 256 ∧ j = 0 then pz_tg 8 D r else 0) (n + 2) (fun _ => 0) := by
    funext r
    rw [pz_u1_at]
    by_cases c1 : r = n + 2
    · rw [if_pos c1]
      funext j
      by_cases c : r < 256 ∧ j = 0
      · rw [if_pos c]
        exact hz2 r (by show n + 2 ≤ r; omega) c.1
      · rw [if_neg c]
    · rw [if_neg c1]
  unfold pz_dh pz_new
  dsimp only
  rw [← e3, ← e4, ← e5, e1, e2]
theorem pz_az_I {n cs ss : Nat} {K Ln : pz_Tr Nat 8} {R : pz_Tr Nat 12} {I : pz_Tr Int 19} {D : pz_Tr UInt64 8} {r i : Nat} {x : Int} (hz : pz_az (n, K, Ln, R, I, D, cs, ss)) (h1 : r < n + 2) (h2 : r < 256) (h3 : i < 2048) : pz_az (n, K, Ln, R, pz_ts 19 I (r * 2048 + i) x, D, cs, ss) := by
  obtain ⟨hz1, hz2⟩ := hz
  refine ⟨fun r' j g1 g2 => ⟨(hz1 r' j g1 g2).1, fun g3 => ?_⟩, hz2⟩
  have g1 : n + 2 ≤ r' := g1
  show pz_tg 19 (pz_ts 19 I (r * 2048 + i) x) (r' * 2048 + j) = 0
  rw [pz_tg_ts 19 I _ x _ (by show r * 2048 + i < 524288; omega) (by show r' * 2048 + j < 524288; omega), if_neg (by omega)]
  exact (hz1 r' j g1 g2).2 g3
theorem pz_az_R {n cs ss : Nat} {K Ln : pz_Tr Nat 8} {R : pz_Tr Nat 12} {I : pz_Tr Int 19} {D : pz_Tr UInt64 8} {r i x : Nat} (hz : pz_az (n, K, Ln, R, I, D, cs, ss)) (h1 : r < n + 2) (h2 : r < 256) (h3 : i < 16) : pz_az (n, K, Ln, pz_ts 12 R (r * 16 + i) x, I, D, cs, ss) := by
  obtain ⟨hz1, hz2⟩ := hz
  refine ⟨fun r' j g1 g2 => ⟨fun g3 => ?_, (hz1 r' j g1 g2).2⟩, hz2⟩
  have g1 : n + 2 ≤ r' := g1
  show pz_tg 12 (pz_ts 12 R (r * 16 + i) x) (r' * 16 + j) = 0
  rw [pz_tg_ts 12 R _ x _ (by show r * 16 + i < 4096; omega) (by show r' * 16 + j < 4096; omega), if_neg (by omega)]
  exact (hz1 r' j g1 g2).1 g3
theorem pz_az_D {n cs ss : Nat} {K Ln : pz_Tr Nat 8} {R : pz_Tr Nat 12} {I : pz_Tr Int 19} {D : pz_Tr UInt64 8} {r : Nat} {x : UInt64} (hz : pz_az (n, K, Ln, R, I, D, cs, ss)) (h1 : r < n + 2) (h2 : r < 256) : pz_az (n, K, Ln, R, I, pz_ts 8 D r x, cs, ss) := by
  obtain ⟨hz1, hz2⟩ := hz
  refine ⟨hz1, fun r' g1 g2 => ?_⟩
  have g1 : n + 2 ≤ r' := g1
  show pz_tg 8 (pz_ts 8 D r x) r' = 0
  rw [pz_tg_ts 8 D _ x _ h2 g2, if_neg (by omega)]
  exact hz2 r' g1 g2
/-! group 0 -/
theorem pz_mc (v : pz_V) (st : List pz_V) : (v :: st).map (pz_dv xs) = pz_dv xs v :: st.map (pz_dv xs) := rfl
theorem pz_di {z : Int} (h : pz_i z) : pz_dv xs (.inl z) = .inl z := by
  show Sum.inl (pz_dn xs z) = _
  rw [pz_dn_i h]
theorem pz_dl {z : Int} (h : pz_j z) : pz_dv xs (.inr (.inr (.inl z))) = .inr (.inr (.inl z)) := by
  show Sum.inr (Sum.inr (Sum.inl (pz_dn xs z))) = _
  rw [pz_dn_j h]
theorem pz_m1 {x : Int} {st : List pz_V} (h : pz_i x) : (.inl x :: st : List pz_V).map (pz_dv xs) = .inl x :: st.map (pz_dv xs) := by rw [pz_mc, pz_di h]
theorem pz_m2 {y x : Int} {st : List pz_V} (h : pz_i y ∧ pz_i x) : (.inl y :: .inl x :: st : List pz_V).map (pz_dv xs) = .inl y :: .inl x :: st.map (pz_dv xs) := by rw [pz_mc, pz_mc, pz_di h.1, pz_di h.2]
theorem pz_m2l {y x : Int} {st : List pz_V} (h : pz_j y ∧ pz_j x) : (.inr (.inr (.inl y)) :: .inr (.inr (.inl x)) :: st : List pz_V).map (pz_dv xs) = .inr (.inr (.inl y)) :: .inr (.inr (.inl x)) :: st.map (pz_dv xs) := by rw [pz_mc, pz_mc, pz_dl h.1, pz_dl h.2]
theorem pz_ci {z : Int} {st : List pz_V} (h : pz_i z) : (some (.inl z :: st.map (pz_dv xs)) : Option (List pz_V)) = some ((.inl z :: st : List pz_V).map (pz_dv xs)) := by rw [pz_m1 h]
theorem pz_cj {z : Int} {st : List pz_V} (h : pz_j z) : (some (.inr (.inr (.inl z)) :: st.map (pz_dv xs)) : Option (List pz_V)) = some ((.inr (.inr (.inl z)) :: st : List pz_V).map (pz_dv xs)) := by rw [pz_mc, pz_dl h]
theorem pz_dcat : ∀ v : pz_V, pz_cat (pz_dv xs v) = pz_cat v
  | .inl _ => rfl
  | .inr (.inl _) => rfl
  | .inr (.inr (.inl _)) => rfl
  | .inr (.inr (.inr (.inl _))) => rfl
  | .inr (.inr (.inr (.inr _))) => rfl
theorem pz_dkd : ∀ v : pz_V, pz_kd (pz_dv xs v) = pz_kd v
  | .inl _ => rfl
  | .inr (.inl _) => rfl
  | .inr (.inr (.inl _)) => rfl
  | .inr (.inr (.inr (.inl _))) => rfl
  | .inr (.inr (.inr (.inr _))) => rfl
/-- the topmost two ints or longs are exact -/
def pz_E2 : List pz_V → Prop
  | .inl y :: .inl x :: _ => pz_i y ∧ pz_i x
  | .inl y :: _ => pz_i y
  | .inr (.inr (.inl y)) :: .inr (.inr (.inl x)) :: _ => pz_j y ∧ pz_j x
  | _ => True
theorem pz_E2a {y : Int} : ∀ {r : List pz_V}, pz_E2 (.inl y :: r) → pz_i y
  | [], h => h
  | .inl _ :: _, h => h.1
  | .inr _ :: _, h => h
theorem pz_irj (x : Int) : pz_i (if x < 0 then -1 else 1) := by split <;> exact ⟨by omega, by omega⟩
set_option maxHeartbeats 4000000 in
theorem pz_pp {ins : Instr} {st st' : List pz_V} (h : pz_pure ins st = some st') (hE : pz_E2 st) : pz_pure ins (st.map (pz_dv xs)) = some (st'.map (pz_dv xs)) := by
  unfold pz_pure at h
  split at h <;> first | cases h | (split at h <;> cases h)
  · rename_i hc; show (if _ then _ else _) = _; rw [if_pos hc]; exact pz_ci ⟨by omega, by omega⟩
  · rename_i hc; show (if _ then _ else _) = _; rw [if_pos hc]; exact pz_ci ⟨by omega, by omega⟩
  · rename_i hc; show (if _ then _ else _) = _; rw [if_pos hc]; exact pz_ci ⟨by omega, by omega⟩
  · rename_i k; exact pz_cj ⟨by have := k.isLt; omega, by have := k.isLt; omega⟩
  · rfl
  · rfl
  · rfl
  · rw [pz_m2 hE]; exact pz_ci (pz_wi _)
  · rw [pz_m2 hE]; exact pz_ci (pz_wi _)
  · rw [pz_m2 hE]; exact pz_ci (pz_wi _)
  · rename_i hy; rw [pz_m2 hE]; show (if _ then _ else _) = _; rw [if_neg hy]; exact pz_ci (pz_wi _)
  · rename_i hy; rw [pz_m2 hE]; show (if _ then _ else _) = _; rw [if_neg hy]; exact pz_ci (pz_tmod hE.2)
  · rw [pz_m1 (pz_E2a hE)]; exact pz_ci (pz_wi _)
  · rw [pz_m2 hE]; exact pz_ci (pz_i32 _)
  · rw [pz_m2 hE]; exact pz_ci (pz_i32 _)
  · rw [pz_m2 hE]; exact pz_ci (pz_i32 _)
  · rw [pz_m2 hE]; exact pz_ci (pz_i32 _)
  · rw [pz_m2 hE]; exact pz_ci (pz_i32 _)
  · rw [pz_m2 hE]; exact pz_ci (pz_i32 _)
  · rw [pz_m2l hE]; exact pz_cj (pz_j64 _)
  · rw [pz_m1 (pz_E2a hE)]; exact pz_cj (pz_ij (pz_E2a hE))
  · rw [pz_m1 (pz_E2a hE)]; exact pz_ci (pz_ic _)
  · rw [pz_m1 (pz_E2a hE)]; rfl
  · rw [pz_m1 (pz_E2a hE)]; rfl
  · rename_i hc; show (if _ then _ else _) = _; rw [if_pos hc]; rfl
  · rename_i hc; show (if _ then _ else _) = _; rw [if_pos hc]; rfl
  · rename_i hc; show (if _ then _ else _) = _; rw [if_pos hc]; rfl
  · rw [pz_m2l hE]; exact pz_ci (pz_icmp _ _)
  · exact pz_ci (pz_i32 _)
  · exact pz_ci (pz_i32 _)
  · rename_i hc; show (if pz_cat (pz_dv xs _) = 1 then _ else _) = _; rw [pz_dcat, if_pos hc]; rfl
  · rename_i hc; show (if pz_cat (pz_dv xs _) = 1 then _ else _) = _; rw [pz_dcat, if_pos hc]
  · rename_i hc; show (if pz_cat (pz_dv xs _) = 1 ∧ pz_cat (pz_dv xs _) = 1 then _ else _) = _; rw [pz_dcat, pz_dcat, if_pos hc]; rfl
theorem pz_push {ins : Instr} {v : pz_V} (h : pz_pure ins [] = some [v]) (st : List pz_V) : pz_pure ins (st.map (pz_dv xs)) = some ((v :: st).map (pz_dv xs)) := by
  unfold pz_pure at h
  split at h <;> first | cases h | (split at h <;> cases h)
  · rename_i hc; show (if _ then _ else _) = _; rw [if_pos hc]; exact pz_ci ⟨by omega, by omega⟩
  · rename_i hc; show (if _ then _ else _) = _; rw [if_pos hc]; exact pz_ci ⟨by omega, by omega⟩
  · rename_i hc; show (if _ then _ else _) = _; rw [if_pos hc]; exact pz_ci ⟨by omega, by omega⟩
  · rename_i k; exact pz_cj ⟨by have := k.isLt; omega, by have := k.isLt; omega⟩
  · rfl
  · rfl
  · rfl
theorem pz_una {ins : Instr} {y : Int} {v : pz_V} (h : pz_pure ins [.inl y] = some [v]) (hy : pz_i y) (st : List pz_V) : pz_pure ins ((.inl y :: st : List pz_V).map (pz_dv xs)) = some ((v :: st).map (pz_dv xs)) := by
  rw [pz_m1 hy]
  unfold pz_pure at h
  split at h <;> first | cases h | (split at h <;> cases h) | skip
  all_goals first
    | exact pz_ci (pz_wi _)
    | exact pz_cj (pz_ij hy)
    | exact pz_ci (pz_ic _)
    | rfl
theorem pz_sq_ok {ins : Instr} {st st' : List pz_V} (h : pz_sq ins st = some st') : pz_pure ins (st.map (pz_dv xs)) = some (st'.map (pz_dv xs)) := by
  unfold pz_sq at h
  split at h
  · cases h
    rfl
  · cases h
    show (if pz_cat (pz_dv xs (.inl _)) = 1 then _ else _) = _
    rw [pz_dcat, if_pos rfl]
    rfl
  · cases h
    show (if pz_cat (pz_dv xs (.inl _)) = 1 then _ else _) = _
    rw [pz_dcat, if_pos rfl]
  · split at h
    · rename_i hp
      cases h
      exact pz_push hp _
    · obtain ⟨hx, h⟩ := pz_ite h
      split at h
      · rename_i hp
        cases h
        exact pz_una hp (pz_xi_i hx) _
      · cases h
  · cases h
theorem pz_sp_ok {ins : Instr} {st st' : List pz_V} (h : pz_sp ins st = some st') : pz_pure ins (st.map (pz_dv xs)) = some (st'.map (pz_dv xs)) := by
  unfold pz_sp at h
  split at h
  · split at h
    · rename_i hc
      rw [Bool.and_eq_true] at hc
      exact pz_pp h ⟨pz_xi_i hc.1, pz_xi_i hc.2⟩
    · exact pz_sq_ok h
  · rename_i y r hne
    split at h
    · rename_i hc
      refine pz_pp h ?_
      rcases r with - | ⟨v, r⟩
      · exact pz_xi_i hc
      · rcases v with x | w
        · exact absurd rfl (hne y x r)
        · exact pz_xi_i hc
    · exact pz_sq_ok h
  · split at h
    · rename_i hc
      rw [Bool.and_eq_true] at hc
      exact pz_pp h ⟨pz_xl_j hc.1, pz_xl_j hc.2⟩
    · split at h
      · obtain ⟨hx, h⟩ := pz_ite h
        cases h
        subst hx
        show some (Sum.inl (if pz_dn xs _ < pz_dn xs _ then (1 : Int) else if pz_dn xs _ = pz_dn xs _ then 0 else -1) :: _) = _
        rw [if_neg (Int.lt_irrefl _), if_pos rfl]
        rfl
      · cases h
  · rename_i h1 h2 h3
    refine pz_pp h ?_
    unfold pz_E2
    split
    · exact absurd rfl (h1 _ _ _)
    · exact absurd rfl (h2 _ _)
    · exact absurd rfl (h3 _ _ _)
    · trivial
/-! group 1 -/
def pz_dL (xs : Nat → Int32) (ls : pz_L) : pz_L := ls.map (Option.map (pz_dv xs))
theorem pz_dL_at {ls : pz_L} {i : Nat} {v : pz_V} (h : ls[i]? = some (some v)) : (pz_dL xs ls)[i]? = some (some (pz_dv xs v)) := by
  unfold pz_dL
  rw [List.getElem?_map, h]
  rfl
theorem pz_dL_np {ls : pz_L} : ∀ {i : Nat}, pz_np (pz_dL xs ls) i = pz_np ls i
  | 0 => rfl
  | j + 1 => by
    unfold pz_np pz_dL
    rw [List.getElem?_map]
    rcases ls[j]? with - | ⟨- | v⟩
    · rfl
    · rfl
    · show (pz_cat (pz_dv xs v) == 1) = (pz_cat v == 1)
      rw [pz_dcat]
theorem pz_dL_set {ls : pz_L} {i : Nat} {v : pz_V} : pz_dL xs (pz_set ls i v) = pz_set (pz_dL xs ls) i (pz_dv xs v) := by
  unfold pz_set pz_dL
  rw [pz_dcat]
  split
  · rw [List.map_set, List.map_set]
    rfl
  · rw [List.map_set]
    rfl
theorem pz_sl_ok {ins : Instr} {ls ls' : pz_L} {st st' : List pz_V} (h : pz_sl ins ls st = some (ls', st')) : pz_loc ins (pz_dL xs ls) (st.map (pz_dv xs)) = some (pz_dL xs ls', st'.map (pz_dv xs)) := by
  unfold pz_sl at h
  split at h
  · rename_i i n
    split at h
    · rename_i x hx
      obtain ⟨hc, h⟩ := pz_ite h
      rw [pz_fz_eq] at h
      cases h
      rw [Bool.and_eq_true] at hc
      have h1 := pz_dL_at (xs := xs) hx
      rw [pz_di (pz_xi_i hc.1)] at h1
      unfold pz_loc
      dsimp only [pz_ldk, pz_stk]
      rw [h1]
      dsimp only
      rw [pz_dL_np, if_pos hc.2]
      unfold pz_dL
      rw [List.map_set]
      show _ = some (List.set _ i (some (pz_dv xs (.inl _))), _)
      rw [pz_di (pz_wi _)]
    · cases h
  · unfold pz_loc at h ⊢
    split at h
    · rename_i k i hk
      rw [hk]
      dsimp only
      split at h
      · rename_i v hv
        obtain ⟨hkd, h⟩ := pz_ite h
        cases h
        rw [pz_dL_at hv]
        dsimp only
        rw [pz_dkd, if_pos hkd]
        rfl
      · cases h
    · rename_i hk
      rw [hk]
      dsimp only
      split at h
      · rename_i k i hs
        rw [hs]
        dsimp only
        split at h
        · rename_i v st1
          obtain ⟨⟨h1, h2, h3⟩, h⟩ := pz_ite h
          cases h
          rw [pz_mc]
          dsimp only
          rw [if_pos ⟨by rw [pz_dkd]; exact h1, by rw [pz_dcat]; unfold pz_dL; rw [List.length_map]; exact h2, by rw [pz_dL_np]; exact h3⟩, pz_dL_set]
        · cases h
      · rename_i hs
        split at h
        · rename_i hne _ _ _ _
          exact absurd rfl (hne _ _)
        · cases h
/-! conditions -/
theorem pz_rg_ok (henv : ∀ k, (env k).1 ≤ (xs k).toInt ∧ (xs k).toInt ≤ (env k).2) (z : Int) : (pz_rg env z).1 ≤ pz_dn xs z ∧ pz_dn xs z ≤ (pz_rg env z).2 := by
  cases z with
  | ofNat n =>
    unfold pz_rg pz_dn
    dsimp only
    by_cases h : n < 1180591620717411303424
    · rw [if_pos h, show Nat.blt n 1180591620717411303424 = true by rw [Nat.blt_eq]; exact h]
      exact ⟨Int.le_refl _, Int.le_refl _⟩
    · rw [if_neg h, show Nat.blt n 1180591620717411303424 = false by rw [← Bool.not_eq_true, Nat.blt_eq]; exact h]
      exact henv _
  | negSucc n => exact ⟨Int.le_refl _, Int.le_refl _⟩
theorem pz_sc_ok (henv : ∀ k, (env k).1 ≤ (xs k).toInt ∧ (xs k).toInt ≤ (env k).2) {c : ClassFile.Cond} {x y : Int} {b : Bool} (h : pz_sc env c x y = some b) : pz_cond c (pz_dn xs x) (pz_dn xs y) = b := by
  have h1 := pz_rg_ok henv x
  have h2 := pz_rg_ok henv y
  unfold pz_sc at h
  split at h
  rename_i a b1 d e e1 e2
  rw [e1] at h1
  rw [e2] at h2
  dsimp only at h1 h2
  cases c <;> dsimp only at h <;> unfold pz_cond <;> dsimp only
  · split at h
    · rename_i q; cases h; rw [q]; exact decide_eq_true rfl
    · split at h <;> cases h
      exact decide_eq_false (by omega)
  · split at h
    · rename_i q; cases h; rw [q]; exact decide_eq_false (fun q9 => q9 rfl)
    · split at h <;> cases h
      exact decide_eq_true (by omega)
  · split at h
    · cases h; exact decide_eq_true (by omega)
    · split at h <;> cases h
      exact decide_eq_false (by omega)
  · split at h
    · cases h; exact decide_eq_true (by omega)
    · split at h <;> cases h
      exact decide_eq_false (by omega)
  · split at h
    · cases h; exact decide_eq_true (by omega)
    · split at h <;> cases h
      exact decide_eq_false (by omega)
  · split at h
    · cases h; exact decide_eq_true (by omega)
    · split at h <;> cases h
      exact decide_eq_false (by omega)
/-! group 2 -/
theorem pz_dcx {c : Nat} {u v : Int} {r q : Nat} (h1 : c = 9 → r = q) (h2 : u = pz_dn xs v) : (if c = 9 then (.inr (.inl r) : pz_V) else .inl u) = pz_dv xs (if c = 9 then .inr (.inl q) else .inl v) := by
  by_cases h : c = 9
  · rw [if_pos h, if_pos h, h1 h]; rfl
  · rw [if_neg h, if_neg h, h2]; rfl
theorem pz_ofi {i : Nat} (h : i < 70000) : pz_i (Int.ofNat i) := ⟨by omega, by omega⟩
set_option maxHeartbeats 4000000 in
theorem pz_sm_ok {L0 : Nat} (hLL : L0 = L ∨ L0 = 70000) (henv : ∀ k, (env k).1 ≤ (xs k).toInt ∧ (xs k).toInt ≤ (env k).2) {ins : Instr} {a b c : Nat} {st st' : List pz_V} {h h' : pz_aH} (hz : pz_az h) (hs : pz_sm L0 env ins a b c st h = some (st', h')) :
    pz_mem ins a b c (st.map (pz_dv xs)) (pz_dh L xs h) = some (st'.map (pz_dv xs), pz_dh L xs h') ∧ pz_az h' := by
  obtain ⟨n, K, Ln, R, I, D, cs, ss⟩ := h
  unfold pz_sm at hs
  dsimp only at hs
  split at hs
  · -- getfield
    rename_i r st
    obtain ⟨hc, hs⟩ := pz_ite hs
    cases hs
    simp only [Bool.and_eq_true, Nat.blt_eq] at hc
    obtain ⟨h1, h2, h3, h4, h5⟩ := pz_ai_is (L := L) (xs := xs) hc.1
    refine ⟨?_, hz⟩
    show (if pz_is (pz_dh L xs (n, K, Ln, R, I, D, cs, ss)).1 r a = true then _ else _) = _
    rw [if_pos h1, pz_mc, ← pz_dcx (xs := xs) (c := c) (fun _ => pz_dh_rf (L := L) (xs := xs) (h := (n, K, Ln, R, I, D, cs, ss)) h4 hc.2) (pz_dh_iv (L := L) (xs := xs) (h := (n, K, Ln, R, I, D, cs, ss)) h2 h4 (by omega))]
    rfl
  · -- putfield, int
    rename_i x r st
    obtain ⟨hc, hs⟩ := pz_ite hs
    rw [pz_tk_eq] at hs
    cases hs
    simp only [Bool.and_eq_true, Nat.blt_eq, Bool.or_eq_true, Nat.beq_eq, decide_eq_true_eq] at hc
    obtain ⟨h1, h2, h3, h4, h5⟩ := pz_ai_is (L := L) (xs := xs) hc.1
    refine ⟨?_, pz_az_I hz h3 h4 (by omega)⟩
    show (if pz_is (pz_dh L xs (n, K, Ln, R, I, D, cs, ss)).1 r a = true ∧ pz_fit (pz_dh L xs (n, K, Ln, R, I, D, cs, ss)).1 c (.inl (pz_dn xs x)) = true then _ else _) = _
    have hf : pz_fit (pz_dh L xs (n, K, Ln, R, I, D, cs, ss)).1 c (.inl (pz_dn xs x)) = true := by
      rcases hc.2.2 with rfl | ⟨rfl, rfl | rfl⟩
      · rfl
      · rw [pz_dn_i ⟨by omega, by omega⟩]; rfl
      · rw [pz_dn_i ⟨by omega, by omega⟩]; rfl
    rw [if_pos ⟨h1, hf⟩, pz_dh_I h2 h4 (by omega)]
    rfl
  · -- putfield, a reference
    rename_i q r st
    obtain ⟨hc, hs⟩ := pz_ite hs
    rw [pz_tk_eq] at hs
    cases hs
    simp only [Bool.and_eq_true, Nat.blt_eq, Nat.ble_eq, Bool.or_eq_true, Nat.beq_eq] at hc
    obtain ⟨h1, h2, h3, h4, h5⟩ := pz_ai_is (L := L) (xs := xs) hc.1
    refine ⟨?_, pz_az_R hz h3 h4 hc.2.1⟩
    show (if pz_is (pz_dh L xs (n, K, Ln, R, I, D, cs, ss)).1 r a = true ∧ pz_fit (pz_dh L xs (n, K, Ln, R, I, D, cs, ss)).1 c (.inr (.inl q)) = true then _ else _) = _
    have hf : pz_fit (pz_dh L xs (n, K, Ln, R, I, D, cs, ss)).1 c (.inr (.inl q)) = true := by
      have e9 := hc.2.2.1
      subst e9
      show (true && (q == 0 || (decide (2 ≤ q) && decide (q < n + 2)))) = true
      rcases hc.2.2.2 with rfl | ⟨g1, g2⟩
      · rfl
      · rw [decide_eq_true g1, decide_eq_true g2]; simp
    rw [if_pos ⟨h1, hf⟩, pz_dh_R h4 hc.2.1]
    rfl
  · -- iaload
    rename_i i r st
    split at hs
    · rename_i hr
      have hr := Nat.eq_of_beq_eq_true hr
      subst hr
      obtain ⟨hc, hs⟩ := pz_ite hs
      simp only [Bool.and_eq_true, Nat.blt_eq] at hc
      obtain ⟨hi, hl⟩ := hc
      have hL0 : L0 = L := by omega
      subst hL0
      have he := henv i
      have hm : (List.map (pz_dv xs) (.inl (Int.ofNat i) :: .inr (.inl 1) :: st)) = .inl (Int.ofNat i) :: .inr (.inl 1) :: st.map (pz_dv xs) := by rw [pz_m1 (pz_ofi (by omega))]; rfl
      rw [hm]
      show (if pz_ia (pz_dh L0 xs (n, K, Ln, R, I, D, cs, ss)).1 1 = true ∧ 0 ≤ Int.ofNat i ∧ Int.ofNat i < (L0 : Int) then some (.inl (xs i).toInt :: st.map (pz_dv xs), pz_dh L0 xs (n, K, Ln, R, I, D, cs, ss)) else none) = some _ ∧ _
      rw [if_pos ⟨by unfold pz_ia; simp, Int.natCast_nonneg i, by omega⟩]
      split at hs
      · rename_i lo hi' hlo
        rw [hlo] at he
        dsimp only at he
        split at hs
        · rename_i heq
          subst heq
          cases hs
          have hx : (xs i).toInt = lo := by omega
          refine ⟨?_, hz⟩
          rw [pz_m1 (by rw [← hx]; exact pz_i32 _), hx]
        · cases hs
          refine ⟨?_, hz⟩
          rw [pz_mc]
          have hx : pz_dv xs (.inl (Int.ofNat (1180591620717411303424 + i))) = .inl (xs i).toInt := by
            show Sum.inl (pz_dn xs (Int.ofNat (1180591620717411303424 + i))) = _
            unfold pz_dn
            dsimp only
            rw [if_neg (by omega), Nat.add_sub_cancel_left]
          rw [hx]
    · obtain ⟨hc, hs⟩ := pz_ite hs
      cases hs
      simp only [Bool.and_eq_true, Nat.blt_eq] at hc
      obtain ⟨h1, h2, h3, h4, h5⟩ := pz_ai_is (L := L) (xs := xs) hc.1
      refine ⟨?_, hz⟩
      have hm : (List.map (pz_dv xs) (.inl (Int.ofNat i) :: .inr (.inl r) :: st)) = .inl (Int.ofNat i) :: .inr (.inl r) :: st.map (pz_dv xs) := by rw [pz_m1 (pz_ofi (by omega))]; rfl
      rw [hm]
      show (if pz_ia (pz_dh L xs (n, K, Ln, R, I, D, cs, ss)).1 r = true ∧ 0 ≤ Int.ofNat i ∧ Int.ofNat i < (((pz_dh L xs (n, K, Ln, R, I, D, cs, ss)).1.2.2.1 r : Nat) : Int) then some (.inl ((pz_dh L xs (n, K, Ln, R, I, D, cs, ss)).2.1 r i) :: st.map (pz_dv xs), pz_dh L xs (n, K, Ln, R, I, D, cs, ss)) else none) = some _
      rw [pz_dh_ln h2 h4, if_pos ⟨by unfold pz_ia; rw [h1]; rfl, Int.natCast_nonneg i, Int.ofNat_lt.mpr hc.2.1⟩, pz_dh_iv h2 h4 hc.2.2]
      rfl
  · -- baload
    rename_i i r st
    obtain ⟨hc, hs⟩ := pz_ite hs
    cases hs
    simp only [Bool.and_eq_true, Nat.blt_eq] at hc
    obtain ⟨h1, h2, h3, h4, h5⟩ := pz_ai_is (L := L) (xs := xs) hc.1
    refine ⟨?_, hz⟩
    have hm : (List.map (pz_dv xs) (.inl (Int.ofNat i) :: .inr (.inl r) :: st)) = .inl (Int.ofNat i) :: .inr (.inl r) :: st.map (pz_dv xs) := by rw [pz_m1 (pz_ofi (by omega))]; rfl
    rw [hm]
    show (if pz_is (pz_dh L xs (n, K, Ln, R, I, D, cs, ss)).1 r 21 = true ∧ 0 ≤ Int.ofNat i ∧ Int.ofNat i < (((pz_dh L xs (n, K, Ln, R, I, D, cs, ss)).1.2.2.1 r : Nat) : Int) then some (.inl ((pz_dh L xs (n, K, Ln, R, I, D, cs, ss)).2.1 r i) :: st.map (pz_dv xs), pz_dh L xs (n, K, Ln, R, I, D, cs, ss)) else none) = some _
    rw [pz_dh_ln h2 h4, if_pos ⟨h1, Int.natCast_nonneg i, Int.ofNat_lt.mpr hc.2.1⟩, pz_dh_iv h2 h4 hc.2.2]
    rfl
  · -- caload
    rename_i i r st
    obtain ⟨hc, hs⟩ := pz_ite hs
    cases hs
    simp only [Bool.and_eq_true, Nat.blt_eq] at hc
    obtain ⟨h1, h2, h3, h4, h5⟩ := pz_ai_is (L := L) (xs := xs) hc.1
    refine ⟨?_, hz⟩
    have hm : (List.map (pz_dv xs) (.inl (Int.ofNat i) :: .inr (.inl r) :: st)) = .inl (Int.ofNat i) :: .inr (.inl r) :: st.map (pz_dv xs) := by rw [pz_m1 (pz_ofi (by omega))]; rfl
    rw [hm]
    show (if pz_is (pz_dh L xs (n, K, Ln, R, I, D, cs, ss)).1 r 22 = true ∧ 0 ≤ Int.ofNat i ∧ Int.ofNat i < (((pz_dh L xs (n, K, Ln, R, I, D, cs, ss)).1.2.2.1 r : Nat) : Int) then some (.inl ((pz_dh L xs (n, K, Ln, R, I, D, cs, ss)).2.1 r i) :: st.map (pz_dv xs), pz_dh L xs (n, K, Ln, R, I, D, cs, ss)) else none) = some _
    rw [pz_dh_ln h2 h4, if_pos ⟨h1, Int.natCast_nonneg i, Int.ofNat_lt.mpr hc.2.1⟩, pz_dh_iv h2 h4 hc.2.2]
    rfl
  · -- laload
    rename_i i r st
    obtain ⟨hc, hs⟩ := pz_ite hs
    cases hs
    simp only [Bool.and_eq_true, Nat.blt_eq] at hc
    obtain ⟨h1, h2, h3, h4, h5⟩ := pz_ai_is (L := L) (xs := xs) hc.1
    refine ⟨?_, hz⟩
    have hm : (List.map (pz_dv xs) (.inl (Int.ofNat i) :: .inr (.inl r) :: st)) = .inl (Int.ofNat i) :: .inr (.inl r) :: st.map (pz_dv xs) := by rw [pz_m1 (pz_ofi (by omega))]; rfl
    rw [hm]
    show (if pz_is (pz_dh L xs (n, K, Ln, R, I, D, cs, ss)).1 r 24 = true ∧ 0 ≤ Int.ofNat i ∧ Int.ofNat i < (((pz_dh L xs (n, K, Ln, R, I, D, cs, ss)).1.2.2.1 r : Nat) : Int) then some (.inr (.inr (.inl ((pz_dh L xs (n, K, Ln, R, I, D, cs, ss)).2.1 r i))) :: st.map (pz_dv xs), pz_dh L xs (n, K, Ln, R, I, D, cs, ss)) else none) = some _
    rw [pz_dh_ln h2 h4, if_pos ⟨h1, Int.natCast_nonneg i, Int.ofNat_lt.mpr hc.2.1⟩, pz_dh_iv h2 h4 hc.2.2]
    rfl
  · -- daload
    rename_i r st
    obtain ⟨hc, hs⟩ := pz_ite hs
    cases hs
    simp only [Bool.and_eq_true, Nat.blt_eq] at hc
    obtain ⟨h1, h2, h3, h4, h5⟩ := pz_ai_is (L := L) (xs := xs) hc.1
    refine ⟨?_, hz⟩
    have hm : (List.map (pz_dv xs) (.inl (Int.ofNat 0) :: .inr (.inl r) :: st)) = .inl (Int.ofNat 0) :: .inr (.inl r) :: st.map (pz_dv xs) := by rw [pz_m1 (pz_ofi (by omega))]; rfl
    rw [hm]
    show (if pz_is (pz_dh L xs (n, K, Ln, R, I, D, cs, ss)).1 r 25 = true ∧ 0 ≤ Int.ofNat 0 ∧ Int.ofNat 0 < (((pz_dh L xs (n, K, Ln, R, I, D, cs, ss)).1.2.2.1 r : Nat) : Int) then some (.inr (.inr (.inr (.inr (if r < 256 ∧ 0 = 0 then pz_tg 8 D r else 0)))) :: st.map (pz_dv xs), pz_dh L xs (n, K, Ln, R, I, D, cs, ss)) else none) = some _
    rw [pz_dh_ln h2 h4, if_pos ⟨h1, Int.natCast_nonneg 0, Int.ofNat_lt.mpr hc.2⟩, if_pos ⟨h4, rfl⟩]
    rfl
  · -- aaload
    rename_i i r st
    obtain ⟨hc, hs⟩ := pz_ite hs
    cases hs
    simp only [Bool.and_eq_true, Nat.blt_eq] at hc
    obtain ⟨h1, h2, h3, h4, h5⟩ := pz_ai_is (L := L) (xs := xs) hc.1
    refine ⟨?_, hz⟩
    have hm : (List.map (pz_dv xs) (.inl (Int.ofNat i) :: .inr (.inl r) :: st)) = .inl (Int.ofNat i) :: .inr (.inl r) :: st.map (pz_dv xs) := by rw [pz_m1 (pz_ofi (by omega))]; rfl
    rw [hm]
    show (if pz_is (pz_dh L xs (n, K, Ln, R, I, D, cs, ss)).1 r 23 = true ∧ 0 ≤ Int.ofNat i ∧ Int.ofNat i < (((pz_dh L xs (n, K, Ln, R, I, D, cs, ss)).1.2.2.1 r : Nat) : Int) then some (.inr (.inl ((pz_dh L xs (n, K, Ln, R, I, D, cs, ss)).1.2.2.2 r i)) :: st.map (pz_dv xs), pz_dh L xs (n, K, Ln, R, I, D, cs, ss)) else none) = some _
    rw [pz_dh_ln h2 h4, if_pos ⟨h1, Int.natCast_nonneg i, Int.ofNat_lt.mpr hc.2.1⟩, pz_dh_rf h4 hc.2.2]
    rfl
  · -- iastore
    rename_i x i r st
    obtain ⟨hc, hs⟩ := pz_ite hs
    rw [pz_tk_eq] at hs
    cases hs
    simp only [Bool.and_eq_true, Nat.blt_eq] at hc
    obtain ⟨h1, h2, h3, h4, h5⟩ := pz_ai_is (L := L) (xs := xs) hc.1
    have hj : i < 2048 := hc.2.2
    refine ⟨?_, pz_az_I hz h3 h4 hj⟩
    have hm : (List.map (pz_dv xs) (.inl x :: .inl (Int.ofNat i) :: .inr (.inl r) :: st)) = .inl (pz_dn xs x) :: .inl (Int.ofNat i) :: .inr (.inl r) :: st.map (pz_dv xs) := by rw [pz_mc, pz_m1 (pz_ofi (by omega))]; rfl
    rw [hm]
    show (if pz_is (pz_dh L xs (n, K, Ln, R, I, D, cs, ss)).1 r 20 = true ∧ 0 ≤ Int.ofNat i ∧ Int.ofNat i < (((pz_dh L xs (n, K, Ln, R, I, D, cs, ss)).1.2.2.1 r : Nat) : Int) then some (st.map (pz_dv xs), ((pz_dh L xs (n, K, Ln, R, I, D, cs, ss)).1, pz_u2 (pz_dh L xs (n, K, Ln, R, I, D, cs, ss)).2.1 r i (pz_dn xs x), (pz_dh L xs (n, K, Ln, R, I, D, cs, ss)).2.2)) else none) = some _
    rw [pz_dh_ln h2 h4, if_pos ⟨h1, Int.natCast_nonneg i, Int.ofNat_lt.mpr hc.2.1⟩, pz_dh_I h2 h4 hj]
  · -- bastore
    rename_i x i r st
    obtain ⟨hc, hs⟩ := pz_ite hs
    rw [pz_tk_eq] at hs
    cases hs
    simp only [Bool.and_eq_true, Nat.blt_eq, Bool.or_eq_true, decide_eq_true_eq] at hc
    obtain ⟨h1, h2, h3, h4, h5⟩ := pz_ai_is (L := L) (xs := xs) hc.1
    have hj : i < 2048 := hc.2.2.1
    refine ⟨?_, pz_az_I hz h3 h4 hj⟩
    have hm : (List.map (pz_dv xs) (.inl x :: .inl (Int.ofNat i) :: .inr (.inl r) :: st)) = .inl (pz_dn xs x) :: .inl (Int.ofNat i) :: .inr (.inl r) :: st.map (pz_dv xs) := by rw [pz_mc, pz_m1 (pz_ofi (by omega))]; rfl
    rw [hm]
    show (if pz_is (pz_dh L xs (n, K, Ln, R, I, D, cs, ss)).1 r 21 = true ∧ 0 ≤ Int.ofNat i ∧ Int.ofNat i < (((pz_dh L xs (n, K, Ln, R, I, D, cs, ss)).1.2.2.1 r : Nat) : Int) ∧ (pz_dn xs x = 0 ∨ pz_dn xs x = 1) then some (st.map (pz_dv xs), ((pz_dh L xs (n, K, Ln, R, I, D, cs, ss)).1, pz_u2 (pz_dh L xs (n, K, Ln, R, I, D, cs, ss)).2.1 r i (pz_dn xs x), (pz_dh L xs (n, K, Ln, R, I, D, cs, ss)).2.2)) else none) = some _
    rw [pz_dh_ln h2 h4, if_pos ⟨h1, Int.natCast_nonneg i, Int.ofNat_lt.mpr hc.2.1, by rcases hc.2.2.2 with rfl | rfl; exact Or.inl (pz_dn_i ⟨by omega, by omega⟩); exact Or.inr (pz_dn_i ⟨by omega, by omega⟩)⟩, pz_dh_I h2 h4 hj]
  · -- castore
    rename_i x i r st
    obtain ⟨hc, hs⟩ := pz_ite hs
    rw [pz_tk_eq] at hs
    cases hs
    simp only [Bool.and_eq_true, Nat.blt_eq, Nat.ble_eq] at hc
    obtain ⟨h1, h2, h3, h4, h5⟩ := pz_ai_is (L := L) (xs := xs) hc.1
    have hj : i < 2048 := hc.2.2.1
    refine ⟨?_, pz_az_I hz h3 h4 hj⟩
    have hm : (List.map (pz_dv xs) (.inl (Int.ofNat x) :: .inl (Int.ofNat i) :: .inr (.inl r) :: st)) = .inl (pz_dn xs (Int.ofNat x)) :: .inl (Int.ofNat i) :: .inr (.inl r) :: st.map (pz_dv xs) := by rw [pz_mc, pz_m1 (pz_ofi (by omega))]; rfl
    rw [hm]
    show (if pz_is (pz_dh L xs (n, K, Ln, R, I, D, cs, ss)).1 r 22 = true ∧ 0 ≤ Int.ofNat i ∧ Int.ofNat i < (((pz_dh L xs (n, K, Ln, R, I, D, cs, ss)).1.2.2.1 r : Nat) : Int) ∧ 0 ≤ pz_dn xs (Int.ofNat x) ∧ pz_dn xs (Int.ofNat x) ≤ 65535 then some (st.map (pz_dv xs), ((pz_dh L xs (n, K, Ln, R, I, D, cs, ss)).1, pz_u2 (pz_dh L xs (n, K, Ln, R, I, D, cs, ss)).2.1 r i (pz_dn xs (Int.ofNat x)), (pz_dh L xs (n, K, Ln, R, I, D, cs, ss)).2.2)) else none) = some _
    rw [pz_dh_ln h2 h4, if_pos ⟨h1, Int.natCast_nonneg i, Int.ofNat_lt.mpr hc.2.1, by rw [pz_dn_i (pz_ofi (by omega))]; omega, by rw [pz_dn_i (pz_ofi (by omega))]; omega⟩, pz_dh_I h2 h4 hj]
  · -- lastore
    rename_i x i r st
    obtain ⟨hc, hs⟩ := pz_ite hs
    rw [pz_tk_eq] at hs
    cases hs
    simp only [Bool.and_eq_true, Nat.blt_eq] at hc
    obtain ⟨h1, h2, h3, h4, h5⟩ := pz_ai_is (L := L) (xs := xs) hc.1
    have hj : i < 2048 := hc.2.2
    refine ⟨?_, pz_az_I hz h3 h4 hj⟩
    have hm : (List.map (pz_dv xs) (.inr (.inr (.inl x)) :: .inl (Int.ofNat i) :: .inr (.inl r) :: st)) = .inr (.inr (.inl (pz_dn xs x))) :: .inl (Int.ofNat i) :: .inr (.inl r) :: st.map (pz_dv xs) := by rw [pz_mc, pz_m1 (pz_ofi (by omega))]; rfl
    rw [hm]
    show (if pz_is (pz_dh L xs (n, K, Ln, R, I, D, cs, ss)).1 r 24 = true ∧ 0 ≤ Int.ofNat i ∧ Int.ofNat i < (((pz_dh L xs (n, K, Ln, R, I, D, cs, ss)).1.2.2.1 r : Nat) : Int) then some (st.map (pz_dv xs), ((pz_dh L xs (n, K, Ln, R, I, D, cs, ss)).1, pz_u2 (pz_dh L xs (n, K, Ln, R, I, D, cs, ss)).2.1 r i (pz_dn xs x), (pz_dh L xs (n, K, Ln, R, I, D, cs, ss)).2.2)) else none) = some _
    rw [pz_dh_ln h2 h4, if_pos ⟨h1, Int.natCast_nonneg i, Int.ofNat_lt.mpr hc.2.1⟩, pz_dh_I h2 h4 hj]
  · -- dastore
    rename_i x r st
    obtain ⟨hc, hs⟩ := pz_ite hs
    rw [pz_tk_eq] at hs
    cases hs
    simp only [Bool.and_eq_true, Nat.blt_eq] at hc
    obtain ⟨h1, h2, h3, h4, h5⟩ := pz_ai_is (L := L) (xs := xs) hc.1
    refine ⟨?_, pz_az_D hz h3 h4⟩
    have hm : (List.map (pz_dv xs) (.inr (.inr (.inr (.inr x))) :: .inl (Int.ofNat 0) :: .inr (.inl r) :: st)) = .inr (.inr (.inr (.inr x))) :: .inl (Int.ofNat 0) :: .inr (.inl r) :: st.map (pz_dv xs) := by rw [pz_mc, pz_m1 (pz_ofi (by omega))]; rfl
    rw [hm]
    show (if pz_is (pz_dh L xs (n, K, Ln, R, I, D, cs, ss)).1 r 25 = true ∧ 0 ≤ Int.ofNat 0 ∧ Int.ofNat 0 < (((pz_dh L xs (n, K, Ln, R, I, D, cs, ss)).1.2.2.1 r : Nat) : Int) then some (st.map (pz_dv xs), ((pz_dh L xs (n, K, Ln, R, I, D, cs, ss)).1, (pz_dh L xs (n, K, Ln, R, I, D, cs, ss)).2.1, pz_u2 (pz_dh L xs (n, K, Ln, R, I, D, cs, ss)).2.2.1 r 0 x, (pz_dh L xs (n, K, Ln, R, I, D, cs, ss)).2.2.2)) else none) = some _
    rw [pz_dh_ln h2 h4, if_pos ⟨h1, Int.natCast_nonneg 0, Int.ofNat_lt.mpr hc.2⟩, pz_dh_D h4]
  · -- aastore
    rename_i q i r st
    obtain ⟨hc, hs⟩ := pz_ite hs
    rw [pz_tk_eq] at hs
    cases hs
    simp only [Bool.and_eq_true, Nat.blt_eq] at hc
    obtain ⟨h1, h2, h3, h4, h5⟩ := pz_ai_is (L := L) (xs := xs) hc.1
    obtain ⟨k1, -⟩ := pz_ai_is (L := L) (xs := xs) hc.2.2.2
    refine ⟨?_, pz_az_R hz h3 h4 hc.2.2.1⟩
    have hm : (List.map (pz_dv xs) (.inr (.inl q) :: .inl (Int.ofNat i) :: .inr (.inl r) :: st)) = .inr (.inl q) :: .inl (Int.ofNat i) :: .inr (.inl r) :: st.map (pz_dv xs) := by rw [pz_mc, pz_m1 (pz_ofi (by omega))]; rfl
    rw [hm]
    show (if pz_is (pz_dh L xs (n, K, Ln, R, I, D, cs, ss)).1 r 23 = true ∧ 0 ≤ Int.ofNat i ∧ Int.ofNat i < (((pz_dh L xs (n, K, Ln, R, I, D, cs, ss)).1.2.2.1 r : Nat) : Int) ∧ pz_is (pz_dh L xs (n, K, Ln, R, I, D, cs, ss)).1 q 6 = true then some (st.map (pz_dv xs), (((pz_dh L xs (n, K, Ln, R, I, D, cs, ss)).1.1, (pz_dh L xs (n, K, Ln, R, I, D, cs, ss)).1.2.1, (pz_dh L xs (n, K, Ln, R, I, D, cs, ss)).1.2.2.1, pz_u2 (pz_dh L xs (n, K, Ln, R, I, D, cs, ss)).1.2.2.2 r i q), (pz_dh L xs (n, K, Ln, R, I, D, cs, ss)).2)) else none) = some _
    rw [pz_dh_ln h2 h4, if_pos ⟨h1, Int.natCast_nonneg i, Int.ofNat_lt.mpr hc.2.1, k1⟩, pz_dh_R h4 hc.2.2.1]
  · -- arraylength
    rename_i r st
    split at hs
    · rename_i hr
      have hr := Nat.eq_of_beq_eq_true hr
      subst hr
      obtain ⟨hc, hs⟩ := pz_ite hs
      cases hs
      rw [Nat.blt_eq] at hc
      have hL0 : L0 = L := by omega
      subst hL0
      refine ⟨?_, hz⟩
      show (if pz_aa (pz_dh L0 xs (n, K, Ln, R, I, D, cs, ss)).1 1 = true then some (.inl (Int.ofNat L0) :: st.map (pz_dv xs), pz_dh L0 xs (n, K, Ln, R, I, D, cs, ss)) else none) = some _
      rw [if_pos (by unfold pz_aa; simp), pz_m1 (pz_ofi (by omega))]
    · obtain ⟨hc, hs⟩ := pz_ite hs
      cases hs
      simp only [Bool.and_eq_true, Nat.blt_eq, Nat.ble_eq] at hc
      obtain ⟨h2, h3, h4, h5, h6, h7⟩ := hc
      refine ⟨?_, hz⟩
      show (if pz_aa (pz_dh L xs (n, K, Ln, R, I, D, cs, ss)).1 r = true then some (.inl (((pz_dh L xs (n, K, Ln, R, I, D, cs, ss)).1.2.2.1 r : Nat) : Int) :: st.map (pz_dv xs), pz_dh L xs (n, K, Ln, R, I, D, cs, ss)) else none) = some _
      have ha : pz_aa (pz_dh L xs (n, K, Ln, R, I, D, cs, ss)).1 r = true := by
        unfold pz_aa
        rw [pz_dh_kd h4]
        show (decide (r = 1) || (decide (2 ≤ r) && (decide (r < n + 2) && (decide (20 ≤ pz_tg 8 K r) && decide (pz_tg 8 K r ≤ 25))))) = true
        rw [decide_eq_true h2, decide_eq_true h3, decide_eq_true h5, decide_eq_true h6]
        simp
      rw [if_pos ha, pz_dh_ln h2 h4, pz_m1 (pz_ofi (by omega))]
      rfl
  · -- new
    obtain ⟨hc, hs⟩ := pz_ite hs
    rw [pz_tk_eq, pz_fn_eq, pz_tk_eq] at hs
    cases hs
    rw [Nat.blt_eq] at hc
    obtain ⟨k1, k2⟩ := pz_dh_new (L := L) (xs := xs) (a := a) (m := 0) (b := b) hc hz
    refine ⟨?_, k2⟩
    rw [k1]
    rfl
  · -- newarray
    rename_i m st
    obtain ⟨hc, hs⟩ := pz_ite hs
    rw [pz_tk_eq, pz_fn_eq, pz_tk_eq] at hs
    cases hs
    simp only [Bool.and_eq_true, Nat.blt_eq, Nat.ble_eq] at hc
    obtain ⟨k1, k2⟩ := pz_dh_new (L := L) (xs := xs) (a := a) (m := m) (b := m) hc.1 hz
    refine ⟨?_, k2⟩
    rw [k1, pz_m1 (pz_ofi (by omega))]
    show (if 0 ≤ Int.ofNat m ∧ Int.ofNat m ≤ 65536 then some (.inr (.inl (n + 2)) :: st.map (pz_dv xs), pz_new (pz_dh L xs (n, K, Ln, R, I, D, cs, ss)) a m m) else none) = some _
    rw [if_pos ⟨Int.natCast_nonneg m, by omega⟩]
    rfl
  · -- anewarray
    rename_i m st
    obtain ⟨hc, hs⟩ := pz_ite hs
    rw [pz_tk_eq, pz_fn_eq, pz_tk_eq] at hs
    cases hs
    simp only [Bool.and_eq_true, Nat.blt_eq, Nat.ble_eq] at hc
    obtain ⟨k1, k2⟩ := pz_dh_new (L := L) (xs := xs) (a := 23) (m := m) (b := m) hc.1 hz
    refine ⟨?_, k2⟩
    rw [k1, pz_m1 (pz_ofi (by omega))]
    show (if 0 ≤ Int.ofNat m ∧ Int.ofNat m ≤ 65536 then some (.inr (.inl (n + 2)) :: st.map (pz_dv xs), pz_new (pz_dh L xs (n, K, Ln, R, I, D, cs, ss)) 23 m m) else none) = some _
    rw [if_pos ⟨Int.natCast_nonneg m, by omega⟩]
    rfl
  · cases hs
/-! the whole list -/
def pz_dO (xs : Nat → Int32) : Option pz_V ⊕ Nat → Option pz_V ⊕ Nat
  | .inl v => .inl (v.map (pz_dv xs))
  | .inr E => .inr E
theorem pz_dca (l : List pz_V) : (l.map (pz_dv xs)).all (fun v => pz_cat v == 1) = l.all (fun v => pz_cat v == 1) := by
  induction l with
  | nil => rfl
  | cons v l ih => rw [pz_mc, List.all_cons, List.all_cons, ih, pz_dcat]
theorem pz_drc {h : pz_aH} {c : Nat} {l : List pz_V} (q : (match l with | .inr (.inl r) :: _ => pz_ai h r c | _ => false) = true) : (match l.map (pz_dv xs) with | .inr (.inl r) :: _ => pz_is (pz_dh L xs h).1 r c | _ => false) = true := by
  rcases l with - | ⟨z | r | w, l⟩
  · cases q
  · cases q
  · exact (pz_ai_is q).1
  · cases q
theorem pz_dro {a : Nat} {v : pz_V} (h : pz_rok a v = true) : pz_rok a (pz_dv xs v) = true := by
  rcases v with x | r | x | x | x
  · simp only [pz_rok, Bool.or_eq_true, Bool.and_eq_true, beq_iff_eq, decide_eq_true_eq] at h
    show pz_rok a (.inl (pz_dn xs x)) = true
    rcases h with (h | ⟨h, h1 | h1⟩) | ⟨h, h1, h2⟩
    · subst h; rfl
    · subst h; subst h1; rw [pz_dn_i ⟨by omega, by omega⟩]; rfl
    · subst h; subst h1; rw [pz_dn_i ⟨by omega, by omega⟩]; rfl
    · rw [pz_dn_i ⟨by omega, by omega⟩]
      simp only [pz_rok, Bool.or_eq_true, Bool.and_eq_true, beq_iff_eq, decide_eq_true_eq]
      exact Or.inr ⟨h, h1, h2⟩
  · exact h
  · exact h
  · exact h
  · exact h
theorem pz_dn0 : pz_dn xs 0 = 0 := pz_dn_i ⟨by omega, by omega⟩
set_option maxHeartbeats 4000000 in
theorem pz_sx_ok {L0 : Nat} (hLL : L0 = L ∨ L0 = 70000) (henv : ∀ k, (env k).1 ≤ (xs k).toInt ∧ (xs k).toInt ≤ (env k).2) {C : Nat → List pz_V → pz_aH → Option pz_aO} {J : Nat → pz_L → List pz_V → pz_aH → Option pz_aO} {C' : Nat → List pz_V → pz_H → Option pz_O} {J' : Nat → pz_L → List pz_V → pz_H → Option pz_O} {hh : List (Nat × Nat)} (hhk : ∀ q ∈ hh, q.2 ≤ 9) {nx : Nat}
    (hC : ∀ (a : Nat) (as : List pz_V) (h : pz_aH) (o : Option pz_V ⊕ Nat) (h' : pz_aH), C a as h = some (o, h') → pz_az h → C' a (as.map (pz_dv xs)) (pz_dh L xs h) = some (pz_dO xs o, pz_dh L xs h') ∧ pz_az h')
    (hJ : ∀ (pc : Nat) (ls : pz_L) (st : List pz_V) (h : pz_aH) (o : Option pz_V ⊕ Nat) (h' : pz_aH), J pc ls st h = some (o, h') → pz_az h → J' pc (pz_dL xs ls) (st.map (pz_dv xs)) (pz_dh L xs h) = some (pz_dO xs o, pz_dh L xs h') ∧ pz_az h') :
    ∀ (ops : List pz_Op) (ls : pz_L) (st : List pz_V) (h : pz_aH) (o : Option pz_V ⊕ Nat) (h' : pz_aH), pz_sx L0 env C J hh nx ops ls st h = some (o, h') → pz_az h → pz_ex C' J' hh nx ops (pz_dL xs ls) (st.map (pz_dv xs)) (pz_dh L xs h) = some (pz_dO xs o, pz_dh L xs h') ∧ pz_az h' := by
  intro ops
  induction ops with
  | nil => intro ls st h o h' he hz; exact hJ _ _ _ _ _ _ he hz
  | cons op ops ih =>
    intro ls st h o h' he hz
    obtain ⟨g, ins, len, a, b, c, e⟩ := op
    simp only [pz_sx] at he
    split at he
    · -- 0
      split at he
      · rename_i v st1 hst
        rw [pz_fvl_eq] at he
        simp only [pz_ex, pz_sp_ok hst]
        exact ih _ _ _ _ _ he hz
      · rename_i hst
        simp only [pz_ex, pz_sp_ok hst]
        exact ih _ _ _ _ _ he hz
      · cases he
    · split at he
      · rename_i ls1 st1 hst
        simp only [pz_ex, pz_sl_ok hst]
        exact ih _ _ _ _ _ he hz
      · cases he
    · split at he
      · rename_i st1 h1 hst
        obtain ⟨k1, k2⟩ := pz_sm_ok hLL henv hz hst
        simp only [pz_ex, k1]
        exact ih _ _ _ _ _ he k2
      · cases he
    · obtain ⟨hc, he⟩ := pz_ite he
      rw [Nat.ble_eq] at hc
      simp only [pz_ex]
      have k := ih _ _ _ _ _ he hz
      rw [pz_m1 ⟨by omega, by omega⟩] at k
      exact k
    · -- a call
      obtain ⟨⟨c1, c2, c3, c4⟩, he⟩ := pz_ite he
      have d4 : c = 99 ∨ (match ((st.map (pz_dv xs)).take b).reverse with | .inr (.inl r) :: _ => pz_is (pz_dh L xs h).1 r c | _ => false) = true := by
        rcases c4 with c4 | c4
        · exact Or.inl c4
        · refine Or.inr ?_
          rw [← List.map_take, ← List.map_reverse]
          exact pz_drc c4
      simp only [pz_ex]
      rw [if_pos ⟨by rw [List.length_map]; exact c1, by rw [← List.map_drop, List.length_map]; exact c2, by rw [← List.map_take, pz_dca]; exact c3, d4⟩]
      rw [← List.map_take, ← List.map_reverse, ← List.map_drop]
      split at he
      · rename_i h1 hc1
        obtain ⟨k1, k2⟩ := hC _ _ _ _ _ hc1 hz
        rw [k1]
        exact ih _ _ _ _ _ he k2
      · rename_i v h1 hc1
        obtain ⟨k1, k2⟩ := hC _ _ _ _ _ hc1 hz
        rw [k1]
        exact ih _ _ _ _ _ he k2
      · rename_i E h1 hc1
        obtain ⟨k1, k2⟩ := hC _ _ _ _ _ hc1 hz
        rw [k1]
        simp only [pz_dO]
        split at he
        · rename_i k hk
          cases he
          rw [hk]
          have h9 : k ≤ 9 := pz_lk_le hhk hk
          refine ⟨?_, k2⟩
          show some (Sum.inl (some (Sum.inl (k : Int))), _) = some (Sum.inl (some (Sum.inl (pz_dn xs (Int.ofNat k)))), _)
          rw [pz_dn_i (pz_ofi (by omega))]
          rfl
        · rename_i hk
          cases he
          rw [hk]
          exact ⟨rfl, k2⟩
      · cases he
    · cases he
    · split at he
      · rename_i r st1
        obtain ⟨hc, he⟩ := pz_ite he
        have k := ih _ _ _ _ _ he hz
        simp only [pz_ex]
        rw [pz_mc]
        show (if 2 ≤ r ∧ (st1.map (pz_dv xs)).length ≤ 4 then _ else _) = _ ∧ _
        rw [if_pos ⟨hc.1, by rw [List.length_map]; exact hc.2⟩]
        exact k
      · cases he
    · obtain ⟨hc, he⟩ := pz_ite he
      cases he
      simp only [pz_ex]
      rw [if_pos (by rw [List.length_map]; exact hc)]
      exact ⟨rfl, hz⟩
    · simp only [pz_ex]
      exact hJ _ _ _ _ _ _ he hz
    · -- branches
      split at he
      · rename_i cd _ x st1
        simp only [pz_ex]
        rw [pz_mc]
        split at he
        · rename_i hq
          have q := pz_sc_ok henv hq
          rw [pz_dn0] at q
          show (if pz_cond cd (pz_dn xs x) 0 = true then _ else _) = _ ∧ _
          rw [if_pos q]
          exact hJ _ _ _ _ _ _ he hz
        · rename_i hq
          have q := pz_sc_ok henv hq
          rw [pz_dn0] at q
          show (if pz_cond cd (pz_dn xs x) 0 = true then _ else _) = _ ∧ _
          rw [if_neg (by rw [q]; decide)]
          exact ih _ _ _ _ _ he hz
        · cases he
      · rename_i cd _ y x st1
        simp only [pz_ex]
        rw [pz_mc, pz_mc]
        split at he
        · rename_i hq
          have q := pz_sc_ok henv hq
          show (if pz_cond cd (pz_dn xs x) (pz_dn xs y) = true then _ else _) = _ ∧ _
          rw [if_pos q]
          exact hJ _ _ _ _ _ _ he hz
        · rename_i hq
          have q := pz_sc_ok henv hq
          show (if pz_cond cd (pz_dn xs x) (pz_dn xs y) = true then _ else _) = _ ∧ _
          rw [if_neg (by rw [q]; decide)]
          exact ih _ _ _ _ _ he hz
        · cases he
      · rename_i r st1
        simp only [pz_ex]
        rw [pz_mc]
        show (if r = 0 then _ else _) = _ ∧ _
        split at he
        · rename_i hr
          rw [if_pos hr]
          exact hJ _ _ _ _ _ _ he hz
        · rename_i hr
          rw [if_neg hr]
          exact ih _ _ _ _ _ he hz
      · cases he
    · split at he
      · rename_i v
        obtain ⟨hc, he⟩ := pz_ite he
        cases he
        simp only [pz_ex]
        show (if pz_rok a (pz_dv xs v) = true then _ else _) = _ ∧ _
        rw [if_pos (pz_dro hc)]
        exact ⟨rfl, hz⟩
      · cases he
    · split at he
      · cases he
        exact ⟨rfl, hz⟩
      · cases he
    · split at he
      · rename_i d lo hi offs x st1
        obtain ⟨hx, he⟩ := pz_ite he
        simp only [pz_ex]
        rw [pz_m1 (pz_xi_i hx)]
        dsimp only
        split at he
        · rename_i hc
          rw [if_pos hc]
          exact hJ _ _ _ _ _ _ he hz
        · rename_i hc
          rw [if_neg hc]
          split at he
          · rename_i o1 ho1
            rw [ho1]
            exact hJ _ _ _ _ _ _ he hz
          · cases he
      · cases he
    · cases he
theorem pz_dL_en (m : Nat) (as : List pz_V) : pz_dL xs (pz_en m as) = pz_en m (as.map (pz_dv xs)) := by
  unfold pz_dL pz_en
  rw [List.map_append, List.map_replicate, List.map_map, List.map_map, List.length_map]
  rfl
theorem pz_srun_ok {L0 : Nat} (hLL : L0 = L ∨ L0 = 70000) (henv : ∀ k, (env k).1 ≤ (xs k).toInt ∧ (xs k).toInt ≤ (env k).2) :
    ∀ (n m pc : Nat) (ls : pz_L) (st : List pz_V) (h : pz_aH) (o : Option pz_V ⊕ Nat) (h' : pz_aH), pz_srun L0 env n m pc ls st h = some (o, h') → pz_az h → pz_run n m pc (pz_dL xs ls) (st.map (pz_dv xs)) (pz_dh L xs h) = some (pz_dO xs o, pz_dh L xs h') ∧ pz_az h'
  | 0, _, _, _, _, _, _, _, he, _ => by cases he
  | n + 1, m, pc, ls, st, h, o, h', he, hz => by
    unfold pz_srun at he
    unfold pz_run
    refine pz_sx_ok (C := fun m' as h' => pz_srun L0 env n m' 0 (pz_en m' as) [] h') (J := fun pc' ls' st' h' => pz_srun L0 env n m pc' ls' st' h') (nx := (pz_blk m pc).2) hLL henv (pz_hc9 m) ?_ ?_ _ _ _ _ _ _ he hz
    · intro a as h1 o1 h1' hc1 hz1
      have k := pz_srun_ok hLL henv n a 0 (pz_en a as) [] h1 o1 h1' hc1 hz1
      rw [pz_dL_en] at k
      exact k
    · intro pc1 ls1 st1 h1 o1 h1' hc1 hz1
      exact pz_srun_ok hLL henv n m pc1 ls1 st1 h1 o1 h1' hc1 hz1
end PZB
