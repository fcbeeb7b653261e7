/-! playing out: who starts next, whether all have started -/
def q_aa (k a : Nat → Int) : Prop := ∀ e : Int, 0 ≤ e → e < k 0 → a e.toNat ≠ -1
abbrev q_aaP (a : Nat → Int) (e : Int) : Prop := a e.toNat ≠ -1
/-- the first event that can start, or -1 -/
def q_nx (v a k : Nat → Int) (m e : Int) : Prop := (0 ≤ e ∧ e < k 0 ∧ q_rs v a k e m = 45 ∧ ∀ i : Int, 0 ≤ i → i < e → q_rs v a k i m ≠ 45) ∨ (e = -1 ∧ ∀ i : Int, 0 ≤ i → i < k 0 → q_rs v a k i m ≠ 45)
def q_any (k : Nat → Int) : Prop := ∃ e : Int, 1 ≤ e ∧ e < k 0 ∧ q_sta k e
