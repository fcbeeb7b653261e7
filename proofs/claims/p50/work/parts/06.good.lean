/-! what the evaluator keeps: values in their ranges, references to known cells, counts that grow -/
def pz_i (x : Int) : Prop := -2147483648 ≤ x ∧ x ≤ 2147483647
def pz_j (x : Int) : Prop := -9223372036854775808 ≤ x ∧ x ≤ 9223372036854775807
def pz_o (n : Nat) : pz_V → Prop
  | .inl x => pz_i x
  | .inr (.inl r) => r < n + 2
  | .inr (.inr (.inl x)) => pz_j x
  | .inr (.inr (.inr (.inl _))) => True
  | .inr (.inr (.inr (.inr _))) => True
/-- the range of a type: 1 boolean, 2 char, 3 long, else int -/
def pz_ir (c : Nat) (x : Int) : Prop := match c with
  | 1 => x = 0 ∨ x = 1
  | 2 => 0 ≤ x ∧ x ≤ 65535
  | 3 => pz_j x
  | _ => pz_i x
/-- the type of a place of a cell of kind k -/
def pz_ty (k j : Nat) : Nat := if k < 11 then pz_tc k j else if k = 21 then 1 else if k = 22 then 2 else 0
/-- a good heap, with the script of L ints xs at 1 -/
def pz_hk (L : Nat) (xs : Nat → Int32) (h : pz_H) : Prop :=
  (∀ r j, pz_ir (pz_ty (h.1.2.1 r) j) (h.2.1 r j)) ∧ (∀ r j, h.1.2.2.2 r j < h.1.1 + 2) ∧ h.1.2.2.1 1 = L ∧ (∀ j, j < L → h.2.1 1 j = (xs j).toInt) ∧ (∀ r, h.1.2.2.1 r ≤ 65536)
def pz_le (h h' : pz_H) : Prop := h.1.1 ≤ h'.1.1 ∧ h.2.2.2.1 ≤ h'.2.2.2.1 ∧ h.2.2.2.2 ≤ h'.2.2.2.2
theorem pz_ite {α : Type} {c : Prop} [Decidable c] {x : Option α} {y : α} (h : (if c then x else none) = some y) : c ∧ x = some y := by
  by_cases hc : c
  · rw [if_pos hc] at h; exact ⟨hc, h⟩
  · rw [if_neg hc] at h; cases h
theorem pz_le.rf (h : pz_H) : pz_le h h := ⟨Nat.le_refl _, Nat.le_refl _, Nat.le_refl _⟩
theorem pz_le.tr {a b c : pz_H} (h : pz_le a b) (k : pz_le b c) : pz_le a c := ⟨Nat.le_trans h.1 k.1, Nat.le_trans h.2.1 k.2.1, Nat.le_trans h.2.2 k.2.2⟩
theorem pz_i32 (x : Int32) : pz_i x.toInt := by
  have h1 := Int32.toInt_lt x
  have h2 := Int32.le_toInt x
  exact ⟨by omega, by omega⟩
theorem pz_j64 (x : Int64) : pz_j x.toInt := by
  have h1 := Int64.toInt_lt x
  have h2 := Int64.le_toInt x
  exact ⟨by omega, by omega⟩
theorem pz_wi (z : Int) : pz_i (pz_w z) := pz_i32 _
theorem pz_of {x : Int} (h : pz_i x) : (Int32.ofInt x).toInt = x := Int32.toInt_ofInt_of_le (by have := h.1; omega) (by have := h.2; omega)
theorem pz_wid {z : Int} (h : pz_i z) : pz_w z = z := pz_of h
theorem pz_lof {x : Int} (h : pz_j x) : (Int64.ofInt x).toInt = x := Int64.toInt_ofInt_of_le (by have := h.1; omega) (by have := h.2; omega)
theorem pz_ofw (z : Int) : Int32.ofInt (pz_w z) = Int32.ofInt z := Int32.ofInt_toInt _
theorem pz_olw (z : Int) : Int64.ofInt (pz_wl z) = Int64.ofInt z := Int64.ofInt_toInt _
theorem pz_ij {x : Int} (h : pz_i x) : pz_j x := by
  have h1 := h.1
  have h2 := h.2
  exact ⟨by omega, by omega⟩
theorem pz_ic (x : Int) : pz_i (x % 65536) := by
  have h1 := Int.emod_nonneg x (show (65536 : Int) ≠ 0 by decide)
  have h2 := Int.emod_lt_of_pos x (show (0 : Int) < 65536 by decide)
  exact ⟨by omega, by omega⟩
theorem pz_icmp (y x : Int) : pz_i (if y < x then 1 else if x = y then 0 else -1) := by
  split
  · exact ⟨by omega, by omega⟩
  · split <;> exact ⟨by omega, by omega⟩
theorem pz_ir_i {c : Nat} {x : Int} (h : pz_ir c x) (hc : c ≠ 3) : pz_i x := by
  unfold pz_ir at h
  split at h
  · rcases h with rfl | rfl <;> exact ⟨by omega, by omega⟩
  · exact ⟨by omega, by omega⟩
  · exact absurd rfl hc
  · exact h
theorem pz_o.mono {n n' : Nat} (hn : n ≤ n') : ∀ {v : pz_V}, pz_o n v → pz_o n' v
  | .inl _, h => h
  | .inr (.inl _), h => Nat.lt_of_lt_of_le h (by omega)
  | .inr (.inr (.inl _)), h => h
  | .inr (.inr (.inr (.inl _))), h => h
  | .inr (.inr (.inr (.inr _))), h => h
theorem pz_tmod {x y : Int} (hx : pz_i x) : pz_i (x.tmod y) := by
  have h1 := Int.natAbs_tmod x y
  have hx1 := hx.1
  have hx2 := hx.2
  have h2 : (x.tmod y).natAbs ≤ x.natAbs := by
    rw [h1]; exact Nat.mod_le _ _
  constructor
  · rcases Int.lt_or_le x 0 with h | h
    · omega
    · have := Int.tmod_nonneg y h; omega
  · rcases Int.lt_or_le 0 x with h | h
    · omega
    · have h3 : 0 ≤ (-x).tmod y := Int.tmod_nonneg y (by omega)
      rw [Int.neg_tmod] at h3
      omega
theorem pz_tc3 (k j : Nat) : pz_tc k j ≠ 3 := by
  unfold pz_tc
  split
  · split
    · decide
    · split <;> decide
  · decide
theorem pz_ty3 {k : Nat} (j : Nat) (hk : k ≠ 24) : pz_ty k j ≠ 3 := by
  unfold pz_ty
  split
  · exact pz_tc3 k j
  · split
    · decide
    · split
      · decide
      · decide
theorem pz_hk.i {L : Nat} {xs : Nat → Int32} {h : pz_H} (q : pz_hk L xs h) {r : Nat} (hr : h.1.2.1 r ≠ 24) (j : Nat) : pz_i (h.2.1 r j) := pz_ir_i (q.1 r j) (pz_ty3 j hr)
theorem pz_is_spec {S : pz_S} {r c : Nat} (h : pz_is S r c = true) : 2 ≤ r ∧ r < S.1 + 2 ∧ S.2.1 r = c := by
  simpa [pz_is, Bool.and_eq_true] using h
theorem pz_np_spec {ls : pz_L} : ∀ {i : Nat}, pz_np ls i = true → ∀ (j : Nat) (v : pz_V), i = j + 1 → ls[j]? = some (some v) → pz_cat v = 1
  | 0, _, j, v, h, _ => by omega
  | i + 1, h, j, v, hj, hv => by
    have : i = j := by omega
    subst this
    simp only [pz_np, hv] at h
    simpa using h
set_option maxHeartbeats 4000000 in
theorem pz_pure_ok {n : Nat} {ins : Instr} {st st' : List pz_V} (h : pz_pure ins st = some st') (ho : ∀ v ∈ st, pz_o n v) : ∀ v ∈ st', pz_o n v := by
  unfold pz_pure at h
  split at h <;> first | cases h | (split at h <;> cases h)
  all_goals (simp only [List.mem_cons, forall_eq_or_imp] at ho ⊢)
  all_goals first
    | exact ⟨pz_i32 _, ho.2.2⟩
    | exact ⟨pz_i32 _, ho.2⟩
    | exact ⟨trivial, ho⟩
    | exact ⟨trivial, ho.2⟩
    | exact ⟨trivial, ho.2.2⟩
    | exact ho.2
    | exact ⟨ho.1, ho.1, ho.2⟩
    | exact ⟨ho.1, ho.2.1, ho.1, ho.2.1, ho.2.2⟩
    | exact ⟨pz_ij ho.1, ho.2⟩
    | (refine ⟨?_, ho⟩; show pz_i _; exact ⟨by omega, by omega⟩)
    | (refine ⟨?_, ho⟩; show 0 < n + 2; omega)
    | (refine ⟨?_, ho⟩; rename_i k; show pz_j _; have := k.isLt; exact ⟨by omega, by omega⟩)
    | exact ⟨pz_j64 _, ho.2.2⟩
    | exact ⟨pz_tmod ho.2.1, ho.2.2⟩
    | exact ⟨pz_ic _, ho.2⟩
    | exact ⟨pz_icmp _ _, ho.2.2⟩
theorem pz_mem_set {α : Type} {l : List α} {i : Nat} {a b : α} (h : b ∈ l.set i a) : b = a ∨ b ∈ l := by
  rcases List.mem_or_eq_of_mem_set h with h | h
  · exact Or.inr h
  · exact Or.inl h
theorem pz_set_ok {n : Nat} {ls : pz_L} {i : Nat} {v : pz_V} (hl : ∀ u, some u ∈ ls → pz_o n u) (hv : pz_o n v) : ∀ u, some u ∈ pz_set ls i v → pz_o n u := by
  intro u hu
  unfold pz_set at hu
  split at hu
  · rcases pz_mem_set hu with h | h
    · cases h
    · rcases pz_mem_set h with h | h
      · cases h; exact hv
      · exact hl u h
  · rcases pz_mem_set hu with h | h
    · cases h; exact hv
    · exact hl u h
theorem pz_set_len (ls : pz_L) (i : Nat) (v : pz_V) : (pz_set ls i v).length = ls.length := by
  unfold pz_set
  split <;> simp
theorem pz_loc_ok {n : Nat} {ins : Instr} {ls ls' : pz_L} {st st' : List pz_V} (h : pz_loc ins ls st = some (ls', st')) (hl : ∀ u, some u ∈ ls → pz_o n u) (ho : ∀ v ∈ st, pz_o n v) :
    (∀ u, some u ∈ ls' → pz_o n u) ∧ (∀ v ∈ st', pz_o n v) ∧ ls'.length = ls.length := by
  unfold pz_loc at h
  split at h
  · split at h
    · rename_i v hv
      split at h
      · cases h
        exact ⟨hl, fun u hu => by rcases List.mem_cons.mp hu with rfl | hu; exact hl _ (List.mem_of_getElem? hv); exact ho u hu, rfl⟩
      · cases h
    · cases h
  · split at h
    · split at h
      · split at h
        · cases h
          exact ⟨pz_set_ok hl (ho _ List.mem_cons_self), fun u hu => ho u (List.mem_cons_of_mem _ hu), pz_set_len _ _ _⟩
        · cases h
      · cases h
    · split at h
      · split at h
        · split at h
          · cases h
            refine ⟨fun u hu => ?_, ho, by simp⟩
            rcases pz_mem_set hu with h | h
            · cases h; exact pz_wi _
            · exact hl u h
          · cases h
        · cases h
      · cases h
theorem pz_u2_at {α : Type} (f : Nat → Nat → α) (r k : Nat) (x : α) (r' k' : Nat) : pz_u2 f r k x r' k' = if r' = r ∧ k' = k then x else f r' k' := rfl
theorem pz_u1_at {α : Type} (f : Nat → α) (r : Nat) (x : α) (r' : Nat) : pz_u1 f r x r' = if r' = r then x else f r' := rfl
theorem pz_hk_iv {L : Nat} {xs : Nat → Int32} {h : pz_H} (q : pz_hk L xs h) {r k : Nat} {x : Int} {dv : (Nat → Nat → UInt64) × Nat × Nat} (hr : 2 ≤ r) (hx : pz_ir (pz_ty (h.1.2.1 r) k) x) : pz_hk L xs (h.1, pz_u2 h.2.1 r k x, dv) := by
  obtain ⟨q1, q2, q3, q4, q5⟩ := q
  refine ⟨fun r' j => ?_, q2, q3, fun j hj => ?_, q5⟩
  · show pz_ir _ (pz_u2 h.2.1 r k x r' j)
    rw [pz_u2_at]
    split
    · rename_i hh; rw [hh.1, hh.2]; exact hx
    · exact q1 r' j
  · show pz_u2 h.2.1 r k x 1 j = _
    rw [pz_u2_at, if_neg (by omega)]
    exact q4 j hj
theorem pz_hk_rf {L : Nat} {xs : Nat → Int32} {h : pz_H} (q : pz_hk L xs h) {r k v : Nat} (hv : v < h.1.1 + 2) : pz_hk L xs ((h.1.1, h.1.2.1, h.1.2.2.1, pz_u2 h.1.2.2.2 r k v), h.2) := by
  obtain ⟨q1, q2, q3, q4, q5⟩ := q
  refine ⟨q1, fun r' j => ?_, q3, q4, q5⟩
  show pz_u2 h.1.2.2.2 r k v r' j < h.1.1 + 2
  rw [pz_u2_at]
  split
  · exact hv
  · exact q2 r' j
theorem pz_ir0 (c : Nat) : pz_ir c 0 := by
  unfold pz_ir
  split
  · exact Or.inl rfl
  · decide
  · exact ⟨by omega, by omega⟩
  · exact ⟨by omega, by omega⟩
theorem pz_hk_new {L : Nat} {xs : Nat → Int32} {h : pz_H} (q : pz_hk L xs h) {kd ln sl : Nat} (hl : ln ≤ 65536) : pz_hk L xs (pz_new h kd ln sl) ∧ pz_le h (pz_new h kd ln sl) := by
  obtain ⟨q1, q2, q3, q4, q5⟩ := q
  refine ⟨⟨fun r j => ?_, fun r j => ?_, ?_, fun j hj => ?_, fun r => ?_⟩, ⟨Nat.le_succ _, Nat.le_succ _, Nat.le_add_right _ _⟩⟩
  · show pz_ir (pz_ty (pz_u1 h.1.2.1 (h.1.1 + 2) kd r) j) (pz_u1 h.2.1 (h.1.1 + 2) (fun _ => 0) r j)
    rw [pz_u1_at, pz_u1_at]
    split
    · exact pz_ir0 _
    · exact q1 r j
  · show pz_u1 h.1.2.2.2 (h.1.1 + 2) (fun _ => 0) r j < h.1.1 + 1 + 2
    rw [pz_u1_at]
    split
    · show 0 < h.1.1 + 1 + 2
      omega
    · have := q2 r j; omega
  · show pz_u1 h.1.2.2.1 (h.1.1 + 2) ln 1 = L
    rw [pz_u1_at, if_neg (by omega)]; exact q3
  · show pz_u1 h.2.1 (h.1.1 + 2) (fun _ => 0) 1 j = _
    rw [pz_u1_at, if_neg (by omega)]; exact q4 j hj
  · show pz_u1 h.1.2.2.1 (h.1.1 + 2) ln r ≤ 65536
    rw [pz_u1_at]
    split
    · exact hl
    · exact q5 r
