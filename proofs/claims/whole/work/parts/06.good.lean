/-! what the evaluator keeps: values in their ranges, references to known cells, counts that grow -/
def pz_i (x : Int) : Prop := -2147483648 ≤ x ∧ x ≤ 2147483647
def pz_j (x : Int) : Prop := -9223372036854775808 ≤ x ∧ x ≤ 9223372036854775807
def pz_o (n : Nat) : pz_V → Prop
  | .inl x => pz_i x
  | .inr (.inl r) => r < n + 2
  | .inr (.inr (.inl x)) => pz_j x
  | .inr (.inr (.inr (.inl _))) => True
  | .inr (.inr (.inr (.inr _))) => True
/-- the range of a type: 1 boolean, 2 char, 3 long, else int -/
def pz_ir (c : Nat) (x : Int) : Prop := match c with
  | 1 => x = 0 ∨ x = 1
  | 2 => 0 ≤ x ∧ x ≤ 65535
  | 3 => pz_j x
  | _ => pz_i x
/-- the type of a place of a cell of kind k -/
def pz_ty (k j : Nat) : Nat := if k < 12 then pz_tc k j else if k = 21 then 1 else if k = 22 then 2 else if k = 24 then 3 else 0
/-- a good heap, with the script of L ints xs at 1 -/
def pz_hk (L : Nat) (xs : Nat → Int32) (h : pz_H) : Prop :=
  (∀ r j, pz_ir (pz_ty (h.1.2.1 r) j) (h.2.1 r j)) ∧ (∀ r j, h.1.2.2.2 r j < h.1.1 + 2) ∧ h.1.2.2.1 1 = L ∧ (∀ j, j < L → h.2.1 1 j = (xs j).toInt) ∧ (∀ r, h.1.2.2.1 r ≤ 65536)
def pz_le (h h' : pz_H) : Prop := h.1.1 ≤ h'.1.1 ∧ h.2.2.2.1 ≤ h'.2.2.2.1 ∧ h.2.2.2.2 ≤ h'.2.2.2.2
theorem pz_ite {α : Type} {c : Prop} [Decidable c] {x : Option α} {y : α} (h : (if c then x else none) = some y) : c ∧ x = some y := by
  by_cases hc : c
  · rw [if_pos hc] at h; exact ⟨hc, h⟩
  · rw [if_neg hc] at h; cases h
theorem pz_le.rf (h : pz_H) : pz_le h h := ⟨Nat.le_refl _, Nat.le_refl _, Nat.le_refl _⟩
theorem pz_le.tr {a b c : pz_H} (h : pz_le a b) (k : pz_le b c) : pz_le a c := ⟨Nat.le_trans h.1 k.1, Nat.le_trans h.2.1 k.2.1, Nat.le_trans h.2.2 k.2.2⟩
theorem pz_i32 (x : Int32) : pz_i x.toInt := by
  have h1 := Int32.toInt_lt x
  have h2 := Int32.le_toInt x
  exact ⟨by omega, by omega⟩
theorem pz_j64 (x : Int64) : pz_j x.toInt := by
  have h1 := Int64.toInt_lt x
  have h2 := Int64.le_toInt x
  exact ⟨by omega, by omega⟩
theorem pz_wi (z : Int) : pz_i (pz_w z) := pz_i32 _
theorem pz_of {x : Int} (h : pz_i x) : (Int32.ofInt x).toInt = x := Int32.toInt_ofInt_of_le (by have := h.1; omega) (by have := h.2; omega)
theorem pz_wid {z : Int} (h : pz_i z) : pz_w z = z := pz_of h
theorem pz_lof {x : Int} (h : pz_j x) : (Int64.ofInt x).toInt = x := Int64.toInt_ofInt_of_le (by have := h.1; omega) (by have := h.2; omega)
theorem pz_ofw (z : Int) : Int32.ofInt (pz_w z) = Int32.ofInt z := Int32.ofInt_toInt _
theorem pz_olw (z : Int) : Int64.ofInt (pz_wl z) = Int64.ofInt z := Int64.ofInt_toInt _
theorem pz_ij {x : Int} (h : pz_i x) : pz_j x := by
  have h1 := h.1
  have h2 := h.2
  exact ⟨by omega, by omega⟩
theorem pz_ic (x : Int) : pz_i (x % 65536) := by
  have h1 := Int.emod_nonneg x (show (65536 : Int) ≠ 0 by decide)
  have h2 := Int.emod_lt_of_pos x (show (0 : Int) < 65536 by decide)
  exact ⟨by omega, by omega⟩
theorem pz_icmp (y x : Int) : pz_i (if y < x then 1 else if x = y then 0 else -1) := by
  split
  · exact ⟨by omega, by omega⟩
  · split <;> exact ⟨by omega, by omega⟩
theorem pz_ir_i {c : Nat} {x : Int} (h : pz_ir c x) (hc : c ≠ 3) : pz_i x := by
  unfold pz_ir at h
  split at h
  · rcases h with rfl | rfl <;> exact ⟨by omega, by omega⟩
  · exact ⟨by omega, by omega⟩
  · exact absurd rfl hc
  · exact h
theorem pz_o.mono {n n' : Nat} (hn : n ≤ n') : ∀ {v : pz_V}, pz_o n v → pz_o n' v
  | .inl _, h => h
  | .inr (.inl _), h => Nat.lt_of_lt_of_le h (by omega)
  | .inr (.inr (.inl _)), h => h
  | .inr (.inr (.inr (.inl _))), h => h
  | .inr (.inr (.inr (.inr _))), h => h
theorem pz_tmod {x y : Int} (hx : pz_i x) : pz_i (x.tmod y) := by
  have h1 := Int.natAbs_tmod x y
  have hx1 := hx.1
  have hx2 := hx.2
  have h2 : (x.tmod y).natAbs ≤ x.natAbs := by
    rw [h1]; exact Nat.mod_le _ _
  constructor
  · rcases Int.lt_or_le x 0 with h | h
    · omega
    · have := Int.tmod_nonneg y h; omega
  · rcases Int.lt_or_le 0 x with h | h
    · omega
    · have h3 : 0 ≤ (-x).tmod y := Int.tmod_nonneg y (by omega)
      rw [Int.neg_tmod] at h3
      omega
theorem pz_tc3 (k j : Nat) : pz_tc k j ≠ 3 := by
  unfold pz_tc
  split
  · split
    · decide
    · split <;> decide
  · decide
theorem pz_ty3 {k : Nat} (j : Nat) (hk : k ≠ 24) : pz_ty k j ≠ 3 := by
  unfold pz_ty
  split
  · exact pz_tc3 k j
  · split
    · decide
    · split
      · decide
      · first | decide | (rw [if_neg hk]; decide) | (split <;> first | decide | (rename_i q; exact absurd q hk))
theorem pz_hk.i {L : Nat} {xs : Nat → Int32} {h : pz_H} (q : pz_hk L xs h) {r : Nat} (hr : h.1.2.1 r ≠ 24) (j : Nat) : pz_i (h.2.1 r j) := pz_ir_i (q.1 r j) (pz_ty3 j hr)
theorem pz_is_spec {S : pz_S} {r c : Nat} (h : pz_is S r c = true) : 2 ≤ r ∧ r < S.1 + 2 ∧ S.2.1 r = c := by
  simpa [pz_is, Bool.and_eq_true] using h
theorem pz_np_spec {ls : pz_L} : ∀ {i : Nat}, pz_np ls i = true → ∀ (j : Nat) (v : pz_V), i = j + 1 → ls[j]? = some (some v) → pz_cat v = 1
  | 0, _, j, v, h, _ => by omega
  | i + 1, h, j, v, hj, hv => by
    have : i = j := by omega
    subst this
    simp only [pz_np, hv] at h
    simpa using h
set_option maxHeartbeats 4000000 in
theorem pz_pure_ok {n : Nat} {ins : Instr} {st st' : List pz_V} (h : pz_pure ins st = some st') (ho : ∀ v ∈ st, pz_o n v) : ∀ v ∈ st', pz_o n v := by
  unfold pz_pure at h
  split at h <;> first | cases h | (split at h <;> cases h)
  all_goals (simp only [List.mem_cons, forall_eq_or_imp] at ho ⊢)
  all_goals first
    | exact ⟨pz_i32 _, ho.2.2⟩
    | exact ⟨pz_i32 _, ho.2⟩
    | exact ⟨trivial, ho⟩
    | exact ⟨trivial, ho.2⟩
    | exact ⟨trivial, ho.2.2⟩
    | exact ho.2
    | exact ⟨ho.1, ho.1, ho.2⟩
    | exact ⟨ho.1, ho.2.1, ho.1, ho.2.1, ho.2.2⟩
    | exact ⟨pz_ij ho.1, ho.2⟩
    | (refine ⟨?_, ho⟩; show pz_i _; exact ⟨by omega, by omega⟩)
    | (refine ⟨?_, ho⟩; show 0 < n + 2; omega)
    | (refine ⟨?_, ho⟩; rename_i k; show pz_j _; have := k.isLt; exact ⟨by omega, by omega⟩)
    | exact ⟨pz_j64 _, ho.2.2⟩
    | exact ⟨pz_tmod ho.2.1, ho.2.2⟩
    | exact ⟨pz_ic _, ho.2⟩
    | exact ⟨pz_icmp _ _, ho.2.2⟩
theorem pz_mem_set {α : Type} {l : List α} {i : Nat} {a b : α} (h : b ∈ l.set i a) : b = a ∨ b ∈ l := by
  rcases List.mem_or_eq_of_mem_set h with h | h
  · exact Or.inr h
  · exact Or.inl h
theorem pz_set_ok {n : Nat} {ls : pz_L} {i : Nat} {v : pz_V} (hl : ∀ u, some u ∈ ls → pz_o n u) (hv : pz_o n v) : ∀ u, some u ∈ pz_set ls i v → pz_o n u := by
  intro u hu
  unfold pz_set at hu
  split at hu
  · rcases pz_mem_set hu with h | h
    · cases h
    · rcases pz_mem_set h with h | h
      · cases h; exact hv
      · exact hl u h
  · rcases pz_mem_set hu with h | h
    · cases h; exact hv
    · exact hl u h
theorem pz_set_len (ls : pz_L) (i : Nat) (v : pz_V) : (pz_set ls i v).length = ls.length := by
  unfold pz_set
  split <;> simp
theorem pz_loc_ok {n : Nat} {ins : Instr} {ls ls' : pz_L} {st st' : List pz_V} (h : pz_loc ins ls st = some (ls', st')) (hl : ∀ u, some u ∈ ls → pz_o n u) (ho : ∀ v ∈ st, pz_o n v) :
    (∀ u, some u ∈ ls' → pz_o n u) ∧ (∀ v ∈ st', pz_o n v) ∧ ls'.length = ls.length := by
  unfold pz_loc at h
  split at h
  · split at h
    · rename_i v hv
      split at h
      · cases h
        exact ⟨hl, fun u hu => by rcases List.mem_cons.mp hu with rfl | hu; exact hl _ (List.mem_of_getElem? hv); exact ho u hu, rfl⟩
      · cases h
    · cases h
  · split at h
    · split at h
      · split at h
        · cases h
          exact ⟨pz_set_ok hl (ho _ List.mem_cons_self), fun u hu => ho u (List.mem_cons_of_mem _ hu), pz_set_len _ _ _⟩
        · cases h
      · cases h
    · split at h
      · split at h
        · split at h
          · cases h
            refine ⟨fun u hu => ?_, ho, by simp⟩
            rcases pz_mem_set hu with h | h
            · cases h; exact pz_wi _
            · exact hl u h
          · cases h
        · cases h
      · cases h
theorem pz_u2_at {α : Type} (f : Nat → Nat → α) (r k : Nat) (x : α) (r' k' : Nat) : pz_u2 f r k x r' k' = if r' = r ∧ k' = k then x else f r' k' := rfl
theorem pz_u1_at {α : Type} (f : Nat → α) (r : Nat) (x : α) (r' : Nat) : pz_u1 f r x r' = if r' = r then x else f r' := rfl
theorem pz_hk_iv {L : Nat} {xs : Nat → Int32} {h : pz_H} (q : pz_hk L xs h) {r k : Nat} {x : Int} {dv : (Nat → Nat → UInt64) × Nat × Nat} (hr : 2 ≤ r) (hx : pz_ir (pz_ty (h.1.2.1 r) k) x) : pz_hk L xs (h.1, pz_u2 h.2.1 r k x, dv) := by
  obtain ⟨q1, q2, q3, q4, q5⟩ := q
  refine ⟨fun r' j => ?_, q2, q3, fun j hj => ?_, q5⟩
  · show pz_ir _ (pz_u2 h.2.1 r k x r' j)
    rw [pz_u2_at]
    split
    · rename_i hh; rw [hh.1, hh.2]; exact hx
    · exact q1 r' j
  · show pz_u2 h.2.1 r k x 1 j = _
    rw [pz_u2_at, if_neg (by omega)]
    exact q4 j hj
theorem pz_hk_rf {L : Nat} {xs : Nat → Int32} {h : pz_H} (q : pz_hk L xs h) {r k v : Nat} (hv : v < h.1.1 + 2) : pz_hk L xs ((h.1.1, h.1.2.1, h.1.2.2.1, pz_u2 h.1.2.2.2 r k v), h.2) := by
  obtain ⟨q1, q2, q3, q4, q5⟩ := q
  refine ⟨q1, fun r' j => ?_, q3, q4, q5⟩
  show pz_u2 h.1.2.2.2 r k v r' j < h.1.1 + 2
  rw [pz_u2_at]
  split
  · exact hv
  · exact q2 r' j
theorem pz_ir0 (c : Nat) : pz_ir c 0 := by
  unfold pz_ir
  split
  · exact Or.inl rfl
  · decide
  · exact ⟨by omega, by omega⟩
  · exact ⟨by omega, by omega⟩
theorem pz_hk_new {L : Nat} {xs : Nat → Int32} {h : pz_H} (q : pz_hk L xs h) {kd ln sl : Nat} (hl : ln ≤ 65536) : pz_hk L xs (pz_new h kd ln sl) ∧ pz_le h (pz_new h kd ln sl) := by
  obtain ⟨q1, q2, q3, q4, q5⟩ := q
  refine ⟨⟨fun r j => ?_, fun r j => ?_, ?_, fun j hj => ?_, fun r => ?_⟩, ⟨Nat.le_succ _, Nat.le_succ _, Nat.le_add_right _ _⟩⟩
  · show pz_ir (pz_ty (pz_u1 h.1.2.1 (h.1.1 + 2) kd r) j) (pz_u1 h.2.1 (h.1.1 + 2) (fun _ => 0) r j)
    rw [pz_u1_at, pz_u1_at]
    split
    · exact pz_ir0 _
    · exact q1 r j
  · show pz_u1 h.1.2.2.2 (h.1.1 + 2) (fun _ => 0) r j < h.1.1 + 1 + 2
    rw [pz_u1_at]
    split
    · show 0 < h.1.1 + 1 + 2
      omega
    · have := q2 r j; omega
  · show pz_u1 h.1.2.2.1 (h.1.1 + 2) ln 1 = L
    rw [pz_u1_at, if_neg (by omega)]; exact q3
  · show pz_u1 h.2.1 (h.1.1 + 2) (fun _ => 0) 1 j = _
    rw [pz_u1_at, if_neg (by omega)]; exact q4 j hj
  · show pz_u1 h.1.2.2.1 (h.1.1 + 2) ln r ≤ 65536
    rw [pz_u1_at]
    split
    · exact hl
    · exact q5 r
theorem pz_tcs {a b : Nat} (h : b < pz_nf a) : a < 12 := by
  unfold pz_nf at h
  rcases Nat.lt_or_ge a 12 with q | q
  · exact q
  · rw [List.getElem?_eq_none (by show 12 ≤ a; exact q)] at h
    simp at h
/-- what pz_ck1 says of an instruction of the group 2, as far as ranges go -/
theorem pz_ck_get {m len a b c e pc i : Nat} (h : pz_ck1 m 2 (.getfield i) len a b c e pc = true) : c = pz_tc a b ∧ b < pz_nf a := by
  simp only [pz_ck1, Bool.and_eq_true] at h
  obtain ⟨-, h⟩ := h
  split at h
  · simp only [Bool.and_eq_true, decide_eq_true_eq, beq_iff_eq] at h
    exact ⟨h.2.2.2.2.1, h.2.2.2.2.2⟩
  · cases h
theorem pz_ck_put {m len a b c e pc i : Nat} (h : pz_ck1 m 2 (.putfield i) len a b c e pc = true) : c = pz_tc a b ∧ b < pz_nf a := by
  simp only [pz_ck1, Bool.and_eq_true] at h
  obtain ⟨-, h⟩ := h
  split at h
  · simp only [Bool.and_eq_true, decide_eq_true_eq, beq_iff_eq] at h
    exact ⟨h.2.2.2.2.1, h.2.2.2.2.2.1⟩
  · cases h
theorem pz_tc_in (a b : Nat) : pz_tc a b = 0 ∨ pz_tc a b = 1 ∨ pz_tc a b = 9 := by
  unfold pz_tc
  split
  · split
    · exact Or.inl rfl
    · split
      · exact Or.inr (Or.inl rfl)
      · exact Or.inr (Or.inr rfl)
  · exact Or.inr (Or.inr rfl)
theorem pz_fit_int {S : pz_S} {a b : Nat} {x : Int} (h : pz_fit S (pz_tc a b) (.inl x) = true) (hx : pz_i x) : pz_ir (pz_tc a b) x := by
  rcases pz_tc_in a b with e | e | e <;> rw [e] at h ⊢
  · exact hx
  · simp [pz_fit] at h
    exact h
  · exact hx
theorem pz_fit_ref {S : pz_S} {c r : Nat} (h : pz_fit S c (.inr (.inl r)) = true) : c = 9 ∧ r < S.1 + 2 := by
  simp [pz_fit] at h
  refine ⟨h.1, ?_⟩
  rcases h.2 with h | h
  · omega
  · exact h.2
theorem pz_ty_obj {k : Nat} (j : Nat) (h : k < 12) : pz_ty k j = pz_tc k j := by unfold pz_ty; rw [if_pos h]
set_option maxHeartbeats 4000000 in
theorem pz_mem_ok {L : Nat} {xs : Nat → Int32} (hLb : L ≤ 2560) {m len a b c e pc : Nat} {ins : Instr} {st st' : List pz_V} {h h' : pz_H} (hm : pz_mem ins a b c st h = some (st', h')) (hc : pz_ck1 m 2 ins len a b c e pc = true) (q : pz_hk L xs h) (ho : ∀ v ∈ st, pz_o h.1.1 v) :
    pz_hk L xs h' ∧ pz_le h h' ∧ ∀ v ∈ st', pz_o h'.1.1 v := by
  unfold pz_mem at hm
  split at hm
  · -- getfield
    simp only [List.mem_cons, forall_eq_or_imp] at ho
    split at hm
    · rename_i hi
      cases hm
      obtain ⟨h1, h2⟩ := pz_ck_get hc
      obtain ⟨-, -, h3⟩ := pz_is_spec hi
      refine ⟨q, pz_le.rf _, ?_⟩
      simp only [List.mem_cons, forall_eq_or_imp]
      refine ⟨?_, ho.2⟩
      split
      · exact q.2.1 _ _
      · exact q.i (by rw [h3]; have := pz_tcs h2; omega) _
    · cases hm
  · -- putfield
    simp only [List.mem_cons, forall_eq_or_imp] at ho
    split at hm
    · rename_i hi
      obtain ⟨h1, h2⟩ := pz_ck_put hc
      obtain ⟨g1, -, g3⟩ := pz_is_spec hi.1
      split at hm
      · cases hm
        refine ⟨pz_hk_iv q g1 ?_, pz_le.rf _, ho.2.2⟩
        rw [g3, pz_ty_obj _ (pz_tcs h2)]
        have h5 := hi.2
        rw [h1] at h5
        exact pz_fit_int h5 ho.1
      · cases hm
        exact ⟨pz_hk_rf q (pz_fit_ref hi.2).2, pz_le.rf _, ho.2.2⟩
      · cases hm
    · cases hm
  · -- iaload
    simp only [List.mem_cons, forall_eq_or_imp] at ho
    split at hm
    · rename_i hi
      cases hm
      refine ⟨q, pz_le.rf _, ?_⟩
      simp only [List.mem_cons, forall_eq_or_imp]
      refine ⟨?_, ho.2.2⟩
      have h6 := hi.1
      simp only [pz_ia, Bool.or_eq_true, decide_eq_true_eq] at h6
      rcases h6 with h6 | h6
      · exact q.i (by rw [(pz_is_spec h6).2.2]; decide) _
      · subst h6
        have h7 := hi.2.2
        rw [q.2.2.1] at h7
        show pz_i _
        rw [q.2.2.2.1 _ (by omega)]
        exact pz_i32 _
    · cases hm
  · simp only [List.mem_cons, forall_eq_or_imp] at ho
    split at hm
    · rename_i hi
      cases hm
      refine ⟨q, pz_le.rf _, ?_⟩
      simp only [List.mem_cons, forall_eq_or_imp]
      exact ⟨q.i (by rw [(pz_is_spec hi.1).2.2]; decide) _, ho.2.2⟩
    · cases hm
  · simp only [List.mem_cons, forall_eq_or_imp] at ho
    split at hm
    · rename_i hi
      cases hm
      refine ⟨q, pz_le.rf _, ?_⟩
      simp only [List.mem_cons, forall_eq_or_imp]
      exact ⟨q.i (by rw [(pz_is_spec hi.1).2.2]; decide) _, ho.2.2⟩
    · cases hm
  · -- laload
    simp only [List.mem_cons, forall_eq_or_imp] at ho
    split at hm
    · rename_i i r st hi
      cases hm
      refine ⟨q, pz_le.rf _, ?_⟩
      simp only [List.mem_cons, forall_eq_or_imp]
      refine ⟨?_, ho.2.2⟩
      have h6 := q.1 r i.toNat
      rw [(pz_is_spec hi.1).2.2] at h6
      exact h6
    · cases hm
  · simp only [List.mem_cons, forall_eq_or_imp] at ho
    split at hm
    · cases hm
      refine ⟨q, pz_le.rf _, ?_⟩
      simp only [List.mem_cons, forall_eq_or_imp]
      exact ⟨trivial, ho.2.2⟩
    · cases hm
  · simp only [List.mem_cons, forall_eq_or_imp] at ho
    split at hm
    · cases hm
      refine ⟨q, pz_le.rf _, ?_⟩
      simp only [List.mem_cons, forall_eq_or_imp]
      exact ⟨q.2.1 _ _, ho.2.2⟩
    · cases hm
  · -- iastore
    simp only [List.mem_cons, forall_eq_or_imp] at ho
    split at hm
    · rename_i hi
      cases hm
      obtain ⟨g1, -, g3⟩ := pz_is_spec hi.1
      refine ⟨pz_hk_iv q g1 ?_, pz_le.rf _, ho.2.2.2⟩
      rw [g3]
      exact ho.1
    · cases hm
  · simp only [List.mem_cons, forall_eq_or_imp] at ho
    split at hm
    · rename_i hi
      cases hm
      obtain ⟨g1, -, g3⟩ := pz_is_spec hi.1
      refine ⟨pz_hk_iv q g1 ?_, pz_le.rf _, ho.2.2.2⟩
      rw [g3]
      exact hi.2.2.2
    · cases hm
  · simp only [List.mem_cons, forall_eq_or_imp] at ho
    split at hm
    · rename_i hi
      cases hm
      obtain ⟨g1, -, g3⟩ := pz_is_spec hi.1
      refine ⟨pz_hk_iv q g1 ?_, pz_le.rf _, ho.2.2.2⟩
      rw [g3]
      exact hi.2.2.2
    · cases hm
  · simp only [List.mem_cons, forall_eq_or_imp] at ho
    split at hm
    · rename_i hi
      cases hm
      obtain ⟨g1, -, g3⟩ := pz_is_spec hi.1
      refine ⟨pz_hk_iv q g1 ?_, pz_le.rf _, ho.2.2.2⟩
      rw [g3]
      exact ho.1
    · cases hm
  · simp only [List.mem_cons, forall_eq_or_imp] at ho
    split at hm
    · cases hm
      exact ⟨q, pz_le.rf _, ho.2.2.2⟩
    · cases hm
  · simp only [List.mem_cons, forall_eq_or_imp] at ho
    split at hm
    · rename_i hi
      cases hm
      exact ⟨pz_hk_rf q (pz_is_spec hi.2.2.2).2.1, pz_le.rf _, ho.2.2.2⟩
    · cases hm
  · -- arraylength
    simp only [List.mem_cons, forall_eq_or_imp] at ho
    split at hm
    · rename_i r st hi
      cases hm
      refine ⟨q, pz_le.rf _, ?_⟩
      simp only [List.mem_cons, forall_eq_or_imp]
      refine ⟨?_, ho.2⟩
      have := q.2.2.2.2 r
      exact ⟨by omega, by omega⟩
    · cases hm
  · -- new
    cases hm
    obtain ⟨k1, k2⟩ := pz_hk_new q (kd := a) (ln := 0) (sl := b) (by omega)
    refine ⟨k1, k2, ?_⟩
    simp only [List.mem_cons, forall_eq_or_imp]
    exact ⟨by show h.1.1 + 2 < h.1.1 + 1 + 2; omega, fun v hv => (ho v hv).mono k2.1⟩
  · simp only [List.mem_cons, forall_eq_or_imp] at ho
    split at hm
    · rename_i n st hi
      cases hm
      obtain ⟨k1, k2⟩ := pz_hk_new q (kd := a) (ln := n.toNat) (sl := n.toNat) (by omega)
      refine ⟨k1, k2, ?_⟩
      simp only [List.mem_cons, forall_eq_or_imp]
      exact ⟨by show h.1.1 + 2 < h.1.1 + 1 + 2; omega, fun v hv => (ho.2 v hv).mono k2.1⟩
    · cases hm
  · simp only [List.mem_cons, forall_eq_or_imp] at ho
    split at hm
    · rename_i n st hi
      cases hm
      obtain ⟨k1, k2⟩ := pz_hk_new q (kd := 23) (ln := n.toNat) (sl := n.toNat) (by omega)
      refine ⟨k1, k2, ?_⟩
      simp only [List.mem_cons, forall_eq_or_imp]
      exact ⟨by show h.1.1 + 2 < h.1.1 + 1 + 2; omega, fun v hv => (ho.2 v hv).mono k2.1⟩
    · cases hm
  · cases hm
theorem pz_cpy_ok {L : Nat} {xs : Nat → Int32} {st st' : List pz_V} {h h' : pz_H} (hm : pz_cpy st h = some (st', h')) (q : pz_hk L xs h) (ho : ∀ v ∈ st, pz_o h.1.1 v) : pz_hk L xs h' ∧ pz_le h h' ∧ ∀ v ∈ st', pz_o h'.1.1 v := by
  unfold pz_cpy at hm
  split at hm
  · rename_i n dp d sp s st
    simp only [List.mem_cons, forall_eq_or_imp] at ho
    split at hm
    · rename_i hi
      cases hm
      obtain ⟨-, h1, h2, h3, h4, -⟩ := hi
      obtain ⟨g1, -, g3⟩ := pz_is_spec h1
      obtain ⟨f1, -, -⟩ := pz_is_spec h2
      obtain ⟨q1, q2, q3, q4, q5⟩ := q
      refine ⟨⟨fun r j => ?_, q2, q3, fun j hj => ?_, q5⟩, pz_le.rf _, ho.2.2.2.2.2⟩
      · show pz_ir _ (pz_u1 h.2.1 d _ r j)
        rw [pz_u1_at]
        split
        · rename_i hr
          subst hr
          have tt : ∀ j', pz_ty (h.1.2.1 r) j' = pz_ty (h.1.2.1 r) j := by
            intro j'
            have h12 : ¬ h.1.2.1 r < 12 := by omega
            simp only [pz_ty, if_neg h12]
          dsimp only
          split
          · have h8 := q1 s (sp.toNat + (j - dp.toNat))
            rw [g3, tt] at h8
            exact h8
          · exact q1 r j
        · exact q1 r j
      · show pz_u1 h.2.1 d _ 1 j = _
        rw [pz_u1_at, if_neg (by omega)]
        exact q4 j hj
    · cases hm
  · cases hm
theorem pz_lk_le : ∀ {hh : List (Nat × Nat)} {E k : Nat}, (∀ q ∈ hh, q.2 ≤ 9) → pz_lk hh E = some k → k ≤ 9
  | [], _, _, _, hk => by cases hk
  | (e, c) :: r, E, k, hhk, hk => by
    simp only [pz_lk] at hk
    split at hk
    · cases hk
      exact hhk _ List.mem_cons_self
    · exact pz_lk_le (fun q hq => hhk q (List.mem_cons_of_mem _ hq)) hk
/-- an answer's value is good -/
def pz_oo (n : Nat) : Option pz_V ⊕ Nat → Prop
  | .inl (some v) => pz_o n v
  | _ => True
set_option maxHeartbeats 4000000 in
theorem pz_ex_ok {L : Nat} {xs : Nat → Int32} (hLb : L ≤ 2560) {C : Nat → List pz_V → pz_H → Option pz_O} {J : Nat → pz_L → List pz_V → pz_H → Option pz_O} {hh : List (Nat × Nat)} (hhk : ∀ q ∈ hh, q.2 ≤ 9) {m nx : Nat}
    (hC : ∀ (a : Nat) (as : List pz_V) (h : pz_H) (o : Option pz_V ⊕ Nat) (h' : pz_H), C a as h = some (o, h') → pz_hk L xs h → (∀ v ∈ as, pz_o h.1.1 v) → pz_hk L xs h' ∧ pz_le h h' ∧ pz_oo h'.1.1 o)
    (hJ : ∀ (pc : Nat) (ls : pz_L) (st : List pz_V) (h : pz_H) (o : Option pz_V ⊕ Nat) (h' : pz_H), J pc ls st h = some (o, h') → pz_hk L xs h → (∀ u, some u ∈ ls → pz_o h.1.1 u) → (∀ v ∈ st, pz_o h.1.1 v) → pz_hk L xs h' ∧ pz_le h h' ∧ pz_oo h'.1.1 o) :
    ∀ (ops : List pz_Op) (pc : Nat) (ls : pz_L) (st : List pz_V) (h : pz_H) (o : Option pz_V ⊕ Nat) (h' : pz_H), pz_ck m nx ops pc = true → pz_ex C J hh nx ops ls st h = some (o, h') → pz_hk L xs h → (∀ u, some u ∈ ls → pz_o h.1.1 u) → (∀ v ∈ st, pz_o h.1.1 v) → pz_hk L xs h' ∧ pz_le h h' ∧ pz_oo h'.1.1 o := by
  intro ops
  induction ops with
  | nil =>
    intro pc ls st h o h' hck he q hl ho
    exact hJ nx ls st h o h' he q hl ho
  | cons op ops ih =>
    intro pc ls st h o h' hck he q hl ho
    obtain ⟨g, ins, len, a, b, c, e⟩ := op
    simp only [pz_ck, Bool.and_eq_true] at hck
    obtain ⟨-, hck1, hck2⟩ := hck
    simp only [pz_ex] at he
    split at he
    · split at he
      · rename_i st' hst
        exact ih _ _ _ _ _ _ (by simpa using hck2) he q hl (pz_pure_ok hst ho)
      · cases he
    · split at he
      · rename_i ls' st' hst
        obtain ⟨k1, k2, -⟩ := pz_loc_ok hst hl ho
        exact ih _ _ _ _ _ _ (by simpa using hck2) he q k1 k2
      · cases he
    · split at he
      · rename_i st' h1 hst
        obtain ⟨k1, k2, k3⟩ := pz_mem_ok hLb hst hck1 q ho
        obtain ⟨j1, j2, j3⟩ := ih _ _ _ _ _ _ (by simpa using hck2) he k1 (fun u hu => (hl u hu).mono k2.1) k3
        exact ⟨j1, k2.tr j2, j3⟩
      · cases he
    · -- a constant
      refine ih _ _ _ _ _ _ (by simpa using hck2) he q hl ?_
      simp only [List.mem_cons, forall_eq_or_imp]
      refine ⟨?_, ho⟩
      simp only [pz_ck1, Bool.and_eq_true, decide_eq_true_eq] at hck1
      have := hck1.2.1
      exact ⟨by omega, by omega⟩
    · -- a call
      obtain ⟨hcond, he⟩ := pz_ite he
      · have hd : ∀ v ∈ st.drop b, pz_o h.1.1 v := fun v hv => ho v (List.mem_of_mem_drop hv)
        have ha : ∀ v ∈ (st.take b).reverse, pz_o h.1.1 v := fun v hv => ho v (List.mem_of_mem_take (List.mem_reverse.mp hv))
        split at he
        · rename_i h1 hcall
          obtain ⟨k1, k2, k3⟩ := hC _ _ _ _ _ hcall q ha
          obtain ⟨j1, j2, j3⟩ := ih _ _ _ _ _ _ (by simpa using hck2) he k1 (fun u hu => (hl u hu).mono k2.1) (fun v hv => (hd v hv).mono k2.1)
          exact ⟨j1, k2.tr j2, j3⟩
        · rename_i v h1 hcall
          obtain ⟨k1, k2, k3⟩ := hC _ _ _ _ _ hcall q ha
          obtain ⟨j1, j2, j3⟩ := ih _ _ _ _ _ _ (by simpa using hck2) he k1 (fun u hu => (hl u hu).mono k2.1) (by
            simp only [List.mem_cons, forall_eq_or_imp]
            exact ⟨k3, fun v hv => (hd v hv).mono k2.1⟩)
          exact ⟨j1, k2.tr j2, j3⟩
        · rename_i E h1 hcall
          obtain ⟨k1, k2, k3⟩ := hC _ _ _ _ _ hcall q ha
          split at he
          · rename_i k hk
            cases he
            refine ⟨k1, k2, ?_⟩
            have : k ≤ 9 := pz_lk_le hhk hk
            exact ⟨by omega, by omega⟩
          · cases he
            exact ⟨k1, k2, trivial⟩
        · cases he
    · split at he
      · rename_i st' h1 hst
        obtain ⟨k1, k2, k3⟩ := pz_cpy_ok hst q ho
        obtain ⟨j1, j2, j3⟩ := ih _ _ _ _ _ _ (by simpa using hck2) he k1 (fun u hu => (hl u hu).mono k2.1) k3
        exact ⟨j1, k2.tr j2, j3⟩
      · cases he
    · split at he
      · split at he
        · simp only [List.mem_cons, forall_eq_or_imp] at ho
          exact ih _ _ _ _ _ _ (by simpa using hck2) he q hl ho.2
        · cases he
      · cases he
    · split at he
      · cases he
        exact ⟨q, ⟨Nat.le_refl _, Nat.le_succ _, Nat.le_add_right _ _⟩, trivial⟩
      · cases he
    · exact hJ _ _ _ _ _ _ he q hl ho
    · split at he
      · simp only [List.mem_cons, forall_eq_or_imp] at ho
        split at he
        · exact hJ _ _ _ _ _ _ he q hl ho.2
        · exact ih _ _ _ _ _ _ (by simpa using hck2) he q hl ho.2
      · simp only [List.mem_cons, forall_eq_or_imp] at ho
        split at he
        · exact hJ _ _ _ _ _ _ he q hl ho.2.2
        · exact ih _ _ _ _ _ _ (by simpa using hck2) he q hl ho.2.2
      · simp only [List.mem_cons, forall_eq_or_imp] at ho
        split at he
        · exact hJ _ _ _ _ _ _ he q hl ho.2
        · exact ih _ _ _ _ _ _ (by simpa using hck2) he q hl ho.2
      · cases he
    · split at he
      · split at he
        · cases he
          exact ⟨q, pz_le.rf _, ho _ List.mem_cons_self⟩
        · cases he
      · cases he
    · split at he
      · cases he
        exact ⟨q, pz_le.rf _, trivial⟩
      · cases he
    · split at he
      · simp only [List.mem_cons, forall_eq_or_imp] at ho
        split at he
        · exact hJ _ _ _ _ _ _ he q hl ho.2
        · split at he
          · exact hJ _ _ _ _ _ _ he q hl ho.2
          · cases he
      · cases he
    · cases he
/-! the machine follows the evaluator: values, locals, plain instructions -/
/-- what the machine has where the evaluator has a value; ad: where the cells lie -/
def pz_e (ad : Nat → Nat) : pz_V → Value
  | .inl x => .int (Int32.ofInt x)
  | .inr (.inl r) => if r = 0 then .null else .ref (ad r)
  | .inr (.inr (.inl x)) => .long (Int64.ofInt x)
  | .inr (.inr (.inr (.inl x))) => .float x
  | .inr (.inr (.inr (.inr x))) => .double x
theorem pz_e_cat (ad : Nat → Nat) : ∀ v : pz_V, (pz_e ad v).category = pz_cat v
  | .inl _ => rfl
  | .inr (.inl r) => by
    show Value.category (if r = 0 then .null else .ref (ad r)) = 1
    split <;> rfl
  | .inr (.inr (.inl _)) => rfl
  | .inr (.inr (.inr (.inl _))) => rfl
  | .inr (.inr (.inr (.inr _))) => rfl
theorem pz_e_same {ad ad' : Nat → Nat} {n : Nat} (h : ∀ r, r < n + 2 → ad' r = ad r) : ∀ {v : pz_V}, pz_o n v → pz_e ad' v = pz_e ad v
  | .inl _, _ => rfl
  | .inr (.inl r), hv => by
    show (if r = 0 then Value.null else .ref (ad' r)) = (if r = 0 then Value.null else .ref (ad r))
    rw [h r hv]
  | .inr (.inr (.inl _)), _ => rfl
  | .inr (.inr (.inr (.inl _))), _ => rfl
  | .inr (.inr (.inr (.inr _))), _ => rfl
theorem pz_es_same {ad ad' : Nat → Nat} {n : Nat} (h : ∀ r, r < n + 2 → ad' r = ad r) {st : List pz_V} (hv : ∀ v ∈ st, pz_o n v) : st.map (pz_e ad') = st.map (pz_e ad) :=
  List.map_congr_left fun v hm => pz_e_same h (hv v hm)
/-- the machine's locals hold the evaluator's -/
def pz_lv (ad : Nat → Nat) (n : Nat) (ls : pz_L) (mls : Array Slot) : Prop := lv_wf mls ∧ mls.size = n ∧ ls.length = n ∧ ∀ (k : Nat) (v : pz_V), ls[k]? = some (some v) → mls[k]? = some (.val (pz_e ad v))
def pz_ll (ad : Nat → Nat) (ls : pz_L) : List (Nat × Value) := (List.range ls.length).filterMap (fun k => match ls[k]? with
  | some (some v) => some (k, pz_e ad v)
  | _ => none)
theorem pz_ll_in {ad : Nat → Nat} {ls : pz_L} {k : Nat} {v : pz_V} (h : ls[k]? = some (some v)) : (k, pz_e ad v) ∈ pz_ll ad ls := by
  refine List.mem_filterMap.mpr ⟨k, List.mem_range.mpr (List.getElem?_eq_some_iff.mp h).1, ?_⟩
  rw [h]
theorem pz_ll_of {ad : Nat → Nat} {ls : pz_L} {q : Nat × Value} (h : q ∈ pz_ll ad ls) : ∃ v, ls[q.1]? = some (some v) ∧ q.2 = pz_e ad v := by
  obtain ⟨k, -, hk⟩ := List.mem_filterMap.mp h
  split at hk
  · rename_i v hv
    cases hk
    exact ⟨v, hv, rfl⟩
  · cases hk
theorem pz_lv.has {ad : Nat → Nat} {n : Nat} {ls : pz_L} {mls : Array Slot} (h : pz_lv ad n ls mls) : lv_has mls n (pz_ll ad ls) := by
  refine ⟨h.2.1, h.1, fun q hq => ?_⟩
  obtain ⟨v, h1, h2⟩ := pz_ll_of hq
  rw [h2]
  exact h.2.2.2 _ _ h1
theorem pz_lv_set1 {ad : Nat → Nat} {n i : Nat} {ls : pz_L} {mls : Array Slot} {v : pz_V} (hc : pz_cat v = 1) (hlen : ls.length = n) (hnp : pz_np ls i = true)
    (h : lv_has mls n ((i, pz_e ad v) :: (pz_ll ad ls).filter (fun q => !(q.1 == i) && !(q.1 + 1 == i && q.2.category == 2)))) : pz_lv ad n (pz_set ls i v) mls := by
  refine ⟨h.2.1, h.1, by rw [pz_set_len]; exact hlen, fun k u hu => ?_⟩
  unfold pz_set at hu
  rw [if_neg (by omega), List.getElem?_set] at hu
  split at hu
  · rename_i hk
    subst hk
    split at hu
    · cases hu
      exact h.2.2 _ List.mem_cons_self
    · cases hu
  · rename_i hk
    refine h.2.2 (k, pz_e ad u) (List.mem_cons_of_mem _ (List.mem_filter.mpr ⟨pz_ll_in hu, ?_⟩))
    have h1 : (k == i) = false := by simpa using fun q => hk q.symm
    rw [h1]
    by_cases h2 : k + 1 = i
    · have h3 := pz_np_spec hnp k u h2.symm hu
      have h4 : ((pz_e ad u).category == 2) = false := by rw [pz_e_cat, h3]; rfl
      simp [h4]
    · have h3 : (k + 1 == i) = false := by simpa using h2
      simp [h3]
theorem pz_lv_set2 {ad : Nat → Nat} {n i : Nat} {ls : pz_L} {mls : Array Slot} {v : pz_V} (hc : pz_cat v = 2) (hlen : ls.length = n) (hnp : pz_np ls i = true)
    (h : lv_has mls n ((i, pz_e ad v) :: (pz_ll ad ls).filter (fun q => !(q.1 == i) && (!(q.1 == i + 1) && !(q.1 + 1 == i && q.2.category == 2))))) : pz_lv ad n (pz_set ls i v) mls := by
  refine ⟨h.2.1, h.1, by rw [pz_set_len]; exact hlen, fun k u hu => ?_⟩
  unfold pz_set at hu
  rw [if_pos hc, List.getElem?_set] at hu
  split at hu
  · split at hu <;> cases hu
  · rename_i hk1
    rw [List.getElem?_set] at hu
    split at hu
    · rename_i hk
      subst hk
      split at hu
      · cases hu
        exact h.2.2 _ List.mem_cons_self
      · cases hu
    · rename_i hk
      refine h.2.2 (k, pz_e ad u) (List.mem_cons_of_mem _ (List.mem_filter.mpr ⟨pz_ll_in hu, ?_⟩))
      have h1 : (k == i) = false := by simpa using fun q => hk q.symm
      have h5 : (k == i + 1) = false := by simpa using fun q => hk1 q.symm
      rw [h1, h5]
      by_cases h2 : k + 1 = i
      · have h3 := pz_np_spec hnp k u h2.symm hu
        have h4 : ((pz_e ad u).category == 2) = false := by rw [pz_e_cat, h3]; rfl
        simp [h4]
      · have h3 : (k + 1 == i) = false := by simpa using h2
        simp [h3]
theorem pz_i2c (x : Int) : ((Int32.ofInt x).toUInt32 % 65536).toInt32 = Int32.ofInt (x % 65536) := by
  refine congrArg UInt32.toInt32 (?_ : _ = UInt32.ofBitVec (BitVec.ofInt 32 (x % 65536)))
  apply UInt32.toNat_inj.mp
  rw [UInt32.toNat_mod]
  show (BitVec.ofInt 32 x).toNat % 65536 = (BitVec.ofInt 32 (x % 65536)).toNat
  rw [BitVec.toNat_ofInt, BitVec.toNat_ofInt]
  omega
theorem pz_iz {x : Int} (h : pz_i x) : Int32.ofInt x = 0 ↔ x = 0 := by
  rw [← Int32.toInt_inj, pz_of h]; rfl
theorem pz_ieq {x y : Int} (hx : pz_i x) (hy : pz_i y) : Int32.ofInt x = Int32.ofInt y ↔ x = y := by
  rw [← Int32.toInt_inj, pz_of hx, pz_of hy]
theorem pz_ilt {x y : Int} (hx : pz_i x) (hy : pz_i y) : Int32.ofInt x < Int32.ofInt y ↔ x < y := by
  rw [Int32.lt_iff_toInt_lt, pz_of hx, pz_of hy]
theorem pz_ile {x y : Int} (hx : pz_i x) (hy : pz_i y) : Int32.ofInt x ≤ Int32.ofInt y ↔ x ≤ y := by
  rw [Int32.le_iff_toInt_le, pz_of hx, pz_of hy]
theorem pz_idiv {x y : Int} (hx : pz_i x) (hy : pz_i y) : Int32.ofInt (x.tdiv y) = Int32.ofInt x / Int32.ofInt y := by
  have h1 := hx.1
  have h2 := hx.2
  have h3 := hy.1
  have h4 := hy.2
  exact Int32.ofInt_tdiv (by show (-2147483648 : Int) ≤ x; omega) (by show x ≤ (2147483647 : Int); omega) (by show (-2147483648 : Int) ≤ y; omega) (by show y ≤ (2147483647 : Int); omega)
theorem pz_irem {x y : Int} (hx : pz_i x) (hy : pz_i y) : Int32.ofInt (x.tmod y) = Int32.ofInt x - Int32.ofInt x / Int32.ofInt y * Int32.ofInt y := by
  rw [irem_eq_mod]
  have h1 := hx.1
  have h2 := hx.2
  have h3 := hy.1
  have h4 := hy.2
  exact Int32.ofInt_tmod (by show (-2147483648 : Int) ≤ x; omega) (by show x ≤ (2147483647 : Int); omega) (by show (-2147483648 : Int) ≤ y; omega) (by show y ≤ (2147483647 : Int); omega)
theorem pz_i2l {x : Int} (hx : pz_i x) : (Int32.ofInt x).toInt64 = Int64.ofInt x := by
  have h1 := hx.1
  have h2 := hx.2
  exact Int32.toInt64_ofInt (by show (-2147483648 : Int) ≤ x; omega) (by show x ≤ (2147483647 : Int); omega)
theorem pz_lcmp {x y : Int} (hx : pz_j x) (hy : pz_j y) : lg_cmp (Int64.ofInt x) (Int64.ofInt y) = Int32.ofInt (if y < x then 1 else if x = y then 0 else -1) := by
  unfold lg_cmp
  have e1 : (Int64.ofInt x > Int64.ofInt y) ↔ y < x := by
    show Int64.ofInt y < Int64.ofInt x ↔ _
    rw [Int64.lt_iff_toInt_lt, pz_lof hx, pz_lof hy]
  have e2 : Int64.ofInt x = Int64.ofInt y ↔ x = y := by
    rw [← Int64.toInt_inj, pz_lof hx, pz_lof hy]
  by_cases h1 : y < x
  · rw [if_pos h1, if_pos (e1.mpr h1)]; rfl
  · rw [if_neg h1, if_neg (fun q => h1 (e1.mp q))]
    by_cases h2 : x = y
    · rw [if_pos h2, if_pos (e2.mpr h2)]; rfl
    · rw [if_neg h2, if_neg (fun q => h2 (e2.mp q))]; rfl
theorem pz_bip {n : Int} (h : -128 ≤ n ∧ n ≤ 127) : (Int8.ofInt n).toInt32 = Int32.ofInt n := by
  apply Int32.toInt_inj.mp
  rw [Int8.toInt_toInt32, Int8.toInt_ofInt_of_le (by omega) (by omega), pz_of ⟨by omega, by omega⟩]
theorem pz_sip {n : Int} (h : -32768 ≤ n ∧ n ≤ 32767) : (Int16.ofInt n).toInt32 = Int32.ofInt n := by
  apply Int32.toInt_inj.mp
  rw [Int16.toInt_toInt32, Int16.toInt_ofInt_of_le (by omega) (by omega), pz_of ⟨by omega, by omega⟩]
theorem pz_e_i (ad : Nat → Nat) (x : Int) : pz_e ad (.inl x) = .int (Int32.ofInt x) := rfl
theorem pz_e_l (ad : Nat → Nat) (x : Int) : pz_e ad (.inr (.inr (.inl x))) = .long (Int64.ofInt x) := rfl
theorem pz_e_f (ad : Nat → Nat) (x : UInt32) : pz_e ad (.inr (.inr (.inr (.inl x)))) = .float x := rfl
theorem pz_e_d (ad : Nat → Nat) (x : UInt64) : pz_e ad (.inr (.inr (.inr (.inr x)))) = .double x := rfl
theorem pz_e_z (ad : Nat → Nat) : pz_e ad (.inr (.inl 0)) = .null := rfl
section PZW
variable {p : Program} {l : Launch} {e : Env} {R : Room} {s : State} {m : MethodId} {args : Array Value} {below : List Frame} {meth : Method} {c : Code} {H : Heap} {locs : List Loc} {cells slots : Nat} {Q : State → Prop}
variable {cc : ByteArray} {pc : Nat} {mls : Array Slot} {ad : Nat → Nat} {n : Nat}
set_option maxHeartbeats 4000000 in
theorem pz_W0 (hx : p.tables.exec = Jvm.exec) (hb : c.code = cc) {ins : Instr} {st st' : List pz_V} (h : pz_pure ins st = some st') (ho : ∀ v ∈ st, pz_o n v) (hd : decode cc pc = .ok (ins, pz_len ins))
    (k : W p l e R s m args below meth c H locs cells slots Q (F0 m (pc + pz_len ins) mls (st'.map (pz_e ad)))) : W p l e R s m args below meth c H locs cells slots Q (F0 m pc mls (st.map (pz_e ad))) := by
  unfold pz_pure at h
  split at h <;> first | cases h | (split at h <;> cases h)
  all_goals ((try simp only [List.mem_cons, forall_eq_or_imp] at ho); simp only [List.map_cons, pz_e_i, pz_e_l, pz_e_f, pz_e_d, pz_e_z, pz_len] at k hd ⊢)
  · exact lv_iconst hx hb hd rfl k
  · exact lv_bipush hx hb hd (pz_bip (by assumption)) k
  · exact lv_sipush hx hb hd (pz_sip (by assumption)) k
  · rename_i z
    exact lv_lconst hx hb hd rfl k
  · exact lv_fconst0 hx hb hd k
  · exact lv_dconst0 hx hb hd k
  · exact lv_null hx hb hd k
  · rw [pz_ofw, Int32.ofInt_add] at k; exact lv_iadd hx hb hd k
  · rw [pz_ofw, Int32.ofInt_sub] at k; exact lv_isub hx hb hd k
  · rw [pz_ofw, Int32.ofInt_mul] at k; exact lv_imul hx hb hd k
  · rename_i hy
    rw [pz_ofw, pz_idiv ho.2.1 ho.1] at k; exact lv_idiv hx hb hd (fun q => hy ((pz_iz ho.1).mp q)) k
  · rename_i hy
    rw [pz_irem ho.2.1 ho.1] at k; exact lv_irem hx hb hd (fun q => hy ((pz_iz ho.1).mp q)) k
  · rw [pz_ofw, Int32.ofInt_neg] at k; exact lv_ineg hx hb hd k
  · rw [Int32.ofInt_toInt] at k; exact lv_iand hx hb hd k
  · rw [Int32.ofInt_toInt] at k; exact lv_ior hx hb hd k
  · rw [Int32.ofInt_toInt] at k; exact lv_ixor hx hb hd k
  · rw [Int32.ofInt_toInt] at k; exact lv_ishl hx hb hd k
  · rw [Int32.ofInt_toInt] at k; exact lv_ishr hx hb hd k
  · rw [Int32.ofInt_toInt] at k; exact lv_iushr hx hb hd rfl k
  · rw [pz_olw, Int64.ofInt_add] at k; exact lv_ladd hx hb hd k
  · exact lv_i2l hx hb hd (pz_i2l ho.1) k
  · exact lv_i2c hx hb hd (pz_i2c _) k
  · exact lv_i2f hx hb hd k
  · exact lv_i2d hx hb hd k
  · exact lv_f2d hx hb hd (by assumption) k
  · exact lv_fdiv hx hb hd (by assumption) k
  · exact lv_ddiv hx hb hd (by assumption) k
  · exact W.lcmp hx hb hd (by rw [pz_lcmp ho.2.1 ho.1]; exact k)
  · rw [Int32.ofInt_toInt] at k; exact lv_fcmp hx hb hd k
  · rw [Int32.ofInt_toInt] at k; exact lv_dcmp hx hb hd k
  · exact lv_dup hx hb hd (by rw [pz_e_cat]; assumption) k
  · exact lv_pop hx hb hd (by rw [pz_e_cat]; assumption) k
  · rename_i hh
    exact lv_dup2_11 hx hb hd (by rw [pz_e_cat]; exact hh.1) (by rw [pz_e_cat]; exact hh.2) k
theorem pz_lv.at {ls : pz_L} (h : pz_lv ad n ls mls) {k : Nat} {v : pz_V} (hk : ls[k]? = some (some v)) : mls[k]? = some (.val (pz_e ad v)) := h.2.2.2 k v hk
set_option maxHeartbeats 4000000 in
theorem pz_W1 (hx : p.tables.exec = Jvm.exec) (hb : c.code = cc) {ins : Instr} {ls ls' : pz_L} {st st' : List pz_V} (h : pz_loc ins ls st = some (ls', st')) (hd : decode cc pc = .ok (ins, pz_len ins)) (hlv : pz_lv ad n ls mls)
    (k : ∀ mls', pz_lv ad n ls' mls' → W p l e R s m args below meth c H locs cells slots Q (F0 m (pc + pz_len ins) mls' (st'.map (pz_e ad)))) : W p l e R s m args below meth c H locs cells slots Q (F0 m pc mls (st.map (pz_e ad))) := by
  unfold pz_loc at h
  split at h
  · -- a load
    rename_i kk i hk
    split at h
    · rename_i v hv
      split at h
      · rename_i hkd
        cases h
        have hm := hlv.at hv
        have k := k mls hlv
        simp only [List.map_cons] at k
        unfold pz_ldk at hk
        split at hk <;> cases hk <;> simp only [pz_len] at hd k <;> rcases v with x | x | x | x | x <;> simp [pz_kd] at hkd <;> simp only [pz_e] at hm k
        · exact lv_iload hx hb hd hm k
        · exact lv_iload_n hx hb hd rfl hm k
        · split at hm
          · rename_i h0; rw [if_pos h0] at k; exact lv_aloadN hx hb hd hm k
          · rename_i h0; rw [if_neg h0] at k; exact lv_aload hx hb hd hm k
        · split at hm
          · rename_i h0; rw [if_pos h0] at k; exact lv_aload_nN hx hb hd rfl hm k
          · rename_i h0; rw [if_neg h0] at k; exact lv_aload_n hx hb hd rfl hm k
        · exact lv_lload hx hb hd hm k
        · exact lv_lload_n hx hb hd rfl hm k
        · exact lv_fload hx hb hd hm k
        · exact lv_fload_n hx hb hd rfl hm k
        · exact lv_dload hx hb hd hm k
        · exact lv_dload_n hx hb hd rfl hm k
      · cases h
    · cases h
  · split at h
    · -- a store
      rename_i kk i hk
      split at h
      · rename_i v st1
        split at h
        · rename_i hh
          obtain ⟨hkd, hi, hnp⟩ := hh
          cases h
          have hlen := hlv.2.2.1
          unfold pz_stk at hk
          simp only [List.map_cons]
          split at hk <;> cases hk <;> simp only [pz_len] at hd k <;> rcases v with x | x | x | x | x <;> simp [pz_kd] at hkd <;> simp only [pz_cat] at hi
          · exact lv_istore hx hb hd hlv.has (by omega) rfl (fun mls' h' => k mls' (pz_lv_set1 rfl hlen hnp h'))
          · exact lv_istore_n hx hb hd rfl hlv.has (by omega) rfl (fun mls' h' => k mls' (pz_lv_set1 rfl hlen hnp h'))
          · by_cases h0 : x = 0
            · subst h0
              exact lv_astoreN hx hb hd hlv.has (by omega) rfl (fun mls' h' => k mls' (pz_lv_set1 (v := .inr (.inl 0)) rfl hlen hnp h'))
            · simp only [pz_e, if_neg h0]
              exact lv_astore hx hb hd hlv.has (by omega) rfl (fun mls' h' => k mls' (pz_lv_set1 (v := .inr (.inl x)) rfl hlen hnp (by simp only [pz_e, if_neg h0]; exact h')))
          · by_cases h0 : x = 0
            · subst h0
              exact lv_astore_nN hx hb hd rfl hlv.has (by omega) rfl (fun mls' h' => k mls' (pz_lv_set1 (v := .inr (.inl 0)) rfl hlen hnp h'))
            · simp only [pz_e, if_neg h0]
              exact lv_astore_n hx hb hd rfl hlv.has (by omega) rfl (fun mls' h' => k mls' (pz_lv_set1 (v := .inr (.inl x)) rfl hlen hnp (by simp only [pz_e, if_neg h0]; exact h')))
          · exact lv_lstore hx hb hd hlv.has (by omega) rfl (fun mls' h' => k mls' (pz_lv_set2 rfl hlen hnp h'))
          · exact lv_lstore_n hx hb hd rfl hlv.has (by omega) rfl (fun mls' h' => k mls' (pz_lv_set2 rfl hlen hnp h'))
          · exact lv_fstore hx hb hd hlv.has (by omega) rfl (fun mls' h' => k mls' (pz_lv_set1 rfl hlen hnp h'))
          · exact lv_fstore_n hx hb hd rfl hlv.has (by omega) rfl (fun mls' h' => k mls' (pz_lv_set1 rfl hlen hnp h'))
          · exact lv_dstore hx hb hd hlv.has (by omega) rfl (fun mls' h' => k mls' (pz_lv_set2 rfl hlen hnp h'))
          · exact lv_dstore_n hx hb hd rfl hlv.has (by omega) rfl (fun mls' h' => k mls' (pz_lv_set2 rfl hlen hnp h'))
        · cases h
      · cases h
    · split at h
      · rename_i i z _ _
        split at h
        · rename_i x hv
          split at h
          · rename_i hnp
            cases h
            have hlen := hlv.2.2.1
            obtain ⟨q, hq⟩ := List.getElem?_of_mem (pz_ll_in (ad := ad) hv)
            have hi : i < ls.length := (List.getElem?_eq_some_iff.mp hv).1
            refine lv_iinc hx hb hd hlv.has hq rfl (by omega) rfl (fun mls' h' => k mls' ?_)
            have h2 := pz_lv_set1 (ad := ad) (v := .inl (pz_w (x + z))) rfl hlen hnp (by simp only [pz_e, pz_ofw, Int32.ofInt_add]; exact h')
            exact h2
          · cases h
        · cases h
      · cases h
end PZW
/-! the machine follows the evaluator: cells -/
def pz_gd : List Cond := lw_tbl.filter goodWord
theorem pz_gd_in {w : Cond} {i : Nat} (h : lw_tbl[i]? = some w) (g : goodWord w = true) : w ∈ pz_gd := List.mem_filter.mpr ⟨List.mem_of_getElem? h, g⟩
theorem pz_gd_good {w : Cond} (h : w ∈ pz_gd) : w ∈ pz_gd ∧ ((w.onTables && w.keeps) = true ∨ ∃ ty, w = .arrayClass ty) := ⟨h, good_of_word (List.mem_filter.mp h).2⟩
def pz_tys (dA : Nat → ClassId) : List (ClassId × FieldType) := [(dA 20, .int), (dA 21, .boolean), (dA 22, .char), (dA 23, .object "Simplespan$Plan"), (dA 24, .long), (dA 25, .double)]
def pz_fv (ad : Nat → Nat) (h : pz_H) (k r j : Nat) : Value := if pz_tc k j = 9 then pz_e ad (.inr (.inl (h.1.2.2.2 r j))) else .int (Int32.ofInt (h.2.1 r j))
def pz_rr (ad : Nat → Nat) (r : Nat) : Option Nat := if r = 0 then none else some (ad r)
theorem pz_rr_e (ad : Nat → Nat) (r : Nat) : va_rf (pz_rr ad r) = pz_e ad (.inr (.inl r)) := by
  unfold pz_rr
  show _ = (if r = 0 then Value.null else .ref (ad r))
  split <;> rfl
def pz_ce (ad : Nat → Nat) (dA : Nat → ClassId) (h : pz_H) (r : Nat) : va_E :=
  if h.1.2.1 r < 12 then .inr (h.1.2.1 r, (List.range (pz_nf (h.1.2.1 r))).map (pz_fv ad h (h.1.2.1 r) r))
  else if h.1.2.1 r = 23 then .inl (dA 23, h.1.2.2.1 r, .inr (.inr (.inr (.inr (fun j => pz_rr ad (h.1.2.2.2 r j))))))
  else if h.1.2.1 r = 24 then .inl (dA 24, h.1.2.2.1 r, .inr (.inl (fun j => Int64.ofInt (h.2.1 r j))))
  else if h.1.2.1 r = 25 then .inl (dA 25, h.1.2.2.1 r, .inr (.inr (.inr (.inl (h.2.2.1 r)))))
  else .inl (dA (h.1.2.1 r), h.1.2.2.1 r, .inl (fun j => Int32.ofInt (h.2.1 r j)))
def pz_ws (ad : Nat → Nat) (dA : Nat → ClassId) (h : pz_H) : va_W := (List.range h.1.1).map (fun k => (ad (k + 2), pz_ce ad dA h (k + 2)))
theorem pz_ws_at {ad : Nat → Nat} {dA : Nat → ClassId} {h : pz_H} {r : Nat} (h1 : 2 ≤ r) (h2 : r < h.1.1 + 2) : (pz_ws ad dA h)[r - 2]? = some (ad r, pz_ce ad dA h r) := by
  unfold pz_ws
  rw [List.getElem?_map, List.getElem?_range (by omega)]
  have : r - 2 + 2 = r := by omega
  show some (ad (r - 2 + 2), pz_ce ad dA h (r - 2 + 2)) = _
  rw [this]
theorem pz_ws_set {ad : Nat → Nat} {dA : Nat → ClassId} {h h' : pz_H} {r : Nat} {z : va_E} (h1 : 2 ≤ r) (hn : h'.1.1 = h.1.1) (hz : pz_ce ad dA h' r = z) (he : ∀ r', r' ≠ r → pz_ce ad dA h' r' = pz_ce ad dA h r') : pz_ws ad dA h' = (pz_ws ad dA h).set (r - 2) (ad r, z) := by
  apply List.ext_getElem?
  intro i
  rw [List.getElem?_set]
  unfold pz_ws
  rw [hn]
  split
  · rename_i hi
    subst hi
    have e2 : r - 2 + 2 = r := by omega
    split
    · rename_i hlt
      simp only [List.length_map, List.length_range] at hlt
      rw [List.getElem?_map, List.getElem?_range hlt]
      show some (ad (r - 2 + 2), pz_ce ad dA h' (r - 2 + 2)) = _
      rw [e2, hz]
    · rename_i hlt
      simp only [List.length_map, List.length_range] at hlt
      rw [List.getElem?_eq_none]
      simp; omega
  · rename_i hi
    rw [List.getElem?_map, List.getElem?_map]
    rcases Nat.lt_or_ge i h.1.1 with hl | hl
    · rw [List.getElem?_range hl]
      show some (ad (i + 2), pz_ce ad dA h' (i + 2)) = some (ad (i + 2), pz_ce ad dA h (i + 2))
      rw [he (i + 2) (by omega)]
    · rw [List.getElem?_eq_none (by simpa using hl)]
      rfl
theorem pz_ce_same {ad ad' : Nat → Nat} {dA : Nat → ClassId} {h : pz_H} (ha : ∀ r, r < h.1.1 + 2 → ad' r = ad r) (hr : ∀ r j, h.1.2.2.2 r j < h.1.1 + 2) (r : Nat) : pz_ce ad' dA h r = pz_ce ad dA h r := by
  have h1 : ∀ k, pz_fv ad' h k r = pz_fv ad h k r := by
    intro k
    funext j
    unfold pz_fv
    rw [pz_e_same ha (v := .inr (.inl (h.1.2.2.2 r j))) (hr r j)]
  have h2 : ∀ j, pz_rr ad' (h.1.2.2.2 r j) = pz_rr ad (h.1.2.2.2 r j) := by
    intro j
    unfold pz_rr
    rw [ha _ (hr r j)]
  unfold pz_ce
  rw [h1]
  simp only [h2]
theorem pz_ws_same {ad ad' : Nat → Nat} {dA : Nat → ClassId} {h : pz_H} (ha : ∀ r, r < h.1.1 + 2 → ad' r = ad r) (hr : ∀ r j, h.1.2.2.2 r j < h.1.1 + 2) : pz_ws ad' dA h = pz_ws ad dA h := by
  unfold pz_ws
  apply List.map_congr_left
  intro k hk
  have := List.mem_range.mp hk
  rw [ha _ (by omega), pz_ce_same ha hr]
/-- a new cell -/
theorem pz_ws_new {ad : Nat → Nat} {dA : Nat → ClassId} {h : pz_H} {kd ln sl q : Nat} {z : va_E} (hr : ∀ r j, h.1.2.2.2 r j < h.1.1 + 2) (hz : pz_ce (pz_u1 ad (h.1.1 + 2) q) dA (pz_new h kd ln sl) (h.1.1 + 2) = z) :
    pz_ws (pz_u1 ad (h.1.1 + 2) q) dA (pz_new h kd ln sl) = pz_ws ad dA h ++ [(q, z)] := by
  have hn : (pz_new h kd ln sl).1.1 = h.1.1 + 1 := rfl
  unfold pz_ws
  rw [hn, List.range_succ, List.map_append]
  congr 1
  · apply List.map_congr_left
    intro k hk
    have hk := List.mem_range.mp hk
    have e1 : pz_u1 ad (h.1.1 + 2) q (k + 2) = ad (k + 2) := by rw [pz_u1_at, if_neg (by omega)]
    rw [e1]
    congr 1
    have f1 : (pz_new h kd ln sl).1.2.1 (k + 2) = h.1.2.1 (k + 2) := by show pz_u1 _ _ _ _ = _; rw [pz_u1_at, if_neg (by omega)]
    have f2 : (pz_new h kd ln sl).1.2.2.1 (k + 2) = h.1.2.2.1 (k + 2) := by show pz_u1 _ _ _ _ = _; rw [pz_u1_at, if_neg (by omega)]
    have f3 : (pz_new h kd ln sl).1.2.2.2 (k + 2) = h.1.2.2.2 (k + 2) := by show pz_u1 _ _ _ _ = _; rw [pz_u1_at, if_neg (by omega)]
    have f4 : (pz_new h kd ln sl).2.1 (k + 2) = h.2.1 (k + 2) := by show pz_u1 _ _ _ _ = _; rw [pz_u1_at, if_neg (by omega)]
    have f5 : (pz_new h kd ln sl).2.2.1 (k + 2) = h.2.2.1 (k + 2) := by show pz_u1 _ _ _ _ = _; rw [pz_u1_at, if_neg (by omega)]
    have ea : ∀ j, pz_e (pz_u1 ad (h.1.1 + 2) q) (.inr (.inl (h.1.2.2.2 (k + 2) j))) = pz_e ad (.inr (.inl (h.1.2.2.2 (k + 2) j))) := fun j =>
      pz_e_same (n := h.1.1) (fun r hlt => by rw [pz_u1_at, if_neg (by omega)]) (hr (k + 2) j)
    have eb : ∀ j, pz_rr (pz_u1 ad (h.1.1 + 2) q) (h.1.2.2.2 (k + 2) j) = pz_rr ad (h.1.2.2.2 (k + 2) j) := by
      intro j
      have hne : h.1.2.2.2 (k + 2) j ≠ h.1.1 + 2 := by have := hr (k + 2) j; omega
      unfold pz_rr
      rw [pz_u1_at, if_neg hne]
    unfold pz_ce
    rw [f1, f2, f3, f4, f5]
    have ec : ∀ kk, pz_fv (pz_u1 ad (h.1.1 + 2) q) (pz_new h kd ln sl) kk (k + 2) = pz_fv ad h kk (k + 2) := by
      intro kk
      funext j
      unfold pz_fv
      rw [f3, f4, ea]
    rw [ec]
    simp only [eb]
  · show [(pz_u1 ad (h.1.1 + 2) q (h.1.1 + 2), pz_ce _ dA _ (h.1.1 + 2))] = [(q, z)]
    rw [hz, pz_u1_at, if_pos rfl]
/-- what the tables say of the classes -/
def pz_tk : Bool := (List.range 12).all (fun ci => (List.range (pz_nf ci)).all (fun k => match pz_cls[ci]? with
  | some q => (match parseFieldDescriptor (q.2.1 k).2.2.1 with
    | some .int => pz_tc ci k == 0
    | some .boolean => pz_tc ci k == 1
    | some (.object _) => pz_tc ci k == 9
    | some (.array _) => pz_tc ci k == 9
    | _ => false) && (decide ((q.2.1 k).1 = q.1) && (List.range (pz_nf ci)).all (fun j => j == k || decide ((q.2.1 j).2.1 ≠ (q.2.1 k).2.1)))
  | none => false))
theorem pz_tk_ok : pz_tk = true := by decide +kernel
theorem pz_cls_lt {ci : Nat} {q : vw_C} (h : pz_cls[ci]? = some q) : ci < 12 := (List.getElem?_eq_some_iff.mp h).1
theorem pz_nf_at {ci : Nat} {q : vw_C} (h : pz_cls[ci]? = some q) : pz_nf ci = q.2.2 := by
  unfold pz_nf
  rw [h]
theorem pz_tk_at {ci k : Nat} {q : vw_C} (h : pz_cls[ci]? = some q) (hk : k < q.2.2) : (∃ ty, parseFieldDescriptor (q.2.1 k).2.2.1 = some ty ∧ ((ty = .int ∧ pz_tc ci k = 0) ∨ (ty = .boolean ∧ pz_tc ci k = 1) ∨ ((∃ n, ty = .object n) ∧ pz_tc ci k = 9) ∨ ((∃ t, ty = .array t) ∧ pz_tc ci k = 9))) ∧ (q.2.1 k).1 = q.1 ∧ ∀ j, j < q.2.2 → j ≠ k → (q.2.1 j).2.1 ≠ (q.2.1 k).2.1 := by
  have h0 := pz_tk_ok
  unfold pz_tk at h0
  have h1 := List.all_eq_true.mp h0 ci (List.mem_range.mpr (pz_cls_lt h))
  rw [pz_nf_at h] at h1
  have h2 := List.all_eq_true.mp h1 k (List.mem_range.mpr hk)
  rw [h] at h2
  simp only [Bool.and_eq_true, decide_eq_true_eq] at h2
  obtain ⟨h3, h4, h5⟩ := h2
  refine ⟨?_, h4, fun j hj hne => ?_⟩
  · split at h3
    · rename_i e; exact ⟨_, e, Or.inl ⟨rfl, by simpa using h3⟩⟩
    · rename_i e; exact ⟨_, e, Or.inr (Or.inl ⟨rfl, by simpa using h3⟩)⟩
    · rename_i e; exact ⟨_, e, Or.inr (Or.inr (Or.inl ⟨⟨_, rfl⟩, by simpa using h3⟩))⟩
    · rename_i e; exact ⟨_, e, Or.inr (Or.inr (Or.inr ⟨⟨_, rfl⟩, by simpa using h3⟩))⟩
    · cases h3
  · have h6 := List.all_eq_true.mp h5 j (List.mem_range.mpr hj)
    simp only [Bool.or_eq_true, beq_iff_eq, decide_eq_true_eq] at h6
    rcases h6 with h6 | h6
    · exact absurd h6 hne
    · exact h6
def pz_t0 (q : vw_C) (k : Nat) : FieldType := (parseFieldDescriptor (q.2.1 k).2.2.1).getD .int
theorem pz_t0_ok {ci : Nat} {q : vw_C} (h : pz_cls[ci]? = some q) : ∀ k, k < q.2.2 → parseFieldDescriptor (q.2.1 k).2.2.1 = some (pz_t0 q k) := by
  intro k hk
  obtain ⟨⟨ty, h1, -⟩, -⟩ := pz_tk_at h hk
  unfold pz_t0
  rw [h1]
  rfl
theorem pz_nm_ok {ci : Nat} {q : vw_C} (h : pz_cls[ci]? = some q) : ∀ a, a < q.2.2 → ∀ b, b < q.2.2 → a ≠ b → (q.2.1 a).2.1 ≠ (q.2.1 b).2.1 := fun a ha b hb hne => (pz_tk_at h hb).2.2 a ha hne
def pz_wk : Bool := pz_cls.all (fun q => (u_ws q.1 q.2.1 q.2.2).all (fun w => decide (w ∈ lw_tbl) && goodWord w))
theorem pz_wk_ok : pz_wk = true := by decide +kernel
theorem pz_in {ci : Nat} {q : vw_C} (h : pz_cls[ci]? = some q) : ∀ w ∈ u_ws q.1 q.2.1 q.2.2, w ∈ pz_gd := by
  intro w hw
  have h1 := List.all_eq_true.mp pz_wk_ok q (List.mem_of_getElem? h)
  have h2 := List.all_eq_true.mp h1 w hw
  simp only [Bool.and_eq_true, decide_eq_true_eq] at h2
  exact List.mem_filter.mpr h2
def pz_fk : Bool := pz_fl.all (fun x => match pz_cls[x.2.2.1]? with
  | some q => decide (lw_tbl[x.2.2.2.2]? = some (.fieldLink x.1 x.2.1 (q.2.1 x.2.2.2.1).1 (q.2.1 x.2.2.2.1).2.1 (q.2.1 x.2.2.2.1).2.2.1))
  | none => false)
theorem pz_fk_ok : pz_fk = true := by decide +kernel
theorem pz_fl_at {o : String} {i a b w e : Nat} (h : pz_fl[e]? = some (o, i, a, b, w)) : ∃ q, pz_cls[a]? = some q ∧ Cond.fieldLink o i (q.2.1 b).1 (q.2.1 b).2.1 (q.2.1 b).2.2.1 ∈ pz_gd := by
  have h1 := List.all_eq_true.mp pz_fk_ok _ (List.mem_of_getElem? h)
  dsimp only at h1
  split at h1
  · rename_i q hq
    exact ⟨q, hq, pz_gd_in (of_decide_eq_true h1) rfl⟩
  · cases h1
/-! the machine follows the evaluator: fields and rows -/
theorem pz_ce_obj {ad : Nat → Nat} {dA : Nat → ClassId} {h : pz_H} {r a : Nat} (hk : h.1.2.1 r = a) (ha : a < 12) : pz_ce ad dA h r = .inr (a, (List.range (pz_nf a)).map (pz_fv ad h a r)) := by
  unfold pz_ce
  rw [hk, if_pos ha]
theorem pz_ce_int {ad : Nat → Nat} {dA : Nat → ClassId} {h : pz_H} {r a : Nat} (hk : h.1.2.1 r = a) (ha : 20 ≤ a ∧ a ≤ 22) : pz_ce ad dA h r = .inl (dA a, h.1.2.2.1 r, .inl (fun j => Int32.ofInt (h.2.1 r j))) := by
  unfold pz_ce
  rw [hk, if_neg (by omega), if_neg (by omega), if_neg (by omega), if_neg (by omega)]
theorem pz_ce_ref {ad : Nat → Nat} {dA : Nat → ClassId} {h : pz_H} {r : Nat} (hk : h.1.2.1 r = 23) : pz_ce ad dA h r = .inl (dA 23, h.1.2.2.1 r, .inr (.inr (.inr (.inr (fun j => pz_rr ad (h.1.2.2.2 r j)))))) := by
  unfold pz_ce
  rw [hk, if_neg (by omega), if_pos rfl]
theorem pz_ce_long {ad : Nat → Nat} {dA : Nat → ClassId} {h : pz_H} {r : Nat} (hk : h.1.2.1 r = 24) : pz_ce ad dA h r = .inl (dA 24, h.1.2.2.1 r, .inr (.inl (fun j => Int64.ofInt (h.2.1 r j)))) := by
  unfold pz_ce
  rw [hk, if_neg (by omega), if_neg (by omega), if_pos rfl]
theorem pz_ce_dbl {ad : Nat → Nat} {dA : Nat → ClassId} {h : pz_H} {r : Nat} (hk : h.1.2.1 r = 25) : pz_ce ad dA h r = .inl (dA 25, h.1.2.2.1 r, .inr (.inr (.inr (.inl (h.2.2.1 r))))) := by
  unfold pz_ce
  rw [hk, if_neg (by omega), if_neg (by omega), if_neg (by omega), if_pos rfl]
theorem pz_vpin {i : Int} {n : Nat} (hi : pz_i i) (h0 : 0 ≤ i) (h1 : i < (n : Int)) : vp_in (Int32.ofInt i) n := by
  have e : (Int32.ofInt i).toNatClampNeg = i.toNat := Int32.toNatClampNeg_ofInt_of_le (by have := hi.1; omega) (by have := hi.2; omega)
  rintro (q | q)
  · rw [show (0 : Int32) = Int32.ofInt 0 from rfl, pz_ilt hi ⟨by omega, by omega⟩] at q
    omega
  · rw [e] at q
    omega
theorem pz_tnc {i : Int} (hi : pz_i i) : (Int32.ofInt i).toNatClampNeg = i.toNat := Int32.toNatClampNeg_ofInt_of_le (by have := hi.1; omega) (by have := hi.2; omega)
theorem pz_tys_at (dA : Nat → ClassId) : (pz_tys dA)[0]? = some (dA 20, .int) ∧ (pz_tys dA)[1]? = some (dA 21, .boolean) ∧ (pz_tys dA)[2]? = some (dA 22, .char) ∧ (pz_tys dA)[3]? = some (dA 23, .object "Simplespan$Plan") ∧ (pz_tys dA)[4]? = some (dA 24, .long) ∧ (pz_tys dA)[5]? = some (dA 25, .double) := ⟨rfl, rfl, rfl, rfl, rfl, rfl⟩
theorem pz_e_ref {ad : Nat → Nat} {r : Nat} (h : 2 ≤ r) : pz_e ad (.inr (.inl r)) = .ref (ad r) := by
  show (if r = 0 then Value.null else .ref (ad r)) = _
  rw [if_neg (by omega)]
/-- a number is written in a cell -/
theorem pz_ce_iv {ad : Nat → Nat} {dA : Nat → ClassId} {h : pz_H} {r k : Nat} {x : Int} {r' : Nat} (hne : r' ≠ r) : pz_ce ad dA (h.1, pz_u2 h.2.1 r k x, h.2.2) r' = pz_ce ad dA h r' := by
  have e1 : pz_u2 h.2.1 r k x r' = h.2.1 r' := by
    funext j
    rw [pz_u2_at, if_neg (fun q => hne q.1)]
  unfold pz_ce pz_fv
  simp only [e1]
theorem pz_ce_rf {ad : Nat → Nat} {dA : Nat → ClassId} {h : pz_H} {r k v : Nat} {r' : Nat} (hne : r' ≠ r) : pz_ce ad dA ((h.1.1, h.1.2.1, h.1.2.2.1, pz_u2 h.1.2.2.2 r k v), h.2) r' = pz_ce ad dA h r' := by
  have e1 : pz_u2 h.1.2.2.2 r k v r' = h.1.2.2.2 r' := by
    funext j
    rw [pz_u2_at, if_neg (fun q => hne q.1)]
  unfold pz_ce pz_fv
  simp only [e1]
theorem pz_ce_dv {ad : Nat → Nat} {dA : Nat → ClassId} {h : pz_H} {r k : Nat} {x : UInt64} {r' : Nat} (hne : r' ≠ r) : pz_ce ad dA (h.1, h.2.1, pz_u2 h.2.2.1 r k x, h.2.2.2) r' = pz_ce ad dA h r' := by
  have e1 : pz_u2 h.2.2.1 r k x r' = h.2.2.1 r' := by
    funext j
    rw [pz_u2_at, if_neg (fun q => hne q.1)]
  unfold pz_ce pz_fv
  simp only [e1]
theorem pz_upd {h : pz_H} {r : Nat} {i : Int} {x : Int} (hi : pz_i i) : (fun j => Int32.ofInt (pz_u2 h.2.1 r i.toNat x r j)) = upd (fun j => Int32.ofInt (h.2.1 r j)) (Int32.ofInt i).toNatClampNeg (Int32.ofInt x) := by
  funext j
  rw [pz_tnc hi, pz_u2_at]
  unfold upd
  by_cases hj : j = i.toNat
  · rw [if_pos ⟨rfl, hj⟩, if_pos hj]
  · rw [if_neg (fun q => hj q.2), if_neg hj]
theorem pz_nar_z {x : Int} (h : x = 0 ∨ x = 1) : vp_nar .boolean (Int32.ofInt x) = Int32.ofInt x := by
  rcases h with rfl | rfl <;> decide
theorem pz_nar_c {x : Int} (h : 0 ≤ x ∧ x ≤ 65535) : vp_nar .char (Int32.ofInt x) = Int32.ofInt x := by
  refine congrArg UInt32.toInt32 (?_ : (Int32.ofInt x).toUInt32.toUInt16.toUInt32 = UInt32.ofBitVec (BitVec.ofInt 32 x))
  apply UInt32.toNat_inj.mp
  rw [UInt16.toNat_toUInt32, UInt32.toNat_toUInt16]
  show (BitVec.ofInt 32 x).toNat % 2 ^ 16 = (BitVec.ofInt 32 x).toNat
  rw [BitVec.toNat_ofInt]
  omega
section PZM
variable {p : Program} {l : Launch} {e : Env} {R : Room} {s : State} {mI : MethodId} {args : Array Value} {below : List Frame} {meth : Method} {c : Code} {H H0 : Heap} {locs : List Loc} {cells slots : Nat} {Q : State → Prop}
variable {cc : ByteArray} {pc : Nat} {mls : Array Slot} {ad : Nat → Nat} {dA : Nat → ClassId} {D : va_G} {A : Nat → Prop}
theorem pz_Wget {m len a b c' e' i r : Nat} {h : pz_H} {rest : List Value} (hx : p.tables.exec = Jvm.exec) (hb : c.code = cc) (hts : ∀ w ∈ pz_gd, w.before args s = true) (hown : s.vm.findClass (pz_yy m).cls = some mI.cls) (hK : va_K D pz_cls (pz_tys dA) s)
    (hP : va_P D pz_cls (pz_ws ad dA h) H) (hck : pz_ck1 m 2 (.getfield i) len a b c' e' pc = true) (hi : pz_is h.1 r a = true) (hd : decode cc pc = .ok (.getfield i, 3))
    (k : W p l e R s mI args below meth c H locs cells slots Q (F0 mI (pc + 3) mls (pz_fv ad h a r b :: rest))) : W p l e R s mI args below meth c H locs cells slots Q (F0 mI pc mls (pz_e ad (.inr (.inl r)) :: rest)) := by
  simp only [pz_ck1, Bool.and_eq_true] at hck
  obtain ⟨-, hck⟩ := hck
  split at hck
  · rename_i o i' a' b' w he
    simp only [Bool.and_eq_true, decide_eq_true_eq, beq_iff_eq] at hck
    obtain ⟨rfl, rfl, rfl, rfl, -, hbn⟩ := hck
    obtain ⟨q, hq, hw⟩ := pz_fl_at he
    obtain ⟨g1, g2, g3⟩ := pz_is_spec hi
    have hbq : b' < q.2.2 := by rw [← pz_nf_at hq]; exact hbn
    have hr : (q.2.1 b').1 = q.1 := (pz_tk_at hq hbq).2.1
    rw [pz_e_ref g1]
    exact va_get hx hb (C := q.1) (T := q.2.1) (N := q.2.2) hts (pz_in hq) hown hK hP (r - 2) (by rw [pz_ws_at g1 g2, pz_ce_obj g3 (pz_cls_lt hq)]) hq b' hbq (hts _ hw) (fun _ h9 => h9) (by rw [List.getElem?_map, List.getElem?_range hbn]; rfl) hd k
  · cases hck
theorem pz_list_set {n k : Nat} {α : Type} {f g : Nat → α} {v : α} (hv : g k = v) (hg : ∀ j, j ≠ k → g j = f j) : (List.range n).map g = ((List.range n).map f).set k v := by
  apply List.ext_getElem?
  intro i
  rw [List.getElem?_set]
  split
  · rename_i hi
    subst hi
    split
    · rename_i hlt
      simp only [List.length_map, List.length_range] at hlt
      rw [List.getElem?_map, List.getElem?_range hlt]
      exact congrArg some hv
    · rename_i hlt
      rw [List.getElem?_eq_none]
      simpa using hlt
  · rename_i hi
    rw [List.getElem?_map, List.getElem?_map]
    cases hh : (List.range n)[i]? with
    | none => rfl
    | some z =>
      have hz : z = i := by
        have := List.getElem?_eq_some_iff.mp hh
        obtain ⟨h1, h2⟩ := this
        simpa using h2.symm
      subst hz
      exact congrArg some (hg z (fun q => hi q.symm))
theorem pz_Wput {m len a b c' e' i r : Nat} {h h' : pz_H} {v : pz_V} {rest : List Value} (hx : p.tables.exec = Jvm.exec) (hb : c.code = cc) (hts : ∀ w ∈ pz_gd, w.before args s = true) (hown : s.vm.findClass (pz_yy m).cls = some mI.cls) (hname : (pz_yy m).name = "<init>" → meth.name = "<init>") (hK : va_K D pz_cls (pz_tys dA) s)
    (hP : va_P D pz_cls (pz_ws ad dA h) H) (hD : va_D A (pz_ws ad dA h)) (hS : va_S A H0 H locs) (hck : pz_ck1 m 2 (.putfield i) len a b c' e' pc = true) (hi : pz_is h.1 r a = true) (hd : decode cc pc = .ok (.putfield i, 3)) (ho : pz_o h.1.1 v) (hf : pz_fit h.1 c' v = true)
    (hh : h' = match (generalizing := false) v with
      | .inl x => (h.1, pz_u2 h.2.1 r b x, h.2.2)
      | .inr (.inl q) => ((h.1.1, h.1.2.1, h.1.2.2.1, pz_u2 h.1.2.2.2 r b q), h.2)
      | _ => h)
    (k : ∀ (H1 : Heap) (locs1 : List Loc), va_P D pz_cls (pz_ws ad dA h') H1 → va_D A (pz_ws ad dA h') → va_S A H0 H1 locs1 → W p l e R s mI args below meth c H1 locs1 cells slots Q (F0 mI (pc + 3) mls rest)) : W p l e R s mI args below meth c H locs cells slots Q (F0 mI pc mls (pz_e ad v :: pz_e ad (.inr (.inl r)) :: rest)) := by
  simp only [pz_ck1, Bool.and_eq_true] at hck
  obtain ⟨-, hck⟩ := hck
  split at hck
  · rename_i o i' a' b' w he
    simp only [Bool.and_eq_true, decide_eq_true_eq, beq_iff_eq, Bool.or_eq_true] at hck
    obtain ⟨rfl, rfl, rfl, rfl, rfl, hbn, hfin⟩ := hck
    obtain ⟨q, hq, hw⟩ := pz_fl_at he
    obtain ⟨g1, g2, g3⟩ := pz_is_spec hi
    have hbq : b' < q.2.2 := by rw [← pz_nf_at hq]; exact hbn
    obtain ⟨⟨ty, hty, htc⟩, hr, -⟩ := pz_tk_at hq hbq
    have h12 := pz_cls_lt hq
    have he1 : (pz_ws ad dA h)[r - 2]? = some (ad r, .inr (a', (List.range (pz_nf a')).map (pz_fv ad h a' r))) := by rw [pz_ws_at g1 g2, pz_ce_obj g3 h12]
    -- the new world
    have hws : pz_ws ad dA h' = (pz_ws ad dA h).set (r - 2) (ad r, .inr (a', ((List.range (pz_nf a')).map (pz_fv ad h a' r)).set b' (pz_e ad v))) := by
      subst hh
      rcases v with x | x | x | x | x
      · refine pz_ws_set (h := h) (h' := (h.1, pz_u2 h.2.1 r b' x, h.2.2)) g1 rfl ?_ (fun r' hne => pz_ce_iv hne)
        rw [pz_ce_obj (h := (h.1, pz_u2 h.2.1 r b' x, h.2.2)) g3 h12]
        congr 2
        have hc0 : pz_tc a' b' ≠ 9 := by
          intro q9
          rw [q9] at hf
          simp [pz_fit] at hf
        refine pz_list_set ?_ (fun j hj => ?_)
        · unfold pz_fv
          rw [if_neg hc0]
          show Value.int (Int32.ofInt (pz_u2 h.2.1 r b' x r b')) = _
          rw [pz_u2_at, if_pos ⟨rfl, rfl⟩]
          rfl
        · unfold pz_fv
          show (if _ then _ else Value.int (Int32.ofInt (pz_u2 h.2.1 r b' x r j))) = _
          rw [pz_u2_at, if_neg (show ¬ (r = r ∧ j = b') from fun q9 => hj q9.2)]
      · refine pz_ws_set (h := h) (h' := ((h.1.1, h.1.2.1, h.1.2.2.1, pz_u2 h.1.2.2.2 r b' x), h.2)) g1 rfl ?_ (fun r' hne => pz_ce_rf hne)
        rw [pz_ce_obj (h := ((h.1.1, h.1.2.1, h.1.2.2.1, pz_u2 h.1.2.2.2 r b' x), h.2)) g3 h12]
        congr 2
        have hc0 : pz_tc a' b' = 9 := (pz_fit_ref hf).1
        refine pz_list_set ?_ (fun j hj => ?_)
        · unfold pz_fv
          rw [if_pos hc0]
          show pz_e ad (.inr (.inl (pz_u2 h.1.2.2.2 r b' x r b'))) = _
          rw [pz_u2_at, if_pos ⟨rfl, rfl⟩]
        · unfold pz_fv
          show (if _ then pz_e ad (.inr (.inl (pz_u2 h.1.2.2.2 r b' x r j))) else _) = _
          rw [pz_u2_at, if_neg (show ¬ (r = r ∧ j = b') from fun q9 => hj q9.2)]
      · simp [pz_fit] at hf
      · simp [pz_fit] at hf
      · simp [pz_fit] at hf
    have hnar : narrow ty (pz_e ad v) = pz_e ad v ∧ fits ty (pz_e ad v) = true := by
      rcases v with x | x | x | x | x
      · rcases htc with ⟨rfl, ht⟩ | ⟨rfl, ht⟩ | ⟨-, ht⟩ | ⟨-, ht⟩
        · exact ⟨rfl, rfl⟩
        · rw [ht] at hf
          simp [pz_fit] at hf
          rcases hf with rfl | rfl <;> exact ⟨rfl, rfl⟩
        · rw [ht] at hf; simp [pz_fit] at hf
        · rw [ht] at hf; simp [pz_fit] at hf
      · have hc0 := (pz_fit_ref hf).1
        have hz : pz_e ad (.inr (.inl x)) = .null ∨ ∃ z, pz_e ad (.inr (.inl x)) = .ref z := by
          show (if x = 0 then Value.null else .ref (ad x)) = .null ∨ ∃ z, (if x = 0 then Value.null else .ref (ad x)) = .ref z
          split
          · exact Or.inl rfl
          · exact Or.inr ⟨_, rfl⟩
        rcases htc with ⟨rfl, ht⟩ | ⟨rfl, ht⟩ | ⟨⟨n, rfl⟩, ht⟩ | ⟨⟨n, rfl⟩, ht⟩
        · omega
        · omega
        · rcases hz with hz | ⟨z, hz⟩ <;> rw [hz] <;> exact ⟨rfl, rfl⟩
        · rcases hz with hz | ⟨z, hz⟩ <;> rw [hz] <;> exact ⟨rfl, rfl⟩
      · simp [pz_fit] at hf
      · simp [pz_fit] at hf
      · simp [pz_fit] at hf
    rw [pz_e_ref g1]
    rw [hws] at k
    cases hfi : (q.2.1 b').2.2.2 with
    | false =>
      exact va_put hx hb (C := q.1) (T := q.2.1) (N := q.2.2) hts (pz_in hq) (pz_t0 q) (pz_t0_ok hq) (pz_nm_ok hq) hown hK hP hD hS (r - 2) he1 hq b' hbq (hts _ hw) (fun _ h9 => h9) hfi hty hnar.1 hnar.2 (by simp; exact hbn) hd k
    | true =>
      have h9 : pz_fin a' b' = true := by unfold pz_fin; rw [hq]; exact hfi
      rw [h9] at hfin
      simp at hfin
      obtain ⟨f1, f2⟩ := hfin
      have f3 : (q.2.1 b').1 = (pz_yy m).cls := by
        rw [hr, ← f2]
        unfold pz_cn
        rw [hq]
      exact va_putF hx hb (C := q.1) (T := q.2.1) (N := q.2.2) hts (pz_in hq) (pz_t0 q) (pz_t0_ok hq) (pz_nm_ok hq) hown hK hP hD hS (r - 2) he1 hq b' hbq (hts _ hw) (fun _ h9 => h9) hfi (hname f1) f3 hty hnar.1 hnar.2 (by simp; exact hbn) hd k
  · cases hck
end PZM
/-! the machine follows the evaluator: the instructions of group 2 -/
theorem pz_ck2_len {m len a b c e pc : Nat} {ins : Instr} (h : pz_ck1 m 2 ins len a b c e pc = true) : len = pz_len ins := by
  simp only [pz_ck1, Bool.and_eq_true, beq_iff_eq] at h
  exact h.1
theorem pz_ws_iv {ad : Nat → Nat} {dA : Nat → ClassId} {h : pz_H} {r a : Nat} {i x : Int} (hr : 2 ≤ r) (hk : h.1.2.1 r = a) (ha : 20 ≤ a ∧ a ≤ 22) (hi : pz_i i) :
    (pz_ws ad dA h).set (r - 2) (ad r, .inl (dA a, h.1.2.2.1 r, .inl (upd (fun j => Int32.ofInt (h.2.1 r j)) (Int32.ofInt i).toNatClampNeg (Int32.ofInt x)))) = pz_ws ad dA (h.1, pz_u2 h.2.1 r i.toNat x, h.2.2) := by
  refine (pz_ws_set (h := h) (h' := (h.1, pz_u2 h.2.1 r i.toNat x, h.2.2)) hr rfl ?_ (fun r' hne => pz_ce_iv hne)).symm
  rw [pz_ce_int (h := (h.1, pz_u2 h.2.1 r i.toNat x, h.2.2)) hk ha, ← pz_upd hi]
theorem pz_ws_lv {ad : Nat → Nat} {dA : Nat → ClassId} {h : pz_H} {r : Nat} {i x : Int} (hr : 2 ≤ r) (hk : h.1.2.1 r = 24) (hi : pz_i i) :
    (pz_ws ad dA h).set (r - 2) (ad r, .inl (dA 24, h.1.2.2.1 r, .inr (.inl (vp_updL (fun j => Int64.ofInt (h.2.1 r j)) (Int32.ofInt i).toNatClampNeg (Int64.ofInt x))))) = pz_ws ad dA (h.1, pz_u2 h.2.1 r i.toNat x, h.2.2) := by
  refine (pz_ws_set (h := h) (h' := (h.1, pz_u2 h.2.1 r i.toNat x, h.2.2)) hr rfl ?_ (fun r' hne => pz_ce_iv hne)).symm
  rw [pz_ce_long (h := (h.1, pz_u2 h.2.1 r i.toNat x, h.2.2)) hk]
  congr 5
  funext j
  rw [pz_tnc hi]
  show Int64.ofInt (pz_u2 h.2.1 r i.toNat x r j) = _
  rw [pz_u2_at]
  unfold vp_updL
  by_cases hj : j = i.toNat
  · rw [if_pos ⟨rfl, hj⟩, if_pos hj]
  · rw [if_neg (fun q => hj q.2), if_neg hj]
theorem pz_ws_dv {ad : Nat → Nat} {dA : Nat → ClassId} {h : pz_H} {r : Nat} {i : Int} {x : UInt64} (hr : 2 ≤ r) (hk : h.1.2.1 r = 25) (hi : pz_i i) :
    (pz_ws ad dA h).set (r - 2) (ad r, .inl (dA 25, h.1.2.2.1 r, .inr (.inr (.inr (.inl (vf_upd (h.2.2.1 r) (Int32.ofInt i).toNatClampNeg x)))))) = pz_ws ad dA (h.1, h.2.1, pz_u2 h.2.2.1 r i.toNat x, h.2.2.2) := by
  refine (pz_ws_set (h := h) (h' := (h.1, h.2.1, pz_u2 h.2.2.1 r i.toNat x, h.2.2.2)) hr rfl ?_ (fun r' hne => pz_ce_dv hne)).symm
  rw [pz_ce_dbl (h := (h.1, h.2.1, pz_u2 h.2.2.1 r i.toNat x, h.2.2.2)) hk]
  congr 7
  funext j
  rw [pz_tnc hi]
  show pz_u2 h.2.2.1 r i.toNat x r j = _
  rw [pz_u2_at]
  unfold vf_upd
  by_cases hj : j = i.toNat
  · rw [if_pos ⟨rfl, hj⟩, if_pos hj]
  · rw [if_neg (fun q => hj q.2), if_neg hj]
theorem pz_ws_qv {ad : Nat → Nat} {dA : Nat → ClassId} {h : pz_H} {r v : Nat} {i : Int} (hr : 2 ≤ r) (hk : h.1.2.1 r = 23) (hi : pz_i i) (hv : v ≠ 0) :
    (pz_ws ad dA h).set (r - 2) (ad r, .inl (dA 23, h.1.2.2.1 r, .inr (.inr (.inr (.inr (va_up (fun j => pz_rr ad (h.1.2.2.2 r j)) (Int32.ofInt i).toNatClampNeg (some (ad v)))))))) = pz_ws ad dA ((h.1.1, h.1.2.1, h.1.2.2.1, pz_u2 h.1.2.2.2 r i.toNat v), h.2) := by
  refine (pz_ws_set (h := h) (h' := ((h.1.1, h.1.2.1, h.1.2.2.1, pz_u2 h.1.2.2.2 r i.toNat v), h.2)) hr rfl ?_ (fun r' hne => pz_ce_rf hne)).symm
  rw [pz_ce_ref (h := ((h.1.1, h.1.2.1, h.1.2.2.1, pz_u2 h.1.2.2.2 r i.toNat v), h.2)) hk]
  congr 7
  funext j
  rw [pz_tnc hi]
  show pz_rr ad (pz_u2 h.1.2.2.2 r i.toNat v r j) = _
  rw [pz_u2_at]
  unfold va_up
  by_cases hj : j = i.toNat
  · rw [if_pos ⟨rfl, hj⟩, if_pos hj]
    unfold pz_rr
    rw [if_neg hv]
  · rw [if_neg (fun q => hj q.2), if_neg hj]
theorem pz_arr_eq {D : va_G} {cl : List vw_C} {tys : List (ClassId × FieldType)} {U : State} {t0 : Nat} {cA cB : ClassId} {ty : FieldType} (hK : va_K D cl tys U) (ht : tys[t0]? = some (cA, ty)) (hK' : va_K D cl (tys ++ [(cB, ty)]) U) : cB = cA := by
  have h1 := (hK.2 t0 _ ht).2
  have h2 := (hK'.2 tys.length (cB, ty) (by simp)).2
  cases ty with
  | object C =>
    obtain ⟨_, _, _, _, _, h4⟩ := h1
    obtain ⟨_, _, _, _, _, h5⟩ := h2
    exact Option.some.inj (h5.symm.trans h4)
  | _ => exact Option.some.inj (h2.symm.trans h1)
/-- words of a class: may be made, is ready -/
def pz_iw : List (Nat × Nat) := [(198, 81), (117, 78), (177, 80), (222, 82), (285, 83), (291, 84), (111, 77), (380, 86), (342, 85), (151, 79), (103, 76), (1531, 87)]
def pz_nk : Bool := pz_nl.all (fun x => match pz_cls[x.2.2.1]? with
  | some q => (match pz_iw[x.2.2.1]? with
    | some w => decide (lw_tbl[x.2.2.2]? = some (.classLink x.1 x.2.1 q.1) ∧ lw_tbl[w.1]? = some (.instantiable q.1 q.2.2) ∧ lw_tbl[w.2]? = some (.initialized q.1))
    | none => false)
  | none => false)
theorem pz_nk_ok : pz_nk = true := by decide +kernel
theorem pz_nl_at {o : String} {i a w e : Nat} (h : pz_nl[e]? = some (o, i, a, w)) : ∃ q, pz_cls[a]? = some q ∧ Cond.classLink o i q.1 ∈ pz_gd ∧ Cond.instantiable q.1 q.2.2 ∈ pz_gd ∧ Cond.initialized q.1 ∈ pz_gd := by
  have h1 := List.all_eq_true.mp pz_nk_ok _ (List.mem_of_getElem? h)
  dsimp only at h1
  split at h1
  · rename_i q hq
    split at h1
    · have h2 := of_decide_eq_true h1
      exact ⟨q, hq, pz_gd_in h2.1 rfl, pz_gd_in h2.2.1 rfl, pz_gd_in h2.2.2 rfl⟩
    · cases h1
  · cases h1
theorem pz_ac : Cond.arrayClass .int ∈ pz_gd ∧ Cond.arrayClass .boolean ∈ pz_gd ∧ Cond.arrayClass .char ∈ pz_gd ∧ Cond.arrayClass .long ∈ pz_gd ∧ Cond.arrayClass .double ∈ pz_gd :=
  ⟨pz_gd_in (i := 148) (by decide +kernel) rfl, pz_gd_in (i := 149) (by decide +kernel) rfl, pz_gd_in (i := 282) (by decide +kernel) rfl, pz_gd_in (i := 2030) (by decide +kernel) rfl, pz_gd_in (i := 2031) (by decide +kernel) rfl⟩
theorem pz_u1_up {ad : Nat → Nat} {n q : Nat} : ∀ r, r < n + 2 → pz_u1 ad (n + 2) q r = ad r := fun r hr => by rw [pz_u1_at, if_neg (by omega)]
theorem pz_new_k {h : pz_H} {kd ln sl : Nat} : (pz_new h kd ln sl).1.2.1 (h.1.1 + 2) = kd := by show pz_u1 _ _ _ _ = _; rw [pz_u1_at, if_pos rfl]
theorem pz_new_l {h : pz_H} {kd ln sl : Nat} : (pz_new h kd ln sl).1.2.2.1 (h.1.1 + 2) = ln := by show pz_u1 _ _ _ _ = _; rw [pz_u1_at, if_pos rfl]
theorem pz_new_i {h : pz_H} {kd ln sl : Nat} : (pz_new h kd ln sl).2.1 (h.1.1 + 2) = fun _ => 0 := by show pz_u1 _ _ _ _ = _; rw [pz_u1_at, if_pos rfl]
theorem pz_new_d {h : pz_H} {kd ln sl : Nat} : (pz_new h kd ln sl).2.2.1 (h.1.1 + 2) = fun _ => 0 := by show pz_u1 _ _ _ _ = _; rw [pz_u1_at, if_pos rfl]
theorem pz_new_r {h : pz_H} {kd ln sl : Nat} : (pz_new h kd ln sl).1.2.2.2 (h.1.1 + 2) = fun _ => 0 := by show pz_u1 _ _ _ _ = _; rw [pz_u1_at, if_pos rfl]
section PZN
variable {p : Program} {l : Launch} {e : Env} {R : Room} {s : State} {mI : MethodId} {args : Array Value} {below : List Frame} {meth : Method} {c : Code} {H H0 : Heap} {locs : List Loc} {cells slots : Nat} {Q : State → Prop}
variable {cc : ByteArray} {pc : Nat} {mls : Array Slot} {ad : Nat → Nat} {dA : Nat → ClassId} {D : va_G} {A : Nat → Prop}
theorem pz_Wnewo {m len a b c' e' i c0 s0 : Nat} {h : pz_H} {rest : List pz_V} (hx : p.tables.exec = Jvm.exec) (hb : c.code = cc) (hts : ∀ w ∈ pz_gd, w.before args s = true) (hown : s.vm.findClass (pz_yy m).cls = some mI.cls) (hK : va_K D pz_cls (pz_tys dA) s)
    (hP : va_P D pz_cls (pz_ws ad dA h) H) (hD : va_D A (pz_ws ad dA h)) (hS : va_S A H0 H locs) (hA : ∀ q, H0.size ≤ q → A q) (hr : ∀ r j, h.1.2.2.2 r j < h.1.1 + 2) (hck : pz_ck1 m 2 (.new i) len a b c' e' pc = true) (hd : decode cc pc = .ok (.new i, 3)) (ho : ∀ v ∈ rest, pz_o h.1.1 v)
    (hcs : cells + c0 = h.2.2.2.1) (hss : slots + s0 = h.2.2.2.2) (hrc : h.2.2.2.1 + 1 ≤ c0 + R.cells) (hrs : h.2.2.2.2 + b ≤ s0 + R.slots)
    (k : ∀ (q : Nat) (H1 : Heap), va_P D pz_cls (pz_ws (pz_u1 ad (h.1.1 + 2) q) dA (pz_new h a 0 b)) H1 → va_D A (pz_ws (pz_u1 ad (h.1.1 + 2) q) dA (pz_new h a 0 b)) → va_S A H0 H1 locs → W p l e R s mI args below meth c H1 locs (cells + 1) (slots + b) Q (F0 mI (pc + 3) mls ((.inr (.inl (h.1.1 + 2)) :: rest).map (pz_e (pz_u1 ad (h.1.1 + 2) q))))) : W p l e R s mI args below meth c H locs cells slots Q (F0 mI pc mls (rest.map (pz_e ad))) := by
  simp only [pz_ck1, Bool.and_eq_true] at hck
  obtain ⟨-, hck⟩ := hck
  split at hck
  · rename_i o i' a' w he
    simp only [Bool.and_eq_true, decide_eq_true_eq, beq_iff_eq] at hck
    obtain ⟨rfl, rfl, rfl, hb', h12⟩ := hck
    obtain ⟨q, hq, w1, w2, w3⟩ := pz_nl_at he
    have hbn : b = q.2.2 := by rw [hb', pz_nf_at hq]
    refine va_new hx hb (C := q.1) (T := q.2.1) (N := q.2.2) (Ts := pz_gd) hts (pz_in hq) (pz_t0 q) (pz_t0_ok hq) hown (hts _ w1) (hts _ w2) (hts _ w3) hK hP hD hS hA hq (fs := (List.range (pz_nf a')).map (pz_fv ad (pz_new h a' 0 b) a' (h.1.1 + 2))) ?_ (by omega) (by omega) hd ?_
    · intro j hj
      have e1 : vp_V ((List.range (pz_nf a')).map (pz_fv ad (pz_new h a' 0 b) a' (h.1.1 + 2))) j = pz_fv ad (pz_new h a' 0 b) a' (h.1.1 + 2) j := by
        unfold vp_V
        rw [List.getD_eq_getElem?_getD, List.getElem?_map, List.getElem?_range (by rw [pz_nf_at hq]; exact hj)]
        rfl
      rw [e1]
      unfold pz_fv
      rw [pz_new_i, pz_new_r]
      obtain ⟨⟨ty, hty, hc⟩, -⟩ := pz_tk_at hq hj
      have e2 : pz_t0 q j = ty := by unfold pz_t0; rw [hty]; rfl
      rw [e2]
      rcases hc with ⟨rfl, ht⟩ | ⟨rfl, ht⟩ | ⟨⟨n, rfl⟩, ht⟩ | ⟨⟨n, rfl⟩, ht⟩ <;> rw [ht] <;> rfl
    · intro q1 H1 g1 g2 g3
      have e3 : pz_ws (pz_u1 ad (h.1.1 + 2) q1) dA (pz_new h a' 0 b) = pz_ws ad dA h ++ [(q1, .inr (a', (List.range (pz_nf a')).map (pz_fv ad (pz_new h a' 0 b) a' (h.1.1 + 2))))] := by
        refine pz_ws_new hr ?_
        rw [pz_ce_obj pz_new_k h12]
        congr 2
        apply List.map_congr_left
        intro j _
        unfold pz_fv
        rw [pz_new_r, pz_new_i]
        rfl
      have k := k q1 H1
      rw [e3] at k
      have k := k g1 g2 g3
      simp only [List.map_cons] at k
      rw [pz_es_same (n := h.1.1) (pz_u1_up) ho] at k
      have e4 : pz_e (pz_u1 ad (h.1.1 + 2) q1) (.inr (.inl (h.1.1 + 2))) = .ref q1 := by
        rw [pz_e_ref (by omega), pz_u1_at, if_pos rfl]
      rw [e4, hbn] at k
      exact k
  · cases hck
theorem pz_Wnewa {a c0 s0 t0 : Nat} {t : ArrayType} {ty : FieldType} {n : Int} {h : pz_H} {rest : List pz_V} {a0 : vp_A} (hx : p.tables.exec = Jvm.exec) (hb : c.code = cc) (hK : va_K D pz_cls (pz_tys dA) s)
    (hP : va_P D pz_cls (pz_ws ad dA h) H) (hD : va_D A (pz_ws ad dA h)) (hS : va_S A H0 H locs) (hA : ∀ q, H0.size ≤ q → A q) (hr : ∀ r j, h.1.2.2.2 r j < h.1.1 + 2) (hd : decode cc pc = .ok (.newarray t, 2)) (ho : ∀ v ∈ rest, pz_o h.1.1 v)
    (hn0 : 0 ≤ n) (hn1 : n ≤ 65536) (harr : (Cond.arrayClass (newarray.typeOf t)).before args s = true) (hty : newarray.typeOf t = ty) (hcb : componentBytes ty ≤ 8) (ht0 : (pz_tys dA)[t0]? = some (dA a, ty)) (ha : ∀ cA : ClassId, vp_cell cA a0 = arrV cA n.toNat (fun _ => defaultValue ty)) (hce : ∀ q, pz_ce (pz_u1 ad (h.1.1 + 2) q) dA (pz_new h a n.toNat n.toNat) (h.1.1 + 2) = .inl (dA a, a0))
    (hcs : cells + c0 = h.2.2.2.1) (hss : slots + s0 = h.2.2.2.2) (hrc : h.2.2.2.1 + 1 ≤ c0 + R.cells) (hrs : h.2.2.2.2 + n.toNat ≤ s0 + R.slots)
    (k : ∀ (q : Nat) (H1 : Heap), va_P D pz_cls (pz_ws (pz_u1 ad (h.1.1 + 2) q) dA (pz_new h a n.toNat n.toNat)) H1 → va_D A (pz_ws (pz_u1 ad (h.1.1 + 2) q) dA (pz_new h a n.toNat n.toNat)) → va_S A H0 H1 locs → W p l e R s mI args below meth c H1 locs (cells + 1) (slots + n.toNat) Q (F0 mI (pc + 2) mls ((.inr (.inl (h.1.1 + 2)) :: rest).map (pz_e (pz_u1 ad (h.1.1 + 2) q))))) : W p l e R s mI args below meth c H locs cells slots Q (F0 mI pc mls (.int (Int32.ofInt n) :: rest.map (pz_e ad))) := by
  have hni : pz_i n := ⟨by omega, by omega⟩
  refine va_newa hx hb harr hty hK hP hD hS hA (n := Int32.ofInt n) (N' := n.toNat) ha ?_ (pz_tnc hni) (Nat.le_trans (Nat.mul_le_mul (show n.toNat ≤ 65536 by omega) hcb) (by omega)) (by omega) (by omega) hd ?_
  · intro q
    rw [show (0 : Int32) = Int32.ofInt 0 from rfl, pz_ilt hni ⟨by omega, by omega⟩] at q
    omega
  · intro q1 cA H1 gK g1 g2 g3
    have hc := pz_arr_eq hK ht0 gK
    subst hc
    have k := k q1 H1
    rw [pz_ws_new hr (hce q1)] at k
    have k := k g1 g2 g3
    simp only [List.map_cons] at k
    rw [pz_es_same (n := h.1.1) (pz_u1_up) ho] at k
    have e4 : pz_e (pz_u1 ad (h.1.1 + 2) q1) (.inr (.inl (h.1.1 + 2))) = .ref q1 := by
      rw [pz_e_ref (by omega), pz_u1_at, if_pos rfl]
    rw [e4] at k
    exact k
set_option maxHeartbeats 8000000 in
theorem pz_W2 {L : Nat} {xs : Nat → Int32} {m len a b c' e' c0 s0 : Nat} {ins : Instr} {st st' : List pz_V} {h h' : pz_H} (hx : p.tables.exec = Jvm.exec) (hb : c.code = cc) (hts : ∀ w ∈ pz_gd, w.before args s = true) (hown : s.vm.findClass (pz_yy m).cls = some mI.cls) (hname : (pz_yy m).name = "<init>" → meth.name = "<init>") (hK : va_K D pz_cls (pz_tys dA) s)
    (hP : va_P D pz_cls (pz_ws ad dA h) H) (hD : va_D A (pz_ws ad dA h)) (hS : va_S A H0 H locs) (hA : ∀ q, H0.size ≤ q → A q) (hX : va_X (ad 1) L xs s H0) (hbl : ad 1 < H0.size) (hbA : ¬ A (ad 1)) (hao : va_AO "Simplespan$Plan" s)
    (q : pz_hk L xs h) (ho : ∀ v ∈ st, pz_o h.1.1 v) (hm : pz_mem ins a b c' st h = some (st', h')) (hck : pz_ck1 m 2 ins len a b c' e' pc = true) (hd : decode cc pc = .ok (ins, len))
    (hcs : cells + c0 = h.2.2.2.1) (hss : slots + s0 = h.2.2.2.2) (hrc : h'.2.2.2.1 ≤ c0 + R.cells) (hrs : h'.2.2.2.2 ≤ s0 + R.slots)
    (k : ∀ (ad' : Nat → Nat) (H1 : Heap) (locs1 : List Loc) (cells1 slots1 : Nat), (∀ r, r < h.1.1 + 2 → ad' r = ad r) → va_P D pz_cls (pz_ws ad' dA h') H1 → va_D A (pz_ws ad' dA h') → va_S A H0 H1 locs1 → cells1 + c0 = h'.2.2.2.1 → slots1 + s0 = h'.2.2.2.2 →
      W p l e R s mI args below meth c H1 locs1 cells1 slots1 Q (F0 mI (pc + len) mls (st'.map (pz_e ad')))) : W p l e R s mI args below meth c H locs cells slots Q (F0 mI pc mls (st.map (pz_e ad))) := by
  have hlen := pz_ck2_len hck
  obtain ⟨t0, t1, t2, t3, t4, t5⟩ := pz_tys_at dA
  unfold pz_mem at hm
  split at hm
  · -- getfield
    split at hm
    · rename_i hi
      cases hm
      subst hlen
      have k := k ad H locs cells slots (fun _ _ => rfl) hP hD hS hcs hss
      simp only [List.map_cons] at k ⊢
      refine pz_Wget hx hb hts hown hK hP hck hi hd ?_
      obtain ⟨e1, -⟩ := pz_ck_get hck
      rw [e1] at k
      unfold pz_fv
      split at k
      · rename_i h9; rw [if_pos h9]; exact k
      · rename_i h9; rw [if_neg h9]; exact k
    · cases hm
  · -- putfield
    split at hm
    · rename_i hi
      subst hlen
      have ho1 := ho _ List.mem_cons_self
      split at hm
      · cases hm
        simp only [List.map_cons]
        exact pz_Wput hx hb hts hown hname hK hP hD hS hck hi.1 hd ho1 hi.2 rfl (fun H1 locs1 g1 g2 g3 => k ad H1 locs1 cells slots (fun _ _ => rfl) g1 g2 g3 hcs hss)
      · cases hm
        simp only [List.map_cons]
        exact pz_Wput hx hb hts hown hname hK hP hD hS hck hi.1 hd ho1 hi.2 rfl (fun H1 locs1 g1 g2 g3 => k ad H1 locs1 cells slots (fun _ _ => rfl) g1 g2 g3 hcs hss)
      · cases hm
    · cases hm
  · -- iaload
    split at hm
    · rename_i i r st1 hi
      cases hm
      subst hlen
      have hii : pz_i i := ho (.inl i) List.mem_cons_self
      have k := k ad H locs cells slots (fun _ _ => rfl) hP hD hS hcs hss
      simp only [List.map_cons] at k ⊢
      have h6 := hi.1
      simp only [pz_ia, Bool.or_eq_true, decide_eq_true_eq] at h6
      rcases h6 with h6 | h6
      · obtain ⟨g1, g2, g3⟩ := pz_is_spec h6
        rw [pz_e_ref g1]
        refine va_iald hx hb hK hP (r - 2) 0 (by rw [pz_ws_at g1 g2, pz_ce_int g3 ⟨by omega, by omega⟩]) t0 (pz_vpin hii hi.2.1 hi.2.2) hd ?_
        rw [pz_tnc hii]
        exact k
      · subst h6
        have h7 := hi.2.2
        rw [q.2.2.1] at h7
        refine va_sld hx hb hX hbl hbA hS (pz_vpin hii hi.2.1 h7) hd ?_
        rw [pz_tnc hii]
        have e1 : pz_e ad (.inl (h.2.1 1 i.toNat)) = .int (xs i.toNat) := by
          show Value.int (Int32.ofInt (h.2.1 1 i.toNat)) = _
          rw [q.2.2.2.1 _ (by omega), Int32.ofInt_toInt]
        rw [e1] at k
        exact k
    · cases hm
  · -- baload
    split at hm
    · rename_i i r st1 hi
      cases hm
      subst hlen
      have hii : pz_i i := ho (.inl i) List.mem_cons_self
      have k := k ad H locs cells slots (fun _ _ => rfl) hP hD hS hcs hss
      simp only [List.map_cons] at k ⊢
      obtain ⟨g1, g2, g3⟩ := pz_is_spec hi.1
      rw [pz_e_ref g1]
      refine va_zald hx hb hK hP (r - 2) 1 (by rw [pz_ws_at g1 g2, pz_ce_int g3 ⟨by omega, by omega⟩]) t1 (pz_vpin hii hi.2.1 hi.2.2) hd ?_
      rw [pz_tnc hii]
      exact k
    · cases hm
  · -- caload
    split at hm
    · rename_i i r st1 hi
      cases hm
      subst hlen
      have hii : pz_i i := ho (.inl i) List.mem_cons_self
      have k := k ad H locs cells slots (fun _ _ => rfl) hP hD hS hcs hss
      simp only [List.map_cons] at k ⊢
      obtain ⟨g1, g2, g3⟩ := pz_is_spec hi.1
      rw [pz_e_ref g1]
      refine va_cald hx hb hK hP (r - 2) 2 (by rw [pz_ws_at g1 g2, pz_ce_int g3 ⟨by omega, by omega⟩]) t2 (pz_vpin hii hi.2.1 hi.2.2) hd ?_
      rw [pz_tnc hii]
      exact k
    · cases hm
  · -- laload
    split at hm
    · rename_i i r st1 hi
      cases hm
      subst hlen
      have hii : pz_i i := ho (.inl i) List.mem_cons_self
      have k := k ad H locs cells slots (fun _ _ => rfl) hP hD hS hcs hss
      simp only [List.map_cons] at k ⊢
      obtain ⟨g1, g2, g3⟩ := pz_is_spec hi.1
      rw [pz_e_ref g1]
      refine va_lald hx hb hK hP (r - 2) 4 (by rw [pz_ws_at g1 g2, pz_ce_long g3]) t4 (pz_vpin hii hi.2.1 hi.2.2) hd ?_
      rw [pz_tnc hii]
      exact k
    · cases hm
  · -- daload
    split at hm
    · rename_i i r st1 hi
      cases hm
      subst hlen
      have hii : pz_i i := ho (.inl i) List.mem_cons_self
      have k := k ad H locs cells slots (fun _ _ => rfl) hP hD hS hcs hss
      simp only [List.map_cons] at k ⊢
      obtain ⟨g1, g2, g3⟩ := pz_is_spec hi.1
      rw [pz_e_ref g1]
      refine va_dald hx hb hK hP (r - 2) 5 (by rw [pz_ws_at g1 g2, pz_ce_dbl g3]) t5 (pz_vpin hii hi.2.1 hi.2.2) hd ?_
      rw [pz_tnc hii]
      exact k
    · cases hm
  · -- aaload
    split at hm
    · rename_i i r st1 hi
      cases hm
      subst hlen
      have hii : pz_i i := ho (.inl i) List.mem_cons_self
      have k := k ad H locs cells slots (fun _ _ => rfl) hP hD hS hcs hss
      simp only [List.map_cons] at k ⊢
      obtain ⟨g1, g2, g3⟩ := pz_is_spec hi.1
      rw [pz_e_ref g1]
      refine va_aldq hx hb hK hP (r - 2) 3 (by rw [pz_ws_at g1 g2, pz_ce_ref g3]) t3 (pz_vpin hii hi.2.1 hi.2.2) hd ?_
      rw [pz_tnc hii, pz_rr_e]
      exact k
    · cases hm
  · -- iastore
    split at hm
    · rename_i x i r st1 hi
      cases hm
      subst hlen
      have hii : pz_i i := ho (.inl i) (List.mem_cons_of_mem _ List.mem_cons_self)
      have k := fun H1 locs1 g1 g2 g3 => k ad H1 locs1 cells slots (fun _ _ => rfl) g1 g2 g3 hcs hss
      simp only [List.map_cons]
      obtain ⟨g1, g2, g3⟩ := pz_is_spec hi.1
      rw [pz_e_ref g1]
      rw [← pz_ws_iv g1 g3 ⟨by omega, by omega⟩ hii] at k
      exact va_iast hx hb hK hP hD hS (r - 2) 0 (by rw [pz_ws_at g1 g2, pz_ce_int g3 ⟨by omega, by omega⟩]) t0 (pz_vpin hii hi.2.1 hi.2.2) hd k
    · cases hm
  · -- bastore
    split at hm
    · rename_i x i r st1 hi
      cases hm
      subst hlen
      have hii : pz_i i := ho (.inl i) (List.mem_cons_of_mem _ List.mem_cons_self)
      have k := fun H1 locs1 g1 g2 g3 => k ad H1 locs1 cells slots (fun _ _ => rfl) g1 g2 g3 hcs hss
      simp only [List.map_cons]
      obtain ⟨g1, g2, g3⟩ := pz_is_spec hi.1
      rw [pz_e_ref g1]
      rw [← pz_ws_iv g1 g3 ⟨by omega, by omega⟩ hii, ← pz_nar_z hi.2.2.2] at k
      exact va_zast hx hb hK hP hD hS (r - 2) 1 (by rw [pz_ws_at g1 g2, pz_ce_int g3 ⟨by omega, by omega⟩]) t1 (pz_vpin hii hi.2.1 hi.2.2.1) hd k
    · cases hm
  · -- castore
    split at hm
    · rename_i x i r st1 hi
      cases hm
      subst hlen
      have hii : pz_i i := ho (.inl i) (List.mem_cons_of_mem _ List.mem_cons_self)
      have k := fun H1 locs1 g1 g2 g3 => k ad H1 locs1 cells slots (fun _ _ => rfl) g1 g2 g3 hcs hss
      simp only [List.map_cons]
      obtain ⟨g1, g2, g3⟩ := pz_is_spec hi.1
      rw [pz_e_ref g1]
      rw [← pz_ws_iv g1 g3 ⟨by omega, by omega⟩ hii, ← pz_nar_c hi.2.2.2] at k
      exact va_cast hx hb hK hP hD hS (r - 2) 2 (by rw [pz_ws_at g1 g2, pz_ce_int g3 ⟨by omega, by omega⟩]) t2 (pz_vpin hii hi.2.1 hi.2.2.1) hd k
    · cases hm
  · -- lastore
    split at hm
    · rename_i x i r st1 hi
      cases hm
      subst hlen
      have hii : pz_i i := ho (.inl i) (List.mem_cons_of_mem _ List.mem_cons_self)
      have k := fun H1 locs1 g1 g2 g3 => k ad H1 locs1 cells slots (fun _ _ => rfl) g1 g2 g3 hcs hss
      simp only [List.map_cons]
      obtain ⟨g1, g2, g3⟩ := pz_is_spec hi.1
      rw [pz_e_ref g1]
      rw [← pz_ws_lv g1 g3 hii] at k
      exact va_last hx hb hK hP hD hS (r - 2) 4 (by rw [pz_ws_at g1 g2, pz_ce_long g3]) t4 (pz_vpin hii hi.2.1 hi.2.2) hd k
    · cases hm
  · -- dastore
    split at hm
    · rename_i x i r st1 hi
      cases hm
      subst hlen
      have hii : pz_i i := ho (.inl i) (List.mem_cons_of_mem _ List.mem_cons_self)
      have k := fun H1 locs1 g1 g2 g3 => k ad H1 locs1 cells slots (fun _ _ => rfl) g1 g2 g3 hcs hss
      simp only [List.map_cons]
      obtain ⟨g1, g2, g3⟩ := pz_is_spec hi.1
      rw [pz_e_ref g1]
      rw [← pz_ws_dv g1 g3 hii] at k
      exact va_dast hx hb hK hP hD hS (r - 2) 5 (by rw [pz_ws_at g1 g2, pz_ce_dbl g3]) t5 (pz_vpin hii hi.2.1 hi.2.2) hd k
    · cases hm
  · -- aastore
    split at hm
    · rename_i v i r st1 hi
      cases hm
      subst hlen
      have hii : pz_i i := ho (.inl i) (List.mem_cons_of_mem _ List.mem_cons_self)
      have k := fun H1 locs1 g1 g2 g3 => k ad H1 locs1 cells slots (fun _ _ => rfl) g1 g2 g3 hcs hss
      simp only [List.map_cons]
      obtain ⟨g1, g2, g3⟩ := pz_is_spec hi.1
      obtain ⟨f1, f2, f3⟩ := pz_is_spec hi.2.2.2
      rw [pz_e_ref g1, pz_e_ref f1]
      rw [← pz_ws_qv g1 g3 hii (by omega)] at k
      exact va_astq hx hb hK hP hD hS (r - 2) 3 (v - 2) 6 (by rw [pz_ws_at g1 g2, pz_ce_ref g3]) t3 (by rw [pz_ws_at f1 f2, pz_ce_obj f3 (by omega)]) rfl (pz_vpin hii hi.2.1 hi.2.2.1) hd k
    · cases hm
  · -- arraylength
    split at hm
    · rename_i r st1 hi
      cases hm
      subst hlen
      have k := k ad H locs cells slots (fun _ _ => rfl) hP hD hS hcs hss
      simp only [List.map_cons] at k ⊢
      simp only [pz_aa, Bool.or_eq_true, Bool.and_eq_true, decide_eq_true_eq] at hi
      have hl := q.2.2.2.2 r
      have e1 : pz_e ad (.inl ((h.1.2.2.1 r : Nat) : Int)) = .int (Int32.ofNat (h.1.2.2.1 r)) := rfl
      rw [e1] at k
      rcases hi with hi | ⟨g1, g2, g4, g5⟩
      · subst hi
        rw [q.2.2.1] at k
        exact va_slen hx hb hX hbl hbA hS hd k
      · rw [pz_e_ref g1]
        have h7 : h.1.2.1 r = 20 ∨ h.1.2.1 r = 21 ∨ h.1.2.1 r = 22 ∨ h.1.2.1 r = 23 ∨ h.1.2.1 r = 24 ∨ h.1.2.1 r = 25 := by omega
        rcases h7 with g3 | g3 | g3 | g3 | g3 | g3
        · exact va_alen hx hb hK hP (r - 2) 0 (by rw [pz_ws_at g1 g2, pz_ce_int g3 ⟨by omega, by omega⟩]) t0 (v := Int32.ofNat (h.1.2.2.1 r)) rfl hd k
        · exact va_alen hx hb hK hP (r - 2) 1 (by rw [pz_ws_at g1 g2, pz_ce_int g3 ⟨by omega, by omega⟩]) t1 (v := Int32.ofNat (h.1.2.2.1 r)) rfl hd k
        · exact va_alen hx hb hK hP (r - 2) 2 (by rw [pz_ws_at g1 g2, pz_ce_int g3 ⟨by omega, by omega⟩]) t2 (v := Int32.ofNat (h.1.2.2.1 r)) rfl hd k
        · exact va_alen hx hb hK hP (r - 2) 3 (by rw [pz_ws_at g1 g2, pz_ce_ref g3]) t3 (v := Int32.ofNat (h.1.2.2.1 r)) rfl hd k
        · exact va_alen hx hb hK hP (r - 2) 4 (by rw [pz_ws_at g1 g2, pz_ce_long g3]) t4 (v := Int32.ofNat (h.1.2.2.1 r)) rfl hd k
        · exact va_alen hx hb hK hP (r - 2) 5 (by rw [pz_ws_at g1 g2, pz_ce_dbl g3]) t5 (v := Int32.ofNat (h.1.2.2.1 r)) rfl hd k
    · cases hm
  · -- new
    cases hm
    subst hlen
    exact pz_Wnewo hx hb hts hown hK hP hD hS hA q.2.1 hck hd ho hcs hss hrc hrs (fun q1 H1 g1 g2 g3 => k _ H1 locs _ _ pz_u1_up g1 g2 g3 (by show cells + 1 + c0 = h.2.2.2.1 + 1; omega) (by show slots + b + s0 = h.2.2.2.2 + b; omega))
  · -- newarray
    split at hm
    · rename_i t n st1 hi
      cases hm
      subst hlen
      have ho1 : ∀ v ∈ st1, pz_o h.1.1 v := fun v hv => ho v (List.mem_cons_of_mem _ hv)
      have k := fun (q1 : Nat) (H1 : Heap) g1 g2 g3 => k (pz_u1 ad (h.1.1 + 2) q1) H1 locs (cells + 1) (slots + n.toNat) pz_u1_up g1 g2 g3 (by show cells + 1 + c0 = h.2.2.2.1 + 1; omega) (by show slots + n.toNat + s0 = h.2.2.2.2 + n.toNat; omega)
      simp only [pz_ck1, Bool.and_eq_true] at hck
      obtain ⟨-, hck⟩ := hck
      simp only [List.map_cons]
      split at hck
      · have ha := eq_of_beq hck
        subst ha
        exact pz_Wnewa hx hb hK hP hD hS hA q.2.1 hd ho1 hi.1 hi.2 (hts _ pz_ac.1) rfl (by decide) t0 (a0 := (n.toNat, .inl (fun _ => 0))) (fun cA => vp_cell_i ..) (fun q1 => by rw [pz_ce_int pz_new_k ⟨by omega, by omega⟩, pz_new_l, pz_new_i]; rfl) hcs hss hrc hrs k
      · have ha := eq_of_beq hck
        subst ha
        exact pz_Wnewa hx hb hK hP hD hS hA q.2.1 hd ho1 hi.1 hi.2 (hts _ pz_ac.2.1) rfl (by decide) t1 (a0 := (n.toNat, .inl (fun _ => 0))) (fun cA => vp_cell_i ..) (fun q1 => by rw [pz_ce_int pz_new_k ⟨by omega, by omega⟩, pz_new_l, pz_new_i]; rfl) hcs hss hrc hrs k
      · have ha := eq_of_beq hck
        subst ha
        exact pz_Wnewa hx hb hK hP hD hS hA q.2.1 hd ho1 hi.1 hi.2 (hts _ pz_ac.2.2.1) rfl (by decide) t2 (a0 := (n.toNat, .inl (fun _ => 0))) (fun cA => vp_cell_i ..) (fun q1 => by rw [pz_ce_int pz_new_k ⟨by omega, by omega⟩, pz_new_l, pz_new_i]; rfl) hcs hss hrc hrs k
      · have ha := eq_of_beq hck
        subst ha
        exact pz_Wnewa hx hb hK hP hD hS hA q.2.1 hd ho1 hi.1 hi.2 (hts _ pz_ac.2.2.2.1) rfl (by decide) t4 (a0 := (n.toNat, .inr (.inl (fun _ => 0)))) (fun cA => vp_cell_l ..) (fun q1 => by rw [pz_ce_long pz_new_k, pz_new_l, pz_new_i]; rfl) hcs hss hrc hrs k
      · have ha := eq_of_beq hck
        subst ha
        exact pz_Wnewa hx hb hK hP hD hS hA q.2.1 hd ho1 hi.1 hi.2 (hts _ pz_ac.2.2.2.2) rfl (by decide) t5 (a0 := (n.toNat, .inr (.inr (.inr (.inl (fun _ => 0)))))) (fun cA => vp_cell_d ..) (fun q1 => by rw [pz_ce_dbl pz_new_k, pz_new_l, pz_new_d]) hcs hss hrc hrs k
      · cases hck
    · cases hm
  · -- anewarray
    split at hm
    · rename_i ix n st1 hi
      cases hm
      subst hlen
      have ho1 : ∀ v ∈ st1, pz_o h.1.1 v := fun v hv => ho v (List.mem_cons_of_mem _ hv)
      have hni : pz_i n := ⟨by omega, by omega⟩
      simp only [pz_ck1, Bool.and_eq_true] at hck
      obtain ⟨-, hck⟩ := hck
      simp only [List.map_cons]
      split at hck
      · rename_i o i' a' w he
        simp only [Bool.and_eq_true, decide_eq_true_eq, beq_iff_eq] at hck
        obtain ⟨rfl, rfl, rfl⟩ := hck
        obtain ⟨q6, hq6, w1, w2, w3⟩ := pz_nl_at he
        have e6 : q6.1 = "Simplespan$Plan" := by
          have e7 : pz_cls[6]? = some q6 := hq6
          cases e7
          rfl
        rw [e6] at w1
        have hrc' : h.2.2.2.1 + 1 ≤ c0 + R.cells := hrc
        have hrs' : h.2.2.2.2 + n.toNat ≤ s0 + R.slots := hrs
        refine va_newq hx hb hown (hts _ w1) hao hK hP hD hS hA (n := Int32.ofInt n) (N' := n.toNat) ?_ (pz_tnc hni) (by omega) (by omega) (by omega) hd ?_
        · intro q9
          rw [show (0 : Int32) = Int32.ofInt 0 from rfl, pz_ilt hni ⟨by omega, by omega⟩] at q9
          omega
        · intro q1 cA H1 gK g1 g2 g3
          have hc := pz_arr_eq hK t3 gK
          subst hc
          have k := k (pz_u1 ad (h.1.1 + 2) q1) H1 locs (cells + 1) (slots + n.toNat) pz_u1_up
          rw [pz_ws_new q.2.1 (z := .inl (dA 23, n.toNat, .inr (.inr (.inr (.inr (fun _ => none)))))) (by rw [pz_ce_ref pz_new_k, pz_new_l, pz_new_r]; rfl)] at k
          have k := k g1 g2 g3 (by show cells + 1 + c0 = h.2.2.2.1 + 1; omega) (by show slots + n.toNat + s0 = h.2.2.2.2 + n.toNat; omega)
          simp only [List.map_cons] at k
          rw [pz_es_same (n := h.1.1) (pz_u1_up) ho1] at k
          have e4 : pz_e (pz_u1 ad (h.1.1 + 2) q1) (.inr (.inl (h.1.1 + 2))) = .ref q1 := by
            rw [pz_e_ref (by omega), pz_u1_at, if_pos rfl]
          rw [e4] at k
          exact k
      · cases hck
    · cases hm
  · cases hm
end PZN
/-! the machine follows the evaluator: constants, jumps, copies, Object's constructor, answers -/
theorem pz_gd_of {w : Cond} (i : Nat) (h : decide (lw_tbl[i]? = some w) = true) (g : goodWord w = true) : w ∈ pz_gd := pz_gd_in (of_decide_eq_true h) g
theorem pz_sy : Cond.native arraycopyName ∈ pz_gd ∧ Cond.static arraycopyName ∈ pz_gd ∧ Cond.initialized "java/lang/System" ∈ pz_gd :=
  ⟨pz_gd_of 531 (by decide +kernel) rfl, pz_gd_of 530 (by decide +kernel) rfl, pz_gd_of 95 (by decide +kernel) rfl⟩
theorem pz_oi : Cond.instanceMethod Lib.objectInit ∈ pz_gd ∧ Cond.code Lib.objectInit ⟨#[0xb1]⟩ 1 none ∈ pz_gd := ⟨pz_gd_of 108 (by decide +kernel) rfl, pz_gd_of 109 (by decide +kernel) rfl⟩
theorem pz_fit_c {x : Int} (h : 0 ≤ x ∧ x ≤ 65535) : fits .char (.int (Int32.ofInt x)) = true := by
  have e0 : (0 : Int32) ≤ Int32.ofInt x := by
    rw [show (0 : Int32) = Int32.ofInt 0 from rfl]
    exact (pz_ile ⟨by omega, by omega⟩ ⟨by omega, by omega⟩).mpr h.1
  have e1 : Int32.ofInt x ≤ 65535 := by
    rw [show (65535 : Int32) = Int32.ofInt 65535 from rfl]
    exact (pz_ile ⟨by omega, by omega⟩ ⟨by omega, by omega⟩).mpr h.2
  show (decide ((0 : Int32) ≤ Int32.ofInt x) && decide (Int32.ofInt x ≤ 65535)) = true
  rw [Bool.and_eq_true]
  exact ⟨decide_eq_true e0, decide_eq_true e1⟩
section PZE
variable {p : Program} {l : Launch} {e : Env} {R : Room} {s : State} {mI : MethodId} {args : Array Value} {below : List Frame} {meth : Method} {c : Code} {H H0 : Heap} {locs : List Loc} {cells slots : Nat} {Q : State → Prop}
variable {cc : ByteArray} {pc : Nat} {mls : Array Slot} {ad : Nat → Nat} {dA : Nat → ClassId} {D : va_G} {A : Nat → Prop} {rest : List Value}
theorem pz_W3 {m a b c' e' len : Nat} {ins : Instr} (hx : p.tables.exec = Jvm.exec) (hb : c.code = cc) (hts : ∀ w ∈ pz_gd, w.before args s = true) (hown : s.vm.findClass (pz_yy m).cls = some mI.cls) (hck : pz_ck1 m 3 ins len a b c' e' pc = true) (hd : decode cc pc = .ok (ins, len))
    (k : W p l e R s mI args below meth c H locs cells slots Q (F0 mI (pc + len) mls (pz_e ad (.inl (a : Int)) :: rest))) : W p l e R s mI args below meth c H locs cells slots Q (F0 mI pc mls rest) := by
  simp only [pz_ck1, Bool.and_eq_true, decide_eq_true_eq, beq_iff_eq] at hck
  obtain ⟨rfl, ha, hck⟩ := hck
  split at hck
  · exact lv_ldc hx hb hown (hts _ (pz_gd_of e' hck rfl)) hd k
  · exact lv_ldcw hx hb hown (hts _ (pz_gd_of e' hck rfl)) hd k
  · cases hck
theorem pz_W8 {m a b c' e' len : Nat} {ins : Instr} (hx : p.tables.exec = Jvm.exec) (hb : c.code = cc) (hck : pz_ck1 m 8 ins len a b c' e' pc = true) (hd : decode cc pc = .ok (ins, len))
    (k : W p l e R s mI args below meth c H locs cells slots Q (F0 mI a mls rest)) : W p l e R s mI args below meth c H locs cells slots Q (F0 mI pc mls rest) := by
  simp only [pz_ck1, Bool.and_eq_true, beq_iff_eq] at hck
  obtain ⟨rfl, hck⟩ := hck
  split at hck
  · exact lv_goto hx hb hd (of_decide_eq_true hck) k
  · cases hck
theorem pz_Wif {cd : ClassFile.Cond} {o : Int} {x : Int} {tgt : Nat} (hx : p.tables.exec = Jvm.exec) (hb : c.code = cc) (hi : pz_i x) (hd : decode cc pc = .ok (.ifCond cd o, 3)) (ht : (pc : Int) + o = (tgt : Int))
    (kt : pz_cond cd x 0 = true → W p l e R s mI args below meth c H locs cells slots Q (F0 mI tgt mls rest)) (kf : ¬ pz_cond cd x 0 = true → W p l e R s mI args below meth c H locs cells slots Q (F0 mI (pc + 3) mls rest)) : W p l e R s mI args below meth c H locs cells slots Q (F0 mI pc mls (.int (Int32.ofInt x) :: rest)) := by
  have h0 : pz_i 0 := ⟨by omega, by omega⟩
  cases cd <;> simp only [pz_cond, decide_eq_true_eq] at kt kf
  · exact lv_if_eq hx hb hd ht (fun h => kt ((pz_ieq hi h0).mp h)) (fun h => kf (fun q => h ((pz_ieq hi h0).mpr q)))
  · exact lv_if_ne hx hb hd ht (fun h => kt (fun q => h ((pz_ieq hi h0).mpr q))) (fun h => kf (fun q => q ((pz_ieq hi h0).mp h)))
  · exact lv_if_lt hx hb hd ht (fun h => kt ((pz_ilt hi h0).mp h)) (fun h => kf (fun q => h ((pz_ilt hi h0).mpr q)))
  · exact lv_if_ge hx hb hd ht (fun h => kt ((pz_ile h0 hi).mp h)) (fun h => kf (fun q => h ((pz_ile h0 hi).mpr q)))
  · exact lv_if_gt hx hb hd ht (fun h => kt ((pz_ilt h0 hi).mp h)) (fun h => kf (fun q => h ((pz_ilt h0 hi).mpr q)))
  · exact lv_if_le hx hb hd ht (fun h => kt ((pz_ile hi h0).mp h)) (fun h => kf (fun q => h ((pz_ile hi h0).mpr q)))
theorem pz_Wicmp {cd : ClassFile.Cond} {o : Int} {x y : Int} {tgt : Nat} (hx : p.tables.exec = Jvm.exec) (hb : c.code = cc) (hi : pz_i x) (h0 : pz_i y) (hd : decode cc pc = .ok (.if_icmp cd o, 3)) (ht : (pc : Int) + o = (tgt : Int))
    (kt : pz_cond cd x y = true → W p l e R s mI args below meth c H locs cells slots Q (F0 mI tgt mls rest)) (kf : ¬ pz_cond cd x y = true → W p l e R s mI args below meth c H locs cells slots Q (F0 mI (pc + 3) mls rest)) : W p l e R s mI args below meth c H locs cells slots Q (F0 mI pc mls (.int (Int32.ofInt y) :: .int (Int32.ofInt x) :: rest)) := by
  cases cd <;> simp only [pz_cond, decide_eq_true_eq] at kt kf
  · exact lv_icmp_eq hx hb hd ht (fun h => kt ((pz_ieq hi h0).mp h)) (fun h => kf (fun q => h ((pz_ieq hi h0).mpr q)))
  · exact lv_icmp_ne hx hb hd ht (fun h => kt (fun q => h ((pz_ieq hi h0).mpr q))) (fun h => kf (fun q => q ((pz_ieq hi h0).mp h)))
  · exact lv_icmp_lt hx hb hd ht (fun h => kt ((pz_ilt hi h0).mp h)) (fun h => kf (fun q => h ((pz_ilt hi h0).mpr q)))
  · exact lv_icmp_ge hx hb hd ht (fun h => kt ((pz_ile h0 hi).mp h)) (fun h => kf (fun q => h ((pz_ile h0 hi).mpr q)))
  · exact lv_icmp_gt hx hb hd ht (fun h => kt ((pz_ilt h0 hi).mp h)) (fun h => kf (fun q => h ((pz_ilt h0 hi).mpr q)))
  · exact lv_icmp_le hx hb hd ht (fun h => kt ((pz_ile hi h0).mp h)) (fun h => kf (fun q => h ((pz_ile hi h0).mpr q)))
theorem pz_Wnull {o : Int} {r tgt : Nat} (hx : p.tables.exec = Jvm.exec) (hb : c.code = cc) (hd : decode cc pc = .ok (.ifnull o, 3)) (ht : (pc : Int) + o = (tgt : Int))
    (kt : r = 0 → W p l e R s mI args below meth c H locs cells slots Q (F0 mI tgt mls rest)) (kf : ¬ r = 0 → W p l e R s mI args below meth c H locs cells slots Q (F0 mI (pc + 3) mls rest)) : W p l e R s mI args below meth c H locs cells slots Q (F0 mI pc mls (pz_e ad (.inr (.inl r)) :: rest)) := by
  by_cases hr : r = 0
  · have e1 : pz_e ad (.inr (.inl r)) = .null := by show (if r = 0 then Value.null else .ref (ad r)) = _; rw [if_pos hr]
    rw [e1]
    exact lv_ifnullN hx hb hd ht (kt hr)
  · have e1 : pz_e ad (.inr (.inl r)) = .ref (ad r) := by show (if r = 0 then Value.null else .ref (ad r)) = _; rw [if_neg hr]
    rw [e1]
    exact lv_ifnull hx hb hd (kf hr)
theorem pz_W12 {m a b c' e' len : Nat} {d lo hi : Int} {offs : Array Int} {x : Int} (hx : p.tables.exec = Jvm.exec) (hb : c.code = cc) (hxi : pz_i x) (hck : pz_ck1 m 12 (.tableswitch d lo hi offs) len a b c' e' pc = true) (hd : decode cc pc = .ok (.tableswitch d lo hi offs, len))
    (kt : x < lo ∨ hi < x → W p l e R s mI args below meth c H locs cells slots Q (F0 mI ((a : Int) + d).toNat mls rest)) (kf : ∀ o, ¬ (x < lo ∨ hi < x) → offs[(x - lo).toNat]? = some o → W p l e R s mI args below meth c H locs cells slots Q (F0 mI ((a : Int) + o).toNat mls rest))
    (hin : ¬ (x < lo ∨ hi < x) → ∃ o, offs[(x - lo).toNat]? = some o) : W p l e R s mI args below meth c H locs cells slots Q (F0 mI pc mls (.int (Int32.ofInt x) :: rest)) := by
  simp only [pz_ck1, Bool.and_eq_true, beq_iff_eq, decide_eq_true_eq] at hck
  obtain ⟨rfl, hd0, hall⟩ := hck
  have e1 := pz_of hxi
  by_cases h : x < lo ∨ hi < x
  · exact lv_tableOut hx hb hd (by rw [e1]; exact h) (by omega) (kt h)
  · obtain ⟨o, ho⟩ := hin h
    have h2 := List.all_eq_true.mp hall o (Array.mem_toList_iff.mpr (Array.mem_of_getElem? ho))
    have h3 := of_decide_eq_true h2
    exact lv_tableIn hx hb hd (by rw [e1]; exact fun q => h (Or.inl q)) (by rw [e1]; exact fun q => h (Or.inr q)) (by rw [e1]; exact ho) (by omega) (kf o h ho)
theorem pz_cat_sum (ad : Nat → Nat) : ∀ (st : List pz_V), ((st.map (pz_e ad)).map fun v => v.category).sum ≤ 2 * st.length
  | [] => Nat.le_refl _
  | v :: st => by
    have h1 := pz_cat_sum ad st
    have h2 : pz_cat v ≤ 2 := by rcases v with x | x | x | x | x <;> simp [pz_cat]
    simp only [List.map_cons, List.sum_cons, List.length_cons, pz_e_cat]
    omega
theorem pz_W6 {m a b c' e' len r : Nat} {ins : Instr} {st : List pz_V} (hx : p.tables.exec = Jvm.exec) (hb : c.code = cc) (hts : ∀ w ∈ pz_gd, w.before args s = true) (hown : s.vm.findClass (pz_yy m).cls = some mI.cls) (hsz : mls.size = c.maxLocals)
    (hRf : pz_fr m ≤ R.frames) (hRl : pz_lo m ≤ R.locals) (hr : 2 ≤ r) (hst : st.length ≤ 4) (hck : pz_ck1 m 6 ins len a b c' e' pc = true) (hd : decode cc pc = .ok (ins, len))
    (k : W p l e R s mI args below meth c H locs cells slots Q (F0 mI (pc + len) mls (st.map (pz_e ad)))) : W p l e R s mI args below meth c H locs cells slots Q (F0 mI pc mls (pz_e ad (.inr (.inl r)) :: st.map (pz_e ad))) := by
  simp only [pz_ck1, Bool.and_eq_true, beq_iff_eq] at hck
  obtain ⟨rfl, hck⟩ := hck
  split at hck
  · simp only [Bool.and_eq_true, decide_eq_true_eq] at hck
    obtain ⟨hw, hf1, hf2⟩ := hck
    rw [pz_e_ref hr]
    refine W.objInit hx hb hown (hts _ (pz_gd_in hw rfl)) (hts _ pz_oi.1) (hts _ pz_oi.2) rfl hsz rfl hd (by omega) ?_ k
    have h1 := pz_cat_sum ad st
    show 2 * 0 + _ + 12 ≤ _
    omega
  · cases hck
set_option maxHeartbeats 4000000 in
theorem pz_W5 {L : Nat} {xs : Nat → Int32} {m a b c' e' len : Nat} {ins : Instr} {st st' : List pz_V} {h h' : pz_H} (hx : p.tables.exec = Jvm.exec) (hb : c.code = cc) (hts : ∀ w ∈ pz_gd, w.before args s = true) (hown : s.vm.findClass (pz_yy m).cls = some mI.cls) (hK : va_K D pz_cls (pz_tys dA) s)
    (hP : va_P D pz_cls (pz_ws ad dA h) H) (hD : va_D A (pz_ws ad dA h)) (hS : va_S A H0 H locs) (hsz : c.maxLocals = mls.size) (hRf : pz_fr m ≤ R.frames) (hRl : pz_lo m ≤ R.locals)
    (q : pz_hk L xs h) (ho : ∀ v ∈ st, pz_o h.1.1 v) (hm : pz_cpy st h = some (st', h')) (hck : pz_ck1 m 5 ins len a b c' e' pc = true) (hd : decode cc pc = .ok (ins, len))
    (k : ∀ (H1 : Heap) (locs1 : List Loc), va_P D pz_cls (pz_ws ad dA h') H1 → va_D A (pz_ws ad dA h') → va_S A H0 H1 locs1 → W p l e R s mI args below meth c H1 locs1 cells slots Q (F0 mI (pc + len) mls (st'.map (pz_e ad)))) : W p l e R s mI args below meth c H locs cells slots Q (F0 mI pc mls (st.map (pz_e ad))) := by
  simp only [pz_ck1, Bool.and_eq_true, beq_iff_eq] at hck
  obtain ⟨rfl, hck⟩ := hck
  obtain ⟨t0, t1, t2, -⟩ := pz_tys_at dA
  split at hck
  · simp only [Bool.and_eq_true, decide_eq_true_eq] at hck
    obtain ⟨hw, hf1, hf2⟩ := hck
    unfold pz_cpy at hm
    split at hm
    · rename_i n dp d sp sx st1
      obtain ⟨hi, hm⟩ := pz_ite hm
      · cases hm
        obtain ⟨h0, h1, h2, h3, h4, h5, h6, h7, h8, h9, h10⟩ := hi
        obtain ⟨g1, g2, g3⟩ := pz_is_spec h1
        obtain ⟨f1, f2, -⟩ := pz_is_spec h2
        have n1 : pz_i n := ho (.inl n) List.mem_cons_self
        have n2 : pz_i dp := ho (.inl dp) (List.mem_cons_of_mem _ List.mem_cons_self)
        have n3 : pz_i sp := ho (.inl sp) (List.mem_cons_of_mem _ (List.mem_cons_of_mem _ (List.mem_cons_of_mem _ List.mem_cons_self)))
        have pos : ∀ {z : Int}, pz_i z → 0 ≤ z → ¬ Int32.ofInt z < 0 := by
          intro z hz hz0 q9
          rw [show (0 : Int32) = Int32.ofInt 0 from rfl, pz_ilt hz ⟨by omega, by omega⟩] at q9
          omega
        have hws : pz_ws ad dA (h.1, pz_u1 h.2.1 d (fun k => if dp.toNat ≤ k ∧ k < dp.toNat + n.toNat then h.2.1 sx (sp.toNat + (k - dp.toNat)) else h.2.1 d k), h.2.2) = (pz_ws ad dA h).set (d - 2) (ad d, .inl (dA (h.1.2.1 d), h.1.2.2.1 d, .inl (va_cpy (fun j => Int32.ofInt (h.2.1 sx j)) (fun j => Int32.ofInt (h.2.1 d j)) (Int32.ofInt sp).toNatClampNeg (Int32.ofInt dp).toNatClampNeg (Int32.ofInt n).toNatClampNeg))) := by
          refine pz_ws_set f1 rfl ?_ (fun r' hne => ?_)
          · rw [pz_ce_int (h := (h.1, pz_u1 h.2.1 d (fun k => if dp.toNat ≤ k ∧ k < dp.toNat + n.toNat then h.2.1 sx (sp.toNat + (k - dp.toNat)) else h.2.1 d k), h.2.2)) (a := h.1.2.1 d) rfl ⟨h3, h4⟩, pz_tnc n1, pz_tnc n2, pz_tnc n3]
            congr 4
            funext j
            show Int32.ofInt (pz_u1 h.2.1 d _ d j) = _
            rw [pz_u1_at, if_pos rfl]
            unfold va_cpy
            dsimp only
            split <;> rfl
          · have e1 : pz_u1 h.2.1 d (fun k => if dp.toNat ≤ k ∧ k < dp.toNat + n.toNat then h.2.1 sx (sp.toNat + (k - dp.toNat)) else h.2.1 d k) r' = h.2.1 r' := by rw [pz_u1_at, if_neg hne]
            unfold pz_ce pz_fv
            simp only [e1]
        rw [hws] at k
        simp only [List.map_cons]
        rw [pz_e_ref g1, pz_e_ref f1]
        have hroom : ((st'.map (pz_e ad)).map fun v => v.category).sum + (nativeFrameWords "java/lang/System" "arraycopy" 5 + 11) ≤ R.locals := by
          have z1 := pz_cat_sum ad st'
          have z2 : nativeFrameWords "java/lang/System" "arraycopy" 5 = 7 := by decide
          rw [z2]
          omega
        have hk3 : h.1.2.1 d = 20 ∨ h.1.2.1 d = 21 ∨ h.1.2.1 d = 22 := by omega
        have fitI : ∀ i, fits .int (.int (Int32.ofInt (h.2.1 sx i))) = true := fun _ => rfl
        rcases hk3 with hk | hk | hk <;> rw [hk] at k g3 <;>
          (refine va_copyi hx hb hsz hown (hts _ (pz_gd_in hw rfl)) (hts _ pz_sy.1) (hts _ pz_sy.2.1) (hts _ pz_sy.2.2) hK hP hD hS (sx - 2) (d - 2) ?t0 ?t1 (by rw [pz_ws_at g1 g2, pz_ce_int g3 ⟨by omega, by omega⟩]) (by rw [pz_ws_at f1 f2, pz_ce_int hk ⟨by omega, by omega⟩]) ?ht0 ?ht1 ?hprim (pos n3 h6) (pos n2 h7) (pos n1 h8) (by rw [pz_tnc n3, pz_tnc n1]; omega) (by rw [pz_tnc n2, pz_tnc n1]; omega) ?fit (by omega) hroom hd k)
        case inl.t0 => exact 0
        case inl.t1 => exact 0
        case inl.ht0 => exact t0
        case inl.ht1 => exact t0
        case inl.hprim => rfl
        case inl.fit => exact fun i _ => rfl
        case inr.inl.t0 => exact 1
        case inr.inl.t1 => exact 1
        case inr.inl.ht0 => exact t1
        case inr.inl.ht1 => exact t1
        case inr.inl.hprim => rfl
        case inr.inl.fit =>
          intro i _
          have h11 := q.1 sx ((Int32.ofInt sp).toNatClampNeg + i)
          rw [g3] at h11
          have h12 : h.2.1 sx ((Int32.ofInt sp).toNatClampNeg + i) = 0 ∨ h.2.1 sx ((Int32.ofInt sp).toNatClampNeg + i) = 1 := h11
          rcases h12 with h12 | h12 <;> rw [h12] <;> rfl
        case inr.inr.t0 => exact 2
        case inr.inr.t1 => exact 2
        case inr.inr.ht0 => exact t2
        case inr.inr.ht1 => exact t2
        case inr.inr.hprim => rfl
        case inr.inr.fit =>
          intro i _
          have h11 := q.1 sx ((Int32.ofInt sp).toNatClampNeg + i)
          rw [g3] at h11
          have h12 : 0 ≤ h.2.1 sx ((Int32.ofInt sp).toNatClampNeg + i) ∧ h.2.1 sx ((Int32.ofInt sp).toNatClampNeg + i) ≤ 65535 := h11
          exact pz_fit_c h12
    · cases hm
  · cases hck
end PZE
/-! contracts of the evaluator's runs -/
def pz_wn : Cond → Bool
  | .declares _ => true
  | .castable _ _ => true
  | .methodLinkNest _ _ _ _ => true
  | _ => false
def pz_bd : List Cond := lw_tbl.filter pz_wn
theorem pz_bd_in {w : Cond} (i : Nat) (h : lw_tbl[i]? = some w) (g : pz_wn w = true) : w ∈ pz_bd := List.mem_filter.mpr ⟨List.mem_of_getElem? h, g⟩
theorem pz_wn_warm {w : Cond} (g : pz_wn w = true) {s U : State} (hW : s.WarmedH U.vm) (h : va_Nw w s) : va_Nw w U := by
  unfold pz_wn at g
  split at g
  · exact va_Nw.warmD hW h
  · exact va_Nw.warmC hW h
  · exact va_Nw.warmM hW h
  · cases g
/-- what the tables say, kept by every run -/
def pz_En (D : va_G) (dA : Nat → ClassId) (sa : Nat → Nat) (U : State) : Prop :=
  va_K D pz_cls (pz_tys dA) U ∧ va_AO "Simplespan$Plan" U ∧ (∀ w ∈ pz_bd, va_Nw w U) ∧
  (∀ (k : Nat) (o : String) (ik is ic E wd : Nat) (tx : String), pz_tl[k]? = some (o, ik, is, ic, E, wd, tx) → vk_R o is tx (sa k) U) ∧
  (∀ (a b : Nat) (x y : String), pz_xn[a]? = some x → pz_xn[b]? = some y → a ≠ b → va_Nc x y U)
theorem pz_En.warm {D : va_G} {dA : Nat → ClassId} {sa : Nat → Nat} {s U : State} (hW : s.WarmedH U.vm) (h : pz_En D dA sa s) : pz_En D dA sa U := by
  obtain ⟨h1, h2, h3, h4, h5⟩ := h
  exact ⟨va_K.moved hW.alike h1, va_AO.moved hW.alike h2, fun w hw => pz_wn_warm (List.mem_filter.mp hw).2 hW (h3 w hw), fun k o ik is ic E wd tx hk => vk_R.warm hW (h4 k o ik is ic E wd tx hk), fun a b x y ha hb hn => va_Nc.moved hW.alike (h5 a b x y ha hb hn)⟩
/-- statics and the script, below Z -/
def pz_St (Z L : Nat) (xs : Nat → Int32) (b : Nat) (U : State) : Prop :=
  Z ≤ U.heap.size ∧ va_X b L xs U U.heap ∧ b < Z ∧ vx_Zq Bundle.tN "UNASSIGNED_STACK" Bundle.steD (fun q => Z ≤ q) U U.heap ∧ vx_Zq Bundle.tN "SUPPRESSED_SENTINEL" Bundle.listD (fun q => Z ≤ q) U U.heap
theorem pz_St.moved {Z L : Nat} {xs : Nat → Int32} {b : Nat} {s U : State} {H : Heap} {locs : List Loc} (h : pz_St Z L xs b s) (hS : va_S (fun q => Z ≤ q) s.heap H locs) (hU : U.heap = H) (hvm : s.vm.Alike U.vm) : pz_St Z L xs b U := by
  obtain ⟨h1, h2, h3, h4, h5⟩ := h
  subst hU
  exact ⟨Nat.le_trans h1 hS.1, va_X.moved hvm (h2.kept (hS.2.1 b (Nat.lt_of_lt_of_le h3 h1) (by omega))), h3, vx_Zq.moved hvm (h4.kept hS.2.1), vx_Zq.moved hvm (h5.kept hS.2.1)⟩
def pz_Pc (Z L : Nat) (xs : Nat → Int32) (D : va_G) (dA : Nat → ClassId) (sa : Nat → Nat) (ad : Nat → Nat) (as : List pz_V) (h : pz_H) : Array Value → State → Prop := fun v U =>
  v = (as.map (pz_e ad)).toArray ∧ pz_En D dA sa U ∧ pz_St Z L xs (ad 1) U ∧ va_P D pz_cls (pz_ws ad dA h) U.heap ∧ va_D (fun q => Z ≤ q) (pz_ws ad dA h)
def pz_Qc (Z : Nat) (D : va_G) (dA : Nat → ClassId) (ad : Nat → Nat) (h : pz_H) (o : Option pz_V ⊕ Nat) (h' : pz_H) : Array Value → State → Outcome → State → Prop := fun _ st oc t =>
  ∃ (v : Option pz_V) (ad' : Nat → Nat), o = .inl v ∧ (∀ r, r < h.1.1 + 2 → ad' r = ad r) ∧ oc = .returned (v.map (pz_e ad')) ∧ va_P D pz_cls (pz_ws ad' dA h') t.heap ∧ va_D (fun q => Z ≤ q) (pz_ws ad' dA h') ∧ va_F (fun q => Z ≤ q) st t
def pz_XC (Z : Nat) (D : va_G) (dA : Nat → ClassId) (ad : Nat → Nat) (h : pz_H) (o : Option pz_V ⊕ Nat) (h' : pz_H) : String → State → State → Prop := fun E st t =>
  ∃ (k : Nat) (ad' : Nat → Nat), o = .inr k ∧ pz_xn[k]? = some E ∧ (∀ r, r < h.1.1 + 2 → ad' r = ad r) ∧ va_P D pz_cls (pz_ws ad' dA h') t.heap ∧ va_D (fun q => Z ≤ q) (pz_ws ad' dA h') ∧ va_F (fun q => Z ≤ q) st t
def pz_hd (m : Nat) : Cond := if (pz_hh m).isEmpty then Cond.code (pz_yy m) (pz_bs m) (pz_ml m) (pz_rt m) else Cond.codeWith (pz_yy m) (pz_bs m) (pz_ml m) (pz_rt m) (pz_hh m)
def pz_rm (m mc ms : Nat) : Room := { frames := pz_fr m, cells := mc, slots := ms, locals := pz_lo m }
def pz_Me (l : Launch) (Z L : Nat) (xs : Nat → Int32) (D : va_G) (dA : Nat → ClassId) (sa : Nat → Nat) (m : Nat) (ad : Nat → Nat) (as : List pz_V) (h : pz_H) (o : Option pz_V ⊕ Nat) (h' : pz_H) : Prop :=
  vx_Met l (pz_yy m) (pz_hd m :: pz_gd) (pz_rm m (h'.2.2.2.1 - h.2.2.2.1) (h'.2.2.2.2 - h.2.2.2.2)) (pz_Pc Z L xs D dA sa ad as h) (pz_Qc Z D dA ad h o h') (pz_XC Z D dA ad h o h') (h'.2.2.2.1 - h.2.2.2.1) (h'.2.2.2.2 - h.2.2.2.2) (fun q => Z ≤ q)
theorem pz_blind {Z L : Nat} {xs : Nat → Int32} {D : va_G} {dA : Nat → ClassId} {sa ad : Nat → Nat} {as : List pz_V} {h : pz_H} : FrameBlind (pz_Pc Z L xs D dA sa ad as h) := by
  intro a U g mk q
  obtain ⟨q1, q2, ⟨q3, q4, q5, q6, q7⟩, q8, q9⟩ := q
  exact ⟨q1, pz_En.warm (s := U) (U := U.calling g mk a) (State.WarmedH.refl U) q2, ⟨q3, va_X.moved (u := U) (U := U.calling g mk a) (Vm.Alike.refl U.vm) q4, q5, vx_Zq.moved (u := U) (U := U.calling g mk a) (Vm.Alike.refl U.vm) q6, vx_Zq.moved (u := U) (U := U.calling g mk a) (Vm.Alike.refl U.vm) q7⟩, q8, q9⟩
theorem pz_met {l : Launch} {y : MethodName} {ws : List Cond} {rm : Room} {Pc : Array Value → State → Prop} {Qc : Array Value → State → Outcome → State → Prop} {XC : String → State → State → Prop} {mc ms : Nat} {free : Addr → Prop} (h : vx_Met l y ws rm Pc Qc XC mc ms free) (hX : ∀ E st t, ¬ XC E st t) : Met l y ws rm Pc Qc mc ms free := by
  intro p e ha hc hk s m args below hf hap hp hK
  obtain ⟨n, o, h1, h2, h3, h4⟩ := h p e ha hc hk s m args below hf hap hp hK
  refine ⟨n, o, h1, h2, h3, ?_⟩
  rcases h4 with h4 | ⟨q, -, E, ce, L, hx, -⟩
  · exact h4
  · exact absurd hx (hX _ _ _)
section PZR
variable {p : Program} {l : Launch} {e : Env} {R : Room} {s : State} {m : MethodId} {args : Array Value} {below : List Frame} {meth : Method} {c : Code} {H : Heap} {locs : List Loc} {cells slots mc ms : Nat} {g : JFrame} {rest : List Value} {Qa : State → Outcome → State → Prop} {XC : String → State → State → Prop} {free : Addr → Prop}
theorem pz_vx_run (h : va_Run p l e R s m args below meth c H locs cells slots mc ms g rest Qa free) : vx_Run p l e R s m args below meth c H locs cells slots mc ms g rest Qa XC free := by
  intro T hT X
  obtain ⟨v, st0, t, T', L, h1, h2, h3, h4, h5, h6, h7⟩ := h T hT X
  exact Or.inl ⟨v, st0, t, T', L, h1, h2, h3, h4, h5, h6, h7⟩
end PZR
/-- what the tables say of a call -/
def pz_cr (x : String × Nat × Nat × Nat × Nat) : Bool := match pz_mw[x.2.2.1]? with
  | some w => decide (lw_tbl[w.1]? = some (pz_hd x.2.2.1)) && (decide (lw_tbl[w.2.2.2.2]? = some (.initialized (pz_yy x.2.2.1).cls)) &&
    ((if x.2.2.2.1 = 2 ∨ x.2.2.2.1 = 4 then decide (lw_tbl[x.2.2.2.2]? = some (.methodLinkNest x.1 x.2.1 (pz_yy x.2.2.1) "Simplespan")) else decide (lw_tbl[x.2.2.2.2]? = some (.methodLink x.1 x.2.1 (pz_yy x.2.2.1)))) &&
    ((if x.2.2.2.1 = 0 then decide (lw_tbl[w.2.1]? = some (.instanceMethod (pz_yy x.2.2.1))) && decide (lw_tbl[w.2.2.2.1]? = some (.selects (pz_yy x.2.2.1).cls (pz_yy x.2.2.1) (pz_yy x.2.2.1)))
      else if x.2.2.2.1 = 3 ∨ x.2.2.2.1 = 4 then decide (lw_tbl[w.2.1]? = some (.instanceMethod (pz_yy x.2.2.1))) && (decide ((pz_yy x.2.2.1).name = "<init>") && decide (pz_rt x.2.2.1 = none))
      else decide (lw_tbl[w.2.1]? = some (.static (pz_yy x.2.2.1)))) &&
    (decide ((pz_yy x.2.2.1).cls ≠ "java/lang/invoke/MethodHandle" ∧ (pz_yy x.2.2.1).cls ≠ "java/lang/invoke/VarHandle" ∧ plainName (pz_yy x.2.2.1).cls = true) &&
    decide (((parseMethodDescriptor (pz_yy x.2.2.1).desc).map (fun d => d.parameters.length + (if w.2.2.1 = 1 then 1 else 0))).getD 1000 ≤ pz_ml x.2.2.1) && (if x.2.2.2.1 = 0 ∨ x.2.2.2.1 = 3 ∨ x.2.2.2.1 = 4 then decide (w.2.2.1 = 1) else true)))))
  | none => false
theorem pz_crA0 : ((pz_cl.drop 0).take 60).all pz_cr = true := by decide +kernel
theorem pz_crA1 : ((pz_cl.drop 60).take 60).all pz_cr = true := by decide +kernel
theorem pz_crA2 : ((pz_cl.drop 120).take 60).all pz_cr = true := by decide +kernel
theorem pz_crA3 : ((pz_cl.drop 180).take 60).all pz_cr = true := by decide +kernel
theorem pz_crA4 : ((pz_cl.drop 240).take 60).all pz_cr = true := by decide +kernel
theorem pz_crA5 : ((pz_cl.drop 300).take 60).all pz_cr = true := by decide +kernel
theorem pz_crA6 : ((pz_cl.drop 360).take 60).all pz_cr = true := by decide +kernel
theorem pz_crA7 : ((pz_cl.drop 420).take 60).all pz_cr = true := by decide +kernel
theorem pz_cl_len : pz_cl.length ≤ 480 := by decide +kernel
theorem pz_in_chunk {α : Type} {f : α → Bool} {l : List α} {a n e : Nat} {x : α} (h : ((l.drop a).take n).all f = true) (hx : l[e]? = some x) (h1 : a ≤ e) (h2 : e < a + n) : f x = true := by
  refine List.all_eq_true.mp h x (List.mem_of_getElem? (i := e - a) ?_)
  rw [List.getElem?_take, if_pos (by omega), List.getElem?_drop]
  rw [show a + (e - a) = e by omega]
  exact hx
theorem pz_cr_ok {e : Nat} {x : String × Nat × Nat × Nat × Nat} (h : pz_cl[e]? = some x) : pz_cr x = true := by
  have hl : e < 480 := Nat.lt_of_lt_of_le (List.getElem?_eq_some_iff.mp h).1 pz_cl_len
  rcases Nat.lt_or_ge e 60 with q | q
  · exact pz_in_chunk pz_crA0 h (Nat.zero_le _) (by omega)
  rcases Nat.lt_or_ge e 120 with q | q
  · exact pz_in_chunk pz_crA1 h (by omega) (by omega)
  rcases Nat.lt_or_ge e 180 with q | q
  · exact pz_in_chunk pz_crA2 h (by omega) (by omega)
  rcases Nat.lt_or_ge e 240 with q | q
  · exact pz_in_chunk pz_crA3 h (by omega) (by omega)
  rcases Nat.lt_or_ge e 300 with q | q
  · exact pz_in_chunk pz_crA4 h (by omega) (by omega)
  rcases Nat.lt_or_ge e 360 with q | q
  · exact pz_in_chunk pz_crA5 h (by omega) (by omega)
  rcases Nat.lt_or_ge e 420 with q | q
  · exact pz_in_chunk pz_crA6 h (by omega) (by omega)
  · exact pz_in_chunk pz_crA7 h (by omega) (by omega)
/-- the method a may be called: its words stand -/
def pz_cb (a : Nat) : Prop := pz_hd a ∈ pz_gd ∧ Cond.initialized (pz_yy a).cls ∈ pz_gd ∧ (pz_yy a).cls ≠ "java/lang/invoke/MethodHandle" ∧ (pz_yy a).cls ≠ "java/lang/invoke/VarHandle" ∧ plainName (pz_yy a).cls = true
theorem pz_hd_good (m : Nat) : goodWord (pz_hd m) = true := by
  unfold pz_hd
  split <;> rfl
theorem pz_ws_good {a : Nat} (h : pz_cb a) : GoodIn pz_gd (pz_hd a :: pz_gd) := by
  intro w hw
  rcases List.mem_cons.mp hw with rfl | hw
  · exact pz_gd_good h.1
  · exact pz_gd_good hw
theorem pz_cr_cb {o : String} {i t k w : Nat} (h : pz_cr (o, i, t, k, w) = true) : pz_cb t := by
  unfold pz_cr at h
  dsimp only at h
  split at h
  · simp only [Bool.and_eq_true, decide_eq_true_eq] at h
    exact ⟨pz_gd_in h.1 (pz_hd_good t), pz_gd_in h.2.1 rfl, h.2.2.2.2.1.1.1, h.2.2.2.2.1.1.2.1, h.2.2.2.2.1.1.2.2⟩
  · cases h
/-! a call, and what follows it -/
theorem pz_ck_call {m len a b c e pc : Nat} {ins : Instr} (h : pz_ck1 m 4 ins len a b c e pc = true) : len = 3 ∧ ∃ (i k w : Nat), pz_cl[e]? = some ((pz_yy m).cls, i, a, k, w) ∧
    ((ins = .invokevirtual i ∧ k = 0 ∧ pz_cn c = (pz_yy a).cls ∧ c < 12) ∨ (ins = .invokestatic i ∧ (k = 1 ∨ k = 2 ∨ k = 5) ∧ c = 99) ∨ (ins = .invokespecial i ∧ (k = 3 ∨ k = 4) ∧ pz_cn c = (pz_yy a).cls ∧ c < 12)) ∧
    (pz_fr a + 1 ≤ pz_fr m ∧ 8 + (pz_ml a + 11) + pz_lo a ≤ pz_lo m) ∧ (parseMethodDescriptor (pz_yy a).desc).map (fun d => d.parameters.length) = some (b - (if c = 99 then 0 else 1)) ∧ (c = 99 ∨ 1 ≤ b) ∧ ((pz_hh a).isEmpty = !(k == 5)) := by
  simp only [pz_ck1, Bool.and_eq_true, beq_iff_eq] at h
  obtain ⟨rfl, h⟩ := h
  refine ⟨rfl, ?_⟩
  split at h
  · rename_i o i t k w he
    simp only [Bool.and_eq_true, decide_eq_true_eq, beq_iff_eq, Bool.or_eq_true] at h
    obtain ⟨rfl, rfl, hins, hR, ⟨hp, hcb⟩, hh⟩ := h
    refine ⟨i, k, w, he, ?_, hR, hp, hcb, hh⟩
    split at hins
    · rename_i i'
      simp only [Bool.and_eq_true, decide_eq_true_eq, beq_iff_eq, Bool.or_eq_true] at hins
      obtain ⟨rfl, rfl, h1, h2⟩ := hins
      exact Or.inl ⟨rfl, rfl, h1, h2⟩
    · rename_i i'
      simp only [Bool.and_eq_true, decide_eq_true_eq, beq_iff_eq, Bool.or_eq_true] at hins
      obtain ⟨rfl, h1, h2⟩ := hins
      exact Or.inr (Or.inl ⟨rfl, h1, h2⟩)
    · rename_i i'
      simp only [Bool.and_eq_true, decide_eq_true_eq, beq_iff_eq, Bool.or_eq_true] at hins
      obtain ⟨rfl, h1, h2, h3⟩ := hins
      exact Or.inr (Or.inr ⟨rfl, h1, h2, h3⟩)
    · cases hins
  · cases h
/-- what a method's walk knows from its entry on -/
def pz_Cx (p : Program) (l : Launch) (R : Room) (s : State) (mI : MethodId) (args : Array Value) (meth : Method) (c : Code) (m Z L : Nat) (xs : Nat → Int32) (D : va_G) (dA : Nat → ClassId) (sa ad0 : Nat → Nat) : Prop :=
  p.tables.exec = Jvm.exec ∧ c.code = pz_bs m ∧ c.maxLocals = pz_ml m ∧ (∀ w ∈ pz_gd, w.before args s = true) ∧ s.vm.findClass (pz_yy m).cls = some mI.cls ∧ ((pz_yy m).name = "<init>" → meth.name = "<init>") ∧ meth.sig.returnType = pz_rt m ∧ meth.locks = false ∧
  pz_fr m ≤ R.frames ∧ pz_lo m ≤ R.locals ∧ l.stackTraces = false ∧ c.exceptionTable.toList = tableOf (pz_hh m) ∧ pz_En D dA sa s ∧ pz_St Z L xs (ad0 1) s
/-- where it stands -/
def pz_Pt (s : State) (m Z L : Nat) (xs : Nat → Int32) (D : va_G) (dA : Nat → ClassId) (ad0 ad : Nat → Nat) (h0 h : pz_H) (ls : pz_L) (mls : Array Slot) (H : Heap) (locs : List Loc) (cells slots : Nat) : Prop :=
  pz_lv ad (pz_ml m) ls mls ∧ va_P D pz_cls (pz_ws ad dA h) H ∧ va_D (fun q => Z ≤ q) (pz_ws ad dA h) ∧ va_S (fun q => Z ≤ q) s.heap H locs ∧ (∀ r, r < h0.1.1 + 2 → ad r = ad0 r) ∧ h0.1.1 ≤ h.1.1 ∧ cells + h0.2.2.2.1 = h.2.2.2.1 ∧ slots + h0.2.2.2.2 = h.2.2.2.2 ∧ pz_hk L xs h ∧ ∀ u, some u ∈ ls → pz_o h.1.1 u
theorem pz_lv_same {ad ad' : Nat → Nat} {n N : Nat} {ls : pz_L} {mls : Array Slot} (h : pz_lv ad N ls mls) (ha : ∀ r, r < n + 2 → ad' r = ad r) (ho : ∀ u, some u ∈ ls → pz_o n u) : pz_lv ad' N ls mls :=
  ⟨h.1, h.2.1, h.2.2.1, fun k v hv => by rw [pz_e_same ha (ho v (List.mem_of_getElem? hv))]; exact h.2.2.2 k v hv⟩
section PZG
variable {p : Program} {l : Launch} {e : Env} {R : Room} {s : State} {mI : MethodId} {args : Array Value} {below : List Frame} {meth : Method} {c : Code} {H : Heap} {locs : List Loc} {cells slots : Nat} {Q : State → Prop}
variable {pc : Nat} {mls : Array Slot} {m Z L : Nat} {xs : Nat → Int32} {D : va_G} {dA : Nat → ClassId} {sa ad0 ad : Nat → Nat} {h0 h : pz_H} {ls : pz_L} {st : List pz_V}
theorem pz_call_run {a b ci ei len : Nat} {ins : Instr} {o1 : Option pz_V ⊕ Nat} {h1 : pz_H} (hC : pz_Cx p l R s mI args meth c m Z L xs D dA sa ad0) (hT : pz_Pt s m Z L xs D dA ad0 ad h0 h ls mls H locs cells slots)
    (hck : pz_ck1 m 4 ins len a b ci ei pc = true) (hd : decode (pz_bs m) pc = .ok (ins, len)) (hb : b ≤ st.length) (hst : (st.drop b).length ≤ 4)
    (hrc : ci = 99 ∨ (match (st.take b).reverse with | .inr (.inl r) :: _ => pz_is h.1 r ci | _ => false) = true)
    (hM : pz_Me l Z L xs D dA sa a ad (st.take b).reverse h o1 h1) (hnt : ∀ x, pz_cl[ei]? = some x → x.2.2.2.1 = 2 ∨ x.2.2.2.1 = 3 ∨ x.2.2.2.1 = 4 → ∀ E, o1 ≠ .inr E)
    (hf : cells + (h1.2.2.2.1 - h.2.2.2.1) ≤ R.cells ∧ slots + (h1.2.2.2.2 - h.2.2.2.2) ≤ R.slots) :
    ∃ av : Array Value, vx_Run p l e R s mI args below meth c H locs cells slots (h1.2.2.2.1 - h.2.2.2.1) (h1.2.2.2.2 - h.2.2.2.2) (F0 mI pc mls (st.map (pz_e ad))) ((st.drop b).map (pz_e ad)) (pz_Qc Z D dA ad h o1 h1 av) (pz_XC Z D dA ad h o1 h1) (fun q => Z ≤ q) := by
  obtain ⟨hx, hbc, hml, hts, hown, hname, hret, hlk, hRf, hRl, htr, htab, hE, hSt⟩ := hC
  obtain ⟨hlv, hP, hD, hS, had, hn0, hcs, hss, hk, hlo⟩ := hT
  obtain ⟨rfl, i, k, w, he, hins, ⟨hR1, hR2⟩, hpar, hcb, hhh⟩ := pz_ck_call hck
  have hrow := pz_cr_ok he
  have hcall := pz_cr_cb hrow
  have hG := pz_ws_good hcall
  have had1 : ad 1 = ad0 1 := had 1 (by omega)
  have hSt' : ∀ U : State, U.heap = H → s.WarmedH U.vm → pz_St Z L xs (ad 1) U := fun U hU hW => by rw [had1]; exact hSt.moved hS hU hW.alike
  have hPc : ∀ U : State, U.heap = H → s.WarmedH U.vm → pz_Pc Z L xs D dA sa ad (st.take b).reverse h (((st.take b).reverse.map (pz_e ad))).toArray U := fun U hU hW => ⟨rfl, hE.warm hW, hSt' U hU hW, by rw [hU]; exact hP, hD⟩
  have hroom : 2 * (F0 mI pc mls (st.map (pz_e ad))).monitorRoom + (((st.drop b).map (pz_e ad)).map fun v => v.category).sum ≤ 8 := lv_room (Nat.le_trans (pz_cat_sum ad _) (by omega))
  have hstk : st.map (pz_e ad) = ((st.take b).reverse.map (pz_e ad)).reverse ++ (st.drop b).map (pz_e ad) := by
    rw [← List.map_reverse, List.reverse_reverse, ← List.map_append, List.take_append_drop]
  have hRR : (pz_rm a (h1.2.2.2.1 - h.2.2.2.1) (h1.2.2.2.2 - h.2.2.2.2)).frames + 1 ≤ R.frames ∧ 8 + (pz_ml a + 11) + (pz_rm a (h1.2.2.2.1 - h.2.2.2.1) (h1.2.2.2.2 - h.2.2.2.2)).locals ≤ R.locals := ⟨Nat.le_trans hR1 hRf, Nat.le_trans hR2 hRl⟩
  have hlen : ((st.take b).reverse.map (pz_e ad)).length = b := by simp; omega
  have hfix : CallFix p mI c (pz_bs m) (pz_ml m) s args pz_gd (pz_yy m).cls := ⟨hx, hbc, hml, hown, hts⟩
  unfold pz_cr at hrow
  dsimp only at hrow
  split at hrow
  · rename_i w5 hw5
    simp only [Bool.and_eq_true, decide_eq_true_eq] at hrow
    obtain ⟨q1, q2, q3, q4, q5⟩ := hrow
    have hini := pz_gd_in q2 rfl
    rcases hins with ⟨rfl, rfl, hcn, hc12⟩ | ⟨rfl, hk3, rfl⟩ | ⟨rfl, hk2, hcn, hc12⟩
    · -- virtual
      simp at q3 q4
      have hd1 : (pz_hh a).isEmpty = true := by rw [hhh]; rfl
      have hhd : pz_hd a = Cond.code (pz_yy a) (pz_bs a) (pz_ml a) (pz_rt a) := by unfold pz_hd; rw [if_pos hd1]
      rcases hrc with rfl | hrc
      · omega
      · have hne : ci ≠ 99 := by omega
        rw [if_neg hne] at hpar
        generalize hrev : (st.take b).reverse = rv at *
        split at hrc
        · rename_i r rs
          obtain ⟨g1, g2, g3⟩ := pz_is_spec hrc
          simp only [List.map_cons, pz_e_ref g1, List.reverse_cons, List.append_assoc, List.cons_append, List.nil_append] at hstk hPc hlen
          obtain ⟨qc, hqc⟩ : ∃ qc, pz_cls[ci]? = some qc := ⟨_, List.getElem?_eq_getElem (by show ci < 12; exact hc12)⟩
          have hcn' : (pz_yy a).cls = qc.1 := by rw [← hcn]; unfold pz_cn; rw [hqc]
          have hcell := va_recv hE.1 hP hqc (by rw [pz_ws_at g1 g2, pz_ce_obj g3 hc12])
          rw [← hcn'] at hcell
          simp only [List.length_cons] at hlen
          refine ⟨_, vx_runV (C := (pz_yy a).cls) (b := ad r) (As := rs.map (pz_e ad)) (rest := (st.drop b).map (pz_e ad)) hfix hM (cwV (b - 1) hts ?_ (by rw [hhd]) rfl rfl ⟨rfl, hcall.2.2.1, hcall.2.2.2.1, hpar⟩ hRR) ⟨pz_blind, hcell, hPc⟩ rfl (by omega) hlv.2.1 hstk hroom hd hf⟩
          intro w hw
          unfold wsV at hw
          rcases List.mem_append.mp hw with hw | hw
          · simp only [List.mem_cons, List.mem_nil_iff, or_false] at hw
            rcases hw with rfl | rfl | rfl | rfl
            · exact pz_gd_good (pz_gd_in q3 rfl)
            · exact pz_gd_good (pz_gd_in q4.1 rfl)
            · exact pz_gd_good (pz_gd_in q4.2 rfl)
            · exact pz_gd_good hini
          · exact hG w hw
        · cases hrc
    · -- static
      rw [if_pos rfl] at hpar
      rcases hk3 with rfl | rfl | rfl
      · simp at q3 q4
        have hd1 : (pz_hh a).isEmpty = true := by rw [hhh]; rfl
        have hhd : pz_hd a = Cond.code (pz_yy a) (pz_bs a) (pz_ml a) (pz_rt a) := by unfold pz_hd; rw [if_pos hd1]
        refine ⟨_, vx_runS (As := (st.take b).reverse.map (pz_e ad)) (rest := (st.drop b).map (pz_e ad)) hfix hM (va_cwS b hts ?_ (by rw [hhd]) rfl rfl ⟨hcall.2.2.1, hcall.2.2.2.1, by simpa using hpar⟩ hRR) ⟨pz_blind, hPc⟩ rfl hlen hlv.2.1 hstk hroom hd hf⟩
        intro w hw
        unfold va_wsS at hw
        rcases List.mem_append.mp hw with hw | hw
        · simp only [List.mem_cons, List.mem_nil_iff, or_false] at hw
          rcases hw with rfl | rfl | rfl
          · exact pz_gd_good (pz_gd_in q3 rfl)
          · exact pz_gd_good (pz_gd_in q4 rfl)
          · exact pz_gd_good hini
        · exact hG w hw
      · simp at q3 q4
        have hd1 : (pz_hh a).isEmpty = true := by rw [hhh]; rfl
        have hhd : pz_hd a = Cond.code (pz_yy a) (pz_bs a) (pz_ml a) (pz_rt a) := by unfold pz_hd; rw [if_pos hd1]
        have hMet := pz_met hM (fun E st t hX => by obtain ⟨k, ad', hk, -⟩ := hX; exact hnt _ he (Or.inl rfl) k hk)
        exact ⟨_, pz_vx_run (va_runSN (As := (st.take b).reverse.map (pz_e ad)) (rest := (st.drop b).map (pz_e ad)) hfix hMet ⟨va_cnB b hts hG (by rw [hhd]) rfl rfl (hE.2.2.1 _ (pz_bd_in _ q3 rfl)) (hts _ hini) ⟨hcall.2.2.1, hcall.2.2.2.1, by simpa using hpar⟩ hRR, hts _ (pz_gd_in q4 rfl), trivial⟩ ⟨pz_blind, hPc⟩ rfl hlen hlv.2.1 hstk hroom hd hf)⟩
      · simp at q3 q4
        have hd1 : (pz_hh a).isEmpty = false := by rw [hhh]; rfl
        have hhd : pz_hd a = Cond.codeWith (pz_yy a) (pz_bs a) (pz_ml a) (pz_rt a) (pz_hh a) := by unfold pz_hd; rw [if_neg (by rw [hd1]; decide)]
        refine ⟨_, vx_runSX (As := (st.take b).reverse.map (pz_e ad)) (rest := (st.drop b).map (pz_e ad)) hfix hM (vx_cwSW b hts ?_ (by rw [hhd]) rfl rfl ⟨hcall.2.2.1, hcall.2.2.2.1, by simpa using hpar⟩ hRR) ⟨pz_blind, hPc⟩ rfl hlen hlv.2.1 hstk hroom hd hf⟩
        intro w hw
        unfold va_wsS at hw
        rcases List.mem_append.mp hw with hw | hw
        · simp only [List.mem_cons, List.mem_nil_iff, or_false] at hw
          rcases hw with rfl | rfl | rfl
          · exact pz_gd_good (pz_gd_in q3 rfl)
          · exact pz_gd_good (pz_gd_in q4 rfl)
          · exact pz_gd_good hini
        · exact hG w hw
    · -- special
      rcases hrc with rfl | hrc
      · omega
      · have hne : ci ≠ 99 := by omega
        rw [if_neg hne] at hpar
        have hMet := pz_met hM (fun E st t hX => by obtain ⟨k', ad', hk', -⟩ := hX; exact hnt _ he (Or.inr hk2) k' hk')
        have hd1 : (pz_hh a).isEmpty = true := by rw [hhh]; rcases hk2 with rfl | rfl <;> rfl
        have hhd : pz_hd a = Cond.code (pz_yy a) (pz_bs a) (pz_ml a) (pz_rt a) := by unfold pz_hd; rw [if_pos hd1]
        generalize hrev : (st.take b).reverse = rv at *
        split at hrc
        · rename_i r rs
          obtain ⟨g1, g2, g3⟩ := pz_is_spec hrc
          simp only [List.map_cons, pz_e_ref g1, List.reverse_cons, List.append_assoc, List.cons_append, List.nil_append] at hstk hPc hlen
          simp only [List.length_cons] at hlen
          rcases hk2 with rfl | rfl
          · simp at q3 q4
            obtain ⟨q41, q42, q43⟩ := q4
            rw [q43] at hhd
            exact ⟨_, pz_vx_run (va_runI (b := ad r) (As := rs.map (pz_e ad)) (rest := (st.drop b).map (pz_e ad)) hfix hMet (cwI (b - 1) hts hG (by rw [hhd]) rfl rfl (hts _ hini) (hts _ (pz_gd_in q3 rfl)) (hts _ (pz_gd_in q41 rfl)) q42 ⟨hcall.2.2.1, hcall.2.2.2.1, hpar⟩ hRR) ⟨pz_blind, hPc⟩ rfl (by omega) hlv.2.1 hstk hroom hd hf)⟩
          · simp at q3 q4
            obtain ⟨q41, q42, q43⟩ := q4
            rw [q43] at hhd
            exact ⟨_, pz_vx_run (va_runIN (b := ad r) (As := rs.map (pz_e ad)) (rest := (st.drop b).map (pz_e ad)) hfix hMet ⟨va_cnB (b - 1) hts hG (by rw [hhd]) rfl rfl (hE.2.2.1 _ (pz_bd_in _ q3 rfl)) (hts _ hini) ⟨hcall.2.2.1, hcall.2.2.2.1, hpar⟩ hRR, q42, hts _ (pz_gd_in q41 rfl)⟩ ⟨pz_blind, hPc⟩ rfl (by omega) hlv.2.1 hstk hroom hd hf)⟩
        · cases hrc
  · cases hrow
/-- behind a call: with its answer, or with what it threw -/
theorem pz_call_go {o1 : Option pz_V ⊕ Nat} {h1 : pz_H} {av : Array Value} {mc ms : Nat} {rest : List pz_V} {st0 : List Value} (hT : pz_Pt s m Z L xs D dA ad0 ad h0 h ls mls H locs cells slots) (hle : pz_le h h1) (hk1 : pz_hk L xs h1) (hrest : ∀ v ∈ rest, pz_o h.1.1 v) (hmc : mc = h1.2.2.2.1 - h.2.2.2.1) (hms : ms = h1.2.2.2.2 - h.2.2.2.2)
    (hr : vx_Run p l e R s mI args below meth c H locs cells slots mc ms (F0 mI pc mls st0) (rest.map (pz_e ad)) (pz_Qc Z D dA ad h o1 h1 av) (pz_XC Z D dA ad h o1 h1) (fun q => Z ≤ q))
    (k1 : ∀ (v : Option pz_V) (ad' : Nat → Nat) (H1 : Heap) (locs1 : List Loc), o1 = .inl v → pz_Pt s m Z L xs D dA ad0 ad' h0 h1 ls mls H1 locs1 (cells + mc) (slots + ms) → W p l e R s mI args below meth c H1 locs1 (cells + mc) (slots + ms) Q (F0 mI (pc + 3) mls ((v.toList ++ rest).map (pz_e ad'))))
    (k2 : ∀ (k : Nat) (E : String) (q : Addr) (ce : Cell) (ad' : Nat → Nat) (H1 : Heap) (locs1 : List Loc), o1 = .inr k → pz_xn[k]? = some E → H1[q]? = some ce → ce.vm = .none → s.vm.findClass E = some ce.cls → pz_Pt s m Z L xs D dA ad0 ad' h0 h1 ls mls H1 locs1 (cells + mc) (slots + ms) →
      vx_W p l e R s mI args below meth c H1 locs1 (cells + mc) (slots + ms) Q (F0 mI pc mls (rest.map (pz_e ad))) q) : W p l e R s mI args below meth c H locs cells slots Q (F0 mI pc mls st0) := by
  obtain ⟨hlv, hP, hD, hS, had, hn0, hcs, hss, hk, hlo⟩ := hT
  have hPt : ∀ (ad' : Nat → Nat) (H1 : Heap) (locs1 : List Loc), (∀ r, r < h.1.1 + 2 → ad' r = ad r) → va_P D pz_cls (pz_ws ad' dA h1) H1 → va_D (fun q => Z ≤ q) (pz_ws ad' dA h1) → va_S (fun q => Z ≤ q) s.heap H1 locs1 → pz_Pt s m Z L xs D dA ad0 ad' h0 h1 ls mls H1 locs1 (cells + mc) (slots + ms) := by
    intro ad' H1 locs1 ha g1 g2 g3
    obtain ⟨l1, l2, l3⟩ := hle
    exact ⟨pz_lv_same hlv ha hlo, g1, g2, g3, fun r hr9 => (ha r (by omega)).trans (had r hr9), by omega, by omega, by omega, hk1, fun u hu => (hlo u hu).mono l1⟩
  intro T hT X
  rcases hr T hT X with ⟨v, st1, t, T', Ls, e0, X', hL, e1, e2, ⟨v1, ad', r1, r2, r3, r4, r5, r6⟩, hg⟩ | ⟨q, st1, t, T', Ls, E, ce, e0, X', hL, e1, e2, ⟨k, ad', r1, r2, r3, r4, r5, r6⟩, hce, hcv, hcl, hg⟩
  · obtain ⟨-, -, hS1⟩ := vx_keep (A1 := fun q => Z ≤ q) e0 e1 hS (fun q _ h9 => h9) (fun q h9 => h9) hL r6
    have e9 : v = v1.map (pz_e ad') := by cases r3; rfl
    have w := k1 v1 ad' T'.heap (locs ++ Ls) r1 (hPt ad' _ _ r2 (by rw [e1]; exact r4) r5 hS1)
    obtain ⟨t2, a1, b1⟩ := w T' rfl X'
    refine ⟨t2, hg t2 ?_, b1⟩
    rw [e9]
    have e8 : (v1.map (pz_e ad')).toList ++ rest.map (pz_e ad) = (v1.toList ++ rest).map (pz_e ad') := by
      rw [List.map_append, ← pz_es_same r2 hrest]
      cases v1 <;> rfl
    rw [e8]
    exact a1
  · obtain ⟨-, -, hS1⟩ := vx_keep (A1 := fun q => Z ≤ q) e0 e1 hS (fun q _ h9 => h9) (fun q h9 => h9) hL r6
    have w := k2 k E q ce ad' T'.heap (locs ++ Ls) r1 r2 (by rw [e1]; exact hce) hcv hcl (hPt ad' _ _ r3 (by rw [e1]; exact r4) r5 hS1)
    obtain ⟨t2, a1, b1⟩ := w T' rfl X'
    exact ⟨t2, hg.trans a1, b1⟩
end PZG
/-! exceptions whose constructor links the one above by whatever index (these rows began as vx_back9, vx_ctorMadeS, vx_makeS, vx_throwS of the laws to paste) -/
def pz_oA (own : String) (ic : Nat) (X Y0 : String) (rr : List String) (i1 : Nat) (by1 : ByteArray) : List Cond :=
  Bundle.throwableAtoms ++ Bundle.throwableSAtoms ++ (Bundle.passSAtoms X Y0 i1 by1 ++ Bundle.chainSAtoms Y0 rr) ++
  [.methodLink own ic (Bundle.initS X), .instantiable X 6, .castable X X, .selects X Bundle.tFill0 Bundle.tFill0, .selects X Bundle.tFill Bundle.tFill,
   .lays X Bundle.tN "cause" "Ljava/lang/Throwable;", .lays X Bundle.tN "stackTrace" Bundle.steD, .lays X Bundle.tN "suppressedExceptions" Bundle.listD, .lays X Bundle.tN "detailMessage" "Ljava/lang/String;",
   .isRef (.static Bundle.tN "UNASSIGNED_STACK" Bundle.steD), .isRef (.static Bundle.tN "SUPPRESSED_SENTINEL" Bundle.listD),
   .fieldLink Bundle.tN 198 Bundle.tN "backtrace" "Ljava/lang/Object;", .lays Bundle.tN Bundle.tN "backtrace" "Ljava/lang/Object;", .lays X Bundle.tN "backtrace" "Ljava/lang/Object;"]
theorem pz_chainX {args : Array Value} {s : State} {pl : Platform} (hpl : pl.magicAccessors = ({} : Platform).magicAccessors) {top : MethodId} (htop : s.methodNamed? (Bundle.initS Bundle.tN) = some top) {X Y0 : String} {rr : List String} {i1 : Nat} {by1 : ByteArray}
    (b0 : decode by1 0 = .ok (.aload_n 0, 1)) (b1 : decode by1 1 = .ok (.aload_n 1, 1)) (b2 : decode by1 2 = .ok (.invokespecial i1, 3)) (b5 : decode by1 5 = .ok (.return_, 1))
    (hX : Bundle.fit X = true) (hY : Bundle.fit Y0 = true) (hr : ∀ n ∈ rr, Bundle.fit n = true) (h : ∀ c ∈ Bundle.passSAtoms X Y0 i1 by1 ++ Bundle.chainSAtoms Y0 rr, c.before args s = true) :
    ∃ (P1 : PassC) (Ps : List PassC), Ps.length = rr.length + 1 ∧ P1.LinksS pl s ∧ (∀ P, P ∈ Ps → P.LinksS pl s) ∧ s.methodNamed? (Bundle.initS X) = some P1.m ∧
      P1.sup = firstOf top (Ps.map (·.toPassT)) ∧ PassesOn top (Ps.map (·.toPassT)) := by
  obtain ⟨P, L, hm, hs⟩ := PassC.ofS_atoms (args := args) (s := s) hpl (X := X) (Y := Y0) (Bundle.fit_spec hX).1 (Bundle.fit_spec hY).2 b0 b1 b2 b5 (fun c hc => h c (List.mem_append_left _ hc))
  obtain ⟨P', Ps, hlen, L', hL, hm', hsup, hpass⟩ := Bundle.chainS (args := args) hpl htop rr Y0 hY hr (fun c hc => h c (List.mem_append_right _ hc))
  refine ⟨P, P' :: Ps, by simp [hlen], L, ?_, hm, Option.some.inj (hs.symm.trans hm'), hsup, hpass⟩
  intro Q hQ
  rcases List.mem_cons.mp hQ with rfl | hQ
  · exact L'
  · exact hL Q hQ
section PZK
variable {p : Program} {l : Launch} {e : Env} {R : Room} {s : State} {m : MethodId} {args : Array Value} {below : List Frame} {meth : Method} {c : Code} {locs : List Loc} {cells slots : Nat}
theorem pz_back9 {T S : State} {R' : Room} {k n : Nat} (X : Stand p l e R s m args below meth c T locs cells slots) (Y : Stand p l e R' ((T.setVm s.vm).setFrames (.invoking m args :: below)) m args below meth c T [] 0 0) (Z : Stand p l e R' ((T.setVm s.vm).setFrames (.invoking m args :: below)) m args below meth c S [] k n) :
    Stand p l e R s m args below meth c S locs (cells + k) (slots + n) := by
  have hW0 : s.WarmedH ((T.setVm s.vm).setFrames (.invoking m args :: below)).vm := State.WarmedH.refl s
  refine { admits := X.admits, cas := X.cas, clock := X.clock, frames := X.frames, room := X.room, hears := X.hears, method := X.method, code := X.code, here := Z.here, tail := Z.tail, warmed := State.WarmedH.trans hW0 Z.warmed, limits := Z.limits.trans (Y.limits.symm.trans X.limits), bytes := Z.bytes.trans (Y.bytes.symm.trans X.bytes), same := ?_ }
  obtain ⟨e1, e2⟩ := Z.same
  rw [State.setFrames_setFrames] at e1
  have h2 : (T.setVm s.vm).sameButNew (S.setVm s.vm) [] k n := ⟨e1, e2⟩
  have h3 := X.same.trans h2
  rw [List.append_nil] at h3
  exact h3
end PZK
section PZK1
variable {p : Program} {l : Launch} {e : Env} {R : Room} {s : State} {m₀ : MethodId} {args : Array Value} {below : List Frame} {meth : Method} {c : Code} {W : State} {locs : List Loc} {cells slots : Nat}
set_option maxHeartbeats 1000000 in
theorem pz_ctorX (X : Stand p l e R s m₀ args below meth c W locs cells slots) (hexec : p.tables.exec = Jvm.exec) (htr : e.platform.stackTraces = false) {own cls : String} {Y0 : String} {rr : List String} {by1 : ByteArray} {i1 ic : Nat}
    (hown : s.vm.findClass own = some m₀.cls) (hcls : Bundle.fit cls = true) (hY0 : Bundle.fit Y0 = true) (hnames : ∀ n ∈ rr, Bundle.fit n = true)
    (b0 : decode by1 0 = .ok (.aload_n 0, 1)) (b1 : decode by1 1 = .ok (.aload_n 1, 1)) (b2 : decode by1 2 = .ok (.invokespecial i1, 3)) (b5 : decode by1 5 = .ok (.return_, 1))
    (h : ∀ a ∈ pz_oA own ic cls Y0 rr i1 by1, a.before args s = true)
    (hlocs : ∀ x ∈ locs, ∀ cell, s.heap[x.base]? = some cell → cell.vm.isStatics = false)
    {a : Addr} {cX : ClassId} {kX : Class} (hfoundX : s.vm.findClass cls = some cX) (hkX : s.vm.classes[cX]? = some kX) (hcell : W.heap[a]? = some (freshCell cX kX)) (hnew : s.heap.size ≤ a)
    {msg : Value} (hmsg : msg.isRef = true)
    {g : JFrame} (hg : g.method = m₀) (hsize : g.locals.size = c.maxLocals) {rest : List Value} (hstack : g.stack = msg :: .ref a :: .ref a :: rest)
    (hd6 : decode c.code g.pc = .ok (.invokespecial ic, 3))
    (hRframes : (rr.length + 1) + 3 < R.frames) (hRlocals : 2 * g.monitorRoom + ((Value.ref a :: rest).map fun v => v.category).sum + (13 * ((rr.length + 1) + 1) + 42) ≤ R.locals) :
    ∃ (V : State) (ce : Cell) (L : List Loc), Stand p l e R s m₀ args below meth c (V.setCell a ce) (locs ++ L) cells slots ∧ (∀ y ∈ L, y.base = a) ∧ a < V.heap.size ∧ ce.cls = cX ∧ ce.vm = .none ∧
      ∀ target, Steps p.tables e below ((V.setCell a ce).setTop { g with stack := .ref a :: rest, pc := g.pc + 3 }) target → Steps p.tables e below (W.setTop g) target := by
  have howns : e.platform.frameOwnsMonitors = true := by rw [X.admits.platform]
  have hfin : e.platform.finalization = false := by rw [X.admits.platform]
  have hpl : e.platform.magicAccessors = ({} : Platform).magicAccessors := by rw [X.admits.platform]
  have a' : ∀ x, x ∈ pz_oA own ic cls Y0 rr i1 by1 → x.holds args s none s [] = true := fun x hx => h x hx
  obtain ⟨T, Z0, L, -, Y⟩ := ThrowableC.of_atoms (args := args) howns hfin hpl (fun x hx => h x (by simp [pz_oA, hx]))
  obtain ⟨Z, M, LZ, LM, hnZ⟩ := Init0T.ofS_atoms (args := args) hpl L Y (fun x hx => h x (by simp [pz_oA, hx]))
  obtain ⟨P1, Ps, hlen, L1, hL, hP1m, hlink1, hlink⟩ := pz_chainX (args := args) hpl hnZ b0 b1 b2 b5 hcls hY0 hnames (fun x hx => h x (by rcases List.mem_append.mp hx with hx | hx <;> simp [pz_oA, hx]))
  have hfound : s.vm.findClass cls = some P1.m.cls := findClass_of_methodNamed hP1m
  cases Option.some.inj (hfoundX.symm.trans hfound)
  obtain ⟨c1, kX', hc1, hk, hord, -, -, hn6⟩ := Cond.instantiable_spec (a' (.instantiable cls 6) (by simp [pz_oA]))
  cases Option.some.inj (hc1.symm.trans hfound)
  cases Option.some.inj (hkX.symm.trans hk)
  have hsel0 : selectMethod e.platform s.vm P1.m.cls T.fill0 = .method T.fill0 := by
    obtain ⟨c2, r2, m2, q1, q2, q3, q4, -⟩ := Cond.selects_spec (a' (.selects cls Bundle.tFill0 Bundle.tFill0) (by simp [pz_oA]))
    cases Option.some.inj (q1.symm.trans hfound)
    cases Option.some.inj (q2.symm.trans (State.methodFound?_of_named Y.fill0 (by decide)))
    cases Option.some.inj (q3.symm.trans Y.fill0)
    rw [Launch.admits_selectMethod X.admits]; exact q4
  have hselF : selectMethod e.platform s.vm P1.m.cls T.fill = .method T.fill := by
    obtain ⟨c2, r2, m2, q1, q2, q3, q4, -⟩ := Cond.selects_spec (a' (.selects cls Bundle.tFill Bundle.tFill) (by simp [pz_oA]))
    cases Option.some.inj (q1.symm.trans hfound)
    cases Option.some.inj (q2.symm.trans (State.methodFound?_of_named Y.fill (by decide)))
    cases Option.some.inj (q3.symm.trans Y.fill)
    rw [Launch.admits_selectMethod X.admits]; exact q4
  obtain ⟨cellS0, hcS0, hiss⟩ := Y.statics
  obtain ⟨u0, hu0⟩ := Cond.staticRefV Y.unassigned L.unassignedStatic L.statics hcS0 hiss (a' (.isRef (.static Bundle.tN "UNASSIGNED_STACK" Bundle.steD)) (by simp [pz_oA]))
  obtain ⟨sen, hsen⟩ := Cond.staticRefV Y.sentinel L.sentinelStatic L.statics hcS0 hiss (a' (.isRef (.static Bundle.tN "SUPPRESSED_SENTINEL" Bundle.listD)) (by simp [pz_oA]))
  obtain ⟨ci198, i198, fB, hk198, hg198, ha198, hsB, -, hnB, htB, hffB⟩ := Cond.ownField (t := .object "java/lang/Object") Y.found L.cls (by decide +kernel) (a' (.fieldLink Bundle.tN 198 Bundle.tN "backtrace" "Ljava/lang/Object;") (by simp [pz_oA])) (a' (.lays Bundle.tN Bundle.tN "backtrace" "Ljava/lang/Object;") (by simp [pz_oA])) e.platform hpl
  obtain ⟨cellS, hcS', heS, -, hkeep⟩ := X.same.2.2.2.2.2 T.aS cellS0 hcS0
  have hcellS : W.heap[T.aS]? = some cellS := hcS'
  have hout' : ∀ i, (⟨T.aS, i⟩ : Loc) ∉ locs := fun i hmem => by
    have := hlocs _ hmem cellS0 hcS0
    rw [hiss] at this; cases this
  have hknownS : cellS.vm ≠ .unknown := by
    rw [heS]; intro hu
    rw [show cellS0.vm = .unknown from hu] at hiss
    cases hiss
  have hneS : T.aS ≠ a := Nat.ne_of_lt (Nat.lt_of_lt_of_le (Array.getElem?_eq_some_iff.mp hcS0).1 hnew)
  obtain ⟨iM, hffM⟩ := Y.msg
  obtain ⟨tyC, dC, hdC, hdnC⟩ := Cond.laysAt hfound hk Y.cause (a' (.lays cls Bundle.tN "cause" "Ljava/lang/Throwable;") (by simp [pz_oA]))
  obtain ⟨tyS, dS, hdS, hdnS⟩ := Cond.laysAt hfound hk Y.stack (a' (.lays cls Bundle.tN "stackTrace" Bundle.steD) (by simp [pz_oA]))
  obtain ⟨tyP, dP, hdP, hdnP⟩ := Cond.laysAt hfound hk Y.supp (a' (.lays cls Bundle.tN "suppressedExceptions" Bundle.listD) (by simp [pz_oA]))
  obtain ⟨tyM, dM, hdM, hdnM⟩ := Cond.laysAt hfound hk hffM (a' (.lays cls Bundle.tN "detailMessage" "Ljava/lang/String;") (by simp [pz_oA]))
  obtain ⟨tyB, dB, hdB, hdnB⟩ := Cond.laysAt hfound hk hffB (a' (.lays cls Bundle.tN "backtrace" "Ljava/lang/Object;") (by simp [pz_oA]))
  have bC := Cond.laysApart hdB hdC hdnB hdnC (by rw [hnB, Y.causeName]; decide)
  have bS := Cond.laysApart hdB hdS hdnB hdnS (by rw [hnB, Y.stackName]; decide)
  have bP := Cond.laysApart hdB hdP hdnB hdnP (by rw [hnB, Y.suppName]; decide)
  have hskip : SkipFacts T e.platform s (fun u => u) u0 ((preparedCellV T.toThrowableT (freshCell P1.m.cls kX) a u0 sen).withEntry W.cur) :=
    ⟨{ ci198 := ci198, i198 := i198, fBack := fB }, ⟨hk198, hg198, ha198, hsB⟩, by
      have := fresh_default (c := P1.m.cls) tyB
      rw [htB] at this
      simpa [preparedCellV, Cell.setSlot, Cell.withEntry, Array.getElem?_setIfInBounds, bC, bS, bP, bC.symm, bS.symm, bP.symm, defaultValue] using this, fun _ _ => rfl⟩
  obtain ⟨tm, methC, cdC, kC, vm₁, hnC, -, -, -, -, -, -, -, hW₁, st1⟩ := Steps.initColdS (tb := p.tables) (e := e) (below := below) (s := s) (U := W) X.here hexec X.warmed hpl hown (t := Bundle.initS cls) rfl rfl (Bundle.fit_spec hcls).2
    (a' (.methodLink own ic (Bundle.initS cls)) (by simp [pz_oA])) (h (.instanceMethod (Bundle.initS cls)) (by simp [pz_oA, Bundle.passSAtoms])) (bytes := by1) (maxL := 2) (h (.code (Bundle.initS cls) by1 2 none) (by simp [pz_oA, Bundle.passSAtoms]))
    (f := g) hg (a := a) (msg := msg) (rest := .ref a :: rest) hstack hd6
  cases Option.some.inj (hnC.symm.trans hP1m)
  have X₁ := X.noted hW₁
  obtain ⟨vm₂, X₂, st2⟩ := X₁.ctorMessageOffV hexec (g := { g with stack := .ref a :: rest }) hg hsize T L Z LZ M LM (P1 :: Ps)
    (fun P hP => by rcases List.mem_cons.mp hP with rfl | hP; exact L1; exact hL P hP) ⟨hlink1, hlink⟩ (u0 := u0) (sen := sen) (self := a) hmsg (cell := freshCell P1.m.cls kX) (cellS := cellS)
    hcell (fun _ => by simp) (by simp) rfl rfl hsel0 hselF hcellS hneS hknownS (by rw [hkeep _ (hout' _)]; exact hu0) (by rw [hkeep _ (hout' _)]; exact hsen)
    (Takes.of_laid hk hord tyC (by rw [Y.causeType]; rfl)) (Takes.of_laid hk hord tyS (by rw [Y.stackType]; exact fits_refV_array _ u0)) (Takes.of_laid hk hord tyP (by rw [Y.suppType]; exact fits_refV_object _ sen))
    (Takes.of_laid hk hord tyM (by rw [Y.msgType]; exact fits_refV_object _ ⟨msg, hmsg⟩)) Y.objLocals hskip htr [] hd6
    (by simp only [List.length_cons, hlen]; omega) (by simp only [List.length_cons, hlen]; exact hRlocals)
  have hlt : a < ((W.setVm vm₁).setVm vm₂).heap.size := (Array.getElem?_eq_some_iff.mp hcell).1
  refine ⟨(W.setVm vm₁).setVm vm₂, _, _, X₂, fun y hy => ?_, hlt, rfl, rfl, fun target hwalk => st1 _ (fun acts => ?_)⟩
  · simp only [List.mem_cons, List.not_mem_nil, or_false] at hy
    rcases hy with rfl | rfl | rfl | rfl | rfl <;> rfl
  · rw [doInvoke_state]
    exact st2 _ hwalk
end PZK1
section PZK2
variable {p : Program} {l : Launch} {e : Env} {R : Room} {s : State} {m : MethodId} {args : Array Value} {below : List Frame} {meth : Method} {c : Code} {H : Heap} {locs : List Loc} {cells slots : Nat}
variable {ls : Array Slot} {rest : List Value} {Qc : Array Value → State → Outcome → State → Prop} {XC : String → State → State → Prop} {free : Addr → Prop}
/-- throwing an object that was made before -/
theorem pz_athrow {cc : ByteArray} {pc : Nat} {Q : State → Prop} (hexec : p.tables.exec = Jvm.exec) (hb : c.code = cc) {q : Addr} (hdg : decode cc pc = .ok (.athrow, 1)) (k : vx_W p l e R s m args below meth c H locs cells slots Q (F0 m pc ls rest) q) : W p l e R s m args below meth c H locs cells slots Q (F0 m pc ls (.ref q :: rest)) := by
  intro T hT X
  obtain ⟨t, st, hq⟩ := k T hT X
  refine ⟨t, ?_, hq⟩
  have hdg' : decode c.code pc = .ok (.athrow, 1) := by rw [hb]; exact hdg
  jvm_step X.here [X.here.top, hexec, hdg', athrow.wp_sem]
  exact st
set_option maxHeartbeats 1000000 in
theorem pz_throwX {cc : ByteArray} {pc : Nat} (hexec : p.tables.exec = Jvm.exec) (hb : c.code = cc) (hl : l.stackTraces = false) {own cls Y0 text : String} {rr : List String} {by1 : ByteArray} {i1 ik is ic sa n4 mc ms : Nat} {A : Nat → Prop}
    (hown : s.vm.findClass own = some m.cls) (hcls : Bundle.fit cls = true) (hY0 : Bundle.fit Y0 = true) (hnames : ∀ n ∈ rr, Bundle.fit n = true)
    (b0 : decode by1 0 = .ok (.aload_n 0, 1)) (b1 : decode by1 1 = .ok (.aload_n 1, 1)) (b2 : decode by1 2 = .ok (.invokespecial i1, 3)) (b5 : decode by1 5 = .ok (.return_, 1))
    (hk : (Cond.classLink own ik cls).before args s = true) (hini : (Cond.initialized cls).before args s = true) (hstr : vk_R own is text sa s) (hat : ∀ w ∈ (pz_oA own ic cls Y0 rr i1 by1).filter vx_no, w.before args s = true)
    (hgood : ∀ w ∈ Cond.classLink own ik cls :: Cond.initialized cls :: (pz_oA own ic cls Y0 rr i1 by1).filter vx_no, vx_ot w = true)
    (hU : vx_Zq Bundle.tN "UNASSIGNED_STACK" Bundle.steD A s s.heap) (hN : vx_Zq Bundle.tN "SUPPRESSED_SENTINEL" Bundle.listD A s s.heap) (hS : va_S A s.heap H locs) (hsize : ls.size = c.maxLocals)
    (d0 : decode cc pc = .ok (.new ik, 3)) (d3 : decode cc (pc + 3) = .ok (.dup, 1)) (d4 : (n4 = 2 ∧ decode cc (pc + 4) = .ok (.ldc is, 2)) ∨ (n4 = 3 ∧ decode cc (pc + 4) = .ok (.ldc_w is, 3))) (d6 : decode cc (pc + 4 + n4) = .ok (.invokespecial ic, 3)) (d9 : decode cc (pc + 4 + n4 + 3) = .ok (.athrow, 1))
    (hout : ∀ x ∈ c.exceptionTable.toList, covers x (pc + 4 + n4 + 3) = false)
    (hRframes : rr.length + 1 + 3 < R.frames) (hRlocals : (rest.map fun v => v.category).sum + (13 * (rr.length + 1 + 1) + 43) ≤ R.locals) (hRcells : cells + 1 ≤ R.cells) (hRslots : slots + 6 ≤ R.slots) (hlocks : meth.locks = false)
    (hx : ∀ t : State, s.vm.Alike t.vm → H.size ≤ t.heap.size → (∀ q : Nat, q < H.size → t.heap[q]? = H[q]?) → XC cls s t)
    (hf : ∀ z ∈ locs, free z.base) (hc : cells + 1 ≤ mc) (hs : slots + 6 ≤ ms) :
    W p l e R s m args below meth c H locs cells slots (vx_MQ below Qc XC args s mc ms free) (F0 m pc ls rest) := by
  intro T hT X
  subst hT
  have htr : e.platform.stackTraces = false := (show e.platform.stackTraces = l.stackTraces by rw [X.admits.platform]).trans hl
  have Y := vx_rebase X (R' := { frames := R.frames, locals := R.locals, cells := 1, slots := 6 }) (Nat.le_refl _) (Nat.le_refl _) hRcells hRslots
  obtain ⟨s', hA'⟩ : ∃ z, z = (T.setVm s.vm).setFrames (.invoking m args :: below) := ⟨_, rfl⟩
  rw [← hA'] at Y
  have hvm : s'.vm = s.vm := by rw [hA']; rfl
  have hhp : s'.heap = T.heap := by rw [hA']; rfl
  have hW0 : s.WarmedH s'.vm := by rw [hvm]; exact State.WarmedH.refl s
  have hat' : ∀ w ∈ (pz_oA own ic cls Y0 rr i1 by1).filter vx_no, w.before args s' = true := fun w hw => vx_ot_at hW0 hvm.symm (hgood w (List.mem_cons_of_mem _ (List.mem_cons_of_mem _ hw))) (hat w hw)
  have hk' : (Cond.classLink own ik cls).before args s' = true := vx_ot_at hW0 hvm.symm (hgood _ List.mem_cons_self) hk
  have hini' : (Cond.initialized cls).before args s' = true := vx_ot_at hW0 hvm.symm (hgood _ (List.mem_cons_of_mem _ List.mem_cons_self)) hini
  have hU' : vx_Zq Bundle.tN "UNASSIGNED_STACK" Bundle.steD A s' s'.heap := by rw [hhp]; exact vx_Zq.moved hW0.alike (hU.kept hS.2.1)
  have hN' : vx_Zq Bundle.tN "SUPPRESSED_SENTINEL" Bundle.listD A s' s'.heap := by rw [hhp]; exact vx_Zq.moved hW0.alike (hN.kept hS.2.1)
  have h : ∀ w ∈ pz_oA own ic cls Y0 rr i1 by1, w.before args s' = true := vx_own hat' (vx_isRefq hU'.1) (vx_isRefq hN'.1) hU'.2.word hN'.2.word
  have hown' : s'.vm.findClass own = some m.cls := by rw [hvm]; exact hown
  have hins : (Cond.instantiable cls 6).before args s' = true := h _ (by simp [pz_oA])
  obtain ⟨vm₁, cX, kX, hfX, hkX, -, -, X₁, st1⟩ := Y.newCold hexec (own := own) (C := cls) (index := ik) (n := 6) hown' hk' hins hini'
    (g := F0 m pc ls rest) rfl (by rw [hb]; exact d0) (Nat.le_refl _) (Nat.le_refl _)
  generalize hT1 : (T.setVm vm₁).pushCell { cls := cX, slots := kX.instanceTypes.map defaultValue, vm := .none } = T1 at X₁ st1
  have hcat : (Value.ref T.heap.size).category = 1 := rfl
  have hcellA : T1.heap[T.heap.size]? = some (freshCell cX kX) := by rw [← hT1]; exact State.heap_pushCell_size _ _
  have d3' : decode c.code (pc + 3) = .ok (.dup, 1) := by rw [hb]; exact d3
  have hstr' : vk_R own is text sa s' := vk_R.warm hW0 hstr
  obtain ⟨V, ce, L, Z, hL, hlt, hcl9, hvm9, st⟩ := pz_ctorX X₁ hexec htr (own := own) (cls := cls) (Y0 := Y0) (rr := rr) (by1 := by1) (i1 := i1) (ic := ic) hown' hcls hY0 hnames b0 b1 b2 b5 h (fun x hx => nomatch hx) hfX hkX hcellA (by rw [hhp]; exact Nat.le_refl _) (msg := .ref sa) rfl
    (g := { method := m, pc := pc + 4 + n4, locals := ls, stack := .ref sa :: .ref T.heap.size :: .ref T.heap.size :: rest, locked := none }) rfl hsize (rest := rest) rfl
    (by rw [hb]; exact d6) hRframes (by simp only [List.map_cons, List.sum_cons, hcat]; omega)
  have Z0 := Stand.forget (locs := []) Z (fun y hy => by rw [hL y hy, hhp]; exact Nat.le_refl _)
  obtain ⟨f1, f2⟩ := vx_frame Z0.same
  rw [hhp] at f1 f2
  have hh : (V.setCell T.heap.size ce).heap[T.heap.size]? = some ce := heapAt_setCell_self (s := V) ce hlt
  have hclf : s.vm.findClass cls = some ce.cls := by
    rw [hcl9]
    rw [hvm] at hfX
    exact hfX
  subst hA'
  have X5 := pz_back9 X Y Z0
  have K : W p l e R s m args below meth c (V.setCell T.heap.size ce).heap locs (cells + 1) (slots + 6) (vx_MQ below Qc XC args s mc ms free) (F0 m (pc + 4 + n4 + 3) ls (.ref T.heap.size :: rest)) :=
    pz_athrow hexec hb d9 (vx_out hout hlocks hh hvm9 hclf (fun t ht hvm => hx t hvm (by rw [ht]; exact f1) (fun q hq => by rw [ht]; exact f2 q hq (fun z hz => nomatch hz))) hf hc hs)
  obtain ⟨t, a1, b1⟩ := K _ rfl X5
  refine ⟨t, st1 _ ?_, b1⟩
  show Steps p.tables e below (T1.setTop { method := m, pc := pc + 3, locals := ls, stack := .ref T.heap.size :: rest, locked := none }) _
  jvm_step X₁.here [X₁.here.top, hexec, d3', Value.category]
  rcases d4 with ⟨rfl, d4⟩ | ⟨rfl, d4⟩
  · have d4' : decode c.code (pc + 4) = .ok (.ldc is, 2) := by rw [hb]; exact d4
    exact X₁.ldcString hexec (own := own) (text := text) (index := is) (a := sa) hown' hstr'.1 hstr'.2
      (g := { method := m, pc := pc + 4, locals := ls, stack := .ref T.heap.size :: .ref T.heap.size :: rest, locked := none }) rfl d4' _ (st _ a1)
  · have d4' : decode c.code (pc + 4) = .ok (.ldc_w is, 3) := by rw [hb]; exact d4
    exact X₁.ldcStringW hexec (own := own) (text := text) (index := is) (a := sa) hown' hstr'.1 hstr'.2
      (g := { method := m, pc := pc + 4, locals := ls, stack := .ref T.heap.size :: .ref T.heap.size :: rest, locked := none }) rfl d4' _ (st _ a1)
end PZK2
/-! answers, throws, handlers -/
def pz_xt : List (Nat × Nat × Nat × Nat × Nat × Nat × Nat) := [(56, 684, 91, 60, 686, 13, 679), (359, 795, 93, 363, 797, 21, 764), (354, 776, 92, 358, 778, 19, 763), (140, 905, 96, 144, 907, 37, 880), (191, 1038, 98, 195, 1040, 63, 1010), (346, 1519, 101, 350, 1513, 150, 1501)]
/-- where the constructor of the class links the one above, and its bytes -/
def pz_x1 (E : Nat) : Nat × ByteArray := if E = 2 then (13, prog_28_method_4_code) else (7, Bundle.six)
def pz_oE (E : Nat) (ic : Nat) (X : String) : List Cond := (pz_oA "Simplespan" ic X "java/lang/RuntimeException" ["java/lang/Exception"] (pz_x1 E).1 (pz_x1 E).2).filter vx_no
def pz_xk (E : Nat) : Bool := match pz_xn[E]?, pz_xt[E]? with
  | some X, some q => decide (lw_tbl[q.2.1]? = some (.classLink "Simplespan" q.1 X)) && (decide (lw_tbl[q.2.2.1]? = some (.initialized X)) && (Bundle.fit X && (decide (lw_tbl[q.2.2.2.2.1]? = some (.castable X X)) && (decide (lw_tbl[q.2.2.2.2.2.2]? = some (.classLink "SimplespanLaw" q.2.2.2.2.2.1 X)) &&
    ((pz_oE E q.2.2.2.1 X).all (fun w => decide (w ∈ lw_tbl) && ((goodWord w || pz_wn w) && vx_ot w)) && decide (q.2.2.2.2.2.1 ≠ 0))))))
  | _, _ => false
theorem pz_x1_at (E : Nat) : decode (pz_x1 E).2 0 = .ok (.aload_n 0, 1) ∧ decode (pz_x1 E).2 1 = .ok (.aload_n 1, 1) ∧ decode (pz_x1 E).2 2 = .ok (.invokespecial (pz_x1 E).1, 3) ∧ decode (pz_x1 E).2 5 = .ok (.return_, 1) := by
  unfold pz_x1
  split <;> decide +kernel
theorem pz_xk0 : pz_xk 0 = true := by decide +kernel
theorem pz_xk1 : pz_xk 1 = true := by decide +kernel
theorem pz_xk2 : pz_xk 2 = true := by decide +kernel
theorem pz_xk3 : pz_xk 3 = true := by decide +kernel
theorem pz_xk4 : pz_xk 4 = true := by decide +kernel
theorem pz_xk5 : pz_xk 5 = true := by decide +kernel
theorem pz_xk_ok {E : Nat} (h : E < 6) : pz_xk E = true := by
  have h1 : E = 0 ∨ E = 1 ∨ E = 2 ∨ E = 3 ∨ E = 4 ∨ E = 5 := by omega
  rcases h1 with rfl | rfl | rfl | rfl | rfl | rfl
  · exact pz_xk0
  · exact pz_xk1
  · exact pz_xk2
  · exact pz_xk3
  · exact pz_xk4
  · exact pz_xk5
theorem pz_xk_at {E : Nat} (h : E < 6) : ∃ X q, pz_xn[E]? = some X ∧ pz_xt[E]? = some q ∧ Cond.classLink "Simplespan" q.1 X ∈ pz_gd ∧ Cond.initialized X ∈ pz_gd ∧ Bundle.fit X = true ∧ Cond.castable X X ∈ pz_bd ∧ Cond.classLink "SimplespanLaw" q.2.2.2.2.2.1 X ∈ pz_gd ∧
    (∀ w ∈ pz_oE E q.2.2.2.1 X, w ∈ lw_tbl ∧ (goodWord w = true ∨ pz_wn w = true) ∧ vx_ot w = true) ∧ q.2.2.2.2.2.1 ≠ 0 := by
  have h1 := pz_xk_ok h
  unfold pz_xk at h1
  split at h1
  · rename_i X q hX hq
    simp only [Bool.and_eq_true, decide_eq_true_eq] at h1
    obtain ⟨a1, a2, a3, a4, a5, a6, a7⟩ := h1
    refine ⟨X, q, hX, hq, pz_gd_in a1 rfl, pz_gd_in a2 rfl, a3, pz_bd_in _ a4 rfl, pz_gd_in a5 rfl, fun w hw => ?_, a7⟩
    have h2 := List.all_eq_true.mp a6 w hw
    simp only [Bool.and_eq_true, decide_eq_true_eq, Bool.or_eq_true] at h2
    exact h2
  · cases h1
def pz_tlk : Bool := pz_tl.all (fun x => decide (x.1 = "Simplespan" ∧ x.2.2.2.2.1 < 6) && (match pz_xt[x.2.2.2.2.1]? with
  | some q => decide (q.1 = x.2.1 ∧ q.2.2.2.1 = x.2.2.2.1)
  | none => false))
theorem pz_tlk_ok : pz_tlk = true := by decide +kernel
theorem pz_tl_at {o : String} {ik is ic E wd k : Nat} {tx : String} (h : pz_tl[k]? = some (o, ik, is, ic, E, wd, tx)) : o = "Simplespan" ∧ E < 6 ∧ ∃ q, pz_xt[E]? = some q ∧ q.1 = ik ∧ q.2.2.2.1 = ic := by
  have h1 := List.all_eq_true.mp pz_tlk_ok _ (List.mem_of_getElem? h)
  dsimp only at h1
  simp only [Bool.and_eq_true, decide_eq_true_eq] at h1
  obtain ⟨⟨h2, h3⟩, h4⟩ := h1
  refine ⟨h2, h3, ?_⟩
  split at h4
  · rename_i q hq
    exact ⟨q, hq, of_decide_eq_true h4⟩
  · cases h4
theorem pz_rc_at {t : Option FieldType} {a : Nat} (h : a = pz_rc t) : (a = 0 → t = some .int) ∧ (a = 1 → t = some .boolean) ∧ (a = 2 → t = some .char) ∧ (a = 3 → t = some .long) ∧ (a = 4 → t = some .float) ∧ (a = 5 → t = some .double) ∧ (a = 9 → ∃ n, t = some (.object n)) := by
  subst h
  cases t with
  | none => refine ⟨?_, ?_, ?_, ?_, ?_, ?_, ?_⟩ <;> intro h <;> exact absurd h (by decide)
  | some ty => cases ty <;> refine ⟨?_, ?_, ?_, ?_, ?_, ?_, ?_⟩ <;> intro h <;> first | rfl | exact ⟨_, rfl⟩ | exact absurd h (by simp [pz_rc])
section PZT
variable {p : Program} {l : Launch} {e : Env} {R : Room} {s : State} {mI : MethodId} {args : Array Value} {below : List Frame} {meth : Method} {c : Code} {H : Heap} {locs : List Loc} {cells slots : Nat} {Q : State → Prop}
variable {pc : Nat} {mls : Array Slot} {m Z L : Nat} {xs : Nat → Int32} {D : va_G} {dA : Nat → ClassId} {sa ad0 ad : Nat → Nat} {h0 h : pz_H} {ls : pz_L} {st : List pz_V}
theorem pz_W10 {len a b c' e' : Nat} {ins : Instr} {v : pz_V} (hC : pz_Cx p l R s mI args meth c m Z L xs D dA sa ad0) (hT : pz_Pt s m Z L xs D dA ad0 ad h0 h ls mls H locs cells slots)
    (hck : pz_ck1 m 10 ins len a b c' e' pc = true) (hd : decode (pz_bs m) pc = .ok (ins, len)) (hrok : pz_rok a v = true) :
    W p l e R s mI args below meth c H locs cells slots (vx_MQ below (pz_Qc Z D dA ad0 h0 (.inl (some v)) h) (pz_XC Z D dA ad0 h0 (.inl (some v)) h) args s cells slots (fun q => Z ≤ q)) (F0 mI pc mls [pz_e ad v]) := by
  obtain ⟨hx, hbc, hml, hts, hown, hname, hret, hlk, hRf, hRl, htr, htab, hE, hSt⟩ := hC
  obtain ⟨hlv, hP, hD, hS, had, hn0, hcs, hss, hk, hlo⟩ := hT
  simp only [pz_ck1, Bool.and_eq_true, beq_iff_eq] at hck
  obtain ⟨rfl, hrk, hrc⟩ := hck
  obtain ⟨c0, c1, c2, c3, c4, c5, c9⟩ := pz_rc_at hrc
  refine vx_ret ?_
  have hq : ∀ t : State, t.heap = H → s.WarmedH t.vm → pz_Qc Z D dA ad0 h0 (.inl (some v)) h args s (.returned (some (pz_e ad v))) t := fun t ht hW => ⟨some v, ad, rfl, had, rfl, by rw [ht]; exact hP, hD, hS.F ht⟩
  unfold pz_rk at hrk
  split at hrk
  · have ha := of_decide_eq_true hrk
    rcases v with x | x | x | x | x
    · have h3 : a = 0 ∨ a = 1 ∨ a = 2 := by omega
      rcases h3 with rfl | rfl | rfl
      · exact W.iret hx hbc (hret.trans (c0 rfl)) hq hS.2.2 hd hlk
      · refine W.zret hx hbc (hret.trans (c1 rfl)) ?_ hq hS.2.2 hd hlk
        simp [pz_rok] at hrok
        rcases hrok with rfl | rfl <;> rfl
      · refine W.zret hx hbc (hret.trans (c2 rfl)) ?_ hq hS.2.2 hd hlk
        simp [pz_rok] at hrok
        have h9 := pz_nar_c hrok
        have e9 : narrow .char (.int (Int32.ofInt x)) = .int (vp_nar .char (Int32.ofInt x)) := rfl
        rw [e9, h9]
    · simp [pz_rok] at hrok; omega
    · simp [pz_rok] at hrok; omega
    · simp [pz_rok] at hrok; omega
    · simp [pz_rok] at hrok; omega
  · have ha := eq_of_beq hrk
    subst ha
    rcases v with x | x | x | x | x <;> simp [pz_rok] at hrok
    exact W.lret hx hbc (hret.trans (c3 rfl)) hq hS.2.2 hd hlk
  · have ha := eq_of_beq hrk
    subst ha
    rcases v with x | x | x | x | x <;> simp [pz_rok] at hrok
    exact W.fret hx hbc (hret.trans (c4 rfl)) hq hS.2.2 hd hlk
  · have ha := eq_of_beq hrk
    subst ha
    rcases v with x | x | x | x | x <;> simp [pz_rok] at hrok
    exact W.dret hx hbc (hret.trans (c5 rfl)) hq hS.2.2 hd hlk
  · have ha := eq_of_beq hrk
    subst ha
    rcases v with x | x | x | x | x <;> simp [pz_rok] at hrok
    obtain ⟨n, hn⟩ := c9 rfl
    refine W.aret hx hbc (hret.trans hn) (Or.inl ⟨n, rfl⟩) ?_ hq hS.2.2 hd hlk
    show (if x = 0 then Value.null else .ref (ad x)) = .null ∨ ∃ a, (if x = 0 then Value.null else .ref (ad x)) = .ref a
    split
    · exact Or.inl rfl
    · exact Or.inr ⟨_, rfl⟩
  · cases hrk
theorem pz_W11 {len a b c' e' : Nat} {ins : Instr} (hC : pz_Cx p l R s mI args meth c m Z L xs D dA sa ad0) (hT : pz_Pt s m Z L xs D dA ad0 ad h0 h ls mls H locs cells slots)
    (hck : pz_ck1 m 11 ins len a b c' e' pc = true) (hd : decode (pz_bs m) pc = .ok (ins, len)) :
    W p l e R s mI args below meth c H locs cells slots (vx_MQ below (pz_Qc Z D dA ad0 h0 (.inl none) h) (pz_XC Z D dA ad0 h0 (.inl none) h) args s cells slots (fun q => Z ≤ q)) (F0 mI pc mls []) := by
  obtain ⟨hx, hbc, hml, hts, hown, hname, hret, hlk, hRf, hRl, htr, htab, hE, hSt⟩ := hC
  obtain ⟨hlv, hP, hD, hS, had, hn0, hcs, hss, hk, hlo⟩ := hT
  simp only [pz_ck1, Bool.and_eq_true, beq_iff_eq, decide_eq_true_eq] at hck
  obtain ⟨rfl, rfl, hrt⟩ := hck
  refine vx_ret ?_
  exact W.vret hx hbc (hret.trans hrt) (fun t ht hW => ⟨none, ad, rfl, had, rfl, by rw [ht]; exact hP, hD, hS.F ht⟩) hS.2.2 hd hlk
theorem pz_ws_lt {ad : Nat → Nat} {dA : Nat → ClassId} {h : pz_H} {D : va_G} {H H1 : Heap} (hP : va_P D pz_cls (pz_ws ad dA h) H) (hq : ∀ q : Nat, q < H.size → H1[q]? = H[q]?) : va_P D pz_cls (pz_ws ad dA h) H1 := hP.kept (fun k q hk => hq q.1 ((hP k q hk).lt))
theorem pz_W7 {len a b c' e' : Nat} {ins : Instr} (hC : pz_Cx p l R s mI args meth c m Z L xs D dA sa ad0) (hT : pz_Pt s m Z L xs D dA ad0 ad h0 h ls mls H locs cells slots)
    (hck : pz_ck1 m 7 ins len a b c' e' pc = true) (hd : decode (pz_bs m) pc = .ok (ins, len)) (hst : st.length ≤ 4) (hRc : cells + 1 ≤ R.cells) (hRs : slots + 6 ≤ R.slots) :
    W p l e R s mI args below meth c H locs cells slots (vx_MQ below (pz_Qc Z D dA ad0 h0 (.inr a) (h.1, h.2.1, h.2.2.1, h.2.2.2.1 + 1, h.2.2.2.2 + 6)) (pz_XC Z D dA ad0 h0 (.inr a) (h.1, h.2.1, h.2.2.1, h.2.2.2.1 + 1, h.2.2.2.2 + 6)) args s (cells + 1) (slots + 6) (fun q => Z ≤ q)) (F0 mI pc mls (st.map (pz_e ad))) := by
  obtain ⟨hx, hbc, hml, hts, hown, hname, hret, hlk, hRf, hRl, htr, htab, hE, hSt⟩ := hC
  obtain ⟨hlv, hP, hD, hS, had, hn0, hcs, hss, hk, hlo⟩ := hT
  simp only [pz_ck1] at hck
  split at hck
  · rename_i o ik is ic E wd tx he
    simp only [Bool.and_eq_true, beq_iff_eq, decide_eq_true_eq] at hck
    obtain ⟨rfl, rfl, rfl, rfl, ⟨hf1, hf2⟩, hhe, d3, hck⟩ := hck
    obtain ⟨ho, hE6, q, hq, rfl, rfl⟩ := pz_tl_at he
    obtain ⟨X, q', hX, hq', w1, w2, hfit, -, -, hat, -⟩ := pz_xk_at hE6
    cases hq.symm.trans hq'
    have hstr := hE.2.2.2.1 _ _ _ _ _ _ _ _ he
    have hat' : ∀ w ∈ pz_oE E q.2.2.2.1 X, w.before args s = true := by
      intro w hw
      obtain ⟨b1, b2, -⟩ := hat w hw
      rcases b2 with b2 | b2
      · exact hts w (List.mem_filter.mpr ⟨b1, b2⟩)
      · refine va_Nw.use ?_ (hE.2.2.1 w (List.mem_filter.mpr ⟨b1, b2⟩))
        unfold pz_wn at b2
        split at b2
        · rfl
        · rfl
        · rfl
        · cases b2
    have hgood : ∀ w ∈ Cond.classLink "Simplespan" q.1 X :: Cond.initialized X :: pz_oE E q.2.2.2.1 X, vx_ot w = true := by
      intro w hw
      rcases List.mem_cons.mp hw with rfl | hw
      · rfl
      · rcases List.mem_cons.mp hw with rfl | hw
        · rfl
        · exact (hat w hw).2.2
    have hout : ∀ (z : ExceptionTableEntry) (n : Nat), z ∈ c.exceptionTable.toList → covers z n = false := by
      intro z n hz
      rw [htab, List.isEmpty_iff.mp hhe] at hz
      cases hz
    have hn3 : ["java/lang/Exception"].length + 1 + 3 < R.frames := Nat.lt_of_lt_of_le (show 2 + 3 < 6 by omega) (Nat.le_trans hf1 hRf)
    have hr3 : ((st.map (pz_e ad)).map fun v => v.category).sum + (13 * (["java/lang/Exception"].length + 1 + 1) + 43) ≤ R.locals := by
      have z1 := pz_cat_sum ad st
      show _ + (13 * 3 + 43) ≤ _
      omega
    have hxx : ∀ t : State, s.vm.Alike t.vm → H.size ≤ t.heap.size → (∀ q : Nat, q < H.size → t.heap[q]? = H[q]?) → pz_XC Z D dA ad0 h0 (.inr E) (h.1, h.2.1, h.2.2.1, h.2.2.2.1 + 1, h.2.2.2.2 + 6) X s t := by
      intro t hvm hz hh
      refine ⟨E, ad, rfl, hX, had, pz_ws_lt hP hh, hD, Nat.le_trans hS.1 hz, fun q h1 h2 => ?_⟩
      rw [hh q (Nat.lt_of_lt_of_le h1 hS.1)]
      exact hS.2.1 q h1 h2
    obtain ⟨-, -, -, hU, hN⟩ := hSt
    have hsz : mls.size = c.maxLocals := hlv.2.1.trans hml.symm
    have w1' : (Cond.classLink "Simplespan" q.1 X).before args s = true := hts _ w1
    have hstr' : vk_R "Simplespan" is tx (sa e') s := by rw [← ho]; exact hstr
    obtain ⟨y0, y1, y2, y5⟩ := pz_x1_at E
    split at hck
    · simp only [Bool.and_eq_true, decide_eq_true_eq] at hck
      exact pz_throwX (n4 := 2) hx hbc htr (own := "Simplespan") (by rw [← ho]; exact hown) hfit (by decide +kernel) (by decide +kernel) y0 y1 y2 y5 w1' (hts _ w2) hstr' hat' hgood hU hN hS hsz hd d3 (Or.inl ⟨rfl, hck.1⟩) hck.2.1 hck.2.2 (fun z hz => hout z _ hz) hn3 hr3 hRc hRs hlk hxx hS.2.2 (Nat.le_refl _) (Nat.le_refl _)
    · simp only [Bool.and_eq_true, decide_eq_true_eq] at hck
      exact pz_throwX (n4 := 3) hx hbc htr (own := "Simplespan") (by rw [← ho]; exact hown) hfit (by decide +kernel) (by decide +kernel) y0 y1 y2 y5 w1' (hts _ w2) hstr' hat' hgood hU hN hS hsz hd d3 (Or.inr ⟨rfl, hck.1⟩) hck.2.1 hck.2.2 (fun z hz => hout z _ hz) hn3 hr3 hRc hRs hlk hxx hS.2.2 (Nat.le_refl _) (Nat.le_refl _)
  · cases hck
end PZT
/-! handlers of the law's wrappers; methods that never throw; every block is checked -/
def pz_hf : List (Nat × Nat × Nat × Nat) → Nat → Nat → Option Nat
  | [], _, _ => none
  | q :: r, pc, ic => if (q.1 ≤ pc ∧ pc < q.2.1) ∧ q.2.2.2 = ic then some q.2.2.1 else pz_hf r pc ic
theorem pz_hf_some : ∀ {tb : List (Nat × Nat × Nat × Nat)} {pc ic hp : Nat}, pz_hf tb pc ic = some hp → ∃ pre x suf, tb = pre ++ x :: suf ∧ (x.1 ≤ pc ∧ pc < x.2.1) ∧ x.2.2.2 = ic ∧ x.2.2.1 = hp ∧ ∀ z ∈ pre, ¬ ((z.1 ≤ pc ∧ pc < z.2.1) ∧ z.2.2.2 = ic)
  | [], _, _, _, h => by cases h
  | q :: r, pc, ic, hp, h => by
    unfold pz_hf at h
    split at h
    · rename_i hc
      cases h
      exact ⟨[], q, r, rfl, hc.1, hc.2, rfl, fun z hz => by cases hz⟩
    · rename_i hc
      obtain ⟨pre, x, suf, h1, h2, h3, h4, h5⟩ := pz_hf_some h
      refine ⟨q :: pre, x, suf, by rw [h1]; rfl, h2, h3, h4, fun z hz => ?_⟩
      rcases List.mem_cons.mp hz with rfl | hz
      · exact hc
      · exact h5 z hz
theorem pz_hf_none : ∀ {tb : List (Nat × Nat × Nat × Nat)} {pc ic : Nat}, pz_hf tb pc ic = none → ∀ z ∈ tb, ¬ ((z.1 ≤ pc ∧ pc < z.2.1) ∧ z.2.2.2 = ic)
  | [], _, _, _, z, hz => by cases hz
  | q :: r, pc, ic, h, z, hz => by
    unfold pz_hf at h
    split at h
    · cases h
    · rename_i hc
      rcases List.mem_cons.mp hz with rfl | hz
      · exact hc
      · exact pz_hf_none h z hz
def pz_ict (E : Nat) : Nat := match pz_xt[E]? with
  | some q => q.2.2.2.2.2.1
  | none => 0
def pz_hs2 (m hp k : Nat) : Bool := match decode (pz_bs m) hp with
  | .ok (.astore i, len) => len == 2 && (decide (i < pz_ml m) && (decide (decode (pz_bs m) (hp + 2) = .ok (.iconst (k : Int), 1)) && decide (decode (pz_bs m) (hp + 3) = .ok (.ireturn, 1))))
  | .ok (.astore_n i, len) => len == 1 && (decide (i.val < pz_ml m) && (decide (decode (pz_bs m) (hp + 1) = .ok (.iconst (k : Int), 1)) && decide (decode (pz_bs m) (hp + 2) = .ok (.ireturn, 1))))
  | _ => false
def pz_hs1 (m pc E : Nat) : Bool := match pz_hf (pz_hh m) pc (pz_ict E), pz_lk (pz_hc m) E with
  | none, none => true
  | some hp, some k => pz_hs2 m hp k
  | _, _ => false
def pz_hkl (m : Nat) : List pz_Op → Nat → Bool
  | [], _ => true
  | (g, _, len, _, _, _, _) :: ops, pc => (if g = 4 then (List.range 6).all (pz_hs1 m pc) else true) && pz_hkl m ops (pc + len)
/-- the rows of a table name classes that we know; it stands in the law; its calls are caught as the evaluator says -/
def pz_hkm (m : Nat) : Bool := (pz_hc m).all (fun q => decide (q.2 ≤ 9)) && (((pz_hh m).isEmpty && (pz_hc m).isEmpty) ||
  ((pz_hh m).all (fun q => (List.range 6).any (fun E => q.2.2.2 == pz_ict E)) && (decide ((pz_yy m).cls = "SimplespanLaw" ∧ pz_rt m = some .int) && (pz_pg.getD m []).all (fun q => pz_hkl m q.2.1 q.1))))
theorem pz_hkm0 : (List.range 300).all pz_hkm = true := by decide +kernel
theorem pz_hkm1 : ((List.range 45).map (· + 300)).all pz_hkm = true := by decide +kernel
theorem pz_mt_len : pz_mt.length = 345 := by decide +kernel
theorem pz_hkm_ok (m : Nat) : pz_hkm m = true := by
  rcases Nat.lt_or_ge m 300 with h | h
  · exact List.all_eq_true.mp pz_hkm0 m (List.mem_range.mpr h)
  rcases Nat.lt_or_ge m 345 with h1 | h1
  · exact List.all_eq_true.mp pz_hkm1 m (List.mem_map.mpr ⟨m - 300, List.mem_range.mpr (by omega), by omega⟩)
  · have e0 : pz_mt[m]? = none := List.getElem?_eq_none (by rw [pz_mt_len]; exact h1)
    unfold pz_hkm pz_hc pz_hh
    rw [e0]
    rfl
theorem pz_hkl_nil {m : Nat} (h1 : pz_hh m = []) (h2 : pz_hc m = []) : ∀ (ops : List pz_Op) (pc : Nat), pz_hkl m ops pc = true
  | [], _ => rfl
  | (g, _, len, _, _, _, _) :: ops, pc => by
    have h3 := pz_hkl_nil h1 h2 ops (pc + len)
    unfold pz_hkl
    rw [h3, Bool.and_true]
    split
    · refine List.all_eq_true.mpr fun E _ => ?_
      unfold pz_hs1
      rw [h1, h2]
      rfl
    · rfl
theorem pz_look : ∀ {α : Type} {l : List (Nat × α)} {k : Nat} {b : α}, l.lookup k = some b → (k, b) ∈ l
  | _, [], _, _, h => by cases h
  | _, (k0, b0) :: r, k, b, h => by
    unfold List.lookup at h
    split at h
    · rename_i hk
      cases h
      have := eq_of_beq hk
      subst this
      exact List.mem_cons_self
    · exact List.mem_cons_of_mem _ (pz_look h)
theorem pz_blk_in (m pc : Nat) : (pc, pz_blk m pc) ∈ pz_pg.getD m [] ∨ (pz_blk m pc).1 = [(99, .nop, 0, 0, 0, 0, 0)] := by
  unfold pz_blk
  split
  · rename_i b hb
    exact Or.inl (pz_look hb)
  · exact Or.inr rfl
theorem pz_hkl_blk {m pc : Nat} (h : (pc, pz_blk m pc) ∈ pz_pg.getD m []) : pz_hkl m (pz_blk m pc).1 pc = true := by
  have h1 := pz_hkm_ok m
  unfold pz_hkm at h1
  simp only [Bool.and_eq_true, Bool.or_eq_true] at h1
  rcases h1.2 with h2 | h2
  · exact pz_hkl_nil (List.isEmpty_iff.mp h2.1) (List.isEmpty_iff.mp h2.2) _ _
  · exact List.all_eq_true.mp h2.2.2 _ h
theorem pz_hc9 (m : Nat) : ∀ q ∈ pz_hc m, q.2 ≤ 9 := by
  have h1 := pz_hkm_ok m
  unfold pz_hkm at h1
  simp only [Bool.and_eq_true] at h1
  intro q hq
  exact of_decide_eq_true (List.all_eq_true.mp h1.1 q hq)
/-- what a method answers when a call of it threw k -/
def pz_tr (m k : Nat) : Option pz_V ⊕ Nat := match pz_lk (pz_hc m) k with
  | some j => .inl (some (.inl (j : Int)))
  | none => .inr k
theorem pz_xn_len : pz_xn.length = 6 := rfl
section PZH
variable {p : Program} {l : Launch} {e : Env} {R : Room} {s : State} {mI : MethodId} {args : Array Value} {below : List Frame} {meth : Method} {c : Code} {H : Heap} {locs : List Loc} {cells slots : Nat} {Q : State → Prop}
variable {pc : Nat} {mls : Array Slot} {m Z L : Nat} {xs : Nat → Int32} {D : va_G} {dA : Nat → ClassId} {sa ad0 ad : Nat → Nat} {h0 h : pz_H} {ls : pz_L}
theorem pz_pass {k : Nat} {X : String} {z : Nat × Nat × Nat × Nat} (hC : pz_Cx p l R s mI args meth c m Z L xs D dA sa ad0) (hX : pz_xn[k]? = some X) (hz : z ∈ pz_hh m) (hn : ¬ ((z.1 ≤ pc ∧ pc < z.2.1) ∧ z.2.2.2 = pz_ict k)) (own : String) (hown : own = "SimplespanLaw") :
    covers ⟨z.1, z.2.1, z.2.2.1, z.2.2.2⟩ pc = false ∨ ((⟨z.1, z.2.1, z.2.2.1, z.2.2.2⟩ : ExceptionTableEntry).catchType ≠ 0 ∧ ∃ nm : String, (Cond.classLink own (⟨z.1, z.2.1, z.2.2.1, z.2.2.2⟩ : ExceptionTableEntry).catchType nm).before args s = true ∧ va_Nc X nm s) := by
  obtain ⟨hx, hbc, hml, hts, hown', hname, hret, hlk, hRf, hRl, htr, htab, hE, hSt⟩ := hC
  by_cases hc : z.1 ≤ pc ∧ pc < z.2.1
  · refine Or.inr ?_
    have h1 := pz_hkm_ok m
    unfold pz_hkm at h1
    simp only [Bool.and_eq_true, Bool.or_eq_true] at h1
    rcases h1.2 with h2 | h2
    · rw [List.isEmpty_iff.mp h2.1] at hz
      cases hz
    · have h3 := List.all_eq_true.mp h2.1 z hz
      obtain ⟨E, hE1, hE2⟩ := List.any_eq_true.mp h3
      have hE6 := List.mem_range.mp hE1
      have hE2 := eq_of_beq hE2
      obtain ⟨X', q, hX', hq, -, -, -, -, w5, -, hne⟩ := pz_xk_at hE6
      have he : pz_ict E = q.2.2.2.2.2.1 := by unfold pz_ict; rw [hq]
      have hkE : k ≠ E := fun q9 => hn ⟨hc, by rw [hE2, q9]⟩
      subst hown
      refine ⟨?_, X', ?_, hE.2.2.2.2 _ _ _ _ hX hX' hkE⟩
      · show z.2.2.2 ≠ 0
        rw [hE2, he]; exact hne
      · show (Cond.classLink "SimplespanLaw" z.2.2.2 X').before args s = true
        rw [hE2, he]
        exact hts _ w5
  · refine Or.inl ?_
    show (decide (z.1 ≤ pc) && decide (pc < z.2.1)) = false
    by_cases h1 : z.1 ≤ pc
    · have h2 : ¬ pc < z.2.1 := fun h2 => hc ⟨h1, h2⟩
      simp [h2]
    · simp [h1]
theorem pz_Wcatch {k : Nat} {X : String} {q : Addr} {ce : Cell} {rest : List Value} (hC : pz_Cx p l R s mI args meth c m Z L xs D dA sa ad0) (hT : pz_Pt s m Z L xs D dA ad0 ad h0 h ls mls H locs cells slots)
    (hX : pz_xn[k]? = some X) (hcell : H[q]? = some ce) (hv : ce.vm = .none) (hcl : s.vm.findClass X = some ce.cls) (hs1 : pz_hs1 m pc k = true) :
    vx_W p l e R s mI args below meth c H locs cells slots (vx_MQ below (pz_Qc Z D dA ad0 h0 (pz_tr m k) h) (pz_XC Z D dA ad0 h0 (pz_tr m k) h) args s cells slots (fun q => Z ≤ q)) (F0 mI pc mls rest) q := by
  have hC0 := hC
  obtain ⟨hx, hbc, hml, hts, hown, hname, hret, hlk, hRf, hRl, htr, htab, hE, hSt⟩ := hC
  obtain ⟨hlv, hP, hD, hS, had, hn0, hcs, hss, hk, hlo⟩ := hT
  have hk6 : k < 6 := by rw [← pz_xn_len]; exact (List.getElem?_eq_some_iff.mp hX).1
  have hlaw : pz_hh m ≠ [] → (pz_yy m).cls = "SimplespanLaw" ∧ pz_rt m = some .int := by
    intro hne
    have h1 := pz_hkm_ok m
    unfold pz_hkm at h1
    simp only [Bool.and_eq_true, Bool.or_eq_true, decide_eq_true_eq] at h1
    rcases h1.2 with h2 | h2
    · exact absurd (List.isEmpty_iff.mp h2.1) hne
    · exact h2.2.1
  unfold pz_hs1 at hs1
  unfold pz_tr
  split at hs1
  · -- not caught
    rename_i h1 h2
    rw [h2]
    have hp := pz_hf_none h1
    refine vx_outP (own := (pz_yy m).cls) (E := X) hown hlk ?_ hcell hv hcl ?_ hS.2.2 (Nat.le_refl _) (Nat.le_refl _)
    · intro z hz
      rw [htab] at hz
      obtain ⟨z0, hz0, rfl⟩ := List.mem_map.mp hz
      exact pz_pass hC0 hX hz0 (hp z0 hz0) _ (hlaw (fun q9 => by rw [q9] at hz0; cases hz0)).1
    · intro t ht hvm
      exact ⟨k, ad, rfl, hX, had, by rw [ht]; exact hP, hD, hS.F ht⟩
  · -- caught
    rename_i hp j h1 h2
    rw [h2]
    obtain ⟨pre, x, suf, e1, e2, e3, e4, e5⟩ := pz_hf_some h1
    obtain ⟨hl1, hl2⟩ := hlaw (fun q9 => by rw [q9] at e1; cases pre <;> cases e1)
    obtain ⟨X', q', hX', hq', -, -, -, w4, w5, -, hne⟩ := pz_xk_at hk6
    cases hX.symm.trans hX'
    have he : pz_ict k = q'.2.2.2.2.2.1 := by unfold pz_ict; rw [hq']
    refine vx_catch (own := (pz_yy m).cls) (name := X) (E := X) hown (pre.map fun q => ⟨q.1, q.2.1, q.2.2.1, q.2.2.2⟩) ⟨x.1, x.2.1, x.2.2.1, x.2.2.2⟩ (suf.map fun q => ⟨q.1, q.2.1, q.2.2.1, q.2.2.2⟩) ?_ ?_ ?_ ?_ ?_ ?_ hcell hv hcl ?_
    · rw [htab]
      unfold tableOf
      rw [e1, List.map_append]
      rfl
    · intro z hz
      obtain ⟨z0, hz0, rfl⟩ := List.mem_map.mp hz
      exact pz_pass hC0 hX (by rw [e1]; exact List.mem_append_left _ hz0) (e5 z0 hz0) _ hl1
    · show (decide (x.1 ≤ pc) && decide (pc < x.2.1)) = true
      simp [e2.1, e2.2]
    · show x.2.2.2 ≠ 0
      rw [e3, he]; exact hne
    · show (Cond.classLink (pz_yy m).cls x.2.2.2 X).before args s = true
      rw [e3, he, hl1]
      exact hts _ w5
    · exact va_Nw.use rfl (hE.2.2.1 _ w4)
    · show W p l e R s mI args below meth c H locs cells slots _ (F0 mI x.2.2.1 mls [.ref q])
      rw [e4]
      have hq : ∀ t : State, t.heap = H → s.WarmedH t.vm → pz_Qc Z D dA ad0 h0 (.inl (some (.inl (j : Int)))) h args s (.returned (some (pz_e ad (.inl (j : Int))))) t := fun t ht hW => ⟨some _, ad, rfl, had, rfl, by rw [ht]; exact hP, hD, hS.F ht⟩
      unfold pz_hs2 at hs1
      split at hs1
      · rename_i i len hd
        simp only [Bool.and_eq_true, decide_eq_true_eq, beq_iff_eq] at hs1
        obtain ⟨rfl, hi, d1, d2⟩ := hs1
        refine lv_astore hx hbc hd hlv.has hi rfl (fun mls' h' => ?_)
        refine lv_iconst hx hbc d1 rfl ?_
        refine vx_ret ?_
        exact W.iret hx hbc (hret.trans hl2) hq hS.2.2 d2 hlk
      · rename_i i len hd
        simp only [Bool.and_eq_true, decide_eq_true_eq, beq_iff_eq] at hs1
        obtain ⟨rfl, hi, d1, d2⟩ := hs1
        refine lv_astore_n hx hbc hd rfl hlv.has hi rfl (fun mls' h' => ?_)
        refine lv_iconst hx hbc d1 rfl ?_
        refine vx_ret ?_
        exact W.iret hx hbc (hret.trans hl2) hq hS.2.2 d2 hlk
      · cases hs1
  · cases hs1
end PZH
/-! methods that never throw -/
def pz_nt : List Nat := [3, 15, 23, 24, 30, 34, 52, 64, 75, 87, 108, 122, 185, 186, 187, 188]
def pz_nto (ops : List pz_Op) : Bool := ops.all (fun o => !(o.1 == 7) && (!(o.1 == 4) || decide (o.2.2.2.1 ∈ pz_nt)))
theorem pz_nt_ok : pz_nt.all (fun m => (pz_pg.getD m []).all (fun b => pz_nto b.2.1)) = true := by decide +kernel
theorem pz_nt_cl : pz_cl.all (fun x => if x.2.2.2.1 = 2 ∨ x.2.2.2.1 = 3 ∨ x.2.2.2.1 = 4 then decide (x.2.2.1 ∈ pz_nt) else true) = true := by decide +kernel
theorem pz_nt_of {m len a b c e pc : Nat} {ins : Instr} (h : pz_ck1 m 4 ins len a b c e pc = true) {x : String × Nat × Nat × Nat × Nat} (hx : pz_cl[e]? = some x) (hk : x.2.2.2.1 = 2 ∨ x.2.2.2.1 = 3 ∨ x.2.2.2.1 = 4) : a ∈ pz_nt := by
  obtain ⟨-, i, k, w, he, -⟩ := pz_ck_call h
  have h1 := List.all_eq_true.mp pz_nt_cl x (List.mem_of_getElem? hx)
  rw [if_pos hk] at h1
  have h2 := of_decide_eq_true h1
  cases hx.symm.trans he
  exact h2
set_option maxHeartbeats 2000000 in
theorem pz_ex_nt {C : Nat → List pz_V → pz_H → Option pz_O} {J : Nat → pz_L → List pz_V → pz_H → Option pz_O} {hh : List (Nat × Nat)} {nx : Nat}
    (hC : ∀ a ∈ pz_nt, ∀ (as : List pz_V) (h : pz_H) (E : Nat) (h' : pz_H), C a as h ≠ some (.inr E, h')) (hJ : ∀ (pc : Nat) (ls : pz_L) (st : List pz_V) (h : pz_H) (E : Nat) (h' : pz_H), J pc ls st h ≠ some (.inr E, h')) :
    ∀ (ops : List pz_Op) (ls : pz_L) (st : List pz_V) (h : pz_H) (E : Nat) (h' : pz_H), pz_nto ops = true → pz_ex C J hh nx ops ls st h ≠ some (.inr E, h') := by
  intro ops
  induction ops with
  | nil => intro ls st h E h' _ he; exact hJ _ _ _ _ _ _ he
  | cons op ops ih =>
    intro ls st h E h' hn he
    obtain ⟨g, ins, len, a, b, c, e⟩ := op
    simp only [pz_nto, List.all_cons, Bool.and_eq_true] at hn
    obtain ⟨⟨hn7, hn4⟩, hn⟩ := hn
    simp only [pz_ex] at he
    split at he
    · split at he
      · exact ih _ _ _ _ _ hn he
      · cases he
    · split at he
      · exact ih _ _ _ _ _ hn he
      · cases he
    · split at he
      · exact ih _ _ _ _ _ hn he
      · cases he
    · exact ih _ _ _ _ _ hn he
    · have ha : a ∈ pz_nt := by simpa using hn4
      obtain ⟨-, he⟩ := pz_ite he
      split at he
      · exact ih _ _ _ _ _ hn he
      · exact ih _ _ _ _ _ hn he
      · rename_i hcall
        exact hC a ha _ _ _ _ hcall
      · cases he
    · split at he
      · exact ih _ _ _ _ _ hn he
      · cases he
    · split at he
      · split at he
        · exact ih _ _ _ _ _ hn he
        · cases he
      · cases he
    · simp at hn7
    · exact hJ _ _ _ _ _ _ he
    · split at he
      · split at he
        · exact hJ _ _ _ _ _ _ he
        · exact ih _ _ _ _ _ hn he
      · split at he
        · exact hJ _ _ _ _ _ _ he
        · exact ih _ _ _ _ _ hn he
      · split at he
        · exact hJ _ _ _ _ _ _ he
        · exact ih _ _ _ _ _ hn he
      · cases he
    · split at he
      · split at he
        · cases he
        · cases he
      · cases he
    · split at he
      · cases he
      · cases he
    · split at he
      · split at he
        · exact hJ _ _ _ _ _ _ he
        · split at he
          · exact hJ _ _ _ _ _ _ he
          · cases he
      · cases he
    · cases he
theorem pz_run_nt : ∀ (n m : Nat), m ∈ pz_nt → ∀ (pc : Nat) (ls : pz_L) (st : List pz_V) (h : pz_H) (E : Nat) (h' : pz_H), pz_run n m pc ls st h ≠ some (.inr E, h')
  | 0, _, _, _, _, _, _, _, _ => by intro he; cases he
  | n + 1, m, hm, pc, ls, st, h, E, h' => by
    intro he
    unfold pz_run at he
    rcases pz_blk_in m pc with hb | hb
    · have h1 := List.all_eq_true.mp pz_nt_ok m hm
      have h2 := List.all_eq_true.mp h1 _ hb
      exact pz_ex_nt (fun a ha as h E h' => pz_run_nt n a ha 0 (pz_en a as) [] h E h') (fun pc ls st h E h' => pz_run_nt n m hm pc ls st h E h') _ _ _ _ _ _ h2 he
    · rw [hb] at he
      simp only [pz_ex] at he
      cases he
/-! every block is checked -/
def pz_al : List (List (Nat × List pz_Op × Nat)) → Nat → Prop
  | [], _ => True
  | x :: r, k => pz_ckb k x = true ∧ pz_al r (k + 1)
theorem pz_al_app : ∀ {a b : List (List (Nat × List pz_Op × Nat))} {k : Nat}, pz_al a k → pz_al b (k + a.length) → pz_al (a ++ b) k
  | [], _, k, _, h => h
  | x :: r, b, k, h1, h2 => ⟨h1.1, pz_al_app h1.2 (by rw [show k + 1 + r.length = k + (x :: r).length by simp only [List.length_cons]; omega]; exact h2)⟩
theorem pz_al_at : ∀ {l : List (List (Nat × List pz_Op × Nat))} {k i : Nat} {x : List (Nat × List pz_Op × Nat)}, pz_al l k → l[i]? = some x → pz_ckb (k + i) x = true
  | [], _, _, _, _, h => by cases h
  | _ :: _, k, 0, _, h1, h2 => by
    cases h2
    exact h1.1
  | _ :: r, k, i + 1, x, h1, h2 => by
    have := pz_al_at (k := k + 1) (i := i) h1.2 (x := x) (by simpa using h2)
    rw [show k + (i + 1) = k + 1 + i by omega]
    exact this
set_option maxRecDepth 20000 in
theorem pz_al0 : pz_al pz_pg0 0 := (⟨pz_k0, pz_k1, pz_k2, pz_k3, pz_k4, pz_k5, pz_k6, pz_k7, pz_k8, pz_k9, pz_k10, pz_k11, pz_k12, pz_k13, pz_k14, pz_k15, pz_k16, pz_k17, pz_k18, pz_k19, pz_k20, pz_k21, pz_k22, pz_k23, pz_k24, pz_k25, pz_k26, pz_k27, pz_k28, pz_k29, pz_k30, pz_k31, pz_k32, pz_k33, pz_k34, pz_k35, pz_k36, pz_k37, pz_k38, pz_k39, trivial⟩ : pz_ckb 0 pz_c0 = true ∧ pz_ckb 1 pz_c1 = true ∧ pz_ckb 2 pz_c2 = true ∧ pz_ckb 3 pz_c3 = true ∧ pz_ckb 4 pz_c4 = true ∧ pz_ckb 5 pz_c5 = true ∧ pz_ckb 6 pz_c6 = true ∧ pz_ckb 7 pz_c7 = true ∧ pz_ckb 8 pz_c8 = true ∧ pz_ckb 9 pz_c9 = true ∧ pz_ckb 10 pz_c10 = true ∧ pz_ckb 11 pz_c11 = true ∧ pz_ckb 12 pz_c12 = true ∧ pz_ckb 13 pz_c13 = true ∧ pz_ckb 14 pz_c14 = true ∧ pz_ckb 15 pz_c15 = true ∧ pz_ckb 16 pz_c16 = true ∧ pz_ckb 17 pz_c17 = true ∧ pz_ckb 18 pz_c18 = true ∧ pz_ckb 19 pz_c19 = true ∧ pz_ckb 20 pz_c20 = true ∧ pz_ckb 21 pz_c21 = true ∧ pz_ckb 22 pz_c22 = true ∧ pz_ckb 23 pz_c23 = true ∧ pz_ckb 24 pz_c24 = true ∧ pz_ckb 25 pz_c25 = true ∧ pz_ckb 26 pz_c26 = true ∧ pz_ckb 27 pz_c27 = true ∧ pz_ckb 28 pz_c28 = true ∧ pz_ckb 29 pz_c29 = true ∧ pz_ckb 30 pz_c30 = true ∧ pz_ckb 31 pz_c31 = true ∧ pz_ckb 32 pz_c32 = true ∧ pz_ckb 33 pz_c33 = true ∧ pz_ckb 34 pz_c34 = true ∧ pz_ckb 35 pz_c35 = true ∧ pz_ckb 36 pz_c36 = true ∧ pz_ckb 37 pz_c37 = true ∧ pz_ckb 38 pz_c38 = true ∧ pz_ckb 39 pz_c39 = true ∧ True)
set_option maxRecDepth 20000 in
theorem pz_al1 : pz_al pz_pg1 40 := (⟨pz_k40, pz_k41, pz_k42, pz_k43, pz_k44, pz_k45, pz_k46, pz_k47, pz_k48, pz_k49, pz_k50, pz_k51, pz_k52, pz_k53, pz_k54, pz_k55, pz_k56, pz_k57, pz_k58, pz_k59, pz_k60, pz_k61, pz_k62, pz_k63, pz_k64, pz_k65, pz_k66, pz_k67, pz_k68, pz_k69, pz_k70, pz_k71, pz_k72, pz_k73, pz_k74, pz_k75, pz_k76, pz_k77, pz_k78, pz_k79, trivial⟩ : pz_ckb 40 pz_c40 = true ∧ pz_ckb 41 pz_c41 = true ∧ pz_ckb 42 pz_c42 = true ∧ pz_ckb 43 pz_c43 = true ∧ pz_ckb 44 pz_c44 = true ∧ pz_ckb 45 pz_c45 = true ∧ pz_ckb 46 pz_c46 = true ∧ pz_ckb 47 pz_c47 = true ∧ pz_ckb 48 pz_c48 = true ∧ pz_ckb 49 pz_c49 = true ∧ pz_ckb 50 pz_c50 = true ∧ pz_ckb 51 pz_c51 = true ∧ pz_ckb 52 pz_c52 = true ∧ pz_ckb 53 pz_c53 = true ∧ pz_ckb 54 pz_c54 = true ∧ pz_ckb 55 pz_c55 = true ∧ pz_ckb 56 pz_c56 = true ∧ pz_ckb 57 pz_c57 = true ∧ pz_ckb 58 pz_c58 = true ∧ pz_ckb 59 pz_c59 = true ∧ pz_ckb 60 pz_c60 = true ∧ pz_ckb 61 pz_c61 = true ∧ pz_ckb 62 pz_c62 = true ∧ pz_ckb 63 pz_c63 = true ∧ pz_ckb 64 pz_c64 = true ∧ pz_ckb 65 pz_c65 = true ∧ pz_ckb 66 pz_c66 = true ∧ pz_ckb 67 pz_c67 = true ∧ pz_ckb 68 pz_c68 = true ∧ pz_ckb 69 pz_c69 = true ∧ pz_ckb 70 pz_c70 = true ∧ pz_ckb 71 pz_c71 = true ∧ pz_ckb 72 pz_c72 = true ∧ pz_ckb 73 pz_c73 = true ∧ pz_ckb 74 pz_c74 = true ∧ pz_ckb 75 pz_c75 = true ∧ pz_ckb 76 pz_c76 = true ∧ pz_ckb 77 pz_c77 = true ∧ pz_ckb 78 pz_c78 = true ∧ pz_ckb 79 pz_c79 = true ∧ True)
set_option maxRecDepth 20000 in
theorem pz_al2 : pz_al pz_pg2 80 := (⟨pz_k80, pz_k81, pz_k82, pz_k83, pz_k84, pz_k85, pz_k86, pz_k87, pz_k88, pz_k89, pz_k90, pz_k91, pz_k92, pz_k93, pz_k94, pz_k95, pz_k96, pz_k97, pz_k98, pz_k99, pz_k100, pz_k101, pz_k102, pz_k103, pz_k104, pz_k105, pz_k106, pz_k107, pz_k108, pz_k109, pz_k110, pz_k111, pz_k112, pz_k113, pz_k114, pz_k115, pz_k116, pz_k117, pz_k118, pz_k119, trivial⟩ : pz_ckb 80 pz_c80 = true ∧ pz_ckb 81 pz_c81 = true ∧ pz_ckb 82 pz_c82 = true ∧ pz_ckb 83 pz_c83 = true ∧ pz_ckb 84 pz_c84 = true ∧ pz_ckb 85 pz_c85 = true ∧ pz_ckb 86 pz_c86 = true ∧ pz_ckb 87 pz_c87 = true ∧ pz_ckb 88 pz_c88 = true ∧ pz_ckb 89 pz_c89 = true ∧ pz_ckb 90 pz_c90 = true ∧ pz_ckb 91 pz_c91 = true ∧ pz_ckb 92 pz_c92 = true ∧ pz_ckb 93 pz_c93 = true ∧ pz_ckb 94 pz_c94 = true ∧ pz_ckb 95 pz_c95 = true ∧ pz_ckb 96 pz_c96 = true ∧ pz_ckb 97 pz_c97 = true ∧ pz_ckb 98 pz_c98 = true ∧ pz_ckb 99 pz_c99 = true ∧ pz_ckb 100 pz_c100 = true ∧ pz_ckb 101 pz_c101 = true ∧ pz_ckb 102 pz_c102 = true ∧ pz_ckb 103 pz_c103 = true ∧ pz_ckb 104 pz_c104 = true ∧ pz_ckb 105 pz_c105 = true ∧ pz_ckb 106 pz_c106 = true ∧ pz_ckb 107 pz_c107 = true ∧ pz_ckb 108 pz_c108 = true ∧ pz_ckb 109 pz_c109 = true ∧ pz_ckb 110 pz_c110 = true ∧ pz_ckb 111 pz_c111 = true ∧ pz_ckb 112 pz_c112 = true ∧ pz_ckb 113 pz_c113 = true ∧ pz_ckb 114 pz_c114 = true ∧ pz_ckb 115 pz_c115 = true ∧ pz_ckb 116 pz_c116 = true ∧ pz_ckb 117 pz_c117 = true ∧ pz_ckb 118 pz_c118 = true ∧ pz_ckb 119 pz_c119 = true ∧ True)
set_option maxRecDepth 20000 in
theorem pz_al3 : pz_al pz_pg3 120 := (⟨pz_k120, pz_k121, pz_k122, pz_k123, pz_k124, pz_k125, pz_k126, pz_k127, pz_k128, pz_k129, pz_k130, pz_k131, pz_k132, pz_k133, pz_k134, pz_k135, pz_k136, pz_k137, pz_k138, pz_k139, pz_k140, pz_k141, pz_k142, pz_k143, pz_k144, pz_k145, pz_k146, pz_k147, pz_k148, pz_k149, pz_k150, pz_k151, pz_k152, pz_k153, pz_k154, pz_k155, pz_k156, pz_k157, pz_k158, pz_k159, trivial⟩ : pz_ckb 120 pz_c120 = true ∧ pz_ckb 121 pz_c121 = true ∧ pz_ckb 122 pz_c122 = true ∧ pz_ckb 123 pz_c123 = true ∧ pz_ckb 124 pz_c124 = true ∧ pz_ckb 125 pz_c125 = true ∧ pz_ckb 126 pz_c126 = true ∧ pz_ckb 127 pz_c127 = true ∧ pz_ckb 128 pz_c128 = true ∧ pz_ckb 129 pz_c129 = true ∧ pz_ckb 130 pz_c130 = true ∧ pz_ckb 131 pz_c131 = true ∧ pz_ckb 132 pz_c132 = true ∧ pz_ckb 133 pz_c133 = true ∧ pz_ckb 134 pz_c134 = true ∧ pz_ckb 135 pz_c135 = true ∧ pz_ckb 136 pz_c136 = true ∧ pz_ckb 137 pz_c137 = true ∧ pz_ckb 138 pz_c138 = true ∧ pz_ckb 139 pz_c139 = true ∧ pz_ckb 140 pz_c140 = true ∧ pz_ckb 141 pz_c141 = true ∧ pz_ckb 142 pz_c142 = true ∧ pz_ckb 143 pz_c143 = true ∧ pz_ckb 144 pz_c144 = true ∧ pz_ckb 145 pz_c145 = true ∧ pz_ckb 146 pz_c146 = true ∧ pz_ckb 147 pz_c147 = true ∧ pz_ckb 148 pz_c148 = true ∧ pz_ckb 149 pz_c149 = true ∧ pz_ckb 150 pz_c150 = true ∧ pz_ckb 151 pz_c151 = true ∧ pz_ckb 152 pz_c152 = true ∧ pz_ckb 153 pz_c153 = true ∧ pz_ckb 154 pz_c154 = true ∧ pz_ckb 155 pz_c155 = true ∧ pz_ckb 156 pz_c156 = true ∧ pz_ckb 157 pz_c157 = true ∧ pz_ckb 158 pz_c158 = true ∧ pz_ckb 159 pz_c159 = true ∧ True)
set_option maxRecDepth 20000 in
theorem pz_al4 : pz_al pz_pg4 160 := (⟨pz_k160, pz_k161, pz_k162, pz_k163, pz_k164, pz_k165, pz_k166, pz_k167, pz_k168, pz_k169, pz_k170, pz_k171, pz_k172, pz_k173, pz_k174, pz_k175, pz_k176, pz_k177, pz_k178, pz_k179, pz_k180, pz_k181, pz_k182, pz_k183, pz_k184, pz_k185, pz_k186, pz_k187, pz_k188, pz_k189, pz_k190, pz_k191, pz_k192, pz_k193, pz_k194, pz_k195, pz_k196, pz_k197, pz_k198, pz_k199, trivial⟩ : pz_ckb 160 pz_c160 = true ∧ pz_ckb 161 pz_c161 = true ∧ pz_ckb 162 pz_c162 = true ∧ pz_ckb 163 pz_c163 = true ∧ pz_ckb 164 pz_c164 = true ∧ pz_ckb 165 pz_c165 = true ∧ pz_ckb 166 pz_c166 = true ∧ pz_ckb 167 pz_c167 = true ∧ pz_ckb 168 pz_c168 = true ∧ pz_ckb 169 pz_c169 = true ∧ pz_ckb 170 pz_c170 = true ∧ pz_ckb 171 pz_c171 = true ∧ pz_ckb 172 pz_c172 = true ∧ pz_ckb 173 pz_c173 = true ∧ pz_ckb 174 pz_c174 = true ∧ pz_ckb 175 pz_c175 = true ∧ pz_ckb 176 pz_c176 = true ∧ pz_ckb 177 pz_c177 = true ∧ pz_ckb 178 pz_c178 = true ∧ pz_ckb 179 pz_c179 = true ∧ pz_ckb 180 pz_c180 = true ∧ pz_ckb 181 pz_c181 = true ∧ pz_ckb 182 pz_c182 = true ∧ pz_ckb 183 pz_c183 = true ∧ pz_ckb 184 pz_c184 = true ∧ pz_ckb 185 pz_c185 = true ∧ pz_ckb 186 pz_c186 = true ∧ pz_ckb 187 pz_c187 = true ∧ pz_ckb 188 pz_c188 = true ∧ pz_ckb 189 pz_c189 = true ∧ pz_ckb 190 pz_c190 = true ∧ pz_ckb 191 pz_c191 = true ∧ pz_ckb 192 pz_c192 = true ∧ pz_ckb 193 pz_c193 = true ∧ pz_ckb 194 pz_c194 = true ∧ pz_ckb 195 pz_c195 = true ∧ pz_ckb 196 pz_c196 = true ∧ pz_ckb 197 pz_c197 = true ∧ pz_ckb 198 pz_c198 = true ∧ pz_ckb 199 pz_c199 = true ∧ True)
set_option maxRecDepth 20000 in
theorem pz_al5 : pz_al pz_pg5 200 := (⟨pz_k200, pz_k201, pz_k202, pz_k203, pz_k204, pz_k205, pz_k206, pz_k207, pz_k208, pz_k209, pz_k210, pz_k211, pz_k212, pz_k213, pz_k214, pz_k215, pz_k216, pz_k217, pz_k218, pz_k219, pz_k220, pz_k221, pz_k222, pz_k223, pz_k224, pz_k225, pz_k226, pz_k227, pz_k228, pz_k229, pz_k230, pz_k231, pz_k232, pz_k233, pz_k234, pz_k235, pz_k236, pz_k237, pz_k238, pz_k239, trivial⟩ : pz_ckb 200 pz_c200 = true ∧ pz_ckb 201 pz_c201 = true ∧ pz_ckb 202 pz_c202 = true ∧ pz_ckb 203 pz_c203 = true ∧ pz_ckb 204 pz_c204 = true ∧ pz_ckb 205 pz_c205 = true ∧ pz_ckb 206 pz_c206 = true ∧ pz_ckb 207 pz_c207 = true ∧ pz_ckb 208 pz_c208 = true ∧ pz_ckb 209 pz_c209 = true ∧ pz_ckb 210 pz_c210 = true ∧ pz_ckb 211 pz_c211 = true ∧ pz_ckb 212 pz_c212 = true ∧ pz_ckb 213 pz_c213 = true ∧ pz_ckb 214 pz_c214 = true ∧ pz_ckb 215 pz_c215 = true ∧ pz_ckb 216 pz_c216 = true ∧ pz_ckb 217 pz_c217 = true ∧ pz_ckb 218 pz_c218 = true ∧ pz_ckb 219 pz_c219 = true ∧ pz_ckb 220 pz_c220 = true ∧ pz_ckb 221 pz_c221 = true ∧ pz_ckb 222 pz_c222 = true ∧ pz_ckb 223 pz_c223 = true ∧ pz_ckb 224 pz_c224 = true ∧ pz_ckb 225 pz_c225 = true ∧ pz_ckb 226 pz_c226 = true ∧ pz_ckb 227 pz_c227 = true ∧ pz_ckb 228 pz_c228 = true ∧ pz_ckb 229 pz_c229 = true ∧ pz_ckb 230 pz_c230 = true ∧ pz_ckb 231 pz_c231 = true ∧ pz_ckb 232 pz_c232 = true ∧ pz_ckb 233 pz_c233 = true ∧ pz_ckb 234 pz_c234 = true ∧ pz_ckb 235 pz_c235 = true ∧ pz_ckb 236 pz_c236 = true ∧ pz_ckb 237 pz_c237 = true ∧ pz_ckb 238 pz_c238 = true ∧ pz_ckb 239 pz_c239 = true ∧ True)
set_option maxRecDepth 20000 in
theorem pz_al6 : pz_al pz_pg6 240 := (⟨pz_k240, pz_k241, pz_k242, pz_k243, pz_k244, pz_k245, pz_k246, pz_k247, pz_k248, pz_k249, pz_k250, pz_k251, pz_k252, pz_k253, pz_k254, pz_k255, pz_k256, pz_k257, pz_k258, pz_k259, pz_k260, pz_k261, pz_k262, pz_k263, pz_k264, pz_k265, pz_k266, pz_k267, pz_k268, pz_k269, pz_k270, pz_k271, pz_k272, pz_k273, pz_k274, pz_k275, pz_k276, pz_k277, pz_k278, pz_k279, trivial⟩ : pz_ckb 240 pz_c240 = true ∧ pz_ckb 241 pz_c241 = true ∧ pz_ckb 242 pz_c242 = true ∧ pz_ckb 243 pz_c243 = true ∧ pz_ckb 244 pz_c244 = true ∧ pz_ckb 245 pz_c245 = true ∧ pz_ckb 246 pz_c246 = true ∧ pz_ckb 247 pz_c247 = true ∧ pz_ckb 248 pz_c248 = true ∧ pz_ckb 249 pz_c249 = true ∧ pz_ckb 250 pz_c250 = true ∧ pz_ckb 251 pz_c251 = true ∧ pz_ckb 252 pz_c252 = true ∧ pz_ckb 253 pz_c253 = true ∧ pz_ckb 254 pz_c254 = true ∧ pz_ckb 255 pz_c255 = true ∧ pz_ckb 256 pz_c256 = true ∧ pz_ckb 257 pz_c257 = true ∧ pz_ckb 258 pz_c258 = true ∧ pz_ckb 259 pz_c259 = true ∧ pz_ckb 260 pz_c260 = true ∧ pz_ckb 261 pz_c261 = true ∧ pz_ckb 262 pz_c262 = true ∧ pz_ckb 263 pz_c263 = true ∧ pz_ckb 264 pz_c264 = true ∧ pz_ckb 265 pz_c265 = true ∧ pz_ckb 266 pz_c266 = true ∧ pz_ckb 267 pz_c267 = true ∧ pz_ckb 268 pz_c268 = true ∧ pz_ckb 269 pz_c269 = true ∧ pz_ckb 270 pz_c270 = true ∧ pz_ckb 271 pz_c271 = true ∧ pz_ckb 272 pz_c272 = true ∧ pz_ckb 273 pz_c273 = true ∧ pz_ckb 274 pz_c274 = true ∧ pz_ckb 275 pz_c275 = true ∧ pz_ckb 276 pz_c276 = true ∧ pz_ckb 277 pz_c277 = true ∧ pz_ckb 278 pz_c278 = true ∧ pz_ckb 279 pz_c279 = true ∧ True)
set_option maxRecDepth 20000 in
theorem pz_al7 : pz_al pz_pg7 280 := (⟨pz_k280, pz_k281, pz_k282, pz_k283, pz_k284, pz_k285, pz_k286, pz_k287, pz_k288, pz_k289, pz_k290, pz_k291, pz_k292, pz_k293, pz_k294, pz_k295, pz_k296, pz_k297, pz_k298, pz_k299, pz_k300, pz_k301, pz_k302, pz_k303, pz_k304, pz_k305, pz_k306, pz_k307, pz_k308, pz_k309, pz_k310, pz_k311, pz_k312, pz_k313, pz_k314, pz_k315, pz_k316, pz_k317, pz_k318, pz_k319, trivial⟩ : pz_ckb 280 pz_c280 = true ∧ pz_ckb 281 pz_c281 = true ∧ pz_ckb 282 pz_c282 = true ∧ pz_ckb 283 pz_c283 = true ∧ pz_ckb 284 pz_c284 = true ∧ pz_ckb 285 pz_c285 = true ∧ pz_ckb 286 pz_c286 = true ∧ pz_ckb 287 pz_c287 = true ∧ pz_ckb 288 pz_c288 = true ∧ pz_ckb 289 pz_c289 = true ∧ pz_ckb 290 pz_c290 = true ∧ pz_ckb 291 pz_c291 = true ∧ pz_ckb 292 pz_c292 = true ∧ pz_ckb 293 pz_c293 = true ∧ pz_ckb 294 pz_c294 = true ∧ pz_ckb 295 pz_c295 = true ∧ pz_ckb 296 pz_c296 = true ∧ pz_ckb 297 pz_c297 = true ∧ pz_ckb 298 pz_c298 = true ∧ pz_ckb 299 pz_c299 = true ∧ pz_ckb 300 pz_c300 = true ∧ pz_ckb 301 pz_c301 = true ∧ pz_ckb 302 pz_c302 = true ∧ pz_ckb 303 pz_c303 = true ∧ pz_ckb 304 pz_c304 = true ∧ pz_ckb 305 pz_c305 = true ∧ pz_ckb 306 pz_c306 = true ∧ pz_ckb 307 pz_c307 = true ∧ pz_ckb 308 pz_c308 = true ∧ pz_ckb 309 pz_c309 = true ∧ pz_ckb 310 pz_c310 = true ∧ pz_ckb 311 pz_c311 = true ∧ pz_ckb 312 pz_c312 = true ∧ pz_ckb 313 pz_c313 = true ∧ pz_ckb 314 pz_c314 = true ∧ pz_ckb 315 pz_c315 = true ∧ pz_ckb 316 pz_c316 = true ∧ pz_ckb 317 pz_c317 = true ∧ pz_ckb 318 pz_c318 = true ∧ pz_ckb 319 pz_c319 = true ∧ True)
set_option maxRecDepth 20000 in
theorem pz_al8 : pz_al pz_pg8 320 := (⟨pz_k320, pz_k321, pz_k322, pz_k323, pz_k324, pz_k325, pz_k326, pz_k327, pz_k328, pz_k329, pz_k330, pz_k331, pz_k332, pz_k333, pz_k334, pz_k335, pz_k336, pz_k337, pz_k338, pz_k339, pz_k340, pz_k341, pz_k342, pz_k343, pz_k344, trivial⟩ : pz_ckb 320 pz_c320 = true ∧ pz_ckb 321 pz_c321 = true ∧ pz_ckb 322 pz_c322 = true ∧ pz_ckb 323 pz_c323 = true ∧ pz_ckb 324 pz_c324 = true ∧ pz_ckb 325 pz_c325 = true ∧ pz_ckb 326 pz_c326 = true ∧ pz_ckb 327 pz_c327 = true ∧ pz_ckb 328 pz_c328 = true ∧ pz_ckb 329 pz_c329 = true ∧ pz_ckb 330 pz_c330 = true ∧ pz_ckb 331 pz_c331 = true ∧ pz_ckb 332 pz_c332 = true ∧ pz_ckb 333 pz_c333 = true ∧ pz_ckb 334 pz_c334 = true ∧ pz_ckb 335 pz_c335 = true ∧ pz_ckb 336 pz_c336 = true ∧ pz_ckb 337 pz_c337 = true ∧ pz_ckb 338 pz_c338 = true ∧ pz_ckb 339 pz_c339 = true ∧ pz_ckb 340 pz_c340 = true ∧ pz_ckb 341 pz_c341 = true ∧ pz_ckb 342 pz_c342 = true ∧ pz_ckb 343 pz_c343 = true ∧ pz_ckb 344 pz_c344 = true ∧ True)
theorem pz_al_app' {a b : List (List (Nat × List pz_Op × Nat))} {k n k' : Nat} (hl : a.length = n) (hk : k + n = k') (h1 : pz_al a k) (h2 : pz_al b k') : pz_al (a ++ b) k := pz_al_app h1 (by rw [hl, hk]; exact h2)
theorem pz_al_all : pz_al pz_pg 0 := by
  have e0 : pz_pg0.length = 40 := by decide +kernel
  have e1 : pz_pg1.length = 40 := by decide +kernel
  have e2 : pz_pg2.length = 40 := by decide +kernel
  have e3 : pz_pg3.length = 40 := by decide +kernel
  have e4 : pz_pg4.length = 40 := by decide +kernel
  have e5 : pz_pg5.length = 40 := by decide +kernel
  have e6 : pz_pg6.length = 40 := by decide +kernel
  have e7 : pz_pg7.length = 40 := by decide +kernel
  have e8 : pz_pg8.length = 25 := by decide +kernel
  have a1 : pz_al (pz_pg0 ++ pz_pg1) 0 := pz_al_app' e0 rfl pz_al0 pz_al1
  have l1 : (pz_pg0 ++ pz_pg1).length = 80 := by rw [List.length_append, e0, e1]
  have a2 : pz_al (pz_pg0 ++ pz_pg1 ++ pz_pg2) 0 := pz_al_app' l1 rfl a1 pz_al2
  have l2 : (pz_pg0 ++ pz_pg1 ++ pz_pg2).length = 120 := by rw [List.length_append, l1, e2]
  have a3 : pz_al (pz_pg0 ++ pz_pg1 ++ pz_pg2 ++ pz_pg3) 0 := pz_al_app' l2 rfl a2 pz_al3
  have l3 : (pz_pg0 ++ pz_pg1 ++ pz_pg2 ++ pz_pg3).length = 160 := by rw [List.length_append, l2, e3]
  have a4 : pz_al (pz_pg0 ++ pz_pg1 ++ pz_pg2 ++ pz_pg3 ++ pz_pg4) 0 := pz_al_app' l3 rfl a3 pz_al4
  have l4 : (pz_pg0 ++ pz_pg1 ++ pz_pg2 ++ pz_pg3 ++ pz_pg4).length = 200 := by rw [List.length_append, l3, e4]
  have a5 : pz_al (pz_pg0 ++ pz_pg1 ++ pz_pg2 ++ pz_pg3 ++ pz_pg4 ++ pz_pg5) 0 := pz_al_app' l4 rfl a4 pz_al5
  have l5 : (pz_pg0 ++ pz_pg1 ++ pz_pg2 ++ pz_pg3 ++ pz_pg4 ++ pz_pg5).length = 240 := by rw [List.length_append, l4, e5]
  have a6 : pz_al (pz_pg0 ++ pz_pg1 ++ pz_pg2 ++ pz_pg3 ++ pz_pg4 ++ pz_pg5 ++ pz_pg6) 0 := pz_al_app' l5 rfl a5 pz_al6
  have l6 : (pz_pg0 ++ pz_pg1 ++ pz_pg2 ++ pz_pg3 ++ pz_pg4 ++ pz_pg5 ++ pz_pg6).length = 280 := by rw [List.length_append, l5, e6]
  have a7 : pz_al (pz_pg0 ++ pz_pg1 ++ pz_pg2 ++ pz_pg3 ++ pz_pg4 ++ pz_pg5 ++ pz_pg6 ++ pz_pg7) 0 := pz_al_app' l6 rfl a6 pz_al7
  have l7 : (pz_pg0 ++ pz_pg1 ++ pz_pg2 ++ pz_pg3 ++ pz_pg4 ++ pz_pg5 ++ pz_pg6 ++ pz_pg7).length = 320 := by rw [List.length_append, l6, e7]
  have a8 : pz_al (pz_pg0 ++ pz_pg1 ++ pz_pg2 ++ pz_pg3 ++ pz_pg4 ++ pz_pg5 ++ pz_pg6 ++ pz_pg7 ++ pz_pg8) 0 := pz_al_app' l7 rfl a7 pz_al8
  unfold pz_pg
  exact a8
theorem pz_ckb_all (m : Nat) : pz_ckb m (pz_pg.getD m []) = true := by
  rw [List.getD_eq_getElem?_getD]
  cases h : pz_pg[m]? with
  | none => rfl
  | some x =>
    have h1 := pz_al_at pz_al_all h
    rw [Nat.zero_add] at h1
    exact h1
theorem pz_ck_blk {m pc : Nat} (h : (pc, pz_blk m pc) ∈ pz_pg.getD m []) : pz_ck m (pz_blk m pc).2 (pz_blk m pc).1 pc = true := List.all_eq_true.mp (pz_ckb_all m) _ h
theorem pz_en_in {m : Nat} {as : List pz_V} {u : pz_V} (h : some u ∈ pz_en m as) : u ∈ as := by
  unfold pz_en at h
  rcases List.mem_append.mp h with h | h
  · obtain ⟨v, h1, h2⟩ := List.mem_map.mp h
    cases h2
    exact h1
  · have := List.eq_of_mem_replicate h
    cases this
theorem pz_run_ok {L : Nat} {xs : Nat → Int32} (hLb : L ≤ 2560) : ∀ (n m pc : Nat) (ls : pz_L) (st : List pz_V) (h : pz_H) (o : Option pz_V ⊕ Nat) (h' : pz_H), pz_run n m pc ls st h = some (o, h') → pz_hk L xs h → (∀ u, some u ∈ ls → pz_o h.1.1 u) → (∀ v ∈ st, pz_o h.1.1 v) → pz_hk L xs h' ∧ pz_le h h' ∧ pz_oo h'.1.1 o
  | 0, _, _, _, _, _, _, _, he, _, _, _ => by cases he
  | n + 1, m, pc, ls, st, h, o, h', he, q, hl, ho => by
    unfold pz_run at he
    rcases pz_blk_in m pc with hb | hb
    · exact pz_ex_ok hLb (pz_hc9 m) (m := m) (fun a as h o h' he q ha => pz_run_ok hLb n a 0 (pz_en a as) [] h o h' he q (fun u hu => ha u (pz_en_in hu)) (fun v hv => by cases hv)) (fun pc ls st h o h' he q hl ho => pz_run_ok hLb n m pc ls st h o h' he q hl ho) _ pc _ _ _ _ _ (pz_ck_blk hb) he q hl ho
    · rw [hb] at he
      simp only [pz_ex] at he
      cases he
/-! a method's run, walked by the machine -/
theorem pz_call_ml {m len a b c e pc : Nat} {ins : Instr} (h : pz_ck1 m 4 ins len a b c e pc = true) : b ≤ pz_ml a := by
  obtain ⟨-, i, k, w, he, hins, -, hpar, hcb, -⟩ := pz_ck_call h
  have hrow := pz_cr_ok he
  unfold pz_cr at hrow
  dsimp only at hrow
  split at hrow
  · rename_i w5 hw5
    simp only [Bool.and_eq_true, decide_eq_true_eq] at hrow
    obtain ⟨-, -, -, -, ⟨-, q6⟩, q7⟩ := hrow
    cases hp : parseMethodDescriptor (pz_yy a).desc with
    | none => rw [hp] at hpar; cases hpar
    | some d =>
      rw [hp] at hpar q6
      have hpar : d.parameters.length = b - (if c = 99 then 0 else 1) := Option.some.inj hpar
      have q6 : d.parameters.length + (if w5.2.2.1 = 1 then 1 else 0) ≤ pz_ml a := q6
      rcases hins with ⟨-, rfl, -, hc⟩ | ⟨-, -, rfl⟩ | ⟨-, hk, -, hc⟩
      · have q8 : w5.2.2.1 = 1 := by simpa using q7
        rw [if_pos q8] at q6
        rw [if_neg (by omega)] at hpar
        omega
      · rw [if_pos rfl] at hpar
        omega
      · have q8 : w5.2.2.1 = 1 := by
          rcases hk with rfl | rfl <;> simpa using q7
        rw [if_pos q8] at q6
        rw [if_neg (by omega)] at hpar
        omega
  · cases hrow
section PZX
variable {p : Program} {l : Launch} {e : Env} {R : Room} {s : State} {mI : MethodId} {args : Array Value} {below : List Frame} {meth : Method} {c : Code}
variable {m Z L : Nat} {xs : Nat → Int32} {D : va_G} {dA : Nat → ClassId} {sa ad0 : Nat → Nat} {h0 : pz_H}
set_option maxHeartbeats 8000000 in
theorem pz_ex_W {C : Nat → List pz_V → pz_H → Option pz_O} {J : Nat → pz_L → List pz_V → pz_H → Option pz_O} {nx : Nat} {hF : pz_H} {o : Option pz_V ⊕ Nat} {mc ms : Nat} (hLb : L ≤ 2560) (hCx : pz_Cx p l R s mI args meth c m Z L xs D dA sa ad0)
    (hC : ∀ (a : Nat) (as : List pz_V) (h : pz_H) (o : Option pz_V ⊕ Nat) (h' : pz_H), C a as h = some (o, h') → pz_hk L xs h → (∀ v ∈ as, pz_o h.1.1 v) → pz_hk L xs h' ∧ pz_le h h' ∧ pz_oo h'.1.1 o)
    (hJ : ∀ (pc : Nat) (ls : pz_L) (st : List pz_V) (h : pz_H) (o : Option pz_V ⊕ Nat) (h' : pz_H), J pc ls st h = some (o, h') → pz_hk L xs h → (∀ u, some u ∈ ls → pz_o h.1.1 u) → (∀ v ∈ st, pz_o h.1.1 v) → pz_hk L xs h' ∧ pz_le h h' ∧ pz_oo h'.1.1 o)
    (hM : ∀ (a : Nat) (ad : Nat → Nat) (as : List pz_V) (h : pz_H) (o : Option pz_V ⊕ Nat) (h' : pz_H), C a as h = some (o, h') → pz_hk L xs h → (∀ v ∈ as, pz_o h.1.1 v) → (∀ v ∈ as, pz_cat v = 1) → as.length ≤ pz_ml a → pz_cb a → pz_Me l Z L xs D dA sa a ad as h o h')
    (hN : ∀ a ∈ pz_nt, ∀ (as : List pz_V) (h : pz_H) (E : Nat) (h' : pz_H), C a as h ≠ some (.inr E, h'))
    (hmc : mc + h0.2.2.2.1 = hF.2.2.2.1) (hms : ms + h0.2.2.2.2 = hF.2.2.2.2) (hRc : mc ≤ R.cells) (hRs : ms ≤ R.slots)
    (hW : ∀ (pc : Nat) (ls : pz_L) (st : List pz_V) (h : pz_H) (ad : Nat → Nat) (mls : Array Slot) (H : Heap) (locs : List Loc) (cells slots : Nat), J pc ls st h = some (o, hF) → pz_Pt s m Z L xs D dA ad0 ad h0 h ls mls H locs cells slots → (∀ v ∈ st, pz_o h.1.1 v) →
      W p l e R s mI args below meth c H locs cells slots (vx_MQ below (pz_Qc Z D dA ad0 h0 o hF) (pz_XC Z D dA ad0 h0 o hF) args s mc ms (fun q => Z ≤ q)) (F0 mI pc mls (st.map (pz_e ad)))) :
    ∀ (ops : List pz_Op) (pc : Nat) (ls : pz_L) (st : List pz_V) (h : pz_H) (ad : Nat → Nat) (mls : Array Slot) (H : Heap) (locs : List Loc) (cells slots : Nat), pz_ck m nx ops pc = true → pz_hkl m ops pc = true → pz_ex C J (pz_hc m) nx ops ls st h = some (o, hF) → pz_Pt s m Z L xs D dA ad0 ad h0 h ls mls H locs cells slots → (∀ v ∈ st, pz_o h.1.1 v) →
      W p l e R s mI args below meth c H locs cells slots (vx_MQ below (pz_Qc Z D dA ad0 h0 o hF) (pz_XC Z D dA ad0 h0 o hF) args s mc ms (fun q => Z ≤ q)) (F0 mI pc mls (st.map (pz_e ad))) := by
  have hCx0 := hCx
  obtain ⟨hx, hbc, hml, hts, hown, hname, hret, hlk, hRf, hRl, htr, htab, hE, hSt⟩ := hCx
  have hA : ∀ q, s.heap.size ≤ q → Z ≤ q := fun q hq => Nat.le_trans hSt.1 hq
  intro ops
  induction ops with
  | nil =>
    intro pc ls st h ad mls H locs cells slots hck _ he hT ho
    have hpc : pc = nx := by simpa [pz_ck] using hck
    subst hpc
    exact hW _ _ _ _ _ _ _ _ _ _ he hT ho
  | cons op ops ih =>
    intro pc ls st h ad mls H locs cells slots hck hkl he hT ho
    obtain ⟨g, ins, len, a, b, c', e'⟩ := op
    simp only [pz_ck, Bool.and_eq_true, decide_eq_true_eq] at hck
    obtain ⟨hd, hck1, hck2⟩ := hck
    simp only [pz_hkl, Bool.and_eq_true] at hkl
    obtain ⟨hkl1, hkl2⟩ := hkl
    have hT0 := hT
    obtain ⟨hlv, hP, hD, hS, had, hn0, hcs, hss, hk, hlo⟩ := hT
    have had1 : ad 1 = ad0 1 := had 1 (by omega)
    have hdb : decode (pz_bs m) pc = .ok (ins, len) := hd
    have hX1 : va_X (ad 1) L xs s s.heap := by rw [had1]; exact hSt.2.1
    have hbl : ad 1 < s.heap.size := by rw [had1]; exact Nat.lt_of_lt_of_le hSt.2.2.1 hSt.1
    have hbA : ¬ Z ≤ ad 1 := by rw [had1]; exact Nat.not_le.mpr hSt.2.2.1
    have hsz : mls.size = c.maxLocals := hlv.2.1.trans hml.symm
    simp only [pz_ex] at he
    split at he
    · -- 0
      split at he
      · rename_i st' hst
        have hl : len = pz_len ins := by simpa [pz_ck1] using hck1
        subst hl
        exact pz_W0 hx hbc hst ho hd (ih _ _ _ _ _ _ _ _ _ _ (by simpa using hck2) hkl2 he hT0 (pz_pure_ok hst ho))
      · cases he
    · -- 1
      split at he
      · rename_i ls' st' hst
        have hl : len = pz_len ins := by simpa [pz_ck1] using hck1
        subst hl
        obtain ⟨k1, k2, -⟩ := pz_loc_ok hst hlo ho
        exact pz_W1 hx hbc hst hd hlv (fun mls' hlv' => ih _ _ _ _ _ _ _ _ _ _ (by simpa using hck2) hkl2 he ⟨hlv', hP, hD, hS, had, hn0, hcs, hss, hk, k1⟩ k2)
      · cases he
    · -- 2
      split at he
      · rename_i st' h1 hst
        obtain ⟨k1, k2, k3⟩ := pz_mem_ok hLb hst hck1 hk ho
        have hck2' : pz_ck m nx ops (pc + len) = true := by simpa using hck2
        obtain ⟨-, j2, -⟩ := pz_ex_ok hLb (pz_hc9 m) hC hJ ops _ _ _ _ _ _ hck2' he k1 (fun u hu => (hlo u hu).mono k2.1) k3
        have j3 := j2.2.1
        have j4 := j2.2.2
        exact pz_W2 hx hbc hts hown hname hE.1 hP hD hS hA hX1 hbl hbA hE.2.1 hk ho hst hck1 hd hcs hss (by omega) (by omega)
          (fun ad' H1 locs1 cells1 slots1 ha g1 g2 g3 g4 g5 => ih _ _ _ _ _ _ _ _ _ _ hck2' hkl2 he
            ⟨pz_lv_same hlv ha hlo, g1, g2, g3, fun r hr => (ha r (by omega)).trans (had r hr), Nat.le_trans hn0 k2.1, g4, g5, k1, fun u hu => (hlo u hu).mono k2.1⟩ k3)
      · cases he
    · -- 3
      have ho' : ∀ v ∈ (.inl (a : Int) :: st : List pz_V), pz_o h.1.1 v := by
        simp only [List.mem_cons, forall_eq_or_imp]
        refine ⟨?_, ho⟩
        simp only [pz_ck1, Bool.and_eq_true, decide_eq_true_eq] at hck1
        have := hck1.2.1
        exact ⟨by omega, by omega⟩
      exact pz_W3 hx hbc hts hown hck1 hd (ih _ _ _ _ _ _ _ _ _ _ (by simpa using hck2) hkl2 he hT0 ho')
    · -- 4
      obtain ⟨hcond, he⟩ := pz_ite he
      · obtain ⟨hb, hst4, hcat, hrc⟩ := hcond
        have hcat1 : ∀ v ∈ (st.take b).reverse, pz_cat v = 1 := fun v hv => eq_of_beq (List.all_eq_true.mp hcat v (List.mem_reverse.mp hv))
        have hml9 : (st.take b).reverse.length ≤ pz_ml a := by
          have h9 := pz_call_ml hck1
          simp only [List.length_reverse, List.length_take]
          omega
        have hdd : ∀ v ∈ st.drop b, pz_o h.1.1 v := fun v hv => ho v (List.mem_of_mem_drop hv)
        have ha : ∀ v ∈ (st.take b).reverse, pz_o h.1.1 v := fun v hv => ho v (List.mem_of_mem_take (List.mem_reverse.mp hv))
        have hlen3 : len = 3 := (pz_ck_call hck1).1
        have hcall : pz_cb a := by
          obtain ⟨-, i, k, w, hcl, -⟩ := pz_ck_call hck1
          exact pz_cr_cb (pz_cr_ok hcl)
        subst hlen3
        have hck2' : pz_ck m nx ops (pc + 3) = true := by simpa using hck2
        split at he
        · rename_i h1 hc1
          obtain ⟨k1, k2, k3⟩ := hC _ _ _ _ _ hc1 hk ha
          obtain ⟨-, j2, -⟩ := pz_ex_ok hLb (pz_hc9 m) hC hJ ops _ _ _ _ _ _ hck2' he k1 (fun u hu => (hlo u hu).mono k2.1) (fun v hv => (hdd v hv).mono k2.1)
          obtain ⟨-, j3, j4⟩ := j2
          have k2' := k2
          obtain ⟨-, j5, j6⟩ := k2'
          obtain ⟨av, hr⟩ := pz_call_run (e := e) (below := below) hCx0 hT0 hck1 hdb hb hst4 hrc (hM a ad _ h _ h1 hc1 hk ha hcat1 hml9 hcall) (fun x _ _ E q9 => by cases q9) ⟨by omega, by omega⟩
          refine pz_call_go hT0 k2 k1 hdd rfl rfl hr ?_ ?_
          · intro v ad' H1 locs1 hv hPt
            cases hv
            exact ih _ _ _ _ _ _ _ _ _ _ hck2' hkl2 he hPt (fun v hv => (hdd v hv).mono k2.1)
          · intro k E q ce ad' H1 locs1 q9
            cases q9
        · rename_i v1 h1 hc1
          obtain ⟨k1, k2, k3⟩ := hC _ _ _ _ _ hc1 hk ha
          have ho1 : ∀ v ∈ v1 :: st.drop b, pz_o h1.1.1 v := by
            simp only [List.mem_cons, forall_eq_or_imp]
            exact ⟨k3, fun v hv => (hdd v hv).mono k2.1⟩
          obtain ⟨-, j2, -⟩ := pz_ex_ok hLb (pz_hc9 m) hC hJ ops _ _ _ _ _ _ hck2' he k1 (fun u hu => (hlo u hu).mono k2.1) ho1
          obtain ⟨-, j3, j4⟩ := j2
          have k2' := k2
          obtain ⟨-, j5, j6⟩ := k2'
          obtain ⟨av, hr⟩ := pz_call_run (e := e) (below := below) hCx0 hT0 hck1 hdb hb hst4 hrc (hM a ad _ h _ h1 hc1 hk ha hcat1 hml9 hcall) (fun x _ _ E q9 => by cases q9) ⟨by omega, by omega⟩
          refine pz_call_go hT0 k2 k1 hdd rfl rfl hr ?_ ?_
          · intro v ad' H1 locs1 hv hPt
            cases hv
            exact ih _ _ _ _ _ _ _ _ _ _ hck2' hkl2 he hPt ho1
          · intro k E q ce ad' H1 locs1 q9
            cases q9
        · rename_i E1 h1 hc1
          obtain ⟨k1, k2, k3⟩ := hC _ _ _ _ _ hc1 hk ha
          have hho : h1 = hF ∧ pz_tr m E1 = o := by
            unfold pz_tr
            split at he
            · rename_i j hj
              rw [hj]
              cases he
              exact ⟨rfl, rfl⟩
            · rename_i hj
              rw [hj]
              cases he
              exact ⟨rfl, rfl⟩
          obtain ⟨rfl, rfl⟩ := hho
          have k2' := k2
          obtain ⟨-, j5, j6⟩ := k2'
          have hrun := pz_call_run (e := e) (below := below) hCx0 hT0 hck1 hdb hb hst4 hrc (hM a ad _ h _ h1 hc1 hk ha hcat1 hml9 hcall) (fun x hx9 hk9 E q9 => hN a (pz_nt_of hck1 hx9 hk9) _ _ _ _ hc1) ⟨by omega, by omega⟩
          obtain ⟨av, hr⟩ := hrun
          refine pz_call_go hT0 k2 k1 hdd rfl rfl hr ?_ ?_
          · intro v ad' H1 locs1 hv hPt
            cases hv
          · intro k E q ce ad' H1 locs1 hk9 hX hce hcv hcl hPt
            cases hk9
            have e1 : mc = cells + (h1.2.2.2.1 - h.2.2.2.1) := by omega
            have e2 : ms = slots + (h1.2.2.2.2 - h.2.2.2.2) := by omega
            rw [e1, e2]
            have hE6 : E1 < 6 := by rw [← pz_xn_len]; exact (List.getElem?_eq_some_iff.mp hX).1
            have hs9 : pz_hs1 m pc E1 = true := by
              rw [if_pos rfl] at hkl1
              exact List.all_eq_true.mp hkl1 E1 (List.mem_range.mpr hE6)
            exact pz_Wcatch hCx0 hPt hX hce hcv hcl hs9
        · cases he
    · -- 5
      split at he
      · rename_i st' h1 hst
        obtain ⟨k1, k2, k3⟩ := pz_cpy_ok hst hk ho
        have hq : h1.1.1 = h.1.1 ∧ h1.2.2.2 = h.2.2.2 := by
          unfold pz_cpy at hst
          split at hst
          · split at hst
            · cases hst; exact ⟨rfl, rfl⟩
            · cases hst
          · cases hst
        exact pz_W5 hx hbc hts hown hE.1 hP hD hS hsz.symm hRf hRl hk ho hst hck1 hd
          (fun H1 locs1 g1 g2 g3 => ih _ _ _ _ _ _ _ _ _ _ (by simpa using hck2) hkl2 he
            ⟨hlv, g1, g2, g3, had, by rw [hq.1]; exact hn0, by rw [hq.2]; exact hcs, by rw [hq.2]; exact hss, k1, fun u hu => (hlo u hu).mono k2.1⟩ k3)
      · cases he
    · -- 6
      split at he
      · split at he
        · rename_i hr
          have ho1 := fun v hv => ho v (List.mem_cons_of_mem _ hv)
          exact pz_W6 hx hbc hts hown hsz hRf hRl hr.1 hr.2 hck1 hd (ih _ _ _ _ _ _ _ _ _ _ (by simpa using hck2) hkl2 he hT0 ho1)
        · cases he
      · cases he
    · -- 7
      split at he
      · rename_i hst
        cases he
        have e1 : mc = cells + 1 := by
          have h9 : mc + h0.2.2.2.1 = h.2.2.2.1 + 1 := hmc
          omega
        have e2 : ms = slots + 6 := by
          have h9 : ms + h0.2.2.2.2 = h.2.2.2.2 + 6 := hms
          omega
        subst e1
        subst e2
        exact pz_W7 hCx0 hT0 hck1 hdb hst hRc hRs
      · cases he
    · -- 8
      exact pz_W8 hx hbc hck1 hd (hW _ _ _ _ _ _ _ _ _ _ he hT0 ho)
    · -- 9
      simp only [pz_ck1, Bool.and_eq_true, beq_iff_eq] at hck1
      obtain ⟨rfl, hck1⟩ := hck1
      have hck2' : pz_ck m nx ops (pc + 3) = true := by simpa using hck2
      split at he
      · rename_i cd off x st'
        have ho1 : ∀ v ∈ st', pz_o h.1.1 v := fun v hv => ho v (List.mem_cons_of_mem _ hv)
        have hi : pz_i x := ho (.inl x) List.mem_cons_self
        refine pz_Wif hx hbc hi hd (of_decide_eq_true hck1) (fun hc => ?_) (fun hc => ?_)
        · rw [if_pos hc] at he
          exact hW _ _ _ _ _ _ _ _ _ _ he hT0 ho1
        · rw [if_neg hc] at he
          exact ih _ _ _ _ _ _ _ _ _ _ hck2' hkl2 he hT0 ho1
      · rename_i cd off y x st'
        have ho1 : ∀ v ∈ st', pz_o h.1.1 v := fun v hv => ho v (List.mem_cons_of_mem _ (List.mem_cons_of_mem _ hv))
        have hy : pz_i y := ho (.inl y) List.mem_cons_self
        have hi : pz_i x := ho (.inl x) (List.mem_cons_of_mem _ List.mem_cons_self)
        refine pz_Wicmp hx hbc hi hy hd (of_decide_eq_true hck1) (fun hc => ?_) (fun hc => ?_)
        · rw [if_pos hc] at he
          exact hW _ _ _ _ _ _ _ _ _ _ he hT0 ho1
        · rw [if_neg hc] at he
          exact ih _ _ _ _ _ _ _ _ _ _ hck2' hkl2 he hT0 ho1
      · rename_i off r st'
        have ho1 : ∀ v ∈ st', pz_o h.1.1 v := fun v hv => ho v (List.mem_cons_of_mem _ hv)
        refine pz_Wnull hx hbc hd (of_decide_eq_true hck1) (fun hc => ?_) (fun hc => ?_)
        · rw [if_pos hc] at he
          exact hW _ _ _ _ _ _ _ _ _ _ he hT0 ho1
        · rw [if_neg hc] at he
          exact ih _ _ _ _ _ _ _ _ _ _ hck2' hkl2 he hT0 ho1
      · cases he
    · -- 10
      split at he
      · rename_i v
        split at he
        · rename_i hrok
          cases he
          have e1 : mc = cells := by omega
          have e2 : ms = slots := by omega
          subst e1
          subst e2
          exact pz_W10 hCx0 hT0 hck1 hdb hrok
        · cases he
      · cases he
    · -- 11
      split at he
      · cases he
        have e1 : mc = cells := by omega
        have e2 : ms = slots := by omega
        subst e1
        subst e2
        exact pz_W11 hCx0 hT0 hck1 hdb
      · cases he
    · -- 12
      split at he
      · rename_i d lo hi offs x st'
        have ho1 : ∀ v ∈ st', pz_o h.1.1 v := fun v hv => ho v (List.mem_cons_of_mem _ hv)
        have hxi : pz_i x := ho (.inl x) List.mem_cons_self
        refine pz_W12 hx hbc hxi hck1 hd (fun hc => ?_) (fun o9 hc h9 => ?_) (fun hc => ?_)
        · rw [if_pos hc] at he
          exact hW _ _ _ _ _ _ _ _ _ _ he hT0 ho1
        · rw [if_neg hc, h9] at he
          exact hW _ _ _ _ _ _ _ _ _ _ he hT0 ho1
        · rw [if_neg hc] at he
          split at he
          · rename_i o9 h9
            exact ⟨o9, h9⟩
          · cases he
      · cases he
    · cases he
end PZX
/-- walks of runs of n steps at most -/
def pz_Tw (l : Launch) (Z L : Nat) (xs : Nat → Int32) (D : va_G) (dA : Nat → ClassId) (sa : Nat → Nat) (n : Nat) : Prop :=
  ∀ (p : Program) (e : Env) (R : Room) (s : State) (mI : MethodId) (args : Array Value) (below : List Frame) (meth : Method) (c : Code) (m : Nat) (ad0 : Nat → Nat) (h0 hF : pz_H) (o : Option pz_V ⊕ Nat) (mc ms : Nat), pz_Cx p l R s mI args meth c m Z L xs D dA sa ad0 →
    mc + h0.2.2.2.1 = hF.2.2.2.1 → ms + h0.2.2.2.2 = hF.2.2.2.2 → mc ≤ R.cells → ms ≤ R.slots →
    ∀ (pc : Nat) (ls : pz_L) (st : List pz_V) (h : pz_H) (ad : Nat → Nat) (mls : Array Slot) (H : Heap) (locs : List Loc) (cells slots : Nat), pz_run n m pc ls st h = some (o, hF) → pz_Pt s m Z L xs D dA ad0 ad h0 h ls mls H locs cells slots → (∀ v ∈ st, pz_o h.1.1 v) →
      W p l e R s mI args below meth c H locs cells slots (vx_MQ below (pz_Qc Z D dA ad0 h0 o hF) (pz_XC Z D dA ad0 h0 o hF) args s mc ms (fun q => Z ≤ q)) (F0 mI pc mls (st.map (pz_e ad)))
def pz_Tc (l : Launch) (Z L : Nat) (xs : Nat → Int32) (D : va_G) (dA : Nat → ClassId) (sa : Nat → Nat) (n : Nat) : Prop :=
  ∀ (a : Nat) (ad : Nat → Nat) (as : List pz_V) (h : pz_H) (o : Option pz_V ⊕ Nat) (h' : pz_H), pz_run n a 0 (pz_en a as) [] h = some (o, h') → pz_hk L xs h → (∀ v ∈ as, pz_o h.1.1 v) → (∀ v ∈ as, pz_cat v = 1) → as.length ≤ pz_ml a → pz_cb a → pz_Me l Z L xs D dA sa a ad as h o h'
section PZY
variable {l : Launch} {Z L : Nat} {xs : Nat → Int32} {D : va_G} {dA : Nat → ClassId} {sa : Nat → Nat}
theorem pz_Tw_succ (hLb : L ≤ 2560) {n : Nat} (hw : pz_Tw l Z L xs D dA sa n) (hc : pz_Tc l Z L xs D dA sa n) : pz_Tw l Z L xs D dA sa (n + 1) := by
  intro p e R s mI args below meth c m ad0 h0 hF o mc ms hCx hmc hms hRc hRs pc ls st h ad mls H locs cells slots he hT ho
  unfold pz_run at he
  rcases pz_blk_in m pc with hb | hb
  · exact pz_ex_W hLb hCx (fun a as h o h' he q ha => pz_run_ok hLb n a 0 (pz_en a as) [] h o h' he q (fun u hu => ha u (pz_en_in hu)) (fun v hv => by cases hv)) (fun pc ls st h o h' he q hl ho => pz_run_ok hLb n m pc ls st h o h' he q hl ho)
      (fun a ad as h o h' he q ha h1 h2 hcb => hc a ad as h o h' he q ha h1 h2 hcb) (fun a ha as h E h' => pz_run_nt n a ha 0 (pz_en a as) [] h E h') hmc hms hRc hRs
      (fun pc ls st h ad mls H locs cells slots he hT ho => hw p e R s mI args below meth c m ad0 h0 hF o mc ms hCx hmc hms hRc hRs pc ls st h ad mls H locs cells slots he hT ho)
      _ pc ls st h ad mls H locs cells slots (pz_ck_blk hb) (pz_hkl_blk hb) he hT ho
  · rw [hb] at he
    simp only [pz_ex] at he
    cases he
theorem pz_en_len {m : Nat} {as : List pz_V} (h : as.length ≤ pz_ml m) : (pz_en m as).length = pz_ml m := by
  unfold pz_en
  simp
  omega
theorem pz_en_at {m : Nat} {as : List pz_V} {k : Nat} {v : pz_V} (h : (pz_en m as)[k]? = some (some v)) : as[k]? = some v := by
  unfold pz_en at h
  rcases Nat.lt_or_ge k as.length with hk | hk
  · rw [List.getElem?_append_left (by simpa using hk), List.getElem?_map] at h
    cases h9 : as[k]? with
    | none => rw [h9] at h; cases h
    | some w => rw [h9] at h; cases h; rfl
  · rw [List.getElem?_append_right (by simpa using hk)] at h
    have := List.eq_of_mem_replicate (List.mem_of_getElem? h)
    cases this
theorem pz_lv_en {ad : Nat → Nat} {a : Nat} {as : List pz_V} (hl : as.length ≤ pz_ml a) (h1 : ∀ v ∈ as, pz_cat v = 1) :
    pz_lv ad (pz_ml a) (pz_en a as) (((as.map (pz_e ad)).map Slot.val ++ List.replicate (pz_ml a - (as.map (pz_e ad)).length) Slot.unset).toArray) := by
  have hA : ∀ (i : Nat) (x : Slot), (((as.map (pz_e ad)).map Slot.val ++ List.replicate (pz_ml a - (as.map (pz_e ad)).length) Slot.unset).toArray)[i]? = some x → x = .unset ∨ ∃ v, as[i]? = some v ∧ x = .val (pz_e ad v) := by
    intro i x hx
    rw [List.getElem?_toArray] at hx
    rcases Nat.lt_or_ge i as.length with hi | hi
    · rw [List.getElem?_append_left (by simpa using hi), List.getElem?_map, List.getElem?_map, List.getElem?_eq_getElem hi] at hx
      cases hx
      exact Or.inr ⟨as[i], List.getElem?_eq_getElem hi, rfl⟩
    · rw [List.getElem?_append_right (by simpa using hi)] at hx
      exact Or.inl (List.eq_of_mem_replicate (List.mem_of_getElem? hx))
  refine ⟨⟨fun i v hv hc => ?_, fun i hi => ?_⟩, ?_, pz_en_len hl, fun k v hk => ?_⟩
  · rcases hA i _ hv with h | ⟨w, h2, h3⟩
    · cases h
    · cases h3
      rw [pz_e_cat, h1 w (List.mem_of_getElem? h2)] at hc
      omega
  · rcases hA i _ hi with h | ⟨w, h2, h3⟩
    · cases h
    · cases h3
  · simp
    omega
  · have h2 := pz_en_at hk
    have h3 := (List.getElem?_eq_some_iff.mp h2).1
    rw [List.getElem?_toArray, List.getElem?_append_left (by simpa using h3), List.getElem?_map, List.getElem?_map, h2]
    rfl
theorem pz_body {p : Program} {e : Env} {R : Room} {s : State} {mI : MethodId} {args : Array Value} {below : List Frame} {meth : Method} {c : Code} {n a : Nat} {ad : Nat → Nat} {as : List pz_V} {h h' : pz_H} {o : Option pz_V ⊕ Nat} (hw : pz_Tw l Z L xs D dA sa n)
    (he : pz_run n a 0 (pz_en a as) [] h = some (o, h')) (hle : pz_le h h') (q : pz_hk L xs h) (ha : ∀ v ∈ as, pz_o h.1.1 v) (hcat : ∀ v ∈ as, pz_cat v = 1) (hlen : as.length ≤ pz_ml a)
    (hCx : pz_Cx p l R s mI args meth c a Z L xs D dA sa ad) (hP : pz_Pc Z L xs D dA sa ad as h args s) (hRc : h'.2.2.2.1 - h.2.2.2.1 ≤ R.cells) (hRs : h'.2.2.2.2 - h.2.2.2.2 ≤ R.slots) :
    W p l e R s mI args below meth c s.heap [] 0 0 (vx_MQ below (pz_Qc Z D dA ad h o h') (pz_XC Z D dA ad h o h') args s (h'.2.2.2.1 - h.2.2.2.1) (h'.2.2.2.2 - h.2.2.2.2) (fun q => Z ≤ q)) (entryFrame mI args (pz_ml a)) := by
  obtain ⟨rfl, -, -, hPw, hDw⟩ := hP
  obtain ⟨l1, l2, l3⟩ := hle
  have hc1 : ∀ v ∈ as.map (pz_e ad), v.category = 1 := by
    intro v hv
    obtain ⟨w, h1, rfl⟩ := List.mem_map.mp hv
    rw [pz_e_cat]
    exact hcat w h1
  rw [entry_eq mI (as.map (pz_e ad)) hc1]
  exact hw p e _ s mI _ below meth c a ad h h' o _ _ hCx (by omega) (by omega) hRc hRs 0 (pz_en a as) [] h ad _ s.heap [] 0 0 he
    ⟨pz_lv_en hlen hcat, hPw, hDw, va_S.rf, fun _ _ => rfl, Nat.le_refl _, Nat.zero_add _, Nat.zero_add _, q, fun u hu => ha u (pz_en_in hu)⟩ (fun v hv => by cases hv)
theorem pz_Tc_of (hLb : L ≤ 2560) (htr : l.stackTraces = false) {n : Nat} (hw : pz_Tw l Z L xs D dA sa n) : pz_Tc l Z L xs D dA sa n := by
  intro a ad as h o h' he q ha hcat hlen hcb
  have hle := (pz_run_ok hLb n a 0 _ _ _ _ _ he q (fun u hu => ha u (pz_en_in hu)) (fun v hv => by cases hv)).2.1
  unfold pz_Me
  by_cases hemp : (pz_hh a).isEmpty = true
  · have hh0 : pz_hh a = [] := List.isEmpty_iff.mp hemp
    refine vx_ofW (cc := pz_bs a) (maxL := pz_ml a) (ret := pz_rt a) (ws' := pz_gd) hcb.2.2.2.2 (by unfold pz_hd; rw [if_pos hemp]) ?_
    intro p e s m args below meth c s₁ B hml ht hP
    have hws := atoms_spec (ws := pz_hd a :: pz_gd) B.pre
    have htab : c.exceptionTable.toList = tableOf (pz_hh a) := by
      rw [hh0]
      exact List.eq_nil_iff_forall_not_mem.mpr (fun x hx => ht x hx)
    exact pz_body hw he hle q ha hcat hlen ⟨B.exec, B.bytes, hml, fun w hw9 => hws w (List.mem_cons_of_mem _ hw9), findClass_of_methodNamed B.named, fun h9 => (name_of_methodNamed B.named B.method).1.trans h9, B.returns, B.notSynchronized, Nat.le_refl _, Nat.le_refl _, htr, htab, hP.2.1, hP.2.2.1⟩ hP (Nat.le_refl _) (Nat.le_refl _)
  · refine vx_ofWH (cc := pz_bs a) (maxL := pz_ml a) (ret := pz_rt a) (hh := pz_hh a) (ws' := pz_gd) hcb.2.2.2.2 (by unfold pz_hd; rw [if_neg hemp]) ?_
    intro p e s m args below meth c s₁ B hml hP
    have hws := atoms_spec (ws := pz_hd a :: pz_gd) B.pre
    have hw0 := hws _ List.mem_cons_self
    unfold pz_hd at hw0
    rw [if_neg hemp] at hw0
    have htab : c.exceptionTable.toList = tableOf (pz_hh a) := vx_table (x := pz_yy a) B hw0
    exact pz_body hw he hle q ha hcat hlen ⟨B.exec, B.bytes, hml, fun w hw9 => hws w (List.mem_cons_of_mem _ hw9), findClass_of_methodNamed B.named, fun h9 => (name_of_methodNamed B.named B.method).1.trans h9, B.returns, B.notSynchronized, Nat.le_refl _, Nat.le_refl _, htr, htab, hP.2.1, hP.2.2.1⟩ hP (Nat.le_refl _) (Nat.le_refl _)
/-- EVERY RUN OF THE EVALUATOR IS FOLLOWED BY THE MACHINE -/
theorem pz_all (hLb : L ≤ 2560) (htr : l.stackTraces = false) : ∀ n, pz_Tw l Z L xs D dA sa n
  | 0 => by
    intro p e R s mI args below meth c m ad0 h0 hF o mc ms _ _ _ _ _ pc ls st h ad mls H locs cells slots he
    cases he
  | n + 1 => pz_Tw_succ hLb (pz_all hLb htr n) (pz_Tc_of hLb htr (pz_all hLb htr n))
end PZY
/-! from a run of the evaluator to the claim -/
def pz_ck12 : Bool := (List.range 12).all (fun ci => match pz_cls[ci]?, pz_iw[ci]? with
  | some q, some w => decide (lw_tbl[w.1]? = some (.instantiable q.1 q.2.2))
  | _, _ => false)
theorem pz_ck12_ok : pz_ck12 = true := by decide +kernel
theorem pz_inst {ci : Nat} {q : vw_C} (h : pz_cls[ci]? = some q) : Cond.instantiable q.1 q.2.2 ∈ lw_tbl := by
  have h1 := List.all_eq_true.mp pz_ck12_ok ci (List.mem_range.mpr (pz_cls_lt h))
  rw [h] at h1
  split at h1
  · rename_i q1 w e1 e2
    cases e1
    exact List.mem_of_getElem? (of_decide_eq_true h1)
  · cases h1
def pz_strk : Bool := pz_tl.all (fun x => decide (Cond.stringRef x.1 x.2.2.1 x.2.2.2.2.2.2 ∈ lw_tbl))
theorem pz_strk_ok : pz_strk = true := by decide +kernel
def pz_nck : Bool := pz_xn.all (fun x => pz_xn.all (fun y => decide (x = y) || decide (Cond.not (.castable x y) ∈ flatC (Jvm.Cond.and given_1 narrow_1))))
theorem pz_nck_ok : pz_nck = true := by decide +kernel
theorem pz_xn_ne : ∀ (a b : Nat) (x : String), pz_xn[a]? = some x → pz_xn[b]? = some x → a = b := by
  intro a b x ha hb
  have h1 : ((List.range 6).all (fun a => (List.range 6).all (fun b => a == b || decide (pz_xn[a]? ≠ pz_xn[b]?)))) = true := by decide +kernel
  have la : a < 6 := by rw [← pz_xn_len]; exact (List.getElem?_eq_some_iff.mp ha).1
  have lb : b < 6 := by rw [← pz_xn_len]; exact (List.getElem?_eq_some_iff.mp hb).1
  have h2 := List.all_eq_true.mp (List.all_eq_true.mp h1 a (List.mem_range.mpr la)) b (List.mem_range.mpr lb)
  simp only [Bool.or_eq_true, beq_iff_eq, decide_eq_true_eq] at h2
  rcases h2 with h2 | h2
  · exact h2
  · exact absurd (ha.trans hb.symm) h2
theorem pz_thr : Cond.laysStatic Bundle.tN "UNASSIGNED_STACK" Bundle.steD ∈ lw_tbl ∧ Cond.laysStatic Bundle.tN "SUPPRESSED_SENTINEL" Bundle.listD ∈ lw_tbl ∧ Cond.initialized Bundle.tN ∈ lw_tbl ∧ Cond.arrayOver (.object "Simplespan$Plan") ∈ lw_tbl := by
  refine ⟨?_, ?_, ?_, ?_⟩ <;> decide +kernel
theorem pz_isr : Cond.isRef (.static Bundle.tN "UNASSIGNED_STACK" Bundle.steD) ∈ flatC (Jvm.Cond.and given_1 narrow_1) ∧ Cond.isRef (.static Bundle.tN "SUPPRESSED_SENTINEL" Bundle.listD) ∈ flatC (Jvm.Cond.and given_1 narrow_1) := by
  refine ⟨?_, ?_⟩ <;> decide +kernel
section PZS
variable {s : State} {args : Array Value}
theorem pz_arr {ty : FieldType} (h : (Cond.arrayClass ty).before args s = true) (hk : ∀ k : String, ty ≠ .object k := by intro k q; cases q) : ∃ cA, ArrOfT s cA ty ∧ s.vm.findClass ("[" ++ ty.toString) = some cA := by
  obtain ⟨c, k, comp, h1, h2, h3⟩ := Cond.arrayClass_spec h
  exact ⟨c, fun n z => ⟨(fun k h => by cases h), k, h2, comp, h3⟩, h1⟩
theorem pz_En_at (hts : ∀ w ∈ lw_tbl, w.before args s = true) (hgv : (Jvm.Cond.and given_1 narrow_1).before args s = true) : ∃ (D : va_G) (dA : Nat → ClassId) (sa : Nat → Nat), pz_En D dA sa s := by
  have hgd : ∀ w ∈ pz_gd, w.before args s = true := fun w hw => hts w (List.mem_filter.mp hw).1
  have hfl := flat_of_before _ hgv
  have hC : ∀ ci : Nat, ∃ (x : ClassId × (Nat → Nat)), ∀ q, pz_cls[ci]? = some q → u_Kn s q.1 q.2.1 q.2.2 x.1 x.2 := by
    intro ci
    cases h : pz_cls[ci]? with
    | none => exact ⟨(0, fun _ => 0), fun q hq => by cases hq⟩
    | some q =>
      obtain ⟨cC, iS, hk⟩ := u_known (C := q.1) (T := q.2.1) (N := q.2.2) hgd (pz_in h) (hts _ (pz_inst h))
      exact ⟨(cC, iS), fun q' hq => by cases hq; exact hk⟩
  obtain ⟨c20, a20, b20⟩ := pz_arr (hgd _ pz_ac.1)
  obtain ⟨c21, a21, b21⟩ := pz_arr (hgd _ pz_ac.2.1)
  obtain ⟨c22, a22, b22⟩ := pz_arr (hgd _ pz_ac.2.2.1)
  obtain ⟨c24, a24, b24⟩ := pz_arr (hgd _ pz_ac.2.2.2.1)
  obtain ⟨c25, a25, b25⟩ := pz_arr (hgd _ pz_ac.2.2.2.2)
  have hao := hts _ pz_thr.2.2.2
  obtain ⟨comp, c23, k23, f1, -, f2, f3, f4⟩ := Cond.arrayOver_spec hao
  have hsa : ∀ k : Nat, ∃ a : Nat, ∀ (o : String) (ik is ic E wd : Nat) (tx : String), pz_tl[k]? = some (o, ik, is, ic, E, wd, tx) → vk_R o is tx a s := by
    intro k
    cases h : pz_tl[k]? with
    | none => exact ⟨0, fun o ik is ic E wd tx hq => by cases hq⟩
    | some q =>
      obtain ⟨o, ik, is, ic, E, wd, tx⟩ := q
      have h1 := of_decide_eq_true (List.all_eq_true.mp pz_strk_ok _ (List.mem_of_getElem? h))
      have h2 := hts _ h1
      have ho := (pz_tl_at h).1
      have hcl : ∃ m9, s.vm.findClass o = some m9 := by
        obtain ⟨x, hx⟩ := hC 10
        subst ho
        exact ⟨x.1, (hx _ rfl).2.1⟩
      obtain ⟨m9, hm9⟩ := hcl
      obtain ⟨-, -, -, a, -, -, -, -, -, hev⟩ := Cond.stringRef_spec hm9 h2
      exact ⟨a, fun o' ik' is' ic' E' wd' tx' hq => by cases hq; exact vk_R.of h2 hev⟩
  refine ⟨(fun c => (Classical.choose (hC c)).1, fun c => (Classical.choose (hC c)).2), fun k => if k = 20 then c20 else if k = 21 then c21 else if k = 22 then c22 else if k = 23 then c23 else if k = 24 then c24 else c25, fun k => Classical.choose (hsa k), ⟨fun c q hq => Classical.choose_spec (hC c) q hq, fun k q hq => ?_⟩, va_AO.of hao, fun w hw => ?_, fun k o ik is ic E wd tx hk => Classical.choose_spec (hsa k) o ik is ic E wd tx hk, fun a b x y ha hb hne => ?_⟩
  · have hk6 : k < 6 := (List.getElem?_eq_some_iff.mp hq).1
    have h6 : k = 0 ∨ k = 1 ∨ k = 2 ∨ k = 3 ∨ k = 4 ∨ k = 5 := by omega
    rcases h6 with rfl | rfl | rfl | rfl | rfl | rfl <;> cases hq
    · exact ⟨a20, b20⟩
    · exact ⟨a21, b21⟩
    · exact ⟨a22, b22⟩
    · exact ⟨fun N z => ⟨(fun k h => by cases h), k23, f2, comp, f3⟩, k23, comp, f2, f3, f1, f4⟩
    · exact ⟨a24, b24⟩
    · exact ⟨a25, b25⟩
  · obtain ⟨h1, h2⟩ := List.mem_filter.mp hw
    refine va_Nw.of ?_ (hts w h1)
    unfold pz_wn at h2
    split at h2
    · rfl
    · rfl
    · rfl
    · cases h2
  · have h1 := List.all_eq_true.mp pz_nck_ok x (List.mem_of_getElem? ha)
    have h2 := List.all_eq_true.mp h1 y (List.mem_of_getElem? hb)
    simp only [Bool.or_eq_true, decide_eq_true_eq] at h2
    rcases h2 with rfl | h2
    · exact absurd (pz_xn_ne a b x ha hb) hne
    · exact va_Nc.of (hfl _ h2)
end PZS
/-- the heap at the law's entry: the script alone -/
def pz_h0 (L : Nat) (xs : Nat → Int32) : pz_H := ((0, fun _ => 20, fun r => if r = 1 then L else 0, fun _ _ => 0), fun r j => if r = 1 then (xs j).toInt else 0, fun _ _ => 0, 0, 0)
theorem pz_h0_ok {L : Nat} {xs : Nat → Int32} (hL : L ≤ 2560) : pz_hk L xs (pz_h0 L xs) := by
  refine ⟨fun r j => ?_, fun r j => ?_, show (if (1 : Nat) = 1 then L else 0) = L from if_pos rfl, fun j _ => show (if (1 : Nat) = 1 then (xs j).toInt else 0) = (xs j).toInt from if_pos rfl, fun r => ?_⟩
  · show pz_i (if r = 1 then (xs j).toInt else 0)
    split
    · exact pz_i32 _
    · exact ⟨by omega, by omega⟩
  · show 0 < 0 + 2
    omega
  · show (if r = 1 then L else 0) ≤ 65536
    split <;> omega
/-- the class agrees with the reference on every script of at most N ints, in the room of the claim -/
def pz_good (N C S : Nat) : Prop := ∀ (L : Nat) (xs : Nat → Int32), L ≤ N → ∃ (n : Nat) (h : pz_H), pz_run n 344 0 (pz_en 344 [.inr (.inl 1)]) [] (pz_h0 L xs) = some (.inl (some (.inl 1)), h) ∧ h.2.2.2.1 ≤ C ∧ h.2.2.2.2 ≤ S
theorem pz_law : pz_yy 344 = x ∧ pz_bs 344 = code ∧ pz_ml 344 = 9 ∧ pz_rt 344 = ret ∧ pz_hh 344 = [] ∧ pz_fr 344 ≤ room_1.frames ∧ pz_lo 344 ≤ room_1.locals := by
  refine ⟨rfl, rfl, rfl, rfl, rfl, ?_, ?_⟩ <;> decide +kernel
/-! THE CLAIM OUT OF ONE WALK OF THE LAW'S BODY (after the skeleton, with what the entry knows besides) -/
def R_law : String := "SimplespanLaw"
def lw_P (b : Addr) (xs : List Int32) (args : Array Value) (s : State) : Prop := args = #[.ref b] ∧ s.IntsAt b xs ∧ xs.length ≤ 2560 ∧ (Jvm.Cond.and given_1 narrow_1).before args s = true
/-- what a walk over the start with the record d0 says of its end, said of the start itself -/
theorem lw_closed {s t : State} {o : Outcome} {d0 : Drawn} {L : List Loc} {k n : Nat} (hd0 : s.drawn.sameBut d0 lw_cs) (hv : ∃ v, o = .returned v) (hW : (s.setDrawn d0).WarmedH t.vm) (hs : (s.setDrawn d0).sameButNew ({ t with vm := s.vm } : State) L k n) : State.butDraws s t lw_cs (fun t1 => Framed s o t1 L k n) := by
  have h2 : t.drawn = d0 := congrArg State.drawn hs.1
  refine ⟨⟨hv, hW, State.sameButNew.setDrawn hs s.drawn⟩, ?_, by decide⟩
  rw [h2]
  exact hd0
def lw_Q (_ : Array Value) (s : State) (o : Outcome) (t : State) : Prop := o = .returned (some (.int 1)) ∧ State.butDraws s t lw_cs (fun t1 => Framed s o t1 [] 603072 7202922)
def lw_Z (below : List Frame) (a : Array Value) (s : State) : State → Prop := fun t => ∃ o, t.status = .running ∧ Ended t below o ∧ lw_Q a s o t
/-- what holds at the law's entry -/
def lw_At (p : Program) (s : State) (m : MethodId) (meth : Method) (c : Code) (b L : Nat) (xs : Nat → Int32) : Prop :=
  p.tables.exec = Jvm.exec ∧ c.code = code ∧ meth.sig.returnType = ret ∧ c.maxLocals = 9 ∧ s.vm.findClass R_law = some m.cls ∧ (∀ w ∈ lw_tbl, w.before #[Value.ref b] s = true) ∧ va_X b L xs s s.heap ∧ b < s.heap.size ∧ meth.locks = false ∧ (Jvm.Cond.and given_1 narrow_1).before #[Value.ref b] s = true ∧ (∀ z ∈ c.exceptionTable.toList, False)
theorem lw_end {p : Program} {l : Launch} {e : Env} {s : State} {m : MethodId} {below : List Frame} {meth : Method} {c : Code} {a : Array Value} {D : va_G} {dA : Nat → ClassId} {ad : Nat → Nat} {h h' : pz_H} {mc ms Z : Nat} {g : JFrame} (hZ : s.heap.size ≤ Z) (hc : mc ≤ 603072) (hs : ms ≤ 7202922)
    (k : W p l e room_1 s m a below meth c s.heap [] 0 0 (vx_MQ below (pz_Qc Z D dA ad h (.inl (some (.inl 1))) h') (pz_XC Z D dA ad h (.inl (some (.inl 1))) h') a s mc ms (fun q => Z ≤ q)) g) : W p l e room_1 s m a below meth c s.heap [] 0 0 (lw_Z below a s) g := by
  intro T hT X
  obtain ⟨t, a1, o, b1, b2, hq⟩ := k T hT X
  refine ⟨t, a1, o, b1, b2, ?_⟩
  rcases hq with ⟨⟨v, ad', r1, -, r3, -⟩, Ls, hFE, hfree⟩ | ⟨q, -, E, ce, Ls, ⟨k9, ad', hk9, -⟩, -⟩
  · cases r1
    obtain ⟨f1, f2, f3⟩ := hFE
    refine ⟨r3, lw_closed (d0 := s.drawn) (Drawn.sameBut.refl s.drawn lw_cs) ⟨_, r3⟩ f2 ?_⟩
    have f4 : s.sameButNew ({ t with vm := s.vm } : State) ([] ++ Ls) mc ms := f3
    exact (State.sameButNew.drop_fresh f4 (fun z hz => Nat.le_trans hZ (hfree z hz))).mono hc hs
  · cases hk9
theorem whole_start (hgood : pz_good 2560 603072 7202922) {p : Program} {e : Env} {s : State} {m : MethodId} {below : List Frame} {meth : Method} {c : Code} (l : Launch) (hflags : l.flags = flags0) {b L : Nat} {xs : Nat → Int32} (hL : L ≤ 2560) (C0 : lw_At p s m meth c b L xs) : W p l e room_1 s m #[Value.ref b] below meth c s.heap [] 0 0 (lw_Z below #[Value.ref b] s) (entryFrame m ([Value.ref b] : List Value).toArray 9) := by
  obtain ⟨hx, hb, hret, hml, hown, hts, hX, hbl, hlk, hgv, htab⟩ := C0
  obtain ⟨n, h, hrun, hc, hs⟩ := hgood L xs hL
  obtain ⟨D, dA, sa, hE⟩ := pz_En_at hts hgv
  have htr : l.stackTraces = false := by
    unfold Launch.stackTraces
    rw [hflags]
    decide +kernel
  obtain ⟨e1, e2, e3, e4, e5, e6, e7⟩ := pz_law
  have hfl := flat_of_before _ hgv
  have hSt : pz_St s.heap.size L xs b s := ⟨Nat.le_refl _, hX, hbl, vx_Zqof (hts _ pz_thr.1) (hts _ pz_thr.2.2.1) (hfl _ pz_isr.1) (fun a ha => Nat.not_le.mpr ha), vx_Zqof (hts _ pz_thr.2.1) (hts _ pz_thr.2.2.1) (hfl _ pz_isr.2) (fun a ha => Nat.not_le.mpr ha)⟩
  have hq := pz_h0_ok (L := L) (xs := xs) hL
  have hCx : pz_Cx p l room_1 s m #[Value.ref b] meth c 344 s.heap.size L xs D dA sa (fun _ => b) := by
    refine ⟨hx, by rw [hb, e2], by rw [hml, e3], fun w hw => hts w (List.mem_filter.mp hw).1, by rw [e1]; exact hown, ?_, by rw [hret, e4], hlk, e6, e7, htr, ?_, hE, hSt⟩
    · intro h9
      rw [e1] at h9
      exact absurd h9 (by decide +kernel)
    · rw [e5]
      exact List.eq_nil_iff_forall_not_mem.mpr (fun z hz => htab z hz)
  have hlo : ∀ v ∈ ([.inr (.inl 1)] : List pz_V), pz_o (pz_h0 L xs).1.1 v := by
    intro v hv
    rw [List.mem_singleton] at hv
    subst hv
    show 1 < 0 + 2
    omega
  have hle := (pz_run_ok hL n 344 0 _ _ _ _ _ hrun hq (fun u hu => hlo u (pz_en_in hu)) (fun v hv => by cases hv)).2.1
  have hw0 : pz_ws (fun _ => b) dA (pz_h0 L xs) = [] := rfl
  have hP0 : va_P D pz_cls (pz_ws (fun _ => b) dA (pz_h0 L xs)) s.heap := by
    rw [hw0]
    intro k q hq
    cases hq
  have hD0 : va_D (fun q => s.heap.size ≤ q) (pz_ws (fun _ => b) dA (pz_h0 L xs)) := by
    rw [hw0]
    exact ⟨fun i j p q hp => by cases hp, fun k q hq => by cases hq⟩
  have hP : pz_Pc s.heap.size L xs D dA sa (fun _ => b) [.inr (.inl 1)] (pz_h0 L xs) #[Value.ref b] s := ⟨rfl, hE, hSt, hP0, hD0⟩
  refine lw_end (Nat.le_refl _) (mc := h.2.2.2.1 - (pz_h0 L xs).2.2.2.1) (ms := h.2.2.2.2 - (pz_h0 L xs).2.2.2.2) (Nat.le_trans (Nat.sub_le _ _) hc) (Nat.le_trans (Nat.sub_le _ _) hs) ?_ (D := D) (dA := dA) (ad := fun _ => b)
  have hbody := pz_body (pz_all hL htr n) hrun hle hq hlo (fun v hv => by rw [List.mem_singleton] at hv; subst hv; rfl) (by rw [e3]; decide) hCx hP (Nat.le_trans (Nat.sub_le _ _) hc) (Nat.le_trans (Nat.sub_le _ _) hs) (e := e) (below := below)
  rw [e3] at hbody
  exact hbody
set_option maxHeartbeats 4000000 in
theorem lw_walk (hgood : pz_good 2560 603072 7202922) (l : Launch) (hflags : l.flags = flags0) (b : Addr) (xs : List Int32) : MetFree l x (headSpec (Jvm.Cond.code x code maxLocals ret :: tables_1) room_1) (lw_P b xs) (fun _ _ _ _ _ => True) lw_Q := by
  refine MetFree.of_bodyS (code := code) (maxLocals := maxLocals) (ret := ret) (by decide) ?_ ?_
  · intro args s m h hn
    obtain ⟨meth, c, h1, h2, h3, h4, h5, h6, -, -⟩ := Cond.code_spec hn (atoms_spec (ws := Jvm.Cond.code x code maxLocals ret :: tables_1) h _ List.mem_cons_self)
    exact ⟨meth, c, h1, h2, h3, h4, h5, h6⟩
  · intro p e s m args below meth c s₁ B hml0 hP _
    obtain ⟨rfl, hx, hbd, hgv⟩ := hP
    obtain ⟨scr, harrAt, hlist, hof, hsmall⟩ := hx
    obtain ⟨hcb, hkn, -, -⟩ := State.arrayAt?_spec harrAt
    have hown : s.vm.findClass R_law = some m.cls := findClass_of_methodNamed B.named
    have hts0 : ∀ c ∈ (Jvm.Cond.code x code maxLocals ret :: tables_1), c.before #[Value.ref b] s = true := atoms_spec (ws := Jvm.Cond.code x code maxLocals ret :: tables_1) B.pre
    have hts : ∀ w ∈ lw_tbl, w.before #[Value.ref b] s = true := k2_hts_sels lw_privs (fun w hw => hts0 w (List.mem_cons_of_mem _ hw)) lw_privs_ok
    have hml : c.maxLocals = 9 := B.maxLocals_eq (hts0 _ List.mem_cons_self)
    have X₀ : Stand p l e room_1 s m #[Value.ref b] below meth c s₁ [] 0 0 := Stand.of_body B
    have hh0 : s₁.heap = s.heap := by rw [B.state]; rfl
    have htab : ∀ z ∈ c.exceptionTable.toList, False := by
      obtain ⟨meth9, c9, h1, h2, -, -, -, -, h7, -⟩ := Cond.code_spec B.named (hts0 _ List.mem_cons_self)
      cases Option.some.inj (h1.symm.trans B.method)
      cases Option.some.inj (h2.symm.trans (Stand.of_body B).code)
      intro z hz
      rw [Array.isEmpty_iff.mp h7] at hz
      cases hz
    have hsz : scr.slots.size = xs.length := by rw [← Array.length_toList, hlist, List.length_map]
    have hval : ∀ j : Nat, j < xs.length → scr.slots[j]? = some (.int (xs.getD j 0)) := fun j hj => by
      rw [← Array.getElem?_toList, hlist]
      simp [hj]
    have hbl : b < s.heap.size := (Array.getElem?_eq_some_iff.mp hcb).1
    have hX : va_X b xs.length (fun j => xs.getD j 0) s s.heap := ⟨scr, hcb, hof, hkn, hsz, hval⟩
    have K : W p l e room_1 s m #[Value.ref b] below meth c s₁.heap [] 0 0 (lw_Z below #[Value.ref b] s) (entryFrame m ([Value.ref b] : List Value).toArray 9) := by
      rw [hh0]
      exact whole_start hgood l hflags hbd ⟨B.exec, B.bytes, B.returns, hml, hown, hts, hX, hbl, B.notSynchronized, hgv, htab⟩
    obtain ⟨t, a1, o, b1, b2, b3⟩ := K s₁ rfl X₀
    exact ⟨t, o, a1, b1, b2, b3⟩
theorem lw_pre_spec {args : Array Value} {s : State} (h : (Jvm.Cond.and given_1 narrow_1).before args s = true) (hr : rest_1_c.before args s = true) : ∃ (b : Addr) (xs : List Int32), lw_P b xs args s := by
  have hs := flat_of_before _ h
  have hq := flat_of_before _ hr
  have hc : (Cond.count 1).before args s = true := hs _ (by decide +kernel)
  have harr : (Cond.arrayOf (.arg 0) .int).before args s = true := hs _ (by decide +kernel)
  have hle : (Cond.le (.length (.arg 0)) (.int 2560)).before args s = true := hs _ (by decide +kernel)
  have hlen : (Cond.isInt (.length (.arg 0))).before args s = true := hq _ (by decide +kernel)
  have hall : (Cond.all (.arg 0) (.isInt (.elem (.arg 0) (.index 0)))).before args s = true := hq _ (by decide +kernel)
  obtain ⟨b, xs, hb, hx⟩ := State.ints_of_pre rfl harr hlen hall
  have hsm : xs.length < 2 ^ 31 := hx.choose_spec.2.2.2
  have hev : (Term.length (.arg 0)).eval args s none [] s = some (.int xs.length.toInt32) := hx.length_eval hb
  have hv := Cond.le_ints hev (show (Term.int 2560).eval args s none [] s = some (.int 2560) from rfl)
  have hd : xs.length.toInt32 ≤ 2560 := by
    simpa [Cond.before, Cond.holds, hv] using hle
  have hN : xs.length ≤ 2560 := (Int32.ofNat_le_ofNat hsm (by decide)).mp (show Int32.ofNat xs.length ≤ Int32.ofNat 2560 from hd)
  exact ⟨b, xs, Cond.one_arg hc (show args[0]? = some (.ref b) from hb), hx, hN, h⟩
theorem lw_comes (hgood : pz_good 2560 603072 7202922) (l : Launch) (hflags : l.flags = flags0) : Comes l x (Jvm.Cond.code x code maxLocals ret :: tables_1) room_1 (fun tb e args s => Calls_1 tb e args s ∧ rest_1 tb e args s ∧ Pre_1 tb e args s)
    (fun _ _ args s o t => lw_Q args s o t) := by
  intro p e ha hc hk s m args below hf hfit hheap happ hpre
  obtain ⟨b, xs, hP⟩ := lw_pre_spec hpre.2.2 hpre.2.1
  obtain ⟨k, o, h1, h2, h3, hQ⟩ := lw_walk hgood l hflags b xs p e ha hc hk s m args below hf ((Spec.applies_iff_loose hf).mp happ).1 hP trivial
  exact ⟨k, o, h1, h2, h3, hQ⟩
theorem lw_frame {s t : State} {o : Outcome} {args : Array Value} (h : State.butDraws s t lw_cs (fun t1 => Framed s o t1 [] 603072 7202922)) :
    State.butDraws s t [Jvm.Choice.named "NaN.bits"] (fun t1 => Framed s o t1 (fieldLocs frame_1_writes args s ++ arrayLocs frame_1_arrays args s ++ staticLocs frame_1_statics s) 603072 7202922) := h
theorem lw_limb (hgood : pz_good 2560 603072 7202922) (L : Cond) (hL : ∀ (args : Array Value) (s t : State), L.after args s (.returned (some (.int 1))) t = true) :
    ArmFor flags0 classFile x code maxLocals ret World_1 tables_1 room_1 Calls_1 rest_1 Pre_1
      (fun tb e a s o t => postC L tb e a s o t ∧ State.butDraws s t [Jvm.Choice.named "NaN.bits"] (fun t1 => Framed s o t1 (fieldLocs frame_1_writes a s ++ arrayLocs frame_1_arrays a s ++ staticLocs frame_1_statics s) 603072 7202922)) := by
  intro l hflags _ _ p e ha hc hk s m args below hf hfit hheap happ hpre
  obtain ⟨k, o, h1, h2, h3, rfl, hF⟩ := lw_comes hgood l hflags p e ha hc hk s m args below hf hfit hheap happ hpre
  exact ⟨k, _, h1, h2, h3, hL args s _, lw_frame hF⟩
