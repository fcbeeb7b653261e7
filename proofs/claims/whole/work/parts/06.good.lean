/-! what the evaluator keeps: values in their ranges, references to known cells, counts that grow -/
def pz_i (x : Int) : Prop := -2147483648 ≤ x ∧ x ≤ 2147483647
def pz_j (x : Int) : Prop := -9223372036854775808 ≤ x ∧ x ≤ 9223372036854775807
def pz_o (n : Nat) : pz_V → Prop
  | .inl x => pz_i x
  | .inr (.inl r) => r < n + 2
  | .inr (.inr (.inl x)) => pz_j x
  | .inr (.inr (.inr (.inl _))) => True
  | .inr (.inr (.inr (.inr _))) => True
/-- the range of a type: 1 boolean, 2 char, 3 long, else int -/
def pz_ir (c : Nat) (x : Int) : Prop := match c with
  | 1 => x = 0 ∨ x = 1
  | 2 => 0 ≤ x ∧ x ≤ 65535
  | 3 => pz_j x
  | _ => pz_i x
/-- the type of a place of a cell of kind k -/
def pz_ty (k j : Nat) : Nat := if k < 12 then pz_tc k j else if k = 21 then 1 else if k = 22 then 2 else if k = 24 then 3 else 0
/-- a good heap, with the script of L ints xs at 1 -/
def pz_hk (L : Nat) (xs : Nat → Int32) (h : pz_H) : Prop :=
  (∀ r j, pz_ir (pz_ty (h.1.2.1 r) j) (h.2.1 r j)) ∧ (∀ r j, h.1.2.2.2 r j < h.1.1 + 2) ∧ h.1.2.2.1 1 = L ∧ (∀ j, j < L → h.2.1 1 j = (xs j).toInt) ∧ (∀ r, h.1.2.2.1 r ≤ 65536)
def pz_le (h h' : pz_H) : Prop := h.1.1 ≤ h'.1.1 ∧ h.2.2.2.1 ≤ h'.2.2.2.1 ∧ h.2.2.2.2 ≤ h'.2.2.2.2
theorem pz_le.rf (h : pz_H) : pz_le h h := ⟨Nat.le_refl _, Nat.le_refl _, Nat.le_refl _⟩
theorem pz_le.tr {a b c : pz_H} (h : pz_le a b) (k : pz_le b c) : pz_le a c := ⟨Nat.le_trans h.1 k.1, Nat.le_trans h.2.1 k.2.1, Nat.le_trans h.2.2 k.2.2⟩
theorem pz_i32 (x : Int32) : pz_i x.toInt := by
  have h1 := Int32.toInt_lt x
  have h2 := Int32.le_toInt x
  exact ⟨by omega, by omega⟩
theorem pz_j64 (x : Int64) : pz_j x.toInt := by
  have h1 := Int64.toInt_lt x
  have h2 := Int64.le_toInt x
  exact ⟨by omega, by omega⟩
theorem pz_wi (z : Int) : pz_i (pz_w z) := pz_i32 _
theorem pz_of {x : Int} (h : pz_i x) : (Int32.ofInt x).toInt = x := Int32.toInt_ofInt_of_le (by have := h.1; omega) (by have := h.2; omega)
theorem pz_wid {z : Int} (h : pz_i z) : pz_w z = z := pz_of h
theorem pz_lof {x : Int} (h : pz_j x) : (Int64.ofInt x).toInt = x := Int64.toInt_ofInt_of_le (by have := h.1; omega) (by have := h.2; omega)
theorem pz_ofw (z : Int) : Int32.ofInt (pz_w z) = Int32.ofInt z := Int32.ofInt_toInt _
theorem pz_olw (z : Int) : Int64.ofInt (pz_wl z) = Int64.ofInt z := Int64.ofInt_toInt _
theorem pz_ij {x : Int} (h : pz_i x) : pz_j x := by
  have h1 := h.1
  have h2 := h.2
  exact ⟨by omega, by omega⟩
theorem pz_ic (x : Int) : pz_i (x % 65536) := by
  have h1 := Int.emod_nonneg x (show (65536 : Int) ≠ 0 by decide)
  have h2 := Int.emod_lt_of_pos x (show (0 : Int) < 65536 by decide)
  exact ⟨by omega, by omega⟩
theorem pz_icmp (y x : Int) : pz_i (if y < x then 1 else if x = y then 0 else -1) := by
  split
  · exact ⟨by omega, by omega⟩
  · split <;> exact ⟨by omega, by omega⟩
theorem pz_ir_i {c : Nat} {x : Int} (h : pz_ir c x) (hc : c ≠ 3) : pz_i x := by
  unfold pz_ir at h
  split at h
  · rcases h with rfl | rfl <;> exact ⟨by omega, by omega⟩
  · exact ⟨by omega, by omega⟩
  · exact absurd rfl hc
  · exact h
theorem pz_o.mono {n n' : Nat} (hn : n ≤ n') : ∀ {v : pz_V}, pz_o n v → pz_o n' v
  | .inl _, h => h
  | .inr (.inl _), h => Nat.lt_of_lt_of_le h (by omega)
  | .inr (.inr (.inl _)), h => h
  | .inr (.inr (.inr (.inl _))), h => h
  | .inr (.inr (.inr (.inr _))), h => h
theorem pz_tmod {x y : Int} (hx : pz_i x) : pz_i (x.tmod y) := by
  have h1 := Int.natAbs_tmod x y
  have hx1 := hx.1
  have hx2 := hx.2
  have h2 : (x.tmod y).natAbs ≤ x.natAbs := by
    rw [h1]; exact Nat.mod_le _ _
  constructor
  · rcases Int.lt_or_le x 0 with h | h
    · omega
    · have := Int.tmod_nonneg y h; omega
  · rcases Int.lt_or_le 0 x with h | h
    · omega
    · have h3 : 0 ≤ (-x).tmod y := Int.tmod_nonneg y (by omega)
      rw [Int.neg_tmod] at h3
      omega
theorem pz_tc3 (k j : Nat) : pz_tc k j ≠ 3 := by
  unfold pz_tc
  split
  · split
    · decide
    · split <;> decide
  · decide
theorem pz_ty3 {k : Nat} (j : Nat) (hk : k ≠ 24) : pz_ty k j ≠ 3 := by
  unfold pz_ty
  split
  · exact pz_tc3 k j
  · split
    · decide
    · split
      · decide
      · first | decide | (rw [if_neg hk]; decide) | (split <;> first | decide | (rename_i q; exact absurd q hk))
theorem pz_hk.i {L : Nat} {xs : Nat → Int32} {h : pz_H} (q : pz_hk L xs h) {r : Nat} (hr : h.1.2.1 r ≠ 24) (j : Nat) : pz_i (h.2.1 r j) := pz_ir_i (q.1 r j) (pz_ty3 j hr)
theorem pz_is_spec {S : pz_S} {r c : Nat} (h : pz_is S r c = true) : 2 ≤ r ∧ r < S.1 + 2 ∧ S.2.1 r = c := by
  simpa [pz_is, Bool.and_eq_true] using h
theorem pz_np_spec {ls : pz_L} : ∀ {i : Nat}, pz_np ls i = true → ∀ (j : Nat) (v : pz_V), i = j + 1 → ls[j]? = some (some v) → pz_cat v = 1
  | 0, _, j, v, h, _ => by omega
  | i + 1, h, j, v, hj, hv => by
    have : i = j := by omega
    subst this
    simp only [pz_np, hv] at h
    simpa using h
set_option maxHeartbeats 4000000 in
theorem pz_pure_ok {n : Nat} {ins : Instr} {st st' : List pz_V} (h : pz_pure ins st = some st') (ho : ∀ v ∈ st, pz_o n v) : ∀ v ∈ st', pz_o n v := by
  unfold pz_pure at h
  split at h <;> first | cases h | (split at h <;> cases h)
  all_goals (simp only [List.mem_cons, forall_eq_or_imp] at ho ⊢)
  all_goals first
    | exact ⟨pz_i32 _, ho.2.2⟩
    | exact ⟨pz_i32 _, ho.2⟩
    | exact ⟨trivial, ho⟩
    | exact ⟨trivial, ho.2⟩
    | exact ⟨trivial, ho.2.2⟩
    | exact ho.2
    | exact ⟨ho.1, ho.1, ho.2⟩
    | exact ⟨ho.1, ho.2.1, ho.1, ho.2.1, ho.2.2⟩
    | exact ⟨pz_ij ho.1, ho.2⟩
    | (refine ⟨?_, ho⟩; show pz_i _; exact ⟨by omega, by omega⟩)
    | (refine ⟨?_, ho⟩; show 0 < n + 2; omega)
    | (refine ⟨?_, ho⟩; rename_i k; show pz_j _; have := k.isLt; exact ⟨by omega, by omega⟩)
    | exact ⟨pz_j64 _, ho.2.2⟩
    | exact ⟨pz_tmod ho.2.1, ho.2.2⟩
    | exact ⟨pz_ic _, ho.2⟩
    | exact ⟨pz_icmp _ _, ho.2.2⟩
theorem pz_mem_set {α : Type} {l : List α} {i : Nat} {a b : α} (h : b ∈ l.set i a) : b = a ∨ b ∈ l := by
  rcases List.mem_or_eq_of_mem_set h with h | h
  · exact Or.inr h
  · exact Or.inl h
theorem pz_set_ok {n : Nat} {ls : pz_L} {i : Nat} {v : pz_V} (hl : ∀ u, some u ∈ ls → pz_o n u) (hv : pz_o n v) : ∀ u, some u ∈ pz_set ls i v → pz_o n u := by
  intro u hu
  unfold pz_set at hu
  split at hu
  · rcases pz_mem_set hu with h | h
    · cases h
    · rcases pz_mem_set h with h | h
      · cases h; exact hv
      · exact hl u h
  · rcases pz_mem_set hu with h | h
    · cases h; exact hv
    · exact hl u h
theorem pz_set_len (ls : pz_L) (i : Nat) (v : pz_V) : (pz_set ls i v).length = ls.length := by
  unfold pz_set
  split <;> simp
theorem pz_loc_ok {n : Nat} {ins : Instr} {ls ls' : pz_L} {st st' : List pz_V} (h : pz_loc ins ls st = some (ls', st')) (hl : ∀ u, some u ∈ ls → pz_o n u) (ho : ∀ v ∈ st, pz_o n v) :
    (∀ u, some u ∈ ls' → pz_o n u) ∧ (∀ v ∈ st', pz_o n v) ∧ ls'.length = ls.length := by
  unfold pz_loc at h
  split at h
  · split at h
    · rename_i v hv
      split at h
      · cases h
        exact ⟨hl, fun u hu => by rcases List.mem_cons.mp hu with rfl | hu; exact hl _ (List.mem_of_getElem? hv); exact ho u hu, rfl⟩
      · cases h
    · cases h
  · split at h
    · split at h
      · split at h
        · cases h
          exact ⟨pz_set_ok hl (ho _ List.mem_cons_self), fun u hu => ho u (List.mem_cons_of_mem _ hu), pz_set_len _ _ _⟩
        · cases h
      · cases h
    · split at h
      · split at h
        · split at h
          · cases h
            refine ⟨fun u hu => ?_, ho, by simp⟩
            rcases pz_mem_set hu with h | h
            · cases h; exact pz_wi _
            · exact hl u h
          · cases h
        · cases h
      · cases h
theorem pz_u2_at {α : Type} (f : Nat → Nat → α) (r k : Nat) (x : α) (r' k' : Nat) : pz_u2 f r k x r' k' = if r' = r ∧ k' = k then x else f r' k' := rfl
theorem pz_u1_at {α : Type} (f : Nat → α) (r : Nat) (x : α) (r' : Nat) : pz_u1 f r x r' = if r' = r then x else f r' := rfl
theorem pz_hk_iv {L : Nat} {xs : Nat → Int32} {h : pz_H} (q : pz_hk L xs h) {r k : Nat} {x : Int} {dv : (Nat → Nat → UInt64) × Nat × Nat} (hr : 2 ≤ r) (hx : pz_ir (pz_ty (h.1.2.1 r) k) x) : pz_hk L xs (h.1, pz_u2 h.2.1 r k x, dv) := by
  obtain ⟨q1, q2, q3, q4, q5⟩ := q
  refine ⟨fun r' j => ?_, q2, q3, fun j hj => ?_, q5⟩
  · show pz_ir _ (pz_u2 h.2.1 r k x r' j)
    rw [pz_u2_at]
    split
    · rename_i hh; rw [hh.1, hh.2]; exact hx
    · exact q1 r' j
  · show pz_u2 h.2.1 r k x 1 j = _
    rw [pz_u2_at, if_neg (by omega)]
    exact q4 j hj
theorem pz_hk_rf {L : Nat} {xs : Nat → Int32} {h : pz_H} (q : pz_hk L xs h) {r k v : Nat} (hv : v < h.1.1 + 2) : pz_hk L xs ((h.1.1, h.1.2.1, h.1.2.2.1, pz_u2 h.1.2.2.2 r k v), h.2) := by
  obtain ⟨q1, q2, q3, q4, q5⟩ := q
  refine ⟨q1, fun r' j => ?_, q3, q4, q5⟩
  show pz_u2 h.1.2.2.2 r k v r' j < h.1.1 + 2
  rw [pz_u2_at]
  split
  · exact hv
  · exact q2 r' j
theorem pz_ir0 (c : Nat) : pz_ir c 0 := by
  unfold pz_ir
  split
  · exact Or.inl rfl
  · decide
  · exact ⟨by omega, by omega⟩
  · exact ⟨by omega, by omega⟩
theorem pz_hk_new {L : Nat} {xs : Nat → Int32} {h : pz_H} (q : pz_hk L xs h) {kd ln sl : Nat} (hl : ln ≤ 65536) : pz_hk L xs (pz_new h kd ln sl) ∧ pz_le h (pz_new h kd ln sl) := by
  obtain ⟨q1, q2, q3, q4, q5⟩ := q
  refine ⟨⟨fun r j => ?_, fun r j => ?_, ?_, fun j hj => ?_, fun r => ?_⟩, ⟨Nat.le_succ _, Nat.le_succ _, Nat.le_add_right _ _⟩⟩
  · show pz_ir (pz_ty (pz_u1 h.1.2.1 (h.1.1 + 2) kd r) j) (pz_u1 h.2.1 (h.1.1 + 2) (fun _ => 0) r j)
    rw [pz_u1_at, pz_u1_at]
    split
    · exact pz_ir0 _
    · exact q1 r j
  · show pz_u1 h.1.2.2.2 (h.1.1 + 2) (fun _ => 0) r j < h.1.1 + 1 + 2
    rw [pz_u1_at]
    split
    · omega
    · have := q2 r j; omega
  · show pz_u1 h.1.2.2.1 (h.1.1 + 2) ln 1 = L
    rw [pz_u1_at, if_neg (by omega)]; exact q3
  · show pz_u1 h.2.1 (h.1.1 + 2) (fun _ => 0) 1 j = _
    rw [pz_u1_at, if_neg (by omega)]; exact q4 j hj
  · show pz_u1 h.1.2.2.1 (h.1.1 + 2) ln r ≤ 65536
    rw [pz_u1_at]
    split
    · exact hl
    · exact q5 r
theorem pz_tcs {a b : Nat} (h : b < pz_nf a) : a < 12 := by
  unfold pz_nf at h
  rcases Nat.lt_or_ge a 12 with q | q
  · exact q
  · rw [List.getElem?_eq_none (by show 12 ≤ a; exact q)] at h
    simp at h
/-- what pz_ck1 says of an instruction of the group 2, as far as ranges go -/
theorem pz_ck_get {m len a b c e pc i : Nat} (h : pz_ck1 m 2 (.getfield i) len a b c e pc = true) : c = pz_tc a b ∧ b < pz_nf a := by
  simp only [pz_ck1, Bool.and_eq_true] at h
  obtain ⟨-, h⟩ := h
  split at h
  · simp only [Bool.and_eq_true, decide_eq_true_eq, beq_iff_eq] at h
    exact ⟨h.2.2.2.2.1, h.2.2.2.2.2⟩
  · cases h
theorem pz_ck_put {m len a b c e pc i : Nat} (h : pz_ck1 m 2 (.putfield i) len a b c e pc = true) : c = pz_tc a b ∧ b < pz_nf a := by
  simp only [pz_ck1, Bool.and_eq_true] at h
  obtain ⟨-, h⟩ := h
  split at h
  · simp only [Bool.and_eq_true, decide_eq_true_eq, beq_iff_eq] at h
    exact ⟨h.2.2.2.2.1, h.2.2.2.2.2.1⟩
  · cases h
theorem pz_tc_in (a b : Nat) : pz_tc a b = 0 ∨ pz_tc a b = 1 ∨ pz_tc a b = 9 := by
  unfold pz_tc
  split
  · split
    · exact Or.inl rfl
    · split
      · exact Or.inr (Or.inl rfl)
      · exact Or.inr (Or.inr rfl)
  · exact Or.inr (Or.inr rfl)
theorem pz_fit_int {S : pz_S} {a b : Nat} {x : Int} (h : pz_fit S (pz_tc a b) (.inl x) = true) (hx : pz_i x) : pz_ir (pz_tc a b) x := by
  rcases pz_tc_in a b with e | e | e <;> rw [e] at h ⊢
  · exact hx
  · simp [pz_fit] at h
    exact h
  · exact hx
theorem pz_fit_ref {S : pz_S} {c r : Nat} (h : pz_fit S c (.inr (.inl r)) = true) : c = 9 ∧ r < S.1 + 2 := by
  simp [pz_fit] at h
  refine ⟨h.1, ?_⟩
  rcases h.2 with h | h
  · omega
  · exact h.2
theorem pz_ty_obj {k : Nat} (j : Nat) (h : k < 12) : pz_ty k j = pz_tc k j := by unfold pz_ty; rw [if_pos h]
set_option maxHeartbeats 4000000 in
theorem pz_mem_ok {L : Nat} {xs : Nat → Int32} (hLb : L ≤ 2560) {m len a b c e pc : Nat} {ins : Instr} {st st' : List pz_V} {h h' : pz_H} (hm : pz_mem ins a b c st h = some (st', h')) (hc : pz_ck1 m 2 ins len a b c e pc = true) (q : pz_hk L xs h) (ho : ∀ v ∈ st, pz_o h.1.1 v) :
    pz_hk L xs h' ∧ pz_le h h' ∧ ∀ v ∈ st', pz_o h'.1.1 v := by
  unfold pz_mem at hm
  split at hm
  · -- getfield
    simp only [List.mem_cons, forall_eq_or_imp] at ho
    split at hm
    · rename_i hi
      cases hm
      obtain ⟨h1, h2⟩ := pz_ck_get hc
      obtain ⟨-, -, h3⟩ := pz_is_spec hi
      refine ⟨q, pz_le.rf _, ?_⟩
      simp only [List.mem_cons, forall_eq_or_imp]
      refine ⟨?_, ho.2⟩
      split
      · exact q.2.1 _ _
      · exact q.i (by rw [h3]; have := pz_tcs h2; omega) _
    · cases hm
  · -- putfield
    simp only [List.mem_cons, forall_eq_or_imp] at ho
    split at hm
    · rename_i hi
      obtain ⟨h1, h2⟩ := pz_ck_put hc
      obtain ⟨g1, -, g3⟩ := pz_is_spec hi.1
      split at hm
      · cases hm
        refine ⟨pz_hk_iv q g1 ?_, pz_le.rf _, ho.2.2⟩
        rw [g3, pz_ty_obj _ (pz_tcs h2)]
        have h5 := hi.2
        rw [h1] at h5
        exact pz_fit_int h5 ho.1
      · cases hm
        exact ⟨pz_hk_rf q (pz_fit_ref hi.2).2, pz_le.rf _, ho.2.2⟩
      · cases hm
    · cases hm
  · -- iaload
    simp only [List.mem_cons, forall_eq_or_imp] at ho
    split at hm
    · rename_i hi
      cases hm
      refine ⟨q, pz_le.rf _, ?_⟩
      simp only [List.mem_cons, forall_eq_or_imp]
      refine ⟨?_, ho.2.2⟩
      have h6 := hi.1
      simp only [pz_ia, Bool.or_eq_true, decide_eq_true_eq] at h6
      rcases h6 with h6 | h6
      · exact q.i (by rw [(pz_is_spec h6).2.2]; decide) _
      · subst h6
        have h7 := hi.2.2
        rw [q.2.2.1] at h7
        show pz_i _
        rw [q.2.2.2.1 _ (by omega)]
        exact pz_i32 _
    · cases hm
  · simp only [List.mem_cons, forall_eq_or_imp] at ho
    split at hm
    · rename_i hi
      cases hm
      refine ⟨q, pz_le.rf _, ?_⟩
      simp only [List.mem_cons, forall_eq_or_imp]
      exact ⟨q.i (by rw [(pz_is_spec hi.1).2.2]; decide) _, ho.2.2⟩
    · cases hm
  · simp only [List.mem_cons, forall_eq_or_imp] at ho
    split at hm
    · rename_i hi
      cases hm
      refine ⟨q, pz_le.rf _, ?_⟩
      simp only [List.mem_cons, forall_eq_or_imp]
      exact ⟨q.i (by rw [(pz_is_spec hi.1).2.2]; decide) _, ho.2.2⟩
    · cases hm
  · -- laload
    simp only [List.mem_cons, forall_eq_or_imp] at ho
    split at hm
    · rename_i i r st hi
      cases hm
      refine ⟨q, pz_le.rf _, ?_⟩
      simp only [List.mem_cons, forall_eq_or_imp]
      refine ⟨?_, ho.2.2⟩
      have h6 := q.1 r i.toNat
      rw [(pz_is_spec hi.1).2.2] at h6
      exact h6
    · cases hm
  · simp only [List.mem_cons, forall_eq_or_imp] at ho
    split at hm
    · cases hm
      refine ⟨q, pz_le.rf _, ?_⟩
      simp only [List.mem_cons, forall_eq_or_imp]
      exact ⟨trivial, ho.2.2⟩
    · cases hm
  · simp only [List.mem_cons, forall_eq_or_imp] at ho
    split at hm
    · cases hm
      refine ⟨q, pz_le.rf _, ?_⟩
      simp only [List.mem_cons, forall_eq_or_imp]
      exact ⟨q.2.1 _ _, ho.2.2⟩
    · cases hm
  · -- iastore
    simp only [List.mem_cons, forall_eq_or_imp] at ho
    split at hm
    · rename_i hi
      cases hm
      obtain ⟨g1, -, g3⟩ := pz_is_spec hi.1
      refine ⟨pz_hk_iv q g1 ?_, pz_le.rf _, ho.2.2.2⟩
      rw [g3]
      exact ho.1
    · cases hm
  · simp only [List.mem_cons, forall_eq_or_imp] at ho
    split at hm
    · rename_i hi
      cases hm
      obtain ⟨g1, -, g3⟩ := pz_is_spec hi.1
      refine ⟨pz_hk_iv q g1 ?_, pz_le.rf _, ho.2.2.2⟩
      rw [g3]
      exact hi.2.2.2
    · cases hm
  · simp only [List.mem_cons, forall_eq_or_imp] at ho
    split at hm
    · rename_i hi
      cases hm
      obtain ⟨g1, -, g3⟩ := pz_is_spec hi.1
      refine ⟨pz_hk_iv q g1 ?_, pz_le.rf _, ho.2.2.2⟩
      rw [g3]
      exact hi.2.2.2
    · cases hm
  · simp only [List.mem_cons, forall_eq_or_imp] at ho
    split at hm
    · rename_i hi
      cases hm
      obtain ⟨g1, -, g3⟩ := pz_is_spec hi.1
      refine ⟨pz_hk_iv q g1 ?_, pz_le.rf _, ho.2.2.2⟩
      rw [g3]
      exact ho.1
    · cases hm
  · simp only [List.mem_cons, forall_eq_or_imp] at ho
    split at hm
    · cases hm
      exact ⟨q, pz_le.rf _, ho.2.2.2⟩
    · cases hm
  · simp only [List.mem_cons, forall_eq_or_imp] at ho
    split at hm
    · rename_i hi
      cases hm
      exact ⟨pz_hk_rf q (pz_is_spec hi.2.2.2).2.1, pz_le.rf _, ho.2.2.2⟩
    · cases hm
  · -- arraylength
    simp only [List.mem_cons, forall_eq_or_imp] at ho
    split at hm
    · rename_i r st hi
      cases hm
      refine ⟨q, pz_le.rf _, ?_⟩
      simp only [List.mem_cons, forall_eq_or_imp]
      refine ⟨?_, ho.2⟩
      have := q.2.2.2.2 r
      exact ⟨by omega, by omega⟩
    · cases hm
  · -- new
    cases hm
    obtain ⟨k1, k2⟩ := pz_hk_new q (kd := a) (ln := 0) (sl := b) (by omega)
    refine ⟨k1, k2, ?_⟩
    simp only [List.mem_cons, forall_eq_or_imp]
    exact ⟨by show h.1.1 + 2 < h.1.1 + 1 + 2; omega, fun v hv => (ho v hv).mono k2.1⟩
  · simp only [List.mem_cons, forall_eq_or_imp] at ho
    split at hm
    · rename_i n st hi
      cases hm
      obtain ⟨k1, k2⟩ := pz_hk_new q (kd := a) (ln := n.toNat) (sl := n.toNat) (by omega)
      refine ⟨k1, k2, ?_⟩
      simp only [List.mem_cons, forall_eq_or_imp]
      exact ⟨by show h.1.1 + 2 < h.1.1 + 1 + 2; omega, fun v hv => (ho.2 v hv).mono k2.1⟩
    · cases hm
  · simp only [List.mem_cons, forall_eq_or_imp] at ho
    split at hm
    · rename_i n st hi
      cases hm
      obtain ⟨k1, k2⟩ := pz_hk_new q (kd := 23) (ln := n.toNat) (sl := n.toNat) (by omega)
      refine ⟨k1, k2, ?_⟩
      simp only [List.mem_cons, forall_eq_or_imp]
      exact ⟨by show h.1.1 + 2 < h.1.1 + 1 + 2; omega, fun v hv => (ho.2 v hv).mono k2.1⟩
    · cases hm
  · cases hm
theorem pz_cpy_ok {L : Nat} {xs : Nat → Int32} {st st' : List pz_V} {h h' : pz_H} (hm : pz_cpy st h = some (st', h')) (q : pz_hk L xs h) (ho : ∀ v ∈ st, pz_o h.1.1 v) : pz_hk L xs h' ∧ pz_le h h' ∧ ∀ v ∈ st', pz_o h'.1.1 v := by
  unfold pz_cpy at hm
  split at hm
  · rename_i n dp d sp s st
    simp only [List.mem_cons, forall_eq_or_imp] at ho
    split at hm
    · rename_i hi
      cases hm
      obtain ⟨-, h1, h2, h3, h4, -⟩ := hi
      obtain ⟨g1, -, g3⟩ := pz_is_spec h1
      obtain ⟨f1, -, -⟩ := pz_is_spec h2
      obtain ⟨q1, q2, q3, q4, q5⟩ := q
      refine ⟨⟨fun r j => ?_, q2, q3, fun j hj => ?_, q5⟩, pz_le.rf _, ho.2.2.2.2.2⟩
      · show pz_ir _ (pz_u1 h.2.1 d _ r j)
        rw [pz_u1_at]
        split
        · rename_i hr
          subst hr
          have tt : ∀ j', pz_ty (h.1.2.1 r) j' = pz_ty (h.1.2.1 r) j := by
            intro j'
            unfold pz_ty
            rw [if_neg (by omega), if_neg (by omega)]
          dsimp only
          split
          · have h8 := q1 s (sp.toNat + (j - dp.toNat))
            rw [g3, tt] at h8
            exact h8
          · exact q1 r j
        · exact q1 r j
      · show pz_u1 h.2.1 d _ 1 j = _
        rw [pz_u1_at, if_neg (by omega)]
        exact q4 j hj
    · cases hm
  · cases hm
/-- an answer's value is good -/
def pz_oo (n : Nat) : Option pz_V ⊕ Nat → Prop
  | .inl (some v) => pz_o n v
  | _ => True
set_option maxHeartbeats 4000000 in
theorem pz_ex_ok {L : Nat} {xs : Nat → Int32} (hLb : L ≤ 2560) {C : Nat → List pz_V → pz_H → Option pz_O} {J : Nat → pz_L → List pz_V → pz_H → Option pz_O} {hh : List (Nat × Nat)} (hhk : ∀ q ∈ hh, q.2 ≤ 9) {m nx : Nat}
    (hC : ∀ (a : Nat) (as : List pz_V) (h : pz_H) (o : Option pz_V ⊕ Nat) (h' : pz_H), C a as h = some (o, h') → pz_hk L xs h → (∀ v ∈ as, pz_o h.1.1 v) → pz_hk L xs h' ∧ pz_le h h' ∧ pz_oo h'.1.1 o)
    (hJ : ∀ (pc : Nat) (ls : pz_L) (st : List pz_V) (h : pz_H) (o : Option pz_V ⊕ Nat) (h' : pz_H), J pc ls st h = some (o, h') → pz_hk L xs h → (∀ u, some u ∈ ls → pz_o h.1.1 u) → (∀ v ∈ st, pz_o h.1.1 v) → pz_hk L xs h' ∧ pz_le h h' ∧ pz_oo h'.1.1 o) :
    ∀ (ops : List pz_Op) (pc : Nat) (ls : pz_L) (st : List pz_V) (h : pz_H) (o : Option pz_V ⊕ Nat) (h' : pz_H), pz_ck m nx ops pc = true → pz_ex C J hh nx ops ls st h = some (o, h') → pz_hk L xs h → (∀ u, some u ∈ ls → pz_o h.1.1 u) → (∀ v ∈ st, pz_o h.1.1 v) → pz_hk L xs h' ∧ pz_le h h' ∧ pz_oo h'.1.1 o := by
  intro ops
  induction ops with
  | nil =>
    intro pc ls st h o h' hck he q hl ho
    exact hJ nx ls st h o h' he q hl ho
  | cons op ops ih =>
    intro pc ls st h o h' hck he q hl ho
    obtain ⟨g, ins, len, a, b, c, e⟩ := op
    simp only [pz_ck, Bool.and_eq_true] at hck
    obtain ⟨-, hck1, hck2⟩ := hck
    simp only [pz_ex] at he
    split at he
    · split at he
      · rename_i st' hst
        exact ih _ _ _ _ _ _ (by simpa using hck2) he q hl (pz_pure_ok hst ho)
      · cases he
    · split at he
      · rename_i ls' st' hst
        obtain ⟨k1, k2, -⟩ := pz_loc_ok hst hl ho
        exact ih _ _ _ _ _ _ (by simpa using hck2) he q k1 k2
      · cases he
    · split at he
      · rename_i st' h1 hst
        obtain ⟨k1, k2, k3⟩ := pz_mem_ok hLb hst hck1 q ho
        obtain ⟨j1, j2, j3⟩ := ih _ _ _ _ _ _ (by simpa using hck2) he k1 (fun u hu => (hl u hu).mono k2.1) k3
        exact ⟨j1, k2.tr j2, j3⟩
      · cases he
    · -- a constant
      refine ih _ _ _ _ _ _ (by simpa using hck2) he q hl ?_
      simp only [List.mem_cons, forall_eq_or_imp]
      refine ⟨?_, ho⟩
      simp only [pz_ck1, Bool.and_eq_true, decide_eq_true_eq] at hck1
      have := hck1.2.1
      exact ⟨by omega, by omega⟩
    · -- a call
      split at he
      · have hd : ∀ v ∈ st.drop b, pz_o h.1.1 v := fun v hv => ho v (List.mem_of_mem_drop hv)
        have ha : ∀ v ∈ (st.take b).reverse, pz_o h.1.1 v := fun v hv => ho v (List.mem_of_mem_take (List.mem_reverse.mp hv))
        split at he
        · rename_i h1 hcall
          obtain ⟨k1, k2, k3⟩ := hC _ _ _ _ _ hcall q ha
          obtain ⟨j1, j2, j3⟩ := ih _ _ _ _ _ _ (by simpa using hck2) he k1 (fun u hu => (hl u hu).mono k2.1) (fun v hv => (hd v hv).mono k2.1)
          exact ⟨j1, k2.tr j2, j3⟩
        · rename_i v h1 hcall
          obtain ⟨k1, k2, k3⟩ := hC _ _ _ _ _ hcall q ha
          obtain ⟨j1, j2, j3⟩ := ih _ _ _ _ _ _ (by simpa using hck2) he k1 (fun u hu => (hl u hu).mono k2.1) (by
            simp only [List.mem_cons, forall_eq_or_imp]
            exact ⟨k3, fun v hv => (hd v hv).mono k2.1⟩)
          exact ⟨j1, k2.tr j2, j3⟩
        · rename_i E h1 hcall
          obtain ⟨k1, k2, k3⟩ := hC _ _ _ _ _ hcall q ha
          split at he
          · rename_i k hk
            cases he
            refine ⟨k1, k2, ?_⟩
            have : k ≤ 9 := by
              clear hC hJ ih
              induction hh with
              | nil => simp [pz_lk] at hk
              | cons p r ihh =>
                obtain ⟨p1, p2⟩ := p
                simp only [pz_lk] at hk
                split at hk
                · cases hk
                  exact hhk _ List.mem_cons_self
                · exact ihh (fun q hq => hhk q (List.mem_cons_of_mem _ hq)) hk
            exact ⟨by omega, by omega⟩
          · cases he
            exact ⟨k1, k2, trivial⟩
        · cases he
      · cases he
    · split at he
      · rename_i st' h1 hst
        obtain ⟨k1, k2, k3⟩ := pz_cpy_ok hst q ho
        obtain ⟨j1, j2, j3⟩ := ih _ _ _ _ _ _ (by simpa using hck2) he k1 (fun u hu => (hl u hu).mono k2.1) k3
        exact ⟨j1, k2.tr j2, j3⟩
      · cases he
    · split at he
      · split at he
        · simp only [List.mem_cons, forall_eq_or_imp] at ho
          exact ih _ _ _ _ _ _ (by simpa using hck2) he q hl ho.2
        · cases he
      · cases he
    · split at he
      · cases he
        exact ⟨q, ⟨Nat.le_refl _, Nat.le_succ _, Nat.le_add_right _ _⟩, trivial⟩
      · cases he
    · exact hJ _ _ _ _ _ _ he q hl ho
    · split at he
      · simp only [List.mem_cons, forall_eq_or_imp] at ho
        split at he
        · exact hJ _ _ _ _ _ _ he q hl ho.2
        · exact ih _ _ _ _ _ _ (by simpa using hck2) he q hl ho.2
      · simp only [List.mem_cons, forall_eq_or_imp] at ho
        split at he
        · exact hJ _ _ _ _ _ _ he q hl ho.2.2
        · exact ih _ _ _ _ _ _ (by simpa using hck2) he q hl ho.2.2
      · simp only [List.mem_cons, forall_eq_or_imp] at ho
        split at he
        · exact hJ _ _ _ _ _ _ he q hl ho.2
        · exact ih _ _ _ _ _ _ (by simpa using hck2) he q hl ho.2
      · cases he
    · split at he
      · split at he
        · cases he
          exact ⟨q, pz_le.rf _, ho _ List.mem_cons_self⟩
        · cases he
      · cases he
    · split at he
      · cases he
        exact ⟨q, pz_le.rf _, trivial⟩
      · cases he
    · split at he
      · simp only [List.mem_cons, forall_eq_or_imp] at ho
        split at he
        · exact hJ _ _ _ _ _ _ he q hl ho.2
        · split at he
          · exact hJ _ _ _ _ _ _ he q hl ho.2
          · cases he
      · cases he
    · cases he
/-! the machine follows the evaluator: values, locals, plain instructions -/
/-- what the machine has where the evaluator has a value; ad: where the cells lie -/
def pz_e (ad : Nat → Nat) : pz_V → Value
  | .inl x => .int (Int32.ofInt x)
  | .inr (.inl r) => if r = 0 then .null else .ref (ad r)
  | .inr (.inr (.inl x)) => .long (Int64.ofInt x)
  | .inr (.inr (.inr (.inl x))) => .float x
  | .inr (.inr (.inr (.inr x))) => .double x
theorem pz_e_cat (ad : Nat → Nat) : ∀ v : pz_V, (pz_e ad v).category = pz_cat v
  | .inl _ => rfl
  | .inr (.inl r) => by
    show Value.category (if r = 0 then .null else .ref (ad r)) = 1
    split <;> rfl
  | .inr (.inr (.inl _)) => rfl
  | .inr (.inr (.inr (.inl _))) => rfl
  | .inr (.inr (.inr (.inr _))) => rfl
theorem pz_e_same {ad ad' : Nat → Nat} {n : Nat} (h : ∀ r, r < n + 2 → ad' r = ad r) : ∀ {v : pz_V}, pz_o n v → pz_e ad' v = pz_e ad v
  | .inl _, _ => rfl
  | .inr (.inl r), hv => by
    show (if r = 0 then Value.null else .ref (ad' r)) = (if r = 0 then Value.null else .ref (ad r))
    rw [h r hv]
  | .inr (.inr (.inl _)), _ => rfl
  | .inr (.inr (.inr (.inl _))), _ => rfl
  | .inr (.inr (.inr (.inr _))), _ => rfl
theorem pz_es_same {ad ad' : Nat → Nat} {n : Nat} (h : ∀ r, r < n + 2 → ad' r = ad r) {st : List pz_V} (hv : ∀ v ∈ st, pz_o n v) : st.map (pz_e ad') = st.map (pz_e ad) :=
  List.map_congr_left fun v hm => pz_e_same h (hv v hm)
/-- the machine's locals hold the evaluator's -/
def pz_lv (ad : Nat → Nat) (n : Nat) (ls : pz_L) (mls : Array Slot) : Prop := lv_wf mls ∧ mls.size = n ∧ ls.length = n ∧ ∀ (k : Nat) (v : pz_V), ls[k]? = some (some v) → mls[k]? = some (.val (pz_e ad v))
def pz_ll (ad : Nat → Nat) (ls : pz_L) : List (Nat × Value) := (List.range ls.length).filterMap (fun k => match ls[k]? with
  | some (some v) => some (k, pz_e ad v)
  | _ => none)
theorem pz_ll_in {ad : Nat → Nat} {ls : pz_L} {k : Nat} {v : pz_V} (h : ls[k]? = some (some v)) : (k, pz_e ad v) ∈ pz_ll ad ls := by
  refine List.mem_filterMap.mpr ⟨k, List.mem_range.mpr (List.getElem?_eq_some_iff.mp h).1, ?_⟩
  rw [h]
theorem pz_ll_of {ad : Nat → Nat} {ls : pz_L} {q : Nat × Value} (h : q ∈ pz_ll ad ls) : ∃ v, ls[q.1]? = some (some v) ∧ q.2 = pz_e ad v := by
  obtain ⟨k, -, hk⟩ := List.mem_filterMap.mp h
  split at hk
  · rename_i v hv
    cases hk
    exact ⟨v, hv, rfl⟩
  · cases hk
theorem pz_lv.has {ad : Nat → Nat} {n : Nat} {ls : pz_L} {mls : Array Slot} (h : pz_lv ad n ls mls) : lv_has mls n (pz_ll ad ls) := by
  refine ⟨h.2.1, h.1, fun q hq => ?_⟩
  obtain ⟨v, h1, h2⟩ := pz_ll_of hq
  rw [h2]
  exact h.2.2.2 _ _ h1
theorem pz_lv_set1 {ad : Nat → Nat} {n i : Nat} {ls : pz_L} {mls : Array Slot} {v : pz_V} (hc : pz_cat v = 1) (hlen : ls.length = n) (hnp : pz_np ls i = true)
    (h : lv_has mls n ((i, pz_e ad v) :: (pz_ll ad ls).filter (fun q => !(q.1 == i) && !(q.1 + 1 == i && q.2.category == 2)))) : pz_lv ad n (pz_set ls i v) mls := by
  refine ⟨h.2.1, h.1, by rw [pz_set_len]; exact hlen, fun k u hu => ?_⟩
  unfold pz_set at hu
  rw [if_neg (by omega), List.getElem?_set] at hu
  split at hu
  · rename_i hk
    subst hk
    split at hu
    · cases hu
      exact h.2.2 _ List.mem_cons_self
    · cases hu
  · rename_i hk
    refine h.2.2 (k, pz_e ad u) (List.mem_cons_of_mem _ (List.mem_filter.mpr ⟨pz_ll_in hu, ?_⟩))
    have h1 : (k == i) = false := by simpa using fun q => hk q.symm
    rw [h1]
    by_cases h2 : k + 1 = i
    · have h3 := pz_np_spec hnp k u h2.symm hu
      have h4 : ((pz_e ad u).category == 2) = false := by rw [pz_e_cat, h3]; rfl
      simp [h4]
    · have h3 : (k + 1 == i) = false := by simpa using h2
      simp [h3]
theorem pz_lv_set2 {ad : Nat → Nat} {n i : Nat} {ls : pz_L} {mls : Array Slot} {v : pz_V} (hc : pz_cat v = 2) (hlen : ls.length = n) (hnp : pz_np ls i = true)
    (h : lv_has mls n ((i, pz_e ad v) :: (pz_ll ad ls).filter (fun q => !(q.1 == i) && (!(q.1 == i + 1) && !(q.1 + 1 == i && q.2.category == 2))))) : pz_lv ad n (pz_set ls i v) mls := by
  refine ⟨h.2.1, h.1, by rw [pz_set_len]; exact hlen, fun k u hu => ?_⟩
  unfold pz_set at hu
  rw [if_pos hc, List.getElem?_set] at hu
  split at hu
  · split at hu <;> cases hu
  · rename_i hk1
    rw [List.getElem?_set] at hu
    split at hu
    · rename_i hk
      subst hk
      split at hu
      · cases hu
        exact h.2.2 _ List.mem_cons_self
      · cases hu
    · rename_i hk
      refine h.2.2 (k, pz_e ad u) (List.mem_cons_of_mem _ (List.mem_filter.mpr ⟨pz_ll_in hu, ?_⟩))
      have h1 : (k == i) = false := by simpa using fun q => hk q.symm
      have h5 : (k == i + 1) = false := by simpa using fun q => hk1 q.symm
      rw [h1, h5]
      by_cases h2 : k + 1 = i
      · have h3 := pz_np_spec hnp k u h2.symm hu
        have h4 : ((pz_e ad u).category == 2) = false := by rw [pz_e_cat, h3]; rfl
        simp [h4]
      · have h3 : (k + 1 == i) = false := by simpa using h2
        simp [h3]
theorem pz_i2c (x : Int) : ((Int32.ofInt x).toUInt32 % 65536).toInt32 = Int32.ofInt (x % 65536) := by
  refine congrArg UInt32.toInt32 (?_ : _ = UInt32.ofBitVec (BitVec.ofInt 32 (x % 65536)))
  apply UInt32.toNat_inj.mp
  rw [UInt32.toNat_mod]
  show (BitVec.ofInt 32 x).toNat % 65536 = (BitVec.ofInt 32 (x % 65536)).toNat
  rw [BitVec.toNat_ofInt, BitVec.toNat_ofInt]
  omega
theorem pz_iz {x : Int} (h : pz_i x) : Int32.ofInt x = 0 ↔ x = 0 := by
  rw [← Int32.toInt_inj, pz_of h]; rfl
theorem pz_ieq {x y : Int} (hx : pz_i x) (hy : pz_i y) : Int32.ofInt x = Int32.ofInt y ↔ x = y := by
  rw [← Int32.toInt_inj, pz_of hx, pz_of hy]
theorem pz_ilt {x y : Int} (hx : pz_i x) (hy : pz_i y) : Int32.ofInt x < Int32.ofInt y ↔ x < y := by
  rw [Int32.lt_iff_toInt_lt, pz_of hx, pz_of hy]
theorem pz_ile {x y : Int} (hx : pz_i x) (hy : pz_i y) : Int32.ofInt x ≤ Int32.ofInt y ↔ x ≤ y := by
  rw [Int32.le_iff_toInt_le, pz_of hx, pz_of hy]
theorem pz_idiv {x y : Int} (hx : pz_i x) (hy : pz_i y) : Int32.ofInt (x.tdiv y) = Int32.ofInt x / Int32.ofInt y := by
  have h1 := hx.1
  have h2 := hx.2
  have h3 := hy.1
  have h4 := hy.2
  exact Int32.ofInt_tdiv (by show (-2147483648 : Int) ≤ x; omega) (by show x ≤ (2147483647 : Int); omega) (by show (-2147483648 : Int) ≤ y; omega) (by show y ≤ (2147483647 : Int); omega)
theorem pz_irem {x y : Int} (hx : pz_i x) (hy : pz_i y) : Int32.ofInt (x.tmod y) = Int32.ofInt x - Int32.ofInt x / Int32.ofInt y * Int32.ofInt y := by
  rw [irem_eq_mod]
  have h1 := hx.1
  have h2 := hx.2
  have h3 := hy.1
  have h4 := hy.2
  exact Int32.ofInt_tmod (by show (-2147483648 : Int) ≤ x; omega) (by show x ≤ (2147483647 : Int); omega) (by show (-2147483648 : Int) ≤ y; omega) (by show y ≤ (2147483647 : Int); omega)
theorem pz_i2l {x : Int} (hx : pz_i x) : (Int32.ofInt x).toInt64 = Int64.ofInt x := by
  have h1 := hx.1
  have h2 := hx.2
  exact Int32.toInt64_ofInt (by show (-2147483648 : Int) ≤ x; omega) (by show x ≤ (2147483647 : Int); omega)
theorem pz_lcmp {x y : Int} (hx : pz_j x) (hy : pz_j y) : lg_cmp (Int64.ofInt x) (Int64.ofInt y) = Int32.ofInt (if y < x then 1 else if x = y then 0 else -1) := by
  unfold lg_cmp
  have e1 : (Int64.ofInt x > Int64.ofInt y) ↔ y < x := by
    show Int64.ofInt y < Int64.ofInt x ↔ _
    rw [Int64.lt_iff_toInt_lt, pz_lof hx, pz_lof hy]
  have e2 : Int64.ofInt x = Int64.ofInt y ↔ x = y := by
    rw [← Int64.toInt_inj, pz_lof hx, pz_lof hy]
  by_cases h1 : y < x
  · rw [if_pos h1, if_pos (e1.mpr h1)]; rfl
  · rw [if_neg h1, if_neg (fun q => h1 (e1.mp q))]
    by_cases h2 : x = y
    · rw [if_pos h2, if_pos (e2.mpr h2)]; rfl
    · rw [if_neg h2, if_neg (fun q => h2 (e2.mp q))]; rfl
theorem pz_bip {n : Int} (h : -128 ≤ n ∧ n ≤ 127) : (Int8.ofInt n).toInt32 = Int32.ofInt n := by
  apply Int32.toInt_inj.mp
  rw [Int8.toInt_toInt32, Int8.toInt_ofInt_of_le (by omega) (by omega), pz_of ⟨by omega, by omega⟩]
theorem pz_sip {n : Int} (h : -32768 ≤ n ∧ n ≤ 32767) : (Int16.ofInt n).toInt32 = Int32.ofInt n := by
  apply Int32.toInt_inj.mp
  rw [Int16.toInt_toInt32, Int16.toInt_ofInt_of_le (by omega) (by omega), pz_of ⟨by omega, by omega⟩]
section PZW
variable {p : Program} {l : Launch} {e : Env} {R : Room} {s : State} {m : MethodId} {args : Array Value} {below : List Frame} {meth : Method} {c : Code} {H : Heap} {locs : List Loc} {cells slots : Nat} {Q : State → Prop}
variable {cc : ByteArray} {pc : Nat} {mls : Array Slot} {ad : Nat → Nat} {n : Nat}
set_option maxHeartbeats 4000000 in
theorem pz_W0 (hx : p.tables.exec = Jvm.exec) (hb : c.code = cc) {ins : Instr} {st st' : List pz_V} (h : pz_pure ins st = some st') (ho : ∀ v ∈ st, pz_o n v) (hd : decode cc pc = .ok (ins, pz_len ins))
    (k : W p l e R s m args below meth c H locs cells slots Q (F0 m (pc + pz_len ins) mls (st'.map (pz_e ad)))) : W p l e R s m args below meth c H locs cells slots Q (F0 m pc mls (st.map (pz_e ad))) := by
  unfold pz_pure at h
  split at h <;> first | cases h | (split at h <;> cases h)
  all_goals (simp only [List.mem_cons, forall_eq_or_imp] at ho; simp only [List.map_cons, pz_e, pz_len] at k hd ⊢)
  · exact lv_iconst hx hb hd rfl k
  · exact lv_bipush hx hb hd (pz_bip (by assumption)) k
  · exact lv_sipush hx hb hd (pz_sip (by assumption)) k
  · rename_i z
    exact lv_lconst hx hb hd rfl k
  · exact lv_fconst0 hx hb hd k
  · exact lv_dconst0 hx hb hd k
  · exact lv_null hx hb hd k
  · rw [pz_ofw, Int32.ofInt_add] at k; exact lv_iadd hx hb hd k
  · rw [pz_ofw, Int32.ofInt_sub] at k; exact lv_isub hx hb hd k
  · rw [pz_ofw, Int32.ofInt_mul] at k; exact lv_imul hx hb hd k
  · rename_i hy
    rw [pz_ofw, pz_idiv ho.2.1 ho.1] at k; exact lv_idiv hx hb hd (fun q => hy ((pz_iz ho.1).mp q)) k
  · rename_i hy
    rw [pz_irem ho.2.1 ho.1] at k; exact lv_irem hx hb hd (fun q => hy ((pz_iz ho.1).mp q)) k
  · rw [pz_ofw, Int32.ofInt_neg] at k; exact lv_ineg hx hb hd k
  · rw [Int32.ofInt_toInt] at k; exact lv_iand hx hb hd k
  · rw [Int32.ofInt_toInt] at k; exact lv_ior hx hb hd k
  · rw [Int32.ofInt_toInt] at k; exact lv_ixor hx hb hd k
  · rw [Int32.ofInt_toInt] at k; exact lv_ishl hx hb hd k
  · rw [Int32.ofInt_toInt] at k; exact lv_ishr hx hb hd k
  · rw [Int32.ofInt_toInt] at k; exact lv_iushr hx hb hd rfl k
  · rw [pz_olw, Int64.ofInt_add] at k; exact lv_ladd hx hb hd k
  · exact lv_i2l hx hb hd (pz_i2l ho.1) k
  · exact lv_i2c hx hb hd (pz_i2c _) k
  · exact lv_i2f hx hb hd k
  · exact lv_i2d hx hb hd k
  · exact lv_f2d hx hb hd (by assumption) k
  · exact lv_fdiv hx hb hd (by assumption) k
  · exact lv_ddiv hx hb hd (by assumption) k
  · exact W.lcmp hx hb hd (by rw [pz_lcmp ho.2.1 ho.1]; exact k)
  · rw [Int32.ofInt_toInt] at k; exact lv_fcmp hx hb hd k
  · rw [Int32.ofInt_toInt] at k; exact lv_dcmp hx hb hd k
  · exact lv_dup hx hb hd (by rw [pz_e_cat]; assumption) k
  · exact lv_pop hx hb hd (by rw [pz_e_cat]; assumption) k
  · rename_i hh
    exact lv_dup2_11 hx hb hd (by rw [pz_e_cat]; exact hh.1) (by rw [pz_e_cat]; exact hh.2) k
theorem pz_lv.at {ls : pz_L} (h : pz_lv ad n ls mls) {k : Nat} {v : pz_V} (hk : ls[k]? = some (some v)) : mls[k]? = some (.val (pz_e ad v)) := h.2.2.2 k v hk
set_option maxHeartbeats 4000000 in
theorem pz_W1 (hx : p.tables.exec = Jvm.exec) (hb : c.code = cc) {ins : Instr} {ls ls' : pz_L} {st st' : List pz_V} (h : pz_loc ins ls st = some (ls', st')) (hd : decode cc pc = .ok (ins, pz_len ins)) (hlv : pz_lv ad n ls mls)
    (k : ∀ mls', pz_lv ad n ls' mls' → W p l e R s m args below meth c H locs cells slots Q (F0 m (pc + pz_len ins) mls' (st'.map (pz_e ad)))) : W p l e R s m args below meth c H locs cells slots Q (F0 m pc mls (st.map (pz_e ad))) := by
  unfold pz_loc at h
  split at h
  · -- a load
    rename_i kk i hk
    split at h
    · rename_i v hv
      split at h
      · rename_i hkd
        cases h
        have hm := hlv.at hv
        have k := k mls hlv
        simp only [List.map_cons] at k
        unfold pz_ldk at hk
        split at hk <;> cases hk <;> simp only [pz_len] at hd k <;> rcases v with x | x | x | x | x <;> simp [pz_kd] at hkd <;> simp only [pz_e] at hm k
        · exact lv_iload hx hb hd hm k
        · exact lv_iload_n hx hb hd rfl hm k
        · split at hm
          · rename_i h0; rw [if_pos h0] at k; exact lv_aloadN hx hb hd hm k
          · rename_i h0; rw [if_neg h0] at k; exact lv_aload hx hb hd hm k
        · split at hm
          · rename_i h0; rw [if_pos h0] at k; exact lv_aload_nN hx hb hd rfl hm k
          · rename_i h0; rw [if_neg h0] at k; exact lv_aload_n hx hb hd rfl hm k
        · exact lv_lload hx hb hd hm k
        · exact lv_lload_n hx hb hd rfl hm k
        · exact lv_fload hx hb hd hm k
        · exact lv_fload_n hx hb hd rfl hm k
        · exact lv_dload hx hb hd hm k
        · exact lv_dload_n hx hb hd rfl hm k
      · cases h
    · cases h
  · split at h
    · -- a store
      rename_i kk i hk
      split at h
      · rename_i v st1
        split at h
        · rename_i hh
          obtain ⟨hkd, hi, hnp⟩ := hh
          cases h
          have hlen := hlv.2.2.1
          unfold pz_stk at hk
          simp only [List.map_cons]
          split at hk <;> cases hk <;> simp only [pz_len] at hd k <;> rcases v with x | x | x | x | x <;> simp [pz_kd] at hkd <;> simp only [pz_cat] at hi
          · exact lv_istore hx hb hd hlv.has (by omega) rfl (fun mls' h' => k mls' (pz_lv_set1 rfl hlen hnp h'))
          · exact lv_istore_n hx hb hd rfl hlv.has (by omega) rfl (fun mls' h' => k mls' (pz_lv_set1 rfl hlen hnp h'))
          · by_cases h0 : x = 0
            · subst h0
              exact lv_astoreN hx hb hd hlv.has (by omega) rfl (fun mls' h' => k mls' (pz_lv_set1 (v := .inr (.inl 0)) rfl hlen hnp h'))
            · simp only [pz_e, if_neg h0]
              exact lv_astore hx hb hd hlv.has (by omega) rfl (fun mls' h' => k mls' (pz_lv_set1 (v := .inr (.inl x)) rfl hlen hnp (by simp only [pz_e, if_neg h0]; exact h')))
          · by_cases h0 : x = 0
            · subst h0
              exact lv_astore_nN hx hb hd rfl hlv.has (by omega) rfl (fun mls' h' => k mls' (pz_lv_set1 (v := .inr (.inl 0)) rfl hlen hnp h'))
            · simp only [pz_e, if_neg h0]
              exact lv_astore_n hx hb hd rfl hlv.has (by omega) rfl (fun mls' h' => k mls' (pz_lv_set1 (v := .inr (.inl x)) rfl hlen hnp (by simp only [pz_e, if_neg h0]; exact h')))
          · exact lv_lstore hx hb hd hlv.has (by omega) rfl (fun mls' h' => k mls' (pz_lv_set2 rfl hlen hnp h'))
          · exact lv_lstore_n hx hb hd rfl hlv.has (by omega) rfl (fun mls' h' => k mls' (pz_lv_set2 rfl hlen hnp h'))
          · exact lv_fstore hx hb hd hlv.has (by omega) rfl (fun mls' h' => k mls' (pz_lv_set1 rfl hlen hnp h'))
          · exact lv_fstore_n hx hb hd rfl hlv.has (by omega) rfl (fun mls' h' => k mls' (pz_lv_set1 rfl hlen hnp h'))
          · exact lv_dstore hx hb hd hlv.has (by omega) rfl (fun mls' h' => k mls' (pz_lv_set2 rfl hlen hnp h'))
          · exact lv_dstore_n hx hb hd rfl hlv.has (by omega) rfl (fun mls' h' => k mls' (pz_lv_set2 rfl hlen hnp h'))
        · cases h
      · cases h
    · split at h
      · rename_i i z
        split at h
        · rename_i x hv
          split at h
          · rename_i hnp
            cases h
            have hlen := hlv.2.2.1
            obtain ⟨q, hq⟩ := List.getElem?_of_mem (pz_ll_in (ad := ad) hv)
            have hi : i < ls.length := (List.getElem?_eq_some_iff.mp hv).1
            refine lv_iinc hx hb hd hlv.has hq rfl (by omega) rfl (fun mls' h' => k mls' ?_)
            have h2 := pz_lv_set1 (ad := ad) (v := .inl (pz_w (x + z))) rfl hlen hnp (by simp only [pz_e, pz_ofw, Int32.ofInt_add]; exact h')
            exact h2
          · cases h
        · cases h
      · cases h
end PZW
