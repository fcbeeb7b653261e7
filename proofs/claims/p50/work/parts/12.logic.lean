/-! a logic of runs of the evaluator: what holds at the end of a run that begins here -/
def pz_Cn (n : Nat) : Nat → List pz_V → pz_H → Option pz_O := fun m' as h' => pz_run n m' 0 (pz_en m' as) [] h'
def pz_Jn (n m : Nat) : Nat → pz_L → List pz_V → pz_H → Option pz_O := fun pc' ls' st' h' => pz_run n m pc' ls' st' h'
abbrev pz_Q : Type := Option pz_V ⊕ Nat → pz_H → Prop
def pz_W (m nx : Nat) (ops : List pz_Op) (ls : pz_L) (st : List pz_V) (h : pz_H) (Q : pz_Q) : Prop := ∃ n o h', pz_ex (pz_Cn n) (pz_Jn n m) (pz_hc m) nx ops ls st h = some (o, h') ∧ Q o h'
def pz_G (m pc : Nat) (ls : pz_L) (st : List pz_V) (h : pz_H) (Q : pz_Q) : Prop := ∃ n o h', pz_run n m pc ls st h = some (o, h') ∧ Q o h'
set_option maxHeartbeats 4000000 in
theorem pz_ex_mono {C C' : Nat → List pz_V → pz_H → Option pz_O} {J J' : Nat → pz_L → List pz_V → pz_H → Option pz_O} {hh : List (Nat × Nat)} {nx : Nat}
    (hC : ∀ (a : Nat) (as : List pz_V) (h : pz_H) (r : pz_O), C a as h = some r → C' a as h = some r)
    (hJ : ∀ (pc : Nat) (ls : pz_L) (st : List pz_V) (h : pz_H) (r : pz_O), J pc ls st h = some r → J' pc ls st h = some r) :
    ∀ (ops : List pz_Op) (ls : pz_L) (st : List pz_V) (h : pz_H) (r : pz_O), pz_ex C J hh nx ops ls st h = some r → pz_ex C' J' hh nx ops ls st h = some r := by
  intro ops
  induction ops with
  | nil => intro ls st h r he; exact hJ _ _ _ _ _ he
  | cons op ops ih =>
    intro ls st h r he
    obtain ⟨g, ins, len, a, b, c, e⟩ := op
    simp only [pz_ex] at he
    split at he
    · split at he
      · rename_i hst
        simp only [pz_ex, hst]
        exact ih _ _ _ _ he
      · cases he
    · split at he
      · rename_i hst
        simp only [pz_ex, hst]
        exact ih _ _ _ _ he
      · cases he
    · split at he
      · rename_i hst
        simp only [pz_ex, hst]
        exact ih _ _ _ _ he
      · cases he
    · simp only [pz_ex]
      exact ih _ _ _ _ he
    · obtain ⟨hc, he⟩ := pz_ite he
      simp only [pz_ex]
      rw [if_pos hc]
      split at he
      · rename_i hq
        rw [hC _ _ _ _ hq]
        exact ih _ _ _ _ he
      · rename_i hq
        rw [hC _ _ _ _ hq]
        exact ih _ _ _ _ he
      · rename_i hq
        rw [hC _ _ _ _ hq]
        exact he
      · cases he
    · split at he
      · rename_i hst
        simp only [pz_ex, hst]
        exact ih _ _ _ _ he
      · cases he
    · split at he
      · obtain ⟨hc, he⟩ := pz_ite he
        simp only [pz_ex]
        rw [if_pos hc]
        exact ih _ _ _ _ he
      · cases he
    · simp only [pz_ex]
      exact he
    · simp only [pz_ex]
      exact hJ _ _ _ _ _ he
    · split at he
      · simp only [pz_ex]
        split at he
        · rename_i hq; rw [if_pos hq]; exact hJ _ _ _ _ _ he
        · rename_i hq; rw [if_neg hq]; exact ih _ _ _ _ he
      · simp only [pz_ex]
        split at he
        · rename_i hq; rw [if_pos hq]; exact hJ _ _ _ _ _ he
        · rename_i hq; rw [if_neg hq]; exact ih _ _ _ _ he
      · simp only [pz_ex]
        split at he
        · rename_i hq; rw [if_pos hq]; exact hJ _ _ _ _ _ he
        · rename_i hq; rw [if_neg hq]; exact ih _ _ _ _ he
      · cases he
    · simp only [pz_ex]
      exact he
    · simp only [pz_ex]
      exact he
    · split at he
      · simp only [pz_ex]
        split at he
        · rename_i hq; rw [if_pos hq]; exact hJ _ _ _ _ _ he
        · rename_i hq
          rw [if_neg hq]
          split at he
          · exact hJ _ _ _ _ _ he
          · cases he
      · cases he
    · simp only [pz_ex]
      exact ih _ _ _ _ he
    · cases he
theorem pz_run_mono1 : ∀ (n m pc : Nat) (ls : pz_L) (st : List pz_V) (h : pz_H) (r : pz_O), pz_run n m pc ls st h = some r → pz_run (n + 1) m pc ls st h = some r
  | 0, _, _, _, _, _, _, he => by cases he
  | n + 1, m, pc, ls, st, h, r, he => by
    unfold pz_run at he ⊢
    exact pz_ex_mono (fun a as h r hq => pz_run_mono1 n a 0 _ _ h r hq) (fun pc ls st h r hq => pz_run_mono1 n m pc ls st h r hq) _ _ _ _ _ he
theorem pz_run_mono {n n' m pc : Nat} {ls : pz_L} {st : List pz_V} {h : pz_H} {r : pz_O} (hn : n ≤ n') (he : pz_run n m pc ls st h = some r) : pz_run n' m pc ls st h = some r := by
  induction hn with
  | refl => exact he
  | step _ ih => exact pz_run_mono1 _ _ _ _ _ _ _ ih
theorem pz_exm {n n' m nx : Nat} {ops : List pz_Op} {ls : pz_L} {st : List pz_V} {h : pz_H} {r : pz_O} (hn : n ≤ n') (he : pz_ex (pz_Cn n) (pz_Jn n m) (pz_hc m) nx ops ls st h = some r) : pz_ex (pz_Cn n') (pz_Jn n' m) (pz_hc m) nx ops ls st h = some r :=
  pz_ex_mono (fun _ _ _ _ hq => pz_run_mono hn hq) (fun _ _ _ _ _ hq => pz_run_mono hn hq) _ _ _ _ _ he
section PZW
variable {m nx l a b c e : Nat} {ins : Instr} {ops : List pz_Op} {ls ls' : pz_L} {st st' : List pz_V} {h : pz_H} {Q : pz_Q}
theorem pz_G_of {pc : Nat} (hb : pz_blk m pc = (ops, nx)) (hw : pz_W m nx ops ls st h Q) : pz_G m pc ls st h Q := by
  obtain ⟨n, o, h', he, q⟩ := hw
  refine ⟨n + 1, o, h', ?_, q⟩
  unfold pz_run
  rw [hb]
  exact he
theorem pz_G.imp {pc : Nat} {Q' : pz_Q} (hg : pz_G m pc ls st h Q) (hq : ∀ o h', Q o h' → Q' o h') : pz_G m pc ls st h Q' := by
  obtain ⟨n, o, h', he, q⟩ := hg
  exact ⟨n, o, h', he, hq _ _ q⟩
theorem w_nil (k : pz_G m nx ls st h Q) : pz_W m nx [] ls st h Q := k
theorem w_goto (k : pz_G m a ls st h Q) : pz_W m nx ((8, ins, l, a, b, c, e) :: ops) ls st h Q := by
  obtain ⟨n, o, h', he, q⟩ := k
  exact ⟨n, o, h', he, q⟩
theorem w_pure (h1 : pz_pure ins st = some st') (k : pz_W m nx ops ls st' h Q) : pz_W m nx ((0, ins, l, a, b, c, e) :: ops) ls st h Q := by
  obtain ⟨n, o, h', he, q⟩ := k
  exact ⟨n, o, h', by simp only [pz_ex, h1]; exact he, q⟩
theorem w_loc (h1 : pz_loc ins ls st = some (ls', st')) (k : pz_W m nx ops ls' st' h Q) : pz_W m nx ((1, ins, l, a, b, c, e) :: ops) ls st h Q := by
  obtain ⟨n, o, h', he, q⟩ := k
  exact ⟨n, o, h', by simp only [pz_ex, h1]; exact he, q⟩
theorem w_mem {h2 : pz_H} (h1 : pz_mem ins a b c st h = some (st', h2)) (k : pz_W m nx ops ls st' h2 Q) : pz_W m nx ((2, ins, l, a, b, c, e) :: ops) ls st h Q := by
  obtain ⟨n, o, h', he, q⟩ := k
  exact ⟨n, o, h', by simp only [pz_ex, h1]; exact he, q⟩
theorem w_ldc (k : pz_W m nx ops ls (.inl (a : Int) :: st) h Q) : pz_W m nx ((3, ins, l, a, 0, c, e) :: ops) ls st h Q := by
  obtain ⟨n, o, h', he, q⟩ := k
  exact ⟨n, o, h', by simp only [pz_ex]; exact he, q⟩
theorem w_ldcn (k : pz_W m nx ops ls (.inl (-(a : Int)) :: st) h Q) : pz_W m nx ((3, ins, l, a, 1, c, e) :: ops) ls st h Q := by
  obtain ⟨n, o, h', he, q⟩ := k
  exact ⟨n, o, h', by simp only [pz_ex]; exact he, q⟩
theorem w_ldc2 (k : pz_W m nx ops ls (.inr (.inr (.inl (a : Int))) :: st) h Q) : pz_W m nx ((13, ins, l, a, b, c, e) :: ops) ls st h Q := by
  obtain ⟨n, o, h', he, q⟩ := k
  exact ⟨n, o, h', by simp only [pz_ex]; exact he, q⟩
theorem w_cpy {h2 : pz_H} (h1 : pz_cpy st h = some (st', h2)) (k : pz_W m nx ops ls st' h2 Q) : pz_W m nx ((5, ins, l, a, b, c, e) :: ops) ls st h Q := by
  obtain ⟨n, o, h', he, q⟩ := k
  exact ⟨n, o, h', by simp only [pz_ex, h1]; exact he, q⟩
theorem w_iff {cd : ClassFile.Cond} {o9 : Int} {x y : Int} (k1 : pz_cond cd x y = true → pz_G m a ls st h Q) (k2 : pz_cond cd x y = false → pz_W m nx ops ls st h Q) : pz_W m nx ((9, .if_icmp cd o9, l, a, b, c, e) :: ops) ls (.inl y :: .inl x :: st) h Q := by
  cases hc : pz_cond cd x y with
  | true =>
    obtain ⟨n, o, h', he, q⟩ := k1 hc
    exact ⟨n, o, h', by simp only [pz_ex]; rw [if_pos hc]; exact he, q⟩
  | false =>
    obtain ⟨n, o, h', he, q⟩ := k2 hc
    exact ⟨n, o, h', by simp only [pz_ex]; rw [if_neg (by rw [hc]; decide)]; exact he, q⟩
theorem w_if0 {cd : ClassFile.Cond} {o9 : Int} {x : Int} (k1 : pz_cond cd x 0 = true → pz_G m a ls st h Q) (k2 : pz_cond cd x 0 = false → pz_W m nx ops ls st h Q) : pz_W m nx ((9, .ifCond cd o9, l, a, b, c, e) :: ops) ls (.inl x :: st) h Q := by
  cases hc : pz_cond cd x 0 with
  | true =>
    obtain ⟨n, o, h', he, q⟩ := k1 hc
    exact ⟨n, o, h', by simp only [pz_ex]; rw [if_pos hc]; exact he, q⟩
  | false =>
    obtain ⟨n, o, h', he, q⟩ := k2 hc
    exact ⟨n, o, h', by simp only [pz_ex]; rw [if_neg (by rw [hc]; decide)]; exact he, q⟩
theorem w_ifnull {o9 : Int} {r : Nat} (hr : r ≠ 0) (k2 : pz_W m nx ops ls st h Q) : pz_W m nx ((9, .ifnull o9, l, a, b, c, e) :: ops) ls (.inr (.inl r) :: st) h Q := by
  obtain ⟨n, o, h', he, q⟩ := k2
  exact ⟨n, o, h', by simp only [pz_ex]; rw [if_neg hr]; exact he, q⟩
theorem w_ifnull0 {o9 : Int} (k2 : pz_G m a ls st h Q) : pz_W m nx ((9, .ifnull o9, l, a, b, c, e) :: ops) ls (.inr (.inl 0) :: st) h Q := by
  obtain ⟨n, o, h', he, q⟩ := k2
  exact ⟨n, o, h', by simp only [pz_ex]; rw [if_pos trivial]; exact he, q⟩
/-! branches, by their words -/
theorem w_ieq {o9 : Int} {x y : Int} (k1 : x = y → pz_G m a ls st h Q) (k2 : x ≠ y → pz_W m nx ops ls st h Q) : pz_W m nx ((9, .if_icmp .eq o9, l, a, b, c, e) :: ops) ls (.inl y :: .inl x :: st) h Q := w_iff (fun h => k1 (of_decide_eq_true h)) (fun h => k2 (of_decide_eq_false h))
theorem w_ine {o9 : Int} {x y : Int} (k1 : x ≠ y → pz_G m a ls st h Q) (k2 : x = y → pz_W m nx ops ls st h Q) : pz_W m nx ((9, .if_icmp .ne o9, l, a, b, c, e) :: ops) ls (.inl y :: .inl x :: st) h Q := w_iff (fun h => k1 (of_decide_eq_true h)) (fun h => k2 (Decidable.of_not_not (of_decide_eq_false h)))
theorem w_ilt {o9 : Int} {x y : Int} (k1 : x < y → pz_G m a ls st h Q) (k2 : y ≤ x → pz_W m nx ops ls st h Q) : pz_W m nx ((9, .if_icmp .lt o9, l, a, b, c, e) :: ops) ls (.inl y :: .inl x :: st) h Q := w_iff (fun h => k1 (of_decide_eq_true h)) (fun h => k2 (Int.not_lt.mp (of_decide_eq_false h)))
theorem w_ige {o9 : Int} {x y : Int} (k1 : y ≤ x → pz_G m a ls st h Q) (k2 : x < y → pz_W m nx ops ls st h Q) : pz_W m nx ((9, .if_icmp .ge o9, l, a, b, c, e) :: ops) ls (.inl y :: .inl x :: st) h Q := w_iff (fun h => k1 (of_decide_eq_true h)) (fun h => k2 (Int.not_le.mp (of_decide_eq_false h)))
theorem w_igt {o9 : Int} {x y : Int} (k1 : y < x → pz_G m a ls st h Q) (k2 : x ≤ y → pz_W m nx ops ls st h Q) : pz_W m nx ((9, .if_icmp .gt o9, l, a, b, c, e) :: ops) ls (.inl y :: .inl x :: st) h Q := w_iff (fun h => k1 (of_decide_eq_true h)) (fun h => k2 (Int.not_lt.mp (of_decide_eq_false h)))
theorem w_ile {o9 : Int} {x y : Int} (k1 : x ≤ y → pz_G m a ls st h Q) (k2 : y < x → pz_W m nx ops ls st h Q) : pz_W m nx ((9, .if_icmp .le o9, l, a, b, c, e) :: ops) ls (.inl y :: .inl x :: st) h Q := w_iff (fun h => k1 (of_decide_eq_true h)) (fun h => k2 (Int.not_le.mp (of_decide_eq_false h)))
theorem w_zeq {o9 : Int} {x : Int} (k1 : x = 0 → pz_G m a ls st h Q) (k2 : x ≠ 0 → pz_W m nx ops ls st h Q) : pz_W m nx ((9, .ifCond .eq o9, l, a, b, c, e) :: ops) ls (.inl x :: st) h Q := w_if0 (fun h => k1 (of_decide_eq_true h)) (fun h => k2 (of_decide_eq_false h))
theorem w_zne {o9 : Int} {x : Int} (k1 : x ≠ 0 → pz_G m a ls st h Q) (k2 : x = 0 → pz_W m nx ops ls st h Q) : pz_W m nx ((9, .ifCond .ne o9, l, a, b, c, e) :: ops) ls (.inl x :: st) h Q := w_if0 (fun h => k1 (of_decide_eq_true h)) (fun h => k2 (Decidable.of_not_not (of_decide_eq_false h)))
theorem w_zlt {o9 : Int} {x : Int} (k1 : x < 0 → pz_G m a ls st h Q) (k2 : 0 ≤ x → pz_W m nx ops ls st h Q) : pz_W m nx ((9, .ifCond .lt o9, l, a, b, c, e) :: ops) ls (.inl x :: st) h Q := w_if0 (fun h => k1 (of_decide_eq_true h)) (fun h => k2 (Int.not_lt.mp (of_decide_eq_false h)))
theorem w_zge {o9 : Int} {x : Int} (k1 : 0 ≤ x → pz_G m a ls st h Q) (k2 : x < 0 → pz_W m nx ops ls st h Q) : pz_W m nx ((9, .ifCond .ge o9, l, a, b, c, e) :: ops) ls (.inl x :: st) h Q := w_if0 (fun h => k1 (of_decide_eq_true h)) (fun h => k2 (Int.not_le.mp (of_decide_eq_false h)))
theorem w_zgt {o9 : Int} {x : Int} (k1 : 0 < x → pz_G m a ls st h Q) (k2 : x ≤ 0 → pz_W m nx ops ls st h Q) : pz_W m nx ((9, .ifCond .gt o9, l, a, b, c, e) :: ops) ls (.inl x :: st) h Q := w_if0 (fun h => k1 (of_decide_eq_true h)) (fun h => k2 (Int.not_lt.mp (of_decide_eq_false h)))
theorem w_zle {o9 : Int} {x : Int} (k1 : x ≤ 0 → pz_G m a ls st h Q) (k2 : 0 < x → pz_W m nx ops ls st h Q) : pz_W m nx ((9, .ifCond .le o9, l, a, b, c, e) :: ops) ls (.inl x :: st) h Q := w_if0 (fun h => k1 (of_decide_eq_true h)) (fun h => k2 (Int.not_le.mp (of_decide_eq_false h)))
/-! arithmetic without a wrap -/
theorem pz_wr {z : Int} (h : -2147483648 ≤ z ∧ z ≤ 2147483647) : pz_w z = z := pz_wid h
theorem w_iadd {x y : Int} (hr : -2147483648 ≤ x + y ∧ x + y ≤ 2147483647) (k : pz_W m nx ops ls (.inl (x + y) :: st) h Q) : pz_W m nx ((0, .iadd, l, a, b, c, e) :: ops) ls (.inl y :: .inl x :: st) h Q := w_pure (st' := .inl (x + y) :: st) (by show some (.inl (pz_w (x + y)) :: st) = _; rw [pz_wr hr]) k
theorem w_isub {x y : Int} (hr : -2147483648 ≤ x - y ∧ x - y ≤ 2147483647) (k : pz_W m nx ops ls (.inl (x - y) :: st) h Q) : pz_W m nx ((0, .isub, l, a, b, c, e) :: ops) ls (.inl y :: .inl x :: st) h Q := w_pure (st' := .inl (x - y) :: st) (by show some (.inl (pz_w (x - y)) :: st) = _; rw [pz_wr hr]) k
theorem w_imul {x y : Int} (hr : -2147483648 ≤ x * y ∧ x * y ≤ 2147483647) (k : pz_W m nx ops ls (.inl (x * y) :: st) h Q) : pz_W m nx ((0, .imul, l, a, b, c, e) :: ops) ls (.inl y :: .inl x :: st) h Q := w_pure (st' := .inl (x * y) :: st) (by show some (.inl (pz_w (x * y)) :: st) = _; rw [pz_wr hr]) k
theorem w_ineg {x : Int} (hr : -2147483648 ≤ -x ∧ -x ≤ 2147483647) (k : pz_W m nx ops ls (.inl (-x) :: st) h Q) : pz_W m nx ((0, .ineg, l, a, b, c, e) :: ops) ls (.inl x :: st) h Q := w_pure (st' := .inl (-x) :: st) (by show some (.inl (pz_w (-x)) :: st) = _; rw [pz_wr hr]) k
theorem w_iinc {i : Nat} {n : Int} {x : Int} (h1 : ls[i]? = some (some (.inl x))) (h2 : pz_np ls i = true) (h3 : ls.set i (some (.inl (x + n))) = ls') (hr : -2147483648 ≤ x + n ∧ x + n ≤ 2147483647) (k : pz_W m nx ops ls' st h Q) : pz_W m nx ((1, .iinc i n, l, a, b, c, e) :: ops) ls st h Q := by
  refine w_loc (ls' := ls') (st' := st) ?_ k
  unfold pz_loc
  dsimp only [pz_ldk, pz_stk]
  rw [h1]
  dsimp only
  rw [if_pos h2, pz_wr hr, h3]
/-! memory -/
section PZM
variable {S : pz_S} {iv iv' : Nat → Nat → Int} {D : (Nat → Nat → UInt64) × Nat × Nat}
theorem w_getI {i r : Nat} {v : Int} (h1 : pz_is S r a = true) (hc : c ≠ 9) (hv : iv r b = v) (k : pz_W m nx ops ls (.inl v :: st) (S, iv, D) Q) : pz_W m nx ((2, .getfield i, l, a, b, c, e) :: ops) ls (.inr (.inl r) :: st) (S, iv, D) Q :=
  w_mem (st' := .inl v :: st) (h2 := (S, iv, D)) (by show (if pz_is S r a = true then some ((if c = 9 then (.inr (.inl (S.2.2.2 r b)) : pz_V) else .inl (iv r b)) :: st, (S, iv, D)) else none) = _; rw [if_pos h1, if_neg hc, hv]) k
theorem w_getR {i r q : Nat} (h1 : pz_is S r a = true) (hv : S.2.2.2 r b = q) (k : pz_W m nx ops ls (.inr (.inl q) :: st) (S, iv, D) Q) : pz_W m nx ((2, .getfield i, l, a, b, 9, e) :: ops) ls (.inr (.inl r) :: st) (S, iv, D) Q :=
  w_mem (st' := .inr (.inl q) :: st) (h2 := (S, iv, D)) (by show (if pz_is S r a = true then some ((if 9 = 9 then (.inr (.inl (S.2.2.2 r b)) : pz_V) else .inl (iv r b)) :: st, (S, iv, D)) else none) = _; rw [if_pos h1, if_pos rfl, hv]) k
theorem w_putI {i r : Nat} {v : Int} (h1 : pz_is S r a = true) (hf : pz_fit S c (.inl v) = true) (k : pz_W m nx ops ls st (S, pz_u2 iv r b v, D) Q) : pz_W m nx ((2, .putfield i, l, a, b, c, e) :: ops) ls (.inl v :: .inr (.inl r) :: st) (S, iv, D) Q :=
  w_mem (st' := st) (h2 := (S, pz_u2 iv r b v, D)) (by show (if pz_is S r a = true ∧ pz_fit S c (.inl v) = true then some (st, (S, pz_u2 iv r b v, D)) else none) = _; rw [if_pos ⟨h1, hf⟩]) k
theorem pz_fit0 {v : Int} : pz_fit S 0 (.inl v) = true := rfl
theorem pz_fit1 {v : Int} (h : v = 0 ∨ v = 1) : pz_fit S 1 (.inl v) = true := by rcases h with rfl | rfl <;> rfl
theorem w_iald {r len : Nat} {i v : Int} (h1 : pz_is S r 20 = true) (hl : S.2.2.1 r = len) (hi : 0 ≤ i ∧ i < (len : Int)) (hv : iv r i.toNat = v) (k : pz_W m nx ops ls (.inl v :: st) (S, iv, D) Q) : pz_W m nx ((2, .iaload, l, a, b, c, e) :: ops) ls (.inl i :: .inr (.inl r) :: st) (S, iv, D) Q :=
  w_mem (st' := .inl v :: st) (h2 := (S, iv, D)) (by show (if pz_ia S r = true ∧ 0 ≤ i ∧ i < (S.2.2.1 r : Int) then some (.inl (iv r i.toNat) :: st, (S, iv, D)) else none) = _; rw [hl, if_pos ⟨by unfold pz_ia; rw [h1]; rfl, hi⟩, hv]) k
theorem w_sald {len : Nat} {i v : Int} (hl : S.2.2.1 1 = len) (hi : 0 ≤ i ∧ i < (len : Int)) (hv : iv 1 i.toNat = v) (k : pz_W m nx ops ls (.inl v :: st) (S, iv, D) Q) : pz_W m nx ((2, .iaload, l, a, b, c, e) :: ops) ls (.inl i :: .inr (.inl 1) :: st) (S, iv, D) Q :=
  w_mem (st' := .inl v :: st) (h2 := (S, iv, D)) (by show (if pz_ia S 1 = true ∧ 0 ≤ i ∧ i < (S.2.2.1 1 : Int) then some (.inl (iv 1 i.toNat) :: st, (S, iv, D)) else none) = _; rw [hl, if_pos ⟨by unfold pz_ia; simp, hi⟩, hv]) k
theorem w_bald {r len : Nat} {i v : Int} (h1 : pz_is S r 21 = true) (hl : S.2.2.1 r = len) (hi : 0 ≤ i ∧ i < (len : Int)) (hv : iv r i.toNat = v) (k : pz_W m nx ops ls (.inl v :: st) (S, iv, D) Q) : pz_W m nx ((2, .baload, l, a, b, c, e) :: ops) ls (.inl i :: .inr (.inl r) :: st) (S, iv, D) Q :=
  w_mem (st' := .inl v :: st) (h2 := (S, iv, D)) (by show (if pz_is S r 21 = true ∧ 0 ≤ i ∧ i < (S.2.2.1 r : Int) then some (.inl (iv r i.toNat) :: st, (S, iv, D)) else none) = _; rw [hl, if_pos ⟨h1, hi⟩, hv]) k
theorem w_cald {r len : Nat} {i v : Int} (h1 : pz_is S r 22 = true) (hl : S.2.2.1 r = len) (hi : 0 ≤ i ∧ i < (len : Int)) (hv : iv r i.toNat = v) (k : pz_W m nx ops ls (.inl v :: st) (S, iv, D) Q) : pz_W m nx ((2, .caload, l, a, b, c, e) :: ops) ls (.inl i :: .inr (.inl r) :: st) (S, iv, D) Q :=
  w_mem (st' := .inl v :: st) (h2 := (S, iv, D)) (by show (if pz_is S r 22 = true ∧ 0 ≤ i ∧ i < (S.2.2.1 r : Int) then some (.inl (iv r i.toNat) :: st, (S, iv, D)) else none) = _; rw [hl, if_pos ⟨h1, hi⟩, hv]) k
theorem w_aald {r len q : Nat} {i : Int} (h1 : pz_is S r 23 = true) (hl : S.2.2.1 r = len) (hi : 0 ≤ i ∧ i < (len : Int)) (hv : S.2.2.2 r i.toNat = q) (k : pz_W m nx ops ls (.inr (.inl q) :: st) (S, iv, D) Q) : pz_W m nx ((2, .aaload, l, a, b, c, e) :: ops) ls (.inl i :: .inr (.inl r) :: st) (S, iv, D) Q :=
  w_mem (st' := .inr (.inl q) :: st) (h2 := (S, iv, D)) (by show (if pz_is S r 23 = true ∧ 0 ≤ i ∧ i < (S.2.2.1 r : Int) then some (.inr (.inl (S.2.2.2 r i.toNat)) :: st, (S, iv, D)) else none) = _; rw [hl, if_pos ⟨h1, hi⟩, hv]) k
theorem w_iast {r len : Nat} {i v : Int} (h1 : pz_is S r 20 = true) (hl : S.2.2.1 r = len) (hi : 0 ≤ i ∧ i < (len : Int)) (k : pz_W m nx ops ls st (S, pz_u2 iv r i.toNat v, D) Q) : pz_W m nx ((2, .iastore, l, a, b, c, e) :: ops) ls (.inl v :: .inl i :: .inr (.inl r) :: st) (S, iv, D) Q :=
  w_mem (st' := st) (h2 := (S, pz_u2 iv r i.toNat v, D)) (by show (if pz_is S r 20 = true ∧ 0 ≤ i ∧ i < (S.2.2.1 r : Int) then some (st, (S, pz_u2 iv r i.toNat v, D)) else none) = _; rw [hl, if_pos ⟨h1, hi⟩]) k
theorem w_bast {r len : Nat} {i v : Int} (h1 : pz_is S r 21 = true) (hl : S.2.2.1 r = len) (hi : 0 ≤ i ∧ i < (len : Int)) (hx : v = 0 ∨ v = 1) (k : pz_W m nx ops ls st (S, pz_u2 iv r i.toNat v, D) Q) : pz_W m nx ((2, .bastore, l, a, b, c, e) :: ops) ls (.inl v :: .inl i :: .inr (.inl r) :: st) (S, iv, D) Q :=
  w_mem (st' := st) (h2 := (S, pz_u2 iv r i.toNat v, D)) (by show (if pz_is S r 21 = true ∧ 0 ≤ i ∧ i < (S.2.2.1 r : Int) ∧ (v = 0 ∨ v = 1) then some (st, (S, pz_u2 iv r i.toNat v, D)) else none) = _; rw [hl, if_pos ⟨h1, hi.1, hi.2, hx⟩]) k
theorem w_cast {r len : Nat} {i v : Int} (h1 : pz_is S r 22 = true) (hl : S.2.2.1 r = len) (hi : 0 ≤ i ∧ i < (len : Int)) (hx : 0 ≤ v ∧ v ≤ 65535) (k : pz_W m nx ops ls st (S, pz_u2 iv r i.toNat v, D) Q) : pz_W m nx ((2, .castore, l, a, b, c, e) :: ops) ls (.inl v :: .inl i :: .inr (.inl r) :: st) (S, iv, D) Q :=
  w_mem (st' := st) (h2 := (S, pz_u2 iv r i.toNat v, D)) (by show (if pz_is S r 22 = true ∧ 0 ≤ i ∧ i < (S.2.2.1 r : Int) ∧ 0 ≤ v ∧ v ≤ 65535 then some (st, (S, pz_u2 iv r i.toNat v, D)) else none) = _; rw [hl, if_pos ⟨h1, hi.1, hi.2, hx⟩]) k
theorem w_alen {r len : Nat} (h1 : pz_aa S r = true) (hl : S.2.2.1 r = len) (k : pz_W m nx ops ls (.inl (len : Int) :: st) (S, iv, D) Q) : pz_W m nx ((2, .arraylength, l, a, b, c, e) :: ops) ls (.inr (.inl r) :: st) (S, iv, D) Q :=
  w_mem (st' := .inl (len : Int) :: st) (h2 := (S, iv, D)) (by show (if pz_aa S r = true then some (.inl (S.2.2.1 r : Int) :: st, (S, iv, D)) else none) = _; rw [hl, if_pos h1]) k
/-! what a call does: the outcome, and the ints behind it; a throw makes a cell -/
def pz_x : Option pz_V ⊕ Nat → Nat
  | .inl _ => 0
  | .inr _ => 1
def pz_R (S : pz_S) (a : Nat) (as : List pz_V) (iv : Nat → Nat → Int) (o : Option pz_V ⊕ Nat) (iv' : Nat → Nat → Int) : Prop :=
  ∀ (dv : Nat → Nat → UInt64) (c s : Nat), pz_G a 0 (pz_en a as) [] (S, iv, dv, c, s) (fun o' h' => o' = o ∧ h' = (S, iv', dv, c + pz_x o, s + 6 * pz_x o))
def pz_cok (S : pz_S) (b c : Nat) (as rest : List pz_V) : Bool := decide (as.length = b) && (decide (rest.length ≤ 4) && (as.all (fun v => pz_cat v == 1) && (decide (c = 99) || (match as with | .inr (.inl r) :: _ => pz_is S r c | _ => false))))
theorem pz_call_ex {n : Nat} {as rest : List pz_V} {o : Option pz_V ⊕ Nat} {h1 : pz_H} (hst : st = as.reverse ++ rest) (hk : pz_cok h.1 b c as rest = true) (hr : pz_run n a 0 (pz_en a as) [] h = some (o, h1)) :
    pz_ex (pz_Cn n) (pz_Jn n m) (pz_hc m) nx ((4, ins, l, a, b, c, e) :: ops) ls st h = (match o with
      | .inl none => pz_ex (pz_Cn n) (pz_Jn n m) (pz_hc m) nx ops ls rest h1
      | .inl (some v) => pz_ex (pz_Cn n) (pz_Jn n m) (pz_hc m) nx ops ls (v :: rest) h1
      | .inr E => (match pz_lk (pz_hc m) E with
          | some k => some (.inl (some (.inl (pz_hv k))), h1)
          | none => some (.inr E, h1))) := by
  unfold pz_cok at hk
  simp only [Bool.and_eq_true, decide_eq_true_eq, Bool.or_eq_true] at hk
  obtain ⟨k1, k2, k3, k4⟩ := hk
  have hb : (as.reverse).length = b := by rw [List.length_reverse]; exact k1
  have ht : st.take b = as.reverse := by rw [hst, List.take_left' hb]
  have hd : st.drop b = rest := by rw [hst, List.drop_left' hb]
  have hr' : pz_Cn n a as h = some (o, h1) := hr
  simp only [pz_ex]
  rw [ht, hd, List.reverse_reverse]
  rw [if_pos ⟨by rw [hst, List.length_append]; omega, k2, by rw [List.all_reverse]; exact k3, k4⟩, hr']
  rcases o with (- | v) | E <;> rfl
theorem pz_call_w {as rest : List pz_V} {o : Option pz_V ⊕ Nat} {h1 : pz_H} {n : Nat} (hst : st = as.reverse ++ rest) (hk : pz_cok h.1 b c as rest = true) (hr : pz_run n a 0 (pz_en a as) [] h = some (o, h1))
    (k : match o with
      | .inl none => pz_W m nx ops ls rest h1 Q
      | .inl (some v) => pz_W m nx ops ls (v :: rest) h1 Q
      | .inr E => (match pz_lk (pz_hc m) E with
          | some k => Q (.inl (some (.inl (pz_hv k)))) h1
          | none => Q (.inr E) h1)) : pz_W m nx ((4, ins, l, a, b, c, e) :: ops) ls st h Q := by
  rcases o with (- | v) | E
  · obtain ⟨n2, o2, h2, he, q⟩ := k
    refine ⟨max n n2, o2, h2, ?_, q⟩
    rw [pz_call_ex hst hk (pz_run_mono (Nat.le_max_left n n2) hr)]
    exact pz_exm (Nat.le_max_right n n2) he
  · obtain ⟨n2, o2, h2, he, q⟩ := k
    refine ⟨max n n2, o2, h2, ?_, q⟩
    rw [pz_call_ex hst hk (pz_run_mono (Nat.le_max_left n n2) hr)]
    exact pz_exm (Nat.le_max_right n n2) he
  · dsimp only at k
    cases hl : pz_lk (pz_hc m) E with
    | none =>
      rw [hl] at k
      refine ⟨n, _, _, ?_, k⟩
      rw [pz_call_ex hst hk hr]
      dsimp only
      rw [hl]
    | some q =>
      rw [hl] at k
      refine ⟨n, _, _, ?_, k⟩
      rw [pz_call_ex hst hk hr]
      dsimp only
      rw [hl]
theorem w_call {as rest : List pz_V} {v : pz_V} (hr : pz_R S a as iv (.inl (some v)) iv') (hst : st = as.reverse ++ rest) (hk : pz_cok S b c as rest = true) (k : pz_W m nx ops ls (v :: rest) (S, iv', D) Q) : pz_W m nx ((4, ins, l, a, b, c, e) :: ops) ls st (S, iv, D) Q := by
  obtain ⟨dv, cc, ss⟩ := D
  obtain ⟨n, o, h1, he, rfl, rfl⟩ := hr dv cc ss
  exact pz_call_w hst hk he k
theorem w_callv {as rest : List pz_V} (hr : pz_R S a as iv (.inl none) iv') (hst : st = as.reverse ++ rest) (hk : pz_cok S b c as rest = true) (k : pz_W m nx ops ls rest (S, iv', D) Q) : pz_W m nx ((4, ins, l, a, b, c, e) :: ops) ls st (S, iv, D) Q := by
  obtain ⟨dv, cc, ss⟩ := D
  obtain ⟨n, o, h1, he, rfl, rfl⟩ := hr dv cc ss
  exact pz_call_w hst hk he k
theorem w_calle {as rest : List pz_V} {E : Nat} {dv : Nat → Nat → UInt64} {cc ss : Nat} (hr : pz_R S a as iv (.inr E) iv') (hst : st = as.reverse ++ rest) (hk : pz_cok S b c as rest = true) (hl : pz_lk (pz_hc m) E = none) (k : Q (.inr E) (S, iv', dv, cc + 1, ss + 6)) : pz_W m nx ((4, ins, l, a, b, c, e) :: ops) ls st (S, iv, dv, cc, ss) Q := by
  obtain ⟨n, o, h1, he, rfl, rfl⟩ := hr dv cc ss
  refine pz_call_w hst hk he ?_
  dsimp only
  rw [hl]
  exact k
theorem w_callh {as rest : List pz_V} {E q : Nat} {dv : Nat → Nat → UInt64} {cc ss : Nat} (hr : pz_R S a as iv (.inr E) iv') (hst : st = as.reverse ++ rest) (hk : pz_cok S b c as rest = true) (hl : pz_lk (pz_hc m) E = some q) (k : Q (.inl (some (.inl (pz_hv q)))) (S, iv', dv, cc + 1, ss + 6)) : pz_W m nx ((4, ins, l, a, b, c, e) :: ops) ls st (S, iv, dv, cc, ss) Q := by
  obtain ⟨n, o, h1, he, rfl, rfl⟩ := hr dv cc ss
  refine pz_call_w hst hk he ?_
  dsimp only
  rw [hl]
  exact k
theorem w_thr {dv : Nat → Nat → UInt64} {cc ss : Nat} (hl : st.length ≤ 4) (k : Q (.inr a) (S, iv, dv, cc + 1, ss + 6)) : pz_W m nx ((7, ins, l, a, b, c, e) :: ops) ls st (S, iv, dv, cc, ss) Q :=
  ⟨0, _, _, by simp only [pz_ex]; rw [if_pos hl], k⟩
end PZM
theorem w_ret {v : pz_V} (hv : pz_rok a v = true) (k : Q (.inl (some v)) h) : pz_W m nx ((10, ins, l, a, b, c, e) :: ops) ls [v] h Q := ⟨0, _, _, by simp only [pz_ex]; rw [if_pos hv], k⟩
theorem pz_rok1 {v : Int} (h : v = 0 ∨ v = 1) : pz_rok 1 (.inl v) = true := by rcases h with rfl | rfl <;> rfl
theorem pz_rok2 {v : Int} (h : 0 ≤ v ∧ v ≤ 65535) : pz_rok 2 (.inl v) = true := by unfold pz_rok; simp [h]
theorem w_vret (k : Q (.inl none) h) : pz_W m nx ((11, ins, l, a, b, c, e) :: ops) ls [] h Q := ⟨0, _, _, by simp only [pz_ex], k⟩
end PZW
/-! rows of the memory, replaced one by one -/
def pz_up {α : Type} (f : Nat → α) (k : Nat) (x : α) : Nat → α := fun j => if j = k then x else f j
theorem pz_up_at {α : Type} (f : Nat → α) (k : Nat) (x : α) (j : Nat) : pz_up f k x j = if j = k then x else f j := rfl
theorem pz_u1_self (iv : Nat → Nat → Int) (r : Nat) : pz_u1 iv r (iv r) = iv := by
  funext r'
  rw [pz_u1_at]
  split
  · rename_i h; rw [h]
  · rfl
theorem pz_u1_top (iv : Nat → Nat → Int) (r : Nat) (f g : Nat → Int) : pz_u1 (pz_u1 iv r f) r g = pz_u1 iv r g := by
  funext r'
  rw [pz_u1_at, pz_u1_at, pz_u1_at]
  split <;> rfl
theorem pz_u1_in {r q : Nat} (h : r ≠ q) {iv : Nat → Nat → Int} {f g : Nat → Int} : pz_u1 (pz_u1 iv q f) r g = pz_u1 (pz_u1 iv r g) q f := by
  funext r'
  simp only [pz_u1_at]
  by_cases h1 : r' = r
  · rw [if_pos h1, if_pos h1, if_neg (by omega)]
  · rw [if_neg h1, if_neg h1]
theorem pz_u2_top (iv : Nat → Nat → Int) (r : Nat) (f : Nat → Int) (k : Nat) (v : Int) : pz_u2 (pz_u1 iv r f) r k v = pz_u1 iv r (pz_up f k v) := by
  funext r' k'
  rw [pz_u2_at, pz_u1_at, pz_u1_at]
  by_cases h1 : r' = r
  · rw [if_pos h1, if_pos h1, pz_up_at]
    by_cases h2 : k' = k
    · rw [if_pos ⟨h1, h2⟩, if_pos h2]
    · rw [if_neg (fun h => h2 h.2), if_neg h2]
  · rw [if_neg (fun h => h1 h.1), if_neg h1, if_neg h1]
theorem pz_u2_in {r q : Nat} (h : r ≠ q) {iv : Nat → Nat → Int} {f : Nat → Int} {k : Nat} {v : Int} : pz_u2 (pz_u1 iv q f) r k v = pz_u1 (pz_u2 iv r k v) q f := by
  funext r' k'
  simp only [pz_u2_at, pz_u1_at]
  by_cases h1 : r' = q
  · rw [if_pos h1, if_pos h1, if_neg (fun h2 => h (by rw [← h1, h2.1]))]
  · rw [if_neg h1, if_neg h1]
    rfl
theorem pz_u2_row (iv : Nat → Nat → Int) (r k : Nat) (v : Int) : pz_u2 iv r k v = pz_u1 iv r (pz_up (iv r) k v) := by
  funext r' k'
  rw [pz_u2_at, pz_u1_at]
  by_cases h1 : r' = r
  · subst h1
    rw [if_pos rfl, pz_up_at]
    by_cases h2 : k' = k
    · rw [if_pos ⟨rfl, h2⟩, if_pos h2]
    · rw [if_neg (fun h => h2 h.2), if_neg h2]
  · rw [if_neg (fun h => h1 h.1), if_neg h1]
/-- a truth as an int -/
noncomputable def pz_bi (p : Prop) : Int := @ite _ p (Classical.propDecidable p) 1 0
theorem pz_bi_1 {p : Prop} (h : p) : pz_bi p = 1 := if_pos h
theorem pz_bi_0 {p : Prop} (h : ¬ p) : pz_bi p = 0 := if_neg h
theorem pz_bi_t {p : Prop} (h : p) : (1 : Int) = pz_bi p := (pz_bi_1 h).symm
theorem pz_bi_f {p : Prop} (h : ¬ p) : (0 : Int) = pz_bi p := (pz_bi_0 h).symm
theorem pz_bi_iff {p q : Prop} (h : p ↔ q) : pz_bi p = pz_bi q := by
  by_cases hp : p
  · rw [pz_bi_1 hp, pz_bi_1 (h.mp hp)]
  · rw [pz_bi_0 hp, pz_bi_0 (fun k => hp (h.mpr k))]
theorem pz_bi01 (p : Prop) : pz_bi p = 0 ∨ pz_bi p = 1 := by
  by_cases hp : p
  · exact Or.inr (pz_bi_1 hp)
  · exact Or.inl (pz_bi_0 hp)
theorem pz_bi_ne {p : Prop} (h : pz_bi p ≠ 0) : p := by
  by_cases hp : p
  · exact hp
  · exact absurd (pz_bi_0 hp) h
theorem pz_bi_eq {p : Prop} (h : pz_bi p = 0) : ¬ p := by
  intro hp
  rw [pz_bi_1 hp] at h
  cases h
/-- a place that isn't of two places -/
def pz_nc : Option pz_V → Bool
  | some v => pz_cat v == 1
  | none => true
theorem pz_np_u {lc : pz_L} {j : Nat} {u : Option pz_V} (h : lc[j]? = some u) (hu : pz_nc u = true) : pz_np lc (j + 1) = true := by
  show (match lc[j]? with
    | some (some v) => pz_cat v == 1
    | _ => true) = true
  rw [h]
  rcases u with - | v
  · rfl
  · exact hu
section PZV
variable {m nx l a b c e : Nat} {ins : Instr} {ops : List pz_Op} {lc lc' : pz_L} {sk sk' : List pz_V} {h : pz_H} {Q : pz_Q}
theorem w_beq {o9 : Int} {p : Prop} (k1 : ¬ p → pz_G m a lc sk h Q) (k2 : p → pz_W m nx ops lc sk h Q) : pz_W m nx ((9, .ifCond .eq o9, l, a, b, c, e) :: ops) lc (.inl (pz_bi p) :: sk) h Q := w_zeq (fun h => k1 (pz_bi_eq h)) (fun h => k2 (pz_bi_ne h))
theorem w_bne {o9 : Int} {p : Prop} (k1 : p → pz_G m a lc sk h Q) (k2 : ¬ p → pz_W m nx ops lc sk h Q) : pz_W m nx ((9, .ifCond .ne o9, l, a, b, c, e) :: ops) lc (.inl (pz_bi p) :: sk) h Q := w_zne (fun h => k1 (pz_bi_ne h)) (fun h => k2 (pz_bi_eq h))
theorem w_st {k i : Nat} {v : pz_V} (h1 : pz_ldk ins = none) (h2 : pz_stk ins = some (k, i)) (h3 : pz_kd v = k) (h4 : i + (pz_cat v - 1) < lc.length) (h5 : pz_np lc i = true) (h6 : pz_set lc i v = lc') (kk : pz_W m nx ops lc' sk h Q) : pz_W m nx ((1, ins, l, a, b, c, e) :: ops) lc (v :: sk) h Q := by
  refine w_loc (ls' := lc') (st' := sk) ?_ kk
  unfold pz_loc
  rw [h1, h2]
  dsimp only
  rw [if_pos ⟨h3, h4, h5⟩, h6]
theorem w_ldcv {v : Int} (hv : (a : Int) = v) (k : pz_W m nx ops lc (.inl v :: sk) h Q) : pz_W m nx ((3, ins, l, a, 0, c, e) :: ops) lc sk h Q := w_ldc (by rw [hv]; exact k)
def pz_shl (x y : Int) : Int := (Int32.ofInt x <<< (Int32.ofInt y &&& 31)).toInt
def pz_shr (x y : Int) : Int := (Int32.ofInt x >>> (Int32.ofInt y &&& 31)).toInt
def pz_and (x y : Int) : Int := (Int32.ofInt x &&& Int32.ofInt y).toInt
def pz_or (x y : Int) : Int := (Int32.ofInt x ||| Int32.ofInt y).toInt
def pz_xor (x y : Int) : Int := (Int32.ofInt x ^^^ Int32.ofInt y).toInt
def pz_rem (x y : Int) : Int := x.tmod y
def pz_div (x y : Int) : Int := pz_w (x.tdiv y)
theorem w_ishl {x y : Int} (k : pz_W m nx ops lc (.inl (pz_shl x y) :: sk) h Q) : pz_W m nx ((0, .ishl, l, a, b, c, e) :: ops) lc (.inl y :: .inl x :: sk) h Q := w_pure rfl k
theorem w_ishr {x y : Int} (k : pz_W m nx ops lc (.inl (pz_shr x y) :: sk) h Q) : pz_W m nx ((0, .ishr, l, a, b, c, e) :: ops) lc (.inl y :: .inl x :: sk) h Q := w_pure rfl k
theorem w_iand {x y : Int} (k : pz_W m nx ops lc (.inl (pz_and x y) :: sk) h Q) : pz_W m nx ((0, .iand, l, a, b, c, e) :: ops) lc (.inl y :: .inl x :: sk) h Q := w_pure rfl k
theorem w_ior {x y : Int} (k : pz_W m nx ops lc (.inl (pz_or x y) :: sk) h Q) : pz_W m nx ((0, .ior, l, a, b, c, e) :: ops) lc (.inl y :: .inl x :: sk) h Q := w_pure rfl k
theorem w_ixor {x y : Int} (k : pz_W m nx ops lc (.inl (pz_xor x y) :: sk) h Q) : pz_W m nx ((0, .ixor, l, a, b, c, e) :: ops) lc (.inl y :: .inl x :: sk) h Q := w_pure rfl k
theorem w_irem {x y : Int} (hy : y ≠ 0) (k : pz_W m nx ops lc (.inl (pz_rem x y) :: sk) h Q) : pz_W m nx ((0, .irem, l, a, b, c, e) :: ops) lc (.inl y :: .inl x :: sk) h Q := w_pure (st' := .inl (pz_rem x y) :: sk) (by show (if y = 0 then none else some (.inl (x.tmod y) :: sk)) = _; rw [if_neg hy]; rfl) k
theorem w_idiv {x y : Int} (hy : y ≠ 0) (k : pz_W m nx ops lc (.inl (pz_div x y) :: sk) h Q) : pz_W m nx ((0, .idiv, l, a, b, c, e) :: ops) lc (.inl y :: .inl x :: sk) h Q := w_pure (st' := .inl (pz_div x y) :: sk) (by show (if y = 0 then none else some (.inl (pz_w (x.tdiv y)) :: sk)) = _; rw [if_neg hy]; rfl) k
theorem w_i2c {x : Int} (hx : 0 ≤ x ∧ x ≤ 65535) (k : pz_W m nx ops lc (.inl x :: sk) h Q) : pz_W m nx ((0, .i2c, l, a, b, c, e) :: ops) lc (.inl x :: sk) h Q := w_pure (st' := .inl x :: sk) (by show some (.inl (x % 65536) :: sk) = _; rw [Int.emod_eq_of_lt hx.1 (by omega)]) k
theorem w_ladd {x y : Int} (hr : -9223372036854775808 ≤ x + y ∧ x + y ≤ 9223372036854775807) (k : pz_W m nx ops lc (.inr (.inr (.inl (x + y))) :: sk) h Q) : pz_W m nx ((0, .ladd, l, a, b, c, e) :: ops) lc (.inr (.inr (.inl y)) :: .inr (.inr (.inl x)) :: sk) h Q := w_pure (st' := .inr (.inr (.inl (x + y))) :: sk) (by show some (.inr (.inr (.inl (pz_wl (x + y)))) :: sk) = _; rw [show pz_wl (x + y) = x + y from pz_lof hr]) k
section PZU
variable {S : pz_S} {iv iv' iv2 : Nat → Nat → Int} {D : (Nat → Nat → UInt64) × Nat × Nat}
theorem w_putIm {i r : Nat} {v : Int} (h1 : pz_is S r a = true) (hf : pz_fit S c (.inl v) = true) (hm : pz_u2 iv r b v = iv2) (k : pz_W m nx ops lc sk (S, iv2, D) Q) : pz_W m nx ((2, .putfield i, l, a, b, c, e) :: ops) lc (.inl v :: .inr (.inl r) :: sk) (S, iv, D) Q := w_putI h1 hf (by rw [hm]; exact k)
theorem w_iastm {r len : Nat} {i v : Int} (h1 : pz_is S r 20 = true) (hl : S.2.2.1 r = len) (hi : 0 ≤ i ∧ i < (len : Int)) (hm : pz_u2 iv r i.toNat v = iv2) (k : pz_W m nx ops lc sk (S, iv2, D) Q) : pz_W m nx ((2, .iastore, l, a, b, c, e) :: ops) lc (.inl v :: .inl i :: .inr (.inl r) :: sk) (S, iv, D) Q := w_iast h1 hl hi (by rw [hm]; exact k)
theorem w_bastm {r len : Nat} {i v : Int} (h1 : pz_is S r 21 = true) (hl : S.2.2.1 r = len) (hi : 0 ≤ i ∧ i < (len : Int)) (hx : v = 0 ∨ v = 1) (hm : pz_u2 iv r i.toNat v = iv2) (k : pz_W m nx ops lc sk (S, iv2, D) Q) : pz_W m nx ((2, .bastore, l, a, b, c, e) :: ops) lc (.inl v :: .inl i :: .inr (.inl r) :: sk) (S, iv, D) Q := w_bast h1 hl hi hx (by rw [hm]; exact k)
theorem w_castm {r len : Nat} {i v : Int} (h1 : pz_is S r 22 = true) (hl : S.2.2.1 r = len) (hi : 0 ≤ i ∧ i < (len : Int)) (hx : 0 ≤ v ∧ v ≤ 65535) (hm : pz_u2 iv r i.toNat v = iv2) (k : pz_W m nx ops lc sk (S, iv2, D) Q) : pz_W m nx ((2, .castore, l, a, b, c, e) :: ops) lc (.inl v :: .inl i :: .inr (.inl r) :: sk) (S, iv, D) Q := w_cast h1 hl hi hx (by rw [hm]; exact k)
theorem pz_G_mem {pc : Nat} (hm : iv = iv2) (k : pz_G m pc lc sk (S, iv2, D) Q) : pz_G m pc lc sk (S, iv, D) Q := by rw [hm]; exact k
theorem pz_R_mem {as : List pz_V} {o : Option pz_V ⊕ Nat} (h : pz_R S a as iv o iv') (hm : iv' = iv2) : pz_R S a as iv o iv2 := by rw [← hm]; exact h
/-! the ends of runs -/
theorem lf_i {x y : Int} {dv : Nat → Nat → UInt64} {cc ss : Nat} (hv : x = y) (hm : iv' = iv2) : (.inl (some (.inl x)) : Option pz_V ⊕ Nat) = .inl (some (.inl y)) ∧ ((S, iv', dv, cc, ss) : pz_H) = (S, iv2, dv, cc + pz_x (.inl (some (.inl y))), ss + 6 * pz_x (.inl (some (.inl y)))) := by rw [hv, hm]; exact ⟨rfl, rfl⟩
theorem lf_j {x y : Int} {dv : Nat → Nat → UInt64} {cc ss : Nat} (hv : x = y) (hm : iv' = iv2) : (.inl (some (.inr (.inr (.inl x)))) : Option pz_V ⊕ Nat) = .inl (some (.inr (.inr (.inl y)))) ∧ ((S, iv', dv, cc, ss) : pz_H) = (S, iv2, dv, cc + pz_x (.inl (some (.inr (.inr (.inl y))))), ss + 6 * pz_x (.inl (some (.inr (.inr (.inl y)))))) := by rw [hv, hm]; exact ⟨rfl, rfl⟩
theorem lf_r {x y : Nat} {dv : Nat → Nat → UInt64} {cc ss : Nat} (hv : x = y) (hm : iv' = iv2) : (.inl (some (.inr (.inl x))) : Option pz_V ⊕ Nat) = .inl (some (.inr (.inl y))) ∧ ((S, iv', dv, cc, ss) : pz_H) = (S, iv2, dv, cc + pz_x (.inl (some (.inr (.inl y)))), ss + 6 * pz_x (.inl (some (.inr (.inl y))))) := by rw [hv, hm]; exact ⟨rfl, rfl⟩
theorem lf_v {dv : Nat → Nat → UInt64} {cc ss : Nat} (hm : iv' = iv2) : (.inl none : Option pz_V ⊕ Nat) = .inl none ∧ ((S, iv', dv, cc, ss) : pz_H) = (S, iv2, dv, cc + pz_x (.inl none), ss + 6 * pz_x (.inl none)) := by rw [hm]; exact ⟨rfl, rfl⟩
theorem lf_e {E : Nat} {dv : Nat → Nat → UInt64} {cc ss : Nat} (hm : iv' = iv2) : (.inr E : Option pz_V ⊕ Nat) = .inr E ∧ ((S, iv', dv, cc + 1, ss + 6) : pz_H) = (S, iv2, dv, cc + pz_x (.inr E), ss + 6 * pz_x (.inr E)) := by rw [hm]; exact ⟨rfl, rfl⟩
end PZU
end PZV
