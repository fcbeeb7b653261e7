/-! a run over lists, for what the constructors do: such a run is a run of the evaluator, whatever the script is -/
/-! numbers by their values -/
def pz_fn {β : Type} (n : Nat) (k : Nat → β) : β := match n with
  | 0 => k 0
  | m + 1 => k (m + 1)
theorem pz_fn_eq {β : Type} (n : Nat) (k : Nat → β) : pz_fn n k = k n := by cases n <;> rfl
def pz_fz {β : Type} (z : Int) (k : Int → β) : β := match z with
  | .ofNat n => pz_fn n (fun n => k (.ofNat n))
  | .negSucc n => pz_fn n (fun n => k (.negSucc n))
theorem pz_fz_eq {β : Type} (z : Int) (k : Int → β) : pz_fz z k = k z := by
  cases z with
  | ofNat n => exact pz_fn_eq n (fun n => k (.ofNat n))
  | negSucc n => exact pz_fn_eq n (fun n => k (.negSucc n))
def pz_fvl {β : Type} (v : pz_V) (k : pz_V → β) : β := match v with
  | .inl z => pz_fz z (fun z => k (.inl z))
  | .inr (.inl r) => pz_fn r (fun r => k (.inr (.inl r)))
  | .inr (.inr w) => k (.inr (.inr w))
theorem pz_fvl_eq {β : Type} (v : pz_V) (k : pz_V → β) : pz_fvl v k = k v := by
  rcases v with z | r | w
  · exact pz_fz_eq z (fun z => k (.inl z))
  · exact pz_fn_eq r (fun r => k (.inr (.inl r)))
  · rfl
def pz_l2 : List (Nat × Nat × Int) → Nat → Nat → Int
  | [], _, _ => 0
  | (r, j, x) :: l, r', j' => if r' = r ∧ j' = j then x else pz_l2 l r' j'
def pz_l1 : List (Nat × Nat × Nat) → Nat → Nat → Nat
  | [], _, _ => 0
  | (r, j, x) :: l, r', j' => if r' = r ∧ j' = j then x else pz_l1 l r' j'
/-- of a cell's number, kind and length -/
def pz_lk1 : List (Nat × Nat × Nat) → Nat → Nat
  | [], _ => 20
  | (r, k, _) :: l, r' => if r' = r then k else pz_lk1 l r'
def pz_ll1 : List (Nat × Nat × Nat) → Nat → Nat
  | [], _ => 0
  | (r, _, m) :: l, r' => if r' = r then m else pz_ll1 l r'
/-- known cells; their kinds and lengths; references; ints; counts -/
abbrev pz_aH : Type := Nat × List (Nat × Nat × Nat) × List (Nat × Nat × Nat) × List (Nat × Nat × Int) × Nat × Nat
abbrev pz_aO : Type := (Option pz_V ⊕ Nat) × pz_aH
def pz_dh (L : Nat) (xs : Nat → Int32) (h : pz_aH) : pz_H :=
  ((h.1, pz_lk1 h.2.1, fun r => if r = 1 then L else pz_ll1 h.2.1 r, pz_l1 h.2.2.1),
   fun r j => if r = 1 then (xs j).toInt else pz_l2 h.2.2.2.1 r j, fun _ _ => 0, h.2.2.2.2.1, h.2.2.2.2.2)
/-- what isn't made yet is zero -/
def pz_az (h : pz_aH) : Prop := ∀ r j, h.1 + 2 ≤ r → pz_l1 h.2.2.1 r j = 0 ∧ pz_l2 h.2.2.2.1 r j = 0
/-- r is a known cell of the kind c -/
def pz_ai (h : pz_aH) (r c : Nat) : Bool := Nat.ble 2 r && (Nat.blt r (h.1 + 2) && Nat.beq (pz_lk1 h.2.1 r) c)
def pz_sget (h : pz_aH) (r a b c : Nat) (sk : List pz_V) : Option (List pz_V × pz_aH) := if pz_ai h r a = true then (if c = 9 then pz_fn (pz_l1 h.2.2.1 r b) (fun q => some (.inr (.inl q) :: sk, h)) else pz_fz (pz_l2 h.2.2.2.1 r b) (fun z => some (.inl z :: sk, h))) else none
def pz_sputI (h : pz_aH) (r a b c : Nat) (x : Int) (sk : List pz_V) : Option (List pz_V × pz_aH) := if (pz_ai h r a && (Nat.beq c 0 || (Nat.beq c 1 && (decide (x = 0) || decide (x = 1))))) = true then some (sk, (h.1, h.2.1, h.2.2.1, (r, b, x) :: h.2.2.2.1, h.2.2.2.2)) else none
def pz_sputR (h : pz_aH) (r a b c q : Nat) (sk : List pz_V) : Option (List pz_V × pz_aH) := if (pz_ai h r a && (Nat.beq c 9 && (Nat.beq q 0 || (Nat.ble 2 q && Nat.blt q (h.1 + 2))))) = true then some (sk, (h.1, h.2.1, (r, b, q) :: h.2.2.1, h.2.2.2)) else none
def pz_siast (h : pz_aH) (r i : Nat) (x : Int) (sk : List pz_V) : Option (List pz_V × pz_aH) := if (pz_ai h r 20 && Nat.blt i (pz_ll1 h.2.1 r)) = true then some (sk, (h.1, h.2.1, h.2.2.1, (r, i, x) :: h.2.2.2.1, h.2.2.2.2)) else none
def pz_scast (h : pz_aH) (r i x : Nat) (sk : List pz_V) : Option (List pz_V × pz_aH) := if (pz_ai h r 22 && (Nat.blt i (pz_ll1 h.2.1 r) && Nat.ble x 65535)) = true then some (sk, (h.1, h.2.1, h.2.2.1, (r, i, .ofNat x) :: h.2.2.2.1, h.2.2.2.2)) else none
def pz_saast (h : pz_aH) (r i q : Nat) (sk : List pz_V) : Option (List pz_V × pz_aH) := if (pz_ai h r 23 && (Nat.blt i (pz_ll1 h.2.1 r) && pz_ai h q 6)) = true then some (sk, (h.1, h.2.1, (r, i, q) :: h.2.2.1, h.2.2.2)) else none
def pz_snew (h : pz_aH) (kd ln sl : Nat) (sk : List pz_V) : Option (List pz_V × pz_aH) := pz_fn (h.1 + 1) (fun n1 => pz_fn (h.2.2.2.2.1 + 1) (fun cs => pz_fn (h.2.2.2.2.2 + sl) (fun ss => some (.inr (.inl (n1 + 1)) :: sk, (n1, (n1 + 1, kd, ln) :: h.2.1, h.2.2.1, h.2.2.2.1, cs, ss)))))
def pz_sm (ins : Instr) (a b c : Nat) (sk : List pz_V) (h : pz_aH) : Option (List pz_V × pz_aH) := match ins, sk with
  | .getfield _, .inr (.inl r) :: sk => pz_sget h r a b c sk
  | .putfield _, .inl x :: .inr (.inl r) :: sk => pz_sputI h r a b c x sk
  | .putfield _, .inr (.inl q) :: .inr (.inl r) :: sk => pz_sputR h r a b c q sk
  | .iastore, .inl x :: .inl (.ofNat i) :: .inr (.inl r) :: sk => pz_siast h r i x sk
  | .castore, .inl (.ofNat x) :: .inl (.ofNat i) :: .inr (.inl r) :: sk => pz_scast h r i x sk
  | .aastore, .inr (.inl q) :: .inl (.ofNat i) :: .inr (.inl r) :: sk => pz_saast h r i q sk
  | .new _, sk => pz_snew h a 0 b sk
  | .newarray _, .inl (.ofNat m) :: sk => if Nat.ble m 2048 = true then pz_snew h a m m sk else none
  | .anewarray _, .inl (.ofNat m) :: sk => if Nat.ble m 2048 = true then pz_snew h 23 m m sk else none
  | _, _ => none
def pz_sx (C : Nat → List pz_V → pz_aH → Option pz_aO) (J : Nat → pz_L → List pz_V → pz_aH → Option pz_aO) (nx : Nat) : List pz_Op → pz_L → List pz_V → pz_aH → Option pz_aO
  | [], ls, st, h => J nx ls st h
  | (g, ins, _, a, b, c, _) :: ops, ls, st, h => match g with
    | 0 => (match pz_pure ins st with
      | some (v :: st') => pz_fvl v (fun v => pz_sx C J nx ops ls (v :: st') h)
      | some [] => pz_sx C J nx ops ls [] h
      | none => none)
    | 1 => (match pz_loc ins ls st with
      | some (ls', st') => pz_sx C J nx ops ls' st' h
      | none => none)
    | 2 => (match pz_sm ins a b c st h with
      | some (st', h') => pz_sx C J nx ops ls st' h'
      | none => none)
    | 3 => pz_sx C J nx ops ls (.inl (pz_cst a b) :: st) h
    | 4 => if b ≤ st.length ∧ (st.drop b).length ≤ 4 ∧ (st.take b).all (fun v => pz_cat v == 1) = true ∧ (c = 99 ∨ (match (st.take b).reverse with | .inr (.inl r) :: _ => pz_ai h r c | _ => false) = true) then
        (match C a (st.take b).reverse h with
        | some (.inl none, h') => pz_sx C J nx ops ls (st.drop b) h'
        | some (.inl (some v), h') => pz_sx C J nx ops ls (v :: st.drop b) h'
        | _ => none)
      else none
    | 6 => (match st with
      | .inr (.inl r) :: st' => if 2 ≤ r ∧ st'.length ≤ 4 then pz_sx C J nx ops ls st' h else none
      | _ => none)
    | 8 => J a ls st h
    | 9 => (match ins, st with
      | .ifCond cd _, .inl x :: st' => if pz_cond cd x 0 = true then J a ls st' h else pz_sx C J nx ops ls st' h
      | .if_icmp cd _, .inl y :: .inl x :: st' => if pz_cond cd x y = true then J a ls st' h else pz_sx C J nx ops ls st' h
      | _, _ => none)
    | 11 => (match st with
      | [] => some (.inl none, h)
      | _ => none)
    | _ => none
def pz_srun : Nat → Nat → Nat → pz_L → List pz_V → pz_aH → Option pz_aO
  | 0, _, _, _, _, _ => none
  | n + 1, m, pc, ls, st, h => pz_sx (fun m' as h' => pz_srun n m' 0 (pz_en m' as) [] h') (fun pc' ls' st' h' => pz_srun n m pc' ls' st' h') (pz_blk m pc).2 (pz_blk m pc).1 ls st h
/-! such a run is a run -/
section PZB
variable {L : Nat} {xs : Nat → Int32}
theorem pz_ai_is {h : pz_aH} {r c : Nat} (q : pz_ai h r c = true) : pz_is (pz_dh L xs h).1 r c = true ∧ 2 ≤ r ∧ r < h.1 + 2 := by
  simp only [pz_ai, Bool.and_eq_true, Nat.ble_eq, Nat.blt_eq, Nat.beq_eq] at q
  obtain ⟨q1, q2, q4⟩ := q
  refine ⟨?_, q1, q2⟩
  simp [pz_is, pz_dh, q1, q2, q4]
theorem pz_dh_I {h : pz_aH} {r i : Nat} {x : Int} (h1 : 2 ≤ r) :
    pz_dh L xs (h.1, h.2.1, h.2.2.1, (r, i, x) :: h.2.2.2.1, h.2.2.2.2) = ((pz_dh L xs h).1, pz_u2 (pz_dh L xs h).2.1 r i x, (pz_dh L xs h).2.2) := by
  have e : (fun r' j => if r' = 1 then (xs j).toInt else pz_l2 ((r, i, x) :: h.2.2.2.1) r' j) = pz_u2 (fun r' j => if r' = 1 then (xs j).toInt else pz_l2 h.2.2.2.1 r' j) r i x := by
    funext r' j
    rw [pz_u2_at]
    by_cases c1 : r' = 1
    · have c3 : ¬ (r' = r ∧ j = i) := by omega
      rw [if_pos c1, if_neg c3, if_pos c1]
    · rw [if_neg c1, if_neg c1]
      rfl
  unfold pz_dh
  dsimp only
  rw [e]
theorem pz_dh_R {h : pz_aH} {r i x : Nat} :
    pz_dh L xs (h.1, h.2.1, (r, i, x) :: h.2.2.1, h.2.2.2) = (((pz_dh L xs h).1.1, (pz_dh L xs h).1.2.1, (pz_dh L xs h).1.2.2.1, pz_u2 (pz_dh L xs h).1.2.2.2 r i x), (pz_dh L xs h).2) := by
  have e : pz_l1 ((r, i, x) :: h.2.2.1) = pz_u2 (pz_l1 h.2.2.1) r i x := by
    funext r' j
    rfl
  unfold pz_dh
  dsimp only
  rw [e]
theorem pz_dh_new {h : pz_aH} {a m b : Nat} (hz : pz_az h) :
    pz_dh L xs (h.1 + 1, (h.1 + 1 + 1, a, m) :: h.2.1, h.2.2.1, h.2.2.2.1, h.2.2.2.2.1 + 1, h.2.2.2.2.2 + b) = pz_new (pz_dh L xs h) a m b ∧ pz_az (h.1 + 1, (h.1 + 1 + 1, a, m) :: h.2.1, h.2.2.1, h.2.2.2.1, h.2.2.2.2.1 + 1, h.2.2.2.2.2 + b) := by
  refine ⟨?_, fun r j h1 => hz r j (by have : h.1 + 1 + 2 ≤ r := h1; omega)⟩
  have e1 : pz_lk1 ((h.1 + 1 + 1, a, m) :: h.2.1) = pz_u1 (pz_lk1 h.2.1) (h.1 + 2) a := by
    funext r
    rfl
  have e2 : (fun r => if r = 1 then L else pz_ll1 ((h.1 + 1 + 1, a, m) :: h.2.1) r) = pz_u1 (fun r => if r = 1 then L else pz_ll1 h.2.1 r) (h.1 + 2) m := by
    funext r
    rw [pz_u1_at]
    by_cases c1 : r = 1
    · rw [if_pos c1, if_pos c1, if_neg (by omega)]
    · rw [if_neg c1, if_neg c1]
      rfl
  have e3 : pz_l1 h.2.2.1 = pz_u1 (pz_l1 h.2.2.1) (h.1 + 2) (fun _ => 0) := by
    funext r
    rw [pz_u1_at]
    by_cases c1 : r = h.1 + 2
    · rw [if_pos c1]
      funext j
      exact (hz r j (by omega)).1
    · rw [if_neg c1]
  have e4 : (fun r j => if r = 1 then (xs j).toInt else pz_l2 h.2.2.2.1 r j) = pz_u1 (fun r j => if r = 1 then (xs j).toInt else pz_l2 h.2.2.2.1 r j) (h.1 + 2) (fun _ => 0) := by
    funext r
    rw [pz_u1_at]
    by_cases c1 : r = h.1 + 2
    · rw [if_pos c1]
      funext j
      rw [if_neg (by omega)]
      exact (hz r j (by omega)).2
    · rw [if_neg c1]
  have e5 : (fun (_ : Nat) (_ : Nat) => (0 : UInt64)) = pz_u1 (fun _ _ => 0) (h.1 + 2) (fun _ => 0) := by
    funext r
    rw [pz_u1_at]
    split <;> rfl
  unfold pz_dh pz_new
  dsimp only
  rw [← e1, ← e2, ← e3, ← e4, ← e5]
theorem pz_az_I {h : pz_aH} {r i : Nat} {x : Int} (hz : pz_az h) (h1 : r < h.1 + 2) : pz_az (h.1, h.2.1, h.2.2.1, (r, i, x) :: h.2.2.2.1, h.2.2.2.2) := by
  intro r' j g1
  have g1 : h.1 + 2 ≤ r' := g1
  refine ⟨(hz r' j g1).1, ?_⟩
  show (if r' = r ∧ j = i then x else pz_l2 h.2.2.2.1 r' j) = 0
  rw [if_neg (by omega)]
  exact (hz r' j g1).2
theorem pz_az_R {h : pz_aH} {r i x : Nat} (hz : pz_az h) (h1 : r < h.1 + 2) : pz_az (h.1, h.2.1, (r, i, x) :: h.2.2.1, h.2.2.2) := by
  intro r' j g1
  have g1 : h.1 + 2 ≤ r' := g1
  refine ⟨?_, (hz r' j g1).2⟩
  show (if r' = r ∧ j = i then x else pz_l1 h.2.2.1 r' j) = 0
  rw [if_neg (by omega)]
  exact (hz r' j g1).1
theorem pz_snew_ok {h h' : pz_aH} {kd ln sl : Nat} {sk sk' : List pz_V} (hz : pz_az h) (hs : pz_snew h kd ln sl sk = some (sk', h')) : sk' = .inr (.inl (h.1 + 2)) :: sk ∧ pz_dh L xs h' = pz_new (pz_dh L xs h) kd ln sl ∧ pz_az h' := by
  unfold pz_snew at hs
  rw [pz_fn_eq, pz_fn_eq, pz_fn_eq] at hs
  cases hs
  exact ⟨rfl, pz_dh_new hz⟩
set_option maxHeartbeats 4000000 in
theorem pz_sm_ok {ins : Instr} {a b c : Nat} {sk sk' : List pz_V} {h h' : pz_aH} (hz : pz_az h) (hs : pz_sm ins a b c sk h = some (sk', h')) :
    pz_mem ins a b c sk (pz_dh L xs h) = some (sk', pz_dh L xs h') ∧ pz_az h' := by
  unfold pz_sm at hs
  split at hs
  · -- getfield
    rename_i i9 r9 sk9
    unfold pz_sget at hs
    obtain ⟨hc, hs⟩ := pz_ite hs
    obtain ⟨h1, h2, h3⟩ := pz_ai_is (L := L) (xs := xs) hc
    split at hs
    · rename_i h9
      rw [pz_fn_eq] at hs
      cases hs
      refine ⟨?_, hz⟩
      show (if pz_is (pz_dh L xs h).1 r9 a = true then some ((if c = 9 then (.inr (.inl ((pz_dh L xs h).1.2.2.2 r9 b)) : pz_V) else .inl ((pz_dh L xs h).2.1 r9 b)) :: sk9, pz_dh L xs h) else none) = _
      rw [if_pos h1, if_pos h9]
      rfl
    · rename_i h9
      rw [pz_fz_eq] at hs
      cases hs
      refine ⟨?_, hz⟩
      show (if pz_is (pz_dh L xs h).1 r9 a = true then some ((if c = 9 then (.inr (.inl ((pz_dh L xs h).1.2.2.2 r9 b)) : pz_V) else .inl (if r9 = 1 then (xs b).toInt else pz_l2 h.2.2.2.1 r9 b)) :: sk9, pz_dh L xs h) else none) = _
      rw [if_pos h1, if_neg h9, if_neg (by omega)]
  · -- putfield, int
    rename_i i9 x9 r9 sk9
    unfold pz_sputI at hs
    obtain ⟨hc, hs⟩ := pz_ite hs
    cases hs
    simp only [Bool.and_eq_true, Bool.or_eq_true, Nat.beq_eq, decide_eq_true_eq] at hc
    obtain ⟨h1, h2, h3⟩ := pz_ai_is (L := L) (xs := xs) hc.1
    refine ⟨?_, pz_az_I hz h3⟩
    have hf : pz_fit (pz_dh L xs h).1 c (.inl x9) = true := by
      rcases hc.2 with rfl | ⟨rfl, rfl | rfl⟩ <;> rfl
    show (if pz_is (pz_dh L xs h).1 r9 a = true ∧ pz_fit (pz_dh L xs h).1 c (.inl x9) = true then some (sk', ((pz_dh L xs h).1, pz_u2 (pz_dh L xs h).2.1 r9 b x9, (pz_dh L xs h).2.2)) else none) = _
    rw [if_pos ⟨h1, hf⟩, pz_dh_I h2]
  · -- putfield, a reference
    rename_i i9 q9 r9 sk9
    unfold pz_sputR at hs
    obtain ⟨hc, hs⟩ := pz_ite hs
    cases hs
    simp only [Bool.and_eq_true, Nat.blt_eq, Nat.ble_eq, Bool.or_eq_true, Nat.beq_eq] at hc
    obtain ⟨h1, h2, h3⟩ := pz_ai_is (L := L) (xs := xs) hc.1
    refine ⟨?_, pz_az_R hz h3⟩
    have hf : pz_fit (pz_dh L xs h).1 c (.inr (.inl q9)) = true := by
      have e9 := hc.2.1
      subst e9
      show (true && (q9 == 0 || (decide (2 ≤ q9) && decide (q9 < h.1 + 2)))) = true
      rcases hc.2.2 with rfl | ⟨g1, g2⟩
      · rfl
      · rw [decide_eq_true g1, decide_eq_true g2]; simp
    show (if pz_is (pz_dh L xs h).1 r9 a = true ∧ pz_fit (pz_dh L xs h).1 c (.inr (.inl q9)) = true then some (sk', (((pz_dh L xs h).1.1, (pz_dh L xs h).1.2.1, (pz_dh L xs h).1.2.2.1, pz_u2 (pz_dh L xs h).1.2.2.2 r9 b q9), (pz_dh L xs h).2)) else none) = _
    rw [if_pos ⟨h1, hf⟩, pz_dh_R]
  · -- iastore
    rename_i x9 i9 r9 sk9
    unfold pz_siast at hs
    obtain ⟨hc, hs⟩ := pz_ite hs
    cases hs
    simp only [Bool.and_eq_true, Nat.blt_eq] at hc
    obtain ⟨h1, h2, h3⟩ := pz_ai_is (L := L) (xs := xs) hc.1
    refine ⟨?_, pz_az_I hz h3⟩
    show (if pz_is (pz_dh L xs h).1 r9 20 = true ∧ 0 ≤ Int.ofNat i9 ∧ Int.ofNat i9 < (((if r9 = 1 then L else pz_ll1 h.2.1 r9) : Nat) : Int) then some (sk', ((pz_dh L xs h).1, pz_u2 (pz_dh L xs h).2.1 r9 i9 x9, (pz_dh L xs h).2.2)) else none) = _
    rw [if_neg (show ¬ r9 = 1 by omega), if_pos ⟨h1, Int.natCast_nonneg i9, Int.ofNat_lt.mpr hc.2⟩, pz_dh_I h2]
  · -- castore
    rename_i x9 i9 r9 sk9
    unfold pz_scast at hs
    obtain ⟨hc, hs⟩ := pz_ite hs
    cases hs
    simp only [Bool.and_eq_true, Nat.blt_eq, Nat.ble_eq] at hc
    obtain ⟨h1, h2, h3⟩ := pz_ai_is (L := L) (xs := xs) hc.1
    refine ⟨?_, pz_az_I hz h3⟩
    show (if pz_is (pz_dh L xs h).1 r9 22 = true ∧ 0 ≤ Int.ofNat i9 ∧ Int.ofNat i9 < (((if r9 = 1 then L else pz_ll1 h.2.1 r9) : Nat) : Int) ∧ 0 ≤ Int.ofNat x9 ∧ Int.ofNat x9 ≤ 65535 then some (sk', ((pz_dh L xs h).1, pz_u2 (pz_dh L xs h).2.1 r9 i9 (.ofNat x9), (pz_dh L xs h).2.2)) else none) = _
    rw [if_neg (show ¬ r9 = 1 by omega), if_pos ⟨h1, Int.natCast_nonneg i9, Int.ofNat_lt.mpr hc.2.1, Int.natCast_nonneg x9, Int.ofNat_le.mpr hc.2.2⟩, pz_dh_I h2]
  · -- aastore
    rename_i q9 i9 r9 sk9
    unfold pz_saast at hs
    obtain ⟨hc, hs⟩ := pz_ite hs
    cases hs
    simp only [Bool.and_eq_true, Nat.blt_eq] at hc
    obtain ⟨h1, h2, h3⟩ := pz_ai_is (L := L) (xs := xs) hc.1
    obtain ⟨k1, -⟩ := pz_ai_is (L := L) (xs := xs) hc.2.2
    refine ⟨?_, pz_az_R hz h3⟩
    show (if pz_is (pz_dh L xs h).1 r9 23 = true ∧ 0 ≤ Int.ofNat i9 ∧ Int.ofNat i9 < (((if r9 = 1 then L else pz_ll1 h.2.1 r9) : Nat) : Int) ∧ pz_is (pz_dh L xs h).1 q9 6 = true then some (sk', (((pz_dh L xs h).1.1, (pz_dh L xs h).1.2.1, (pz_dh L xs h).1.2.2.1, pz_u2 (pz_dh L xs h).1.2.2.2 r9 i9 q9), (pz_dh L xs h).2)) else none) = _
    rw [if_neg (show ¬ r9 = 1 by omega), if_pos ⟨h1, Int.natCast_nonneg i9, Int.ofNat_lt.mpr hc.2.1, k1⟩, pz_dh_R]
  · -- new
    obtain ⟨rfl, k1, k2⟩ := pz_snew_ok (L := L) (xs := xs) hz hs
    refine ⟨?_, k2⟩
    rw [k1]
    rfl
  · -- newarray
    rename_i t9 m9 sk9
    obtain ⟨hc, hs⟩ := pz_ite hs
    obtain ⟨rfl, k1, k2⟩ := pz_snew_ok (L := L) (xs := xs) hz hs
    refine ⟨?_, k2⟩
    rw [k1]
    rw [Nat.ble_eq] at hc
    show (if 0 ≤ Int.ofNat m9 ∧ Int.ofNat m9 ≤ 65536 then some (.inr (.inl (h.1 + 2)) :: sk9, pz_new (pz_dh L xs h) a m9 m9) else none) = some _
    rw [if_pos ⟨Int.natCast_nonneg m9, Int.ofNat_le.mpr (by omega : m9 ≤ 65536)⟩]
  · -- anewarray
    rename_i t9 m9 sk9
    obtain ⟨hc, hs⟩ := pz_ite hs
    obtain ⟨rfl, k1, k2⟩ := pz_snew_ok (L := L) (xs := xs) hz hs
    refine ⟨?_, k2⟩
    rw [k1]
    rw [Nat.ble_eq] at hc
    show (if 0 ≤ Int.ofNat m9 ∧ Int.ofNat m9 ≤ 65536 then some (.inr (.inl (h.1 + 2)) :: sk9, pz_new (pz_dh L xs h) 23 m9 m9) else none) = some _
    rw [if_pos ⟨Int.natCast_nonneg m9, Int.ofNat_le.mpr (by omega : m9 ≤ 65536)⟩]
  · cases hs
theorem pz_drc {h : pz_aH} {c : Nat} : ∀ (l : List pz_V), (match l with | .inr (.inl r) :: _ => pz_ai h r c | _ => false) = true → (match l with | .inr (.inl r) :: _ => pz_is (pz_dh L xs h).1 r c | _ => false) = true := by
  intro l q
  rcases l with - | ⟨z | r | w, l⟩
  · cases q
  · cases q
  · exact (pz_ai_is q).1
  · cases q
set_option maxHeartbeats 4000000 in
theorem pz_sx_ok {C : Nat → List pz_V → pz_aH → Option pz_aO} {J : Nat → pz_L → List pz_V → pz_aH → Option pz_aO} {C' : Nat → List pz_V → pz_H → Option pz_O} {J' : Nat → pz_L → List pz_V → pz_H → Option pz_O} {hh : List (Nat × Nat)} {nx : Nat}
    (hC : ∀ (a : Nat) (as : List pz_V) (h : pz_aH) (o : Option pz_V ⊕ Nat) (h' : pz_aH), C a as h = some (o, h') → pz_az h → C' a as (pz_dh L xs h) = some (o, pz_dh L xs h') ∧ pz_az h')
    (hJ : ∀ (pc : Nat) (ls : pz_L) (st : List pz_V) (h : pz_aH) (o : Option pz_V ⊕ Nat) (h' : pz_aH), J pc ls st h = some (o, h') → pz_az h → J' pc ls st (pz_dh L xs h) = some (o, pz_dh L xs h') ∧ pz_az h') :
    ∀ (ops : List pz_Op) (ls : pz_L) (st : List pz_V) (h : pz_aH) (o : Option pz_V ⊕ Nat) (h' : pz_aH), pz_sx C J nx ops ls st h = some (o, h') → pz_az h → pz_ex C' J' hh nx ops ls st (pz_dh L xs h) = some (o, pz_dh L xs h') ∧ pz_az h' := by
  intro ops
  induction ops with
  | nil => intro ls st h o h' he hz; exact hJ _ _ _ _ _ _ he hz
  | cons op ops ih =>
    intro ls st h o h' he hz
    obtain ⟨g, ins, len, a, b, c, e⟩ := op
    simp only [pz_sx] at he
    split at he
    · split at he
      · rename_i v st1 hst
        rw [pz_fvl_eq] at he
        simp only [pz_ex, hst]
        exact ih _ _ _ _ _ he hz
      · rename_i hst
        simp only [pz_ex, hst]
        exact ih _ _ _ _ _ he hz
      · cases he
    · split at he
      · rename_i ls1 st1 hst
        simp only [pz_ex, hst]
        exact ih _ _ _ _ _ he hz
      · cases he
    · split at he
      · rename_i st1 h1 hst
        obtain ⟨k1, k2⟩ := pz_sm_ok (L := L) (xs := xs) hz hst
        simp only [pz_ex, k1]
        exact ih _ _ _ _ _ he k2
      · cases he
    · simp only [pz_ex]
      exact ih _ _ _ _ _ he hz
    · obtain ⟨⟨c1, c2, c3, c4⟩, he⟩ := pz_ite he
      have d4 : c = 99 ∨ (match (st.take b).reverse with | .inr (.inl r) :: _ => pz_is (pz_dh L xs h).1 r c | _ => false) = true := by
        rcases c4 with c4 | c4
        · exact Or.inl c4
        · exact Or.inr (pz_drc _ c4)
      simp only [pz_ex]
      rw [if_pos ⟨c1, c2, c3, d4⟩]
      split at he
      · rename_i h1 hc1
        obtain ⟨k1, k2⟩ := hC _ _ _ _ _ hc1 hz
        rw [k1]
        exact ih _ _ _ _ _ he k2
      · rename_i v h1 hc1
        obtain ⟨k1, k2⟩ := hC _ _ _ _ _ hc1 hz
        rw [k1]
        exact ih _ _ _ _ _ he k2
      · cases he
    · split at he
      · obtain ⟨hc, he⟩ := pz_ite he
        simp only [pz_ex]
        rw [if_pos hc]
        exact ih _ _ _ _ _ he hz
      · cases he
    · simp only [pz_ex]
      exact hJ _ _ _ _ _ _ he hz
    · split at he
      · simp only [pz_ex]
        split at he
        · rename_i hq; rw [if_pos hq]; exact hJ _ _ _ _ _ _ he hz
        · rename_i hq; rw [if_neg hq]; exact ih _ _ _ _ _ he hz
      · simp only [pz_ex]
        split at he
        · rename_i hq; rw [if_pos hq]; exact hJ _ _ _ _ _ _ he hz
        · rename_i hq; rw [if_neg hq]; exact ih _ _ _ _ _ he hz
      · cases he
    · split at he
      · cases he
        simp only [pz_ex]
        exact ⟨trivial, hz⟩
      · cases he
    · cases he
theorem pz_srun_ok : ∀ (n m pc : Nat) (ls : pz_L) (st : List pz_V) (h : pz_aH) (o : Option pz_V ⊕ Nat) (h' : pz_aH), pz_srun n m pc ls st h = some (o, h') → pz_az h → pz_run n m pc ls st (pz_dh L xs h) = some (o, pz_dh L xs h') ∧ pz_az h'
  | 0, _, _, _, _, _, _, _, he, _ => by cases he
  | n + 1, m, pc, ls, st, h, o, h', he, hz => by
    unfold pz_srun at he
    unfold pz_run
    exact pz_sx_ok (fun a as h1 o1 h1' hc1 hz1 => pz_srun_ok n a 0 (pz_en a as) [] h1 o1 h1' hc1 hz1) (fun pc1 ls1 st1 h1 o1 h1' hc1 hz1 => pz_srun_ok n m pc1 ls1 st1 h1 o1 h1' hc1 hz1) _ _ _ _ _ _ he hz
end PZB
