/-! the class's rows: how they hold the plan's row k; copies; bits -/
def q_cp (n : Nat) (f g : Nat → Int) : Nat → Int := fun j => if j < n then f j else g j
theorem q_cp_full {n : Nat} {f g : Nat → Int} {j : Nat} (h : j < n) : q_cp n f g j = f j := if_pos h
theorem w_cpym {m nx l a b c e : Nat} {ops : List pz_Op} {lc : pz_L} {sk : List pz_V} {S : pz_S} {iv iv2 : Nat → Nat → Int} {D : (Nat → Nat → UInt64) × Nat × Nat} {Q : pz_Q} {s d len1 len2 K : Nat} {ins : ClassFile.Instr} {n : Int} (hk : S.2.1 d = K) (h1 : pz_is S s K = true) (h2 : pz_is S d K = true) (hK : 20 ≤ K ∧ K ≤ 22) (hsd : s ≠ d) (hl1 : S.2.2.1 s = len1) (hl2 : S.2.2.1 d = len2) (hn : 0 ≤ n ∧ n ≤ len1 ∧ n ≤ len2) (hst : sk.length ≤ 4) (hm : pz_u1 iv d (q_cp n.toNat (iv s) (iv d)) = iv2) (k : pz_W m nx ops lc sk (S, iv2, D) Q) : pz_W m nx ((5, ins, l, a, b, c, e) :: ops) lc (.inl n :: .inl 0 :: .inr (.inl d) :: .inl 0 :: .inr (.inl s) :: sk) (S, iv, D) Q :=
  w_cpy (st' := sk) (h2 := (S, iv2, D)) (by
    show (if sk.length ≤ 4 ∧ pz_is S s (S.2.1 d) = true ∧ pz_is S d (S.2.1 d) = true ∧ 20 ≤ S.2.1 d ∧ S.2.1 d ≤ 22 ∧ s ≠ d ∧ (0 : Int) ≤ 0 ∧ (0 : Int) ≤ 0 ∧ 0 ≤ n ∧ 0 + n ≤ (S.2.2.1 s : Int) ∧ 0 + n ≤ (S.2.2.1 d : Int) then some (sk, (S, pz_u1 iv d (fun k => if (0 : Int).toNat ≤ k ∧ k < (0 : Int).toNat + n.toNat then iv s ((0 : Int).toNat + (k - (0 : Int).toNat)) else iv d k), D)) else none) = _
    rw [hk, hl1, hl2, if_pos ⟨hst, h1, h2, hK.1, hK.2, hsd, by omega, by omega, hn.1, by omega, by omega⟩, ← hm]
    have e : (fun k => if (0 : Int).toNat ≤ k ∧ k < (0 : Int).toNat + n.toNat then iv s ((0 : Int).toNat + (k - (0 : Int).toNat)) else iv d k) = q_cp n.toNat (iv s) (iv d) := by
      funext j
      unfold q_cp
      have z0 : (0 : Int).toNat = 0 := rfl
      rw [z0]
      by_cases h : j < n.toNat
      · rw [if_pos h, if_pos (by omega)]
        congr 1
        omega
      · rw [if_neg h, if_neg (by omega)]
    rw [e]) k
theorem w_imulc {m nx l a b c e : Nat} {ops : List pz_Op} {lc : pz_L} {sk : List pz_V} {h : pz_H} {Q : pz_Q} {x y : Int} (hr : -2147483648 ≤ y * x ∧ y * x ≤ 2147483647) (k : pz_W m nx ops lc (.inl (y * x) :: sk) h Q) : pz_W m nx ((0, .imul, l, a, b, c, e) :: ops) lc (.inl y :: .inl x :: sk) h Q := w_imul (by rw [Int.mul_comm x y]; exact hr) (by rw [Int.mul_comm x y]; exact k)
/-- a contract that tells of the memory behind the run only what Φ says -/
def pz_PE (S : pz_S) (o : Option pz_V ⊕ Nat) (Φ : (Nat → Nat → Int) → Prop) (dv : Nat → Nat → UInt64) (cc ss : Nat) : pz_Q := fun o' h' => ∃ iv', Φ iv' ∧ o' = o ∧ h' = (S, iv', dv, cc + pz_x o, ss + 6 * pz_x o)
def pz_RE (S : pz_S) (a : Nat) (as : List pz_V) (iv : Nat → Nat → Int) (o : Option pz_V ⊕ Nat) (Φ : (Nat → Nat → Int) → Prop) : Prop :=
  ∀ dv cc ss, pz_G a 0 (pz_en a as) [] (S, iv, dv, cc, ss) (pz_PE S o Φ dv cc ss)
section PZE
variable {m nx l a b c e : Nat} {ins : ClassFile.Instr} {ops : List pz_Op} {lc : pz_L} {sk : List pz_V} {Q : pz_Q} {S : pz_S} {iv : Nat → Nat → Int} {Φ : (Nat → Nat → Int) → Prop}
theorem w_callE {D : (Nat → Nat → UInt64) × Nat × Nat} {as rest : List pz_V} {v : pz_V} (hr : pz_RE S a as iv (.inl (some v)) Φ) (hst : sk = as.reverse ++ rest) (hk : pz_cok S b c as rest = true) (k : ∀ iv', Φ iv' → pz_W m nx ops lc (v :: rest) (S, iv', D) Q) : pz_W m nx ((4, ins, l, a, b, c, e) :: ops) lc sk (S, iv, D) Q := by
  obtain ⟨dv, cc, ss⟩ := D
  obtain ⟨n, o, h1, he, iv', hp, rfl, rfl⟩ := hr dv cc ss
  exact pz_call_w hst hk he (k iv' hp)
theorem w_callvE {D : (Nat → Nat → UInt64) × Nat × Nat} {as rest : List pz_V} (hr : pz_RE S a as iv (.inl none) Φ) (hst : sk = as.reverse ++ rest) (hk : pz_cok S b c as rest = true) (k : ∀ iv', Φ iv' → pz_W m nx ops lc rest (S, iv', D) Q) : pz_W m nx ((4, ins, l, a, b, c, e) :: ops) lc sk (S, iv, D) Q := by
  obtain ⟨dv, cc, ss⟩ := D
  obtain ⟨n, o, h1, he, iv', hp, rfl, rfl⟩ := hr dv cc ss
  exact pz_call_w hst hk he (k iv' hp)
theorem w_calleE {as rest : List pz_V} {E : Nat} {dv : Nat → Nat → UInt64} {cc ss : Nat} (hr : pz_RE S a as iv (.inr E) Φ) (hst : sk = as.reverse ++ rest) (hk : pz_cok S b c as rest = true) (hl : pz_lk (pz_hc m) E = none) (k : ∀ iv', Φ iv' → Q (.inr E) (S, iv', dv, cc + 1, ss + 6)) : pz_W m nx ((4, ins, l, a, b, c, e) :: ops) lc sk (S, iv, dv, cc, ss) Q := by
  obtain ⟨n, o, h1, he, iv', hp, rfl, rfl⟩ := hr dv cc ss
  refine pz_call_w hst hk he ?_
  dsimp only
  rw [hl]
  exact k iv' hp
theorem w_callhE {as rest : List pz_V} {E q : Nat} {dv : Nat → Nat → UInt64} {cc ss : Nat} (hr : pz_RE S a as iv (.inr E) Φ) (hst : sk = as.reverse ++ rest) (hk : pz_cok S b c as rest = true) (hl : pz_lk (pz_hc m) E = some q) (k : ∀ iv', Φ iv' → Q (.inl (some (.inl (q : Int)))) (S, iv', dv, cc + 1, ss + 6)) : pz_W m nx ((4, ins, l, a, b, c, e) :: ops) lc sk (S, iv, dv, cc, ss) Q := by
  obtain ⟨n, o, h1, he, iv', hp, rfl, rfl⟩ := hr dv cc ss
  refine pz_call_w hst hk he ?_
  dsimp only
  rw [hl]
  exact k iv' hp
end PZE
abbrev q_cE (k p : Nat → Int) : Prop := p 0 = k 0 ∧ p 7 = k 240
def q_cB (k c f t m l d : Nat → Int) : Prop := c 0 = k 1 ∧ ∀ b : Int, 0 ≤ b → b < k 1 → f b.toNat = k (52 + 4 * b).toNat ∧ t b.toNat = k (52 + 4 * b + 1).toNat ∧ m b.toNat = k (52 + 4 * b + 2).toNat ∧ ((d b.toNat = 1 ∧ k (52 + 4 * b + 3).toNat = 99) ∨ (d b.toNat = 0 ∧ k (52 + 4 * b + 3).toNat ≠ 99 ∧ l b.toNat = k (52 + 4 * b + 3).toNat))
def q_cS (k c f t l g : Nat → Int) : Prop := c 0 = k 2 ∧ ∀ s : Int, 0 ≤ s → s < k 2 → f s.toNat = k (212 + 4 * s).toNat ∧ t s.toNat = k (212 + 4 * s + 1).toNat ∧ l s.toNat = k (212 + 4 * s + 2).toNat ∧ g s.toNat = k (212 + 4 * s + 3).toNat
def q_cC (k c s : Nat → Int) : Prop := c 0 = k 4 ∧ ∀ e : Int, 0 ≤ e → e ≤ 9 → s e.toNat = k (6 + e).toNat
def q_cA (k c f t d : Nat → Int) : Prop := (c 0 = k 3 ∧ c 1 = k 5) ∧ ∀ a : Int, 0 ≤ a → a < k 3 → f a.toNat = k (224 + 3 * a).toNat ∧ t a.toNat = k (224 + 3 * a + 1).toNat ∧ d a.toNat = k (224 + 3 * a + 2).toNat
def q_cO (k u y z : Nat → Int) : Prop := ∀ e : Int, 0 ≤ e → e ≤ 9 → u e.toNat = k (16 + e).toNat ∧ y e.toNat = k (26 + e).toNat ∧ z e.toNat = k (36 + e).toNat
def q_cL (k r : Nat → Int) : Prop := ∀ l : Int, 1 ≤ l → l ≤ 4 → r l.toNat = k (46 + l).toNat
def q_cP (k r : Nat → Int) : Prop := ∀ e : Int, 0 ≤ e → e < k 240 → r e.toNat = k (241 + e).toNat
/-- sums of labels that tell which are true, which are false -/
def q_cT (k : Nat → Int) (x y : Int) : Prop := (0 ≤ x ∧ x ≤ 15) ∧ (0 ≤ y ∧ y ≤ 15) ∧ ∀ l : Int, 1 ≤ l → l ≤ 4 → (pz_and x (pz_shl 1 (l - 1)) ≠ 0 ↔ q_tru k l) ∧ (pz_and y (pz_shl 1 (l - 1)) ≠ 0 ↔ q_fls k l)
theorem q_bitN : ∀ (x : Fin 32) (i : Fin 5), (pz_and ((x.val : Nat) : Int) (pz_shl 1 ((i.val : Nat) : Int)) ≠ 0 ↔ pz_and (pz_shr ((x.val : Nat) : Int) ((i.val : Nat) : Int)) 1 = 1) ∧ (pz_and (pz_shr ((x.val : Nat) : Int) ((i.val : Nat) : Int)) 1 = 0 ∨ pz_and (pz_shr ((x.val : Nat) : Int) ((i.val : Nat) : Int)) 1 = 1) := by decide +kernel
theorem q_bit {x i : Int} (h1 : 0 ≤ x) (h2 : x < 32) (h3 : 0 ≤ i) (h4 : i ≤ 4) : (pz_and x (pz_shl 1 i) ≠ 0 ↔ pz_and (pz_shr x i) 1 = 1) ∧ (pz_and (pz_shr x i) 1 = 0 ∨ pz_and (pz_shr x i) 1 = 1) := by
  have h := q_bitN ⟨x.toNat, by omega⟩ ⟨i.toNat, by omega⟩
  simp only [Int.toNat_of_nonneg h1, Int.toNat_of_nonneg h3] at h
  exact h
/-- the length that is picked -/
noncomputable def q_pck (k : Nat → Int) (p s : Int) : Int := q_if (q_up p s) (k (212 + 4 * s + 3).toNat) (k (212 + 4 * s + 2).toNat)
theorem q_pck_r {k : Nat → Int} {p s : Int} (hk : q_KR k) (h1 : 0 ≤ s) (h2 : s < k 2) : 1 ≤ q_pck k p s ∧ q_pck k p s ≤ 200 := by
  have h := hk.sp h1 h2
  unfold q_pck
  by_cases g : q_up p s
  · rw [q_if_t g]; omega
  · rw [q_if_f g]; omega
/-- the span whose end an event is, or -1 -/
noncomputable def q_weS (k : Nat → Int) (e s x : Int) : Int := q_if (x = -1 ∧ k (212 + 4 * s + 1).toNat = e) s x
noncomputable def q_we (k : Nat → Int) (e : Int) : Int := q_fr (q_weS k e) 0 (k 2) (-1)
theorem q_we_spec {k : Nat → Int} {e : Int} (hn : 0 ≤ k 2) : (q_we k e = -1 ∧ ∀ s : Int, 0 ≤ s → s < k 2 → k (212 + 4 * s + 1).toNat ≠ e) ∨ (0 ≤ q_we k e ∧ q_we k e < k 2 ∧ k (212 + 4 * q_we k e + 1).toNat = e ∧ ∀ s : Int, 0 ≤ s → s < q_we k e → k (212 + 4 * s + 1).toNat ≠ e) := by
  unfold q_we
  refine q_fr_ind (f := q_weS k e) (fun i x => (x = -1 ∧ ∀ s : Int, 0 ≤ s → s < i → k (212 + 4 * s + 1).toNat ≠ e) ∨ (0 ≤ x ∧ x < i ∧ k (212 + 4 * x + 1).toNat = e ∧ ∀ s : Int, 0 ≤ s → s < x → k (212 + 4 * s + 1).toNat ≠ e)) hn ?_ ?_
  · exact Or.inl ⟨rfl, fun s h1 h2 => by omega⟩
  · intro i x h1 h2 h
    rcases h with ⟨h3, h4⟩ | ⟨h3, h4, h5, h6⟩
    · by_cases h7 : k (212 + 4 * i + 1).toNat = e
      · unfold q_weS
        rw [q_if_t ⟨h3, h7⟩]
        exact Or.inr ⟨h1, by omega, h7, h4⟩
      · unfold q_weS
        rw [q_if_f (fun q => h7 q.2)]
        refine Or.inl ⟨h3, fun s g1 g2 => ?_⟩
        by_cases g3 : s = i
        · rw [g3]; exact h7
        · exact h4 s g1 (by omega)
    · unfold q_weS
      rw [q_if_f (fun q => by omega)]
      exact Or.inr ⟨h3, by omega, h5, h6⟩
theorem q_we_is {k : Nat → Int} {e s : Int} (h1 : 0 ≤ s) (h2 : s < k 2) (h3 : k (212 + 4 * s + 1).toNat = e) (h4 : ∀ i : Int, 0 ≤ i → i < s → k (212 + 4 * i + 1).toNat ≠ e) : q_we k e = s := by
  rcases q_we_spec (k := k) (e := e) (by omega) with ⟨g1, g2⟩ | ⟨g1, g2, g3, g4⟩
  · exact absurd h3 (g2 s h1 h2)
  · rcases Int.lt_trichotomy (q_we k e) s with h | h | h
    · exact absurd g3 (h4 _ g1 h)
    · exact h
    · exact absurd h3 (g4 s h1 h)
theorem q_we_no {k : Nat → Int} {e : Int} (hn : 0 ≤ k 2) (h4 : ∀ i : Int, 0 ≤ i → i < k 2 → k (212 + 4 * i + 1).toNat ≠ e) : q_we k e = -1 := by
  rcases q_we_spec (k := k) (e := e) hn with ⟨g1, g2⟩ | ⟨g1, g2, g3, g4⟩
  · exact g1
  · exact absurd g3 (h4 _ g1 g2)
/-- labels with one of two letters, as a sum -/
noncomputable def q_lsP (r : Nat → Int) (c d l : Int) : Prop := 1 ≤ l ∧ (r l.toNat = c ∨ r l.toNat = d)
noncomputable def q_ls (r : Nat → Int) (c d n : Int) : Int := q_sum (fun l => q_if (1 ≤ l ∧ (r l.toNat = c ∨ r l.toNat = d)) (q_p2 (l - 1)) 0) n
theorem q_ls_r {r : Nat → Int} {c d n : Int} (h1 : 1 ≤ n) (h2 : n ≤ 5) : 0 ≤ q_ls r c d n ∧ q_ls r c d n < q_p2 (n - 1) := by
  have key : ∀ m : Nat, m ≤ 4 → 0 ≤ q_ls r c d (m + 1) ∧ q_ls r c d (m + 1) < q_p2 m := by
    intro m
    induction m with
    | zero =>
      intro _
      unfold q_ls
      rw [q_sum_s (by omega), q_if_f (fun q => by omega)]
      refine ⟨Int.le_refl 0, ?_⟩
      show (0 : Int) < 1
      omega
    | succ m ih =>
      intro hm
      have h := ih (by omega)
      have h3 := q_p2_s (a := m) (by omega)
      unfold q_ls at h ⊢
      rw [q_sum_s (by omega)]
      rw [show (((m + 1 : Nat) : Int)) = (m : Int) + 1 by omega]
      rw [h3]
      by_cases g : (1 ≤ (m : Int) + 1 ∧ (r ((m : Int) + 1).toNat = c ∨ r ((m : Int) + 1).toNat = d))
      · rw [q_if_t g, show (m : Int) + 1 - 1 = m by omega]; omega
      · rw [q_if_f g]; omega
  have h := key (n - 1).toNat (by omega)
  rw [show (((n - 1).toNat : Nat) : Int) = n - 1 by omega, show n - 1 + 1 = n by omega] at h
  exact h
/-- a square of the reference as the class holds it -/
def q_N (x : Int) : Int := if x = 1000000 then 1000000000 else x
def q_tN (z : Int) (d r : Nat → Int) : Nat → Int := fun j => if j < 100 then (if (j / 10 : Nat) < z ∧ (j % 10 : Nat) < z then q_N (d j) else 1000000000) else r j
/-- distances that the class holds -/
def q_nD (k r d : Nat → Int) : Prop := ∀ i j : Int, 0 ≤ i → i < k 0 → 0 ≤ j → j < k 0 → r (10 * i + j).toNat = q_N (d (10 * i + j).toNat)
theorem q_ls_congr {r u : Nat → Int} {c d : Int} (h : ∀ l : Int, 1 ≤ l → l ≤ 4 → r l.toNat = u l.toNat) : q_ls r c d 5 = q_ls u c d 5 := by
  refine q_sum_congr (fun l h1 h2 => ?_)
  by_cases g : 1 ≤ l
  · rw [h l g (by omega)]
  · rw [q_if_f (fun q => g q.1), q_if_f (fun q => g q.1)]
/-- the sums of the labels that are true, false, observed -/
noncomputable def q_sT (k : Nat → Int) : Int := q_ls (fun j => k (46 + j)) 116 84 5
noncomputable def q_sF (k : Nat → Int) : Int := q_ls (fun j => k (46 + j)) 102 70 5
noncomputable def q_sO (k : Nat → Int) : Int := q_ls (fun j => k (46 + j)) 116 102 5
theorem q_p2_le {a b : Int} (h1 : 0 ≤ a) (h2 : a ≤ b) : q_p2 a ≤ q_p2 b := by
  unfold q_p2
  exact Int.ofNat_le.mpr (Nat.pow_le_pow_right (by decide) (by omega))
/-- a bit of a sum of labels -/
theorem q_ls_bit {r : Nat → Int} {c d : Int} : ∀ n : Nat, n ≤ 4 → ∀ l : Nat, l < 4 → (pz_and (q_ls r c d (n + 1)) (pz_shl 1 l) ≠ 0 ↔ l < n ∧ (r (l + 1) = c ∨ r (l + 1) = d)) := by
  have step : ∀ (n : Fin 4) (x : Fin 16) (l : Fin 4), x.val < 2 ^ n.val → ((pz_and (((x.val + 2 ^ n.val : Nat)) : Int) (pz_shl 1 ((l.val : Nat) : Int)) ≠ 0) ↔ (l.val = n.val ∨ pz_and ((x.val : Nat) : Int) (pz_shl 1 ((l.val : Nat) : Int)) ≠ 0)) ∧ (n.val ≤ l.val → pz_and ((x.val : Nat) : Int) (pz_shl 1 ((l.val : Nat) : Int)) = 0) := by decide +kernel
  intro n
  induction n with
  | zero =>
    intro _ l hl
    have h0 : q_ls r c d ((0 : Nat) + 1 : Int) = 0 := by
      unfold q_ls
      rw [q_sum_s (by omega), q_if_f (fun q => by omega)]
      rfl
    rw [h0]
    have h := (step ⟨0, by omega⟩ ⟨0, by omega⟩ ⟨l, hl⟩ (by show 0 < 2 ^ 0; decide)).2 (Nat.zero_le _)
    exact ⟨fun q => absurd h q, fun q => absurd q.1 (Nat.not_lt_zero _)⟩
  | succ n ih =>
    intro hn l hl
    have hr := q_ls_r (r := r) (c := c) (d := d) (n := (n : Int) + 1) (by omega) (by omega)
    rw [show (n : Int) + 1 - 1 = n by omega] at hr
    have hp := q_p2_r (a := n) (by omega) (by omega)
    have hp3 := q_p2_le (a := n) (b := 3) (by omega) (by omega)
    have h8 : q_p2 3 = 8 := rfl
    have ih1 := ih (by omega) l hl
    have st := step ⟨n, by omega⟩ ⟨(q_ls r c d ((n : Int) + 1)).toNat, by omega⟩ ⟨l, hl⟩ (by
      show (q_ls r c d ((n : Int) + 1)).toNat < 2 ^ n
      have h9 := hr.2
      unfold q_p2 at h9
      rw [Int.toNat_natCast] at h9
      omega)
    have e1 : ((((q_ls r c d ((n : Int) + 1)).toNat : Nat)) : Int) = q_ls r c d ((n : Int) + 1) := Int.toNat_of_nonneg hr.1
    simp only [e1] at st
    have hs : q_ls r c d (((n + 1 : Nat) : Int) + 1) = q_ls r c d ((n : Int) + 1) + q_if (1 ≤ (n : Int) + 1 ∧ (r ((n : Int) + 1).toNat = c ∨ r ((n : Int) + 1).toNat = d)) (q_p2 n) 0 := by
      unfold q_ls
      rw [show (((n + 1 : Nat) : Int)) = (n : Int) + 1 by omega, q_sum_s (by omega)]
      rw [show (n : Int) + 1 - 1 = n by omega]
    rw [hs, show ((n : Int) + 1).toNat = n + 1 by omega]
    by_cases g : 1 ≤ (n : Int) + 1 ∧ (r (n + 1) = c ∨ r (n + 1) = d)
    · rw [q_if_t g]
      have e2 : q_ls r c d ((n : Int) + 1) + q_p2 n = (((q_ls r c d ((n : Int) + 1)).toNat + 2 ^ n : Nat) : Int) := by
        unfold q_p2
        rw [Int.toNat_natCast]
        omega
      rw [e2, st.1, ih1]
      constructor
      · rintro (h | ⟨h1, h2⟩)
        · exact ⟨by omega, by rw [h]; exact g.2⟩
        · exact ⟨by omega, h2⟩
      · rintro ⟨h1, h2⟩
        by_cases h3 : l = n
        · exact Or.inl h3
        · exact Or.inr ⟨by omega, h2⟩
    · rw [q_if_f g, Int.add_zero, ih1]
      constructor
      · rintro ⟨h1, h2⟩
        exact ⟨by omega, h2⟩
      · rintro ⟨h1, h2⟩
        refine ⟨?_, h2⟩
        by_cases h3 : l = n
        · rw [h3] at h2
          exact absurd ⟨by omega, h2⟩ g
        · omega
theorem q_cT_now {k : Nat → Int} : q_cT k (q_sT k) (q_sF k) := by
  have h1 := q_ls_r (r := fun j => k (46 + j)) (c := 116) (d := 84) (n := 5) (by omega) (by omega)
  have h2 := q_ls_r (r := fun j => k (46 + j)) (c := 102) (d := 70) (n := 5) (by omega) (by omega)
  have h8 : q_p2 (5 - 1) = 16 := rfl
  rw [h8] at h1 h2
  refine ⟨⟨h1.1, by show q_ls _ _ _ _ ≤ _; omega⟩, ⟨h2.1, by show q_ls _ _ _ _ ≤ _; omega⟩, fun l g1 g2 => ?_⟩
  have e1 := q_ls_bit (r := fun j => k (46 + j)) (c := 116) (d := 84) 4 (by omega) (l - 1).toNat (by omega)
  have e2 := q_ls_bit (r := fun j => k (46 + j)) (c := 102) (d := 70) 4 (by omega) (l - 1).toNat (by omega)
  rw [show (((l - 1).toNat : Nat) : Int) = l - 1 by omega] at e1 e2
  have e3 : 46 + ((l - 1).toNat + 1) = (46 + l).toNat := by omega
  try dsimp only at e1 e2
  rw [e3] at e1 e2
  exact ⟨e1.trans ⟨fun q => q.2, fun q => ⟨by omega, q⟩⟩, e2.trans ⟨fun q => q.2, fun q => ⟨by omega, q⟩⟩⟩
def q_dR (d : Nat → Int) : Prop := ∀ j : Nat, j < 100 → -10000 ≤ d j ∧ (d j ≤ 10000 ∨ d j = 1000000)
theorem q_N_r {x : Int} (h : x ≤ 10000 ∨ x = 1000000) : (q_N x = 1000000000 ↔ x = 1000000) ∧ (x ≠ 1000000 → q_N x = x) := by
  unfold q_N
  split <;> omega
theorem q_ft_dR {d : Nat → Int} {e : Int} (h : q_dR d) (h1 : 0 ≤ e) (h2 : e ≤ 9) : 0 ≤ q_ft d e ∧ q_ft d e ≤ 10000 := by
  have h3 := h (10 * e).toNat (by omega)
  unfold q_ft
  split <;> omega
def q_hldX (k : Nat → Int) (b : Int) : Prop := q_hld k b
theorem q_hld_c {k c f t m l d : Nat → Int} {b x y : Int} (hk : q_KR k) (hB : q_cB k c f t m l d) (hb : 0 ≤ b ∧ b < k 1) (hT : q_cT k x y) : (d b.toNat = 0 ∨ d b.toNat = 1) ∧ (d b.toNat ≠ 0 → ¬ q_hldX k b) ∧ (d b.toNat = 0 → -4 ≤ l b.toNat ∧ l b.toNat ≤ 4) ∧ (d b.toNat = 0 → l b.toNat = 0 → q_hldX k b) ∧ (d b.toNat = 0 → 0 < l b.toNat → (pz_and x (pz_shl 1 (l b.toNat - 1)) ≠ 0 ↔ q_hldX k b)) ∧ (d b.toNat = 0 → l b.toNat < 0 → (pz_and y (pz_shl 1 (-(l b.toNat) - 1)) ≠ 0 ↔ q_hldX k b)) := by
  have hBb := (hB.2 b hb.1 hb.2).2.2.2
  have hbd := (hk.bd hb.1 hb.2).2.2.2.2
  unfold q_hldX
  rcases hBb with ⟨h1, h2⟩ | ⟨h1, h2, h3⟩
  · refine ⟨Or.inr h1, fun _ q => q.1 h2, fun g => by omega, fun g => by omega, fun g => by omega, fun g => by omega⟩
  · rw [h3]
    have hn : k (52 + 4 * b + 3).toNat ≠ 99 := h2
    refine ⟨Or.inl h1, fun g => absurd h1 g, fun _ => by omega, fun _ g => ⟨h2, Or.inl g⟩, fun _ g => ?_, fun _ g => ?_⟩
    · have hT1 := (hT.2.2 (k (52 + 4 * b + 3).toNat) (by omega) (by omega)).1
      rw [hT1]
      exact ⟨fun q => ⟨h2, Or.inr (Or.inl ⟨g, q⟩)⟩, fun q => by
        rcases q.2 with e | ⟨_, e⟩ | ⟨e, _⟩
        · omega
        · exact e
        · omega⟩
    · have hT2 := (hT.2.2 (-(k (52 + 4 * b + 3).toNat)) (by omega) (by omega)).2
      rw [hT2]
      exact ⟨fun q => ⟨h2, Or.inr (Or.inr ⟨g, q⟩)⟩, fun q => by
        rcases q.2 with e | ⟨e, _⟩ | ⟨_, e⟩
        · omega
        · omega
        · exact e⟩
