/-! words for counts, folds and rows; what the plan's row of numbers keeps -/
noncomputable def q_cntN (p : Int → Prop) : Nat → Int
  | 0 => 0
  | n + 1 => q_cntN p n + pz_bi (p n)
/-- of how many ints from 0 on, below n, p holds -/
noncomputable def q_cnt (p : Int → Prop) (n : Int) : Int := q_cntN p n.toNat
theorem pz_bi_r (p : Prop) : 0 ≤ pz_bi p ∧ pz_bi p ≤ 1 := by rcases pz_bi01 p with h | h <;> rw [h] <;> omega
theorem q_cnt_s {p : Int → Prop} {n : Int} (h : 0 ≤ n) : q_cnt p (n + 1) = q_cnt p n + pz_bi (p n) := by
  unfold q_cnt
  rw [show (n + 1).toNat = n.toNat + 1 by omega]
  show q_cntN p n.toNat + pz_bi (p (n.toNat : Int)) = _
  rw [Int.toNat_of_nonneg h]
theorem q_cntN_r (p : Int → Prop) : ∀ n : Nat, 0 ≤ q_cntN p n ∧ q_cntN p n ≤ n
  | 0 => ⟨Int.le_refl 0, Int.le_refl 0⟩
  | n + 1 => by
    have h1 := q_cntN_r p n
    have h2 := pz_bi_r (p n)
    show 0 ≤ q_cntN p n + pz_bi (p n) ∧ q_cntN p n + pz_bi (p n) ≤ ((n + 1 : Nat) : Int)
    omega
theorem q_cnt_r (p : Int → Prop) {n : Int} (h : 0 ≤ n) : 0 ≤ q_cnt p n ∧ q_cnt p n ≤ n := by
  have h1 := q_cntN_r p n.toNat
  unfold q_cnt
  omega
theorem q_cntN_congr {p q : Int → Prop} : ∀ {n : Nat}, (∀ i : Nat, i < n → (p i ↔ q i)) → q_cntN p n = q_cntN q n
  | 0, _ => rfl
  | n + 1, h => by
    show q_cntN p n + pz_bi (p n) = q_cntN q n + pz_bi (q n)
    rw [q_cntN_congr (fun i hi => h i (by omega)), pz_bi_iff (h n (by omega))]
theorem q_cnt_congr {p q : Int → Prop} {n : Int} (h : ∀ i, 0 ≤ i → i < n → (p i ↔ q i)) : q_cnt p n = q_cnt q n := q_cntN_congr (fun i hi => h i (by omega) (by omega))
def q_exi (p : Int → Prop) (n : Int) : Prop := ∃ i, 0 ≤ i ∧ i < n ∧ p i
def q_all (p : Int → Prop) (n : Int) : Prop := ∀ i, 0 ≤ i → i < n → p i
theorem q_exi_0 {p : Int → Prop} {n : Int} (hn : n ≤ 0) : (0 : Int) = pz_bi (q_exi p n) := pz_bi_f (fun ⟨i, h1, h2, _⟩ => by omega)
theorem q_exi_s {p : Int → Prop} {n : Int} (hn : 0 ≤ n) : q_exi p (n + 1) ↔ q_exi p n ∨ p n := by
  constructor
  · rintro ⟨i, h1, h2, h3⟩
    rcases Int.lt_or_le i n with h | h
    · exact Or.inl ⟨i, h1, h, h3⟩
    · have : i = n := by omega
      subst this
      exact Or.inr h3
  · rintro (⟨i, h1, h2, h3⟩ | h)
    · exact ⟨i, h1, by omega, h3⟩
    · exact ⟨n, hn, by omega, h⟩
theorem q_exi_t1 {p : Int → Prop} {n z : Int} (hz : z = pz_bi (q_exi p n)) (h : z ≠ 0) (hn : 0 ≤ n) : (1 : Int) = pz_bi (q_exi p (n + 1)) := pz_bi_t ((q_exi_s hn).mpr (Or.inl (pz_bi_ne (by rw [← hz]; exact h))))
theorem q_exi_t2 {p : Int → Prop} {n : Int} (hn : 0 ≤ n) (h : p n) : (1 : Int) = pz_bi (q_exi p (n + 1)) := pz_bi_t ((q_exi_s hn).mpr (Or.inr h))
theorem q_exi_f {p : Int → Prop} {n z : Int} (hz : z = pz_bi (q_exi p n)) (h : z = 0) (hn : 0 ≤ n) (hp : ¬ p n) : (0 : Int) = pz_bi (q_exi p (n + 1)) := pz_bi_f (fun q => ((q_exi_s hn).mp q).elim (pz_bi_eq (by rw [← hz]; exact h)) hp)
theorem q_all_s {p : Int → Prop} {n : Int} (hn : 0 ≤ n) : q_all p (n + 1) ↔ q_all p n ∧ p n := by
  constructor
  · intro h
    exact ⟨fun i h1 h2 => h i h1 (by omega), h n hn (by omega)⟩
  · rintro ⟨h, hp⟩ i h1 h2
    rcases Int.lt_or_le i n with h3 | h3
    · exact h i h1 h3
    · have : i = n := by omega
      subst this
      exact hp
theorem q_all_0 {p : Int → Prop} {n : Int} (hn : n ≤ 0) : (1 : Int) = pz_bi (q_all p n) := pz_bi_t (fun i h1 h2 => by omega)
theorem q_all_t {p : Int → Prop} {n z : Int} (hz : z = pz_bi (q_all p n)) (h : z ≠ 0) (hn : 0 ≤ n) (hp : p n) : (1 : Int) = pz_bi (q_all p (n + 1)) := pz_bi_t ((q_all_s hn).mpr ⟨pz_bi_ne (by rw [← hz]; exact h), hp⟩)
theorem q_all_f1 {p : Int → Prop} {n z : Int} (hz : z = pz_bi (q_all p n)) (h : z = 0) (hn : 0 ≤ n) : (0 : Int) = pz_bi (q_all p (n + 1)) := pz_bi_f (fun q => pz_bi_eq (by rw [← hz]; exact h) ((q_all_s hn).mp q).1)
theorem q_all_f2 {p : Int → Prop} {n : Int} (hn : 0 ≤ n) (hp : ¬ p n) : (0 : Int) = pz_bi (q_all p (n + 1)) := pz_bi_f (fun q => hp ((q_all_s hn).mp q).2)
def q_itN {α : Type} (f : Nat → α → α) : Nat → α → α
  | 0, x => x
  | n + 1, x => f n (q_itN f n x)
/-- a loop from a on, below i -/
def q_fr {α : Type} (f : Int → α → α) (a i : Int) (x : α) : α := q_itN (fun n => f (a + n)) (i - a).toNat x
theorem q_fr_0 {α : Type} {f : Int → α → α} {a i : Int} {x : α} (h : i ≤ a) : q_fr f a i x = x := by
  unfold q_fr
  rw [show (i - a).toNat = 0 by omega]
  rfl
theorem q_fr_s {α : Type} {f : Int → α → α} {a i : Int} {x : α} (h : a ≤ i) : q_fr f a (i + 1) x = f i (q_fr f a i x) := by
  unfold q_fr
  rw [show (i + 1 - a).toNat = (i - a).toNat + 1 by omega]
  show f (a + ((i - a).toNat : Int)) _ = _
  rw [show a + ((i - a).toNat : Int) = i by omega]
theorem q_fr_ind {α : Type} {f : Int → α → α} {a n : Int} {x : α} (P : Int → α → Prop) (h : a ≤ n) (h0 : P a x) (hs : ∀ i y, a ≤ i → i < n → P i y → P (i + 1) (f i y)) : P n (q_fr f a n x) := by
  have key : ∀ d : Nat, a + d ≤ n → P (a + d) (q_fr f a (a + d) x) := by
    intro d
    induction d with
    | zero =>
      intro _
      rw [q_fr_0 (by omega)]
      have : a + ((0 : Nat) : Int) = a := by omega
      rw [this]
      exact h0
    | succ d ih =>
      intro hd
      have h1 := hs (a + d) _ (by omega) (by omega) (ih (by omega))
      rw [show a + ((d + 1 : Nat) : Int) = a + (d : Int) + 1 by omega, q_fr_s (by omega)]
      exact h1
  have h2 := key (n - a).toNat (by omega)
  rw [show a + ((n - a).toNat : Int) = n by omega] at h2
  exact h2
theorem q_fr_congr {α : Type} {f g : Int → α → α} {a n : Int} {x : α} (h : ∀ i y, a ≤ i → i < n → f i y = g i y) : q_fr f a n x = q_fr g a n x := by
  rcases Int.lt_or_le n a with hn | hn
  · rw [q_fr_0 (by omega), q_fr_0 (by omega)]
  · refine q_fr_ind (f := f) (fun i y => y = q_fr g a i x) hn ?_ ?_
    · rw [q_fr_0 (by omega)]
    · intro i y h1 h2 h3
      rw [q_fr_s h1, ← h3, h i y h1 h2]
noncomputable def q_if {α : Type} (p : Prop) (x y : α) : α := @ite _ p (Classical.propDecidable p) x y
theorem q_if_t {α : Type} {p : Prop} {x y : α} (h : p) : q_if p x y = x := if_pos h
theorem q_if_f {α : Type} {p : Prop} {x y : α} (h : ¬ p) : q_if p x y = y := if_neg h
/-- an edge with a weight: the lesser one stays -/
noncomputable def q_lw (f : Nat → Int) (c w : Int) : Nat → Int := q_if (w < f c.toNat) (pz_up f c.toNat w) f
noncomputable def q_eg (f : Nat → Int) (i j w : Int) : Nat → Int := q_lw f (10 * i + j) w
/-! the plan's row: 0 events, 1 bounds, 2 spans, 3 activities, 4 the minute, 5 the capacity, 6 starts, 16 due minutes, 26 and 36 rates, 46 labels, 52 bounds, 212 spans, 224 activities, 240 what was played -/
abbrev q_tru (k : Nat → Int) (l : Int) : Prop := k (46 + l).toNat = 116 ∨ k (46 + l).toNat = 84
abbrev q_fls (k : Nat → Int) (l : Int) : Prop := k (46 + l).toNat = 102 ∨ k (46 + l).toNat = 70
abbrev q_obs (k : Nat → Int) (l : Int) : Prop := k (46 + l).toNat = 116 ∨ k (46 + l).toNat = 102
abbrev q_hld (k : Nat → Int) (b : Int) : Prop := k (52 + 4 * b + 3).toNat ≠ 99 ∧ (k (52 + 4 * b + 3).toNat = 0 ∨ (0 < k (52 + 4 * b + 3).toNat ∧ q_tru k (k (52 + 4 * b + 3).toNat)) ∨ (k (52 + 4 * b + 3).toNat < 0 ∧ q_fls k (-(k (52 + 4 * b + 3).toNat))))
noncomputable def q_held (k : Nat → Int) : Int := q_cnt (q_hld k) (k 1)
abbrev q_sta (k : Nat → Int) (e : Int) : Prop := k (6 + e).toNat ≠ -1
def q_KR (k : Nat → Int) : Prop :=
  ((1 ≤ k 0 ∧ k 0 ≤ 10) ∧ (0 ≤ k 1 ∧ k 1 ≤ 40) ∧ (0 ≤ k 2 ∧ k 2 ≤ 3) ∧ (0 ≤ k 3 ∧ k 3 ≤ 5) ∧ (0 ≤ k 4 ∧ k 4 ≤ 600) ∧ (0 ≤ k 5 ∧ k 5 ≤ 40) ∧ k 6 = 0 ∧ (0 ≤ k 240 ∧ k 240 ≤ k 0)) ∧
  (∀ e : Int, 0 ≤ e → e ≤ 9 → (-1 ≤ k (6 + e).toNat ∧ k (6 + e).toNat ≤ k 4) ∧ (k (6 + e).toNat ≠ -1 → e < k 0)) ∧
  (∀ e : Int, 0 ≤ e → e ≤ 9 → (-1 ≤ k (16 + e).toNat ∧ k (16 + e).toNat ≤ 999) ∧ (0 ≤ k (26 + e).toNat ∧ k (26 + e).toNat ≤ 99) ∧ (0 ≤ k (36 + e).toNat ∧ k (36 + e).toNat ≤ 99)) ∧
  (∀ l : Int, 0 ≤ l → l ≤ 4 → k (46 + l).toNat = 111 ∨ k (46 + l).toNat = 116 ∨ k (46 + l).toNat = 102 ∨ k (46 + l).toNat = 84 ∨ k (46 + l).toNat = 70) ∧
  (∀ b : Int, 0 ≤ b → b < k 1 → (0 ≤ k (52 + 4 * b).toNat ∧ k (52 + 4 * b).toNat < k 0) ∧ (0 ≤ k (52 + 4 * b + 1).toNat ∧ k (52 + 4 * b + 1).toNat < k 0) ∧ k (52 + 4 * b).toNat ≠ k (52 + 4 * b + 1).toNat ∧ (-500 ≤ k (52 + 4 * b + 2).toNat ∧ k (52 + 4 * b + 2).toNat ≤ 500) ∧ ((-4 ≤ k (52 + 4 * b + 3).toNat ∧ k (52 + 4 * b + 3).toNat ≤ 4) ∨ k (52 + 4 * b + 3).toNat = 99)) ∧
  (∀ s : Int, 0 ≤ s → s < k 2 → 0 ≤ k (212 + 4 * s).toNat ∧ k (212 + 4 * s).toNat < k (212 + 4 * s + 1).toNat ∧ k (212 + 4 * s + 1).toNat < k 0 ∧ 1 ≤ k (212 + 4 * s + 2).toNat ∧ k (212 + 4 * s + 2).toNat ≤ k (212 + 4 * s + 3).toNat ∧ k (212 + 4 * s + 3).toNat ≤ 200) ∧
  (∀ s t : Int, 0 ≤ s → s < t → t < k 2 → k (212 + 4 * s + 1).toNat ≠ k (212 + 4 * t + 1).toNat) ∧
  (∀ s : Int, 0 ≤ s → s < k 2 → q_sta k (k (212 + 4 * s + 1).toNat) → q_sta k (k (212 + 4 * s).toNat) ∧ k (212 + 4 * s + 2).toNat ≤ k (6 + k (212 + 4 * s + 1).toNat).toNat - k (6 + k (212 + 4 * s).toNat).toNat ∧ k (6 + k (212 + 4 * s + 1).toNat).toNat - k (6 + k (212 + 4 * s).toNat).toNat ≤ k (212 + 4 * s + 3).toNat) ∧
  (∀ a : Int, 0 ≤ a → a < k 3 → (0 ≤ k (224 + 3 * a).toNat ∧ k (224 + 3 * a).toNat < k 0) ∧ (0 ≤ k (224 + 3 * a + 1).toNat ∧ k (224 + 3 * a + 1).toNat < k 0) ∧ k (224 + 3 * a).toNat ≠ k (224 + 3 * a + 1).toNat ∧ (1 ≤ k (224 + 3 * a + 2).toNat ∧ k (224 + 3 * a + 2).toNat ≤ 9)) ∧
  (∀ e : Int, 0 ≤ e → e < k 240 → 0 ≤ k (241 + e).toNat ∧ k (241 + e).toNat ≤ 600)
theorem q_KR.r0 {k : Nat → Int} (h : q_KR k) : (1 ≤ k 0 ∧ k 0 ≤ 10) ∧ (0 ≤ k 1 ∧ k 1 ≤ 40) ∧ (0 ≤ k 2 ∧ k 2 ≤ 3) ∧ (0 ≤ k 3 ∧ k 3 ≤ 5) ∧ (0 ≤ k 4 ∧ k 4 ≤ 600) ∧ (0 ≤ k 5 ∧ k 5 ≤ 40) ∧ k 6 = 0 ∧ (0 ≤ k 240 ∧ k 240 ≤ k 0) := h.1
theorem q_KR.st {k : Nat → Int} (h : q_KR k) {e : Int} (h1 : 0 ≤ e) (h2 : e ≤ 9) : (-1 ≤ k (6 + e).toNat ∧ k (6 + e).toNat ≤ 600) ∧ (k (6 + e).toNat ≠ -1 → e < k 0) := by
  have q := h.2.1 e h1 h2
  have q1 := h.1.2.2.2.2.1
  exact ⟨⟨q.1.1, by omega⟩, q.2⟩
theorem q_KR.cs {k : Nat → Int} (h : q_KR k) {e : Int} (h1 : 0 ≤ e) (h2 : e ≤ 9) : (-1 ≤ k (16 + e).toNat ∧ k (16 + e).toNat ≤ 999) ∧ (0 ≤ k (26 + e).toNat ∧ k (26 + e).toNat ≤ 99) ∧ (0 ≤ k (36 + e).toNat ∧ k (36 + e).toNat ≤ 99) := h.2.2.1 e h1 h2
theorem q_KR.lb {k : Nat → Int} (h : q_KR k) {l : Int} (h1 : 0 ≤ l) (h2 : l ≤ 4) : k (46 + l).toNat = 111 ∨ k (46 + l).toNat = 116 ∨ k (46 + l).toNat = 102 ∨ k (46 + l).toNat = 84 ∨ k (46 + l).toNat = 70 := h.2.2.2.1 l h1 h2
theorem q_KR.bd {k : Nat → Int} (h : q_KR k) {b : Int} (h1 : 0 ≤ b) (h2 : b < k 1) : (0 ≤ k (52 + 4 * b).toNat ∧ k (52 + 4 * b).toNat < k 0) ∧ (0 ≤ k (52 + 4 * b + 1).toNat ∧ k (52 + 4 * b + 1).toNat < k 0) ∧ k (52 + 4 * b).toNat ≠ k (52 + 4 * b + 1).toNat ∧ (-500 ≤ k (52 + 4 * b + 2).toNat ∧ k (52 + 4 * b + 2).toNat ≤ 500) ∧ ((-4 ≤ k (52 + 4 * b + 3).toNat ∧ k (52 + 4 * b + 3).toNat ≤ 4) ∨ k (52 + 4 * b + 3).toNat = 99) := h.2.2.2.2.1 b h1 h2
theorem q_KR.sp {k : Nat → Int} (h : q_KR k) {s : Int} (h1 : 0 ≤ s) (h2 : s < k 2) : 0 ≤ k (212 + 4 * s).toNat ∧ k (212 + 4 * s).toNat < k (212 + 4 * s + 1).toNat ∧ k (212 + 4 * s + 1).toNat < k 0 ∧ 1 ≤ k (212 + 4 * s + 2).toNat ∧ k (212 + 4 * s + 2).toNat ≤ k (212 + 4 * s + 3).toNat ∧ k (212 + 4 * s + 3).toNat ≤ 200 := h.2.2.2.2.2.1 s h1 h2
theorem q_KR.sq {k : Nat → Int} (h : q_KR k) {s t : Int} (h1 : 0 ≤ s) (h2 : s < t) (h3 : t < k 2) : k (212 + 4 * s + 1).toNat ≠ k (212 + 4 * t + 1).toNat := h.2.2.2.2.2.2.1 s t h1 h2 h3
theorem q_KR.en {k : Nat → Int} (h : q_KR k) {s : Int} (h1 : 0 ≤ s) (h2 : s < k 2) (h3 : q_sta k (k (212 + 4 * s + 1).toNat)) : q_sta k (k (212 + 4 * s).toNat) ∧ k (212 + 4 * s + 2).toNat ≤ k (6 + k (212 + 4 * s + 1).toNat).toNat - k (6 + k (212 + 4 * s).toNat).toNat ∧ k (6 + k (212 + 4 * s + 1).toNat).toNat - k (6 + k (212 + 4 * s).toNat).toNat ≤ k (212 + 4 * s + 3).toNat := h.2.2.2.2.2.2.2.1 s h1 h2 h3
theorem q_KR.ac {k : Nat → Int} (h : q_KR k) {a : Int} (h1 : 0 ≤ a) (h2 : a < k 3) : (0 ≤ k (224 + 3 * a).toNat ∧ k (224 + 3 * a).toNat < k 0) ∧ (0 ≤ k (224 + 3 * a + 1).toNat ∧ k (224 + 3 * a + 1).toNat < k 0) ∧ k (224 + 3 * a).toNat ≠ k (224 + 3 * a + 1).toNat ∧ (1 ≤ k (224 + 3 * a + 2).toNat ∧ k (224 + 3 * a + 2).toNat ≤ 9) := h.2.2.2.2.2.2.2.2.1 a h1 h2
theorem q_KR.pl {k : Nat → Int} (h : q_KR k) {e : Int} (h1 : 0 ≤ e) (h2 : e < k 240) : 0 ≤ k (241 + e).toNat ∧ k (241 + e).toNat ≤ 600 := h.2.2.2.2.2.2.2.2.2 e h1 h2
/-- the end of a run that leaves the outcome o and the memory iv' -/
def pz_P (S : pz_S) (o : Option pz_V ⊕ Nat) (iv' : Nat → Nat → Int) (dv : Nat → Nat → UInt64) (cc ss : Nat) : pz_Q := fun o' h' => o' = o ∧ h' = (S, iv', dv, cc + pz_x o, ss + 6 * pz_x o)
def q_tell (k : Nat → Int) (f t w l : Int) : Nat → Int := pz_up (pz_up (pz_up (pz_up (pz_up k (52 + 4 * k 1).toNat f) (52 + 4 * k 1 + 1).toNat t) (52 + 4 * k 1 + 2).toNat w) (52 + 4 * k 1 + 3).toNat l) 1 (k 1 + 1)
theorem pz_up_ne {α : Type} {f : Nat → α} {k : Nat} {x : α} {j : Nat} (h : j ≠ k) : pz_up f k x j = f j := if_neg h
theorem pz_up_eq {α : Type} {f : Nat → α} {k : Nat} {x : α} : pz_up f k x k = x := if_pos rfl
theorem pz_up_eq' {α : Type} {f : Nat → α} {k : Nat} {x : α} {j : Nat} (h : j = k) : pz_up f k x j = x := if_pos h
