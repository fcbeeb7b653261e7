/-! rows of the mathematics that are still owed -/
noncomputable def q_dd (k lf g : Nat → Int) : Nat → Int := q_cg (q_net k lf g)
def q_con (k lf : Nat → Int) : Prop := q_ok (q_net k lf (fun _ => 0))
theorem q_cb_net {k lf g : Nat → Int} (h : q_KR k) : q_cb (q_net k lf g) := sorry
theorem q_con_eq {k lf g : Nat → Int} : q_ok (q_net k lf g) ↔ q_con k lf := sorry
theorem q_KR_drop {k : Nat → Int} {b : Int} (h : q_KR k) (h1 : 0 ≤ b) (h2 : b < k 1) : q_KR (pz_up k (52 + 4 * b + 3).toNat 99) := sorry
theorem q_KR_obs {k : Nat → Int} {l v : Int} (h : q_KR k) (h1 : 1 ≤ l) (h2 : l ≤ 4) (hv : v = 111 ∨ v = 116 ∨ v = 102 ∨ v = 84 ∨ v = 70) : q_KR (pz_up k (46 + l).toNat v) := sorry
def q_addsp (k : Nat → Int) (f t l g : Int) : Nat → Int := pz_up (pz_up (pz_up (pz_up (pz_up k (212 + 4 * k 2).toNat f) (212 + 4 * k 2 + 1).toNat t) (212 + 4 * k 2 + 2).toNat l) (212 + 4 * k 2 + 3).toNat g) 2 (k 2 + 1)
def q_addac (k : Nat → Int) (f t d : Int) : Nat → Int := pz_up (pz_up (pz_up (pz_up k (224 + 3 * k 3).toNat f) (224 + 3 * k 3 + 1).toNat t) (224 + 3 * k 3 + 2).toNat d) 3 (k 3 + 1)
theorem q_dd_r {k lf g : Nat → Int} {j : Nat} (h : q_KR k) (hc : q_con k lf) (hj : j < 100) : -10000 ≤ q_dd k lf g j ∧ (q_dd k lf g j ≤ 10000 ∨ q_dd k lf g j = 1000000) := sorry
/-- the first time of an event, by a square -/
def q_ft (d : Nat → Int) (e : Int) : Int := if d (10 * e).toNat < 0 then -(d (10 * e).toNat) else 0
abbrev q_dl (d : Nat → Int) : Prop := ∀ e : Int, 0 ≤ e → e ≤ 9 → -1000000000 ≤ d (10 * e).toNat
theorem q_dd_l {k lf g : Nat → Int} (h : q_KR k) (hc : q_con k lf) : q_dl (q_dd k lf g) := fun e h1 h2 => by
  have h3 := q_dd_r (g := g) (j := (10 * e).toNat) h hc (by omega)
  omega
theorem q_ft_r {d : Nat → Int} {e : Int} (h : q_dl d) (h1 : 0 ≤ e) (h2 : e ≤ 9) : 0 ≤ q_ft d e ∧ q_ft d e ≤ 1000000000 := by
  have h3 := h e h1 h2
  unfold q_ft
  split <;> omega
abbrev q_on (k d : Nat → Int) (a m : Int) : Prop := q_ft d (k (224 + 3 * a).toNat) ≤ m ∧ m < q_ft d (k (224 + 3 * a + 1).toNat)
noncomputable def q_sumN (f : Int → Int) : Nat → Int
  | 0 => 0
  | n + 1 => q_sumN f n + f n
noncomputable def q_sum (f : Int → Int) (n : Int) : Int := q_sumN f n.toNat
theorem q_sum_s {f : Int → Int} {n : Int} (h : 0 ≤ n) : q_sum f (n + 1) = q_sum f n + f n := by
  unfold q_sum
  rw [show (n + 1).toNat = n.toNat + 1 by omega]
  show q_sumN f n.toNat + f (n.toNat : Int) = _
  rw [Int.toNat_of_nonneg h]
theorem q_sumN_r {f : Int → Int} {lo hi : Int} : ∀ {n : Nat}, (∀ i : Int, 0 ≤ i → i < n → lo ≤ f i ∧ f i ≤ hi) → lo * n ≤ q_sumN f n ∧ q_sumN f n ≤ hi * n
  | 0, _ => by show lo * 0 ≤ 0 ∧ 0 ≤ hi * 0; omega
  | n + 1, h => by
    have h1 := q_sumN_r (n := n) (fun i g1 g2 => h i g1 (by omega))
    have h2 := h n (by omega) (by omega)
    show lo * ((n + 1 : Nat) : Int) ≤ q_sumN f n + f n ∧ q_sumN f n + f n ≤ hi * ((n + 1 : Nat) : Int)
    have e1 : lo * ((n + 1 : Nat) : Int) = lo * (n : Int) + lo := by rw [Int.natCast_add, Int.mul_add]; omega
    have e2 : hi * ((n + 1 : Nat) : Int) = hi * (n : Int) + hi := by rw [Int.natCast_add, Int.mul_add]; omega
    omega
theorem q_sum_r {f : Int → Int} {lo hi n : Int} (hn : 0 ≤ n) (h : ∀ i : Int, 0 ≤ i → i < n → lo ≤ f i ∧ f i ≤ hi) : lo * n ≤ q_sum f n ∧ q_sum f n ≤ hi * n := by
  have h1 := q_sumN_r (f := f) (lo := lo) (hi := hi) (n := n.toNat) (fun i g1 g2 => h i g1 (by omega))
  rw [Int.toNat_of_nonneg hn] at h1
  exact h1
theorem q_sum_congr {f g : Int → Int} {n : Int} (h : ∀ i : Int, 0 ≤ i → i < n → f i = g i) : q_sum f n = q_sum g n := by
  have key : ∀ m : Nat, (m : Int) ≤ n → q_sumN f m = q_sumN g m := by
    intro m
    induction m with
    | zero => intro _; rfl
    | succ m ih =>
      intro hm
      show q_sumN f m + f m = q_sumN g m + g m
      rw [ih (by omega), h m (by omega) (by omega)]
  rcases Int.lt_or_le n 0 with hn | hn
  · unfold q_sum
    rw [show n.toNat = 0 by omega]
    rfl
  · exact key n.toNat (by omega)
/-- the use of a minute -/
noncomputable def q_use (k d : Nat → Int) (m : Int) : Int := q_sum (fun a => q_if (q_on k d a m) (k (224 + 3 * a + 2).toNat) 0) (k 3)
/-- the first peak, or -1 -/
noncomputable def q_pkS (k d : Nat → Int) (a best : Int) : Int := q_if (k 5 < q_use k d (q_ft d (k (224 + 3 * a).toNat)) ∧ (best = -1 ∨ q_ft d (k (224 + 3 * a).toNat) < best)) (q_ft d (k (224 + 3 * a).toNat)) best
noncomputable def q_pk (k d : Nat → Int) : Int := q_fr (q_pkS k d) 0 (k 3) (-1)
def q_sl (k d : Nat → Int) (x y : Int) : Int := if d (10 * k (224 + 3 * x + 1).toNat + k (224 + 3 * y).toNat).toNat = 1000000 then 9999 else d (10 * k (224 + 3 * x + 1).toNat + k (224 + 3 * y).toNat).toNat
def q_cst (k : Nat → Int) (e m : Int) : Int := if k (16 + e).toNat = -1 then 0 else if m < k (16 + e).toNat then k (26 + e).toNat * (k (16 + e).toNat - m) else k (36 + e).toNat * (m - k (16 + e).toNat)
theorem q_mul_r {x y a b : Int} (hx : 0 ≤ x ∧ x ≤ a) (hy : 0 ≤ y ∧ y ≤ b) : 0 ≤ x * y ∧ x * y ≤ a * b := ⟨Int.mul_nonneg hx.1 hy.1, Int.mul_le_mul hx.2 hy.2 hy.1 (by omega)⟩
def q_opn (o : Int) (k fr : Nat → Int) : Nat → Int := fun j => if 260 * o ≤ (j : Int) ∧ (j : Int) < 260 * o + 260 then k ((j : Int) - 260 * o).toNat else fr j
def q_tbk (o : Int) (fr k : Nat → Int) : Nat → Int := fun j => if j < 260 then fr (260 * o + (j : Int)).toNat else k j
abbrev q_ovr (k : Nat → Int) (m s : Int) : Prop := q_sta k (k (212 + 4 * s).toNat) ∧ ¬ q_sta k (k (212 + 4 * s + 1).toNat) ∧ k (212 + 4 * s + 3).toNat < k 4 + m - k (6 + k (212 + 4 * s).toNat).toNat
/-- 2 to the power of a -/
def q_p2 (a : Int) : Int := ((2 ^ a.toNat : Nat) : Int)
theorem q_shlN : ∀ a : Fin 5, pz_shl 1 ((a.val : Nat) : Int) = ((2 ^ a.val : Nat) : Int) := by decide +kernel
theorem q_orN : ∀ (a : Fin 5) (x : Fin 16), x.val < 2 ^ a.val → pz_or ((x.val : Nat) : Int) (pz_shl 1 ((a.val : Nat) : Int)) = ((x.val + 2 ^ a.val : Nat) : Int) := by decide +kernel
theorem q_or0N : ∀ (x : Fin 32), pz_or ((x.val : Nat) : Int) 0 = ((x.val : Nat) : Int) := by decide +kernel
theorem q_p2_s {a : Int} (h : 0 ≤ a) : q_p2 (a + 1) = 2 * q_p2 a := by
  unfold q_p2
  rw [show (a + 1).toNat = a.toNat + 1 by omega, Nat.pow_succ]
  omega
theorem q_p2_r : ∀ {a : Int}, 0 ≤ a → a ≤ 4 → 1 ≤ q_p2 a ∧ q_p2 a ≤ 16 := by
  intro a h1 h2
  have h3 : a = 0 ∨ a = 1 ∨ a = 2 ∨ a = 3 ∨ a = 4 := by omega
  rcases h3 with rfl | rfl | rfl | rfl | rfl <;> decide
theorem q_or_p2 {a x : Int} (h1 : 0 ≤ a) (h2 : a ≤ 4) (h3 : 0 ≤ x) (h4 : x < q_p2 a) : pz_or x (pz_shl 1 a) = x + q_p2 a := by
  have h5 := q_p2_r h1 h2
  have h6 := q_orN ⟨a.toNat, by omega⟩ ⟨x.toNat, by omega⟩ (by unfold q_p2 at h4; show x.toNat < 2 ^ a.toNat; omega)
  dsimp only at h6
  rw [Int.toNat_of_nonneg h1, Int.toNat_of_nonneg h3] at h6
  rw [h6]
  unfold q_p2
  omega
theorem q_or_0 {x : Int} (h3 : 0 ≤ x) (h4 : x < 32) : pz_or x 0 = x := by
  have h6 := q_or0N ⟨x.toNat, by omega⟩
  dsimp only at h6
  rw [Int.toNat_of_nonneg h3] at h6
  exact h6
theorem q_shl_p2 {a : Int} (h1 : 0 ≤ a) (h2 : a ≤ 4) : pz_shl 1 a = q_p2 a := by
  have h6 := q_shlN ⟨a.toNat, by omega⟩
  dsimp only at h6
  rw [Int.toNat_of_nonneg h1] at h6
  exact h6
/-- the set of activities that are on -/
noncomputable def q_st (k d : Nat → Int) (m n : Int) : Int := q_sum (fun a => q_if (q_on k d a m) (q_p2 a) 0) n
theorem q_st_r {k d : Nat → Int} {m n : Int} (h1 : 0 ≤ n) (h2 : n ≤ 5) : 0 ≤ q_st k d m n ∧ q_st k d m n < q_p2 n := by
  have key : ∀ j : Nat, (j : Int) ≤ 5 → 0 ≤ q_st k d m j ∧ q_st k d m j < q_p2 j := by
    intro j
    induction j with
    | zero => intro _; exact ⟨Int.le_refl 0, show (0 : Int) < 1 by decide⟩
    | succ j ih =>
      intro hj
      have h3 := ih (by omega)
      rw [show ((j + 1 : Nat) : Int) = (j : Int) + 1 by omega, q_p2_s (by omega)]
      unfold q_st at h3 ⊢
      rw [q_sum_s (by omega)]
      have h4 := q_p2_r (a := j) (by omega) (by omega)
      by_cases hq : q_on k d j m
      · rw [q_if_t hq]; omega
      · rw [q_if_f hq]; omega
  have h9 := key n.toNat (by omega)
  rw [Int.toNat_of_nonneg h1] at h9
  exact h9
noncomputable def q_cost (k d : Nat → Int) (n : Int) : Int := q_sum (fun e => q_cst k e (q_ft d e)) n
theorem q_aal_t {A : Prop} {p : Int → Prop} {n z : Int} (hz : z = pz_bi (A ∧ q_all p n)) (h : z ≠ 0) (hn : 0 ≤ n) (hp : p n) : (1 : Int) = pz_bi (A ∧ q_all p (n + 1)) := by
  have h1 := pz_bi_ne (by rw [← hz]; exact h)
  exact pz_bi_t ⟨h1.1, (q_all_s hn).mpr ⟨h1.2, hp⟩⟩
theorem q_aal_f1 {A : Prop} {p : Int → Prop} {n z : Int} (hz : z = pz_bi (A ∧ q_all p n)) (h : z = 0) (hn : 0 ≤ n) : (0 : Int) = pz_bi (A ∧ q_all p (n + 1)) :=
  pz_bi_f (fun q => pz_bi_eq (p := A ∧ q_all p n) (by rw [← hz]; exact h) ⟨q.1, ((q_all_s hn).mp q.2).1⟩)
theorem q_aal_f2 {A : Prop} {p : Int → Prop} {n : Int} (hn : 0 ≤ n) (hp : ¬ p n) : (0 : Int) = pz_bi (A ∧ q_all p (n + 1)) := pz_bi_f (fun q => hp ((q_all_s hn).mp q.2).2)
theorem q_aal_0t {A : Prop} {p : Int → Prop} (h : A) : (1 : Int) = pz_bi (A ∧ q_all p 0) := pz_bi_t ⟨h, fun i h1 h2 => by omega⟩
theorem q_aal_0f {A : Prop} {p : Int → Prop} (h : ¬ A) : (0 : Int) = pz_bi (A ∧ q_all p 0) := pz_bi_f (fun q => h q.1)
abbrev q_dirP (d : Nat → Int) (f t c : Int) : Prop := c = f ∨ c = t ∨ d (10 * f + c).toNat = 1000000 ∨ d (10 * c + t).toNat = 1000000 ∨ d (10 * f + c).toNat + d (10 * c + t).toNat ≠ d (10 * f + t).toNat
def q_dir (d : Nat → Int) (f t : Int) : Prop := d (10 * f + t).toNat < 1000000 ∧ q_all (q_dirP d f t) 10
noncomputable def q_cfP (k : Nat → Int) (b : Int) (s : (Nat → Int) × (Nat → Int)) : (Nat → Int) × (Nat → Int) :=
  q_if (q_hld k b) (q_if (q_con k (pz_up s.1 b.toNat 1)) (pz_up (pz_up s.1 b.toNat 1) b.toNat 0) (pz_up s.1 b.toNat 1), q_dd k (pz_up s.1 b.toNat 1) s.2) s
noncomputable def q_cf (k : Nat → Int) (b : Int) (lf g : Nat → Int) : (Nat → Int) × (Nat → Int) := q_fr (q_cfP k) 0 b (lf, g)
def q_kept (k lf g : Nat → Int) (b : Int) : Prop := q_hld k b ∧ q_con k (pz_up (q_cf k b lf g).1 b.toNat 1)
def q_z40 (f : Nat → Int) : Nat → Int := fun j => if j < 40 then 0 else f j
abbrev q_up (p s : Int) : Prop := pz_and (pz_shr p s) 1 = 1
noncomputable def q_coE (k : Nat → Int) (p s : Int) (f : Nat → Int) : Nat → Int :=
  q_eg (q_eg f (k (212 + 4 * s).toNat) (k (212 + 4 * s + 1).toNat) (q_if (q_sta k (k (212 + 4 * s + 1).toNat) ∨ q_up p s) (k (212 + 4 * s + 3).toNat) (k (212 + 4 * s + 2).toNat)))
    (k (212 + 4 * s + 1).toNat) (k (212 + 4 * s).toNat) (q_if (q_sta k (k (212 + 4 * s + 1).toNat) ∨ ¬ q_up p s) (-(k (212 + 4 * s + 2).toNat)) (-(k (212 + 4 * s + 3).toNat)))
noncomputable def q_cor (k : Nat → Int) (p : Int) (f : Nat → Int) : Nat → Int := q_fr (q_coE k p) 0 (k 2) f
theorem q_fin {P : Prop} {z : Int} (hz : z = pz_bi P) : ((0 : Int) = 0 ∧ (z : Int) = 1) ↔ P := by
  constructor
  · intro h
    exact pz_bi_ne (by rw [← hz, h.2]; decide)
  · intro h
    exact ⟨rfl, by rw [hz]; exact pz_bi_1 h⟩
