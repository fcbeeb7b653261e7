/-! words and mathematics, each behind what it wants: chunk 4 -/
theorem q_shl_p2 {a : Int} (h1 : 0 ≤ a) (h2 : a ≤ 4) : pz_shl 1 a = q_p2 a := by
  have h6 := q_shlN ⟨a.toNat, by omega⟩
  dsimp only at h6
  rw [Int.toNat_of_nonneg h1] at h6
  exact h6
/-- the set of activities that are on -/
noncomputable def q_st (k d : Nat → Int) (m n : Int) : Int := q_sum (fun a => q_if (q_on k d a m) (q_p2 a) 0) n
theorem q_st_r {k d : Nat → Int} {m n : Int} (h1 : 0 ≤ n) (h2 : n ≤ 5) : 0 ≤ q_st k d m n ∧ q_st k d m n < q_p2 n := by
  have key : ∀ j : Nat, (j : Int) ≤ 5 → 0 ≤ q_st k d m j ∧ q_st k d m j < q_p2 j := by
    intro j
    induction j with
    | zero => intro _; exact ⟨Int.le_refl 0, show (0 : Int) < 1 by decide⟩
    | succ j ih =>
      intro hj
      have h3 := ih (by omega)
      rw [show ((j + 1 : Nat) : Int) = (j : Int) + 1 by omega, q_p2_s (by omega)]
      unfold q_st at h3 ⊢
      rw [q_sum_s (by omega)]
      have h4 := q_p2_r (a := j) (by omega) (by omega)
      by_cases hq : q_on k d j m
      · rw [q_if_t hq]; omega
      · rw [q_if_f hq]; omega
  have h9 := key n.toNat (by omega)
  rw [Int.toNat_of_nonneg h1] at h9
  exact h9
noncomputable def q_cost (k d : Nat → Int) (n : Int) : Int := q_sum (fun e => q_cst k e (q_ft d e)) n
theorem q_aal_t {A : Prop} {p : Int → Prop} {n z : Int} (hz : z = pz_bi (A ∧ q_all p n)) (h : z ≠ 0) (hn : 0 ≤ n) (hp : p n) : (1 : Int) = pz_bi (A ∧ q_all p (n + 1)) := by
  have h1 := pz_bi_ne (by rw [← hz]; exact h)
  exact pz_bi_t ⟨h1.1, (q_all_s hn).mpr ⟨h1.2, hp⟩⟩
theorem q_aal_f1 {A : Prop} {p : Int → Prop} {n z : Int} (hz : z = pz_bi (A ∧ q_all p n)) (h : z = 0) (hn : 0 ≤ n) : (0 : Int) = pz_bi (A ∧ q_all p (n + 1)) :=
  pz_bi_f (fun q => pz_bi_eq (p := A ∧ q_all p n) (by rw [← hz]; exact h) ⟨q.1, ((q_all_s hn).mp q.2).1⟩)
theorem q_aal_f2 {A : Prop} {p : Int → Prop} {n : Int} (hn : 0 ≤ n) (hp : ¬ p n) : (0 : Int) = pz_bi (A ∧ q_all p (n + 1)) := pz_bi_f (fun q => hp ((q_all_s hn).mp q.2).2)
theorem q_aal_0t {A : Prop} {p : Int → Prop} (h : A) : (1 : Int) = pz_bi (A ∧ q_all p 0) := pz_bi_t ⟨h, fun i h1 h2 => by omega⟩
theorem q_aal_0f {A : Prop} {p : Int → Prop} (h : ¬ A) : (0 : Int) = pz_bi (A ∧ q_all p 0) := pz_bi_f (fun q => h q.1)
abbrev q_dirP (d : Nat → Int) (f t c : Int) : Prop := c = f ∨ c = t ∨ d (10 * f + c).toNat = 1000000 ∨ d (10 * c + t).toNat = 1000000 ∨ d (10 * f + c).toNat + d (10 * c + t).toNat ≠ d (10 * f + t).toNat
def q_dir (d : Nat → Int) (f t : Int) : Prop := d (10 * f + t).toNat < 1000000 ∧ q_all (q_dirP d f t) 10
noncomputable def q_cfP (k : Nat → Int) (b : Int) (s : (Nat → Int) × (Nat → Int)) : (Nat → Int) × (Nat → Int) :=
  q_if (q_hld k b) (q_if (q_con k (pz_up s.1 b.toNat 1)) (pz_up (pz_up s.1 b.toNat 1) b.toNat 0) (pz_up s.1 b.toNat 1), q_dd k (pz_up s.1 b.toNat 1) s.2) s
noncomputable def q_cf (k : Nat → Int) (b : Int) (lf g : Nat → Int) : (Nat → Int) × (Nat → Int) := q_fr (q_cfP k) 0 b (lf, g)
def q_kept (k lf g : Nat → Int) (b : Int) : Prop := q_hld k b ∧ q_con k (pz_up (q_cf k b lf g).1 b.toNat 1)
def q_z40 (f : Nat → Int) : Nat → Int := fun j => if j < 40 then 0 else f j
abbrev q_up (p s : Int) : Prop := pz_and (pz_shr p s) 1 = 1
noncomputable def q_coE (k : Nat → Int) (p s : Int) (f : Nat → Int) : Nat → Int :=
  q_eg (q_eg f (k (212 + 4 * s).toNat) (k (212 + 4 * s + 1).toNat) (q_if (q_sta k (k (212 + 4 * s + 1).toNat) ∨ q_up p s) (k (212 + 4 * s + 3).toNat) (k (212 + 4 * s + 2).toNat)))
    (k (212 + 4 * s + 1).toNat) (k (212 + 4 * s).toNat) (q_if (q_sta k (k (212 + 4 * s + 1).toNat) ∨ ¬ q_up p s) (-(k (212 + 4 * s + 2).toNat)) (-(k (212 + 4 * s + 3).toNat)))
noncomputable def q_cor (k : Nat → Int) (p : Int) (f : Nat → Int) : Nat → Int := q_fr (q_coE k p) 0 (k 2) f
theorem q_fin {P : Prop} {z : Int} (hz : z = pz_bi P) : ((0 : Int) = 0 ∧ (z : Int) = 1) ↔ P := by
  constructor
  · intro h
    exact pz_bi_ne (by rw [← hz, h.2]; decide)
  · intro h
    exact ⟨rfl, by rw [hz]; exact pz_bi_1 h⟩
noncomputable def q_seS (tr fa l : Int) (f : Nat → Int) : Nat → Int := q_if (q_obs f l) f (pz_up f (46 + l).toNat (q_if (q_up tr (l - 1)) 84 (q_if (q_up fa (l - 1)) 70 111)))
noncomputable def q_sets (tr fa : Int) (k : Nat → Int) : Nat → Int := q_fr (q_seS tr fa) 1 5 k
abbrev q_fitP (k : Nat → Int) (tr l : Int) : Prop := 1 ≤ l → (¬ q_obs k l ∨ (q_tru k l ↔ q_up tr (l - 1)))
def q_fit (k : Nat → Int) (tr : Int) : Prop := q_all (q_fitP k tr) 5
def q_cd (k : Nat → Int) (l : Int) : Int := if k (46 + l).toNat = 116 then 1 else if k (46 + l).toNat = 102 then 2 else if k (46 + l).toNat = 84 then 3 else if k (46 + l).toNat = 70 then 4 else 0
def q_pdS (k : Nat → Int) (m s : Int) : Int := 5 * s + q_cd k (4 - m)
def q_pkd (k : Nat → Int) : Int := q_fr (q_pdS k) 0 4 0
def q_dec (c : Int) : Int := if c = 1 then 116 else if c = 2 then 102 else if c = 3 then 84 else if c = 4 then 70 else 111
def q_unP (l : Int) (s : Int × (Nat → Int)) : Int × (Nat → Int) := (s.1 / 5, pz_up s.2 (46 + l).toNat (q_dec (s.1 % 5)))
def q_un (n : Int) (k : Nat → Int) : Nat → Int := (q_fr q_unP 1 5 (n, k)).2
def q_lop (k : Nat → Int) : Nat → Int := fun j => if 47 ≤ j ∧ j ≤ 50 then 111 else k j
theorem w_idivp {m nx l a b c e : Nat} {ops : List pz_Op} {lc : pz_L} {sk : List pz_V} {h : pz_H} {Q : pz_Q} {x y : Int} (hx : 0 ≤ x ∧ x ≤ 2147483647 ∧ 0 < y) (k : pz_W m nx ops lc (.inl (x / y) :: sk) h Q) : pz_W m nx ((0, .idiv, l, a, b, c, e) :: ops) lc (.inl y :: .inl x :: sk) h Q := by
  refine w_idiv (by omega) ?_
  unfold pz_div
  rw [Int.tdiv_eq_ediv_of_nonneg hx.1, pz_wr]
  · exact k
  · have h1 := Int.ediv_nonneg hx.1 (Int.le_of_lt hx.2.2)
    have h2 := Int.ediv_le_self y hx.1
    omega
theorem q_shrN : ∀ (x : Fin 16) (i : Fin 4), pz_and (pz_shr ((x.val : Nat) : Int) ((i.val : Nat) : Int)) 1 = ((x.val / 2 ^ i.val % 2 : Nat) : Int) := by decide +kernel
theorem m_KR_sets {k : Nat → Int} {tr fa : Int} (h : q_KR k) : q_KR (q_sets tr fa k) := by
  unfold q_sets
  refine q_fr_ind (f := q_seS tr fa) (fun _ (f : Nat → Int) => q_KR f) (by omega) h ?_
  intro l f g1 g2 g3
  unfold q_seS
  by_cases g : q_obs f l
  · rw [q_if_t g]; exact g3
  · rw [q_if_f g]
    refine m_KR_obs g3 g1 (by omega) ?_
    by_cases a1 : q_up tr (l - 1)
    · rw [q_if_t a1]; omega
    · rw [q_if_f a1]
      by_cases a2 : q_up fa (l - 1)
      · rw [q_if_t a2]; omega
      · rw [q_if_f a2]; omega
theorem q_KR_sets {k : Nat → Int} {tr fa : Int} (h : q_KR k) : q_KR (q_sets tr fa k) := m_KR_sets h
theorem m_KR_lop {k : Nat → Int} (h : q_KR k) : q_KR (q_lop k) := by
  refine m_KR_lab h (fun j hj => if_neg hj) ?_
  intro l g1 g2
  left
  exact if_pos (by omega)
theorem q_KR_lop {k : Nat → Int} (h : q_KR k) : q_KR (q_lop k) := m_KR_lop h
theorem q_ft_dd {k lf g : Nat → Int} {e : Int} (h : q_KR k) (hc : q_con k lf) (h1 : 0 ≤ e) (h2 : e ≤ 9) : 0 ≤ q_ft (q_dd k lf g) e ∧ q_ft (q_dd k lf g) e ≤ 10000 := by
  have h3 := q_dd_r (g := g) (j := (10 * e).toNat) h hc (by omega)
  unfold q_ft
  split <;> omega
theorem q_cst_r {k : Nat → Int} {e m : Int} (h : q_KR k) (h1 : 0 ≤ e) (h2 : e ≤ 9) (h3 : 0 ≤ m ∧ m ≤ 1000000) : 0 ≤ q_cst k e m ∧ q_cst k e m ≤ 99000000 := by
  have hcs := h.cs h1 h2
  unfold q_cst
  split
  · omega
  · split
    · have h4 := q_mul_r (x := k (26 + e).toNat) (y := k (16 + e).toNat - m) (a := 99) (b := 999) hcs.2.1 (by omega)
      omega
    · have h4 := q_mul_r (x := k (36 + e).toNat) (y := m - k (16 + e).toNat) (a := 99) (b := 1000000) hcs.2.2 (by omega)
      omega
theorem m_pkd_r {k : Nat → Int} : 0 ≤ q_pkd k ∧ q_pkd k ≤ 624 := by
  have hc : ∀ l, 0 ≤ q_cd k l ∧ q_cd k l ≤ 4 := by
    intro l
    unfold q_cd
    (repeat' split) <;> omega
  have a0 := hc (4 - 0)
  have a1 := hc (4 - 1)
  have a2 := hc (4 - 2)
  have a3 := hc (4 - 3)
  unfold q_pkd
  rw [show (4 : Int) = 0 + 1 + 1 + 1 + 1 by omega, q_fr_s (by omega), q_fr_s (by omega), q_fr_s (by omega), q_fr_s (by omega), q_fr_0 (by omega)]
  unfold q_pdS
  rw [show (0 : Int) + 1 = 1 by omega, show (1 : Int) + 1 = 2 by omega, show (2 : Int) + 1 = 3 by omega]
  omega
theorem q_pkd_r {k : Nat → Int} : 0 ≤ q_pkd k ∧ q_pkd k ≤ 624 := m_pkd_r
def q_wkP (k lf : Nat → Int) (p : Int) : Prop := q_ok (q_cor k p (q_bds k lf (fun _ => 0)))
noncomputable def q_wkG (k lf : Nat → Int) (p : Int) (g : Nat → Int) : Nat → Int := q_cg (q_cor k p (q_bds k lf g))
theorem m_A_cor {k : Nat → Int} {p : Int} {f g : Nat → Int} (h : m_A 100 f g) : m_A 100 (q_cor k p f) (q_cor k p g) := by
  unfold q_cor
  refine q_fr_rel (m_A 100) h ?_
  intro s x y _ _ h
  unfold q_coE
  exact m_A_eg (m_A_eg h)
theorem m_A_bds {k lf g g' : Nat → Int} : m_A 100 (q_bds k lf g) (q_bds k lf g') := by
  unfold q_bds
  refine q_fr_rel (m_A 100) ?_ ?_
  · refine q_fr_rel (m_A 100) ?_ ?_
    · intro j hj
      unfold q_clr
      rw [if_pos hj, if_pos hj]
    · intro b x y _ _ h
      unfold q_bdE
      exact m_A_if (fun _ => m_A_eg h) (fun _ => h)
  · intro b x y _ _ h
    unfold q_stE
    exact m_A_if (fun _ => m_A_eg (m_A_eg h)) (fun _ => h)
theorem m_wk_eq {k lf g : Nat → Int} {p : Int} : q_ok (q_cor k p (q_bds k lf g)) ↔ q_wkP k lf p := m_A_ok (m_A_cor m_A_bds)
theorem q_wk_eq {k lf g : Nat → Int} {p : Int} : q_ok (q_cor k p (q_bds k lf g)) ↔ q_wkP k lf p := m_wk_eq
/-- the length that is picked -/
noncomputable def q_pck (k : Nat → Int) (p s : Int) : Int := q_if (q_up p s) (k (212 + 4 * s + 3).toNat) (k (212 + 4 * s + 2).toNat)
theorem q_pck_r {k : Nat → Int} {p s : Int} (hk : q_KR k) (h1 : 0 ≤ s) (h2 : s < k 2) : 1 ≤ q_pck k p s ∧ q_pck k p s ≤ 200 := by
  have h := hk.sp h1 h2
  unfold q_pck
  by_cases g : q_up p s
  · rw [q_if_t g]; omega
  · rw [q_if_f g]; omega
noncomputable def q_lpE (k : Nat → Int) (p s : Int) (f : Nat → Int) : Nat → Int := q_if (q_sta k (k (212 + 4 * s + 1).toNat)) f (q_eg (q_eg f (k (212 + 4 * s).toNat) (k (212 + 4 * s + 1).toNat) (q_pck k p s)) (k (212 + 4 * s + 1).toNat) (k (212 + 4 * s).toNat) (-(q_pck k p s)))
theorem q_fr_merge {α : Type} {f g : Int → α → α} {a n : Int} {x : α} (hc : ∀ i j y, a ≤ i → i < n → a ≤ j → j < n → g j (f i y) = f i (g j y)) : q_fr g a n (q_fr f a n x) = q_fr (fun i y => g i (f i y)) a n x := by
  rcases Int.lt_or_le n a with h | h
  · rw [q_fr_0 (by omega), q_fr_0 (by omega), q_fr_0 (by omega)]
  · have key : ∀ d : Nat, a + d ≤ n → q_fr g a (a + d) (q_fr f a (a + d) x) = q_fr (fun i y => g i (f i y)) a (a + d) x := by
      intro d
      induction d with
      | zero => intro _; rw [q_fr_0 (by omega), q_fr_0 (by omega), q_fr_0 (by omega)]
      | succ d ih =>
        intro hd
        have ih1 := ih (by omega)
        rw [show a + ((d + 1 : Nat) : Int) = a + (d : Int) + 1 by omega, q_fr_s (by omega), q_fr_s (by omega), q_fr_s (by omega)]
        rw [← q_fr_comm (f := g) (h := f (a + d)) (fun i y h1 h2 => (hc (a + d) i y (by omega) (by omega) h1 (by omega)).symm), ih1]
    have h9 := key (n - a).toNat (by omega)
    rw [show a + (((n - a).toNat : Nat) : Int) = n by omega] at h9
    exact h9
theorem m_eg_comm {f : Nat → Int} {i j x a b y : Int} : q_eg (q_eg f i j x) a b y = q_eg (q_eg f a b y) i j x := m_lw_comm
theorem m_co_st {k : Nat → Int} {p s e : Int} {f : Nat → Int} : q_coE k p s (q_stE k e f) = q_stE k e (q_coE k p s f) := by
  unfold q_stE
  by_cases h : q_sta k e
  · rw [q_if_t h, q_if_t h]
    unfold q_coE
    rw [m_eg_comm (i := e) (j := 0), m_eg_comm (i := 0) (j := e), m_eg_comm (i := e) (j := 0), m_eg_comm (i := 0) (j := e)]
  · rw [q_if_f h, q_if_f h]
theorem m_lp_st {k : Nat → Int} {p s e : Int} {f : Nat → Int} : q_lpE k p s (q_stE k e f) = q_stE k e (q_lpE k p s f) := by
  unfold q_lpE
  by_cases g : q_sta k (k (212 + 4 * s + 1).toNat)
  · rw [q_if_t g, q_if_t g]
  · rw [q_if_f g, q_if_f g]
    unfold q_stE
    by_cases h : q_sta k e
    · rw [q_if_t h, q_if_t h]
      rw [m_eg_comm (i := e) (j := 0), m_eg_comm (i := 0) (j := e), m_eg_comm (i := e) (j := 0), m_eg_comm (i := 0) (j := e)]
    · rw [q_if_f h, q_if_f h]
theorem m_lp_sp {k : Nat → Int} {p s t : Int} {f : Nat → Int} : q_lpE k p s (q_spE k t f) = q_spE k t (q_lpE k p s f) := by
  unfold q_lpE
  by_cases g : q_sta k (k (212 + 4 * s + 1).toNat)
  · rw [q_if_t g, q_if_t g]
  · rw [q_if_f g, q_if_f g]
    unfold q_spE
    rw [m_eg_comm (i := k (212 + 4 * t + 1).toNat) (j := k (212 + 4 * t).toNat), m_eg_comm (i := k (212 + 4 * t).toNat) (j := k (212 + 4 * t + 1).toNat), m_eg_comm (i := k (212 + 4 * t + 1).toNat) (j := k (212 + 4 * t).toNat), m_eg_comm (i := k (212 + 4 * t).toNat) (j := k (212 + 4 * t + 1).toNat)]
theorem m_eg_pk {f : Nat → Int} {a b L P G : Int} (h1 : L ≤ P) (h2 : P ≤ G) : q_eg (q_eg (q_eg (q_eg f a b G) b a (-L)) a b P) b a (-P) = q_eg (q_eg f a b P) b a (-P) := by
  funext n
  unfold q_eg
  rw [m_lw_at, m_lw_at, m_lw_at, m_lw_at, m_lw_at, m_lw_at]
  (repeat' split) <;> omega
theorem m_R_wk {k lf g r : Nat → Int} {p : Int} (hk : q_KR k) : m_R (k 0) 600 (q_cor k p (q_bds k lf g)) (q_fr (q_lpE k p) 0 (k 2) (q_lay k lf r)) := by
  have h0 := hk.r0
  have e1 : q_cor k p (q_bds k lf g) = q_fr (q_stE k) 1 (k 0) (q_fr (q_coE k p) 0 (k 2) (q_fr (q_bdE k lf) 0 (k 1) (q_clr g))) := by
    unfold q_cor q_bds
    exact q_fr_comm2 (fun i j y _ _ _ _ => m_co_st)
  have e2 : q_fr (q_lpE k p) 0 (k 2) (q_lay k lf r) = q_fr (q_stE k) 1 (k 0) (q_fr (fun s y => q_lpE k p s (q_spE k s y)) 0 (k 2) (q_fr (q_bdE k lf) 0 (k 1) (q_ncl (k 0) r))) := by
    unfold q_lay
    rw [q_fr_comm2 (f := q_stE k) (g := q_lpE k p) (fun i j y _ _ _ _ => m_lp_st), q_fr_merge (f := q_spE k) (g := q_lpE k p) (fun i j y _ _ _ _ => m_lp_sp)]
  rw [e1, e2]
  refine q_fr_rel (m_R (k 0) 600) ?_ ?_
  · refine q_fr_rel (m_R (k 0) 600) ?_ ?_
    · refine q_fr_rel (m_R (k 0) 600) (m_R_clr (by omega)) ?_
      intro b x y b1 b2 h
      have hb := hk.bd b1 b2
      unfold q_bdE
      exact m_R_if (fun _ => m_R_eg h (by omega) (by omega) (by omega) (by omega) hb.2.2.1 (by omega)) (fun _ => h)
    · intro s x y s1 s2 h
      have hs := hk.sp s1 s2
      have hp := q_pck_r (p := p) hk s1 s2
      unfold q_lpE
      by_cases g : q_sta k (k (212 + 4 * s + 1).toNat)
      · rw [q_if_t g]
        unfold q_coE q_spE
        rw [q_if_t (p := q_sta k (k (212 + 4 * s + 1).toNat) ∨ q_up p s) (Or.inl g), q_if_t (p := q_sta k (k (212 + 4 * s + 1).toNat) ∨ ¬ q_up p s) (Or.inl g)]
        exact m_R_eg (m_R_eg h (by omega) (by omega) (by omega) (by omega) (by omega) (by omega)) (by omega) (by omega) (by omega) (by omega) (by omega) (by omega)
      · rw [q_if_f g]
        have e3 : q_coE k p s x = q_eg (q_eg x (k (212 + 4 * s).toNat) (k (212 + 4 * s + 1).toNat) (q_pck k p s)) (k (212 + 4 * s + 1).toNat) (k (212 + 4 * s).toNat) (-(q_pck k p s)) := by
          unfold q_coE q_pck
          by_cases u : q_up p s
          · rw [q_if_t (p := q_sta k (k (212 + 4 * s + 1).toNat) ∨ q_up p s) (Or.inr u), q_if_f (p := q_sta k (k (212 + 4 * s + 1).toNat) ∨ ¬ q_up p s) (fun q => q.elim g (fun a => a u)), q_if_t u]
          · rw [q_if_f (p := q_sta k (k (212 + 4 * s + 1).toNat) ∨ q_up p s) (fun q => q.elim g u), q_if_t (p := q_sta k (k (212 + 4 * s + 1).toNat) ∨ ¬ q_up p s) (Or.inr u), q_if_f u]
        have hLG : k (212 + 4 * s + 2).toNat ≤ q_pck k p s ∧ q_pck k p s ≤ k (212 + 4 * s + 3).toNat := by
          unfold q_pck
          by_cases u : q_up p s
          · rw [q_if_t u]; omega
          · rw [q_if_f u]; omega
        rw [e3]
        unfold q_spE
        rw [m_eg_pk hLG.1 hLG.2]
        exact m_R_eg (m_R_eg h (by omega) (by omega) (by omega) (by omega) (by omega) (by omega)) (by omega) (by omega) (by omega) (by omega) (by omega) (by omega)
  · intro e x y e1 e2 h
    have he := hk.st (e := e) (by omega) (by omega)
    unfold q_stE
    exact m_R_if (fun hs => m_R_eg (m_R_eg h (by omega) (by omega) (by omega) (by omega) (by omega) (by omega)) (by omega) (by omega) (by omega) (by omega) (by omega) (by omega)) (fun _ => h)
theorem m_cb_weak {k lf g : Nat → Int} {p : Int} (h : q_KR k) : q_cb (q_cor k p (q_bds k lf g)) := m_R_cb (m_R_wk (lf := lf) (g := g) (r := fun _ => 0) (p := p) h)
theorem q_cb_weak {k lf g : Nat → Int} {p : Int} (h : q_KR k) : q_cb (q_cor k p (q_bds k lf g)) := m_cb_weak h
theorem w_iincw {m nx l a b c e : Nat} {ops : List pz_Op} {lc lc' : pz_L} {sk : List pz_V} {h : pz_H} {Q : pz_Q} {i : Nat} {n : Int} {x : Int} (h1 : lc[i]? = some (some (.inl x))) (h2 : pz_np lc i = true) (h3 : lc.set i (some (.inl (pz_w (x + n)))) = lc') (k : pz_W m nx ops lc' sk h Q) : pz_W m nx ((1, .iinc i n, l, a, b, c, e) :: ops) lc sk h Q := by
  refine w_loc (ls' := lc') (st' := sk) ?_ k
  unfold pz_loc
  dsimp only [pz_ldk, pz_stk]
  rw [h1]
  dsimp only
  rw [if_pos h2, h3]
noncomputable def q_wayS (w l t : Int) : Int := t + q_if (pz_and (pz_shr w (4 - l)) 1 = 0) (pz_shl 1 (l - 1)) 0
noncomputable def q_wayT (w : Int) : Int := q_fr (q_wayS w) 1 5 0
noncomputable def q_chP (lf : Nat → Int) (w : Int) (s : (Nat → Int) × (Nat → Int)) : (Nat → Int) × (Nat → Int) :=
  q_if (q_fit s.1 (q_wayT w)) (q_sets (q_wayT w) (15 - q_wayT w) s.1, q_dd (q_sets (q_wayT w) (15 - q_wayT w) s.1) lf s.2) s
noncomputable def q_ch (lf : Nat → Int) (w : Int) (k g : Nat → Int) : (Nat → Int) × (Nat → Int) := q_fr (q_chP lf) 0 w (k, g)
def q_chok (lf k g : Nat → Int) (w : Int) : Prop := q_fit (q_ch lf w k g).1 (q_wayT w) ∧ q_con (q_sets (q_wayT w) (15 - q_wayT w) (q_ch lf w k g).1) lf
noncomputable def q_nt (f : Nat → Int) (n : Int) : Int := q_sum (fun l => q_if (1 ≤ l ∧ q_tru f l) 1 0) n
theorem q_nt_s {f : Nat → Int} {l : Int} (h : 1 ≤ l) : q_nt f (l + 1) = q_nt f l + q_if (q_tru f l) 1 0 := by
  unfold q_nt
  rw [q_sum_s (by omega)]
  try dsimp only
  by_cases ht : q_tru f l
  · rw [q_if_t ht, q_if_t ⟨h, ht⟩]
  · rw [q_if_f ht, q_if_f (fun q => ht q.2)]
theorem q_nt_1 {f : Nat → Int} : (0 : Int) = q_nt f 1 := by
  unfold q_nt
  rw [show (1 : Int) = 0 + 1 by omega, q_sum_s (by omega)]
  try dsimp only
  rw [q_if_f (by omega)]
  rfl
theorem q_ch_s {lf k g f d : Nat → Int} {w t : Int} (hw : 0 ≤ w) (hs : (f, d) = q_ch lf w k g) (ht : t = q_wayT w) (hf : q_fit f t) : (q_sets t (15 - t) f, q_dd (q_sets t (15 - t) f) lf d) = q_ch lf (w + 1) k g := by
  subst ht
  unfold q_ch
  rw [q_fr_s hw]
  show _ = q_chP lf w (q_ch lf w k g)
  rw [← hs]
  unfold q_chP
  rw [q_if_t hf]
theorem q_ch_n {lf k g f d : Nat → Int} {w t : Int} (hw : 0 ≤ w) (hs : (f, d) = q_ch lf w k g) (ht : t = q_wayT w) (hf : ¬ q_fit f t) : (f, d) = q_ch lf (w + 1) k g := by
  subst ht
  unfold q_ch
  rw [q_fr_s hw]
  show _ = q_chP lf w (q_ch lf w k g)
  rw [← hs]
  unfold q_chP
  rw [q_if_f hf]
theorem q_chok_t {lf k g f d : Nat → Int} {w t : Int} (hs : (f, d) = q_ch lf w k g) (ht : t = q_wayT w) (hf : q_fit f t) (hc : q_con (q_sets t (15 - t) f) lf) : q_chok lf k g w := by
  subst ht
  unfold q_chok
  rw [← hs]
  exact ⟨hf, hc⟩
noncomputable def q_rtS (k : Nat → Int) (p e s : Int) (x : (Nat → Int) × (Nat → Int)) : (Nat → Int) × (Nat → Int) :=
  q_if (k (212 + 4 * s + 1).toNat = e ∧ ¬ q_sta k (k (212 + 4 * s + 1).toNat)) (pz_up x.1 e.toNat (x.1 (k (212 + 4 * s).toNat).toNat), pz_up x.2 e.toNat (x.2 (k (212 + 4 * s).toNat).toNat + q_if (q_up p s) (k (212 + 4 * s + 3).toNat) (k (212 + 4 * s + 2).toNat))) x
noncomputable def q_rtE (k : Nat → Int) (p e : Int) (x : (Nat → Int) × (Nat → Int)) : (Nat → Int) × (Nat → Int) := q_fr (q_rtS k p e) 0 (k 2) (pz_up x.1 e.toNat e, pz_up x.2 e.toNat 0)
noncomputable def q_rt (k : Nat → Int) (p : Int) (x : (Nat → Int) × (Nat → Int)) : (Nat → Int) × (Nat → Int) := q_fr (q_rtE k p) 0 10 x
abbrev q_rb (r h : Nat → Int) (e : Int) : Prop := ∀ i : Int, 0 ≤ i → i < e → (0 ≤ r i.toNat ∧ r i.toNat ≤ i) ∧ 0 ≤ h i.toNat ∧ h i.toNat ≤ 200 * i
theorem q_rtS_s {k r h : Nat → Int} {p e s n : Int} {x : (Nat → Int) × (Nat → Int)} (hs : 0 ≤ s) (hp : (r, h) = q_fr (q_rtS k p e) 0 s x) (h1 : k (212 + 4 * s + 1).toNat = e) (h2 : ¬ q_sta k (k (212 + 4 * s + 1).toNat)) (hn : n = q_if (q_up p s) (k (212 + 4 * s + 3).toNat) (k (212 + 4 * s + 2).toNat)) :
    (pz_up r e.toNat (r (k (212 + 4 * s).toNat).toNat), pz_up h e.toNat (h (k (212 + 4 * s).toNat).toNat + n)) = q_fr (q_rtS k p e) 0 (s + 1) x := by
  rw [q_fr_s hs, ← hp]
  unfold q_rtS
  rw [q_if_t (show k (212 + 4 * s + 1).toNat = e ∧ ¬ q_sta k (k (212 + 4 * s + 1).toNat) from ⟨h1, h2⟩), hn]
theorem q_rtS_n {k r h : Nat → Int} {p e s : Int} {x : (Nat → Int) × (Nat → Int)} (hs : 0 ≤ s) (hp : (r, h) = q_fr (q_rtS k p e) 0 s x) (h1 : ¬ (k (212 + 4 * s + 1).toNat = e ∧ ¬ q_sta k (k (212 + 4 * s + 1).toNat))) : (r, h) = q_fr (q_rtS k p e) 0 (s + 1) x := by
  rw [q_fr_s hs, ← hp]
  unfold q_rtS
  rw [q_if_f h1]
abbrev q_ckP (k lf : Nat → Int) (b : Int) : Prop := q_hld k b ∧ lf b.toNat = 0
noncomputable def q_ckS (k lf : Nat → Int) (i b y : Int) : Int := q_if (q_ckP k lf b ∧ q_cnt (q_ckP k lf) b = i) b y
noncomputable def q_ck (k lf : Nat → Int) (i : Int) : Int := q_fr (q_ckS k lf i) 0 (k 1) (-1)
theorem q_w0 {i c : Int} (hi : -2147483648 ≤ i ∧ i ≤ 2147483647) (hc : 0 ≤ c ∧ c ≤ 40) : pz_w (i - c) = 0 ↔ c = i := by
  constructor
  · intro h
    by_cases h1 : -2147483648 ≤ i - c
    · rw [pz_wr ⟨h1, by omega⟩] at h
      omega
    · exfalso
      have h2 : pz_w (i - c) = pz_w (i - c + 4294967296) := by
        unfold pz_w
        rw [Int32.ofInt_add]
        have h3 : Int32.ofInt 4294967296 = 0 := by decide
        rw [h3, Int32.add_zero]
      rw [h2, pz_wr ⟨by omega, by omega⟩] at h
      omega
  · intro h
    rw [h, Int.sub_self]
    decide
