/-! words and mathematics, each behind what it wants: chunk 1 -/
noncomputable def q_dd (k lf g : Nat → Int) : Nat → Int := q_cg (q_net k lf g)
def q_con (k lf : Nat → Int) : Prop := q_ok (q_net k lf (fun _ => 0))
def q_ncl (e : Int) (r : Nat → Int) : Nat → Int := fun j => if j < 100 then (if j % 11 = 0 ∧ (j : Int) < 11 * e then 0 else 1000000000) else r j
noncomputable def q_lay (k lf r : Nat → Int) : Nat → Int := q_fr (q_stE k) 1 (k 0) (q_fr (q_spE k) 0 (k 2) (q_fr (q_bdE k lf) 0 (k 1) (q_ncl (k 0) r)))
theorem q_fr_rel {α β : Type} {f : Int → α → α} {g : Int → β → β} {a n : Int} {x : α} {y : β} (R : α → β → Prop) (h0 : R x y) (hs : ∀ i x y, a ≤ i → i < n → R x y → R (f i x) (g i y)) : R (q_fr f a n x) (q_fr g a n y) := by
  rcases Int.lt_or_le n a with h | h
  · rw [q_fr_0 (by omega), q_fr_0 (by omega)]; exact h0
  · have key : ∀ d : Nat, a + d ≤ n → R (q_fr f a (a + d) x) (q_fr g a (a + d) y) := by
      intro d
      induction d with
      | zero =>
        intro _
        rw [q_fr_0 (by omega), q_fr_0 (by omega)]
        exact h0
      | succ d ih =>
        intro hd
        rw [show a + ((d + 1 : Nat) : Int) = a + (d : Int) + 1 by omega, q_fr_s (by omega), q_fr_s (by omega)]
        exact hs _ _ _ (by omega) (by omega) (ih (by omega))
    have h9 := key (n - a).toNat (by omega)
    rw [show a + (((n - a).toNat : Nat) : Int) = n by omega] at h9
    exact h9
theorem q_fr_comm {α : Type} {f : Int → α → α} {h : α → α} {a n : Int} {x : α} (hc : ∀ i y, a ≤ i → i < n → h (f i y) = f i (h y)) : h (q_fr f a n x) = q_fr f a n (h x) := by
  have key := q_fr_rel (f := f) (g := f) (a := a) (n := n) (x := x) (y := h x) (fun u v => h u = v) rfl (fun i u v h1 h2 h3 => by rw [hc i u h1 h2, h3])
  exact key
theorem q_fr_comm2 {α : Type} {f g : Int → α → α} {a n b m : Int} {x : α} (hc : ∀ i j y, a ≤ i → i < n → b ≤ j → j < m → g j (f i y) = f i (g j y)) : q_fr g b m (q_fr f a n x) = q_fr f a n (q_fr g b m x) := by
  symm
  have key := q_fr_rel (f := g) (g := g) (a := b) (n := m) (x := x) (y := q_fr f a n x) (fun u v => q_fr f a n u = v) rfl (fun j u v h1 h2 h3 => by
    rw [← h3]
    exact (q_fr_comm (h := g j) (fun i y g1 g2 => hc i j y g1 g2 h1 h2)).symm)
  exact key
theorem q_lw_y {f : Nat → Int} {c w : Int} (h : w < f c.toNat) : q_lw f c w = pz_up f c.toNat w := q_if_t h
theorem q_lw_n {f : Nat → Int} {c w : Int} (h : ¬ w < f c.toNat) : q_lw f c w = f := q_if_f h
theorem m_lw_at {f : Nat → Int} {c w : Int} (n : Nat) : q_lw f c w n = if n = c.toNat then min (f n) w else f n := by
  by_cases h : w < f c.toNat
  · rw [q_lw_y h, pz_up_at]
    split
    · rename_i e; rw [e]; omega
    · rfl
  · rw [q_lw_n h]
    split
    · rename_i e; rw [e]; omega
    · rfl
theorem m_lw_comm {f : Nat → Int} {a x b y : Int} : q_lw (q_lw f a x) b y = q_lw (q_lw f b y) a x := by
  funext n
  rw [m_lw_at, m_lw_at, m_lw_at, m_lw_at]
  (repeat' split) <;> omega
theorem m_sp_st {k : Nat → Int} {s e : Int} {f : Nat → Int} : q_spE k s (q_stE k e f) = q_stE k e (q_spE k s f) := by
  unfold q_stE
  by_cases h : q_sta k e
  · rw [q_if_t h, q_if_t h]
    unfold q_spE q_eg
    rw [m_lw_comm (a := 10 * e + 0), m_lw_comm (a := 10 * 0 + e), m_lw_comm (a := 10 * e + 0), m_lw_comm (a := 10 * 0 + e)]
  · rw [q_if_f h, q_if_f h]
/-- the reference's net with starts laid last -/
theorem m_net_eq {k lf g : Nat → Int} : q_net k lf g = q_fr (q_stE k) 1 (k 0) (q_fr (q_spE k) 0 (k 2) (q_fr (q_bdE k lf) 0 (k 1) (q_clr g))) := by
  unfold q_net q_bds
  exact q_fr_comm2 (fun i j y _ _ _ _ => m_sp_st)
/-- a square of the reference as the class holds it -/
def q_N (x : Int) : Int := if x = 1000000 then 1000000000 else x
def m_T (z : Int) (w r : Nat → Int) : Prop := ∀ i j : Int, 0 ≤ i → i < z → 0 ≤ j → j < z → r (10 * i + j).toNat = q_N (w (10 * i + j).toNat)
def m_O (z : Int) (w : Nat → Int) : Prop := ∀ i j : Int, 0 ≤ i → i ≤ 9 → 0 ≤ j → j ≤ 9 → (z ≤ i ∨ z ≤ j) → w (10 * i + j).toNat = if i = j then 0 else 1000000
def m_wb (M : Int) (w : Nat → Int) : Prop := ∀ n : Nat, n < 100 → w n = 1000000 ∨ (-M ≤ w n ∧ w n ≤ M)
def m_dz (w : Nat → Int) : Prop := ∀ i : Int, 0 ≤ i → i ≤ 9 → w (10 * i + i).toNat = 0
def m_OC (z : Int) (r : Nat → Int) : Prop := ∀ i j : Int, 0 ≤ i → i ≤ 9 → 0 ≤ j → j ≤ 9 → (z ≤ i ∨ z ≤ j) → r (10 * i + j).toNat = 1000000000
def m_R (z M : Int) (w r : Nat → Int) : Prop := m_T z w r ∧ m_O z w ∧ m_wb M w ∧ m_dz w ∧ m_OC z r
theorem m_R_eg {z M i j x : Int} {w r : Nat → Int} (h : m_R z M w r) (hz : z ≤ 10) (hM : 0 ≤ M ∧ M < 1000000) (hi : 0 ≤ i ∧ i < z) (hj : 0 ≤ j ∧ j < z) (hij : i ≠ j) (hx : -M ≤ x ∧ x ≤ M) : m_R z M (q_eg w i j x) (q_eg r i j x) := by
  obtain ⟨h1, h2, h3, h4, h5⟩ := h
  unfold q_eg
  refine ⟨?_, ?_, ?_, ?_, ?_⟩
  · intro a b a1 a2 b1 b2
    rw [m_lw_at, m_lw_at, h1 a b a1 a2 b1 b2]
    have h6 := h3 (10 * a + b).toNat (by omega)
    unfold q_N
    (repeat' split) <;> omega
  · intro a b a1 a2 b1 b2 c
    rw [m_lw_at, if_neg (by omega)]
    exact h2 a b a1 a2 b1 b2 c
  · intro n hn
    have h6 := h3 n hn
    rw [m_lw_at]
    split
    · right; omega
    · exact h6
  · intro a a1 a2
    rw [m_lw_at, if_neg (by omega)]
    exact h4 a a1 a2
  · intro a b a1 a2 b1 b2 c
    rw [m_lw_at, if_neg (by omega)]
    exact h5 a b a1 a2 b1 b2 c
theorem m_R_if {z M : Int} {p : Prop} {w r w' r' : Nat → Int} (h1 : p → m_R z M w r) (h2 : ¬ p → m_R z M w' r') : m_R z M (q_if p w w') (q_if p r r') := by
  by_cases e : p
  · rw [q_if_t e, q_if_t e]; exact h1 e
  · rw [q_if_f e, q_if_f e]; exact h2 e
theorem m_mod {i j : Int} (hi : 0 ≤ i ∧ i ≤ 9) (hj : 0 ≤ j ∧ j ≤ 9) : (10 * i + j).toNat % 11 = 0 ↔ i = j := by omega
theorem m_R_clr {z : Int} {g r : Nat → Int} (hz : 1 ≤ z ∧ z ≤ 10) : m_R z 600 (q_clr g) (q_ncl z r) := by
  have e1 : ∀ n : Nat, n < 100 → q_clr g n = if n % 11 = 0 then 0 else 1000000 := fun n hn => if_pos hn
  have e2 : ∀ n : Nat, n < 100 → q_ncl z r n = if n % 11 = 0 ∧ (n : Int) < 11 * z then 0 else 1000000000 := fun n hn => if_pos hn
  refine ⟨?_, ?_, ?_, ?_, ?_⟩
  · intro i j i1 i2 j1 j2
    have hm := m_mod (i := i) (j := j) (by omega) (by omega)
    rw [e1 _ (by omega), e2 _ (by omega)]
    by_cases e : i = j
    · rw [if_pos (hm.mpr e), if_pos ⟨hm.mpr e, by omega⟩]; rfl
    · rw [if_neg (fun q => e (hm.mp q)), if_neg (fun q => e (hm.mp q.1))]; rfl
  · intro i j i1 i2 j1 j2 c
    have hm := m_mod (i := i) (j := j) (by omega) (by omega)
    rw [e1 _ (by omega)]
    by_cases e : i = j
    · rw [if_pos (hm.mpr e), if_pos e]
    · rw [if_neg (fun q => e (hm.mp q)), if_neg e]
  · intro n hn
    rw [e1 n hn]
    split
    · right; omega
    · left; rfl
  · intro i i1 i2
    rw [e1 _ (by omega), if_pos ((m_mod ⟨i1, i2⟩ ⟨i1, i2⟩).mpr rfl)]
  · intro i j i1 i2 j1 j2 c
    have hm := m_mod (i := i) (j := j) (by omega) (by omega)
    rw [e2 _ (by omega), if_neg (by omega)]
theorem m_R_lay {k lf g r : Nat → Int} (hk : q_KR k) : m_R (k 0) 600 (q_net k lf g) (q_lay k lf r) := by
  have h0 := hk.r0
  rw [m_net_eq]
  unfold q_lay
  refine q_fr_rel (m_R (k 0) 600) ?_ ?_
  · refine q_fr_rel (m_R (k 0) 600) ?_ ?_
    · refine q_fr_rel (m_R (k 0) 600) (m_R_clr (by omega)) ?_
      intro b x y b1 b2 h
      have hb := hk.bd b1 b2
      unfold q_bdE
      exact m_R_if (fun _ => m_R_eg h (by omega) (by omega) (by omega) (by omega) hb.2.2.1 (by omega)) (fun _ => h)
    · intro s x y s1 s2 h
      have hs := hk.sp s1 s2
      unfold q_spE
      exact m_R_eg (m_R_eg h (by omega) (by omega) (by omega) (by omega) (by omega) (by omega)) (by omega) (by omega) (by omega) (by omega) (by omega) (by omega)
  · intro e x y e1 e2 h
    have he := hk.st (e := e) (by omega) (by omega)
    unfold q_stE
    exact m_R_if (fun hs => m_R_eg (m_R_eg h (by omega) (by omega) (by omega) (by omega) (by omega) (by omega)) (by omega) (by omega) (by omega) (by omega) (by omega) (by omega)) (fun _ => h)
/-- 2 to the power of a -/
def q_p2 (a : Int) : Int := ((2 ^ a.toNat : Nat) : Int)
theorem q_p2_le {a b : Int} (h1 : 0 ≤ a) (h2 : a ≤ b) : q_p2 a ≤ q_p2 b := by
  unfold q_p2
  exact Int.ofNat_le.mpr (Nat.pow_le_pow_right (by decide) (by omega))
theorem m_p2v : q_p2 0 = 1 ∧ q_p2 9 = 512 ∧ q_p2 10 = 1024 := ⟨rfl, rfl, rfl⟩
/-- a phase at once -/
def m_sh (c : Int) (f : Nat → Int) : Nat → Int := fun n => if n < 100 ∧ f (10 * ((n / 10 : Nat) : Int) + c).toNat < 1000000 ∧ f (10 * c + ((n % 10 : Nat) : Int)).toNat < 1000000 ∧ f (10 * ((n / 10 : Nat) : Int) + c).toNat + f (10 * c + ((n % 10 : Nat) : Int)).toNat < f n then f (10 * ((n / 10 : Nat) : Int) + c).toNat + f (10 * c + ((n % 10 : Nat) : Int)).toNat else f n
theorem m_sh_at {c i j : Int} {f : Nat → Int} (hi : 0 ≤ i ∧ i ≤ 9) (hj : 0 ≤ j ∧ j ≤ 9) : m_sh c f (10 * i + j).toNat = if f (10 * i + c).toNat < 1000000 ∧ f (10 * c + j).toNat < 1000000 ∧ f (10 * i + c).toNat + f (10 * c + j).toNat < f (10 * i + j).toNat then f (10 * i + c).toNat + f (10 * c + j).toNat else f (10 * i + j).toNat := by
  have h1 : ((((10 * i + j).toNat / 10 : Nat)) : Int) = i := by omega
  have h2 : ((((10 * i + j).toNat % 10 : Nat)) : Int) = j := by omega
  unfold m_sh
  rw [h1, h2]
  by_cases h : f (10 * i + c).toNat < 1000000 ∧ f (10 * c + j).toNat < 1000000 ∧ f (10 * i + c).toNat + f (10 * c + j).toNat < f (10 * i + j).toNat
  · rw [if_pos h, if_pos ⟨by omega, h⟩]
  · rw [if_neg h, if_neg (fun q => h q.2)]
/-- within a phase -/
theorem m_at_eq {c i j : Int} {f : Nat → Int} (hc : 0 ≤ c ∧ c ≤ 9) (hd : 0 ≤ f (10 * c + c).toNat) (hi : 0 ≤ i ∧ i ≤ 9) (hj : 0 ≤ j ∧ j ≤ 10) : ∀ n : Nat, q_fr (q_j c i) 0 j (q_fr (q_i c) 0 i f) n = if (n : Int) < 10 * i + j then m_sh c f n else f n := by
  have hcol : ∀ i : Int, 0 ≤ i → i ≤ 9 → m_sh c f (10 * i + c).toNat = f (10 * i + c).toNat := by
    intro i h1 h2
    rw [m_sh_at ⟨h1, h2⟩ hc, if_neg (by omega)]
  have hrow : ∀ j : Int, 0 ≤ j → j ≤ 9 → m_sh c f (10 * c + j).toNat = f (10 * c + j).toNat := by
    intro j h1 h2
    rw [m_sh_at hc ⟨h1, h2⟩, if_neg (by omega)]
  have inner : ∀ (i : Int) (y : Nat → Int), 0 ≤ i → i ≤ 9 → (∀ n : Nat, y n = if (n : Int) < 10 * i then m_sh c f n else f n) → ∀ m : Int, 0 ≤ m → m ≤ 10 → ∀ n : Nat, q_fr (q_j c i) 0 m y n = if (n : Int) < 10 * i + m then m_sh c f n else f n := by
    intro i y i1 i2 hy m m1 m2
    refine q_fr_ind (f := q_j c i) (fun j (u : Nat → Int) => j ≤ 10 → ∀ n : Nat, u n = if (n : Int) < 10 * i + j then m_sh c f n else f n) m1 (fun _ n => by rw [hy n, Int.add_zero]) ?_ m2
    intro j u j1 j2 hu0 _
    have hu := hu0 (by omega)
    have e1 : u (10 * i + c).toNat = f (10 * i + c).toNat := by
      rw [hu]
      split
      · exact hcol i i1 i2
      · rfl
    have e2 : u (10 * c + j).toNat = f (10 * c + j).toNat := by
      rw [hu]
      split
      · exact hrow j j1 (by omega)
      · rfl
    have e3 : u (10 * i + j).toNat = f (10 * i + j).toNat := by rw [hu, if_neg (by omega)]
    intro n
    unfold q_j
    rw [e1, e2]
    have e4 := m_sh_at (c := c) (f := f) (i := i) (j := j) (by omega) (by omega)
    by_cases hn : n = (10 * i + j).toNat
    · rw [hn, if_pos (by omega), e4]
      by_cases g : f (10 * i + c).toNat < 1000000 ∧ f (10 * c + j).toNat < 1000000
      · rw [q_if_t g]
        unfold q_eg
        rw [m_lw_at, if_pos rfl, e3]
        split <;> omega
      · rw [q_if_f g, e3, if_neg (fun q => g ⟨q.1, q.2.1⟩)]
    · have e5 : (q_if (f (10 * i + c).toNat < 1000000 ∧ f (10 * c + j).toNat < 1000000) (q_eg u i j (f (10 * i + c).toNat + f (10 * c + j).toNat)) u) n = u n := by
        by_cases g : f (10 * i + c).toNat < 1000000 ∧ f (10 * c + j).toNat < 1000000
        · rw [q_if_t g]
          unfold q_eg
          rw [m_lw_at, if_neg hn]
        · rw [q_if_f g]
      rw [e5, hu n]
      by_cases g : (n : Int) < 10 * i + j
      · rw [if_pos g, if_pos (by omega)]
      · rw [if_neg g, if_neg (by omega)]
  have outer : ∀ n : Nat, q_fr (q_i c) 0 i f n = if (n : Int) < 10 * i then m_sh c f n else f n := by
    refine q_fr_ind (f := q_i c) (fun i (y : Nat → Int) => i ≤ 9 → ∀ n : Nat, y n = if (n : Int) < 10 * i then m_sh c f n else f n) hi.1 (fun _ n => by rw [if_neg (by omega)]) ?_ hi.2
    intro i y i1 i2 hy _ n
    unfold q_i
    rw [inner i y i1 (by omega) (hy (by omega)) 10 (by omega) (by omega) n, show 10 * i + 10 = 10 * (i + 1) by omega]
  exact inner i _ hi.1 hi.2 outer j hj.1 hj.2
theorem m_wb_sh {M c : Int} {w : Nat → Int} (hM : 0 ≤ M) (hc : 0 ≤ c ∧ c ≤ 9) (h3 : m_wb M w) : m_wb (2 * M) (m_sh c w) := by
  intro n hn
  have b3 := h3 n hn
  unfold m_sh
  have b1 := h3 (10 * ((n / 10 : Nat) : Int) + c).toNat (by omega)
  have b2 := h3 (10 * c + ((n % 10 : Nat) : Int)).toNat (by omega)
  split
  · right; omega
  · omega
theorem q_p2_s {a : Int} (h : 0 ≤ a) : q_p2 (a + 1) = 2 * q_p2 a := by
  unfold q_p2
  rw [show (a + 1).toNat = a.toNat + 1 by omega, Nat.pow_succ]
  omega
theorem m_ph_eq {c : Int} {f : Nat → Int} (hc : 0 ≤ c ∧ c ≤ 9) (hd : 0 ≤ f (10 * c + c).toNat) : q_ph c f = m_sh c f := by
  have hcol : ∀ i : Int, 0 ≤ i → i ≤ 9 → m_sh c f (10 * i + c).toNat = f (10 * i + c).toNat := by
    intro i h1 h2
    rw [m_sh_at ⟨h1, h2⟩ hc, if_neg (by omega)]
  have hrow : ∀ j : Int, 0 ≤ j → j ≤ 9 → m_sh c f (10 * c + j).toNat = f (10 * c + j).toNat := by
    intro j h1 h2
    rw [m_sh_at hc ⟨h1, h2⟩, if_neg (by omega)]
  have key : ∀ n : Nat, q_ph c f n = if (n : Int) < 10 * 10 then m_sh c f n else f n := by
    unfold q_ph
    refine q_fr_ind (f := q_i c) (fun i (y : Nat → Int) => ∀ n : Nat, y n = if (n : Int) < 10 * i then m_sh c f n else f n) (by omega) (fun n => by rw [if_neg (by omega)]) ?_
    intro i y i1 i2 hy
    unfold q_i
    have key2 : ∀ n : Nat, q_fr (q_j c i) 0 10 y n = if (n : Int) < 10 * i + 10 then m_sh c f n else f n := by
      refine q_fr_ind (f := q_j c i) (fun j (u : Nat → Int) => ∀ n : Nat, u n = if (n : Int) < 10 * i + j then m_sh c f n else f n) (by omega) (fun n => by rw [hy n, Int.add_zero]) ?_
      intro j u j1 j2 hu
      have e1 : u (10 * i + c).toNat = f (10 * i + c).toNat := by
        rw [hu]
        split
        · exact hcol i i1 (by omega)
        · rfl
      have e2 : u (10 * c + j).toNat = f (10 * c + j).toNat := by
        rw [hu]
        split
        · exact hrow j j1 (by omega)
        · rfl
      have e3 : u (10 * i + j).toNat = f (10 * i + j).toNat := by rw [hu, if_neg (by omega)]
      intro n
      unfold q_j
      rw [e1, e2]
      have e4 := m_sh_at (c := c) (f := f) (i := i) (j := j) (by omega) (by omega)
      by_cases hn : n = (10 * i + j).toNat
      · rw [hn, if_pos (by omega), e4]
        by_cases g : f (10 * i + c).toNat < 1000000 ∧ f (10 * c + j).toNat < 1000000
        · rw [q_if_t g]
          unfold q_eg
          rw [m_lw_at, if_pos rfl, e3]
          split <;> omega
        · rw [q_if_f g, e3, if_neg (fun q => g ⟨q.1, q.2.1⟩)]
      · have e5 : (q_if (f (10 * i + c).toNat < 1000000 ∧ f (10 * c + j).toNat < 1000000) (q_eg u i j (f (10 * i + c).toNat + f (10 * c + j).toNat)) u) n = u n := by
          by_cases g : f (10 * i + c).toNat < 1000000 ∧ f (10 * c + j).toNat < 1000000
          · rw [q_if_t g]
            unfold q_eg
            rw [m_lw_at, if_neg hn]
          · rw [q_if_f g]
        rw [e5, hu n]
        by_cases g : (n : Int) < 10 * i + j
        · rw [if_pos g, if_pos (by omega)]
        · rw [if_neg g, if_neg (by omega)]
    intro n
    rw [key2 n, show 10 * i + 10 = 10 * (i + 1) by omega]
  funext n
  rw [key n]
  split
  · rfl
  · rename_i h
    unfold m_sh
    rw [if_neg (fun q => by omega)]
theorem m_wbc {M : Int} {f : Nat → Int} (hM : 0 ≤ M) (h : m_wb M f) (hd0 : q_dg f) : ∀ c : Nat, (c : Int) ≤ 10 → (∀ c1 : Int, 0 ≤ c1 → c1 < c → q_dg (q_ps (c1 + 1) f)) → m_wb (M * q_p2 c) (q_ps c f) ∧ q_dg (q_ps c f) := by
  intro c
  induction c with
  | zero =>
    intro _ _
    have e1 : q_ps ((0 : Nat) : Int) f = f := q_fr_0 (by omega)
    rw [e1, show q_p2 ((0 : Nat) : Int) = 1 from rfl, Int.mul_one]
    exact ⟨h, hd0⟩
  | succ c ih =>
    intro hc hd
    have ih1 := ih (by omega) (fun c1 g1 g2 => hd c1 g1 (by omega))
    have hdc := ih1.2 c (by omega) (by omega)
    rw [show (11 * (c : Int)).toNat = (10 * (c : Int) + c).toNat by omega] at hdc
    have hp : 1 ≤ q_p2 c := by
      have := q_p2_le (a := 0) (b := c) (by omega) (by omega)
      have e0 : q_p2 0 = 1 := rfl
      omega
    refine ⟨?_, ?_⟩
    · rw [show ((c + 1 : Nat) : Int) = (c : Int) + 1 by omega, q_ps_s (by omega), m_ph_eq (by omega) hdc, q_p2_s (by omega)]
      have := m_wb_sh (c := c) (Int.mul_nonneg hM (by omega : (0 : Int) ≤ q_p2 c)) (by omega) ih1.1
      rw [show M * (2 * q_p2 c) = 2 * (M * q_p2 c) from Int.mul_left_comm M 2 (q_p2 c)]
      exact this
    · have := hd c (by omega) (by omega)
      rw [show ((c + 1 : Nat) : Int) = (c : Int) + 1 by omega]
      exact this
theorem m_cb {f : Nat → Int} (h : m_wb 1100 f) (hd0 : q_dg f) : q_cb f := by
  intro c i j c1 c2 hd i1 i2 j1 j2
  have m := m_wbc (by omega) h hd0 c.toNat (by omega) (fun c1 g1 g2 => hd c1 g1 (by omega))
  rw [Int.toNat_of_nonneg c1] at m
  have hdc := m.2 c c1 (by omega)
  rw [show (11 * c).toNat = (10 * c + c).toNat by omega] at hdc
  have hp := q_p2_le (a := c) (b := 9) c1 (by omega)
  have p3 := m_p2v
  have hp1 : 1 ≤ q_p2 c := by
    have := q_p2_le (a := 0) (b := c) (by omega) (by omega)
    omega
  have w2 := m_wb_sh (c := c) (M := 1100 * q_p2 c) (by omega) ⟨c1, c2⟩ m.1
  have key : ∀ n : Nat, n < 100 → -1000000000 ≤ q_at f c i j n := by
    intro n hn
    unfold q_at
    rw [m_at_eq ⟨c1, c2⟩ hdc ⟨i1, i2⟩ ⟨j1, by omega⟩ n]
    have a := m.1 n hn
    have b := w2 n hn
    split <;> omega
  exact ⟨key _ (by omega), key _ (by omega)⟩
theorem m_R_cb {z : Int} {w r : Nat → Int} (h : m_R z 600 w r) : q_cb w := by
  refine m_cb (fun n hn => ?_) ?_
  · have := h.2.2.1 n hn
    omega
  · intro i i1 i2
    rw [show (11 * i).toNat = (10 * i + i).toNat by omega, h.2.2.2.1 i i1 (by omega)]
    omega
theorem m_cb_net {k lf g : Nat → Int} (h : q_KR k) : q_cb (q_net k lf g) := m_R_cb (m_R_lay (lf := lf) (g := g) (r := fun _ => 0) h)
