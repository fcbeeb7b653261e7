/-! words and mathematics, each behind what it wants: chunk 12 -/
theorem m_lay_con {k lf r u : Nat → Int} (h : q_KR k) : q_snd (k 0) (q_lay k lf r) u ↔ q_con k lf := by
  have h0 := h.r0
  exact m_snd_ok (by omega) (m_R_lay (lf := lf) (g := fun _ => 0) (r := r) h)
theorem q_lay_con {k lf r u : Nat → Int} (h : q_KR k) : q_snd (k 0) (q_lay k lf r) u ↔ q_con k lf := m_lay_con h
theorem m_cls_eq {z : Int} {w W u : Nat → Int} (hz : 1 ≤ z ∧ z ≤ 10) (h0 : m_R z 600 w W) (hk : q_ok w) : q_cls z W u = q_cI z z (q_cp 100 W u) ∧ q_cg w = q_ps z w ∧ m_T z (q_ps z w) (q_cI z z (q_cp 100 W u)) ∧ m_OC z (q_cI z z (q_cp 100 W u)) ∧ m_O z (q_ps z w) ∧ m_wb 614400 (q_ps z w) := by
  have h := m_R_cp (u := u) hz.2 h0
  have hd := m_ok_all h hk
  have hs : q_czP z (q_cp 100 W u) z := ⟨by omega, Int.le_refl z, fun c c1 c2 => (m_okc_c hz h ⟨c1, by omega⟩ (fun c' g1 g2 => hd c' g1 (by omega))).mpr (hd c c1 (by omega)), Or.inl rfl⟩
  have m := m_chain hz h z.toNat (by omega) (fun c' g1 g2 => hd c' g1 (by omega))
  rw [Int.toNat_of_nonneg (by omega)] at m
  have p2 := q_p2_le (a := z) (b := 10) (by omega) (by omega)
  have p3 := m_p2v
  refine ⟨?_, ?_, (m.2.2 (Int.le_refl z)).1, (m.2.2 (Int.le_refl z)).2, m.1, ?_⟩
  · unfold q_cls; rw [q_cz_is hs]
  · rw [q_cg_t hk]
    have hu := m_dg_up hz h (fun c c1 c2 => hd c c1 (by omega)) (10 - z).toNat (by omega)
    rw [show z + (((10 - z).toNat : Nat) : Int) = 10 by omega] at hu
    exact hu
  · intro n hn
    have := m.2.1 n hn
    omega
theorem m_lay_dd {k lf r u g : Nat → Int} (h : q_KR k) (hc : q_con k lf) : q_nD k (q_cls (k 0) (q_lay k lf r) u) (q_dd k lf g) := by
  have h0 := h.r0
  have m := m_cls_eq (u := u) (by omega) (m_R_lay (lf := lf) (g := g) (r := r) h) (m_con_eq.mpr hc)
  rw [m.1]
  unfold q_dd
  rw [m.2.1]
  exact m.2.2.1
theorem q_lay_dd {k lf r u g : Nat → Int} (h : q_KR k) (hc : q_con k lf) : q_nD k (q_cls (k 0) (q_lay k lf r) u) (q_dd k lf g) := m_lay_dd h hc
theorem m_cw_wk {k lf r u : Nat → Int} {p : Int} (h : q_KR k) : q_cw (k 0) (q_cp 100 (q_fr (q_lpE k p) 0 (k 2) (q_lay k lf r)) u) := by
  have h0 := h.r0
  exact m_cw (by omega) (m_R_wk (lf := lf) (g := fun _ => 0) (r := r) (p := p) h)
theorem q_cw_wk {k lf r u : Nat → Int} {p : Int} (h : q_KR k) (hp : 0 ≤ p ∧ p ≤ 15) : q_cw (k 0) (q_cp 100 (q_fr (q_lpE k p) 0 (k 2) (q_lay k lf r)) u) := m_cw_wk h
theorem m_lay_wk {k lf r u : Nat → Int} {p : Int} (h : q_KR k) : q_snd (k 0) (q_fr (q_lpE k p) 0 (k 2) (q_lay k lf r)) u ↔ q_wkP k lf p := by
  have h0 := h.r0
  exact m_snd_ok (by omega) (m_R_wk (lf := lf) (g := fun _ => 0) (r := r) (p := p) h)
theorem q_lay_wk {k lf r u : Nat → Int} {p : Int} (h : q_KR k) (hp : 0 ≤ p ∧ p ≤ 15) : q_snd (k 0) (q_fr (q_lpE k p) 0 (k 2) (q_lay k lf r)) u ↔ q_wkP k lf p := m_lay_wk h
/-- ways to choose -/
noncomputable def q_trw (k : Nat → Int) (w : Int) : Int := pz_or (pz_and (q_wayT w) (pz_xor (q_sO k) (-1))) (pz_and (q_sT k) (q_sO k))
noncomputable def q_kwL (k : Nat → Int) (t l : Int) : Int := q_if (q_obs k l) (k (46 + l).toNat) (q_if (pz_and t (pz_shl 1 (l - 1)) ≠ 0) 84 70)
noncomputable def q_kw (k : Nat → Int) (t : Int) : Nat → Int := fun j => if 47 ≤ j ∧ j ≤ 50 then q_kwL k t ((j : Int) - 46) else k j
noncomputable def q_fsP (k : Nat → Int) (x : Int) : Prop := (∃ w : Int, 0 ≤ w ∧ w ≤ 15 ∧ q_con (q_kw k (q_trw k w)) (fun _ => 0) ∧ (∀ v : Int, 0 ≤ v → v < w → ¬ q_con (q_kw k (q_trw k v)) (fun _ => 0)) ∧ x = q_trw k w) ∨ (x = -1 ∧ ∀ v : Int, 0 ≤ v → v ≤ 15 → ¬ q_con (q_kw k (q_trw k v)) (fun _ => 0))
theorem q_fsP_eq {k : Nat → Int} {x y : Int} (hx : q_fsP k x) (hy : q_fsP k y) : x = y := by
  rcases hx with ⟨w, h1, h2, h3, h4, h5⟩ | ⟨h1, h2⟩ <;> rcases hy with ⟨v, g1, g2, g3, g4, g5⟩ | ⟨g1, g2⟩
  · rcases Int.lt_trichotomy w v with h | h | h
    · exact absurd h3 (g4 w h1 h)
    · rw [h5, g5, h]
    · exact absurd g3 (h4 v g1 h)
  · exact absurd h3 (g2 w h1 h2)
  · exact absurd g3 (h2 v g1 g2)
  · rw [h1, g1]
noncomputable def q_fsw (k : Nat → Int) : Int := Classical.epsilon (q_fsP k)
theorem q_fsw_is {k : Nat → Int} {x : Int} (h : q_fsP k x) : q_fsw k = x := q_fsP_eq (Classical.epsilon_spec (p := q_fsP k) ⟨x, h⟩) h
theorem q_fsw_ok {k : Nat → Int} : q_fsP k (q_fsw k) := by
  refine Classical.epsilon_spec (p := q_fsP k) ?_
  by_cases h : ∀ v : Int, 0 ≤ v → v < (16 : Nat) → ¬ q_con (q_kw k (q_trw k v)) (fun _ => 0)
  · exact ⟨-1, Or.inr ⟨rfl, fun v h1 h2 => h v h1 (by omega)⟩⟩
  · obtain ⟨c, h1, h2, h3, h4⟩ := q_first (p := fun v => ¬ q_con (q_kw k (q_trw k v)) (fun _ => 0)) 16 h
    exact ⟨q_trw k c, Or.inl ⟨c, h1, by omega, Classical.not_not.mp h4, h3, rfl⟩⟩
theorem q_kw_same {k : Nat → Int} {t : Int} {j : Nat} (h : ¬ (47 ≤ j ∧ j ≤ 50)) : q_kw k t j = k j := if_neg h
theorem q_kw_l {k : Nat → Int} {t l : Int} (h1 : 1 ≤ l) (h2 : l ≤ 4) : q_kw k t (46 + l).toNat = q_kwL k t l := by
  unfold q_kw
  rw [if_pos (by omega), show (((46 + l).toNat : Nat) : Int) - 46 = l by omega]
/-- rows of the memory that hold the plan's row hold one with other labels -/
theorem q_cB_kw {k c f t m l d : Nat → Int} {x : Int} (h : q_cB k c f t m l d) (hk : q_KR k) : q_cB (q_kw k x) c f t m l d := by
  have h1 : q_kw k x 1 = k 1 := q_kw_same (by omega)
  refine ⟨by rw [h1]; exact h.1, fun b g1 g2 => ?_⟩
  rw [h1] at g2
  have h2 := h.2 b g1 g2
  rw [q_kw_same (j := (52 + 4 * b).toNat) (by omega), q_kw_same (j := (52 + 4 * b + 1).toNat) (by omega), q_kw_same (j := (52 + 4 * b + 2).toNat) (by omega), q_kw_same (j := (52 + 4 * b + 3).toNat) (by omega)]
  exact h2
theorem q_cS_kw {k c f t l g : Nat → Int} {x : Int} (h : q_cS k c f t l g) : q_cS (q_kw k x) c f t l g := by
  have h1 : q_kw k x 2 = k 2 := q_kw_same (by omega)
  refine ⟨by rw [h1]; exact h.1, fun s g1 g2 => ?_⟩
  rw [h1] at g2
  have h2 := h.2 s g1 g2
  rw [q_kw_same (j := (212 + 4 * s).toNat) (by omega), q_kw_same (j := (212 + 4 * s + 1).toNat) (by omega), q_kw_same (j := (212 + 4 * s + 2).toNat) (by omega), q_kw_same (j := (212 + 4 * s + 3).toNat) (by omega)]
  exact h2
theorem q_cC_kw {k c s : Nat → Int} {x : Int} (h : q_cC k c s) : q_cC (q_kw k x) c s := by
  refine ⟨by rw [q_kw_same (by omega)]; exact h.1, fun e g1 g2 => ?_⟩
  rw [q_kw_same (j := (6 + e).toNat) (by omega)]
  exact h.2 e g1 g2
theorem q_cE_kw {k p : Nat → Int} {x : Int} (h : q_cE k p) : q_cE (q_kw k x) p := by
  refine ⟨?_, ?_⟩
  · rw [q_kw_same (by omega)]; exact h.1
  · rw [q_kw_same (by omega)]; exact h.2
theorem m_KR_kw {k : Nat → Int} {x : Int} (h : q_KR k) : q_KR (q_kw k x) := by
  refine m_KR_lab h (fun j hj => q_kw_same hj) ?_
  intro l g1 g2
  rw [q_kw_l g1 g2]
  unfold q_kwL
  by_cases a1 : q_obs k l
  · rw [q_if_t a1]; exact h.lb (by omega) g2
  · rw [q_if_f a1]
    by_cases a2 : pz_and x (pz_shl 1 (l - 1)) ≠ 0
    · rw [q_if_t a2]; omega
    · rw [q_if_f a2]; omega
theorem q_KR_kw {k : Nat → Int} {x : Int} (h : q_KR k) : q_KR (q_kw k x) := m_KR_kw h
abbrev m_b (x i : Int) : Prop := pz_and x (pz_shl 1 i) ≠ 0
theorem m_bN : ∀ (x y : Fin 16) (i : Fin 4), ((m_b (pz_and ((x.val : Nat) : Int) (pz_xor ((y.val : Nat) : Int) (-1))) ((i.val : Nat) : Int) ↔ m_b ((x.val : Nat) : Int) ((i.val : Nat) : Int) ∧ ¬ m_b ((y.val : Nat) : Int) ((i.val : Nat) : Int)) ∧ (m_b (pz_and ((x.val : Nat) : Int) ((y.val : Nat) : Int)) ((i.val : Nat) : Int) ↔ m_b ((x.val : Nat) : Int) ((i.val : Nat) : Int) ∧ m_b ((y.val : Nat) : Int) ((i.val : Nat) : Int)) ∧ (m_b (pz_or ((x.val : Nat) : Int) ((y.val : Nat) : Int)) ((i.val : Nat) : Int) ↔ m_b ((x.val : Nat) : Int) ((i.val : Nat) : Int) ∨ m_b ((y.val : Nat) : Int) ((i.val : Nat) : Int))) := by decide +kernel
theorem m_bI {x y i : Int} (hx : 0 ≤ x ∧ x ≤ 15) (hy : 0 ≤ y ∧ y ≤ 15) (hi : 0 ≤ i ∧ i ≤ 3) : (m_b (pz_and x (pz_xor y (-1))) i ↔ m_b x i ∧ ¬ m_b y i) ∧ (m_b (pz_and x y) i ↔ m_b x i ∧ m_b y i) ∧ (m_b (pz_or x y) i ↔ m_b x i ∨ m_b y i) := by
  have h := m_bN ⟨x.toNat, by omega⟩ ⟨y.toNat, by omega⟩ ⟨i.toNat, by omega⟩
  simp only [Int.toNat_of_nonneg hx.1, Int.toNat_of_nonneg hy.1, Int.toNat_of_nonneg hi.1] at h
  exact h
theorem m_rN : ∀ (x y : Fin 16), (0 ≤ pz_and ((x.val : Nat) : Int) (pz_xor ((y.val : Nat) : Int) (-1)) ∧ pz_and ((x.val : Nat) : Int) (pz_xor ((y.val : Nat) : Int) (-1)) ≤ 15) ∧ (0 ≤ pz_and ((x.val : Nat) : Int) ((y.val : Nat) : Int) ∧ pz_and ((x.val : Nat) : Int) ((y.val : Nat) : Int) ≤ 15) ∧ (0 ≤ pz_or ((x.val : Nat) : Int) ((y.val : Nat) : Int) ∧ pz_or ((x.val : Nat) : Int) ((y.val : Nat) : Int) ≤ 15) := by decide +kernel
theorem m_rI {x y : Int} (hx : 0 ≤ x ∧ x ≤ 15) (hy : 0 ≤ y ∧ y ≤ 15) : (0 ≤ pz_and x (pz_xor y (-1)) ∧ pz_and x (pz_xor y (-1)) ≤ 15) ∧ (0 ≤ pz_and x y ∧ pz_and x y ≤ 15) ∧ (0 ≤ pz_or x y ∧ pz_or x y ≤ 15) := by
  have h := m_rN ⟨x.toNat, by omega⟩ ⟨y.toNat, by omega⟩
  simp only [Int.toNat_of_nonneg hx.1, Int.toNat_of_nonneg hy.1] at h
  exact h
theorem m_15N : ∀ i : Fin 4, m_b 15 ((i.val : Nat) : Int) ∧ ¬ m_b 0 ((i.val : Nat) : Int) := by decide +kernel
theorem m_15I {i : Int} (hi : 0 ≤ i ∧ i ≤ 3) : m_b 15 i ∧ ¬ m_b 0 i := by
  have h := m_15N ⟨i.toNat, by omega⟩
  simp only [Int.toNat_of_nonneg hi.1] at h
  exact h
theorem m_lsb {k : Nat → Int} {c d l : Int} (h1 : 1 ≤ l) (h2 : l ≤ 4) : m_b (q_ls (fun j => k (46 + j)) c d 5) (l - 1) ↔ (k (46 + l).toNat = c ∨ k (46 + l).toNat = d) := by
  have e := q_ls_bit (r := fun j => k (46 + j)) (c := c) (d := d) 4 (by omega) (l - 1).toNat (by omega)
  rw [show (((l - 1).toNat : Nat) : Int) = l - 1 by omega] at e
  have e3 : 46 + ((l - 1).toNat + 1) = (46 + l).toNat := by omega
  try dsimp only at e
  rw [e3] at e
  exact e.trans ⟨fun q => q.2, fun q => ⟨by omega, q⟩⟩
theorem m_lsr {k : Nat → Int} {c d : Int} : 0 ≤ q_ls (fun j => k (46 + j)) c d 5 ∧ q_ls (fun j => k (46 + j)) c d 5 ≤ 15 := by
  have h1 := q_ls_r (r := fun j => k (46 + j)) (c := c) (d := d) (n := 5) (by omega) (by omega)
  have h8 : q_p2 (5 - 1) = 16 := rfl
  rw [h8] at h1
  exact ⟨h1.1, by omega⟩
theorem m_wayT_r {w : Int} : 0 ≤ q_wayT w ∧ q_wayT w ≤ 15 := by
  have key : ∀ n : Nat, n ≤ 4 → 0 ≤ q_fr (q_wayS w) 1 (1 + n) 0 ∧ q_fr (q_wayS w) 1 (1 + n) 0 < q_p2 n := by
    intro n
    induction n with
    | zero =>
      intro _
      rw [q_fr_0 (by omega)]
      exact ⟨by omega, by show (0 : Int) < 1; omega⟩
    | succ n ih =>
      intro hn
      have ih1 := ih (by omega)
      have p := q_p2_s (a := n) (by omega)
      rw [show (1 : Int) + ((n + 1 : Nat) : Int) = 1 + (n : Int) + 1 by omega, q_fr_s (by omega), show ((n + 1 : Nat) : Int) = (n : Int) + 1 by omega, p]
      unfold q_wayS
      have s := q_shl_p2 (a := n) (by omega) (by omega)
      rw [show 1 + (n : Int) - 1 = n by omega, s]
      by_cases g : pz_and (pz_shr w (4 - (1 + (n : Int)))) 1 = 0
      · rw [q_if_t g]; unfold q_wayS at ih1; omega
      · rw [q_if_f g]; unfold q_wayS at ih1; omega
  have h := key 4 (by omega)
  rw [show (1 : Int) + ((4 : Nat) : Int) = 5 by omega, show q_p2 ((4 : Nat) : Int) = 16 from rfl] at h
  unfold q_wayT
  omega
theorem m_trw_r {k : Nat → Int} {w : Int} : q_cT (q_kw k (q_trw k w)) (q_trw k w) (pz_and 15 (pz_xor (q_trw k w) (-1))) := by
  have rt := m_wayT_r (w := w)
  have ro : 0 ≤ q_sO k ∧ q_sO k ≤ 15 := m_lsr
  have rs : 0 ≤ q_sT k ∧ q_sT k ≤ 15 := m_lsr
  have a1 := (m_rI rt ro).1
  have a2 := (m_rI rs ro).2.1
  have a3 : 0 ≤ q_trw k w ∧ q_trw k w ≤ 15 := (m_rI a1 a2).2.2
  have a4 := (m_rI (x := 15) (by omega) a3).1
  refine ⟨a3, a4, fun l l1 l2 => ?_⟩
  have b0 : m_b (q_sO k) (l - 1) ↔ q_obs k l := m_lsb l1 l2
  have b1 : m_b (q_sT k) (l - 1) ↔ q_tru k l := m_lsb l1 l2
  have b2 := (m_bI rt ro (i := l - 1) (by omega)).1
  have b3 := (m_bI rs ro (i := l - 1) (by omega)).2.1
  have b4 : m_b (q_trw k w) (l - 1) ↔ m_b (pz_and (q_wayT w) (pz_xor (q_sO k) (-1))) (l - 1) ∨ m_b (pz_and (q_sT k) (q_sO k)) (l - 1) := (m_bI a1 a2 (i := l - 1) (by omega)).2.2
  have b5 := (m_bI (x := 15) (y := q_trw k w) (by omega) a3 (i := l - 1) (by omega)).1
  have b6 := m_15I (i := l - 1) (by omega)
  have ev := q_kw_l (k := k) (t := q_trw k w) l1 l2
  show (m_b (q_trw k w) (l - 1) ↔ q_tru (q_kw k (q_trw k w)) l) ∧ (m_b (pz_and 15 (pz_xor (q_trw k w) (-1))) (l - 1) ↔ q_fls (q_kw k (q_trw k w)) l)
  unfold q_tru q_fls
  rw [ev]
  unfold q_kwL
  by_cases o : q_obs k l
  · rw [q_if_t o]
    have c1 : m_b (q_trw k w) (l - 1) ↔ q_tru k l := by
      rw [b4, b2, b3, b0, b1]
      exact ⟨fun q => q.elim (fun q => absurd o q.2) (fun q => q.1), fun q => Or.inr ⟨q, o⟩⟩
    refine ⟨c1, ?_⟩
    rw [b5, c1]
    have o' : k (46 + l).toNat = 116 ∨ k (46 + l).toNat = 102 := o
    constructor
    · rintro ⟨-, q⟩
      have q' : ¬ (k (46 + l).toNat = 116 ∨ k (46 + l).toNat = 84) := q
      omega
    · intro q
      refine ⟨b6.1, fun q2 => ?_⟩
      have q' : k (46 + l).toNat = 116 ∨ k (46 + l).toNat = 84 := q2
      omega
  · rw [q_if_f o]
    by_cases b : m_b (q_trw k w) (l - 1)
    · rw [q_if_t b]
      refine ⟨⟨fun _ => Or.inr rfl, fun _ => b⟩, ?_⟩
      rw [b5]
      exact ⟨fun q => absurd b q.2, fun q => by omega⟩
    · rw [q_if_f b]
      refine ⟨⟨fun q => absurd q b, fun q => by omega⟩, ?_⟩
      rw [b5]
      exact ⟨fun _ => Or.inr rfl, fun _ => ⟨b6.1, b⟩⟩
theorem q_trw_r {k : Nat → Int} {w : Int} (h1 : 0 ≤ w) (h2 : w ≤ 15) : q_cT (q_kw k (q_trw k w)) (q_trw k w) (pz_and 15 (pz_xor (q_trw k w) (-1))) := m_trw_r
/-- bounds left out one by one: those without which there is a conflict all the same -/
noncomputable def q_loS0 (k : Nat → Int) (b : Int) (l : Nat → Int) : Nat → Int := q_if (q_hld k b ∧ ¬ q_con k (pz_up l b.toNat 1)) (pz_up l b.toNat 1) l
noncomputable def q_lo0 (k : Nat → Int) (b : Int) : Nat → Int := q_fr (q_loS0 k) 0 b (fun _ => 0)
def q_kp (k : Nat → Int) (b : Int) : Prop := q_hld k b ∧ q_con k (pz_up (q_lo0 k b) b.toNat 1)
def q_cfl (k c : Nat → Int) (n : Int) : Prop := ∀ b : Int, 0 ≤ b → b < n → q_kp k b → c (q_cnt (q_kp k) b).toNat = b
theorem q_lo0_s {k : Nat → Int} {b : Int} (h : 0 ≤ b) : q_lo0 k (b + 1) = q_loS0 k b (q_lo0 k b) := q_fr_s h
theorem q_lo0_0 {k : Nat → Int} {b : Int} (h : 0 ≤ b) : ∀ j : Nat, b ≤ j → q_lo0 k b j = 0 := by
  refine q_fr_ind (f := q_loS0 k) (fun i (l : Nat → Int) => ∀ j : Nat, i ≤ j → l j = 0) h (fun j _ => rfl) ?_
  intro i l h1 h2 h3 j h4
  unfold q_loS0
  by_cases g : q_hld k i ∧ ¬ q_con k (pz_up l i.toNat 1)
  · rw [q_if_t g, pz_up_ne (by omega)]
    exact h3 j (by omega)
  · rw [q_if_f g]
    exact h3 j (by omega)
theorem q_isl_off {k lf r : Nat → Int} {b : Int} (h : q_isl k lf r) (hb : 0 ≤ b) : q_isl k (pz_up lf b.toNat 1) (pz_up r b.toNat 0) := by
  intro i h1 h2
  by_cases g : i = b
  · rw [g, pz_up_eq]
    exact pz_bi_f (fun q => by have := q.2.2; rw [pz_up_eq] at this; omega)
  · rw [pz_up_ne (by omega), h i h1 h2]
    refine pz_bi_iff ?_
    show (i < k 1 ∧ q_hld k i ∧ lf i.toNat = 0) ↔ (i < k 1 ∧ q_hld k i ∧ pz_up lf b.toNat 1 i.toNat = 0)
    rw [pz_up_ne (by omega)]
/-- a bound that holds, left out for a trial: back if the net is sound without it -/
theorem q_lo0_y {k r : Nat → Int} {b z : Int} (hb : 0 ≤ b) (hb2 : b < k 1) (h : q_isl k (q_lo0 k b) r) (hh : q_hld k b) (hz : z = pz_bi (q_con k (pz_up (q_lo0 k b) b.toNat 1))) : q_isl k (q_lo0 k (b + 1)) (pz_up (pz_up r b.toNat 0) b.toNat z) := by
  rw [q_lo0_s hb]
  unfold q_loS0
  by_cases g : q_con k (pz_up (q_lo0 k b) b.toNat 1)
  · rw [q_if_f (fun q => q.2 g), hz, pz_bi_1 g]
    intro i h1 h2
    by_cases g2 : i = b
    · rw [g2, pz_up_eq]
      exact pz_bi_t ⟨hb2, hh, q_lo0_0 hb b.toNat (by omega)⟩
    · rw [pz_up_ne (by omega), pz_up_ne (by omega)]
      exact h i h1 h2
  · rw [q_if_t ⟨hh, g⟩, hz, pz_bi_0 g]
    have h9 := q_isl_off h hb
    intro i h1 h2
    rw [← h9 i h1 h2, pz_up_at, pz_up_at]
    split <;> rfl
theorem q_lo0_n {k r : Nat → Int} {b : Int} (hb : 0 ≤ b) (h : q_isl k (q_lo0 k b) r) (hh : ¬ (b < k 1 ∧ q_hld k b)) : q_isl k (q_lo0 k (b + 1)) r := by
  rw [q_lo0_s hb]
  unfold q_loS0
  by_cases g : q_hld k b ∧ ¬ q_con k (pz_up (q_lo0 k b) b.toNat 1)
  · rw [q_if_t g]
    intro i h1 h2
    rw [h i h1 h2]
    refine pz_bi_iff ?_
    by_cases g2 : i = b
    · rw [g2]
      exact ⟨fun q => absurd ⟨q.1, q.2.1⟩ hh, fun q => absurd ⟨q.1, q.2.1⟩ hh⟩
    · show (i < k 1 ∧ q_hld k i ∧ q_lo0 k b i.toNat = 0) ↔ (i < k 1 ∧ q_hld k i ∧ pz_up (q_lo0 k b) b.toNat 1 i.toNat = 0)
      rw [pz_up_ne (by omega)]
  · rw [q_if_f g]
    exact h
theorem q_cfl_y {k c : Nat → Int} {b x : Int} (hb : 0 ≤ b) (h : q_cfl k c b) (hx : x = q_cnt (q_kp k) b) : q_cfl k (pz_up c x.toNat b) (b + 1) := by
  intro i h1 h2 h3
  by_cases g : i = b
  · rw [g, ← hx, pz_up_eq]
  · have h4 : q_cnt (q_kp k) i + 1 ≤ q_cnt (q_kp k) b := by
      have key : ∀ d : Nat, q_cnt (q_kp k) (i + 1) ≤ q_cnt (q_kp k) (i + 1 + d) := by
        intro d
        induction d with
        | zero => rw [show i + 1 + ((0 : Nat) : Int) = i + 1 by omega]; exact Int.le_refl _
        | succ d ih =>
          rw [show i + 1 + ((d + 1 : Nat) : Int) = i + 1 + (d : Int) + 1 by omega, q_cnt_s (n := i + 1 + (d : Int)) (by omega)]
          have := pz_bi_r (q_kp k (i + 1 + d))
          omega
      have h5 := key (b - (i + 1)).toNat
      rw [show i + 1 + (((b - (i + 1)).toNat : Nat) : Int) = b by omega, q_cnt_s h1, pz_bi_1 h3] at h5
      exact h5
    have h6 := (q_cnt_r (q_kp k) h1).1
    rw [pz_up_ne (by omega)]
    exact h i h1 (by omega) h3
theorem q_cfl_n {k c : Nat → Int} {b : Int} (h : q_cfl k c b) (hh : ¬ q_kp k b) : q_cfl k c (b + 1) := by
  intro i h1 h2 h3
  by_cases g : i = b
  · rw [g] at h3
    exact absurd h3 hh
  · exact h i h1 (by omega) h3
/-- roots -/
def q_rtK (k : Nat → Int) (p : Int) (r h : Nat → Int) (e : Int) : Prop := ∀ i : Int, 0 ≤ i → i < e → r i.toNat = (q_rt k p (fun _ => 0, fun _ => 0)).1 i.toNat ∧ h i.toNat = (q_rt k p (fun _ => 0, fun _ => 0)).2 i.toNat
theorem q_rt_y {k : Nat → Int} {p e : Int} {x : (Nat → Int) × (Nat → Int)} (h : q_KR k) (he : 0 ≤ e ∧ e ≤ 9) (h1 : q_we k e ≠ -1) (h2 : ¬ q_sta k (k (212 + 4 * q_we k e + 1).toNat)) : (q_rt k p x).1 e.toNat = (q_rt k p x).1 (k (212 + 4 * q_we k e).toNat).toNat ∧ (q_rt k p x).2 e.toNat = (q_rt k p x).2 (k (212 + 4 * q_we k e).toNat).toNat + q_pck k p (q_we k e) := m_rt_y h he h1 h2
theorem q_rt_n {k : Nat → Int} {p e : Int} {x : (Nat → Int) × (Nat → Int)} (h : q_KR k) (he : 0 ≤ e ∧ e ≤ 9) (h1 : q_we k e = -1 ∨ q_sta k (k (212 + 4 * q_we k e + 1).toNat)) : (q_rt k p x).1 e.toNat = e ∧ (q_rt k p x).2 e.toNat = 0 := m_rt_n h he h1
noncomputable def q_sbE (k r h : Nat → Int) (b : Int) (f : Nat → Int) : Nat → Int := q_if (q_hld k b) (q_eg f (r (k (52 + 4 * b).toNat).toNat) (r (k (52 + 4 * b + 1).toNat).toNat) (k (52 + 4 * b + 2).toNat - h (k (52 + 4 * b + 1).toNat).toNat + h (k (52 + 4 * b).toNat).toNat)) f
noncomputable def q_sb (k r h f : Nat → Int) : Nat → Int := q_fr (q_sbE k r h) 0 (k 1) f
noncomputable def q_rtP (k : Nat → Int) (p : Int) : (Nat → Int) × (Nat → Int) := q_rt k p (fun _ => 0, fun _ => 0)
noncomputable def q_fxS (k : Nat → Int) (p : Int) (f : Nat → Int) : Nat → Int := q_sb k (q_rtP k p).1 (q_rtP k p).2 f
noncomputable def q_fx (k r : Nat → Int) : Nat → Int := q_fr (q_fxS k) 0 (q_p2 (k 2)) (q_fr (q_stE k) 1 (k 0) (q_ncl (k 0) r))
def q_strong (k : Nat → Int) : Prop := q_ok (q_sgF k (q_clr (fun _ => 0), (fun _ => 0), (fun _ => 0))) ∧ q_all (q_sgA k (q_clr (fun _ => 0), (fun _ => 0), (fun _ => 0))) (q_p2 (k 2))
def m_R2 (z : Int) (w r : Nat → Int) : Prop := m_T z w r ∧ m_O z w ∧ m_wb 1100 w ∧ m_dz w ∧ m_OC z r
