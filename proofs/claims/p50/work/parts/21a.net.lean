/-! facts about what calls tell: the net -/
theorem f_D {k : Nat → Int} {a b : Int} (hk : q_KR k) (ha : 0 ≤ a ∧ a < k 0) (hb : 0 ≤ b ∧ b < k 0) (hc : q_con k (fun _ => 0)) : (c_distance k a b = -99991003 ∧ q_D k (10 * a + b).toNat = 1000000) ∨ (c_distance k a b = q_D k (10 * a + b).toNat ∧ -10000 ≤ q_D k (10 * a + b).toNat ∧ q_D k (10 * a + b).toNat ≤ 10000) := by
  have h0 := hk.r0
  have hr : -10000 ≤ q_D k (10 * a + b).toNat ∧ (q_D k (10 * a + b).toNat ≤ 10000 ∨ q_D k (10 * a + b).toNat = 1000000) := q_dd_r (lf := fun _ => 0) (g := fun _ => 0) hk hc (by omega)
  unfold c_distance
  rw [q_if_t (show 0 ≤ a ∧ a ≤ k 0 - 1 ∧ 0 ≤ b ∧ b ≤ k 0 - 1 by omega), q_if_t hc]
  by_cases h : q_D k (10 * a + b).toNat = 1000000
  · rw [q_if_t h]; exact Or.inl ⟨rfl, h⟩
  · rw [q_if_f h]; exact Or.inr ⟨rfl, hr.1, by omega⟩
theorem f_con01 (k : Nat → Int) : c_isConsistent k = 0 ∨ c_isConsistent k = 1 := pz_bi01 _
theorem f_con1 {k : Nat → Int} (h : c_isConsistent k = 1) : q_con k (fun _ => 0) := pz_bi_ne (by
  have h1 : pz_bi (q_con k (fun _ => 0)) = 1 := h
  rw [h1]; decide)
theorem f_con0 {k : Nat → Int} (h : c_isConsistent k = 0) : ¬ q_con k (fun _ => 0) := pz_bi_eq h
theorem f_cf {k : Nat → Int} (hk : q_KR k) : (c_isConsistent k = 1 ∧ c_conflictSize k = -99991001 ∧ c_conflictAt k 0 = -99991001) ∨ (c_isConsistent k = 0 ∧ 0 ≤ c_conflictSize k ∧ c_conflictAt k 0 ≠ -99991001) := by
  have h0 := hk.r0
  unfold c_isConsistent c_conflictSize c_conflictAt
  by_cases hc : q_con k (fun _ => 0)
  · rw [q_if_t hc, q_if_t hc, pz_bi_1 hc]; exact Or.inl ⟨rfl, rfl, rfl⟩
  · rw [q_if_f hc, q_if_f hc, pz_bi_0 hc]
    refine Or.inr ⟨rfl, (q_cnt_r _ h0.2.1.1).1, ?_⟩
    by_cases h : 0 ≤ (0 : Int) ∧ 0 < q_cnt (q_kp k) (k 1)
    · rw [q_if_t h]
      have := q_cat_ok h0.2.1.1 h
      have := this.1
      omega
    · rw [q_if_f h]; decide
theorem f_dis {k : Nat → Int} {a b : Int} (hk : q_KR k) (ha : 0 ≤ a ∧ a < k 0) (hb : 0 ≤ b ∧ b < k 0) : (c_isConsistent k = 0 ∧ c_distance k a b = -99991002) ∨ (c_isConsistent k = 1 ∧ (c_distance k a b = -99991003 ∨ (-10000 ≤ c_distance k a b ∧ c_distance k a b ≤ 10000))) := by
  rcases f_con01 k with h | h
  · refine Or.inl ⟨h, ?_⟩
    have hc := f_con0 h
    unfold c_distance
    rw [q_if_t (show 0 ≤ a ∧ a ≤ k 0 - 1 ∧ 0 ≤ b ∧ b ≤ k 0 - 1 by omega), q_if_f hc]
  · refine Or.inr ⟨h, ?_⟩
    rcases f_D hk ha hb (f_con1 h) with q | q
    · exact Or.inl q.1
    · exact Or.inr (by omega)
theorem f_dbr {k : Nat → Int} {a b : Int} : c_distanceByRounds k a b = c_distance k a b := rfl
theorem f_dis0 {k : Nat → Int} {a b : Int} (hk : q_KR k) (ha : 0 ≤ a ∧ a < k 0) (hab : a = b) (h : c_isConsistent k = 1) : c_distance k a b = 0 := by
  subst hab
  have h0 := hk.r0
  have hc := f_con1 h
  have hd : q_D k (10 * a + a).toNat = 0 := (m_D (g := fun _ => 0) hk hc).2.2.1 a ha.1 (by omega)
  rcases f_D hk ha ha hc with q | q
  · omega
  · omega
theorem f_tri {k : Nat → Int} {a b c : Int} (hk : q_KR k) (ha : 0 ≤ a ∧ a < k 0) (hb : 0 ≤ b ∧ b < k 0) (hc9 : 0 ≤ c ∧ c < k 0) (h : c_isConsistent k = 1) : c_distance k a c = -99991003 ∨ c_distance k c b = -99991003 ∨ (c_distance k a b ≠ -99991003 ∧ c_distance k a b ≤ c_distance k a c + c_distance k c b) := by
  have h0 := hk.r0
  have hc := f_con1 h
  have ht : m_tri 10 (q_D k) := (m_D (g := fun _ => 0) hk hc).1
  have t := ht a b c ha.1 (by omega) hb.1 (by omega) hc9.1 (by omega)
  rcases f_D hk ha hc9 hc with q1 | q1
  · exact Or.inl q1.1
  rcases f_D hk hc9 hb hc with q2 | q2
  · exact Or.inr (Or.inl q2.1)
  have t := t (by omega) (by omega)
  rcases f_D hk ha hb hc with q3 | q3
  · omega
  · exact Or.inr (Or.inr (by omega))
theorem f_dir {k : Nat → Int} {a b : Int} (hk : q_KR k) (ha : 0 ≤ a ∧ a < k 0) (hb : 0 ≤ b ∧ b < k 0) (hab : a ≠ b) (h : c_isConsistent k = 1) (hd : c_distance k a b = -99991003) : c_isDirect k a b = 0 := by
  have h0 := hk.r0
  have hc := f_con1 h
  unfold c_isDirect
  rw [q_if_t (show 0 ≤ a ∧ a ≤ k 0 - 1 ∧ 0 ≤ b ∧ b ≤ k 0 - 1 by omega), q_if_f hab, q_if_t hc]
  rcases f_D hk ha hb hc with q | q
  · exact pz_bi_0 (fun g => by
      have := g.1
      omega)
  · omega
/-! potentials -/
theorem f_pot {z : Int} {w r : Nat → Int} (hz : 1 ≤ z ∧ z ≤ 9) (h : m_R z 1100 w r) (hk : q_ok w) : ∃ p, m_pot p w := by
  have h2 : m_R2 z w r := h
  have hd := m_ok_all h hk
  have tri : ∀ c : Nat, (c : Int) ≤ z → m_tri c (q_ps c w) := by
    intro c
    induction c with
    | zero => intro _ i j v _ _ _ _ v1 v2; omega
    | succ c ih =>
      intro hc
      have m := m_chain2 (by omega) h2 c (by omega) (fun c' g1 g2 => hd c' g1 (by omega))
      have hdc := hd c (by omega) (by omega) c (by omega) (by omega)
      rw [show (11 * (c : Int)).toNat = (10 * (c : Int) + c).toNat by omega] at hdc
      have p2 := q_p2_le (a := c) (b := 8) (by omega) (by omega)
      have p3 : q_p2 8 = 256 := rfl
      have p4 := q_p2_le (a := 0) (b := c) (by omega) (by omega)
      have p5 : q_p2 0 = 1 := rfl
      rw [show ((c + 1 : Nat) : Int) = (c : Int) + 1 by omega, q_ps_s (by omega), m_ph_eq (by omega) hdc]
      exact m_tri_sh (M := 1100 * q_p2 c) (by omega) (by omega) hdc m.2.1 (ih (by omega))
  have t := tri z.toNat (by omega)
  have le := m_ps_le hd z.toNat (by omega)
  have dz := hd z (by omega) (by omega)
  rw [Int.toNat_of_nonneg (show 0 ≤ z by omega)] at t le
  have d0 : ∀ i : Int, 0 ≤ i → i ≤ 9 → q_ps z w (10 * i + i).toNat = 0 := by
    intro i i1 i2
    have a := le (10 * i + i).toNat
    rw [h.2.2.2.1 i i1 i2] at a
    have b := dz i i1 (by omega)
    rw [show (11 * i).toNat = (10 * i + i).toNat by omega] at b
    omega
  have key : ∀ j : Int, 0 ≤ j → j ≤ 9 → ∃ v : Int, v ≤ 0 ∧ (∀ i : Int, 0 ≤ i → i ≤ 9 → v ≤ q_ps z w (10 * i + j).toNat) ∧ ∃ i : Int, 0 ≤ i ∧ i ≤ 9 ∧ v = q_ps z w (10 * i + j).toNat := by
    intro j j1 j2
    have go : ∀ n : Nat, n ≤ 10 → ∃ v : Int, v ≤ 0 ∧ (∀ i : Int, 0 ≤ i → i < n → v ≤ q_ps z w (10 * i + j).toNat) ∧ ∃ i : Int, 0 ≤ i ∧ i ≤ 9 ∧ v = q_ps z w (10 * i + j).toNat := by
      intro n
      induction n with
      | zero =>
        intro _
        exact ⟨0, by omega, fun i _ _ => by omega, j, j1, j2, (d0 j j1 j2).symm⟩
      | succ n ih =>
        intro hn
        obtain ⟨v, v1, v2, i0, i1, i2, i3⟩ := ih (by omega)
        by_cases g : q_ps z w (10 * (n : Int) + j).toNat < v
        · refine ⟨q_ps z w (10 * (n : Int) + j).toNat, by omega, ?_, n, by omega, by omega, rfl⟩
          intro i a1 a2
          by_cases e : i = n
          · rw [e]; exact Int.le_refl _
          · have := v2 i a1 (by omega)
            omega
        · refine ⟨v, v1, ?_, i0, i1, i2, i3⟩
          intro i a1 a2
          by_cases e : i = n
          · rw [e]; omega
          · exact v2 i a1 (by omega)
    obtain ⟨v, v1, v2, v3⟩ := go 10 (by omega)
    exact ⟨v, v1, fun i a1 a2 => v2 i a1 (by omega), v3⟩
  let Q : Int → Int → Prop := fun j v => v ≤ 0 ∧ (∀ i : Int, 0 ≤ i → i ≤ 9 → v ≤ q_ps z w (10 * i + j).toNat) ∧ ∃ i : Int, 0 ≤ i ∧ i ≤ 9 ∧ v = q_ps z w (10 * i + j).toNat
  have hp : ∀ j : Int, 0 ≤ j → j ≤ 9 → Q j ((fun n : Nat => Classical.epsilon (Q (n : Int))) j.toNat) := by
    intro j j1 j2
    have hs := Classical.epsilon_spec (p := Q j) (key j j1 j2)
    show Q j (Classical.epsilon (Q ((j.toNat : Nat) : Int)))
    rw [Int.toNat_of_nonneg j1]
    exact hs
  refine ⟨fun n => Classical.epsilon (Q (n : Int)), ?_⟩
  intro i j i1 i2 j1 j2 f
  obtain ⟨a1, a2, m, m1, m2, m3⟩ := hp i i1 i2
  have b := (hp j j1 j2).2.1 m m1 m2
  have c := le (10 * i + j).toNat
  rcases Int.lt_or_le i z with q | q
  · have e := t m j i m1 m2 j1 j2 i1 q (by omega) (by omega)
    omega
  · have o := h.2.1 i j i1 i2 j1 j2 (Or.inl q)
    by_cases e : i = j
    · rw [if_pos e] at o
      subst e
      omega
    · rw [if_neg e] at o
      omega
theorem f_pot_eg {p f : Nat → Int} {i j x : Int} (hi : 0 ≤ i ∧ i ≤ 9) (hj : 0 ≤ j ∧ j ≤ 9) (h : m_pot p f) (hx : p j.toNat ≤ p i.toNat + x) : m_pot p (q_eg f i j x) := by
  intro a b a1 a2 b1 b2 hlt
  unfold q_eg at hlt ⊢
  rw [m_lw_at] at hlt ⊢
  by_cases e : (10 * a + b).toNat = (10 * i + j).toNat
  · rw [if_pos e] at hlt ⊢
    have e1 : a = i := by omega
    have e2 : b = j := by omega
    subst e1
    subst e2
    by_cases g : f (10 * a + b).toNat < 1000000
    · have := h a b a1 a2 b1 b2 g
      omega
    · omega
  · rw [if_neg e] at hlt ⊢
    exact h a b a1 a2 b1 b2 hlt
theorem f_pot_clr {p g : Nat → Int} : m_pot p (q_clr g) := by
  intro a b a1 a2 b1 b2 hlt
  have e : q_clr g (10 * a + b).toNat = if (10 * a + b).toNat % 11 = 0 then 0 else 1000000 := if_pos (by omega)
  rw [e] at hlt ⊢
  by_cases c : (10 * a + b).toNat % 11 = 0
  · rw [if_pos c]
    have : a = b := by omega
    subst this
    omega
  · rw [if_neg c] at hlt
    omega
/-- edges of starts lie in the square -/
theorem f_st_has {k x : Nat → Int} (hk : q_KR k) : ∀ e : Int, 1 ≤ e → e < k 0 → q_sta k e → q_fr (q_stE k) 1 (k 0) x (10 * 0 + e).toNat ≤ k (6 + e).toNat ∧ q_fr (q_stE k) 1 (k 0) x (10 * e + 0).toNat ≤ -(k (6 + e).toNat) := by
  have h0 := hk.r0
  have key := q_fr_ind (f := q_stE k) (a := 1) (n := k 0) (x := x) (fun i (y : Nat → Int) => ∀ e : Int, 1 ≤ e → e < i → q_sta k e → y (10 * 0 + e).toNat ≤ k (6 + e).toNat ∧ y (10 * e + 0).toNat ≤ -(k (6 + e).toNat)) (by omega) (fun e e1 e2 => by omega) (by
    intro i y i1 i2 hy e e1 e2 e3
    unfold q_stE
    by_cases c : q_sta k i
    · rw [q_if_t c]
      by_cases g : e = i
      · subst g
        refine ⟨Int.le_trans (m_eg_le _) ?_, ?_⟩
        · unfold q_eg
          rw [m_lw_at, if_pos rfl]
          omega
        · unfold q_eg
          rw [m_lw_at, if_pos rfl]
          omega
      · have q := hy e e1 (by omega) e3
        exact ⟨Int.le_trans (m_eg_le _) (Int.le_trans (m_eg_le _) q.1), Int.le_trans (m_eg_le _) (Int.le_trans (m_eg_le _) q.2)⟩
    · rw [q_if_f c]
      by_cases g : e = i
      · rw [g] at e3; exact absurd e3 c
      · exact hy e e1 (by omega) e3)
  exact key
def f_t (P : Nat → Int) (r : (Nat → Int) × (Nat → Int)) : Nat → Int := fun n => P (r.1 n).toNat + r.2 n
set_option maxHeartbeats 1000000 in
/-- strong plans are right at all corners -/
theorem f_strong_wk {k : Nat → Int} (hk : q_KR k) (hz : k 0 ≤ 9) (hs : q_strong k) {p : Int} (p1 : 0 ≤ p) (p2 : p < q_p2 (k 2)) : q_wkP k (fun _ => 0) p := by
  have h0 := hk.r0
  have hA : ∀ p : Int, 0 ≤ p → p < q_p2 (k 2) → q_all (q_sgO k (q_rtP k p).1 (q_rtP k p).2) (k 1) := fun p p1 p2 => (m_sgA hk).mp (hs.2 p p1 p2)
  have hW := (m_sgF_ok hk).mp hs.1
  rw [m_sg_eq hk] at hW
  have hR := m_R_fx (g := fun _ => 0) (r := fun _ => 0) hk hA
  obtain ⟨P, hP⟩ := f_pot (by omega) hR hW
  have rr : q_rb (q_rtP k p).1 (q_rtP k p).2 10 := m_rt_r (p := p) (x := (fun _ => 0, fun _ => 0)) hk
  -- an event that has started is its own root
  have own : ∀ e : Int, 0 ≤ e → e ≤ 9 → q_sta k e → (q_rtP k p).1 e.toNat = e ∧ (q_rtP k p).2 e.toNat = 0 := by
    intro e e1 e2 e3
    refine m_rt_n (p := p) (x := (fun _ => 0, fun _ => 0)) hk ⟨e1, e2⟩ ?_
    rcases q_we_spec (k := k) (e := e) (by omega) with ⟨w1, -⟩ | ⟨w1, w2, w3, -⟩
    · exact Or.inl w1
    · exact Or.inr (by rw [w3]; exact e3)
  have st0 : q_sta k 0 := by
    show k (6 + 0 : Int).toNat ≠ -1
    have : k (6 + 0 : Int).toNat = 0 := h0.2.2.2.2.2.2.1
    omega
  have tst : ∀ e : Int, 1 ≤ e → e < k 0 → q_sta k e → f_t P (q_rtP k p) e.toNat = f_t P (q_rtP k p) (0 : Int).toNat + k (6 + e).toNat := by
    intro e e1 e2 e3
    have o := own e (by omega) (by omega) e3
    have o0 := own 0 (by omega) (by omega) st0
    have f := f_st_has (x := q_fr (m_sB k) 0 (q_p2 (k 2)) (q_clr (fun _ => 0))) hk e e1 e2 e3
    have s := hk.st (e := e) (by omega) (by omega)
    have a := hP 0 e (by omega) (by omega) (by omega) (by omega) (by omega)
    have b := hP e 0 (by omega) (by omega) (by omega) (by omega) (by omega)
    unfold f_t
    rw [o.1, o.2, o0.1, o0.2]
    omega
  have tst2 : ∀ e : Int, 0 ≤ e → e < k 0 → q_sta k e → f_t P (q_rtP k p) e.toNat = f_t P (q_rtP k p) (0 : Int).toNat + k (6 + e).toNat := by
    intro e e1 e2 e3
    by_cases g : e = 0
    · subst g
      have : k (6 + 0 : Int).toNat = 0 := h0.2.2.2.2.2.2.1
      omega
    · exact tst e (by omega) e2 e3
  show q_ok (q_cor k p (q_bds k (fun _ => 0) (fun _ => 0)))
  refine m_pot_ok (p := f_t P (q_rtP k p)) ?_
  have hb : m_pot (f_t P (q_rtP k p)) (q_bds k (fun _ => 0) (fun _ => 0)) := by
    unfold q_bds
    refine q_fr_ind (f := q_stE k) (fun _ (y : Nat → Int) => m_pot (f_t P (q_rtP k p)) y) (by omega) ?_ ?_
    · refine q_fr_ind (f := q_bdE k (fun _ => 0)) (fun _ (y : Nat → Int) => m_pot (f_t P (q_rtP k p)) y) (by omega) f_pot_clr ?_
      intro b y b1 b2 hy
      unfold q_bdE
      by_cases g : q_hld k b ∧ (0 : Int) = 0
      · rw [q_if_t g]
        have hb := hk.bd b1 b2
        have r1 := rr (k (52 + 4 * b).toNat) (by omega) (by omega)
        have r2 := rr (k (52 + 4 * b + 1).toNat) (by omega) (by omega)
        refine f_pot_eg (by omega) (by omega) hy ?_
        have hx := m_fx_has (r := fun _ => 0) hk p1 p2 b1 b2 g.1
        have s1 : 0 ≤ (q_rtP k p).2 (k (52 + 4 * b).toNat).toNat ∧ (q_rtP k p).2 (k (52 + 4 * b).toNat).toNat ≤ 600 := m_shift600 (p := p) (x := (fun _ => 0, fun _ => 0)) (e := k (52 + 4 * b).toNat) hk (by omega)
        have s2 : 0 ≤ (q_rtP k p).2 (k (52 + 4 * b + 1).toNat).toNat ∧ (q_rtP k p).2 (k (52 + 4 * b + 1).toNat).toNat ≤ 600 := m_shift600 (p := p) (x := (fun _ => 0, fun _ => 0)) (e := k (52 + 4 * b + 1).toNat) hk (by omega)
        by_cases c : (q_rtP k p).1 (k (52 + 4 * b).toNat).toNat = (q_rtP k p).1 (k (52 + 4 * b + 1).toNat).toNat
        · have o := hA p p1 p2 b b1 b2 g.1
          unfold f_t
          rw [c]
          rcases o with o | o
          · exact absurd c o
          · omega
        · have a := hR.1 ((q_rtP k p).1 (k (52 + 4 * b).toNat).toNat) ((q_rtP k p).1 (k (52 + 4 * b + 1).toNat).toNat) (by omega) (by omega) (by omega) (by omega)
          rw [a] at hx
          have wb := hR.2.2.1 (10 * (q_rtP k p).1 (k (52 + 4 * b).toNat).toNat + (q_rtP k p).1 (k (52 + 4 * b + 1).toNat).toNat).toNat (by omega)
          have v := q_N_v (x := q_fr (q_stE k) 1 (k 0) (q_fr (m_sB k) 0 (q_p2 (k 2)) (q_clr fun _ => 0)) (10 * (q_rtP k p).1 (k (52 + 4 * b).toNat).toNat + (q_rtP k p).1 (k (52 + 4 * b + 1).toNat).toNat).toNat) (by omega)
          have q := hP ((q_rtP k p).1 (k (52 + 4 * b).toNat).toNat) ((q_rtP k p).1 (k (52 + 4 * b + 1).toNat).toNat) (by omega) (by omega) (by omega) (by omega) (by omega)
          unfold f_t
          omega
      · rw [q_if_f g]; exact hy
    · intro e y e1 e2 hy
      unfold q_stE
      by_cases g : q_sta k e
      · rw [q_if_t g]
        have t := tst e e1 e2 g
        exact f_pot_eg (by omega) (by omega) (f_pot_eg (by omega) (by omega) hy (by omega)) (by omega)
      · rw [q_if_f g]; exact hy
  unfold q_cor
  refine q_fr_ind (f := q_coE k p) (fun _ (y : Nat → Int) => m_pot (f_t P (q_rtP k p)) y) (by omega) hb ?_
  intro s y s1 s2 hy
  have sp := hk.sp s1 s2
  have dif : k (212 + 4 * s + 2).toNat ≤ f_t P (q_rtP k p) (k (212 + 4 * s + 1).toNat).toNat - f_t P (q_rtP k p) (k (212 + 4 * s).toNat).toNat ∧ f_t P (q_rtP k p) (k (212 + 4 * s + 1).toNat).toNat - f_t P (q_rtP k p) (k (212 + 4 * s).toNat).toNat ≤ k (212 + 4 * s + 3).toNat ∧ (¬ q_sta k (k (212 + 4 * s + 1).toNat) → f_t P (q_rtP k p) (k (212 + 4 * s + 1).toNat).toNat - f_t P (q_rtP k p) (k (212 + 4 * s).toNat).toNat = q_pck k p s) := by
    by_cases g : q_sta k (k (212 + 4 * s + 1).toNat)
    · have en := hk.en s1 s2 g
      have t1 := tst2 (k (212 + 4 * s + 1).toNat) (by omega) (by omega) g
      have t2 := tst2 (k (212 + 4 * s).toNat) (by omega) (by omega) en.1
      exact ⟨by omega, by omega, fun q => absurd g q⟩
    · have ws : q_we k (k (212 + 4 * s + 1).toNat) = s := by
        rcases q_we_spec (k := k) (e := k (212 + 4 * s + 1).toNat) (by omega) with ⟨-, w2⟩ | ⟨w1, w2, w3, w4⟩
        · exact absurd rfl (w2 s s1 s2)
        · rcases Int.lt_trichotomy (q_we k (k (212 + 4 * s + 1).toNat)) s with q | q | q
          · exact absurd w3 (hk.sq w1 q s2)
          · exact q
          · exact absurd rfl (w4 s s1 q)
      have y9 := m_rt_y (p := p) (x := (fun _ => 0, fun _ => 0)) hk (e := k (212 + 4 * s + 1).toNat) (by omega) (by rw [ws]; omega) (by rw [ws]; exact g)
      rw [ws] at y9
      have y1 : (q_rtP k p).1 (k (212 + 4 * s + 1).toNat).toNat = (q_rtP k p).1 (k (212 + 4 * s).toNat).toNat := y9.1
      have y2 : (q_rtP k p).2 (k (212 + 4 * s + 1).toNat).toNat = (q_rtP k p).2 (k (212 + 4 * s).toNat).toNat + q_pck k p s := y9.2
      have e : f_t P (q_rtP k p) (k (212 + 4 * s + 1).toNat).toNat - f_t P (q_rtP k p) (k (212 + 4 * s).toNat).toNat = q_pck k p s := by
        unfold f_t
        rw [y1, y2]
        omega
      have pr : k (212 + 4 * s + 2).toNat ≤ q_pck k p s ∧ q_pck k p s ≤ k (212 + 4 * s + 3).toNat := by
        unfold q_pck
        by_cases c : q_up p s
        · rw [q_if_t c]; omega
        · rw [q_if_f c]; omega
      exact ⟨by omega, by omega, fun _ => e⟩
  unfold q_coE
  refine f_pot_eg (by omega) (by omega) (f_pot_eg (by omega) (by omega) hy ?_) ?_
  · by_cases c : q_sta k (k (212 + 4 * s + 1).toNat) ∨ q_up p s
    · rw [q_if_t c]; omega
    · rw [q_if_f c]
      have d := dif.2.2 (fun q => c (Or.inl q))
      have e : q_pck k p s = k (212 + 4 * s + 2).toNat := q_if_f (fun q => c (Or.inr q))
      omega
  · by_cases c : q_sta k (k (212 + 4 * s + 1).toNat) ∨ ¬ q_up p s
    · rw [q_if_t c]; omega
    · rw [q_if_f c]
      have d := dif.2.2 (fun q => c (Or.inl q))
      have e : q_pck k p s = k (212 + 4 * s + 3).toNat := q_if_t (Classical.not_not.mp (fun q => c (Or.inr q)))
      omega
theorem f_wk_con {k : Nat → Int} (hk : q_KR k) (hz : k 0 ≤ 9) {p : Int} (h : q_wkP k (fun _ => 0) p) : q_con k (fun _ => 0) := by
  have h0 := hk.r0
  obtain ⟨P, hP⟩ := f_pot (by omega) (m_R_le (M' := 1100) (m_R_wk (lf := fun _ => 0) (g := fun _ => 0) (r := fun _ => 0) (p := p) hk) (by omega)) h
  refine m_pot_ok (p := P) ?_
  have le : ∀ n, q_cor k p (q_bds k (fun _ => 0) (fun _ => 0)) n ≤ q_net k (fun _ => 0) (fun _ => 0) n := by
    unfold q_cor q_net
    refine q_fr_rel (f := q_coE k p) (g := q_spE k) (fun (x y : Nat → Int) => ∀ n, x n ≤ y n) (fun n => Int.le_refl _) ?_
    intro s x y s1 s2 hxy n
    have sp := hk.sp s1 s2
    have g1 : q_if (q_sta k (k (212 + 4 * s + 1).toNat) ∨ q_up p s) (k (212 + 4 * s + 3).toNat) (k (212 + 4 * s + 2).toNat) ≤ k (212 + 4 * s + 3).toNat := by
      by_cases c : q_sta k (k (212 + 4 * s + 1).toNat) ∨ q_up p s
      · rw [q_if_t c]; omega
      · rw [q_if_f c]; omega
    have g2 : q_if (q_sta k (k (212 + 4 * s + 1).toNat) ∨ ¬ q_up p s) (-(k (212 + 4 * s + 2).toNat)) (-(k (212 + 4 * s + 3).toNat)) ≤ -(k (212 + 4 * s + 2).toNat) := by
      by_cases c : q_sta k (k (212 + 4 * s + 1).toNat) ∨ ¬ q_up p s
      · rw [q_if_t c]; omega
      · rw [q_if_f c]; omega
    unfold q_coE q_spE q_eg
    rw [m_lw_at, m_lw_at, m_lw_at, m_lw_at]
    have q := hxy n
    have q9 := hxy
    split <;> split <;> omega
  intro i j i1 i2 j1 j2 f
  have l := le (10 * i + j).toNat
  have := hP i j i1 i2 j1 j2 (by omega)
  omega
