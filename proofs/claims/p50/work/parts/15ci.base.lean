/-! words and mathematics, each behind what it wants: chunk 9 -/
/-- where the square of a round is consistent, values on one level are not far below 0 -/
theorem m_J_ok {k D v g : Nat → Int} {m a : Int} (hk : q_KR k) (hD : m_DF (k 0) D) (hS : m_DS k D) (h : m_J k D m a v) (ok : q_ok (q_ir k v g)) : m_J k D 5400 a v := by
  have h0 := hk.r0
  have le0 : ∀ i j : Int, 0 ≤ i → i ≤ 9 → 0 ≤ j → j ≤ 9 → q_ir k v g (10 * i + j).toNat ≤ v (10 * i + j).toNat := by
    intro i j i1 i2 j1 j2
    have := (m_ir_at (v := v) (f := g) hk (10 * i + j).toNat (by omega)).1 0 (by omega) (by omega)
    rw [show (100 * (0 : Int) + ((10 * i + j).toNat : Nat)).toNat = (10 * i + j).toNat by omega] at this
    exact this
  refine ⟨?_, h.2.1, ?_, h.2.2.2⟩
  · intro i j i1 i2 j1 j2
    have f := h.1 i j i1 i2 j1 j2
    refine ⟨f.1, fun q => ?_⟩
    obtain ⟨p1, p2⟩ := f.2 q
    refine ⟨p1, ?_⟩
    unfold m_be at p2 ⊢
    by_cases e : m_lev D i - m_lev D j = 0
    · rw [if_pos e]
      have dj := (m_lev_le hD ⟨i1, i2⟩ ⟨j1, j2⟩ p1).2 (by omega)
      have fj := h.1 j i j1 j2 i1 i2
      have b := (m_DF_le hD (n := (10 * j + i).toNat) (by omega)).2 dj
      have a1 := le0 i j i1 i2 j1 j2
      have a2 := le0 j i j1 j2 i1 i2
      have c := m_ok_cyc ok ⟨i1, i2⟩ ⟨j1, j2⟩ (by omega) (by omega)
      omega
    · rw [if_neg e] at p2 ⊢
      exact p2
  · intro s i t s1 s2 i1 i2 t1 t2
    rcases h.2.2.1 s i t s1 s2 i1 i2 t1 t2 with q | ⟨⟨q1, q2, q3⟩, q4, q5, q6⟩
    · exact Or.inl q
    · refine Or.inr ⟨⟨q1, q2, q3⟩, q4, q5, ?_⟩
      have sp := hk.sp s1 q1
      unfold m_be at q6 ⊢
      by_cases e : m_lev D i - m_lev D (k (212 + 4 * s + 1).toNat) = 0
      · rw [if_pos e]
        have dj := (m_lev_le hD ⟨i1, i2⟩ (show 0 ≤ k (212 + 4 * s + 1).toNat ∧ k (212 + 4 * s + 1).toNat ≤ 9 by omega) q4).2 (by omega)
        have df := m_DF_tr hD (i := k (212 + 4 * s).toNat) (c := k (212 + 4 * s + 1).toNat) (j := i) (by omega) (by omega) ⟨i1, i2⟩ (hS s s1 q1).1 dj
        rw [← q3] at df
        have fj := h.1 t i t1 t2 i1 i2
        have b := (m_DF_le hD (n := (10 * t + i).toNat) (by omega)).2 df
        have b2 := (m_DF_le hD (n := (10 * i + k (212 + 4 * s + 1).toNat).toNat) (by omega)).2 q4
        have a1 := (m_ir_at (v := v) (f := g) hk (10 * i + t).toNat (by omega)).1 (s + 1) (by omega) (by omega)
        rw [show (100 * (s + 1) + ((10 * i + t).toNat : Nat)).toNat = (100 * (s + 1) + 10 * i + t).toNat by omega] at a1
        have a2 := le0 t i t1 t2 i1 i2
        have c := m_ok_cyc ok ⟨i1, i2⟩ ⟨t1, t2⟩ (by omega) (by omega)
        omega
      · rw [if_neg e] at q6 ⊢
        exact q6
/-- all rounds -/
theorem m_c4 {v a : Nat → Int} : m_A 400 (q_c4 v a) v := fun n hn => if_pos hn
theorem m_rx_s {k : Nat → Int} {x : q_X} {n : Int} (hn : 0 ≤ n) : q_rx k (n + 1) x = q_rx1 k (q_rx k n x) := by
  unfold q_rx
  rw [q_fr_s hn]
theorem m_J_all {k lf g v a : Nat → Int} (hk : q_KR k) (hc : q_con k lf) : ∀ n : Nat, n ≤ 60 → (∀ i : Int, 0 ≤ i → i < n → q_fi k (q_rx k i (q_x0 k lf g v a))) → m_J k (q_dd k lf g) 5400 (5400 + 5400 * n) (q_rx k n (q_x0 k lf g v a)).1 ∧ m_J k (q_dd k lf g) 10800 (5400 + 5400 * (n + 1)) (q_rx k (n + 1) (q_x0 k lf g v a)).1 := by
  have hD := m_DF_dd (g := g) hk hc
  have hS := m_DS_dd (g := g) hk hc
  have st : ∀ n : Nat, n ≤ 60 → m_J k (q_dd k lf g) 5400 (5400 + 5400 * n) (q_rx k n (q_x0 k lf g v a)).1 → m_J k (q_dd k lf g) 10800 (5400 + 5400 * (n + 1)) (q_rx k (n + 1) (q_x0 k lf g v a)).1 := by
    intro n hn h
    have s := m_J_s hk hD hS (by omega) h (m_c4 (a := (q_rx k n (q_x0 k lf g v a)).2.1))
    rw [m_rx_s (by omega), show 5400 + 5400 * ((n : Int) + 1) = 5400 + 5400 * (n : Int) + 5400 by omega]
    exact s
  intro n
  induction n with
  | zero =>
    intro _ _
    have h : m_J k (q_dd k lf g) 5400 (5400 + 5400 * ((0 : Nat) : Int)) (q_rx k ((0 : Nat) : Int) (q_x0 k lf g v a)).1 := by
      have e1 : q_rx k ((0 : Nat) : Int) (q_x0 k lf g v a) = q_x0 k lf g v a := q_fr_0 (Int.le_refl 0)
      rw [e1]
      exact m_J_0 hk hD
    exact ⟨h, st 0 (by omega) h⟩
  | succ n ih =>
    intro hn hf
    have ih1 := (ih (by omega) (fun i i1 i2 => hf i i1 (by omega))).2
    have ok := hf n (by omega) (by omega)
    have h : m_J k (q_dd k lf g) 5400 (5400 + 5400 * ((n + 1 : Nat) : Int)) (q_rx k ((n + 1 : Nat) : Int) (q_x0 k lf g v a)).1 := by
      rw [show ((n + 1 : Nat) : Int) = (n : Int) + 1 by omega]
      have e : (q_rx k ((n : Int) + 1) (q_x0 k lf g v a)).1 = q_rd k (q_c4 (q_rx k n (q_x0 k lf g v a)).1 (q_rx k n (q_x0 k lf g v a)).2.1) (q_rx k n (q_x0 k lf g v a)).1 := by
        rw [m_rx_s (by omega)]
        rfl
      unfold q_fi at ok
      rw [← e] at ok
      exact m_J_ok hk hD hS ih1 ok
    exact ⟨h, st (n + 1) hn h⟩
theorem m_rB_ok {k lf g v a : Nat → Int} {m : Int} (h : q_KR k) (hc : q_con k lf) (hl : q_last k (q_x0 k lf g v a) m) : q_rB k (q_x0 k lf g v a) m := by
  have hD := m_DF_dd (g := g) h hc
  have hS := m_DS_dd (g := g) h hc
  obtain ⟨⟨m1, m2⟩, m3, -⟩ := hl
  intro i i1 i2
  have J := m_J_all (g := g) (v := v) (a := a) h hc i.toNat (by omega) (fun i' g1 g2 => (m3 i' g1 (by omega)).1)
  rw [Int.toNat_of_nonneg i1] at J
  refine ⟨m_J_vb h hD (by omega) J.1, ?_⟩
  exact m_cb3 (A := 5400 + 5400 * (i + 1)) hD (by omega) (m_ir_F h hD hS J.2).1
theorem q_rB_ok {k lf g v a : Nat → Int} {m : Int} (h : q_KR k) (hc : q_con k lf) (hl : q_last k (q_x0 k lf g v a) m) : q_rB k (q_x0 k lf g v a) m := m_rB_ok h hc hl
theorem m_zv_r {k lf g v a : Nat → Int} (h : q_KR k) (hc : q_seen k lf g v a) : q_vb (q_zX k lf g v a).1 := by
  have hco := hc.1
  have hD := m_DF_dd (g := g) h hco
  obtain ⟨⟨m1, m2⟩, m3, -⟩ := q_m_ok (k := k) (x := q_x0 k lf g v a)
  have J := m_J_all (g := g) (v := v) (a := a) h hco (q_m k (q_x0 k lf g v a)).toNat (by omega) (fun i' g1 g2 => (m3 i' g1 (by omega)).1)
  rw [Int.toNat_of_nonneg m1] at J
  unfold q_zX
  rw [q_if_t hco]
  exact m_J_vb h hD (by omega) J.2
theorem q_zv_r {k lf g v a : Nat → Int} (h : q_KR k) (hc : q_seen k lf g v a) : q_vb (q_zX k lf g v a).1 := m_zv_r h hc
def q_ts (k a : Nat → Int) : Nat → Int := fun j => if j < 10 then k (6 + j) else a j
theorem q_ts_al {k a : Nat → Int} (h : q_KR k) : q_al (q_ts k a) := by
  intro e h1 h2
  have h3 := h.st h1 h2
  unfold q_ts
  rw [if_pos (by omega), show 6 + e.toNat = (6 + e).toNat by omega]
  exact h3.1
theorem q_zv_l {k lf g v a : Nat → Int} (h : q_KR k) (hc : q_seen k lf g v a) : q_vl (q_zX k lf g v a).1 := fun j hj => (q_zv_r h hc j hj).1
theorem q_ts_e {k a : Nat → Int} {e : Int} (h1 : 0 ≤ e) (h2 : e ≤ 9) : q_ts k a e.toNat = k (6 + e).toNat := by
  unfold q_ts
  rw [if_pos (by omega), show 6 + e.toNat = (6 + e).toNat by omega]
theorem q_rs_r {v a k : Nat → Int} {e m : Int} : 45 ≤ q_rs v a k e m ∧ q_rs v a k e m ≤ 119 := by
  have key : ∀ (p : Prop) (x y : Int), (45 ≤ x ∧ x ≤ 119) → (45 ≤ y ∧ y ≤ 119) → (45 ≤ q_if p x y ∧ q_if p x y ≤ 119) := by
    intro p x y hx hy
    by_cases h : p
    · rw [q_if_t h]; exact hx
    · rw [q_if_f h]; exact hy
  unfold q_rs
  exact key _ _ _ (by omega) (key _ _ _ (by omega) (key _ _ _ (by omega) (key _ _ _ (by omega) (key _ _ _ (by omega) (key _ _ _ (by omega) (by omega))))))
def q_aa (k a : Nat → Int) : Prop := ∀ e : Int, 0 ≤ e → e < k 0 → a e.toNat ≠ -1
abbrev q_aaP (a : Nat → Int) (e : Int) : Prop := a e.toNat ≠ -1
/-- the first event that can start, or -1 -/
def q_nx (v a k : Nat → Int) (m e : Int) : Prop := (0 ≤ e ∧ e < k 0 ∧ q_rs v a k e m = 45 ∧ ∀ i : Int, 0 ≤ i → i < e → q_rs v a k i m ≠ 45) ∨ (e = -1 ∧ ∀ i : Int, 0 ≤ i → i < k 0 → q_rs v a k i m ≠ 45)
def q_any (k : Nat → Int) : Prop := ∃ e : Int, 1 ≤ e ∧ e < k 0 ∧ q_sta k e
noncomputable def q_nxt (v k : Nat → Int) (m : Int) (a : Nat → Int) : Int := Classical.epsilon (q_nx v a k m)
theorem q_nxt_ok {v k a : Nat → Int} {m : Int} (hk : q_KR k) : q_nx v a k m (q_nxt v k m a) := by
  refine Classical.epsilon_spec (p := q_nx v a k m) ?_
  have h0 := hk.r0
  by_cases h : ∀ i : Int, 0 ≤ i → i < ((k 0).toNat : Int) → q_rs v a k i m ≠ 45
  · exact ⟨-1, Or.inr ⟨rfl, fun i g1 g2 => h i g1 (by omega)⟩⟩
  · obtain ⟨e, h1, h2, h3, h4⟩ := q_first (p := fun i => q_rs v a k i m ≠ 45) (k 0).toNat h
    exact ⟨e, Or.inl ⟨h1, by omega, Classical.not_not.mp h4, h3⟩⟩
/-- an event that can start has not started -/
theorem q_rs_45 {v a k : Nat → Int} {e m : Int} (h : q_rs v a k e m = 45) : a e.toNat = -1 := by
  by_cases h1 : a e.toNat ≠ -1
  · unfold q_rs at h
    rw [q_if_t h1] at h
    cases h
  · exact Classical.not_not.mp h1
/-- how many events have not started -/
noncomputable def q_un0 (a : Nat → Int) (n : Int) : Int := q_cnt (fun e => a e.toNat = -1) n
theorem q_cnt_up {a : Nat → Int} {e x : Int} (h0 : 0 ≤ e) (h1 : a e.toNat = -1) (hx : x ≠ -1) : ∀ n : Nat, q_cntN (fun i => pz_up a e.toNat x i.toNat = -1) n = q_cntN (fun i => a i.toNat = -1) n - (if e < n then 1 else 0)
  | 0 => by rw [if_neg (by omega)]; rfl
  | n + 1 => by
    show q_cntN (fun i => pz_up a e.toNat x i.toNat = -1) n + pz_bi (pz_up a e.toNat x (n : Int).toNat = -1) = q_cntN (fun i => a i.toNat = -1) n + pz_bi (a (n : Int).toNat = -1) - _
    rw [q_cnt_up h0 h1 hx n]
    by_cases hn : e = n
    · rw [if_neg (by omega), if_pos (by omega), pz_bi_0 (by rw [← hn, pz_up_eq]; exact hx), pz_bi_1 (by rw [← hn]; exact h1)]
      omega
    · rw [pz_up_ne (show (n : Int).toNat ≠ e.toNat by omega)]
      by_cases h2 : e < n
      · rw [if_pos h2, if_pos (by omega)]
        omega
      · rw [if_neg h2, if_neg (by omega)]
        omega
theorem q_un0_s {a : Nat → Int} {e x n : Int} (h0 : 0 ≤ e) (he : e < n) (h1 : a e.toNat = -1) (hx : x ≠ -1) : q_un0 (pz_up a e.toNat x) n = q_un0 a n - 1 := by
  unfold q_un0 q_cnt
  rw [q_cnt_up h0 h1 hx, if_pos (by omega)]
noncomputable def q_stp (v k : Nat → Int) (m : Int) (a : Nat → Int) : Nat → Int := q_if (q_nxt v k m a = -1) a (pz_up a (q_nxt v k m a).toNat m)
noncomputable def q_sts (v k : Nat → Int) (m n : Int) (a : Nat → Int) : Nat → Int := q_fr (fun _ a => q_stp v k m a) 0 n a
theorem q_sts_s {v k a b : Nat → Int} {m n : Int} (hn : 0 ≤ n) (hb : b = q_sts v k m n a) (he : q_nxt v k m b ≠ -1) : pz_up b (q_nxt v k m b).toNat m = q_sts v k m (n + 1) a := by
  unfold q_sts
  rw [q_fr_s hn]
  show _ = q_stp v k m (q_sts v k m n a)
  rw [← hb]
  unfold q_stp
  rw [q_if_f he]
theorem q_sts_e {v k a b : Nat → Int} {m n : Int} (hn : 0 ≤ n ∧ n ≤ 10) (hb : b = q_sts v k m n a) (he : q_nxt v k m b = -1) : b = q_sts v k m 10 a := by
  have key : ∀ d : Nat, b = q_sts v k m (n + d) a := by
    intro d
    induction d with
    | zero => rw [show n + ((0 : Nat) : Int) = n by omega]; exact hb
    | succ d ih =>
      rw [show n + ((d + 1 : Nat) : Int) = (n + (d : Int)) + 1 by omega]
      unfold q_sts
      rw [q_fr_s (by omega)]
      show _ = q_stp v k m (q_sts v k m (n + d) a)
      rw [← ih]
      unfold q_stp
      rw [q_if_t he]
  have h := key (10 - n).toNat
  rw [show n + ((10 - n).toNat : Int) = 10 by omega] at h
  exact h
noncomputable def q_enS (k : Nat → Int) (p m s : Int) (a : Nat → Int) : Nat → Int := q_if (a (k (212 + 4 * s + 1).toNat).toNat = -1 ∧ a (k (212 + 4 * s).toNat).toNat ≠ -1 ∧ m - a (k (212 + 4 * s).toNat).toNat = q_if (q_up p s) (k (212 + 4 * s + 3).toNat) (k (212 + 4 * s + 2).toNat)) (pz_up a (k (212 + 4 * s + 1).toNat).toNat m) a
noncomputable def q_mi (v k : Nat → Int) (p m : Int) (a : Nat → Int) : Nat → Int := q_sts v k m 10 (q_fr (q_enS k p m) 0 (k 2) a)
noncomputable def q_plS (v k : Nat → Int) (p m : Int) (a : Nat → Int) : Nat → Int := q_if (q_aa k a) a (q_mi v k p m a)
def q_a0 (a : Nat → Int) : Nat → Int := fun j => if j = 0 then 0 else if j < 10 then -1 else a j
noncomputable def q_pl (v k : Nat → Int) (p : Int) (a : Nat → Int) : Nat → Int := q_fr (q_plS v k p) 0 601 (q_a0 a)
theorem q_pl_e {v k a b : Nat → Int} {p m : Int} (hm : 0 ≤ m ∧ m ≤ 601) (hb : b = q_fr (q_plS v k p) 0 m a) (he : m = 601 ∨ q_aa k b) : b = q_fr (q_plS v k p) 0 601 a := by
  rcases he with rfl | he
  · exact hb
  have key : ∀ d : Nat, b = q_fr (q_plS v k p) 0 (m + d) a := by
    intro d
    induction d with
    | zero => rw [show m + ((0 : Nat) : Int) = m by omega]; exact hb
    | succ d ih =>
      rw [show m + ((d + 1 : Nat) : Int) = (m + (d : Int)) + 1 by omega, q_fr_s (by omega), ← ih]
      unfold q_plS
      rw [q_if_t he]
  have h := key (601 - m).toNat
  rw [show m + ((601 - m).toNat : Int) = 601 by omega] at h
  exact h
theorem q_al_up {a : Nat → Int} {e m : Int} (h : q_al a) (he : 0 ≤ e) (hm : 0 ≤ m ∧ m ≤ 600) : q_al (pz_up a e.toNat m) := by
  intro i h1 h2
  rw [pz_up_at]
  split
  · omega
  · exact h i h1 h2
theorem q_nxt_r {v k a : Nat → Int} {m : Int} (hk : q_KR k) (h : q_nxt v k m a ≠ -1) : 0 ≤ q_nxt v k m a ∧ q_nxt v k m a < k 0 ∧ a (q_nxt v k m a).toNat = -1 := by
  rcases q_nxt_ok (v := v) (a := a) (m := m) hk with ⟨h1, h2, h3, -⟩ | ⟨h1, -⟩
  · exact ⟨h1, h2, q_rs_45 h3⟩
  · exact absurd h1 h
def q_ub (a : Nat → Int) (m : Int) : Prop := ∀ e : Int, 0 ≤ e → e ≤ 9 → -1 ≤ a e.toNat ∧ a e.toNat ≤ m
theorem q_ub_al {a : Nat → Int} {m : Int} (h : q_ub a m) (hm : m ≤ 600) : q_al a := fun e h1 h2 => by
  have := h e h1 h2
  exact ⟨this.1, by omega⟩
theorem q_a0_ub {a : Nat → Int} : q_ub (q_a0 a) 0 := by
  intro e h1 h2
  unfold q_a0
  (repeat' split) <;> omega
theorem m_pl_al {v k a : Nat → Int} {p : Int} (h : q_KR k) : q_al (q_pl v k p a) := by
  unfold q_pl
  refine q_fr_ind (f := q_plS v k p) (fun _ (b : Nat → Int) => q_al b) (by omega) (q_ub_al q_a0_ub (by omega)) ?_
  intro m b g1 g2 g3
  unfold q_plS
  by_cases e : q_aa k b
  · rw [q_if_t e]; exact g3
  · rw [q_if_f e]
    unfold q_mi q_sts
    have h0 := h.r0
    refine q_fr_ind (fun _ (b : Nat → Int) => q_al b) (by omega) ?_ ?_
    · refine q_fr_ind (f := q_enS k p m) (fun _ (b : Nat → Int) => q_al b) (by omega) g3 ?_
      intro s b s1 s2 s3
      have hs := h.sp s1 s2
      unfold q_enS
      by_cases c : b (k (212 + 4 * s + 1).toNat).toNat = -1 ∧ b (k (212 + 4 * s).toNat).toNat ≠ -1 ∧ m - b (k (212 + 4 * s).toNat).toNat = q_if (q_up p s) (k (212 + 4 * s + 3).toNat) (k (212 + 4 * s + 2).toNat)
      · rw [q_if_t c]; exact q_al_up s3 (by omega) (by omega)
      · rw [q_if_f c]; exact s3
    · intro s b s1 s2 s3
      show q_al (q_stp v k m b)
      unfold q_stp
      by_cases c : q_nxt v k m b = -1
      · rw [q_if_t c]; exact s3
      · rw [q_if_f c]
        exact q_al_up s3 (q_nxt_r h c).1 (by omega)
theorem q_pl_al {v k a : Nat → Int} {p : Int} (h : q_KR k) : q_al (q_pl v k p a) := m_pl_al h
abbrev q_kpP (k a : Nat → Int) (b : Int) : Prop := q_hld k b → a (k (52 + 4 * b + 1).toNat).toNat - a (k (52 + 4 * b).toNat).toNat ≤ k (52 + 4 * b + 2).toNat
noncomputable def q_fl (v k : Nat → Int) (p : Int) (a : Nat → Int) : Int := q_if (q_aa k (q_pl v k p a)) (q_if (q_all (q_kpP k (q_pl v k p a)) (k 1)) 45 98) 109
theorem q_fl_r {v k a : Nat → Int} {p : Int} : q_fl v k p a = 45 ∨ q_fl v k p a = 98 ∨ q_fl v k p a = 109 := by
  unfold q_fl
  by_cases h1 : q_aa k (q_pl v k p a)
  · rw [q_if_t h1]
    by_cases h2 : q_all (q_kpP k (q_pl v k p a)) (k 1)
    · rw [q_if_t h2]; omega
    · rw [q_if_f h2]; omega
  · rw [q_if_f h1]; omega
def q_kpl (k a : Nat → Int) (n : Int) : Nat → Int := fun j => if (j : Int) = 240 then k 0 else if 241 ≤ (j : Int) ∧ (j : Int) < 241 + n then a ((j : Int) - 241).toNat else k j
noncomputable def q_laS (a : Nat → Int) (e x : Int) : Int := q_if (x < a e.toNat) (a e.toNat) x
noncomputable def q_la (a : Nat → Int) (n : Int) : Int := q_fr (q_laS a) 0 n 0
noncomputable def q_kpI (v k : Nat → Int) (n : Int) (a : Nat → Int) : Nat → Int := q_fr (fun p a => q_pl v k p a) 0 n a
theorem q_kpI_s {v k a b : Nat → Int} {n : Int} (hn : 0 ≤ n) (hb : b = q_kpI v k n a) : q_pl v k n b = q_kpI v k (n + 1) a := by
  unfold q_kpI
  rw [q_fr_s hn, hb]
  rfl
abbrev q_ikP (v k a : Nat → Int) (p : Int) : Prop := q_fl v k p (q_kpI v k p a) = 45
noncomputable def q_lvS (k d : Nat → Int) (t x y : Int) (s : Int × Int) : Int × Int := q_if (x ≠ y ∧ pz_and (pz_shr t x) 1 ≠ 0 ∧ pz_and (pz_shr t y) 1 ≠ 0 ∧ s.1 < q_sl k d x y ∧ 0 ≤ d (10 * k (224 + 3 * x + 1).toNat + k (224 + 3 * y).toNat).toNat) (q_sl k d x y, 5 * x + y) s
noncomputable def q_lvX (k d : Nat → Int) (t x : Int) (s : Int × Int) : Int × Int := q_fr (q_lvS k d t x) 0 (k 3) s
noncomputable def q_lvF (k d : Nat → Int) (t n : Int) : Int × Int := q_fr (q_lvX k d t) 0 n (-1, -1)
noncomputable def q_lv (k d : Nat → Int) : Int := (q_lvF k d (q_st k d (q_pk k d) (k 3)) (k 3)).2
theorem q_lvS_t {k d : Nat → Int} {t x y mo be : Int} {s : Int × Int} (hy : 0 ≤ y) (hs : (mo, be) = q_fr (q_lvS k d t x) 0 y s) (h : x ≠ y ∧ pz_and (pz_shr t x) 1 ≠ 0 ∧ pz_and (pz_shr t y) 1 ≠ 0 ∧ mo < q_sl k d x y ∧ 0 ≤ d (10 * k (224 + 3 * x + 1).toNat + k (224 + 3 * y).toNat).toNat) : (q_sl k d x y, 5 * x + y) = q_fr (q_lvS k d t x) 0 (y + 1) s := by
  rw [q_fr_s hy, ← hs]
  unfold q_lvS
  rw [q_if_t h]
theorem q_lvS_f {k d : Nat → Int} {t x y mo be : Int} {s : Int × Int} (hy : 0 ≤ y) (hs : (mo, be) = q_fr (q_lvS k d t x) 0 y s) (h : ¬ (x ≠ y ∧ pz_and (pz_shr t x) 1 ≠ 0 ∧ pz_and (pz_shr t y) 1 ≠ 0 ∧ mo < q_sl k d x y ∧ 0 ≤ d (10 * k (224 + 3 * x + 1).toNat + k (224 + 3 * y).toNat).toNat)) : (mo, be) = q_fr (q_lvS k d t x) 0 (y + 1) s := by
  rw [q_fr_s hy, ← hs]
  unfold q_lvS
  rw [q_if_f h]
def q_lvT (k lf g : Nat → Int) : Prop := q_con k lf ∧ k 1 ≠ 40 ∧ q_pk k (q_dd k lf g) ≠ -1 ∧ q_lv k (q_dd k lf g) ≠ -1
noncomputable def q_lvK (k d : Nat → Int) : Nat → Int := q_tell k (k (224 + 3 * (q_lv k d % 5)).toNat) (k (224 + 3 * (q_lv k d / 5) + 1).toNat) 0 0
theorem q_lv_r {k d : Nat → Int} (hk : q_KR k) : q_lv k d = -1 ∨ (0 ≤ q_lv k d % 5 ∧ q_lv k d % 5 < k 3 ∧ 0 ≤ q_lv k d / 5 ∧ q_lv k d / 5 < k 3 ∧ 0 ≤ q_lv k d ∧ q_lv k d < 25) := by
  have h0 := hk.r0
  have key : (q_lvF k d (q_st k d (q_pk k d) (k 3)) (k 3)).2 = -1 ∨ (∃ x y : Int, 0 ≤ x ∧ x < k 3 ∧ 0 ≤ y ∧ y < k 3 ∧ (q_lvF k d (q_st k d (q_pk k d) (k 3)) (k 3)).2 = 5 * x + y) := by
    unfold q_lvF
    refine q_fr_ind (fun _ (s : Int × Int) => s.2 = -1 ∨ (∃ x y : Int, 0 ≤ x ∧ x < k 3 ∧ 0 ≤ y ∧ y < k 3 ∧ s.2 = 5 * x + y)) (by omega) (Or.inl rfl) ?_
    intro x s hx1 hx2 hs
    unfold q_lvX
    refine q_fr_ind (fun _ (s : Int × Int) => s.2 = -1 ∨ (∃ x y : Int, 0 ≤ x ∧ x < k 3 ∧ 0 ≤ y ∧ y < k 3 ∧ s.2 = 5 * x + y)) (by omega) hs ?_
    intro y s hy1 hy2 hs
    unfold q_lvS
    by_cases h : x ≠ y ∧ pz_and (pz_shr (q_st k d (q_pk k d) (k 3)) x) 1 ≠ 0 ∧ pz_and (pz_shr (q_st k d (q_pk k d) (k 3)) y) 1 ≠ 0 ∧ s.1 < q_sl k d x y ∧ 0 ≤ d (10 * k (224 + 3 * x + 1).toNat + k (224 + 3 * y).toNat).toNat
    · rw [q_if_t h]
      exact Or.inr ⟨x, y, hx1, hx2, hy1, hy2, rfl⟩
    · rw [q_if_f h]
      exact hs
  rcases key with h | ⟨x, y, h1, h2, h3, h4, h5⟩
  · exact Or.inl h
  · right
    show 0 ≤ q_lv k d % 5 ∧ _
    have h6 : q_lv k d = 5 * x + y := h5
    omega
