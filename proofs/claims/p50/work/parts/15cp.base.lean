/-! words and mathematics, each behind what it wants: chunk 16 -/
/-- from one such minute to the next, minute by minute -/
theorem q_pl_jump {v k a b c : Nat → Int} {p m n : Int} (hk : q_KR k) (hv : q_vb v) (hb : b = q_fr (q_plS v k p) 0 m a) (hu : q_ub b m) (hm : 0 ≤ m ∧ m ≤ 600) (hc : c = q_mi v k p m b) (hna : ¬ q_aa k b) (hn : n = q_nm v k p m c) : c = q_fr (q_plS v k p) 0 n a := by
  have h1 := q_nm_r (v := v) (p := p) (a := c) hk hm.2
  have h2 : c = q_fr (q_plS v k p) 0 (m + 1) a := by
    rw [q_fr_s hm.1, ← hb]
    unfold q_plS
    rw [q_if_f hna, hc]
  have hj := q_jump (p := p) hk hv (q_ub_al hu hm.2) hm (fun e g1 g2 => (hu e g1 g2).2)
  rw [← hc] at hj
  have key : ∀ d : Nat, m + 1 + d ≤ n → c = q_fr (q_plS v k p) 0 (m + 1 + d) a := by
    intro d
    induction d with
    | zero => intro _; rw [show m + 1 + ((0 : Nat) : Int) = m + 1 by omega]; exact h2
    | succ d ih =>
      intro hd
      rw [show m + 1 + ((d + 1 : Nat) : Int) = m + 1 + (d : Int) + 1 by omega, q_fr_s (by omega), ← ih (by omega)]
      unfold q_plS
      by_cases g : q_aa k c
      · rw [q_if_t g]
      · rw [q_if_f g, hj (m + 1 + d) (by omega) (by omega)]
  have h3 := key (n - (m + 1)).toNat (by omega)
  rw [show m + 1 + (((n - (m + 1)).toNat : Nat) : Int) = n by omega] at h3
  exact h3
theorem q_lw_dummy : True := trivial
theorem q_by1 {p q : Prop} (h : p ∧ q) : p := h.1
theorem q_by2 {p q : Prop} (h : p ∧ q) : q := h.2
/-- where all have started nothing happens -/
theorem q_mi_aa {v k a : Nat → Int} {p m : Int} (hk : q_KR k) (h : q_aa k a) : q_mi v k p m a = a := by
  have h0 := hk.r0
  have h1 : q_fr (q_enS k p m) 0 (k 2) a = a := by
    refine q_fr_ind (f := q_enS k p m) (fun _ y => y = a) (by omega) rfl ?_
    intro s y g1 g2 g3
    have h2 := hk.sp g1 g2
    have h3 := h (k (212 + 4 * s + 1).toNat) (by omega) (by omega)
    unfold q_enS
    rw [g3, q_if_f (fun q => h3 q.1)]
  unfold q_mi
  rw [h1]
  refine q_fr_ind (fun _ y => y = a) (by omega) rfl ?_
  intro s y g1 g2 g3
  rw [g3]
  unfold q_stp
  have h4 : q_nxt v k m a = -1 := q_nxt_is (Or.inr ⟨rfl, fun i g1 g2 => by
    unfold q_rs
    rw [q_if_t (h i g1 g2)]
    omega⟩)
  rw [q_if_t h4]
def q_NK (k n w d : Nat → Int) : Prop := n 0 = k 0 ∧ n 1 = pz_bi (q_con k (fun _ => 0)) ∧ (∃ r : Nat → Int, w = q_lay k (fun _ => 0) r) ∧ (q_con k (fun _ => 0) → q_nD k d (q_dd k (fun _ => 0) (fun _ => 0)) ∧ q_rng 100 d)
noncomputable def q_X0 (k : Nat → Int) : q_X := q_x0 k (fun _ => 0) (fun _ => 0) (fun _ => 0) (fun _ => 0)
def q_sen (k : Nat → Int) : Prop := q_seen k (fun _ => 0) (fun _ => 0) (fun _ => 0) (fun _ => 0)
noncomputable def q_rnd (k : Nat → Int) : Int := q_rds k (fun _ => 0) (fun _ => 0) (fun _ => 0) (fun _ => 0)
noncomputable def q_val (k : Nat → Int) : Nat → Int := (q_zX k (fun _ => 0) (fun _ => 0) (fun _ => 0) (fun _ => 0)).1
def q_RK (k m V U : Nat → Int) : Prop := m 1 = pz_bi (q_sen k) ∧ m 2 = q_rnd k ∧ (q_sen k → q_VU k (q_val k) V U)
def q_CK (k j c : Nat → Int) : Prop := ¬ q_con k (fun _ => 0) ∧ j 3 = q_cnt (q_kp k) (k 1) ∧ q_cfl k c (k 1)
def q_CI (k o n w d m V U j c : Nat → Int) : Prop := (o 7 = 0 ∨ (o 7 = 1 ∧ q_NK k n w d)) ∧ (o 8 = 0 ∨ (o 8 = 1 ∧ q_RK k m V U)) ∧ (o 9 = 0 ∨ (o 9 = 1 ∧ q_CK k j c))
/-- the class's state ahead of the round n -/
def q_RL (k : Nat → Int) (n : Int) (V U : Nat → Int) : Prop := q_VU k (q_rx k n (q_X0 k)).1 V U ∧ q_rng 100 V ∧ q_rng 30 U
def q_fn (k : Nat → Int) (n : Int) : Prop := ∀ i : Int, 0 ≤ i → i < n → q_fi k (q_rx k i (q_X0 k)) ∧ q_ha k (q_rx k i (q_X0 k))
theorem m_lay_rng {k lf r u : Nat → Int} (h : q_KR k) (hc : q_con k lf) : q_rng 100 (q_cls (k 0) (q_lay k lf r) u) := by
  have h0 := h.r0
  have m := m_cls_eq (u := u) (by omega) (m_R_lay (lf := lf) (g := fun _ => 0) (r := r) h) (m_con_eq.mpr hc)
  rw [m.1]
  intro n hn
  have e : n = (10 * ((n / 10 : Nat) : Int) + ((n % 10 : Nat) : Int)).toNat := by omega
  by_cases g : ((n / 10 : Nat) : Int) < k 0 ∧ ((n % 10 : Nat) : Int) < k 0
  · have a := m.2.2.1 ((n / 10 : Nat) : Int) ((n % 10 : Nat) : Int) (by omega) g.1 (by omega) g.2
    rw [← e] at a
    have b := m.2.2.2.2.2 n hn
    have v := q_N_v (x := q_ps (k 0) (q_net k lf (fun _ => 0)) n) (by omega)
    rw [a]
    exact v.2.2
  · have a := m.2.2.2.1 ((n / 10 : Nat) : Int) ((n % 10 : Nat) : Int) (by omega) (by omega) (by omega) (by omega) (by omega)
    rw [← e] at a
    rw [a]
    omega
theorem q_lay_rng {k lf r u : Nat → Int} (h : q_KR k) (hc : q_con k lf) : q_rng 100 (q_cls (k 0) (q_lay k lf r) u) := m_lay_rng h hc
theorem m_vi_up {k d v : Nat → Int} (h : q_KR k) : ∀ s e : Int, 0 ≤ s → s < k 2 → 0 ≤ e → e ≤ 9 → q_vi k d v (100 * (s + 1) + 10 * e + k (212 + 4 * s).toNat).toNat = q_if (¬ q_sta k (k (212 + 4 * s + 1).toNat) ∧ e = k (212 + 4 * s + 1).toNat) (-(k (212 + 4 * s + 3).toNat)) 1000000 := by
  have h0 := h.r0
  have key : ∀ s e : Int, 0 ≤ s → s < k 2 → 0 ≤ e → e ≤ 9 → q_vi k d v (100 * (s + 1) + 10 * e + k (212 + 4 * s).toNat).toNat = q_if (s < k 2 ∧ ¬ q_sta k (k (212 + 4 * s + 1).toNat) ∧ e = k (212 + 4 * s + 1).toNat) (-(k (212 + 4 * s + 3).toNat)) 1000000 := by
    unfold q_vi
    refine q_fr_ind (f := q_upS k) (fun i (f : Nat → Int) => ∀ s e : Int, 0 ≤ s → s < k 2 → 0 ≤ e → e ≤ 9 → f (100 * (s + 1) + 10 * e + k (212 + 4 * s).toNat).toNat = q_if (s < i ∧ ¬ q_sta k (k (212 + 4 * s + 1).toNat) ∧ e = k (212 + 4 * s + 1).toNat) (-(k (212 + 4 * s + 3).toNat)) 1000000) (by omega) ?_ ?_
    · intro s e s1 s2 e1 e2
      have hs := h.sp s1 s2
      rw [q_if_f (fun q => by omega)]
      unfold q_v0
      rw [if_pos (by omega), if_neg (by omega)]
    · intro i f i1 i2 hf s e s1 s2 e1 e2
      have hs := h.sp s1 s2
      have hi := h.sp i1 i2
      have hfs := hf s e s1 s2 e1 e2
      unfold q_upS
      by_cases g : q_sta k (k (212 + 4 * i + 1).toNat)
      · rw [q_if_t g, hfs]
        by_cases c : s < i ∧ ¬ q_sta k (k (212 + 4 * s + 1).toNat) ∧ e = k (212 + 4 * s + 1).toNat
        · rw [q_if_t c, q_if_t ⟨by omega, c.2⟩]
        · rw [q_if_f c, q_if_f]
          rintro ⟨a, b, b2⟩
          by_cases w : s = i
          · rw [w] at b; exact b g
          · exact c ⟨by omega, b, b2⟩
      · rw [q_if_f g]
        by_cases w : s = i
        · by_cases u : e = k (212 + 4 * i + 1).toNat
          · rw [w, u, pz_up_eq, q_if_t ⟨by omega, g, rfl⟩]
          · rw [w] at hfs ⊢
            rw [pz_up_ne (by omega), hfs, q_if_f (fun q => by omega), q_if_f (fun q => u q.2.2)]
        · rw [pz_up_ne (by omega), hfs]
          by_cases c : s < i ∧ ¬ q_sta k (k (212 + 4 * s + 1).toNat) ∧ e = k (212 + 4 * s + 1).toNat
          · rw [q_if_t c, q_if_t ⟨by omega, c.2⟩]
          · rw [q_if_f c, q_if_f (fun q => c ⟨by omega, q.2⟩)]
  intro s e s1 s2 e1 e2
  rw [key s e s1 s2 e1 e2]
  by_cases c : ¬ q_sta k (k (212 + 4 * s + 1).toNat) ∧ e = k (212 + 4 * s + 1).toNat
  · rw [q_if_t c, q_if_t ⟨s2, c⟩]
  · rw [q_if_f c, q_if_f (fun q => c q.2)]
theorem m_tu_at {k u : Nat → Int} (h : q_KR k) : (∀ s e : Int, 0 ≤ s → s < k 2 → 0 ≤ e → e ≤ 9 → q_tu k u (10 * s + e).toNat = q_if (¬ q_sta k (k (212 + 4 * s + 1).toNat) ∧ e = k (212 + 4 * s + 1).toNat) (-(k (212 + 4 * s + 3).toNat)) 1000000000) ∧ q_rng 30 (q_tu k u) := by
  have h0 := h.r0
  have key : (∀ s e : Int, 0 ≤ s → s < k 2 → 0 ≤ e → e ≤ 9 → q_tu k u (10 * s + e).toNat = q_if (s < k 2 ∧ ¬ q_sta k (k (212 + 4 * s + 1).toNat) ∧ e = k (212 + 4 * s + 1).toNat) (-(k (212 + 4 * s + 3).toNat)) 1000000000) ∧ q_rng 30 (q_tu k u) := by
    unfold q_tu
    refine q_fr_ind (f := q_tuS k) (fun i (f : Nat → Int) => (∀ s e : Int, 0 ≤ s → s < k 2 → 0 ≤ e → e ≤ 9 → f (10 * s + e).toNat = q_if (s < i ∧ ¬ q_sta k (k (212 + 4 * s + 1).toNat) ∧ e = k (212 + 4 * s + 1).toNat) (-(k (212 + 4 * s + 3).toNat)) 1000000000) ∧ q_rng 30 f) (by omega) ?_ ?_
    · refine ⟨?_, ?_⟩
      · intro s e s1 s2 e1 e2
        rw [q_if_f (fun q => by omega), if_pos (by omega)]
      · intro j hj
        show -1000000000 ≤ (if j < 30 then (1000000000 : Int) else u j) ∧ (if j < 30 then (1000000000 : Int) else u j) ≤ 1000000000
        rw [if_pos hj]
        omega
    · intro i f i1 i2 hf
      have hi := h.sp i1 i2
      unfold q_tuS
      refine ⟨?_, ?_⟩
      · intro s e s1 s2 e1 e2
        have hs := h.sp s1 s2
        have hfs := hf.1 s e s1 s2 e1 e2
        by_cases g : q_sta k (k (212 + 4 * i + 1).toNat)
        · rw [q_if_t g, hfs]
          by_cases c : s < i ∧ ¬ q_sta k (k (212 + 4 * s + 1).toNat) ∧ e = k (212 + 4 * s + 1).toNat
          · rw [q_if_t c, q_if_t ⟨by omega, c.2⟩]
          · rw [q_if_f c, q_if_f]
            rintro ⟨a, b, b2⟩
            by_cases w : s = i
            · rw [w] at b; exact b g
            · exact c ⟨by omega, b, b2⟩
        · rw [q_if_f g]
          by_cases w : s = i
          · by_cases u : e = k (212 + 4 * i + 1).toNat
            · rw [w, u, pz_up_eq, q_if_t ⟨by omega, g, rfl⟩]
            · rw [w] at hfs ⊢
              rw [pz_up_ne (by omega), hfs, q_if_f (fun q => by omega), q_if_f (fun q => u q.2.2)]
          · rw [pz_up_ne (by omega), hfs]
            by_cases c : s < i ∧ ¬ q_sta k (k (212 + 4 * s + 1).toNat) ∧ e = k (212 + 4 * s + 1).toNat
            · rw [q_if_t c, q_if_t ⟨by omega, c.2⟩]
            · rw [q_if_f c, q_if_f (fun q => c ⟨by omega, q.2⟩)]
      · intro j hj
        have a := hf.2 j hj
        by_cases g : q_sta k (k (212 + 4 * i + 1).toNat)
        · rw [q_if_t g]; exact a
        · rw [q_if_f g, pz_up_at]
          split <;> omega
  refine ⟨?_, key.2⟩
  intro s e s1 s2 e1 e2
  rw [key.1 s e s1 s2 e1 e2]
  by_cases c : ¬ q_sta k (k (212 + 4 * s + 1).toNat) ∧ e = k (212 + 4 * s + 1).toNat
  · rw [q_if_t c, q_if_t ⟨s2, c⟩]
  · rw [q_if_f c, q_if_f (fun q => c q.2)]
theorem m_RL_0 {k d V U : Nat → Int} (h : q_KR k) (hd : q_nD k d (q_dd k (fun _ => 0) (fun _ => 0))) (hr : q_rng 100 d) : q_RL k 0 (q_cp 100 d V) (q_tu k U) := by
  have h0 := h.r0
  have e : (q_rx k 0 (q_X0 k)).1 = q_vi k (q_dd k (fun _ => 0) (fun _ => 0)) (fun _ => 0) := by
    have e1 : q_rx k 0 (q_X0 k) = q_X0 k := q_fr_0 (Int.le_refl 0)
    rw [e1]
    rfl
  have t := m_tu_at (u := U) h
  refine ⟨⟨?_, ?_⟩, ?_, t.2⟩
  · intro i j i1 i2 j1 j2
    rw [e, m_vi_low h _ (by omega), q_cp_full (by omega), hd i j i1 i2 j1 j2]
    congr 2
    omega
  · intro s x s1 s2 x1 x2
    rw [e, m_vi_up h s x s1 s2 x1 (by omega), t.1 s x s1 s2 x1 (by omega)]
    have hs := h.sp s1 s2
    by_cases c : ¬ q_sta k (k (212 + 4 * s + 1).toNat) ∧ x = k (212 + 4 * s + 1).toNat
    · rw [q_if_t c, q_if_t c]
      unfold q_N
      rw [if_neg (by omega)]
    · rw [q_if_f c, q_if_f c]
      rfl
  · intro j hj
    rw [q_cp_full hj]
    exact hr j hj
theorem q_RL_0 {k d V U : Nat → Int} (h : q_KR k) (hc : q_con k (fun _ => 0)) (hd : q_nD k d (q_dd k (fun _ => 0) (fun _ => 0))) (hr : q_rng 100 d) : q_RL k 0 (q_cp 100 d V) (q_tu k U) := m_RL_0 h hd hr
def m_R3 (z A : Int) (D w r : Nat → Int) : Prop := m_T z w r ∧ m_O z w ∧ m_F D 10800 A w ∧ m_OC z r
theorem m_chain3 {z A : Int} {D w r : Nat → Int} (hz : 1 ≤ z ∧ z ≤ 10) (hD : m_DF z D) (hA : 10800 ≤ A ∧ A ≤ 1000000) (h : m_R3 z A D w r) : ∀ c : Nat, (c : Int) ≤ 10 → (∀ c' : Int, 0 ≤ c' → c' < c → q_dg (q_ps c' w)) → m_O z (q_ps c w) ∧ m_v3 (q_ps c w) ∧ ((c : Int) ≤ z → m_T z (q_ps c w) (q_cI z c r) ∧ m_OC z (q_cI z c r)) := by
  intro c hc hd
  refine ⟨?_, m_F_v3 hD hA ⟨by omega, hc⟩ (m_F_ps hD hA.1 h.2.2.1 c hc hd), ?_⟩
  · induction c with
    | zero =>
      rw [show q_ps ((0 : Nat) : Int) w = w from q_fr_0 (by omega)]
      exact h.2.1
    | succ c ih =>
      have ih1 := ih (by omega) (fun c' g1 g2 => hd c' g1 (by omega))
      have hdc := hd c (by omega) (by omega) c (by omega) (by omega)
      rw [show (11 * (c : Int)).toNat = (10 * (c : Int) + c).toNat by omega] at hdc
      rw [show ((c + 1 : Nat) : Int) = (c : Int) + 1 by omega, q_ps_s (by omega), m_ph_eq (by omega) hdc]
      intro i j i1 i2 j1 j2 g
      have g1 := ih1 i j i1 i2 j1 j2 g
      rw [m_sh_at ⟨i1, i2⟩ ⟨j1, j2⟩]
      by_cases e : z ≤ i
      · by_cases ec : i = c
        · rw [if_neg (by rw [← ec] at hdc ⊢; omega)]; exact g1
        · have g2 := ih1 i c i1 i2 (by omega) (by omega) (Or.inl e)
          rw [if_neg ec] at g2
          rw [if_neg (by omega)]
          exact g1
      · by_cases ec : (c : Int) = j
        · rw [if_neg (by rw [ec] at hdc ⊢; omega)]; exact g1
        · have g2 := ih1 c j (by omega) (by omega) j1 j2 (by omega)
          rw [if_neg ec] at g2
          rw [if_neg (by omega)]
          exact g1
  · induction c with
    | zero =>
      intro _
      rw [show q_ps ((0 : Nat) : Int) w = w from q_fr_0 (by omega), show q_cI z ((0 : Nat) : Int) r = r from q_fr_0 (by omega)]
      exact ⟨h.1, h.2.2.2⟩
    | succ c ih =>
      intro hcz
      have hd' : ∀ c' : Int, 0 ≤ c' → c' < c → q_dg (q_ps c' w) := fun c' g1 g2 => hd c' g1 (by omega)
      obtain ⟨t1, t2⟩ := ih (by omega) hd' (by omega)
      have v := m_F_v3 hD hA ⟨by omega, by omega⟩ (m_F_ps hD hA.1 h.2.2.1 c (by omega) hd')
      have hdc := hd c (by omega) (by omega) c (by omega) (by omega)
      rw [show (11 * (c : Int)).toNat = (10 * (c : Int) + c).toNat by omega] at hdc
      rw [show ((c + 1 : Nat) : Int) = (c : Int) + 1 by omega, q_ps_s (by omega), m_ph_eq (by omega) hdc, q_cI_s (by omega)]
      refine ⟨?_, ?_⟩
      · intro i j i1 i2 j1 j2
        have hc2 : 0 ≤ (c : Int) ∧ (c : Int) < z := by omega
        have a1 := t1 i c i1 i2 hc2.1 hc2.2
        have a2 := t1 c j hc2.1 hc2.2 j1 j2
        have a3 := t1 i j i1 i2 j1 j2
        have b1 := v (10 * i + c).toNat (by omega)
        have b2 := v (10 * c + j).toNat (by omega)
        have b3 := v (10 * i + j).toNat (by omega)
        have n1 := q_N_v (x := q_ps c w (10 * i + c).toNat) (by omega)
        have n2 := q_N_v (x := q_ps c w (10 * c + j).toNat) (by omega)
        have n3 := q_N_v (x := q_ps c w (10 * i + j).toNat) (by omega)
        rw [m_sh_at (by omega) (by omega)]
        by_cases g : q_ps c w (10 * i + c).toNat < 1000000 ∧ q_ps c w (10 * c + j).toNat < 1000000 ∧ q_ps c w (10 * i + c).toNat + q_ps c w (10 * c + j).toNat < q_ps c w (10 * i + j).toNat
        · rw [if_pos g]
          have n4 := q_N_v (x := q_ps c w (10 * i + c).toNat + q_ps c w (10 * c + j).toNat) (by omega)
          have e1 : q_cI z c r (10 * i + c).toNat = q_ps c w (10 * i + c).toNat := by omega
          have e2 : q_cI z c r (10 * c + j).toNat = q_ps c w (10 * c + j).toNat := by omega
          rw [q_cs_y hz.2 ⟨i1, i2⟩ ⟨j1, j2⟩ (by omega), e1, e2]
          omega
        · rw [if_neg g, q_cs_n i1 (by omega) (by omega)]
          exact a3
      · intro i j i1 i2 j1 j2 e
        rw [q_cs_n i1 (by omega) (fun q => by omega)]
        exact t2 i j i1 i2 j1 j2 e
theorem m_okc_c3 {z A : Int} {D w r : Nat → Int} (hz : 1 ≤ z ∧ z ≤ 10) (hD : m_DF z D) (hA : 10800 ≤ A ∧ A ≤ 1000000) (h : m_R3 z A D w r) {c : Int} (hc : 0 ≤ c ∧ c ≤ z) (hd : ∀ c' : Int, 0 ≤ c' → c' < c → q_dg (q_ps c' w)) : q_okc z (q_cI z c r) ↔ q_dg (q_ps c w) := by
  have m := m_chain3 hz hD hA h c.toNat (by omega) (fun c' g1 g2 => hd c' g1 (by omega))
  rw [Int.toNat_of_nonneg hc.1] at m
  exact m_okc_dg hz.2 (m.2.2 hc.2).1 m.1 (fun n hn => by have := m.2.1 n hn; omega)
theorem m_okc_all3 {z A : Int} {D w r : Nat → Int} (hz : 1 ≤ z ∧ z ≤ 10) (hD : m_DF z D) (hA : 10800 ≤ A ∧ A ≤ 1000000) (h : m_R3 z A D w r) {m : Int} (hm : m ≤ z) (hk : ∀ c : Int, 0 ≤ c → c ≤ m → q_okc z (q_cI z c r)) : ∀ c : Int, 0 ≤ c → c ≤ m → q_dg (q_ps c w) := by
  have key : ∀ n : Nat, (n : Int) ≤ m → q_dg (q_ps n w) := by
    intro n
    induction n using Nat.strongRecOn with
    | _ n ih =>
      intro hn
      exact (m_okc_c3 hz hD hA h (c := n) (by omega) (fun c' g1 g2 => by
        have := ih c'.toNat (by omega) (by omega)
        rw [Int.toNat_of_nonneg g1] at this
        exact this)).mp (hk n (by omega) hn)
  intro c h1 h2
  have := key c.toNat (by omega)
  rw [Int.toNat_of_nonneg h1] at this
  exact this
theorem m_dg_up3 {z A : Int} {D w r : Nat → Int} (hz : 1 ≤ z ∧ z ≤ 10) (hD : m_DF z D) (hA : 10800 ≤ A ∧ A ≤ 1000000) (h : m_R3 z A D w r) (hk : ∀ c : Int, 0 ≤ c → c ≤ z → q_dg (q_ps c w)) : ∀ d : Nat, z + d ≤ 10 → q_ps (z + d) w = q_ps z w := by
  have m := m_chain3 hz hD hA h z.toNat (by omega) (fun c' g1 g2 => hk c' g1 (by omega))
  rw [Int.toNat_of_nonneg (by omega)] at m
  intro d
  induction d with
  | zero => intro _; rw [show z + ((0 : Nat) : Int) = z by omega]
  | succ d ih =>
    intro hd
    have ih1 := ih (by omega)
    have hz0 := m.1 (z + d) (z + d) (by omega) (by omega) (by omega) (by omega) (by omega)
    rw [if_pos rfl] at hz0
    rw [show z + ((d + 1 : Nat) : Int) = z + (d : Int) + 1 by omega, q_ps_s (by omega), ih1, m_ph_eq (by omega) (by omega), m_sh_id ⟨by omega, by omega, by omega⟩ m.1]
theorem m_R3_cp {z A : Int} {D w r u : Nat → Int} (hz : z ≤ 10) (h : m_R3 z A D w r) : m_R3 z A D w (q_cp 100 r u) := by
  obtain ⟨h1, h2, h3, h5⟩ := h
  refine ⟨?_, h2, h3, ?_⟩
  · intro i j i1 i2 j1 j2
    rw [q_cp_full (by omega)]
    exact h1 i j i1 i2 j1 j2
  · intro i j i1 i2 j1 j2 c
    rw [q_cp_full (by omega)]
    exact h5 i j i1 i2 j1 j2 c
theorem m_snd_ok3 {z A : Int} {D w W u : Nat → Int} (hz : 1 ≤ z ∧ z ≤ 10) (hD : m_DF z D) (hA : 10800 ≤ A ∧ A ≤ 1000000) (h0 : m_R3 z A D w W) : q_snd z W u ↔ q_ok w := by
  have h := m_R3_cp (u := u) hz.2 h0
  have hs := q_cz_ok (z := z) (r := q_cp 100 W u) (by omega)
  unfold q_snd
  constructor
  · intro q
    have e : q_cz z (q_cp 100 W u) = z := by
      rcases hs.2.2.2 with g | g
      · exact g
      · exact absurd q g
    have hk : ∀ c : Int, 0 ≤ c → c ≤ z → q_okc z (q_cI z c (q_cp 100 W u)) := by
      intro c c1 c2
      by_cases g : c = z
      · rw [g, ← e]; rw [e] at q ⊢; exact q
      · exact hs.2.2.1 c c1 (by omega)
    have hd := m_okc_all3 hz hD hA h (Int.le_refl z) hk
    intro c c1 c2
    by_cases g : c + 1 ≤ z
    · exact hd (c + 1) (by omega) g
    · have hu := m_dg_up3 hz hD hA h hd (c + 1 - z).toNat (by omega)
      rw [show z + (((c + 1 - z).toNat : Nat) : Int) = c + 1 by omega] at hu
      rw [hu]
      exact hd z (by omega) (Int.le_refl z)
  · intro q
    have hd : ∀ c : Int, 0 ≤ c → c ≤ 10 → q_dg (q_ps c w) := by
      intro c h1 h2
      by_cases g : c = 0
      · rw [g]; exact m_ok_dg0 q
      · have := q (c - 1) (by omega) (by omega)
        rw [show c - 1 + 1 = c by omega] at this
        exact this
    have hk : ∀ c : Int, 0 ≤ c → c ≤ z → q_okc z (q_cI z c (q_cp 100 W u)) := fun c c1 c2 => (m_okc_c3 hz hD hA h ⟨c1, c2⟩ (fun c' g1 g2 => hd c' g1 (by omega))).mpr (hd c c1 (by omega))
    exact hk _ hs.1 hs.2.1
