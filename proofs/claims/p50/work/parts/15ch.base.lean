/-! words and mathematics, each behind what it wants: chunk 8 -/
theorem m_rd_ml {k a v : Nat → Int} (hk : q_KR k) (ha : m_A 400 a v) : m_ml v (m_Sv k v) (q_rd k a v) := by
  have h0 := hk.r0
  refine m_ml_iff (fun n w => ?_) (m_stp_rd (k := k) (a := a) v _ v m_ml_0)
  constructor
  · rintro (q | (⟨f, f1, f2, c, c1, c2, g1, q, q1, q2, t, t1, t2, g2, g3, g4⟩ | ⟨s, s1, s2, so, e, e1, e2, ((⟨⟨g1, g2⟩, g3, g4⟩ | ⟨o, o1, o2, ⟨g1, g2⟩, g3, g4⟩) | ⟨⟨g1, g2⟩, g3, g4⟩)⟩))
    · exact q.elim
    · rw [ha _ (by omega), m_z0] at g1
      rw [ha _ (by omega)] at g2
      rw [ha _ (by omega), m_z0, ha _ (by omega)] at g4
      by_cases z : q = 0
      · rw [z, m_z0] at g2 g3 g4
        exact Or.inl ⟨f, c, t, by omega, by omega, by omega, g1, g2, g3, g4⟩
      · rw [show q = q - 1 + 1 by omega] at g2 g3 g4
        exact Or.inr (Or.inl ⟨q - 1, f, c, t, by omega, by omega, by omega, by omega, g1, g2, g3, g4⟩)
    · have hs := hk.sp s1 s2
      rw [ha _ (by omega), m_z0] at g2
      rw [m_z0] at g3
      rw [ha _ (by omega), m_z0] at g4
      exact Or.inr (Or.inr (Or.inl ⟨s, e, ⟨s1, s2⟩, so, by omega, g1, g2, g3, g4⟩))
    · have hs := hk.sp s1 s2
      rw [ha _ (by omega)] at g2 g4
      exact Or.inr (Or.inr (Or.inr (Or.inl ⟨s, o, e, ⟨s1, s2⟩, so, ⟨o1, o2⟩, by omega, g1, g2, g3, g4⟩)))
    · have hs := hk.sp s1 s2
      rw [ha _ (by omega)] at g1 g2 g4
      rw [m_z0] at g3
      exact Or.inr (Or.inr (Or.inr (Or.inr ⟨s, e, ⟨s1, s2⟩, so, by omega, g1, g2, g3, g4⟩)))
  · rintro (⟨f, c, t, f1, c1, t1, g1, g2, g3, g4⟩ | ⟨s, f, c, t, s1, f1, c1, t1, g1, g2, g3, g4⟩ | ⟨s, e, s1, so, e1, g1, g2, g3, g4⟩ | ⟨s, o, e, s1, so, o1, e1, g1, g2, g3, g4⟩ | ⟨s, e, s1, so, e1, g1, g2, g3, g4⟩)
    · refine Or.inr (Or.inl ⟨f, by omega, by omega, c, by omega, by omega, ?_, 0, by omega, by omega, t, by omega, by omega, ?_, ?_, ?_⟩)
      · rw [ha _ (by omega), m_z0]; exact g1
      · rw [ha _ (by omega), m_z0]; exact g2
      · rw [m_z0]; exact g3
      · rw [ha _ (by omega), ha _ (by omega), m_z0, m_z0]; exact g4
    · refine Or.inr (Or.inl ⟨f, by omega, by omega, c, by omega, by omega, ?_, s + 1, by omega, by omega, t, by omega, by omega, ?_, g3, ?_⟩)
      · rw [ha _ (by omega), m_z0]; exact g1
      · rw [ha _ (by omega)]; exact g2
      · rw [ha _ (by omega), ha _ (by omega), m_z0]; exact g4
    · have hs := hk.sp s1.1 s1.2
      refine Or.inr (Or.inr ⟨s, s1.1, s1.2, so, e, by omega, by omega, Or.inl (Or.inl ⟨⟨g1, ?_⟩, ?_, ?_⟩)⟩)
      · rw [ha _ (by omega), m_z0]; exact g2
      · rw [m_z0]; exact g3
      · rw [ha _ (by omega), m_z0]; exact g4
    · have hs := hk.sp s1.1 s1.2
      refine Or.inr (Or.inr ⟨s, s1.1, s1.2, so, e, by omega, by omega, Or.inl (Or.inr ⟨o, o1.1, o1.2, ⟨g1, ?_⟩, g3, ?_⟩)⟩)
      · rw [ha _ (by omega)]; exact g2
      · rw [ha _ (by omega)]; exact g4
    · have hs := hk.sp s1.1 s1.2
      refine Or.inr (Or.inr ⟨s, s1.1, s1.2, so, e, by omega, by omega, Or.inr ⟨⟨?_, ?_⟩, ?_, ?_⟩⟩)
      · rw [ha _ (by omega)]; exact g1
      · rw [ha _ (by omega)]; exact g2
      · rw [m_z0]; exact g3
      · rw [ha _ (by omega)]; exact g4
theorem m_J_mono {k D v : Nat → Int} {m a m' a' : Int} (hk : q_KR k) (hD : m_DF (k 0) D) (hm : m ≤ m') (ha : a ≤ a') (h : m_J k D m a v) : m_J k D m' a' v := by
  have h0 := hk.r0
  refine ⟨m_F_mono hD hm ha h.1, h.2.1, ?_, h.2.2.2⟩
  intro s i t s1 s2 i1 i2 t1 t2
  rcases h.2.2.1 s i t s1 s2 i1 i2 t1 t2 with q | ⟨⟨q1, q2, q3⟩, q4, q5, q6⟩
  · exact Or.inl q
  · have sp := hk.sp s1 q1
    have l := (m_lev_le hD (i := i) (j := k (212 + 4 * s + 1).toNat) ⟨i1, i2⟩ (by omega) q4).1
    have b := m_be_mono (m := m) (a := a) (m' := m') (a' := a') (d := m_lev D i - m_lev D (k (212 + 4 * s + 1).toNat)) hm ha (by omega)
    exact Or.inr ⟨⟨q1, q2, q3⟩, q4, q5, by omega⟩
/-- a round -/
theorem m_J_s {k D v a9 : Nat → Int} {m a : Int} (hk : q_KR k) (hD : m_DF (k 0) D) (hS : m_DS k D) (hm : 0 ≤ m ∧ m ≤ a ∧ a ≤ 1000000) (h : m_J k D m a v) (ha9 : m_A 400 a9 v) : m_J k D (2 * m) (a + m) (q_rd k a9 v) := by
  have h0 := hk.r0
  have ml := m_rd_ml hk ha9
  have hh := m_J_mono (m' := 2 * m) (a' := a + m) hk hD (by omega) (by omega) h
  obtain ⟨j1, j2, j3, j4⟩ := h
  -- the upper edge from i over the span's end
  have up : ∀ s i : Int, 0 ≤ s → s < k 2 → ¬ q_sta k (k (212 + 4 * s + 1).toNat) → 0 ≤ i → i ≤ 9 → D (10 * i + k (212 + 4 * s + 1).toNat).toNat < 1000000 → q_rd k a9 v (100 * (s + 1) + 10 * i + k (212 + 4 * s).toNat).toNat ≤ D (10 * i + k (212 + 4 * s + 1).toNat).toNat - k (212 + 4 * s + 3).toNat := by
    intro s i s1 s2 so i1 i2 hd
    have sp := hk.sp s1 s2
    have f := j1 i (k (212 + 4 * s + 1).toNat) i1 i2 (by omega) (by omega)
    have u := j4 s s1 s2 so
    have c := (ml (100 * (s + 1) + 10 * i + k (212 + 4 * s).toNat).toNat).2.1 (v (10 * i + k (212 + 4 * s + 1).toNat).toNat + v (100 * (s + 1) + 10 * k (212 + 4 * s + 1).toNat + k (212 + 4 * s).toNat).toNat) (Or.inr (Or.inl ⟨s, i, k (212 + 4 * s + 1).toNat, k (212 + 4 * s).toNat, ⟨s1, s2⟩, ⟨i1, i2⟩, by omega, by omega, by omega, by omega, rfl, rfl⟩))
    omega
  refine ⟨?_, ?_, ?_, ?_⟩
  · intro i j i1 i2 j1' j2'
    have f := hh.1 i j i1 i2 j1' j2'
    obtain ⟨c1, c2, c3⟩ := ml (10 * i + j).toNat
    refine ⟨by omega, fun q => ?_⟩
    rcases c3 with c3 | c3
    · rw [c3] at q ⊢
      exact f.2 q
    · rcases c3 with ⟨f9, c, t, f1, cc, t1, g1, g2, g3, g4⟩ | ⟨s, f9, c, t, s1, f1, cc, t1, g1, g2, g3, g4⟩ | ⟨s, e, s1, so, e1, g1, g2, g3, g4⟩ | ⟨s, o, e, s1, so, o1, e1, g1, g2, g3, g4⟩ | ⟨s, e, s1, so, e1, g1, g2, g3, g4⟩
      · have e1 : f9 = i := by omega
        have e2 : t = j := by omega
        rw [e1] at g1 g4
        rw [e2] at g2 g4
        have b := m_F_r hD ⟨hm.1, hm.2.1⟩ j1 (n := (10 * i + c).toNat) (by omega)
        obtain ⟨p1, p2⟩ := (j1 i c i1 i2 cc.1 cc.2).2 (by omega)
        obtain ⟨r1, r2⟩ := (j1 c j cc.1 cc.2 j1' j2').2 g2
        have l1 := (m_lev_le hD ⟨i1, i2⟩ cc p1).1
        have l2 := (m_lev_le hD cc ⟨j1', j2'⟩ r1).1
        have x := m_be_add hm.1 (show 0 ≤ a by omega) (d := m_lev D i - m_lev D c) (e := m_lev D c - m_lev D j) (by omega) (by omega)
        rw [show m_lev D i - m_lev D c + (m_lev D c - m_lev D j) = m_lev D i - m_lev D j by omega] at x
        exact ⟨m_DF_tr hD ⟨i1, i2⟩ cc ⟨j1', j2'⟩ p1 r1, by omega⟩
      · exfalso; omega
      · have sp := hk.sp s1.1 s1.2
        have lv := m_lev_sp hk hD hS s1.1 s1.2
        have ds := hS s s1.1 s1.2
        have e2 : k (212 + 4 * s).toNat = i := by omega
        have e3 : e = j := by omega
        rw [e2] at lv ds
        rw [e3] at g2 g4
        obtain ⟨p1, p2⟩ := (hh.1 (k (212 + 4 * s + 1).toNat) j (by omega) (by omega) j1' j2').2 (by omega)
        rw [← lv] at p2
        exact ⟨m_DF_tr hD ⟨i1, i2⟩ (by omega) ⟨j1', j2'⟩ ds.1 p1, by omega⟩
      · exfalso
        have sp := hk.sp s1.1 s1.2
        omega
      · have sp := hk.sp s1.1 s1.2
        have lv := m_lev_sp hk hD hS s1.1 s1.2
        have ds := hS s s1.1 s1.2
        have e2 : k (212 + 4 * s).toNat = j := by omega
        have e3 : e = i := by omega
        rw [e3] at g1 g2 g4
        rcases hh.2.2.1 s i (k (212 + 4 * s).toNat) s1.1 (by omega) i1 i2 (by omega) (by omega) with q9 | ⟨q1, q4, q5, q6⟩
        · exfalso; omega
        · rw [← lv, e2] at q6
          rw [e2] at ds g4
          exact ⟨m_DF_tr hD ⟨i1, i2⟩ (by omega) ⟨j1', j2'⟩ q4 ds.2, by omega⟩
  · intro i i1 i2
    obtain ⟨c1, c2, c3⟩ := ml (10 * i + i).toNat
    rcases c3 with c3 | c3
    · rw [c3]; exact j2 i i1 i2
    · rcases c3 with ⟨f9, c, t, f1, cc, t1, g1, g2, g3, g4⟩ | ⟨s, f9, c, t, s1, f1, cc, t1, g1, g2, g3, g4⟩ | ⟨s, e, s1, so, e1, g1, g2, g3, g4⟩ | ⟨s, o, e, s1, so, o1, e1, g1, g2, g3, g4⟩ | ⟨s, e, s1, so, e1, g1, g2, g3, g4⟩
      · have e1 : f9 = i := by omega
        have e2 : t = i := by omega
        rw [e1] at g1 g4
        rw [e2] at g2 g4
        have b := m_F_r hD ⟨hm.1, hm.2.1⟩ j1 (n := (10 * i + c).toNat) (by omega)
        have p1 := ((j1 i c (by omega) i2 cc.1 cc.2).2 (by omega)).1
        have o := hD.2.2.2 i c (by omega) i2 cc.1 cc.2 (Or.inl i1)
        by_cases ec : i = c
        · rw [← ec] at g4
          rw [g4, j2 i i1 i2]
          rfl
        · rw [if_neg ec] at o
          omega
      · exfalso; omega
      · exfalso
        have sp := hk.sp s1.1 s1.2
        omega
      · exfalso
        have sp := hk.sp s1.1 s1.2
        omega
      · exfalso
        have sp := hk.sp s1.1 s1.2
        omega
  · intro s i t s1 s2 i1 i2 t1 t2
    obtain ⟨c1, c2, c3⟩ := ml (100 * (s + 1) + 10 * i + t).toNat
    have old := hh.2.2.1 s i t s1 s2 i1 i2 t1 t2
    rcases c3 with c3 | c3
    · rw [c3]; exact old
    · rcases c3 with ⟨f9, c, t9, f1, cc, t3, g1, g2, g3, g4⟩ | ⟨s9, f9, c, t9, s3, f1, cc, t3, g1, g2, g3, g4⟩ | ⟨s9, e, s3, so, e1, g1, g2, g3, g4⟩ | ⟨s9, o, e, s3, so, o1, e1, g1, g2, g3, g4⟩ | ⟨s9, e, s3, so, e1, g1, g2, g3, g4⟩
      · exfalso; omega
      · have e1 : s9 = s := by omega
        have e2 : f9 = i := by omega
        have e3 : t9 = t := by omega
        rw [e2] at g1 g4
        rw [e1, e3] at g2 g4
        rw [e1] at s3
        have sp := hk.sp s3.1 s3.2
        rcases j3 s c t s1 s2 cc.1 cc.2 t1 t2 with q | ⟨⟨q1, q2, q3⟩, q4, q5, q6⟩
        · exfalso; omega
        · have b := m_F_r hD ⟨hm.1, hm.2.1⟩ j1 (n := (10 * i + c).toNat) (by omega)
          obtain ⟨p1, p2⟩ := (j1 i c i1 i2 cc.1 cc.2).2 (by omega)
          have dt := m_DF_tr hD ⟨i1, i2⟩ cc (show 0 ≤ k (212 + 4 * s + 1).toNat ∧ k (212 + 4 * s + 1).toNat ≤ 9 by omega) p1 q4
          have l1 := (m_lev_le hD ⟨i1, i2⟩ cc p1).1
          have l2 := (m_lev_le hD cc (show 0 ≤ k (212 + 4 * s + 1).toNat ∧ k (212 + 4 * s + 1).toNat ≤ 9 by omega) q4).1
          have x := m_be_add hm.1 (show 0 ≤ a by omega) (d := m_lev D i - m_lev D c) (e := m_lev D c - m_lev D (k (212 + 4 * s + 1).toNat)) (by omega) (by omega)
          rw [show m_lev D i - m_lev D c + (m_lev D c - m_lev D (k (212 + 4 * s + 1).toNat)) = m_lev D i - m_lev D (k (212 + 4 * s + 1).toNat) by omega] at x
          have u := up s i s1 q1 q2 i1 i2 dt
          rw [← q3] at u
          exact Or.inr ⟨⟨q1, q2, q3⟩, dt, u, by omega⟩
      · exfalso
        have sp := hk.sp s3.1 s3.2
        omega
      · have sp := hk.sp s3.1 s3.2
        have lv := m_lev_sp hk hD hS s3.1 s3.2
        have ds := hS s9 s3.1 s3.2
        have e5 : o = s := by omega
        have e2 : k (212 + 4 * s9).toNat = i := by omega
        have e3 : e = t := by omega
        rw [e5, e3] at g2 g4
        rw [e5] at o1
        have sp2 := hk.sp o1.1 o1.2
        rw [e2] at lv ds
        rcases hh.2.2.1 s (k (212 + 4 * s9 + 1).toNat) t s1 s2 (by omega) (by omega) t1 t2 with q | ⟨⟨q1, q2, q3⟩, q4, q5, q6⟩
        · exfalso; omega
        · have dt := m_DF_tr hD ⟨i1, i2⟩ (show 0 ≤ k (212 + 4 * s9 + 1).toNat ∧ k (212 + 4 * s9 + 1).toNat ≤ 9 by omega) (show 0 ≤ k (212 + 4 * s + 1).toNat ∧ k (212 + 4 * s + 1).toNat ≤ 9 by omega) ds.1 q4
          have u := up s i s1 q1 q2 i1 i2 dt
          rw [← q3] at u
          rw [← lv] at q6
          exact Or.inr ⟨⟨q1, q2, q3⟩, dt, u, by omega⟩
      · exfalso
        have sp := hk.sp s3.1 s3.2
        omega
  · intro s s1 s2 so
    have a1 := (ml (100 * (s + 1) + 10 * k (212 + 4 * s + 1).toNat + k (212 + 4 * s).toNat).toNat).1
    have a2 := j4 s s1 s2 so
    omega
theorem m_vi_low {k d v : Nat → Int} (h : q_KR k) : ∀ n : Nat, n < 100 → q_vi k d v n = d n := by
  have h0 := h.r0
  unfold q_vi
  refine q_fr_ind (f := q_upS k) (fun _ (f : Nat → Int) => ∀ n : Nat, n < 100 → f n = d n) (by omega) ?_ ?_
  · intro n hn
    unfold q_v0
    rw [if_pos (by omega), if_pos hn]
  · intro s f s1 s2 hf n hn
    have hs := h.sp s1 s2
    unfold q_upS
    by_cases g : q_sta k (k (212 + 4 * s + 1).toNat)
    · rw [q_if_t g]; exact hf n hn
    · rw [q_if_f g, pz_up_ne (by omega)]; exact hf n hn
/-- ahead of the first round -/
theorem m_J_0 {k D v : Nat → Int} (hk : q_KR k) (hD : m_DF (k 0) D) : m_J k D 5400 5400 (q_vi k D v) := by
  have h0 := hk.r0
  have low := m_vi_low (d := D) (v := v) hk
  have be : ∀ d : Int, 0 ≤ d → 5400 ≤ m_be 5400 5400 d := by
    intro d hd
    unfold m_be
    split <;> omega
  have key := q_fr_ind (f := q_upS k) (a := 0) (n := k 2) (x := q_v0 D v) (fun i9 (y : Nat → Int) => (∀ s i t : Int, 0 ≤ s → s < 3 → 0 ≤ i → i ≤ 9 → 0 ≤ t → t ≤ 9 → y (100 * (s + 1) + 10 * i + t).toNat = 1000000 ∨ ((s < k 2 ∧ ¬ q_sta k (k (212 + 4 * s + 1).toNat) ∧ t = k (212 + 4 * s).toNat) ∧ i = k (212 + 4 * s + 1).toNat ∧ y (100 * (s + 1) + 10 * i + t).toNat = -(k (212 + 4 * s + 3).toNat))) ∧ ∀ s : Int, 0 ≤ s → s < i9 → s < k 2 → ¬ q_sta k (k (212 + 4 * s + 1).toNat) → y (100 * (s + 1) + 10 * k (212 + 4 * s + 1).toNat + k (212 + 4 * s).toNat).toNat = -(k (212 + 4 * s + 3).toNat)) (by omega) ⟨by
    intro s i t s1 s2 i1 i2 t1 t2
    left
    unfold q_v0
    rw [if_pos (by omega), if_neg (by omega)], fun s s1 s2 => by omega⟩ (by
    intro i9 y i1 i2 hy
    have hs := hk.sp i1 i2
    unfold q_upS
    by_cases g : q_sta k (k (212 + 4 * i9 + 1).toNat)
    · rw [q_if_t g]
      refine ⟨hy.1, ?_⟩
      intro s s1 s2 s3 s4
      by_cases c : s = i9
      · rw [c] at s4; exact absurd g s4
      · exact hy.2 s s1 (by omega) s3 s4
    · rw [q_if_f g]
      refine ⟨?_, ?_⟩
      · intro s i t s1 s2 i3 i4 t1 t2
        by_cases c : (100 * (s + 1) + 10 * i + t).toNat = (100 * (i9 + 1) + 10 * k (212 + 4 * i9 + 1).toNat + k (212 + 4 * i9).toNat).toNat
        · right
          have e1 : s = i9 := by omega
          have e2 : i = k (212 + 4 * i9 + 1).toNat := by omega
          have e3 : t = k (212 + 4 * i9).toNat := by omega
          rw [c, pz_up_eq, e1]
          exact ⟨⟨i2, g, e3⟩, e2, rfl⟩
        · rw [pz_up_ne c]
          exact hy.1 s i t s1 s2 i3 i4 t1 t2
      · intro s s1 s2 s3 s4
        by_cases c : s = i9
        · rw [c, pz_up_eq]
        · have hs2 := hk.sp s1 s3
          rw [pz_up_ne (by omega)]
          exact hy.2 s s1 (by omega) s3 s4)
  have e : q_vi k D v = q_fr (q_upS k) 0 (k 2) (q_v0 D v) := rfl
  rw [← e] at key
  refine ⟨?_, ?_, ?_, ?_⟩
  · intro i j i1 i2 j1 j2
    rw [low _ (by omega)]
    refine ⟨Int.le_refl _, fun q => ⟨q, ?_⟩⟩
    have b := (m_DF_le hD (n := (10 * i + j).toNat) (by omega)).2 q
    have l := (m_lev_le hD ⟨i1, i2⟩ ⟨j1, j2⟩ q).1
    have x := be (m_lev D i - m_lev D j) (by omega)
    omega
  · intro i i1 i2
    rw [low _ (by omega)]
    exact hD.2.1 i (by omega) i2
  · intro s i t s1 s2 i1 i2 t1 t2
    rcases key.1 s i t s1 s2 i1 i2 t1 t2 with q | ⟨⟨q1, q2, q3⟩, q4, q5⟩
    · exact Or.inl q
    · have sp := hk.sp s1 q1
      have d := hD.2.1 (k (212 + 4 * s + 1).toNat) (by omega) (by omega)
      rw [q5, q4]
      have x := be (m_lev D (k (212 + 4 * s + 1).toNat) - m_lev D (k (212 + 4 * s + 1).toNat)) (by omega)
      exact Or.inr ⟨⟨q1, q2, q3⟩, by omega, by omega, by omega⟩
  · intro s s1 s2 so
    rw [key.2 s s1 s2 s2 so]
    omega
theorem m_ok_dg0 {f : Nat → Int} (h : q_ok f) : q_dg (q_ps 0 f) := by
  have e0 : q_ps 0 f = f := q_fr_0 (by omega)
  have e1 : q_ps (0 + 1) f = q_ph 0 (q_ps 0 f) := q_ps_s (by omega)
  have a := h 0 (by omega) (by omega)
  rw [e1, e0] at a
  rw [e0]
  intro i i1 i2
  have b := a i i1 i2
  have l := m_ph_le (c := 0) (f := f) (11 * i).toNat
  omega
/-- a consistent square has no way there and back below 0 -/
theorem m_ok_cyc {f : Nat → Int} {i j : Int} (h : q_ok f) (hi : 0 ≤ i ∧ i ≤ 9) (hj : 0 ≤ j ∧ j ≤ 9) (h1 : f (10 * i + j).toNat < 1000000) (h2 : f (10 * j + i).toNat < 1000000) : 0 ≤ f (10 * i + j).toNat + f (10 * j + i).toNat := by
  have hd : ∀ c : Int, 0 ≤ c → c ≤ 10 → q_dg (q_ps c f) := by
    intro c c1 c2
    by_cases g : c = 0
    · rw [g]; exact m_ok_dg0 h
    · have := h (c - 1) (by omega) (by omega)
      rw [show c - 1 + 1 = c by omega] at this
      exact this
  have le := m_ps_le hd j.toNat (by omega)
  rw [Int.toNat_of_nonneg hj.1] at le
  have l1 := le (10 * i + j).toNat
  have l2 := le (10 * j + i).toNat
  have dj := hd j hj.1 (by omega) j hj.1 (by omega)
  rw [show (11 * j).toNat = (10 * j + j).toNat by omega] at dj
  have d2 := hd (j + 1) (by omega) (by omega) i hi.1 (by omega)
  rw [q_ps_s hj.1, m_ph_eq hj dj, show (11 * i).toNat = (10 * i + i).toNat by omega] at d2
  have s := m_sh_le2 (c := j) (f := q_ps j f) hi hi (by omega) (by omega)
  omega
