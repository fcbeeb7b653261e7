/-! words and mathematics, each behind what it wants: chunk 7 -/
theorem m_cb3 {z A : Int} {D f : Nat → Int} (hD : m_DF z D) (hA : 10800 ≤ A ∧ A ≤ 1000000) (h : m_F D 10800 A f) : q_cb f := by
  intro c i j c1 c2 hk i1 i2 j1 j2
  unfold q_at
  by_cases g : c = 0
  · rw [g]
    have e0 : q_ps 0 f = f := q_fr_0 (by omega)
    rw [e0]
    have lb := m_ph0_lb (B := 10 * A) (f := f) (by omega) (fun n hn => by have := m_F_r hD (by omega) h hn; omega) ⟨i1, i2⟩ ⟨j1, j2⟩
    have a := lb (10 * i + 0).toNat (by omega)
    have b := lb (10 * 0 + j).toNat (by omega)
    omega
  · have dz := hk 0 (by omega) (by omega)
    have hd : ∀ c' : Int, 0 ≤ c' → c' ≤ c → q_dg (q_ps c' f) := by
      intro c' g1 g2
      by_cases e : c' = 0
      · rw [e]
        have e0 : q_ps 0 f = f := q_fr_0 (by omega)
        have e1 : q_ps (0 + 1) f = q_ph 0 (q_ps 0 f) := q_ps_s (by omega)
        rw [e1, e0] at dz
        rw [e0]
        intro x x1 x2
        have b := dz x x1 x2
        have l := m_ph_le (c := 0) (f := f) (11 * x).toNat
        omega
      · have := hk (c' - 1) (by omega) (by omega)
        rw [show c' - 1 + 1 = c' by omega] at this
        exact this
    have F0 := m_F_ps hD hA.1 h c.toNat (by omega) (fun c' g1 g2 => hd c' g1 (by omega))
    rw [Int.toNat_of_nonneg c1] at F0
    have hdc := hd c c1 (Int.le_refl c) c c1 (by omega)
    rw [show (11 * c).toNat = (10 * c + c).toNat by omega] at hdc
    have v0 := m_F_v3 hD hA ⟨c1, by omega⟩ F0
    have p2 := m_p2_r (c := c) (by omega)
    have F1 := m_F_sh hD (by omega) (by omega) (c := c) ⟨c1, c2⟩ F0
    have v1 : ∀ n : Nat, n < 100 → -1000000000 ≤ m_sh c (q_ps c f) n := by
      intro n hn
      have := m_F_r hD (by omega) F1 hn
      omega
    have e := m_at_eq (c := c) (i := i) (j := j) (f := q_ps c f) ⟨c1, c2⟩ hdc ⟨i1, i2⟩ ⟨j1, by omega⟩
    rw [e, e]
    have a1 := v1 (10 * i + c).toNat (by omega)
    have a2 := v1 (10 * c + j).toNat (by omega)
    have b1 := v0 (10 * i + c).toNat (by omega)
    have b2 := v0 (10 * c + j).toNat (by omega)
    constructor
    · split <;> omega
    · split <;> omega
/-- spans' edges, as distances know them -/
def m_DS (k D : Nat → Int) : Prop := ∀ s : Int, 0 ≤ s → s < k 2 → D (10 * k (212 + 4 * s).toNat + k (212 + 4 * s + 1).toNat).toNat < 1000000 ∧ D (10 * k (212 + 4 * s + 1).toNat + k (212 + 4 * s).toNat).toNat < 1000000
theorem m_DS_dd {k lf g : Nat → Int} (h : q_KR k) (hc : q_con k lf) : m_DS k (q_dd k lf g) := by
  have h0 := h.r0
  have mD := m_D (g := g) h hc
  have key := q_fr_ind (f := q_spE k) (a := 0) (n := k 2) (x := q_bds k lf g) (fun i (y : Nat → Int) => ∀ s : Int, 0 ≤ s → s < i → s < k 2 → y (10 * k (212 + 4 * s).toNat + k (212 + 4 * s + 1).toNat).toNat < 1000000 ∧ y (10 * k (212 + 4 * s + 1).toNat + k (212 + 4 * s).toNat).toNat < 1000000) (by omega) (fun s s1 s2 => by omega) (by
    intro i y i1 i2 hy s s1 s2 s3
    have hs := h.sp i1 i2
    unfold q_spE
    have l1 := fun n => m_eg_le (i := k (212 + 4 * i).toNat) (j := k (212 + 4 * i + 1).toNat) (x := k (212 + 4 * i + 3).toNat) (w := y) n
    have l2 := fun n => m_eg_le (i := k (212 + 4 * i + 1).toNat) (j := k (212 + 4 * i).toNat) (x := -(k (212 + 4 * i + 2).toNat)) (w := q_eg y (k (212 + 4 * i).toNat) (k (212 + 4 * i + 1).toNat) (k (212 + 4 * i + 3).toNat)) n
    by_cases c : s = i
    · rw [c]
      unfold q_eg
      rw [m_lw_at, m_lw_at, m_lw_at, m_lw_at]
      constructor
      · (repeat' split) <;> omega
      · (repeat' split) <;> omega
    · have a := hy s s1 (by omega) s3
      have b1 := l1 (10 * k (212 + 4 * s).toNat + k (212 + 4 * s + 1).toNat).toNat
      have b2 := l2 (10 * k (212 + 4 * s).toNat + k (212 + 4 * s + 1).toNat).toNat
      have b3 := l1 (10 * k (212 + 4 * s + 1).toNat + k (212 + 4 * s).toNat).toNat
      have b4 := l2 (10 * k (212 + 4 * s + 1).toNat + k (212 + 4 * s).toNat).toNat
      omega)
  intro s s1 s2
  have a := key s s1 s2 s2
  have e : q_net k lf g = q_fr (q_spE k) 0 (k 2) (q_bds k lf g) := rfl
  have l1 := mD.2.1 (10 * k (212 + 4 * s).toNat + k (212 + 4 * s + 1).toNat).toNat
  have l2 := mD.2.1 (10 * k (212 + 4 * s + 1).toNat + k (212 + 4 * s).toNat).toNat
  rw [e] at l1 l2
  omega
/-- what the values keep, round after round -/
def m_J (k D : Nat → Int) (m a : Int) (v : Nat → Int) : Prop := m_F D m a v ∧ (∀ i : Int, k 0 ≤ i → i ≤ 9 → v (10 * i + i).toNat = 0) ∧
  (∀ s i t : Int, 0 ≤ s → s < 3 → 0 ≤ i → i ≤ 9 → 0 ≤ t → t ≤ 9 → v (100 * (s + 1) + 10 * i + t).toNat = 1000000 ∨ ((s < k 2 ∧ ¬ q_sta k (k (212 + 4 * s + 1).toNat) ∧ t = k (212 + 4 * s).toNat) ∧ D (10 * i + k (212 + 4 * s + 1).toNat).toNat < 1000000 ∧ v (100 * (s + 1) + 10 * i + t).toNat ≤ D (10 * i + k (212 + 4 * s + 1).toNat).toNat - k (212 + 4 * s + 3).toNat ∧ -(m_be m a (m_lev D i - m_lev D (k (212 + 4 * s + 1).toNat))) ≤ v (100 * (s + 1) + 10 * i + t).toNat)) ∧
  (∀ s : Int, 0 ≤ s → s < k 2 → ¬ q_sta k (k (212 + 4 * s + 1).toNat) → v (100 * (s + 1) + 10 * k (212 + 4 * s + 1).toNat + k (212 + 4 * s).toNat).toNat ≤ -(k (212 + 4 * s + 3).toNat))
theorem m_J_u {k D v : Nat → Int} {m a s i t : Int} (hk : q_KR k) (hD : m_DF (k 0) D) (hm : 0 ≤ m ∧ m ≤ a) (h : m_J k D m a v) (hs : 0 ≤ s ∧ s < 3) (hi : 0 ≤ i ∧ i ≤ 9) (ht : 0 ≤ t ∧ t ≤ 9) : v (100 * (s + 1) + 10 * i + t).toNat = 1000000 ∨ (-(10 * a) ≤ v (100 * (s + 1) + 10 * i + t).toNat ∧ v (100 * (s + 1) + 10 * i + t).toNat ≤ 5400) := by
  have h0 := hk.r0
  rcases h.2.2.1 s i t hs.1 hs.2 hi.1 hi.2 ht.1 ht.2 with q | ⟨⟨q1, q2, q3⟩, q4, q5, q6⟩
  · exact Or.inl q
  · right
    have sp := hk.sp hs.1 q1
    have l := (m_lev_le hD (i := i) (j := k (212 + 4 * s + 1).toNat) hi (by omega) q4).1
    have r1 := m_lev_r (D := D) (i := i)
    have r2 := m_lev_r (D := D) (i := k (212 + 4 * s + 1).toNat)
    have r := m_be_r hm (d := m_lev D i - m_lev D (k (212 + 4 * s + 1).toNat)) (by omega)
    have b := (m_DF_le hD (n := (10 * i + k (212 + 4 * s + 1).toNat).toNat) (by omega)).2 q4
    omega
theorem m_J_vb {k D v : Nat → Int} {m a : Int} (hk : q_KR k) (hD : m_DF (k 0) D) (hm : 0 ≤ m ∧ m ≤ a ∧ a ≤ 1000000) (h : m_J k D m a v) : q_vb v := by
  intro n hn
  by_cases c : n < 100
  · have := m_F_r hD ⟨hm.1, hm.2.1⟩ h.1 c
    omega
  · have e : n = (100 * ((n / 100 : Nat) - 1 + 1 : Int) + 10 * ((n % 100 / 10 : Nat) : Int) + ((n % 10 : Nat) : Int)).toNat := by omega
    have u := m_J_u hk hD ⟨hm.1, hm.2.1⟩ h (s := (n / 100 : Nat) - 1) (i := ((n % 100 / 10 : Nat) : Int)) (t := ((n % 10 : Nat) : Int)) (by omega) (by omega) (by omega)
    rw [← e] at u
    omega
theorem m_lev_sp {k D : Nat → Int} {s : Int} (hk : q_KR k) (hD : m_DF (k 0) D) (hS : m_DS k D) (s1 : 0 ≤ s) (s2 : s < k 2) : m_lev D (k (212 + 4 * s).toNat) = m_lev D (k (212 + 4 * s + 1).toNat) := by
  have h0 := hk.r0
  have hs := hk.sp s1 s2
  have d := hS s s1 s2
  have a := (m_lev_le hD (i := k (212 + 4 * s).toNat) (j := k (212 + 4 * s + 1).toNat) (by omega) (by omega) d.1).1
  have b := (m_lev_le hD (i := k (212 + 4 * s + 1).toNat) (j := k (212 + 4 * s).toNat) (by omega) (by omega) d.2).1
  omega
/-- the square of a round -/
theorem m_ir_at {k v f : Nat → Int} (hk : q_KR k) : ∀ n : Nat, n < 100 → (∀ q : Int, 0 ≤ q → q ≤ k 2 → q_ir k v f n ≤ v (100 * q + n).toNat) ∧ q_ir k v f n ≤ 1000000 ∧ (q_ir k v f n = 1000000 ∨ ∃ q : Int, 0 ≤ q ∧ q ≤ k 2 ∧ q_ir k v f n = v (100 * q + n).toNat) := by
  have h0 := hk.r0
  have key := q_fr_ind (f := q_irI k v) (a := 0) (n := 100) (x := f) (fun i (y : Nat → Int) => ∀ n : Nat, (n : Int) < i → (∀ q : Int, 0 ≤ q → q ≤ k 2 → y n ≤ v (100 * q + n).toNat) ∧ y n ≤ 1000000 ∧ (y n = 1000000 ∨ ∃ q : Int, 0 ≤ q ∧ q ≤ k 2 ∧ y n = v (100 * q + n).toNat)) (by omega) (fun n hn => by omega) (by
    intro i y i1 i2 hy
    have inner := q_fr_ind (f := q_irS v i) (a := 0) (n := k 2 + 1) (x := pz_up y i.toNat 1000000) (fun q9 (u : Nat → Int) => (∀ n : Nat, n ≠ i.toNat → u n = y n) ∧ (∀ q : Int, 0 ≤ q → q < q9 → u i.toNat ≤ v (100 * q + i).toNat) ∧ u i.toNat ≤ 1000000 ∧ (u i.toNat = 1000000 ∨ ∃ q : Int, 0 ≤ q ∧ q ≤ k 2 ∧ u i.toNat = v (100 * q + i).toNat)) (by omega) ⟨fun n hn => pz_up_ne hn, fun q q1 q2 => by omega, by rw [pz_up_eq]; omega, Or.inl pz_up_eq⟩ (by
      intro q9 u q1 q2 hu
      obtain ⟨u1, u2, u3, u4⟩ := hu
      unfold q_irS
      by_cases g : v (100 * q9 + i).toNat < u i.toNat
      · rw [q_if_t g]
        refine ⟨fun n hn => by rw [pz_up_ne hn]; exact u1 n hn, ?_, ?_, ?_⟩
        · intro q q3 q4
          rw [pz_up_eq]
          by_cases e : q = q9
          · rw [e]; exact Int.le_refl _
          · have := u2 q q3 (by omega)
            omega
        · rw [pz_up_eq]; omega
        · exact Or.inr ⟨q9, q1, by omega, pz_up_eq⟩
      · rw [q_if_f g]
        refine ⟨u1, ?_, u3, u4⟩
        intro q q3 q4
        by_cases e : q = q9
        · rw [e]; omega
        · exact u2 q q3 (by omega))
    obtain ⟨n1, n2, n3, n4⟩ := inner
    intro n hn
    unfold q_irI
    by_cases e : (n : Int) = i
    · have e2 : n = i.toNat := by omega
      rw [e]
      rw [e2]
      exact ⟨fun q q1 q2 => n2 q q1 (by omega), n3, n4⟩
    · rw [n1 n (by omega)]
      exact hy n (by omega))
  intro n hn
  exact key n (by omega)
theorem m_ir_F {k D v g : Nat → Int} {m a : Int} (hk : q_KR k) (hD : m_DF (k 0) D) (hS : m_DS k D) (h : m_J k D m a v) : m_F D m a (q_ir k v g) ∧ m_O (k 0) (q_ir k v g) := by
  have h0 := hk.r0
  have cases9 : ∀ i j : Int, 0 ≤ i → i ≤ 9 → 0 ≤ j → j ≤ 9 → q_ir k v g (10 * i + j).toNat ≤ v (10 * i + j).toNat ∧ q_ir k v g (10 * i + j).toNat ≤ 1000000 ∧ (q_ir k v g (10 * i + j).toNat = 1000000 ∨ q_ir k v g (10 * i + j).toNat = v (10 * i + j).toNat ∨ ∃ s : Int, (0 ≤ s ∧ s < k 2) ∧ q_ir k v g (10 * i + j).toNat = v (100 * (s + 1) + 10 * i + j).toNat) := by
    intro i j i1 i2 j1 j2
    obtain ⟨a1, a2, a3⟩ := m_ir_at (v := v) (f := g) hk (10 * i + j).toNat (by omega)
    refine ⟨?_, a2, ?_⟩
    · have := a1 0 (by omega) (by omega)
      rw [show (100 * (0 : Int) + ((10 * i + j).toNat : Nat)).toNat = (10 * i + j).toNat by omega] at this
      exact this
    · rcases a3 with q | ⟨q, q1, q2, q3⟩
      · exact Or.inl q
      · by_cases z : q = 0
        · right; left
          rw [q3]
          congr 1
          omega
        · right; right
          refine ⟨q - 1, by omega, ?_⟩
          rw [q3]
          congr 1
          omega
  refine ⟨?_, ?_⟩
  · intro i j i1 i2 j1 j2
    obtain ⟨b1, b2, b3⟩ := cases9 i j i1 i2 j1 j2
    have f := h.1 i j i1 i2 j1 j2
    refine ⟨by omega, fun q => ?_⟩
    rcases b3 with b | b | ⟨s, s1, b⟩
    · omega
    · rw [b] at q ⊢
      exact f.2 q
    · rw [b] at q ⊢
      rcases h.2.2.1 s i j s1.1 (by omega) i1 i2 j1 j2 with e | ⟨⟨q1, q2, q3⟩, q4, q5, q6⟩
      · omega
      · have sp := hk.sp s1.1 s1.2
        have lv := m_lev_sp hk hD hS s1.1 s1.2
        have ds := hS s s1.1 s1.2
        rw [q3]
        rw [q3] at q6
        rw [← lv] at q6
        exact ⟨m_DF_tr hD ⟨i1, i2⟩ (by omega) (by omega) q4 ds.2, q6⟩
  · intro i j i1 i2 j1 j2 c
    have f := h.1 i j i1 i2 j1 j2
    have o := hD.2.2.2 i j i1 i2 j1 j2 c
    have un : ∀ s : Int, (0 ≤ s ∧ s < k 2) → v (100 * (s + 1) + 10 * i + j).toNat = 1000000 := by
      intro s s1
      have sp := hk.sp s1.1 s1.2
      rcases h.2.2.1 s i j s1.1 (by omega) i1 i2 j1 j2 with e | ⟨⟨q1, q2, q3⟩, q4, q5, q6⟩
      · exact e
      · exfalso
        have o2 := hD.2.2.2 i (k (212 + 4 * s + 1).toNat) i1 i2 (by omega) (by omega) (Or.inl (by omega))
        rw [if_neg (by omega)] at o2
        omega
    obtain ⟨b1, b2, b3⟩ := cases9 i j i1 i2 j1 j2
    by_cases e : i = j
    · rw [if_pos e]
      have d := h.2.1 i (by omega) i2
      rw [← e] at b1 b3 un ⊢
      rcases b3 with b | b | ⟨s, s1, b⟩
      · omega
      · rw [b]; exact d
      · rw [un s s1] at b
        omega
    · rw [if_neg e] at o ⊢
      rcases b3 with b | b | ⟨s, s1, b⟩
      · exact b
      · by_cases fin : v (10 * i + j).toNat < 1000000
        · have := (f.2 fin).1
          omega
        · omega
      · rw [un s s1] at b
        exact b
def m_ml (f0 : Nat → Int) (S : Nat → Int → Prop) (f : Nat → Int) : Prop := ∀ n, f n ≤ f0 n ∧ (∀ w, S n w → f n ≤ w) ∧ (f n = f0 n ∨ S n (f n))
theorem m_ml_0 {f0 : Nat → Int} : m_ml f0 (fun _ _ => False) f0 := fun n => ⟨Int.le_refl _, fun _ q => q.elim, Or.inl rfl⟩
theorem m_ml_iff {f0 f : Nat → Int} {S T : Nat → Int → Prop} (h : ∀ n w, S n w ↔ T n w) (hf : m_ml f0 S f) : m_ml f0 T f := fun n => ⟨(hf n).1, fun w q => (hf n).2.1 w ((h n w).mpr q), (hf n).2.2.elim Or.inl (fun q => Or.inr ((h n _).mp q))⟩
/-- a step that adds candidates -/
def m_stp (T : Nat → Int → Prop) (g : (Nat → Int) → (Nat → Int)) : Prop := ∀ f0 S f, m_ml f0 S f → m_ml f0 (fun n w => S n w ∨ T n w) (g f)
theorem m_stp_ifn {p : Prop} {T : Nat → Int → Prop} {g : (Nat → Int) → (Nat → Int)} (h : ¬ p → m_stp T g) : m_stp (fun n w => ¬ p ∧ T n w) (fun f => q_if p f (g f)) := by
  intro f0 S f hf
  by_cases e : p
  · show m_ml f0 _ (q_if p f (g f))
    rw [q_if_t e]
    exact m_ml_iff (fun n w => ⟨Or.inl, fun q => q.elim id (fun q => absurd e q.1)⟩) hf
  · show m_ml f0 _ (q_if p f (g f))
    rw [q_if_f e]
    exact m_ml_iff (fun n w => or_congr Iff.rfl ⟨fun q => ⟨e, q⟩, fun q => q.2⟩) (h e f0 S f hf)
theorem m_stp_comp {T U : Nat → Int → Prop} {g h : (Nat → Int) → (Nat → Int)} (hg : m_stp T g) (hh : m_stp U h) : m_stp (fun n w => T n w ∨ U n w) (fun f => h (g f)) := by
  intro f0 S f hf
  exact m_ml_iff (fun n w => or_assoc) (hh f0 _ _ (hg f0 S f hf))
theorem m_stp_fr {T : Int → Nat → Int → Prop} {g : Int → (Nat → Int) → (Nat → Int)} {a m : Int} (h : ∀ i, a ≤ i → i < m → m_stp (T i) (g i)) : m_stp (fun n w => ∃ i, a ≤ i ∧ i < m ∧ T i n w) (fun f => q_fr g a m f) := by
  intro f0 S f hf
  show m_ml f0 _ (q_fr g a m f)
  rcases Int.lt_or_le m a with c | c
  · rw [q_fr_0 (by omega)]
    exact m_ml_iff (fun n w => ⟨Or.inl, fun q => q.elim id (fun ⟨i, h1, h2, _⟩ => by omega)⟩) hf
  · refine q_fr_ind (f := g) (fun j (y : Nat → Int) => m_ml f0 (fun n w => S n w ∨ ∃ i, a ≤ i ∧ i < j ∧ T i n w) y) c ?_ ?_
    · exact m_ml_iff (fun n w => ⟨Or.inl, fun q => q.elim id (fun ⟨i, h1, h2, _⟩ => by omega)⟩) hf
    · intro j y j1 j2 hy
      refine m_ml_iff (fun n w => ?_) (h j j1 j2 f0 _ y hy)
      constructor
      · rintro ((q | ⟨i, h1, h2, h3⟩) | q)
        · exact Or.inl q
        · exact Or.inr ⟨i, h1, by omega, h3⟩
        · exact Or.inr ⟨j, j1, by omega, q⟩
      · rintro (q | ⟨i, h1, h2, h3⟩)
        · exact Or.inl (Or.inl q)
        · by_cases e : i = j
          · rw [e] at h3; exact Or.inr h3
          · exact Or.inl (Or.inr ⟨i, h1, by omega, h3⟩)
theorem m_stp_lw {c w : Int} : m_stp (fun n v => n = c.toNat ∧ v = w) (fun f => q_lw f c w) := by
  intro f0 S f h n
  obtain ⟨a1, a2, a3⟩ := h n
  show q_lw f c w n ≤ f0 n ∧ (∀ v, (S n v ∨ (n = c.toNat ∧ v = w)) → q_lw f c w n ≤ v) ∧ (q_lw f c w n = f0 n ∨ S n (q_lw f c w n) ∨ (n = c.toNat ∧ q_lw f c w n = w))
  rw [m_lw_at]
  by_cases e : n = c.toNat
  · rw [if_pos e]
    refine ⟨by omega, ?_, ?_⟩
    · rintro v (q | ⟨-, q⟩)
      · have := a2 v q; omega
      · omega
    · by_cases g : w < f n
      · right; right
        exact ⟨e, by omega⟩
      · rw [show min (f n) w = f n by omega]
        rcases a3 with a | a
        · exact Or.inl a
        · exact Or.inr (Or.inl a)
  · rw [if_neg e]
    refine ⟨a1, ?_, ?_⟩
    · rintro v (q | ⟨q, -⟩)
      · exact a2 v q
      · exact absurd q e
    · rcases a3 with a | a
      · exact Or.inl a
      · exact Or.inr (Or.inl a)
theorem m_stp_if {p : Prop} {T : Nat → Int → Prop} {g : (Nat → Int) → (Nat → Int)} (h : p → m_stp T g) : m_stp (fun n w => p ∧ T n w) (fun f => q_if p (g f) f) := by
  intro f0 S f hf
  by_cases e : p
  · show m_ml f0 _ (q_if p (g f) f)
    rw [q_if_t e]
    exact m_ml_iff (fun n w => or_congr Iff.rfl ⟨fun q => ⟨e, q⟩, fun q => q.2⟩) (h e f0 S f hf)
  · show m_ml f0 _ (q_if p (g f) f)
    rw [q_if_f e]
    exact m_ml_iff (fun n w => ⟨Or.inl, fun q => q.elim id (fun q => absurd q.1 e)⟩) hf
/-- the reference's round -/
theorem m_stp_rdF {k a : Nat → Int} : m_stp (fun n w => ∃ f, 0 ≤ f ∧ f < 10 ∧ ∃ c, 0 ≤ c ∧ c < 10 ∧ ¬ a (100 * 0 + 10 * f + c).toNat = 1000000 ∧ ∃ q, 0 ≤ q ∧ q < k 2 + 1 ∧ ∃ t, 0 ≤ t ∧ t < 10 ∧ a (100 * q + 10 * c + t).toNat < 1000000 ∧ n = (100 * q + 10 * f + t).toNat ∧ w = a (100 * 0 + 10 * f + c).toNat + a (100 * q + 10 * c + t).toNat) (fun v => q_fr (q_rdF k a) 0 10 v) :=
  m_stp_fr (fun f _ _ => m_stp_fr (fun c _ _ => m_stp_ifn (fun _ => m_stp_fr (fun q _ _ => m_stp_fr (fun t _ _ => m_stp_if (fun _ => m_stp_lw))))))
theorem m_stp_spn {k a : Nat → Int} {s : Int} : m_stp (fun n w => ∃ e, 0 ≤ e ∧ e < 10 ∧ ((((e ≠ k (212 + 4 * s + 1).toNat ∧ a (100 * 0 + 10 * k (212 + 4 * s + 1).toNat + e).toNat ≤ 0) ∧ n = (100 * 0 + 10 * k (212 + 4 * s).toNat + e).toNat ∧ w = k (212 + 4 * s + 2).toNat + a (100 * 0 + 10 * k (212 + 4 * s + 1).toNat + e).toNat) ∨ ∃ o, 0 ≤ o ∧ o < k 2 ∧ (o ≠ s ∧ a (100 * (o + 1) + 10 * k (212 + 4 * s + 1).toNat + e).toNat ≤ 0) ∧ n = (100 * (o + 1) + 10 * k (212 + 4 * s).toNat + e).toNat ∧ w = k (212 + 4 * s + 2).toNat + a (100 * (o + 1) + 10 * k (212 + 4 * s + 1).toNat + e).toNat) ∨ (a (100 * (s + 1) + 10 * e + k (212 + 4 * s).toNat).toNat < 1000000 ∧ -(k (212 + 4 * s + 2).toNat) ≤ a (100 * (s + 1) + 10 * e + k (212 + 4 * s).toNat).toNat) ∧ n = (100 * 0 + 10 * e + k (212 + 4 * s).toNat).toNat ∧ w = a (100 * (s + 1) + 10 * e + k (212 + 4 * s).toNat).toNat)) (fun v => q_spn k a s v) :=
  m_stp_fr (fun e _ _ => m_stp_comp (g := fun v => q_fr (q_spB k a s e) 0 (k 2) (q_spA k a s e v)) (h := q_spC k a s e) (m_stp_comp (g := q_spA k a s e) (h := fun v => q_fr (q_spB k a s e) 0 (k 2) v) (m_stp_if (fun _ => m_stp_lw)) (m_stp_fr (fun o _ _ => m_stp_if (fun _ => m_stp_lw)))) (m_stp_if (fun _ => m_stp_lw)))
theorem m_stp_rd {k a : Nat → Int} : m_stp (fun n w => (∃ f, 0 ≤ f ∧ f < 10 ∧ ∃ c, 0 ≤ c ∧ c < 10 ∧ ¬ a (100 * 0 + 10 * f + c).toNat = 1000000 ∧ ∃ q, 0 ≤ q ∧ q < k 2 + 1 ∧ ∃ t, 0 ≤ t ∧ t < 10 ∧ a (100 * q + 10 * c + t).toNat < 1000000 ∧ n = (100 * q + 10 * f + t).toNat ∧ w = a (100 * 0 + 10 * f + c).toNat + a (100 * q + 10 * c + t).toNat) ∨ (∃ s, 0 ≤ s ∧ s < k 2 ∧ ¬ q_sta k (k (212 + 4 * s + 1).toNat) ∧ ∃ e, 0 ≤ e ∧ e < 10 ∧ ((((e ≠ k (212 + 4 * s + 1).toNat ∧ a (100 * 0 + 10 * k (212 + 4 * s + 1).toNat + e).toNat ≤ 0) ∧ n = (100 * 0 + 10 * k (212 + 4 * s).toNat + e).toNat ∧ w = k (212 + 4 * s + 2).toNat + a (100 * 0 + 10 * k (212 + 4 * s + 1).toNat + e).toNat) ∨ ∃ o, 0 ≤ o ∧ o < k 2 ∧ (o ≠ s ∧ a (100 * (o + 1) + 10 * k (212 + 4 * s + 1).toNat + e).toNat ≤ 0) ∧ n = (100 * (o + 1) + 10 * k (212 + 4 * s).toNat + e).toNat ∧ w = k (212 + 4 * s + 2).toNat + a (100 * (o + 1) + 10 * k (212 + 4 * s + 1).toNat + e).toNat) ∨ (a (100 * (s + 1) + 10 * e + k (212 + 4 * s).toNat).toNat < 1000000 ∧ -(k (212 + 4 * s + 2).toNat) ≤ a (100 * (s + 1) + 10 * e + k (212 + 4 * s).toNat).toNat) ∧ n = (100 * 0 + 10 * e + k (212 + 4 * s).toNat).toNat ∧ w = a (100 * (s + 1) + 10 * e + k (212 + 4 * s).toNat).toNat))) (fun v => q_rd k a v) :=
  m_stp_comp (g := fun v => q_fr (q_rdF k a) 0 10 v) (h := fun v => q_fr (q_rdS k a) 0 (k 2) v) m_stp_rdF (m_stp_fr (fun s _ _ => m_stp_ifn (fun _ => m_stp_spn)))
/-- the candidates of a round, by the values ahead of it -/
def m_Sv (k v : Nat → Int) (n : Nat) (w : Int) : Prop :=
  (∃ f c t : Int, (0 ≤ f ∧ f ≤ 9) ∧ (0 ≤ c ∧ c ≤ 9) ∧ (0 ≤ t ∧ t ≤ 9) ∧ v (10 * f + c).toNat ≠ 1000000 ∧ v (10 * c + t).toNat < 1000000 ∧ n = (10 * f + t).toNat ∧ w = v (10 * f + c).toNat + v (10 * c + t).toNat) ∨
  (∃ s f c t : Int, (0 ≤ s ∧ s < k 2) ∧ (0 ≤ f ∧ f ≤ 9) ∧ (0 ≤ c ∧ c ≤ 9) ∧ (0 ≤ t ∧ t ≤ 9) ∧ v (10 * f + c).toNat ≠ 1000000 ∧ v (100 * (s + 1) + 10 * c + t).toNat < 1000000 ∧ n = (100 * (s + 1) + 10 * f + t).toNat ∧ w = v (10 * f + c).toNat + v (100 * (s + 1) + 10 * c + t).toNat) ∨
  (∃ s e : Int, (0 ≤ s ∧ s < k 2) ∧ ¬ q_sta k (k (212 + 4 * s + 1).toNat) ∧ (0 ≤ e ∧ e ≤ 9) ∧ e ≠ k (212 + 4 * s + 1).toNat ∧ v (10 * k (212 + 4 * s + 1).toNat + e).toNat ≤ 0 ∧ n = (10 * k (212 + 4 * s).toNat + e).toNat ∧ w = k (212 + 4 * s + 2).toNat + v (10 * k (212 + 4 * s + 1).toNat + e).toNat) ∨
  (∃ s o e : Int, (0 ≤ s ∧ s < k 2) ∧ ¬ q_sta k (k (212 + 4 * s + 1).toNat) ∧ (0 ≤ o ∧ o < k 2) ∧ (0 ≤ e ∧ e ≤ 9) ∧ o ≠ s ∧ v (100 * (o + 1) + 10 * k (212 + 4 * s + 1).toNat + e).toNat ≤ 0 ∧ n = (100 * (o + 1) + 10 * k (212 + 4 * s).toNat + e).toNat ∧ w = k (212 + 4 * s + 2).toNat + v (100 * (o + 1) + 10 * k (212 + 4 * s + 1).toNat + e).toNat) ∨
  (∃ s e : Int, (0 ≤ s ∧ s < k 2) ∧ ¬ q_sta k (k (212 + 4 * s + 1).toNat) ∧ (0 ≤ e ∧ e ≤ 9) ∧ v (100 * (s + 1) + 10 * e + k (212 + 4 * s).toNat).toNat < 1000000 ∧ -(k (212 + 4 * s + 2).toNat) ≤ v (100 * (s + 1) + 10 * e + k (212 + 4 * s).toNat).toNat ∧ n = (10 * e + k (212 + 4 * s).toNat).toNat ∧ w = v (100 * (s + 1) + 10 * e + k (212 + 4 * s).toNat).toNat)
theorem m_z0 {f c : Int} : (100 * 0 + 10 * f + c : Int).toNat = (10 * f + c).toNat := by omega
