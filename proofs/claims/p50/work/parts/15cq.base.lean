/-! words and mathematics, each behind what it wants: chunk 17 -/
theorem m_cw3 {z A : Int} {D w W u : Nat → Int} (hz : 1 ≤ z ∧ z ≤ 10) (hD : m_DF z D) (hA : 10800 ≤ A ∧ A ≤ 1000000) (h0 : m_R3 z A D w W) : q_cw z (q_cp 100 W u) := by
  have h := m_R3_cp (u := u) hz.2 h0
  intro c c1 c2 hk
  have hd := m_okc_all3 hz hD hA h (m := c) (by omega) hk
  have m := m_chain3 hz hD hA h c.toNat (by omega) (fun c' g1 g2 => hd c' g1 (by omega))
  rw [Int.toNat_of_nonneg c1] at m
  obtain ⟨t1, t2⟩ := m.2.2 (by omega)
  intro n hn
  have e : n = (10 * ((n / 10 : Nat) : Int) + ((n % 10 : Nat) : Int)).toNat := by omega
  by_cases g : ((n / 10 : Nat) : Int) < z ∧ ((n % 10 : Nat) : Int) < z
  · have a := t1 ((n / 10 : Nat) : Int) ((n % 10 : Nat) : Int) (by omega) g.1 (by omega) g.2
    rw [← e] at a
    have b := m.2.1 n hn
    have v := q_N_v (x := q_ps c w n) (by omega)
    rw [a]
    exact v.2.2
  · have a := t2 ((n / 10 : Nat) : Int) ((n % 10 : Nat) : Int) (by omega) (by omega) (by omega) (by omega) (by omega)
    rw [← e] at a
    rw [a]
    omega
/-- the class's parts of a round -/
theorem m_stp_av {r : Nat → Int} {z : Int} : m_stp (fun n w => ∃ i, 0 ≤ i ∧ i < z ∧ ∃ c, 0 ≤ c ∧ c < z ∧ ∃ t, 0 ≤ t ∧ t < z ∧ (r (10 * i + c).toNat ≠ 1000000000 ∧ r (10 * c + t).toNat ≠ 1000000000) ∧ n = (10 * i + t).toNat ∧ w = r (10 * i + c).toNat + r (10 * c + t).toNat) (fun f => q_av r z f) :=
  m_stp_fr (fun i _ _ => m_stp_fr (fun c _ _ => m_stp_fr (fun t _ _ => m_stp_if (fun _ => m_stp_lw))))
theorem m_stp_rl {k V : Nat → Int} {s : Int} : m_stp (fun n w => ∃ e, 0 ≤ e ∧ e < k 0 ∧ (e ≠ k (212 + 4 * s + 1).toNat ∧ V (10 * k (212 + 4 * s + 1).toNat + e).toNat ≤ 0) ∧ n = (10 * k (212 + 4 * s).toNat + e).toNat ∧ w = k (212 + 4 * s + 2).toNat + V (10 * k (212 + 4 * s + 1).toNat + e).toNat) (fun f => q_rl k V s f) :=
  m_stp_fr (fun e _ _ => m_stp_if (fun _ => m_stp_lw))
theorem m_stp_fu {k U : Nat → Int} {s : Int} : m_stp (fun n w => ∃ e, 0 ≤ e ∧ e < k 0 ∧ (U (10 * s + e).toNat ≠ 1000000000 ∧ -(k (212 + 4 * s + 2).toNat) ≤ U (10 * s + e).toNat) ∧ n = (10 * e + k (212 + 4 * s).toNat).toNat ∧ w = U (10 * s + e).toNat) (fun f => q_fu k U s f) :=
  m_stp_fr (fun e _ _ => m_stp_if (fun _ => m_stp_lw))
theorem m_rn1 {k V U : Nat → Int} {x : (Nat → Int) × (Nat → Int)} : (q_rn k V U x).1 = q_fr (fun s f => q_if (q_sta k (k (212 + 4 * s + 1).toNat)) f (q_fu k U s (q_rl k V s f))) 0 (k 2) (q_av V (k 0) x.1) := by
  unfold q_rn
  refine q_fr_rel (f := q_osS k V U) (g := fun s f => q_if (q_sta k (k (212 + 4 * s + 1).toNat)) f (q_fu k U s (q_rl k V s f))) (fun (y : (Nat → Int) × (Nat → Int)) (f : Nat → Int) => y.1 = f) rfl ?_
  intro s y f s1 s2 h
  unfold q_osS
  by_cases g : q_sta k (k (212 + 4 * s + 1).toNat)
  · rw [q_if_t g, q_if_t g]; exact h
  · rw [q_if_f g, q_if_f g, ← h]
/-- the class's candidates -/
def m_Sc (k V U : Nat → Int) (n : Nat) (w : Int) : Prop :=
  (∃ f c t : Int, (0 ≤ f ∧ f < k 0) ∧ (0 ≤ c ∧ c < k 0) ∧ (0 ≤ t ∧ t < k 0) ∧ V (10 * f + c).toNat ≠ 1000000000 ∧ V (10 * c + t).toNat ≠ 1000000000 ∧ n = (10 * f + t).toNat ∧ w = V (10 * f + c).toNat + V (10 * c + t).toNat) ∨
  (∃ s e : Int, (0 ≤ s ∧ s < k 2) ∧ ¬ q_sta k (k (212 + 4 * s + 1).toNat) ∧ (0 ≤ e ∧ e < k 0) ∧ e ≠ k (212 + 4 * s + 1).toNat ∧ V (10 * k (212 + 4 * s + 1).toNat + e).toNat ≤ 0 ∧ n = (10 * k (212 + 4 * s).toNat + e).toNat ∧ w = k (212 + 4 * s + 2).toNat + V (10 * k (212 + 4 * s + 1).toNat + e).toNat) ∨
  (∃ s e : Int, (0 ≤ s ∧ s < k 2) ∧ ¬ q_sta k (k (212 + 4 * s + 1).toNat) ∧ (0 ≤ e ∧ e < k 0) ∧ U (10 * s + e).toNat ≠ 1000000000 ∧ -(k (212 + 4 * s + 2).toNat) ≤ U (10 * s + e).toNat ∧ n = (10 * e + k (212 + 4 * s).toNat).toNat ∧ w = U (10 * s + e).toNat)
theorem m_rn_V {k V U : Nat → Int} {x : (Nat → Int) × (Nat → Int)} : m_ml x.1 (m_Sc k V U) (q_rn k V U x).1 := by
  rw [m_rn1]
  have s := m_stp_comp (g := fun f => q_av V (k 0) f) (h := fun f => q_fr (fun s f => q_if (q_sta k (k (212 + 4 * s + 1).toNat)) f (q_fu k U s (q_rl k V s f))) 0 (k 2) f) (m_stp_av (r := V) (z := k 0)) (m_stp_fr (fun s _ _ => m_stp_ifn (p := q_sta k (k (212 + 4 * s + 1).toNat)) (g := fun f => q_fu k U s (q_rl k V s f)) (fun _ => m_stp_comp (g := fun f => q_rl k V s f) (h := fun f => q_fu k U s f) m_stp_rl m_stp_fu)))
  refine m_ml_iff (fun n w => ?_) (s x.1 _ x.1 m_ml_0)
  constructor
  · rintro (q | ⟨f, f1, f2, c, c1, c2, t, t1, t2, ⟨g1, g2⟩, g3, g4⟩ | ⟨s, s1, s2, so, ⟨e, e1, e2, ⟨g1, g2⟩, g3, g4⟩ | ⟨e, e1, e2, ⟨g1, g2⟩, g3, g4⟩⟩)
    · exact q.elim
    · exact Or.inl ⟨f, c, t, ⟨f1, f2⟩, ⟨c1, c2⟩, ⟨t1, t2⟩, g1, g2, g3, g4⟩
    · exact Or.inr (Or.inl ⟨s, e, ⟨s1, s2⟩, so, ⟨e1, e2⟩, g1, g2, g3, g4⟩)
    · exact Or.inr (Or.inr ⟨s, e, ⟨s1, s2⟩, so, ⟨e1, e2⟩, g1, g2, g3, g4⟩)
  · rintro (⟨f, c, t, f1, c1, t1, g1, g2, g3, g4⟩ | ⟨s, e, s1, so, e1, g1, g2, g3, g4⟩ | ⟨s, e, s1, so, e1, g1, g2, g3, g4⟩)
    · exact Or.inr (Or.inl ⟨f, f1.1, f1.2, c, c1.1, c1.2, t, t1.1, t1.2, ⟨g1, g2⟩, g3, g4⟩)
    · exact Or.inr (Or.inr ⟨s, s1.1, s1.2, so, Or.inl ⟨e, e1.1, e1.2, ⟨g1, g2⟩, g3, g4⟩⟩)
    · exact Or.inr (Or.inr ⟨s, s1.1, s1.2, so, Or.inr ⟨e, e1.1, e1.2, ⟨g1, g2⟩, g3, g4⟩⟩)
theorem m_stp_uu {V U : Nat → Int} {z s : Int} : m_stp (fun n w => ∃ c, 0 ≤ c ∧ c < z ∧ ∃ i, 0 ≤ i ∧ i < z ∧ (U (10 * s + c).toNat ≠ 1000000000 ∧ V (10 * i + c).toNat ≠ 1000000000) ∧ n = (10 * s + i).toNat ∧ w = V (10 * i + c).toNat + U (10 * s + c).toNat) (fun f => q_uu V U z s f) :=
  m_stp_fr (fun c _ _ => m_stp_fr (fun i _ _ => m_stp_if (fun _ => m_stp_lw)))
theorem m_stp_ra {k U : Nat → Int} {s : Int} : m_stp (fun n w => ∃ o, 0 ≤ o ∧ o < k 2 ∧ (o ≠ s ∧ U (10 * o + k (212 + 4 * s + 1).toNat).toNat ≤ 0) ∧ n = (10 * o + k (212 + 4 * s).toNat).toNat ∧ w = k (212 + 4 * s + 2).toNat + U (10 * o + k (212 + 4 * s + 1).toNat).toNat) (fun f => q_ra k U s f) :=
  m_stp_fr (fun o _ _ => m_stp_if (fun _ => m_stp_lw))
theorem m_rn2 {k V U : Nat → Int} {x : (Nat → Int) × (Nat → Int)} : (q_rn k V U x).2 = q_fr (fun s f => q_if (q_sta k (k (212 + 4 * s + 1).toNat)) f (q_ra k U s (q_uu V U (k 0) s f))) 0 (k 2) x.2 := by
  unfold q_rn
  refine q_fr_rel (f := q_osS k V U) (g := fun s f => q_if (q_sta k (k (212 + 4 * s + 1).toNat)) f (q_ra k U s (q_uu V U (k 0) s f))) (fun (y : (Nat → Int) × (Nat → Int)) (f : Nat → Int) => y.2 = f) rfl ?_
  intro s y f s1 s2 h
  unfold q_osS
  by_cases g : q_sta k (k (212 + 4 * s + 1).toNat)
  · rw [q_if_t g, q_if_t g]; exact h
  · rw [q_if_f g, q_if_f g, ← h]
def m_Su (k V U : Nat → Int) (n : Nat) (w : Int) : Prop :=
  (∃ s f c : Int, (0 ≤ s ∧ s < k 2) ∧ ¬ q_sta k (k (212 + 4 * s + 1).toNat) ∧ (0 ≤ f ∧ f < k 0) ∧ (0 ≤ c ∧ c < k 0) ∧ U (10 * s + c).toNat ≠ 1000000000 ∧ V (10 * f + c).toNat ≠ 1000000000 ∧ n = (10 * s + f).toNat ∧ w = V (10 * f + c).toNat + U (10 * s + c).toNat) ∨
  (∃ s o : Int, (0 ≤ s ∧ s < k 2) ∧ ¬ q_sta k (k (212 + 4 * s + 1).toNat) ∧ (0 ≤ o ∧ o < k 2) ∧ o ≠ s ∧ U (10 * o + k (212 + 4 * s + 1).toNat).toNat ≤ 0 ∧ n = (10 * o + k (212 + 4 * s).toNat).toNat ∧ w = k (212 + 4 * s + 2).toNat + U (10 * o + k (212 + 4 * s + 1).toNat).toNat)
theorem m_rn_U {k V U : Nat → Int} {x : (Nat → Int) × (Nat → Int)} : m_ml x.2 (m_Su k V U) (q_rn k V U x).2 := by
  rw [m_rn2]
  have s := m_stp_fr (a := 0) (m := k 2) (g := fun s f => q_if (q_sta k (k (212 + 4 * s + 1).toNat)) f (q_ra k U s (q_uu V U (k 0) s f))) (fun s _ _ => m_stp_ifn (p := q_sta k (k (212 + 4 * s + 1).toNat)) (g := fun f => q_ra k U s (q_uu V U (k 0) s f)) (fun _ => m_stp_comp (g := fun f => q_uu V U (k 0) s f) (h := fun f => q_ra k U s f) m_stp_uu m_stp_ra))
  refine m_ml_iff (fun n w => ?_) (s x.2 _ x.2 m_ml_0)
  constructor
  · rintro (q | ⟨s, s1, s2, so, ⟨c, c1, c2, f, f1, f2, ⟨g1, g2⟩, g3, g4⟩ | ⟨o, o1, o2, ⟨g1, g2⟩, g3, g4⟩⟩)
    · exact q.elim
    · exact Or.inl ⟨s, f, c, ⟨s1, s2⟩, so, ⟨f1, f2⟩, ⟨c1, c2⟩, g1, g2, g3, g4⟩
    · exact Or.inr ⟨s, o, ⟨s1, s2⟩, so, ⟨o1, o2⟩, g1, g2, g3, g4⟩
  · rintro (⟨s, f, c, s1, so, f1, c1, g1, g2, g3, g4⟩ | ⟨s, o, s1, so, o1, g1, g2, g3, g4⟩)
    · exact Or.inr ⟨s, s1.1, s1.2, so, Or.inl ⟨c, c1.1, c1.2, f, f1.1, f1.2, ⟨g1, g2⟩, g3, g4⟩⟩
    · exact Or.inr ⟨s, s1.1, s1.2, so, Or.inr ⟨o, o1.1, o1.2, ⟨g1, g2⟩, g3, g4⟩⟩
/-- the lesser of the old and of the same candidates is the same -/
theorem m_lock1 {f0 f g0 g : Nat → Int} {S T : Nat → Int → Prop} {n p : Nat} (hf : m_ml f0 S f) (hg : m_ml g0 T g) (e : g0 p = q_N (f0 n)) (b : f0 n ≤ 1000000) (h1 : ∀ w, S n w → T p w) (h2 : ∀ w, T p w → S n w ∧ w < 1000000) : g p = q_N (f n) := by
  obtain ⟨a1, a2, a3⟩ := hf n
  obtain ⟨b1, b2, b3⟩ := hg p
  rcases a3 with a | a
  · rcases b3 with b' | b'
    · rw [b', e, a]
    · obtain ⟨c1, c2⟩ := h2 _ b'
      have c3 := a2 _ c1
      rw [e] at b1
      unfold q_N at b1 ⊢
      split at b1 <;> split <;> omega
  · have t := h1 _ a
    have t2 := (h2 _ t).2
    have t3 := b2 _ t
    rcases b3 with b' | b'
    · rw [b', e] at t3 ⊢
      unfold q_N at t3 ⊢
      split at t3 <;> split <;> omega
    · obtain ⟨c1, c2⟩ := h2 _ b'
      have c3 := a2 _ c1
      unfold q_N
      split <;> omega
/-- the class's state stands for the values: sound readings -/
theorem m_VU_v {k v V U : Nat → Int} {m a : Int} {D : Nat → Int} (hk : q_KR k) (hD : m_DF (k 0) D) (hm : 0 ≤ m ∧ m ≤ a ∧ a ≤ 1000000) (hJ : m_J k D m a v) (h : q_VU k v V U) : (∀ i j : Int, 0 ≤ i → i < k 0 → 0 ≤ j → j < k 0 → (v (10 * i + j).toNat = 1000000 ∧ V (10 * i + j).toNat = 1000000000) ∨ (v (10 * i + j).toNat ≠ 1000000 ∧ V (10 * i + j).toNat = v (10 * i + j).toNat ∧ -10000000 ≤ v (10 * i + j).toNat ∧ v (10 * i + j).toNat ≤ 5400)) ∧ (∀ s e : Int, 0 ≤ s → s < k 2 → 0 ≤ e → e < k 0 → (v (100 * (s + 1) + 10 * e + k (212 + 4 * s).toNat).toNat = 1000000 ∧ U (10 * s + e).toNat = 1000000000) ∨ (v (100 * (s + 1) + 10 * e + k (212 + 4 * s).toNat).toNat ≠ 1000000 ∧ U (10 * s + e).toNat = v (100 * (s + 1) + 10 * e + k (212 + 4 * s).toNat).toNat ∧ -10000000 ≤ v (100 * (s + 1) + 10 * e + k (212 + 4 * s).toNat).toNat ∧ v (100 * (s + 1) + 10 * e + k (212 + 4 * s).toNat).toNat ≤ 5400)) := by
  have h0 := hk.r0
  refine ⟨?_, ?_⟩
  · intro i j i1 i2 j1 j2
    have a1 := h.1 i j i1 i2 j1 j2
    rw [m_z0] at a1
    have a2 := m_F_r hD ⟨hm.1, hm.2.1⟩ hJ.1 (n := (10 * i + j).toNat) (by omega)
    unfold q_N at a1
    split at a1
    · rename_i g; exact Or.inl ⟨g, a1⟩
    · rename_i g; exact Or.inr ⟨g, a1, by omega, by omega⟩
  · intro s e s1 s2 e1 e2
    have sp := hk.sp s1 s2
    have a1 := h.2 s e s1 s2 e1 e2
    have a2 := m_J_u hk hD ⟨hm.1, hm.2.1⟩ hJ (s := s) (i := e) (t := k (212 + 4 * s).toNat) (by omega) (by omega) (by omega)
    unfold q_N at a1
    split at a1
    · rename_i g; exact Or.inl ⟨g, a1⟩
    · rename_i g; exact Or.inr ⟨g, a1, by omega, by omega⟩
section LOCK
variable {k v V U D : Nat → Int} {m a : Int}
theorem m_cV1 (hk : q_KR k) (hD : m_DF (k 0) D) (hm : 0 ≤ m ∧ m ≤ a ∧ a ≤ 1000000) (hJ : m_J k D m a v) (h : q_VU k v V U) {n : Nat} {w : Int} (q : m_Sc k V U n w) : (∃ i j : Int, (0 ≤ i ∧ i < k 0) ∧ (0 ≤ j ∧ j < k 0) ∧ n = (10 * i + j).toNat) ∧ m_Sv k v n w ∧ w < 1000000 ∧ -1000000000 ≤ w := by
  have h0 := hk.r0
  obtain ⟨r1, r2⟩ := m_VU_v hk hD hm hJ h
  rcases q with ⟨f, c, t, f1, c1, t1, g1, g2, g3, g4⟩ | ⟨s, e, s1, so, e1, g1, g2, g3, g4⟩ | ⟨s, e, s1, so, e1, g1, g2, g3, g4⟩
  · have a1 := r1 f c f1.1 f1.2 c1.1 c1.2
    have a2 := r1 c t c1.1 c1.2 t1.1 t1.2
    refine ⟨⟨f, t, f1, t1, g3⟩, Or.inl ⟨f, c, t, by omega, by omega, by omega, by omega, by omega, g3, by omega⟩, by omega, by omega⟩
  · have sp := hk.sp s1.1 s1.2
    have a1 := r1 (k (212 + 4 * s + 1).toNat) e (by omega) (by omega) e1.1 e1.2
    refine ⟨⟨k (212 + 4 * s).toNat, e, by omega, e1, g3⟩, Or.inr (Or.inr (Or.inl ⟨s, e, s1, so, by omega, g1, by omega, g3, by omega⟩)), by omega, by omega⟩
  · have sp := hk.sp s1.1 s1.2
    have a1 := r2 s e s1.1 s1.2 e1.1 e1.2
    refine ⟨⟨e, k (212 + 4 * s).toNat, e1, by omega, g3⟩, Or.inr (Or.inr (Or.inr (Or.inr ⟨s, e, s1, so, by omega, by omega, by omega, g3, by omega⟩))), by omega, by omega⟩
theorem m_cV2 (hk : q_KR k) (hD : m_DF (k 0) D) (hm : 0 ≤ m ∧ m ≤ a ∧ a ≤ 1000000) (hJ : m_J k D m a v) (h : q_VU k v V U) {i j w : Int} (hi : 0 ≤ i ∧ i < k 0) (hj : 0 ≤ j ∧ j < k 0) (q : m_Sv k v (10 * i + j).toNat w) : m_Sc k V U (10 * i + j).toNat w := by
  have h0 := hk.r0
  obtain ⟨r1, r2⟩ := m_VU_v hk hD hm hJ h
  rcases q with ⟨f, c, t, f1, c1, t1, g1, g2, g3, g4⟩ | ⟨s, f, c, t, s1, f1, c1, t1, g1, g2, g3, g4⟩ | ⟨s, e, s1, so, e1, g1, g2, g3, g4⟩ | ⟨s, o, e, s1, so, o1, e1, g1, g2, g3, g4⟩ | ⟨s, e, s1, so, e1, g1, g2, g3, g4⟩
  · have e1 : f = i := by omega
    have e2 : t = j := by omega
    rw [e1] at g1 g3 g4
    rw [e2] at g2 g3 g4
    have b := m_F_r hD ⟨hm.1, hm.2.1⟩ hJ.1 (n := (10 * i + c).toNat) (by omega)
    have p1 := ((hJ.1 i c hi.1 (by omega) c1.1 c1.2).2 (by omega)).1
    have c2 : c < k 0 := by
      rcases Int.lt_or_le c (k 0) with g | g
      · exact g
      · have o := hD.2.2.2 i c hi.1 (by omega) c1.1 c1.2 (Or.inr g)
        rw [if_neg (by omega)] at o
        omega
    have a1 := r1 i c hi.1 hi.2 c1.1 c2
    have a2 := r1 c j c1.1 c2 hj.1 hj.2
    exact Or.inl ⟨i, c, j, hi, ⟨c1.1, c2⟩, hj, by omega, by omega, rfl, by omega⟩
  · exfalso; omega
  · have sp := hk.sp s1.1 s1.2
    have e3 : e = j := by omega
    have a1 := r1 (k (212 + 4 * s + 1).toNat) e (by omega) (by omega) (by omega) (by omega)
    exact Or.inr (Or.inl ⟨s, e, s1, so, by omega, g1, by omega, g3, by omega⟩)
  · exfalso
    have sp := hk.sp s1.1 s1.2
    omega
  · have sp := hk.sp s1.1 s1.2
    have e3 : e = i := by omega
    have a1 := r2 s e s1.1 s1.2 (by omega) (by omega)
    exact Or.inr (Or.inr ⟨s, e, s1, so, by omega, by omega, by omega, g3, by omega⟩)
theorem m_cU1 (hk : q_KR k) (hD : m_DF (k 0) D) (hm : 0 ≤ m ∧ m ≤ a ∧ a ≤ 1000000) (hJ : m_J k D m a v) (h : q_VU k v V U) {n : Nat} {w : Int} (q : m_Su k V U n w) : ∃ s i : Int, (0 ≤ s ∧ s < k 2) ∧ (0 ≤ i ∧ i < k 0) ∧ n = (10 * s + i).toNat ∧ m_Sv k v (100 * (s + 1) + 10 * i + k (212 + 4 * s).toNat).toNat w ∧ w < 1000000 ∧ -1000000000 ≤ w := by
  have h0 := hk.r0
  obtain ⟨r1, r2⟩ := m_VU_v hk hD hm hJ h
  rcases q with ⟨s, f, c, s1, so, f1, c1, g1, g2, g3, g4⟩ | ⟨s, o, s1, so, o1, g1, g2, g3, g4⟩
  · have sp := hk.sp s1.1 s1.2
    have a1 := r1 f c f1.1 f1.2 c1.1 c1.2
    have a2 := r2 s c s1.1 s1.2 c1.1 c1.2
    exact ⟨s, f, s1, f1, g3, Or.inr (Or.inl ⟨s, f, c, k (212 + 4 * s).toNat, s1, by omega, by omega, by omega, by omega, by omega, rfl, by omega⟩), by omega, by omega⟩
  · have sp := hk.sp s1.1 s1.2
    have sp2 := hk.sp o1.1 o1.2
    have a1 := r2 o (k (212 + 4 * s + 1).toNat) o1.1 o1.2 (by omega) (by omega)
    exact ⟨o, k (212 + 4 * s).toNat, o1, by omega, g3, Or.inr (Or.inr (Or.inr (Or.inl ⟨s, o, k (212 + 4 * o).toNat, s1, so, o1, by omega, g1, by omega, rfl, by omega⟩))), by omega, by omega⟩
theorem m_cU2 (hk : q_KR k) (hD : m_DF (k 0) D) (hm : 0 ≤ m ∧ m ≤ a ∧ a ≤ 1000000) (hJ : m_J k D m a v) (h : q_VU k v V U) {s i w : Int} (hs : 0 ≤ s ∧ s < k 2) (hi : 0 ≤ i ∧ i < k 0) (q : m_Sv k v (100 * (s + 1) + 10 * i + k (212 + 4 * s).toNat).toNat w) : m_Su k V U (10 * s + i).toNat w := by
  have h0 := hk.r0
  have sps := hk.sp hs.1 hs.2
  obtain ⟨r1, r2⟩ := m_VU_v hk hD hm hJ h
  rcases q with ⟨f, c, t, f1, c1, t1, g1, g2, g3, g4⟩ | ⟨s9, f, c, t, s1, f1, c1, t1, g1, g2, g3, g4⟩ | ⟨s9, e, s1, so, e1, g1, g2, g3, g4⟩ | ⟨s9, o, e, s1, so, o1, e1, g1, g2, g3, g4⟩ | ⟨s9, e, s1, so, e1, g1, g2, g3, g4⟩
  · exfalso; omega
  · have e1 : f = i := by omega
    have e2 : t = k (212 + 4 * s).toNat := by omega
    have e3 : s9 = s := by omega
    rw [e1] at g1 g4
    rw [e2, e3] at g2 g4
    have b := m_F_r hD ⟨hm.1, hm.2.1⟩ hJ.1 (n := (10 * i + c).toNat) (by omega)
    have p1 := ((hJ.1 i c hi.1 (by omega) c1.1 c1.2).2 (by omega)).1
    have c2 : c < k 0 := by
      rcases Int.lt_or_le c (k 0) with g | g
      · exact g
      · have o := hD.2.2.2 i c hi.1 (by omega) c1.1 c1.2 (Or.inr g)
        rw [if_neg (by omega)] at o
        omega
    have a1 := r1 i c hi.1 hi.2 c1.1 c2
    have a2 := r2 s c hs.1 hs.2 c1.1 c2
    rcases hJ.2.2.1 s c (k (212 + 4 * s).toNat) hs.1 (by omega) c1.1 c1.2 (by omega) (by omega) with q | ⟨⟨q1, q2, q3⟩, q4, q5, q6⟩
    · exfalso; omega
    · exact Or.inl ⟨s, i, c, hs, q2, hi, ⟨c1.1, c2⟩, by omega, by omega, rfl, by omega⟩
  · exfalso
    have sp := hk.sp s1.1 s1.2
    omega
  · have sp := hk.sp s1.1 s1.2
    have e5 : o = s := by omega
    have e2 : k (212 + 4 * s9).toNat = i := by omega
    have e3 : e = k (212 + 4 * s).toNat := by omega
    rw [e5, e3] at g2 g4
    rw [e5] at g1
    have a1 := r2 s (k (212 + 4 * s9 + 1).toNat) hs.1 hs.2 (by omega) (by omega)
    exact Or.inr ⟨s9, s, s1, so, hs, g1, by omega, by omega, by omega⟩
  · exfalso
    have sp := hk.sp s1.1 s1.2
    omega
/-- a round in lockstep -/
theorem m_lock (hk : q_KR k) (hD : m_DF (k 0) D) (hm : 0 ≤ m ∧ m ≤ a ∧ a ≤ 1000000) (hJ : m_J k D m a v) (h : q_VU k v V U) {v2 X Y X2 Y2 : Nat → Int} (mv : m_ml v (m_Sv k v) v2) (mX : m_ml X (m_Sc k V U) X2) (mY : m_ml Y (m_Su k V U) Y2) (eX : ∀ n, n < 100 → X n = V n) (eY : ∀ n, n < 30 → Y n = U n) : q_VU k v2 X2 Y2 := by
  have h0 := hk.r0
  obtain ⟨r1, r2⟩ := m_VU_v hk hD hm hJ h
  refine ⟨?_, ?_⟩
  · intro i j i1 i2 j1 j2
    rw [m_z0]
    refine m_lock1 mv mX ?_ ?_ (fun w q => m_cV2 hk hD hm hJ h ⟨i1, i2⟩ ⟨j1, j2⟩ q) (fun w q => ?_)
    · rw [eX _ (by omega), h.1 i j i1 i2 j1 j2, m_z0]
    · have := r1 i j i1 i2 j1 j2; omega
    · have c := m_cV1 hk hD hm hJ h q
      exact ⟨c.2.1, c.2.2.1⟩
  · intro s e s1 s2 e1 e2
    have sp := hk.sp s1 s2
    refine m_lock1 mv mY ?_ ?_ (fun w q => m_cU2 hk hD hm hJ h ⟨s1, s2⟩ ⟨e1, e2⟩ q) (fun w q => ?_)
    · rw [eY _ (by omega), h.2 s e s1 s2 e1 e2]
    · have := r2 s e s1 s2 e1 e2; omega
    · obtain ⟨s9, i9, c1, c2, c3, c4, c5, c6⟩ := m_cU1 hk hD hm hJ h q
      have e5 : s9 = s := by omega
      have e6 : i9 = e := by omega
      rw [e5, e6] at c4
      exact ⟨c4, c5⟩
end LOCK
/-- values and upper edges as one net -/
theorem m_wz_ml {k V U r : Nat → Int} : m_ml (q_ncl (k 0) r) (fun n w => ∃ i, 0 ≤ i ∧ i < k 0 ∧ ((∃ j, 0 ≤ j ∧ j < k 0 ∧ n = (10 * i + j).toNat ∧ w = V (10 * i + j).toNat) ∨ ∃ s, 0 ≤ s ∧ s < k 2 ∧ n = (10 * i + k (212 + 4 * s).toNat).toNat ∧ w = U (10 * s + i).toNat)) (q_wz k V U r) := by
  have s := m_stp_fr (a := 0) (m := k 0) (g := q_wzI k V U) (fun i _ _ => m_stp_comp (g := fun f => q_fr (q_wzT V i) 0 (k 0) f) (h := fun f => q_fr (q_wzS k U i) 0 (k 2) f) (m_stp_fr (fun j _ _ => m_stp_lw (c := 10 * i + j) (w := V (10 * i + j).toNat))) (m_stp_fr (fun s _ _ => m_stp_lw (c := 10 * i + k (212 + 4 * s).toNat) (w := U (10 * s + i).toNat))))
  exact m_ml_iff (fun n w => ⟨fun q => q.elim (fun x => x.elim) id, Or.inr⟩) (s (q_ncl (k 0) r) _ _ m_ml_0)
theorem m_wz_R3 {k V U v r g D : Nat → Int} {A : Int} (hk : q_KR k) (hD : m_DF (k 0) D) (hS : m_DS k D) (hA : 10800 ≤ A ∧ A ≤ 1000000) (hJ : m_J k D 10800 A v) (h : q_VU k v V U) : m_R3 (k 0) A D (q_ir k v g) (q_wz k V U r) := by
  have h0 := hk.r0
  have F := m_ir_F (g := g) hk hD hS hJ
  obtain ⟨r1, r2⟩ := m_VU_v hk hD (by omega) hJ h
  have ml := m_wz_ml (k := k) (V := V) (U := U) (r := r)
  have nc : ∀ n : Nat, n < 100 → q_ncl (k 0) r n = if n % 11 = 0 ∧ (n : Int) < 11 * k 0 then 0 else 1000000000 := fun n hn => if_pos hn
  refine ⟨?_, F.2, F.1, ?_⟩
  · intro i j i1 i2 j1 j2
    obtain ⟨a1, a2, a3⟩ := ml (10 * i + j).toNat
    obtain ⟨b1, b2, b3⟩ := m_ir_at (v := v) (f := g) hk (10 * i + j).toNat (by omega)
    have c0 := b1 0 (by omega) (by omega)
    rw [show (100 * (0 : Int) + ((10 * i + j).toNat : Nat)).toNat = (10 * i + j).toNat by omega] at c0
    have av := a2 (V (10 * i + j).toNat) ⟨i, i1, i2, Or.inl ⟨j, j1, j2, rfl, rfl⟩⟩
    have rv := r1 i j i1 i2 j1 j2
    have f := (hJ.1 i j i1 (by omega) j1 (by omega)).1
    have nn := nc (10 * i + j).toNat (by omega)
    have hm := m_mod (i := i) (j := j) (by omega) (by omega)
    -- the class's place is at most the reference's
    have le1 : q_wz k V U r (10 * i + j).toNat ≤ q_N (q_ir k v g (10 * i + j).toNat) := by
      rcases b3 with b | ⟨q, q1, q2, q3⟩
      · rw [b]
        have e : q_N 1000000 = 1000000000 := rfl
        rw [e]
        refine Int.le_trans a1 ?_
        rw [nn]
        split <;> omega
      · by_cases z : q = 0
        · rw [z, show (100 * (0 : Int) + ((10 * i + j).toNat : Nat)).toNat = (10 * i + j).toNat by omega] at q3
          rw [q3]
          unfold q_N
          split <;> omega
        · rw [show (100 * q + ((10 * i + j).toNat : Nat)).toNat = (100 * (q - 1 + 1) + 10 * i + j).toNat by omega] at q3
          rcases hJ.2.2.1 (q - 1) i j (by omega) (by omega) i1 (by omega) j1 (by omega) with e | ⟨⟨p1, p2, p3⟩, p4, p5, p6⟩
          · rw [e] at q3
            rw [q3]
            unfold q_N
            split <;> omega
          · have au := a2 (U (10 * (q - 1) + i).toNat) ⟨i, i1, i2, Or.inr ⟨q - 1, by omega, p1, by rw [p3], rfl⟩⟩
            have ru := r2 (q - 1) i (by omega) p1 i1 i2
            rw [← p3] at ru
            rw [q3]
            unfold q_N
            split <;> omega
    have le2 : q_N (q_ir k v g (10 * i + j).toNat) ≤ q_wz k V U r (10 * i + j).toNat := by
      rcases a3 with e | ⟨i9, i3, i4, ⟨j9, j3, j4, e1, e2⟩ | ⟨s, s1, s2, e1, e2⟩⟩
      · rw [e, nn]
        by_cases d : i = j
        · rw [if_pos ⟨hm.mpr d, by omega⟩]
          rw [← d] at f c0 ⊢
          have dd := hD.2.1 i i1 (by omega)
          unfold q_N
          split <;> omega
        · rw [if_neg (fun q => d (hm.mp q.1))]
          unfold q_N
          split <;> omega
      · have x1 : i9 = i := by omega
        have x2 : j9 = j := by omega
        rw [x1, x2] at e2
        rw [e2]
        unfold q_N
        split <;> omega
      · have sp := hk.sp s1 s2
        have x1 : i9 = i := by omega
        have x2 : k (212 + 4 * s).toNat = j := by omega
        rw [x1] at e2
        have ru := r2 s i s1 s2 i1 i2
        rw [x2] at ru
        have c1 := b1 (s + 1) (by omega) (by omega)
        rw [show (100 * (s + 1) + ((10 * i + j).toNat : Nat)).toNat = (100 * (s + 1) + 10 * i + j).toNat by omega] at c1
        rw [e2]
        unfold q_N
        split <;> omega
    omega
  · intro i j i1 i2 j1 j2 c
    obtain ⟨a1, a2, a3⟩ := ml (10 * i + j).toNat
    have nn := nc (10 * i + j).toNat (by omega)
    have hm := m_mod (i := i) (j := j) (by omega) (by omega)
    rcases a3 with e | ⟨i9, i3, i4, ⟨j9, j3, j4, e1, e2⟩ | ⟨s, s1, s2, e1, e2⟩⟩
    · rw [e, nn, if_neg (by omega)]
    · exfalso; omega
    · exfalso
      have sp := hk.sp s1 s2
      omega
