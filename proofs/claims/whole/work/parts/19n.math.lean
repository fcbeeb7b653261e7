/-! mathematics that is owed, fourteenth part: rounds of reductions as sets of candidates -/
def m_ml (f0 : Nat → Int) (S : Nat → Int → Prop) (f : Nat → Int) : Prop := ∀ n, f n ≤ f0 n ∧ (∀ w, S n w → f n ≤ w) ∧ (f n = f0 n ∨ S n (f n))
theorem m_ml_eq {f0 f g : Nat → Int} {S : Nat → Int → Prop} (hf : m_ml f0 S f) (hg : m_ml f0 S g) : f = g := by
  funext n
  obtain ⟨a1, a2, a3⟩ := hf n
  obtain ⟨b1, b2, b3⟩ := hg n
  rcases a3 with a | a <;> rcases b3 with b | b
  · rw [a, b]
  · have := a2 _ b; omega
  · have := b2 _ a; omega
  · have c1 := a2 _ b
    have c2 := b2 _ a
    omega
theorem m_ml_0 {f0 : Nat → Int} : m_ml f0 (fun _ _ => False) f0 := fun n => ⟨Int.le_refl _, fun _ q => q.elim, Or.inl rfl⟩
theorem m_ml_iff {f0 f : Nat → Int} {S T : Nat → Int → Prop} (h : ∀ n w, S n w ↔ T n w) (hf : m_ml f0 S f) : m_ml f0 T f := fun n => ⟨(hf n).1, fun w q => (hf n).2.1 w ((h n w).mpr q), (hf n).2.2.elim Or.inl (fun q => Or.inr ((h n _).mp q))⟩
/-- a step that adds candidates -/
def m_stp (T : Nat → Int → Prop) (g : (Nat → Int) → (Nat → Int)) : Prop := ∀ f0 S f, m_ml f0 S f → m_ml f0 (fun n w => S n w ∨ T n w) (g f)
theorem m_stp_lw {c w : Int} : m_stp (fun n v => n = c.toNat ∧ v = w) (fun f => q_lw f c w) := by
  intro f0 S f h n
  obtain ⟨a1, a2, a3⟩ := h n
  show q_lw f c w n ≤ f0 n ∧ (∀ v, (S n v ∨ (n = c.toNat ∧ v = w)) → q_lw f c w n ≤ v) ∧ (q_lw f c w n = f0 n ∨ S n (q_lw f c w n) ∨ (n = c.toNat ∧ q_lw f c w n = w))
  rw [m_lw_at]
  by_cases e : n = c.toNat
  · rw [if_pos e]
    refine ⟨by omega, ?_, ?_⟩
    · rintro v (q | ⟨-, q⟩)
      · have := a2 v q; omega
      · omega
    · by_cases g : w < f n
      · right; right
        exact ⟨e, by omega⟩
      · rw [show min (f n) w = f n by omega]
        rcases a3 with a | a
        · exact Or.inl a
        · exact Or.inr (Or.inl a)
  · rw [if_neg e]
    refine ⟨a1, ?_, ?_⟩
    · rintro v (q | ⟨q, -⟩)
      · exact a2 v q
      · exact absurd q e
    · rcases a3 with a | a
      · exact Or.inl a
      · exact Or.inr (Or.inl a)
theorem m_stp_if {p : Prop} {T : Nat → Int → Prop} {g : (Nat → Int) → (Nat → Int)} (h : p → m_stp T g) : m_stp (fun n w => p ∧ T n w) (fun f => q_if p (g f) f) := by
  intro f0 S f hf
  by_cases e : p
  · show m_ml f0 _ (q_if p (g f) f)
    rw [q_if_t e]
    exact m_ml_iff (fun n w => or_congr Iff.rfl ⟨fun q => ⟨e, q⟩, fun q => q.2⟩) (h e f0 S f hf)
  · show m_ml f0 _ (q_if p (g f) f)
    rw [q_if_f e]
    exact m_ml_iff (fun n w => ⟨Or.inl, fun q => q.elim id (fun q => absurd q.1 e)⟩) hf
theorem m_stp_ifn {p : Prop} {T : Nat → Int → Prop} {g : (Nat → Int) → (Nat → Int)} (h : ¬ p → m_stp T g) : m_stp (fun n w => ¬ p ∧ T n w) (fun f => q_if p f (g f)) := by
  intro f0 S f hf
  by_cases e : p
  · show m_ml f0 _ (q_if p f (g f))
    rw [q_if_t e]
    exact m_ml_iff (fun n w => ⟨Or.inl, fun q => q.elim id (fun q => absurd e q.1)⟩) hf
  · show m_ml f0 _ (q_if p f (g f))
    rw [q_if_f e]
    exact m_ml_iff (fun n w => or_congr Iff.rfl ⟨fun q => ⟨e, q⟩, fun q => q.2⟩) (h e f0 S f hf)
theorem m_stp_comp {T U : Nat → Int → Prop} {g h : (Nat → Int) → (Nat → Int)} (hg : m_stp T g) (hh : m_stp U h) : m_stp (fun n w => T n w ∨ U n w) (fun f => h (g f)) := by
  intro f0 S f hf
  exact m_ml_iff (fun n w => or_assoc) (hh f0 _ _ (hg f0 S f hf))
theorem m_stp_fr {T : Int → Nat → Int → Prop} {g : Int → (Nat → Int) → (Nat → Int)} {a m : Int} (h : ∀ i, a ≤ i → i < m → m_stp (T i) (g i)) : m_stp (fun n w => ∃ i, a ≤ i ∧ i < m ∧ T i n w) (fun f => q_fr g a m f) := by
  intro f0 S f hf
  show m_ml f0 _ (q_fr g a m f)
  rcases Int.lt_or_le m a with c | c
  · rw [q_fr_0 (by omega)]
    exact m_ml_iff (fun n w => ⟨Or.inl, fun q => q.elim id (fun ⟨i, h1, h2, _⟩ => by omega)⟩) hf
  · refine q_fr_ind (f := g) (fun j (y : Nat → Int) => m_ml f0 (fun n w => S n w ∨ ∃ i, a ≤ i ∧ i < j ∧ T i n w) y) c ?_ ?_
    · exact m_ml_iff (fun n w => ⟨Or.inl, fun q => q.elim id (fun ⟨i, h1, h2, _⟩ => by omega)⟩) hf
    · intro j y j1 j2 hy
      refine m_ml_iff (fun n w => ?_) (h j j1 j2 f0 _ y hy)
      constructor
      · rintro ((q | ⟨i, h1, h2, h3⟩) | q)
        · exact Or.inl q
        · exact Or.inr ⟨i, h1, by omega, h3⟩
        · exact Or.inr ⟨j, j1, by omega, q⟩
      · rintro (q | ⟨i, h1, h2, h3⟩)
        · exact Or.inl (Or.inl q)
        · by_cases e : i = j
          · rw [e] at h3; exact Or.inr h3
          · exact Or.inl (Or.inr ⟨i, h1, by omega, h3⟩)
/-- the class's parts of a round -/
theorem m_stp_av {r : Nat → Int} {z : Int} : m_stp (fun n w => ∃ i, 0 ≤ i ∧ i < z ∧ ∃ c, 0 ≤ c ∧ c < z ∧ ∃ t, 0 ≤ t ∧ t < z ∧ (r (10 * i + c).toNat ≠ 1000000000 ∧ r (10 * c + t).toNat ≠ 1000000000) ∧ n = (10 * i + t).toNat ∧ w = r (10 * i + c).toNat + r (10 * c + t).toNat) (fun f => q_av r z f) :=
  m_stp_fr (fun i _ _ => m_stp_fr (fun c _ _ => m_stp_fr (fun t _ _ => m_stp_if (fun _ => m_stp_lw))))
theorem m_stp_uu {V U : Nat → Int} {z s : Int} : m_stp (fun n w => ∃ c, 0 ≤ c ∧ c < z ∧ ∃ i, 0 ≤ i ∧ i < z ∧ (U (10 * s + c).toNat ≠ 1000000000 ∧ V (10 * i + c).toNat ≠ 1000000000) ∧ n = (10 * s + i).toNat ∧ w = V (10 * i + c).toNat + U (10 * s + c).toNat) (fun f => q_uu V U z s f) :=
  m_stp_fr (fun c _ _ => m_stp_fr (fun i _ _ => m_stp_if (fun _ => m_stp_lw)))
theorem m_stp_rl {k V : Nat → Int} {s : Int} : m_stp (fun n w => ∃ e, 0 ≤ e ∧ e < k 0 ∧ (e ≠ k (212 + 4 * s + 1).toNat ∧ V (10 * k (212 + 4 * s + 1).toNat + e).toNat ≤ 0) ∧ n = (10 * k (212 + 4 * s).toNat + e).toNat ∧ w = k (212 + 4 * s + 2).toNat + V (10 * k (212 + 4 * s + 1).toNat + e).toNat) (fun f => q_rl k V s f) :=
  m_stp_fr (fun e _ _ => m_stp_if (fun _ => m_stp_lw))
theorem m_stp_ra {k U : Nat → Int} {s : Int} : m_stp (fun n w => ∃ o, 0 ≤ o ∧ o < k 2 ∧ (o ≠ s ∧ U (10 * o + k (212 + 4 * s + 1).toNat).toNat ≤ 0) ∧ n = (10 * o + k (212 + 4 * s).toNat).toNat ∧ w = k (212 + 4 * s + 2).toNat + U (10 * o + k (212 + 4 * s + 1).toNat).toNat) (fun f => q_ra k U s f) :=
  m_stp_fr (fun o _ _ => m_stp_if (fun _ => m_stp_lw))
theorem m_stp_fu {k U : Nat → Int} {s : Int} : m_stp (fun n w => ∃ e, 0 ≤ e ∧ e < k 0 ∧ (U (10 * s + e).toNat ≠ 1000000000 ∧ -(k (212 + 4 * s + 2).toNat) ≤ U (10 * s + e).toNat) ∧ n = (10 * e + k (212 + 4 * s).toNat).toNat ∧ w = U (10 * s + e).toNat) (fun f => q_fu k U s f) :=
  m_stp_fr (fun e _ _ => m_stp_if (fun _ => m_stp_lw))
/-- the reference's round -/
theorem m_stp_rdF {k a : Nat → Int} : m_stp (fun n w => ∃ f, 0 ≤ f ∧ f < 10 ∧ ∃ c, 0 ≤ c ∧ c < 10 ∧ ¬ a (100 * 0 + 10 * f + c).toNat = 1000000 ∧ ∃ q, 0 ≤ q ∧ q < k 2 + 1 ∧ ∃ t, 0 ≤ t ∧ t < 10 ∧ a (100 * q + 10 * c + t).toNat < 1000000 ∧ n = (100 * q + 10 * f + t).toNat ∧ w = a (100 * 0 + 10 * f + c).toNat + a (100 * q + 10 * c + t).toNat) (fun v => q_fr (q_rdF k a) 0 10 v) :=
  m_stp_fr (fun f _ _ => m_stp_fr (fun c _ _ => m_stp_ifn (fun _ => m_stp_fr (fun q _ _ => m_stp_fr (fun t _ _ => m_stp_if (fun _ => m_stp_lw))))))
theorem m_stp_spn {k a : Nat → Int} {s : Int} : m_stp (fun n w => ∃ e, 0 ≤ e ∧ e < 10 ∧ ((((e ≠ k (212 + 4 * s + 1).toNat ∧ a (100 * 0 + 10 * k (212 + 4 * s + 1).toNat + e).toNat ≤ 0) ∧ n = (100 * 0 + 10 * k (212 + 4 * s).toNat + e).toNat ∧ w = k (212 + 4 * s + 2).toNat + a (100 * 0 + 10 * k (212 + 4 * s + 1).toNat + e).toNat) ∨ ∃ o, 0 ≤ o ∧ o < k 2 ∧ (o ≠ s ∧ a (100 * (o + 1) + 10 * k (212 + 4 * s + 1).toNat + e).toNat ≤ 0) ∧ n = (100 * (o + 1) + 10 * k (212 + 4 * s).toNat + e).toNat ∧ w = k (212 + 4 * s + 2).toNat + a (100 * (o + 1) + 10 * k (212 + 4 * s + 1).toNat + e).toNat) ∨ (a (100 * (s + 1) + 10 * e + k (212 + 4 * s).toNat).toNat < 1000000 ∧ -(k (212 + 4 * s + 2).toNat) ≤ a (100 * (s + 1) + 10 * e + k (212 + 4 * s).toNat).toNat) ∧ n = (100 * 0 + 10 * e + k (212 + 4 * s).toNat).toNat ∧ w = a (100 * (s + 1) + 10 * e + k (212 + 4 * s).toNat).toNat)) (fun v => q_spn k a s v) :=
  m_stp_fr (fun e _ _ => m_stp_comp (g := fun v => q_fr (q_spB k a s e) 0 (k 2) (q_spA k a s e v)) (h := q_spC k a s e) (m_stp_comp (g := q_spA k a s e) (h := fun v => q_fr (q_spB k a s e) 0 (k 2) v) (m_stp_if (fun _ => m_stp_lw)) (m_stp_fr (fun o _ _ => m_stp_if (fun _ => m_stp_lw)))) (m_stp_if (fun _ => m_stp_lw)))
