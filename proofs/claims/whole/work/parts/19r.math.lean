/-! mathematics that is owed, eighteenth part: ended spans' edges change no answer -/
theorem m_ps_ph0 {f g : Nat → Int} (h : q_ph 0 f = q_ph 0 g) : ∀ n : Nat, q_ps ((n : Int) + 1) f = q_ps ((n : Int) + 1) g := by
  intro n
  induction n with
  | zero =>
    have e : ∀ f : Nat → Int, q_ps (((0 : Nat) : Int) + 1) f = q_ph 0 f := by
      intro f
      rw [q_ps_s (by omega)]
      have e0 : q_ps ((0 : Nat) : Int) f = f := q_fr_0 (by omega)
      rw [e0]
      rfl
    rw [e, e, h]
  | succ n ih =>
    rw [show ((n + 1 : Nat) : Int) + 1 = ((n : Int) + 1) + 1 by omega, q_ps_s (c := (n : Int) + 1) (f := f) (by omega), q_ps_s (c := (n : Int) + 1) (f := g) (by omega), ih]
theorem m_ok_ph0 {f g : Nat → Int} (h : q_ph 0 f = q_ph 0 g) : q_ok f ↔ q_ok g := by
  have e := m_ps_ph0 h
  constructor
  · intro q c c1 c2
    have := q c c1 c2
    have ec := e c.toNat
    rw [Int.toNat_of_nonneg c1] at ec
    rw [← ec]
    exact this
  · intro q c c1 c2
    have := q c c1 c2
    have ec := e c.toNat
    rw [Int.toNat_of_nonneg c1] at ec
    rw [ec]
    exact this
theorem m_sgS_ok {k Y : Nat → Int} (hk : q_KR k) (hz : m_dz Y) (hs : m_sl k Y) : q_ok (q_fr (q_sgS k) 0 (k 2) Y) ↔ q_ok Y := by
  have h0 := hk.r0
  have key := q_fr_ind (f := q_sgS k) (a := 0) (n := k 2) (x := Y) (fun _ (u : Nat → Int) => q_ph 0 u = q_ph 0 Y ∧ m_dz u ∧ m_sl k u) (by omega) ⟨rfl, hz, hs⟩ (by
    intro s u s1 s2 hu
    obtain ⟨u1, u2, u3⟩ := hu
    have sp := hk.sp s1 s2
    unfold q_sgS
    by_cases g : q_sta k (k (212 + 4 * s + 1).toNat)
    · rw [q_if_t g]
      have en := hk.en s1 s2 g
      have fa := u3 (k (212 + 4 * s).toNat) (by omega) (by omega) en.1
      have fb := u3 (k (212 + 4 * s + 1).toNat) (by omega) (by omega) g
      have ra := (hk.st (e := k (212 + 4 * s).toNat) (by omega) (by omega)).1
      have rb := (hk.st (e := k (212 + 4 * s + 1).toNat) (by omega) (by omega)).1
      have k6 : k (6 + 0 : Int).toNat = 0 := h0.2.2.2.2.2.2.1
      refine ⟨?_, ?_, ?_⟩
      · rw [m_drop (sa := k (6 + k (212 + 4 * s).toNat).toNat) (sb := k (6 + k (212 + 4 * s + 1).toNat).toNat) (by omega) (by omega) (by omega) u2 fa.2 fa.1 fb.2 fb.1 (by omega) (fun q => by rw [q]; exact k6) en.2.1 en.2.2]
        exact u1
      · exact m_dz_eg (m_dz_eg u2 (by omega) (by omega) (by omega)) (by omega) (by omega) (by omega)
      · exact m_sl_le (m_sl_le u3 (fun n => m_eg_le n)) (fun n => m_eg_le n)
    · rw [q_if_f g]
      exact ⟨u1, u2, u3⟩)
  exact m_ok_ph0 key.1
theorem m_sgS_st {k : Nat → Int} {s e : Int} {f : Nat → Int} : q_sgS k s (q_stE k e f) = q_stE k e (q_sgS k s f) := by
  unfold q_sgS
  by_cases g : q_sta k (k (212 + 4 * s + 1).toNat)
  · rw [q_if_t g, q_if_t g]
    unfold q_stE
    by_cases h : q_sta k e
    · rw [q_if_t h, q_if_t h]
      rw [m_eg_comm (i := e) (j := 0), m_eg_comm (i := 0) (j := e), m_eg_comm (i := e) (j := 0), m_eg_comm (i := 0) (j := e)]
    · rw [q_if_f h, q_if_f h]
  · rw [q_if_f g, q_if_f g]
/-- the reference's square of strong control answers as without ended spans -/
theorem m_sgF_ok {k g : Nat → Int} {x : (Nat → Int) × (Nat → Int)} (hk : q_KR k) : q_ok (q_sgF k (q_clr g, x)) ↔ q_ok (q_fr (q_stE k) 1 (k 0) (q_sg k (q_p2 (k 2)) (q_clr g, x)).1) := by
  have h0 := hk.r0
  have hp2 := q_p2_r (a := k 2) (by omega) (by omega)
  have r := m_R1_sg (g := g) (x := x) (p := q_p2 (k 2)) hk (by omega)
  have sl := m_sl_st hk r.2
  have e : q_sgF k (q_clr g, x) = q_fr (q_sgS k) 0 (k 2) (q_fr (q_stE k) 1 (k 0) (q_sg k (q_p2 (k 2)) (q_clr g, x)).1) := by
    unfold q_sgF
    exact (q_fr_comm2 (f := q_stE k) (g := q_sgS k) (fun i j y _ _ _ _ => m_sgS_st)).symm
  have dz : m_dz (q_fr (q_stE k) 1 (k 0) (q_sg k (q_p2 (k 2)) (q_clr g, x)).1) := by
    refine q_fr_ind (f := q_stE k) (fun _ (u : Nat → Int) => m_dz u) (by omega) r.2 ?_
    intro i u i1 i2 hu
    unfold q_stE
    by_cases c : q_sta k i
    · rw [q_if_t c]
      exact m_dz_eg (m_dz_eg hu (by omega) (by omega) (by omega)) (by omega) (by omega) (by omega)
    · rw [q_if_f c]; exact hu
  rw [e]
  exact m_sgS_ok hk dz sl.1
