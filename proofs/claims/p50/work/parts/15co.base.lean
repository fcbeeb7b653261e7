/-! words and mathematics, each behind what it wants: chunk 15 -/
theorem q_rbK_n {r h : Nat → Int} {e : Int} (he : 0 ≤ e) (hb : q_rb r h e) : q_rb (pz_up r e.toNat e) (pz_up h e.toNat 0) (e + 1) := by
  intro i g1 g2
  by_cases g : i = e
  · rw [g, pz_up_eq, pz_up_eq]
    omega
  · rw [pz_up_ne (by omega), pz_up_ne (by omega)]
    exact hb i g1 (by omega)
theorem q_rbK_y {r h : Nat → Int} {e f g x : Int} (he : 0 ≤ e) (hb : q_rb r h e) (hg : g = f) (hf : 0 ≤ f ∧ f < e) (hx : 1 ≤ x ∧ x ≤ 200) : q_rb (pz_up (pz_up r e.toNat e) e.toNat (pz_up r e.toNat e g.toNat)) (pz_up (pz_up h e.toNat 0) e.toNat (pz_up h e.toNat 0 g.toNat + x)) (e + 1) := by
  have h2 := hb f hf.1 hf.2
  intro i g1 g2
  by_cases g3 : i = e
  · rw [g3, hg, pz_up_eq, pz_up_eq, pz_up_ne (by omega), pz_up_ne (by omega)]
    omega
  · rw [pz_up_ne (by omega), pz_up_ne (by omega), pz_up_ne (by omega), pz_up_ne (by omega)]
    exact hb i g1 (by omega)
theorem q_rtK_rb {k r h : Nat → Int} {p : Int} (hk : q_KR k) (hr : q_rtK k p r h 10) : q_rb r h 10 := by
  intro i g1 g2
  have h1 := hr i g1 g2
  rw [h1.1, h1.2]
  exact q_rt_r (p := p) (x := (fun _ => 0, fun _ => 0)) hk i g1 g2
theorem q_by3 {p : Prop} {f : Nat → Int} {b : Nat} (h : pz_up f b (pz_bi p) b ≠ 0) : p := by
  rw [pz_up_eq] at h
  exact pz_bi_ne h
theorem q_bn3 {p : Prop} {f : Nat → Int} {b : Nat} (h : pz_up f b (pz_bi p) b = 0) : ¬ p := by
  rw [pz_up_eq] at h
  exact pz_bi_eq h
theorem q_fr_id {α : Type} {f : Int → α → α} {a n : Int} {x : α} (h : ∀ i y, a ≤ i → i < n → f i y = y) : q_fr f a n x = x := by
  rcases Int.lt_or_le n a with g | g
  · exact q_fr_0 (by omega)
  · exact q_fr_ind (f := f) (fun _ y => y = x) g rfl (fun i y h1 h2 h3 => by rw [h i y h1 h2, h3])
def q_ka (k : Nat → Int) : Nat → Int := fun j => k (6 + j)
theorem q_ka_e {k : Nat → Int} {e : Int} (h : 0 ≤ e) : q_ka k e.toNat = k (6 + e).toNat := by
  unfold q_ka
  rw [show 6 + e.toNat = (6 + e).toNat by omega]
def q_VU (k v V U : Nat → Int) : Prop := (∀ i j : Int, 0 ≤ i → i < k 0 → 0 ≤ j → j < k 0 → V (10 * i + j).toNat = q_N (v (100 * 0 + 10 * i + j).toNat)) ∧ ∀ s e : Int, 0 ≤ s → s < k 2 → 0 ≤ e → e < k 0 → U (10 * s + e).toNat = q_N (v (100 * (s + 1) + 10 * e + k (212 + 4 * s).toNat).toNat)
theorem q_we_ie {k : Nat → Int} {e : Int} (h : 0 ≤ k 2) : q_we k e ≠ -1 ↔ q_ie k e := by
  rcases q_we_spec (k := k) (e := e) h with ⟨g1, g2⟩ | ⟨g1, g2, g3, -⟩
  · exact ⟨fun q => absurd g1 q, fun ⟨s, h1, h2, h3⟩ => absurd h3 (g2 s h1 h2)⟩
  · exact ⟨fun _ => ⟨q_we k e, g1, g2, g3⟩, fun _ => by omega⟩
def q_rng (n : Nat) (r : Nat → Int) : Prop := ∀ j : Nat, j < n → -1000000000 ≤ r j ∧ r j ≤ 1000000000
noncomputable def q_aT (r : Nat → Int) (i c t : Int) (f : Nat → Int) : Nat → Int := q_if (r (10 * i + c).toNat ≠ 1000000000 ∧ r (10 * c + t).toNat ≠ 1000000000) (q_lw f (10 * i + t) (r (10 * i + c).toNat + r (10 * c + t).toNat)) f
noncomputable def q_aC (r : Nat → Int) (z i c : Int) (f : Nat → Int) : Nat → Int := q_fr (q_aT r i c) 0 z f
noncomputable def q_aI (r : Nat → Int) (z i : Int) (f : Nat → Int) : Nat → Int := q_fr (q_aC r z i) 0 z f
noncomputable def q_av (r : Nat → Int) (z : Int) (f : Nat → Int) : Nat → Int := q_fr (q_aI r z) 0 z f
noncomputable def q_uT (V U : Nat → Int) (s c i : Int) (f : Nat → Int) : Nat → Int := q_if (U (10 * s + c).toNat ≠ 1000000000 ∧ V (10 * i + c).toNat ≠ 1000000000) (q_lw f (10 * s + i) (V (10 * i + c).toNat + U (10 * s + c).toNat)) f
noncomputable def q_uC (V U : Nat → Int) (z s c : Int) (f : Nat → Int) : Nat → Int := q_fr (q_uT V U s c) 0 z f
noncomputable def q_uu (V U : Nat → Int) (z s : Int) (f : Nat → Int) : Nat → Int := q_fr (q_uC V U z s) 0 z f
noncomputable def q_rlE (k V : Nat → Int) (s e : Int) (f : Nat → Int) : Nat → Int := q_if (e ≠ k (212 + 4 * s + 1).toNat ∧ V (10 * k (212 + 4 * s + 1).toNat + e).toNat ≤ 0) (q_lw f (10 * k (212 + 4 * s).toNat + e) (k (212 + 4 * s + 2).toNat + V (10 * k (212 + 4 * s + 1).toNat + e).toNat)) f
noncomputable def q_rl (k V : Nat → Int) (s : Int) (f : Nat → Int) : Nat → Int := q_fr (q_rlE k V s) 0 (k 0) f
noncomputable def q_raE (k U : Nat → Int) (s o : Int) (f : Nat → Int) : Nat → Int := q_if (o ≠ s ∧ U (10 * o + k (212 + 4 * s + 1).toNat).toNat ≤ 0) (q_lw f (10 * o + k (212 + 4 * s).toNat) (k (212 + 4 * s + 2).toNat + U (10 * o + k (212 + 4 * s + 1).toNat).toNat)) f
noncomputable def q_ra (k U : Nat → Int) (s : Int) (f : Nat → Int) : Nat → Int := q_fr (q_raE k U s) 0 (k 2) f
noncomputable def q_fuE (k U : Nat → Int) (s e : Int) (f : Nat → Int) : Nat → Int := q_if (U (10 * s + e).toNat ≠ 1000000000 ∧ -(k (212 + 4 * s + 2).toNat) ≤ U (10 * s + e).toNat) (q_lw f (10 * e + k (212 + 4 * s).toNat) (U (10 * s + e).toNat)) f
noncomputable def q_fu (k U : Nat → Int) (s : Int) (f : Nat → Int) : Nat → Int := q_fr (q_fuE k U s) 0 (k 0) f
/-- one open span's part of a round: next values, next upper edges -/
noncomputable def q_osS (k V U : Nat → Int) (s : Int) (x : (Nat → Int) × (Nat → Int)) : (Nat → Int) × (Nat → Int) := q_if (q_sta k (k (212 + 4 * s + 1).toNat)) x (q_fu k U s (q_rl k V s x.1), q_ra k U s (q_uu V U (k 0) s x.2))
noncomputable def q_rn (k V U : Nat → Int) (x : (Nat → Int) × (Nat → Int)) : (Nat → Int) × (Nat → Int) := q_fr (q_osS k V U) 0 (k 2) (q_av V (k 0) x.1, x.2)
/-- whether something was lowered since f0, u0; the other fields stay -/
def q_mvP (m0 f0 u0 f u m : Nat → Int) : Prop := (m 3 = 0 ∨ m 3 = 1) ∧ (m 3 = 0 → f = f0 ∧ u = u0) ∧ (∀ n, f n ≤ f0 n ∧ u n ≤ u0 n) ∧ (m 3 = 1 → ∃ n, f n < f0 n ∨ u n < u0 n) ∧ ∀ j, j ≠ 3 → m j = m0 j
theorem q_lw_le {f : Nat → Int} {c w : Int} (n : Nat) : q_lw f c w n ≤ f n := by
  by_cases h : w < f c.toNat
  · rw [q_lw_y h, pz_up_at]
    split
    · rename_i g; rw [g]; omega
    · omega
  · rw [q_lw_n h]; omega
theorem q_mv_v {m0 f0 u0 f u m : Nat → Int} {c w : Int} (h : q_mvP m0 f0 u0 f u m) : q_mvP m0 f0 u0 (q_lw f c w) u (q_if (w < f c.toNat) (pz_up m 3 1) m) := by
  obtain ⟨h1, h2, h3, h4, h5⟩ := h
  by_cases g : w < f c.toNat
  · rw [q_if_t g, q_lw_y g]
    refine ⟨Or.inr pz_up_eq, fun q => by rw [pz_up_eq] at q; omega, fun n => ⟨?_, (h3 n).2⟩, fun _ => ⟨c.toNat, Or.inl ?_⟩, fun j hj => by rw [pz_up_ne hj]; exact h5 j hj⟩
    · rw [pz_up_at]
      split
      · rename_i e; have := (h3 n).1; rw [e] at *; omega
      · exact (h3 n).1
    · rw [pz_up_eq]; have := (h3 c.toNat).1; omega
  · rw [q_if_f g, q_lw_n g]
    exact ⟨h1, h2, h3, h4, h5⟩
theorem q_mv_u {m0 f0 u0 f u m : Nat → Int} {c w : Int} (h : q_mvP m0 f0 u0 f u m) : q_mvP m0 f0 u0 f (q_lw u c w) (q_if (w < u c.toNat) (pz_up m 3 1) m) := by
  obtain ⟨h1, h2, h3, h4, h5⟩ := h
  by_cases g : w < u c.toNat
  · rw [q_if_t g, q_lw_y g]
    refine ⟨Or.inr pz_up_eq, fun q => by rw [pz_up_eq] at q; omega, fun n => ⟨(h3 n).1, ?_⟩, fun _ => ⟨c.toNat, Or.inr ?_⟩, fun j hj => by rw [pz_up_ne hj]; exact h5 j hj⟩
    · rw [pz_up_at]
      split
      · rename_i e; have := (h3 n).2; rw [e] at *; omega
      · exact (h3 n).2
    · rw [pz_up_eq]; have := (h3 c.toNat).2; omega
  · rw [q_if_f g, q_lw_n g]
    exact ⟨h1, h2, h3, h4, h5⟩
/-- values and upper edges as one net -/
noncomputable def q_wzT (V : Nat → Int) (i j : Int) (f : Nat → Int) : Nat → Int := q_eg f i j (V (10 * i + j).toNat)
noncomputable def q_wzS (k U : Nat → Int) (i s : Int) (f : Nat → Int) : Nat → Int := q_eg f i (k (212 + 4 * s).toNat) (U (10 * s + i).toNat)
noncomputable def q_wzI (k V U : Nat → Int) (i : Int) (f : Nat → Int) : Nat → Int := q_fr (q_wzS k U i) 0 (k 2) (q_fr (q_wzT V i) 0 (k 0) f)
noncomputable def q_wz (k V U r : Nat → Int) : Nat → Int := q_fr (q_wzI k V U) 0 (k 0) (q_ncl (k 0) r)
/-- what is taken up ahead of the first round -/
noncomputable def q_tuS (k : Nat → Int) (s : Int) (u : Nat → Int) : Nat → Int := q_if (q_sta k (k (212 + 4 * s + 1).toNat)) u (pz_up u (10 * s + k (212 + 4 * s + 1).toNat).toNat (-(k (212 + 4 * s + 3).toNat)))
noncomputable def q_tu (k u : Nat → Int) : Nat → Int := q_fr (q_tuS k) 0 (k 2) (fun j => if j < 30 then 1000000000 else u j)
theorem q_mv_0 {m f u : Nat → Int} : q_mvP m f u f u (pz_up m 3 0) := ⟨Or.inl pz_up_eq, fun _ => ⟨rfl, rfl⟩, fun _ => ⟨Int.le_refl _, Int.le_refl _⟩, fun q => by rw [pz_up_eq] at q; omega, fun j hj => pz_up_ne hj⟩
theorem q_aT_id {r f : Nat → Int} {i c n : Int} (h : r (10 * i + c).toNat = 1000000000) : q_fr (q_aT r i c) 0 n f = f := q_fr_id (fun _ _ _ _ => q_if_f (fun q => q.1 h))
theorem q_uT_id {V U f : Nat → Int} {s c n : Int} (h : U (10 * s + c).toNat = 1000000000) : q_fr (q_uT V U s c) 0 n f = f := q_fr_id (fun _ _ _ _ => q_if_f (fun q => q.1 h))
def q_so (m n x : Int) : Int := if m < x then min n x else n
abbrev q_run (k a : Nat → Int) (s : Int) : Prop := a (k (212 + 4 * s).toNat).toNat ≠ -1 ∧ ¬ a (k (212 + 4 * s + 1).toNat).toNat ≠ -1
noncomputable def q_nwS (v k a : Nat → Int) (e m s n : Int) : Int := q_if (q_run k a s) (q_so m n (a (k (212 + 4 * s).toNat).toNat + q_wt v k e s)) n
noncomputable def q_nw (v k a : Nat → Int) (e m n : Int) : Int := q_fr (q_nwS v k a e m) 0 (k 2) n
noncomputable def q_neS (v k a : Nat → Int) (m e n : Int) : Int := q_if (a e.toNat = -1) (q_nw v k a e m (q_so m n (q_lo v a k e))) n
noncomputable def q_nsS (k a : Nat → Int) (p m s n : Int) : Int := q_if (q_run k a s) (q_so m n (a (k (212 + 4 * s).toNat).toNat + q_pck k p s)) n
noncomputable def q_nm (v k : Nat → Int) (p m : Int) (a : Nat → Int) : Int := q_fr (q_nsS k a p m) 0 (k 2) (q_fr (q_neS v k a m) 0 (k 0) 601)
theorem q_so_r {m n x : Int} (h : m < n ∧ n ≤ 601) : m < q_so m n x ∧ q_so m n x ≤ 601 := by
  unfold q_so
  split <;> omega
theorem q_nw_r {v k a : Nat → Int} {e m n : Int} (h : m < n ∧ n ≤ 601) (h2 : 0 ≤ k 2) : m < q_nw v k a e m n ∧ q_nw v k a e m n ≤ 601 := by
  refine q_fr_ind (f := q_nwS v k a e m) (fun _ x => m < x ∧ x ≤ 601) h2 h ?_
  intro s x g1 g2 g3
  unfold q_nwS
  by_cases g : q_run k a s
  · rw [q_if_t g]; exact q_so_r g3
  · rw [q_if_f g]; exact g3
theorem q_nm_r {v k a : Nat → Int} {p m : Int} (hk : q_KR k) (hm : m ≤ 600) : m < q_nm v k p m a ∧ q_nm v k p m a ≤ 601 := by
  have h0 := hk.r0
  refine q_fr_ind (f := q_nsS k a p m) (fun _ x => m < x ∧ x ≤ 601) (by omega) ?_ ?_
  · refine q_fr_ind (f := q_neS v k a m) (fun _ x => m < x ∧ x ≤ 601) (by omega) (by omega) ?_
    intro e x g1 g2 g3
    unfold q_neS
    by_cases g : a e.toNat = -1
    · rw [q_if_t g]; exact q_nw_r (q_so_r g3) (by omega)
    · rw [q_if_f g]; exact g3
  · intro s x g1 g2 g3
    unfold q_nsS
    by_cases g : q_run k a s
    · rw [q_if_t g]; exact q_so_r g3
    · rw [q_if_f g]; exact g3
theorem q_nx_eq {v k a : Nat → Int} {m e e' : Int} (h : q_nx v a k m e) (h' : q_nx v a k m e') : e = e' := by
  rcases h with ⟨h1, h2, h3, h4⟩ | ⟨h1, h2⟩ <;> rcases h' with ⟨g1, g2, g3, g4⟩ | ⟨g1, g2⟩
  · rcases Int.lt_trichotomy e e' with h | h | h
    · exact absurd h3 (g4 e h1 h)
    · exact h
    · exact absurd g3 (h4 e' g1 h)
  · exact absurd h3 (g2 e h1 h2)
  · exact absurd g3 (h2 e' g1 g2)
  · rw [h1, g1]
theorem q_nxt_is {v k a : Nat → Int} {m e : Int} (h : q_nx v a k m e) : q_nxt v k m a = e := q_nx_eq (Classical.epsilon_spec (p := q_nx v a k m) ⟨e, h⟩) h
theorem m_so_le {m n x : Int} : q_so m n x ≤ n ∧ (q_so m n x ≤ x ∨ x ≤ m) := by
  unfold q_so
  split <;> omega
theorem m_fso {P : Int → Prop} {f : Int → Int} {g : Int → Int → Int} {m a n x0 : Int} (hn : a ≤ n) (hg1 : ∀ i x, P i → g i x = q_so m x (f i)) (hg2 : ∀ i x, ¬ P i → g i x = x) : q_fr g a n x0 ≤ x0 ∧ ∀ i : Int, a ≤ i → i < n → P i → (q_fr g a n x0 ≤ f i ∨ f i ≤ m) := by
  refine q_fr_ind (f := g) (fun j x => x ≤ x0 ∧ ∀ i : Int, a ≤ i → i < j → P i → (x ≤ f i ∨ f i ≤ m)) hn ⟨Int.le_refl _, fun i h1 h2 => by omega⟩ ?_
  intro j x j1 j2 hx
  by_cases h : P j
  · rw [hg1 j x h]
    have s := m_so_le (m := m) (n := x) (x := f j)
    refine ⟨by omega, fun i i1 i2 hi => ?_⟩
    by_cases e : i = j
    · rw [e]; omega
    · have := hx.2 i i1 (by omega) hi
      omega
  · rw [hg2 j x h]
    refine ⟨hx.1, fun i i1 i2 hi => ?_⟩
    by_cases e : i = j
    · rw [e] at hi; exact absurd hi h
    · exact hx.2 i i1 (by omega) hi
theorem m_nw_le {v k a : Nat → Int} {e m n : Int} (h2 : 0 ≤ k 2) : q_nw v k a e m n ≤ n ∧ ∀ s : Int, 0 ≤ s → s < k 2 → q_run k a s → (q_nw v k a e m n ≤ a (k (212 + 4 * s).toNat).toNat + q_wt v k e s ∨ a (k (212 + 4 * s).toNat).toNat + q_wt v k e s ≤ m) :=
  m_fso (P := q_run k a) (f := fun s => a (k (212 + 4 * s).toNat).toNat + q_wt v k e s) (g := q_nwS v k a e m) h2 (fun i x h => q_if_t h) (fun i x h => q_if_f h)
theorem m_nm_le {v k a : Nat → Int} {p m : Int} (hk : q_KR k) : (∀ s : Int, 0 ≤ s → s < k 2 → q_run k a s → (q_nm v k p m a ≤ a (k (212 + 4 * s).toNat).toNat + q_pck k p s ∨ a (k (212 + 4 * s).toNat).toNat + q_pck k p s ≤ m)) ∧ (∀ e : Int, 0 ≤ e → e < k 0 → a e.toNat = -1 → (q_nm v k p m a ≤ q_lo v a k e ∨ q_lo v a k e ≤ m) ∧ ∀ s : Int, 0 ≤ s → s < k 2 → q_run k a s → (q_nm v k p m a ≤ a (k (212 + 4 * s).toNat).toNat + q_wt v k e s ∨ a (k (212 + 4 * s).toNat).toNat + q_wt v k e s ≤ m)) := by
  have h0 := hk.r0
  have A := m_fso (P := q_run k a) (f := fun s => a (k (212 + 4 * s).toNat).toNat + q_pck k p s) (g := q_nsS k a p m) (m := m) (a := 0) (n := k 2) (x0 := q_fr (q_neS v k a m) 0 (k 0) 601) (by omega) (fun i x h => q_if_t h) (fun i x h => q_if_f h)
  have B : q_fr (q_neS v k a m) 0 (k 0) 601 ≤ 601 ∧ ∀ e : Int, 0 ≤ e → e < k 0 → a e.toNat = -1 → (q_fr (q_neS v k a m) 0 (k 0) 601 ≤ q_lo v a k e ∨ q_lo v a k e ≤ m) ∧ ∀ s : Int, 0 ≤ s → s < k 2 → q_run k a s → (q_fr (q_neS v k a m) 0 (k 0) 601 ≤ a (k (212 + 4 * s).toNat).toNat + q_wt v k e s ∨ a (k (212 + 4 * s).toNat).toNat + q_wt v k e s ≤ m) := by
    refine q_fr_ind (f := q_neS v k a m) (fun j x => x ≤ 601 ∧ ∀ e : Int, 0 ≤ e → e < j → a e.toNat = -1 → (x ≤ q_lo v a k e ∨ q_lo v a k e ≤ m) ∧ ∀ s : Int, 0 ≤ s → s < k 2 → q_run k a s → (x ≤ a (k (212 + 4 * s).toNat).toNat + q_wt v k e s ∨ a (k (212 + 4 * s).toNat).toNat + q_wt v k e s ≤ m)) (by omega) ⟨Int.le_refl _, fun e h1 h2 => by omega⟩ ?_
    intro j x j1 j2 hx
    unfold q_neS
    by_cases h : a j.toNat = -1
    · rw [q_if_t h]
      have s1 := m_so_le (m := m) (n := x) (x := q_lo v a k j)
      have s2 := m_nw_le (v := v) (k := k) (a := a) (e := j) (m := m) (n := q_so m x (q_lo v a k j)) (by omega)
      refine ⟨by omega, fun e e1 e2 he => ?_⟩
      by_cases g : e = j
      · rw [g]
        exact ⟨by omega, s2.2⟩
      · have t := hx.2 e e1 (by omega) he
        refine ⟨by omega, fun s a1 a2 a3 => ?_⟩
        have := t.2 s a1 a2 a3
        omega
    · rw [q_if_f h]
      refine ⟨hx.1, fun e e1 e2 he => ?_⟩
      by_cases g : e = j
      · rw [g] at he; exact absurd he h
      · exact hx.2 e e1 (by omega) he
  have e : q_nm v k p m a = q_fr (q_nsS k a p m) 0 (k 2) (q_fr (q_neS v k a m) 0 (k 0) 601) := rfl
  rw [e]
  refine ⟨A.2, fun x x1 x2 hx => ?_⟩
  have t := B.2 x x1 x2 hx
  refine ⟨by omega, fun s a1 a2 a3 => ?_⟩
  have := t.2 s a1 a2 a3
  omega
/-- when all that could start has started, nothing more can -/
theorem m_sts_end {v k b : Nat → Int} {m : Int} (hk : q_KR k) (hm : m ≠ -1) : q_nxt v k m (q_sts v k m 10 b) = -1 := by
  have h0 := hk.r0
  refine Classical.not_not.mp (fun hne => ?_)
  have all : ∀ n : Int, 0 ≤ n → n ≤ 10 → q_nxt v k m (q_sts v k m n b) ≠ -1 := by
    intro n n1 n2 q
    have e := q_sts_e (v := v) (k := k) (a := b) ⟨n1, n2⟩ rfl q
    rw [← e] at hne
    exact hne q
  have key : ∀ n : Nat, (n : Int) ≤ 10 → q_un0 (q_sts v k m n b) (k 0) ≤ k 0 - n := by
    intro n
    induction n with
    | zero =>
      intro _
      have := (q_cnt_r (fun e => q_sts v k m ((0 : Nat) : Int) b e.toNat = -1) (n := k 0) (by omega)).2
      unfold q_un0
      omega
    | succ n ih =>
      intro hn
      have h1 := all n (by omega) (by omega)
      have r := q_nxt_r hk h1
      have e := q_sts_s (v := v) (k := k) (m := m) (n := n) (a := b) (b := q_sts v k m n b) (by omega) rfl h1
      rw [show ((n + 1 : Nat) : Int) = (n : Int) + 1 by omega, ← e, q_un0_s r.1 r.2.1 r.2.2 hm]
      have := ih (by omega)
      omega
  have k10 := key 10 (by omega)
  rw [show ((10 : Nat) : Int) = 10 from rfl] at k10
  have r := q_nxt_r hk hne
  have u := q_un0_s (n := k 0) r.1 r.2.1 r.2.2 hm
  have u0 := (q_cnt_r (fun e => pz_up (q_sts v k m 10 b) (q_nxt v k m (q_sts v k m 10 b)).toNat m e.toNat = -1) (n := k 0) (by omega)).1
  have u1 : 0 ≤ q_un0 (pz_up (q_sts v k m 10 b) (q_nxt v k m (q_sts v k m 10 b)).toNat m) (k 0) := u0
  omega
theorem m_rs_later {v k c : Nat → Int} {p m m' e : Int} (hk : q_KR k) (h1 : m < m') (h2 : m' < q_nm v k p m c) (he : 0 ≤ e ∧ e < k 0) (h : q_rs v c k e m ≠ 45) : q_rs v c k e m' ≠ 45 := by
  have h0 := hk.r0
  unfold q_rs at h ⊢
  by_cases a1 : c e.toNat ≠ -1
  · rw [q_if_t a1]; omega
  · rw [q_if_f a1] at h ⊢
    have ce : c e.toNat = -1 := Classical.not_not.mp a1
    have nm := (m_nm_le (v := v) (k := k) (a := c) (p := p) (m := m) hk).2 e he.1 he.2 ce
    by_cases a2 : q_ie k e
    · rw [q_if_t a2]; omega
    · rw [q_if_f a2] at h ⊢
      by_cases a3 : q_bh v c k e
      · rw [q_if_t a3]; omega
      · rw [q_if_f a3] at h ⊢
        by_cases a4 : q_mw v c k e m'
        · rw [q_if_t a4]; omega
        · rw [q_if_f a4]
          have a5 : ¬ q_mw v c k e m := by
            rintro ⟨s, s1, s2, s3⟩
            apply a4
            refine ⟨s, s1, s2, ?_⟩
            obtain ⟨t1, t2, t3⟩ := s3
            refine ⟨t1, t2, ?_⟩
            rcases t3 with t3 | t3
            · exact Or.inl t3
            · by_cases t4 : c (k (212 + 4 * s).toNat).toNat = -1
              · exact Or.inl t4
              · right
                have := nm.2 s s1 s2 ⟨t4, fun q => q t1⟩
                omega
          rw [q_if_f a5] at h
          by_cases a6 : m < q_lo v c k e
          · rw [q_if_t (p := m' < q_lo v c k e) (by have := nm.1; omega)]
            omega
          · rw [q_if_f a6] at h
            by_cases a7 : q_hi v c k e < m
            · by_cases a8 : m' < q_lo v c k e
              · rw [q_if_t a8]; omega
              · rw [q_if_f a8, q_if_t (p := q_hi v c k e < m') (by omega)]; omega
            · rw [q_if_f a7] at h
              exact absurd rfl h
theorem m_jump {v k a : Nat → Int} {p m : Int} (hk : q_KR k) (hm : 0 ≤ m ∧ m ≤ 600) : ∀ m' : Int, m < m' → m' < q_nm v k p m (q_mi v k p m a) → q_mi v k p m' (q_mi v k p m a) = q_mi v k p m a := by
  have h0 := hk.r0
  intro m' h1 h2
  have hend : q_nxt v k m (q_mi v k p m a) = -1 := m_sts_end hk (by omega)
  generalize q_mi v k p m a = c at h2 hend ⊢
  have nm := (m_nm_le (v := v) (k := k) (a := c) (p := p) (m := m) hk).1
  have e1 : q_fr (q_enS k p m') 0 (k 2) c = c := by
    refine q_fr_ind (f := q_enS k p m') (fun _ y => y = c) (by omega) rfl ?_
    intro s y s1 s2 hy
    rw [hy]
    unfold q_enS
    rw [q_if_f]
    rintro ⟨t1, t2, t3⟩
    have := nm s s1 s2 ⟨t2, fun q => q t1⟩
    have t3' : m' - c (k (212 + 4 * s).toNat).toNat = q_pck k p s := t3
    omega
  have hrs : ∀ e : Int, 0 ≤ e → e < k 0 → q_rs v c k e m ≠ 45 := by
    rcases q_nxt_ok (v := v) (a := c) (m := m) hk with ⟨g1, -, -, -⟩ | ⟨-, g2⟩
    · omega
    · exact g2
  have e2 : q_nxt v k m' c = -1 := q_nxt_is (Or.inr ⟨rfl, fun i i1 i2 => m_rs_later hk h1 h2 ⟨i1, i2⟩ (hrs i i1 i2)⟩)
  unfold q_mi
  rw [e1]
  refine q_fr_ind (fun _ y => y = c) (by omega) rfl ?_
  intro i y i1 i2 hy
  show q_stp v k m' y = c
  rw [hy]
  unfold q_stp
  rw [q_if_t e2]
/-- between two such minutes nothing happens -/
theorem q_jump {v k a : Nat → Int} {p m : Int} (hk : q_KR k) (hv : q_vb v) (ha : q_al a) (hm : 0 ≤ m ∧ m ≤ 600) (ham : ∀ e : Int, 0 ≤ e → e ≤ 9 → a e.toNat ≤ m) : ∀ m' : Int, m < m' → m' < q_nm v k p m (q_mi v k p m a) → q_mi v k p m' (q_mi v k p m a) = q_mi v k p m a := m_jump hk hm
theorem q_ub_up {a : Nat → Int} {e m : Int} (h : q_ub a m) (hm : 0 ≤ m) : q_ub (pz_up a e.toNat m) m := by
  intro i h1 h2
  rw [pz_up_at]
  split
  · omega
  · exact h i h1 h2
theorem q_sts_ub {v k a : Nat → Int} {m n : Int} (h : q_ub a m) (hm : 0 ≤ m) (hn : 0 ≤ n) : q_ub (q_sts v k m n a) m := by
  refine q_fr_ind (fun _ (a : Nat → Int) => q_ub a m) hn h ?_
  intro i a g1 g2 g3
  unfold q_stp
  by_cases g : q_nxt v k m a = -1
  · rw [q_if_t g]; exact g3
  · rw [q_if_f g]; exact q_ub_up g3 hm
theorem q_en_ub {k a : Nat → Int} {p m n : Int} (h : q_ub a m) (hm : 0 ≤ m) (hn : 0 ≤ n) : q_ub (q_fr (q_enS k p m) 0 n a) m := by
  refine q_fr_ind (f := q_enS k p m) (fun _ (a : Nat → Int) => q_ub a m) hn h ?_
  intro i a g1 g2 g3
  unfold q_enS
  by_cases g : a (k (212 + 4 * i + 1).toNat).toNat = -1 ∧ a (k (212 + 4 * i).toNat).toNat ≠ -1 ∧ m - a (k (212 + 4 * i).toNat).toNat = q_if (q_up p i) (k (212 + 4 * i + 3).toNat) (k (212 + 4 * i + 2).toNat)
  · rw [q_if_t g]; exact q_ub_up g3 hm
  · rw [q_if_f g]; exact g3
theorem q_mi_ub {v k a : Nat → Int} {p m : Int} (h : q_ub a m) (hk : q_KR k) (hm : 0 ≤ m) : q_ub (q_mi v k p m a) m := by
  have h0 := hk.r0
  exact q_sts_ub (q_en_ub h hm (by omega)) hm (by omega)
theorem q_ub_le {a : Nat → Int} {m n : Int} (h : q_ub a m) (hm : m ≤ n) : q_ub a n := fun e h1 h2 => by
  have := h e h1 h2
  exact ⟨this.1, by omega⟩
