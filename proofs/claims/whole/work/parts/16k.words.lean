/-! choosing; roots; strong control -/
noncomputable def q_wayS (w l t : Int) : Int := t + q_if (pz_and (pz_shr w (4 - l)) 1 = 0) (pz_shl 1 (l - 1)) 0
noncomputable def q_wayT (w : Int) : Int := q_fr (q_wayS w) 1 5 0
noncomputable def q_chP (lf : Nat → Int) (w : Int) (s : (Nat → Int) × (Nat → Int)) : (Nat → Int) × (Nat → Int) :=
  q_if (q_fit s.1 (q_wayT w)) (q_sets (q_wayT w) (15 - q_wayT w) s.1, q_dd (q_sets (q_wayT w) (15 - q_wayT w) s.1) lf s.2) s
noncomputable def q_ch (lf : Nat → Int) (w : Int) (k g : Nat → Int) : (Nat → Int) × (Nat → Int) := q_fr (q_chP lf) 0 w (k, g)
def q_chok (lf k g : Nat → Int) (w : Int) : Prop := q_fit (q_ch lf w k g).1 (q_wayT w) ∧ q_con (q_sets (q_wayT w) (15 - q_wayT w) (q_ch lf w k g).1) lf
noncomputable def q_nt (f : Nat → Int) (n : Int) : Int := q_sum (fun l => q_if (1 ≤ l ∧ q_tru f l) 1 0) n
theorem q_nt_s {f : Nat → Int} {l : Int} (h : 1 ≤ l) : q_nt f (l + 1) = q_nt f l + q_if (q_tru f l) 1 0 := by
  unfold q_nt
  rw [q_sum_s (by omega)]
  try dsimp only
  by_cases ht : q_tru f l
  · rw [q_if_t ht, q_if_t ⟨h, ht⟩]
  · rw [q_if_f ht, q_if_f (fun q => ht q.2)]
theorem q_nt_1 {f : Nat → Int} : (0 : Int) = q_nt f 1 := by
  unfold q_nt
  rw [show (1 : Int) = 0 + 1 by omega, q_sum_s (by omega)]
  try dsimp only
  rw [q_if_f (by omega)]
  rfl
theorem q_ch_s {lf k g f d : Nat → Int} {w t : Int} (hw : 0 ≤ w) (hs : (f, d) = q_ch lf w k g) (ht : t = q_wayT w) (hf : q_fit f t) : (q_sets t (15 - t) f, q_dd (q_sets t (15 - t) f) lf d) = q_ch lf (w + 1) k g := by
  subst ht
  unfold q_ch
  rw [q_fr_s hw]
  show _ = q_chP lf w (q_ch lf w k g)
  rw [← hs]
  unfold q_chP
  rw [q_if_t hf]
theorem q_ch_n {lf k g f d : Nat → Int} {w t : Int} (hw : 0 ≤ w) (hs : (f, d) = q_ch lf w k g) (ht : t = q_wayT w) (hf : ¬ q_fit f t) : (f, d) = q_ch lf (w + 1) k g := by
  subst ht
  unfold q_ch
  rw [q_fr_s hw]
  show _ = q_chP lf w (q_ch lf w k g)
  rw [← hs]
  unfold q_chP
  rw [q_if_f hf]
theorem q_chok_t {lf k g f d : Nat → Int} {w t : Int} (hs : (f, d) = q_ch lf w k g) (ht : t = q_wayT w) (hf : q_fit f t) (hc : q_con (q_sets t (15 - t) f) lf) : q_chok lf k g w := by
  subst ht
  unfold q_chok
  rw [← hs]
  exact ⟨hf, hc⟩
