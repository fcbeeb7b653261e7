/-! playing by what the class keeps; choosing; counting bits -/
noncomputable def q_plk (k : Nat → Int) (p : Int) : Nat → Int := q_pl (q_val k) k p (fun _ => 0)
noncomputable def q_flk (k : Nat → Int) (p : Int) : Int := q_fl (q_val k) k p (fun _ => 0)
/-- a play does not hang on what stood in the row of starts before it -/
theorem q_pl_ind {v k a b : Nat → Int} {p : Int} (hk : q_KR k) : ∀ e : Int, 0 ≤ e → e ≤ 9 → q_pl v k p a e.toNat = q_pl v k p b e.toNat := sorry
theorem q_fl_ind {v k a b : Nat → Int} {p : Int} (hk : q_KR k) : q_fl v k p a = q_fl v k p b := by
  have h := q_pl_ind (v := v) (a := a) (b := b) (p := p) hk
  have h0 := hk.r0
  have e1 : q_aa k (q_pl v k p a) ↔ q_aa k (q_pl v k p b) := by
    constructor
    · intro q e g1 g2; rw [← h e g1 (by omega)]; exact q e g1 g2
    · intro q e g1 g2; rw [h e g1 (by omega)]; exact q e g1 g2
  have e2 : q_all (q_kpP k (q_pl v k p a)) (k 1) ↔ q_all (q_kpP k (q_pl v k p b)) (k 1) := by
    constructor
    · intro q b g1 g2 g3
      have h1 := hk.bd g1 g2
      rw [← h _ (by omega) (by omega), ← h _ (by omega) (by omega)]
      exact q b g1 g2 g3
    · intro q b g1 g2 g3
      have h1 := hk.bd g1 g2
      rw [h _ (by omega) (by omega), h _ (by omega) (by omega)]
      exact q b g1 g2 g3
  unfold q_fl
  rw [show q_aa k (q_pl v k p a) = q_aa k (q_pl v k p b) from propext e1, show q_all (q_kpP k (q_pl v k p a)) (k 1) = q_all (q_kpP k (q_pl v k p b)) (k 1) from propext e2]
theorem q_fl_k {k a : Nat → Int} {p : Int} (hk : q_KR k) : q_fl (q_val k) k p a = q_flk k p := q_fl_ind hk
theorem q_la_congr {a b : Nat → Int} {n : Int} (h : ∀ e : Int, 0 ≤ e → e < n → a e.toNat = b e.toNat) : q_la a n = q_la b n := by
  unfold q_la
  refine q_fr_congr (fun e y g1 g2 => ?_)
  unfold q_laS
  rw [h e g1 g2]
def q_bc (x : Int) : Int := ((x.toNat % 2 + x.toNat / 2 % 2 + x.toNat / 4 % 2 + x.toNat / 8 % 2 : Nat) : Int)
theorem q_fsw_r {k : Nat → Int} (h : q_fsw k ≠ -1) : 0 ≤ q_fsw k ∧ q_fsw k ≤ 15 := by
  rcases q_fsw_ok (k := k) with ⟨w, h1, h2, -, -, h5⟩ | ⟨h1, -⟩
  · have := (q_trw_r (k := k) h1 h2).1
    rw [h5]
    exact this
  · exact absurd h1 h
theorem q_cL_kw {k f r : Nat → Int} {t l : Int} (h : q_cL k r) (hl : 5 ≤ l) (hf : ∀ i : Int, 1 ≤ i → i ≤ 4 → f i.toNat = if i < l then q_kwL k t i else r i.toNat) : q_cL (q_kw k t) f := by
  intro i g1 g2
  rw [hf i g1 g2, if_pos (by omega), q_kw_l g1 g2]
theorem q_chl_up {k f r : Nat → Int} {t l v : Int} (hl : 1 ≤ l) (hf : ∀ i : Int, 1 ≤ i → i ≤ 4 → f i.toNat = if i < l then q_kwL k t i else r i.toNat) (hv : v = q_kwL k t l) : ∀ i : Int, 1 ≤ i → i ≤ 4 → pz_up f l.toNat v i.toNat = if i < l + 1 then q_kwL k t i else r i.toNat := by
  intro i g1 g2
  by_cases g : i = l
  · rw [g, pz_up_eq, if_pos (by omega), hv]
  · rw [pz_up_ne (by omega), hf i g1 g2]
    by_cases g3 : i < l
    · rw [if_pos g3, if_pos (by omega)]
    · rw [if_neg g3, if_neg (by omega)]
theorem q_chl_no {k f r : Nat → Int} {t l : Int} (hl : 1 ≤ l) (hf : ∀ i : Int, 1 ≤ i → i ≤ 4 → f i.toNat = if i < l then q_kwL k t i else r i.toNat) (hv : r l.toNat = q_kwL k t l) : ∀ i : Int, 1 ≤ i → i ≤ 4 → f i.toNat = if i < l + 1 then q_kwL k t i else r i.toNat := by
  intro i g1 g2
  rw [hf i g1 g2]
  by_cases g : i = l
  · rw [g, if_neg (by omega), if_pos (by omega), hv]
  · by_cases g3 : i < l
    · rw [if_pos g3, if_pos (by omega)]
    · rw [if_neg g3, if_neg (by omega)]
/-- the row with labels told by two sums -/
theorem q_sets_ne {tr fa : Int} {k : Nat → Int} {j : Nat} (h : ¬ (47 ≤ j ∧ j ≤ 50)) : q_sets tr fa k j = k j := by
  unfold q_sets
  refine q_fr_ind (f := q_seS tr fa) (fun _ (f : Nat → Int) => f j = k j) (by omega) rfl ?_
  intro l f g1 g2 g3
  unfold q_seS
  by_cases g : q_obs f l
  · rw [q_if_t g]; exact g3
  · rw [q_if_f g, pz_up_ne (by omega)]; exact g3
noncomputable def q_psk (k : Nat → Int) (t f : Int) : Nat → Int := q_sets t f (q_lop k)
theorem q_psk_ne {t f : Int} {k : Nat → Int} {j : Nat} (h : ¬ (47 ≤ j ∧ j ≤ 50)) : q_psk k t f j = k j := by
  unfold q_psk
  rw [q_sets_ne h]
  exact if_neg h
theorem q_psk_T {k : Nat → Int} {t f : Int} (h1 : 0 ≤ t ∧ t ≤ 15) (h2 : 0 ≤ f ∧ f ≤ 15) (h3 : pz_and t f = 0) : q_cT (q_psk k t f) t f := sorry
