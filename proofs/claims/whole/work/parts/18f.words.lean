/-! the judge: bounds that are looked at, what is laid, roots, ways -/
abbrev q_lfP (k lf : Nat → Int) (b : Int) : Prop := b < k 1 ∧ q_hld k b ∧ lf b.toNat = 0
def q_isl (k lf r : Nat → Int) : Prop := ∀ b : Int, 0 ≤ b → b ≤ 39 → r b.toNat = pz_bi (q_lfP k lf b)
theorem q_isl_up {P : Int → Prop} {f r : Nat → Int} {b v : Int} (hb : 0 ≤ b) (hf : ∀ j : Nat, f j = if (j : Int) < b then pz_bi (P j) else r j) (hv : v = pz_bi (P b)) : ∀ j : Nat, pz_up f b.toNat v j = if (j : Int) < b + 1 then pz_bi (P j) else r j := by
  intro j
  by_cases hn : j = b.toNat
  · rw [hn, pz_up_eq, if_pos (by omega), show ((b.toNat : Nat) : Int) = b by omega]
    exact hv
  · rw [pz_up_ne hn, hf j]
    by_cases g : (j : Int) < b
    · rw [if_pos g, if_pos (by omega)]
    · rw [if_neg g, if_neg (by omega)]
theorem q_lb_y {k lf f r : Nat → Int} {b x y w : Int} (hb : 0 ≤ b) (h : q_lfP k lf b) (hf : f = q_fr (q_bdE k lf) 0 (min b (k 1)) r) (e1 : x = k (52 + 4 * b).toNat) (e2 : y = k (52 + 4 * b + 1).toNat) (e3 : w = k (52 + 4 * b + 2).toNat) : q_eg f x y w = q_fr (q_bdE k lf) 0 (min (b + 1) (k 1)) r := by
  rw [show min (b + 1) (k 1) = b + 1 by have := h.1; omega, q_fr_s hb, hf, show min b (k 1) = b by have := h.1; omega]
  unfold q_bdE
  rw [q_if_t h.2, e1, e2, e3]
theorem q_lb_n {k lf f r : Nat → Int} {b : Int} (hb : 0 ≤ b) (h : ¬ q_lfP k lf b) (hf : f = q_fr (q_bdE k lf) 0 (min b (k 1)) r) : f = q_fr (q_bdE k lf) 0 (min (b + 1) (k 1)) r := by
  by_cases g : b < k 1
  · rw [show min (b + 1) (k 1) = b + 1 by omega, q_fr_s hb, hf, show min b (k 1) = b by omega]
    unfold q_bdE
    rw [q_if_f (fun q => h ⟨g, q⟩)]
  · rw [hf, show min (b + 1) (k 1) = min b (k 1) by omega]
noncomputable def q_lay (k lf r : Nat → Int) : Nat → Int := q_fr (q_stE k) 1 (k 0) (q_fr (q_spE k) 0 (k 2) (q_fr (q_bdE k lf) 0 (k 1) (q_ncl (k 0) r)))
/-- a square, closed: whether it is sound, what it holds -/
noncomputable def q_snd (z : Int) (w r : Nat → Int) : Prop := q_okc z (q_cI z (q_cz z (q_cp 100 w r)) (q_cp 100 w r))
noncomputable def q_cls (z : Int) (w r : Nat → Int) : Nat → Int := q_cI z (q_cz z (q_cp 100 w r)) (q_cp 100 w r)
noncomputable def q_lpE (k : Nat → Int) (p s : Int) (f : Nat → Int) : Nat → Int := q_if (q_sta k (k (212 + 4 * s + 1).toNat)) f (q_eg (q_eg f (k (212 + 4 * s).toNat) (k (212 + 4 * s + 1).toNat) (q_pck k p s)) (k (212 + 4 * s + 1).toNat) (k (212 + 4 * s).toNat) (-(q_pck k p s)))
theorem q_cw_lay {k lf r u : Nat → Int} (h : q_KR k) : q_cw (k 0) (q_cp 100 (q_lay k lf r) u) := sorry
theorem q_lay_con {k lf r u : Nat → Int} (h : q_KR k) : q_snd (k 0) (q_lay k lf r) u ↔ q_con k lf := sorry
theorem q_lay_dd {k lf r u g : Nat → Int} (h : q_KR k) (hc : q_con k lf) : q_nD k (q_cls (k 0) (q_lay k lf r) u) (q_dd k lf g) := sorry
theorem q_cw_wk {k lf r u : Nat → Int} {p : Int} (h : q_KR k) (hp : 0 ≤ p ∧ p ≤ 15) : q_cw (k 0) (q_cp 100 (q_fr (q_lpE k p) 0 (k 2) (q_lay k lf r)) u) := sorry
theorem q_lay_wk {k lf r u : Nat → Int} {p : Int} (h : q_KR k) (hp : 0 ≤ p ∧ p ≤ 15) : q_snd (k 0) (q_fr (q_lpE k p) 0 (k 2) (q_lay k lf r)) u ↔ q_wkP k lf p := sorry
/-- ways to choose -/
noncomputable def q_trw (k : Nat → Int) (w : Int) : Int := pz_or (pz_and (q_wayT w) (pz_xor (q_sO k) (-1))) (pz_and (q_sT k) (q_sO k))
noncomputable def q_kwL (k : Nat → Int) (t l : Int) : Int := q_if (q_obs k l) (k (46 + l).toNat) (q_if (pz_and t (pz_shl 1 (l - 1)) ≠ 0) 84 70)
noncomputable def q_kw (k : Nat → Int) (t : Int) : Nat → Int := fun j => if 47 ≤ j ∧ j ≤ 50 then q_kwL k t ((j : Int) - 46) else k j
noncomputable def q_fsP (k : Nat → Int) (x : Int) : Prop := (∃ w : Int, 0 ≤ w ∧ w ≤ 15 ∧ q_con (q_kw k (q_trw k w)) (fun _ => 0) ∧ (∀ v : Int, 0 ≤ v → v < w → ¬ q_con (q_kw k (q_trw k v)) (fun _ => 0)) ∧ x = q_trw k w) ∨ (x = -1 ∧ ∀ v : Int, 0 ≤ v → v ≤ 15 → ¬ q_con (q_kw k (q_trw k v)) (fun _ => 0))
theorem q_fsP_eq {k : Nat → Int} {x y : Int} (hx : q_fsP k x) (hy : q_fsP k y) : x = y := by
  rcases hx with ⟨w, h1, h2, h3, h4, h5⟩ | ⟨h1, h2⟩ <;> rcases hy with ⟨v, g1, g2, g3, g4, g5⟩ | ⟨g1, g2⟩
  · rcases Int.lt_trichotomy w v with h | h | h
    · exact absurd h3 (g4 w h1 h)
    · rw [h5, g5, h]
    · exact absurd g3 (h4 v g1 h)
  · exact absurd h3 (g2 w h1 h2)
  · exact absurd g3 (h2 v g1 g2)
  · rw [h1, g1]
noncomputable def q_fsw (k : Nat → Int) : Int := Classical.epsilon (q_fsP k)
theorem q_fsw_is {k : Nat → Int} {x : Int} (h : q_fsP k x) : q_fsw k = x := q_fsP_eq (Classical.epsilon_spec (p := q_fsP k) ⟨x, h⟩) h
theorem q_fsw_ok {k : Nat → Int} : q_fsP k (q_fsw k) := by
  refine Classical.epsilon_spec (p := q_fsP k) ?_
  by_cases h : ∀ v : Int, 0 ≤ v → v < (16 : Nat) → ¬ q_con (q_kw k (q_trw k v)) (fun _ => 0)
  · exact ⟨-1, Or.inr ⟨rfl, fun v h1 h2 => h v h1 (by omega)⟩⟩
  · obtain ⟨c, h1, h2, h3, h4⟩ := q_first (p := fun v => ¬ q_con (q_kw k (q_trw k v)) (fun _ => 0)) 16 h
    exact ⟨q_trw k c, Or.inl ⟨c, h1, by omega, Classical.not_not.mp h4, h3, rfl⟩⟩
theorem q_kw_same {k : Nat → Int} {t : Int} {j : Nat} (h : ¬ (47 ≤ j ∧ j ≤ 50)) : q_kw k t j = k j := if_neg h
theorem q_kw_l {k : Nat → Int} {t l : Int} (h1 : 1 ≤ l) (h2 : l ≤ 4) : q_kw k t (46 + l).toNat = q_kwL k t l := by
  unfold q_kw
  rw [if_pos (by omega), show (((46 + l).toNat : Nat) : Int) - 46 = l by omega]
/-- rows of the memory that hold the plan's row hold one with other labels -/
theorem q_cB_kw {k c f t m l d : Nat → Int} {x : Int} (h : q_cB k c f t m l d) (hk : q_KR k) : q_cB (q_kw k x) c f t m l d := by
  have h1 : q_kw k x 1 = k 1 := q_kw_same (by omega)
  refine ⟨by rw [h1]; exact h.1, fun b g1 g2 => ?_⟩
  rw [h1] at g2
  have h2 := h.2 b g1 g2
  rw [q_kw_same (j := (52 + 4 * b).toNat) (by omega), q_kw_same (j := (52 + 4 * b + 1).toNat) (by omega), q_kw_same (j := (52 + 4 * b + 2).toNat) (by omega), q_kw_same (j := (52 + 4 * b + 3).toNat) (by omega)]
  exact h2
theorem q_cS_kw {k c f t l g : Nat → Int} {x : Int} (h : q_cS k c f t l g) : q_cS (q_kw k x) c f t l g := by
  have h1 : q_kw k x 2 = k 2 := q_kw_same (by omega)
  refine ⟨by rw [h1]; exact h.1, fun s g1 g2 => ?_⟩
  rw [h1] at g2
  have h2 := h.2 s g1 g2
  rw [q_kw_same (j := (212 + 4 * s).toNat) (by omega), q_kw_same (j := (212 + 4 * s + 1).toNat) (by omega), q_kw_same (j := (212 + 4 * s + 2).toNat) (by omega), q_kw_same (j := (212 + 4 * s + 3).toNat) (by omega)]
  exact h2
theorem q_cC_kw {k c s : Nat → Int} {x : Int} (h : q_cC k c s) : q_cC (q_kw k x) c s := by
  refine ⟨by rw [q_kw_same (by omega)]; exact h.1, fun e g1 g2 => ?_⟩
  rw [q_kw_same (j := (6 + e).toNat) (by omega)]
  exact h.2 e g1 g2
theorem q_cE_kw {k p : Nat → Int} {x : Int} (h : q_cE k p) : q_cE (q_kw k x) p := by
  refine ⟨?_, ?_⟩
  · rw [q_kw_same (by omega)]; exact h.1
  · rw [q_kw_same (by omega)]; exact h.2
theorem q_KR_kw {k : Nat → Int} {x : Int} (h : q_KR k) : q_KR (q_kw k x) := sorry
theorem q_trw_r {k : Nat → Int} {w : Int} (h1 : 0 ≤ w) (h2 : w ≤ 15) : q_cT (q_kw k (q_trw k w)) (q_trw k w) (pz_and 15 (pz_xor (q_trw k w) (-1))) := sorry
/-- bounds left out one by one: those without which there is a conflict all the same -/
noncomputable def q_loS0 (k : Nat → Int) (b : Int) (l : Nat → Int) : Nat → Int := q_if (q_hld k b ∧ ¬ q_con k (pz_up l b.toNat 1)) (pz_up l b.toNat 1) l
noncomputable def q_lo0 (k : Nat → Int) (b : Int) : Nat → Int := q_fr (q_loS0 k) 0 b (fun _ => 0)
def q_kp (k : Nat → Int) (b : Int) : Prop := q_hld k b ∧ q_con k (pz_up (q_lo0 k b) b.toNat 1)
def q_cfl (k c : Nat → Int) (n : Int) : Prop := ∀ b : Int, 0 ≤ b → b < n → q_kp k b → c (q_cnt (q_kp k) b).toNat = b
theorem q_lo0_s {k : Nat → Int} {b : Int} (h : 0 ≤ b) : q_lo0 k (b + 1) = q_loS0 k b (q_lo0 k b) := q_fr_s h
theorem q_lo0_0 {k : Nat → Int} {b : Int} (h : 0 ≤ b) : ∀ j : Nat, b ≤ j → q_lo0 k b j = 0 := by
  refine q_fr_ind (f := q_loS0 k) (fun i (l : Nat → Int) => ∀ j : Nat, i ≤ j → l j = 0) h (fun j _ => rfl) ?_
  intro i l h1 h2 h3 j h4
  unfold q_loS0
  by_cases g : q_hld k i ∧ ¬ q_con k (pz_up l i.toNat 1)
  · rw [q_if_t g, pz_up_ne (by omega)]
    exact h3 j (by omega)
  · rw [q_if_f g]
    exact h3 j (by omega)
theorem q_isl_off {k lf r : Nat → Int} {b : Int} (h : q_isl k lf r) (hb : 0 ≤ b) : q_isl k (pz_up lf b.toNat 1) (pz_up r b.toNat 0) := by
  intro i h1 h2
  by_cases g : i = b
  · rw [g, pz_up_eq]
    exact pz_bi_f (fun q => by have := q.2.2; rw [pz_up_eq] at this; omega)
  · rw [pz_up_ne (by omega), h i h1 h2]
    refine pz_bi_iff ?_
    show (i < k 1 ∧ q_hld k i ∧ lf i.toNat = 0) ↔ (i < k 1 ∧ q_hld k i ∧ pz_up lf b.toNat 1 i.toNat = 0)
    rw [pz_up_ne (by omega)]
/-- a bound that holds, left out for a trial: back if the net is sound without it -/
theorem q_lo0_y {k r : Nat → Int} {b z : Int} (hb : 0 ≤ b) (hb2 : b < k 1) (h : q_isl k (q_lo0 k b) r) (hh : q_hld k b) (hz : z = pz_bi (q_con k (pz_up (q_lo0 k b) b.toNat 1))) : q_isl k (q_lo0 k (b + 1)) (pz_up (pz_up r b.toNat 0) b.toNat z) := by
  rw [q_lo0_s hb]
  unfold q_loS0
  by_cases g : q_con k (pz_up (q_lo0 k b) b.toNat 1)
  · rw [q_if_f (fun q => q.2 g), hz, pz_bi_1 g]
    intro i h1 h2
    by_cases g2 : i = b
    · rw [g2, pz_up_eq]
      exact pz_bi_t ⟨hb2, hh, q_lo0_0 hb b.toNat (by omega)⟩
    · rw [pz_up_ne (by omega), pz_up_ne (by omega)]
      exact h i h1 h2
  · rw [q_if_t ⟨hh, g⟩, hz, pz_bi_0 g]
    have h9 := q_isl_off h hb
    intro i h1 h2
    rw [← h9 i h1 h2, pz_up_at, pz_up_at]
    split <;> rfl
theorem q_lo0_n {k r : Nat → Int} {b : Int} (hb : 0 ≤ b) (h : q_isl k (q_lo0 k b) r) (hh : ¬ (b < k 1 ∧ q_hld k b)) : q_isl k (q_lo0 k (b + 1)) r := by
  rw [q_lo0_s hb]
  unfold q_loS0
  by_cases g : q_hld k b ∧ ¬ q_con k (pz_up (q_lo0 k b) b.toNat 1)
  · rw [q_if_t g]
    intro i h1 h2
    rw [h i h1 h2]
    refine pz_bi_iff ?_
    by_cases g2 : i = b
    · rw [g2]
      exact ⟨fun q => absurd ⟨q.1, q.2.1⟩ hh, fun q => absurd ⟨q.1, q.2.1⟩ hh⟩
    · show (i < k 1 ∧ q_hld k i ∧ q_lo0 k b i.toNat = 0) ↔ (i < k 1 ∧ q_hld k i ∧ pz_up (q_lo0 k b) b.toNat 1 i.toNat = 0)
      rw [pz_up_ne (by omega)]
  · rw [q_if_f g]
    exact h
theorem q_cfl_y {k c : Nat → Int} {b x : Int} (hb : 0 ≤ b) (h : q_cfl k c b) (hx : x = q_cnt (q_kp k) b) : q_cfl k (pz_up c x.toNat b) (b + 1) := by
  intro i h1 h2 h3
  by_cases g : i = b
  · rw [g, ← hx, pz_up_eq]
  · have h4 : q_cnt (q_kp k) i + 1 ≤ q_cnt (q_kp k) b := by
      have key : ∀ d : Nat, q_cnt (q_kp k) (i + 1) ≤ q_cnt (q_kp k) (i + 1 + d) := by
        intro d
        induction d with
        | zero => rw [show i + 1 + ((0 : Nat) : Int) = i + 1 by omega]; exact Int.le_refl _
        | succ d ih =>
          rw [show i + 1 + ((d + 1 : Nat) : Int) = i + 1 + (d : Int) + 1 by omega, q_cnt_s (n := i + 1 + (d : Int)) (by omega)]
          have := pz_bi_r (q_kp k (i + 1 + d))
          omega
      have h5 := key (b - (i + 1)).toNat
      rw [show i + 1 + (((b - (i + 1)).toNat : Nat) : Int) = b by omega, q_cnt_s h1, pz_bi_1 h3] at h5
      exact h5
    have h6 := (q_cnt_r (q_kp k) h1).1
    rw [pz_up_ne (by omega)]
    exact h i h1 (by omega) h3
theorem q_cfl_n {k c : Nat → Int} {b : Int} (h : q_cfl k c b) (hh : ¬ q_kp k b) : q_cfl k c (b + 1) := by
  intro i h1 h2 h3
  by_cases g : i = b
  · rw [g] at h3
    exact absurd h3 hh
  · exact h i h1 (by omega) h3
/-- roots -/
def q_rtK (k : Nat → Int) (p : Int) (r h : Nat → Int) (e : Int) : Prop := ∀ i : Int, 0 ≤ i → i < e → r i.toNat = (q_rt k p (fun _ => 0, fun _ => 0)).1 i.toNat ∧ h i.toNat = (q_rt k p (fun _ => 0, fun _ => 0)).2 i.toNat
theorem q_rt_y {k : Nat → Int} {p e : Int} {x : (Nat → Int) × (Nat → Int)} (h : q_KR k) (he : 0 ≤ e ∧ e ≤ 9) (h1 : q_we k e ≠ -1) (h2 : ¬ q_sta k (k (212 + 4 * q_we k e + 1).toNat)) : (q_rt k p x).1 e.toNat = (q_rt k p x).1 (k (212 + 4 * q_we k e).toNat).toNat ∧ (q_rt k p x).2 e.toNat = (q_rt k p x).2 (k (212 + 4 * q_we k e).toNat).toNat + q_pck k p (q_we k e) := sorry
theorem q_rt_n {k : Nat → Int} {p e : Int} {x : (Nat → Int) × (Nat → Int)} (h : q_KR k) (he : 0 ≤ e ∧ e ≤ 9) (h1 : q_we k e = -1 ∨ q_sta k (k (212 + 4 * q_we k e + 1).toNat)) : (q_rt k p x).1 e.toNat = e ∧ (q_rt k p x).2 e.toNat = 0 := sorry
noncomputable def q_sbE (k r h : Nat → Int) (b : Int) (f : Nat → Int) : Nat → Int := q_if (q_hld k b) (q_eg f (r (k (52 + 4 * b).toNat).toNat) (r (k (52 + 4 * b + 1).toNat).toNat) (k (52 + 4 * b + 2).toNat - h (k (52 + 4 * b + 1).toNat).toNat + h (k (52 + 4 * b).toNat).toNat)) f
noncomputable def q_sb (k r h f : Nat → Int) : Nat → Int := q_fr (q_sbE k r h) 0 (k 1) f
noncomputable def q_rtP (k : Nat → Int) (p : Int) : (Nat → Int) × (Nat → Int) := q_rt k p (fun _ => 0, fun _ => 0)
noncomputable def q_fxS (k : Nat → Int) (p : Int) (f : Nat → Int) : Nat → Int := q_sb k (q_rtP k p).1 (q_rtP k p).2 f
noncomputable def q_fx (k r : Nat → Int) : Nat → Int := q_fr (q_fxS k) 0 (q_p2 (k 2)) (q_fr (q_stE k) 1 (k 0) (q_ncl (k 0) r))
def q_strong (k : Nat → Int) : Prop := q_ok (q_sgF k (q_clr (fun _ => 0), (fun _ => 0), (fun _ => 0))) ∧ q_all (q_sgA k (q_clr (fun _ => 0), (fun _ => 0), (fun _ => 0))) (q_p2 (k 2))
theorem q_cw_fx {k r u : Nat → Int} (h : q_KR k) : q_cw (k 0) (q_cp 100 (q_fx k r) u) := sorry
theorem q_fx_strong {k r u : Nat → Int} (h : q_KR k) : q_snd (k 0) (q_fx k r) u ↔ q_strong k := sorry
theorem q_sb_y {k f r : Nat → Int} {a h : Nat → Int} {b x y w : Int} (hb : 0 ≤ b) (hb2 : b < k 1) (hh : q_hld k b) (hf : f = q_fr (q_sbE k a h) 0 (min b (k 1)) r) (e1 : x = a (k (52 + 4 * b).toNat).toNat) (e2 : y = a (k (52 + 4 * b + 1).toNat).toNat) (e3 : w = k (52 + 4 * b + 2).toNat - h (k (52 + 4 * b + 1).toNat).toNat + h (k (52 + 4 * b).toNat).toNat) : q_eg f x y w = q_fr (q_sbE k a h) 0 (min (b + 1) (k 1)) r := by
  rw [show min (b + 1) (k 1) = b + 1 by omega, q_fr_s hb, hf, show min b (k 1) = b by omega]
  unfold q_sbE
  rw [q_if_t hh, e1, e2, e3]
theorem q_sb_n {k f r : Nat → Int} {a h : Nat → Int} {b : Int} (hb : 0 ≤ b) (hh : ¬ (b < k 1 ∧ q_hld k b)) (hf : f = q_fr (q_sbE k a h) 0 (min b (k 1)) r) : f = q_fr (q_sbE k a h) 0 (min (b + 1) (k 1)) r := by
  by_cases g : b < k 1
  · rw [show min (b + 1) (k 1) = b + 1 by omega, q_fr_s hb, hf, show min b (k 1) = b by omega]
    unfold q_sbE
    rw [q_if_f (fun q => hh ⟨g, q⟩)]
  · rw [hf, show min (b + 1) (k 1) = min b (k 1) by omega]
theorem q_sb_congr {k a h a' h' f : Nat → Int} (hk : q_KR k) (e : ∀ i : Int, 0 ≤ i → i < 10 → a i.toNat = a' i.toNat ∧ h i.toNat = h' i.toNat) : q_sb k a h f = q_sb k a' h' f := by
  have h0 := hk.r0
  refine q_fr_congr (fun b y h1 h2 => ?_)
  have h3 := hk.bd h1 h2
  unfold q_sbE
  rw [(e (k (52 + 4 * b).toNat) (by omega) (by omega)).1, (e (k (52 + 4 * b + 1).toNat) (by omega) (by omega)).1, (e (k (52 + 4 * b).toNat) (by omega) (by omega)).2, (e (k (52 + 4 * b + 1).toNat) (by omega) (by omega)).2]
theorem q_by {p : Prop} (h : pz_bi p ≠ 0) : p := pz_bi_ne h
theorem q_bn {p : Prop} (h : pz_bi p = 0) : ¬ p := pz_bi_eq h
/-- counts and lists as far as the bounds go -/
theorem q_cx_s {k : Nat → Int} {b : Int} (hb : 0 ≤ b) (h1 : 0 ≤ k 1) : q_cnt (q_kp k) (min (b + 1) (k 1)) = q_cnt (q_kp k) (min b (k 1)) + pz_bi (b < k 1 ∧ q_kp k b) := by
  by_cases g : b < k 1
  · rw [show min (b + 1) (k 1) = b + 1 by omega, show min b (k 1) = b by omega, q_cnt_s hb]
    congr 1
    exact pz_bi_iff ⟨fun q => ⟨g, q⟩, fun q => q.2⟩
  · rw [show min (b + 1) (k 1) = min b (k 1) by omega, pz_bi_0 (fun q => g q.1)]
    omega
theorem q_cx_n {k c : Nat → Int} {b : Int} (h : q_cfl k c (min b (k 1))) (hh : ¬ (b < k 1 ∧ q_kp k b)) : q_cfl k c (min (b + 1) (k 1)) := by
  intro i h1 h2 h3
  by_cases g : i = b
  · rw [g] at h3 h2
    exact absurd ⟨by omega, h3⟩ hh
  · exact h i h1 (by omega) h3
theorem q_cx_y {k c : Nat → Int} {b x : Int} (hb : 0 ≤ b) (hb2 : b < k 1) (h : q_cfl k c (min b (k 1))) (hx : x = q_cnt (q_kp k) (min b (k 1))) : q_cfl k (pz_up c x.toNat b) (min (b + 1) (k 1)) := by
  rw [show min b (k 1) = b by omega] at h hx
  rw [show min (b + 1) (k 1) = b + 1 by omega]
  exact q_cfl_y hb h hx
theorem q_rtK_n {k r h : Nat → Int} {p e : Int} (he : 0 ≤ e) (hr : q_rtK k p r h e) (_ : 0 ≤ e) (h1 : (q_rt k p (fun _ => 0, fun _ => 0)).1 e.toNat = e ∧ (q_rt k p (fun _ => 0, fun _ => 0)).2 e.toNat = 0) : q_rtK k p (pz_up r e.toNat e) (pz_up h e.toNat 0) (e + 1) := by
  intro i g1 g2
  by_cases g : i = e
  · rw [g, pz_up_eq, pz_up_eq, h1.1, h1.2]
    exact ⟨rfl, rfl⟩
  · rw [pz_up_ne (by omega), pz_up_ne (by omega)]
    exact hr i g1 (by omega)
theorem q_rtK_y {k r h : Nat → Int} {p e f g : Int} {x : Int} (he : 0 ≤ e) (hr : q_rtK k p r h e) (hf : 0 ≤ f ∧ f < e) (h1 : (q_rt k p (fun _ => 0, fun _ => 0)).1 e.toNat = (q_rt k p (fun _ => 0, fun _ => 0)).1 f.toNat ∧ (q_rt k p (fun _ => 0, fun _ => 0)).2 e.toNat = (q_rt k p (fun _ => 0, fun _ => 0)).2 f.toNat + x) (hg : g = f) (_ : 0 ≤ e) : q_rtK k p (pz_up (pz_up r e.toNat e) e.toNat (pz_up r e.toNat e g.toNat)) (pz_up (pz_up h e.toNat 0) e.toNat (pz_up h e.toNat 0 g.toNat + x)) (e + 1) := by
  have h2 := hr f hf.1 hf.2
  intro i g1 g2
  by_cases g3 : i = e
  · rw [g3, hg, pz_up_eq, pz_up_eq, pz_up_ne (by omega), pz_up_ne (by omega), h1.1, h1.2, h2.1, h2.2]
    exact ⟨rfl, rfl⟩
  · rw [pz_up_ne (by omega), pz_up_ne (by omega), pz_up_ne (by omega), pz_up_ne (by omega)]
    exact hr i g1 (by omega)
theorem q_rbK_n {r h : Nat → Int} {e : Int} (he : 0 ≤ e) (hb : q_rb r h e) : q_rb (pz_up r e.toNat e) (pz_up h e.toNat 0) (e + 1) := by
  intro i g1 g2
  by_cases g : i = e
  · rw [g, pz_up_eq, pz_up_eq]
    omega
  · rw [pz_up_ne (by omega), pz_up_ne (by omega)]
    exact hb i g1 (by omega)
theorem q_rbK_y {r h : Nat → Int} {e f g x : Int} (he : 0 ≤ e) (hb : q_rb r h e) (hg : g = f) (hf : 0 ≤ f ∧ f < e) (hx : 1 ≤ x ∧ x ≤ 200) : q_rb (pz_up (pz_up r e.toNat e) e.toNat (pz_up r e.toNat e g.toNat)) (pz_up (pz_up h e.toNat 0) e.toNat (pz_up h e.toNat 0 g.toNat + x)) (e + 1) := by
  have h2 := hb f hf.1 hf.2
  intro i g1 g2
  by_cases g3 : i = e
  · rw [g3, hg, pz_up_eq, pz_up_eq, pz_up_ne (by omega), pz_up_ne (by omega)]
    omega
  · rw [pz_up_ne (by omega), pz_up_ne (by omega), pz_up_ne (by omega), pz_up_ne (by omega)]
    exact hb i g1 (by omega)
theorem q_rtK_rb {k r h : Nat → Int} {p : Int} (hk : q_KR k) (hr : q_rtK k p r h 10) : q_rb r h 10 := by
  intro i g1 g2
  have h1 := hr i g1 g2
  rw [h1.1, h1.2]
  exact q_rt_r (p := p) (x := (fun _ => 0, fun _ => 0)) hk i g1 g2
theorem q_by3 {p : Prop} {f : Nat → Int} {b : Nat} (h : pz_up f b (pz_bi p) b ≠ 0) : p := by
  rw [pz_up_eq] at h
  exact pz_bi_ne h
theorem q_bn3 {p : Prop} {f : Nat → Int} {b : Nat} (h : pz_up f b (pz_bi p) b = 0) : ¬ p := by
  rw [pz_up_eq] at h
  exact pz_bi_eq h
