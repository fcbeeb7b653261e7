/-! the player: the next minute at which something can happen -/
def q_so (m n x : Int) : Int := if m < x then min n x else n
abbrev q_run (k a : Nat → Int) (s : Int) : Prop := a (k (212 + 4 * s).toNat).toNat ≠ -1 ∧ ¬ a (k (212 + 4 * s + 1).toNat).toNat ≠ -1
noncomputable def q_nwS (v k a : Nat → Int) (e m s n : Int) : Int := q_if (q_run k a s) (q_so m n (a (k (212 + 4 * s).toNat).toNat + q_wt v k e s)) n
noncomputable def q_nw (v k a : Nat → Int) (e m n : Int) : Int := q_fr (q_nwS v k a e m) 0 (k 2) n
noncomputable def q_neS (v k a : Nat → Int) (m e n : Int) : Int := q_if (a e.toNat = -1) (q_nw v k a e m (q_so m n (q_lo v a k e))) n
noncomputable def q_nsS (k a : Nat → Int) (p m s n : Int) : Int := q_if (q_run k a s) (q_so m n (a (k (212 + 4 * s).toNat).toNat + q_pck k p s)) n
noncomputable def q_nm (v k : Nat → Int) (p m : Int) (a : Nat → Int) : Int := q_fr (q_nsS k a p m) 0 (k 2) (q_fr (q_neS v k a m) 0 (k 0) 601)
theorem q_so_r {m n x : Int} (h : m < n ∧ n ≤ 601) : m < q_so m n x ∧ q_so m n x ≤ 601 := by
  unfold q_so
  split <;> omega
theorem q_nw_r {v k a : Nat → Int} {e m n : Int} (h : m < n ∧ n ≤ 601) (h2 : 0 ≤ k 2) : m < q_nw v k a e m n ∧ q_nw v k a e m n ≤ 601 := by
  refine q_fr_ind (f := q_nwS v k a e m) (fun _ x => m < x ∧ x ≤ 601) h2 h ?_
  intro s x g1 g2 g3
  unfold q_nwS
  by_cases g : q_run k a s
  · rw [q_if_t g]; exact q_so_r g3
  · rw [q_if_f g]; exact g3
theorem q_nm_r {v k a : Nat → Int} {p m : Int} (hk : q_KR k) (hm : m ≤ 600) : m < q_nm v k p m a ∧ q_nm v k p m a ≤ 601 := by
  have h0 := hk.r0
  refine q_fr_ind (f := q_nsS k a p m) (fun _ x => m < x ∧ x ≤ 601) (by omega) ?_ ?_
  · refine q_fr_ind (f := q_neS v k a m) (fun _ x => m < x ∧ x ≤ 601) (by omega) (by omega) ?_
    intro e x g1 g2 g3
    unfold q_neS
    by_cases g : a e.toNat = -1
    · rw [q_if_t g]; exact q_nw_r (q_so_r g3) (by omega)
    · rw [q_if_f g]; exact g3
  · intro s x g1 g2 g3
    unfold q_nsS
    by_cases g : q_run k a s
    · rw [q_if_t g]; exact q_so_r g3
    · rw [q_if_f g]; exact g3
/-- between two such minutes nothing happens -/
theorem q_jump {v k a : Nat → Int} {p m : Int} (hk : q_KR k) (hv : q_vb v) (ha : q_al a) (hm : 0 ≤ m ∧ m ≤ 600) (ham : ∀ e : Int, 0 ≤ e → e ≤ 9 → a e.toNat ≤ m) : ∀ m' : Int, m < m' → m' < q_nm v k p m (q_mi v k p m a) → q_mi v k p m' (q_mi v k p m a) = q_mi v k p m a := sorry
def q_ub (a : Nat → Int) (m : Int) : Prop := ∀ e : Int, 0 ≤ e → e ≤ 9 → -1 ≤ a e.toNat ∧ a e.toNat ≤ m
theorem q_ub_up {a : Nat → Int} {e m : Int} (h : q_ub a m) (hm : 0 ≤ m) : q_ub (pz_up a e.toNat m) m := by
  intro i h1 h2
  rw [pz_up_at]
  split
  · omega
  · exact h i h1 h2
theorem q_sts_ub {v k a : Nat → Int} {m n : Int} (h : q_ub a m) (hm : 0 ≤ m) (hn : 0 ≤ n) : q_ub (q_sts v k m n a) m := by
  refine q_fr_ind (fun _ (a : Nat → Int) => q_ub a m) hn h ?_
  intro i a g1 g2 g3
  unfold q_stp
  by_cases g : q_nxt v k m a = -1
  · rw [q_if_t g]; exact g3
  · rw [q_if_f g]; exact q_ub_up g3 hm
theorem q_en_ub {k a : Nat → Int} {p m n : Int} (h : q_ub a m) (hm : 0 ≤ m) (hn : 0 ≤ n) : q_ub (q_fr (q_enS k p m) 0 n a) m := by
  refine q_fr_ind (f := q_enS k p m) (fun _ (a : Nat → Int) => q_ub a m) hn h ?_
  intro i a g1 g2 g3
  unfold q_enS
  by_cases g : a (k (212 + 4 * i + 1).toNat).toNat = -1 ∧ a (k (212 + 4 * i).toNat).toNat ≠ -1 ∧ m - a (k (212 + 4 * i).toNat).toNat = q_if (q_up p i) (k (212 + 4 * i + 3).toNat) (k (212 + 4 * i + 2).toNat)
  · rw [q_if_t g]; exact q_ub_up g3 hm
  · rw [q_if_f g]; exact g3
theorem q_mi_ub {v k a : Nat → Int} {p m : Int} (h : q_ub a m) (hk : q_KR k) (hm : 0 ≤ m) : q_ub (q_mi v k p m a) m := by
  have h0 := hk.r0
  exact q_sts_ub (q_en_ub h hm (by omega)) hm (by omega)
theorem q_ub_al {a : Nat → Int} {m : Int} (h : q_ub a m) (hm : m ≤ 600) : q_al a := fun e h1 h2 => by
  have := h e h1 h2
  exact ⟨this.1, by omega⟩
theorem q_ub_le {a : Nat → Int} {m n : Int} (h : q_ub a m) (hm : m ≤ n) : q_ub a n := fun e h1 h2 => by
  have := h e h1 h2
  exact ⟨this.1, by omega⟩
/-- from one such minute to the next, minute by minute -/
theorem q_pl_jump {v k a b c : Nat → Int} {p m n : Int} (hk : q_KR k) (hv : q_vb v) (hb : b = q_fr (q_plS v k p) 0 m a) (hu : q_ub b m) (hm : 0 ≤ m ∧ m ≤ 600) (hc : c = q_mi v k p m b) (hna : ¬ q_aa k b) (hn : n = q_nm v k p m c) : c = q_fr (q_plS v k p) 0 n a := by
  have h1 := q_nm_r (v := v) (p := p) (a := c) hk hm.2
  have h2 : c = q_fr (q_plS v k p) 0 (m + 1) a := by
    rw [q_fr_s hm.1, ← hb]
    unfold q_plS
    rw [q_if_f hna, hc]
  have hj := q_jump (p := p) hk hv (q_ub_al hu hm.2) hm (fun e g1 g2 => (hu e g1 g2).2)
  rw [← hc] at hj
  have key : ∀ d : Nat, m + 1 + d ≤ n → c = q_fr (q_plS v k p) 0 (m + 1 + d) a := by
    intro d
    induction d with
    | zero => intro _; rw [show m + 1 + ((0 : Nat) : Int) = m + 1 by omega]; exact h2
    | succ d ih =>
      intro hd
      rw [show m + 1 + ((d + 1 : Nat) : Int) = m + 1 + (d : Int) + 1 by omega, q_fr_s (by omega), ← ih (by omega)]
      unfold q_plS
      by_cases g : q_aa k c
      · rw [q_if_t g]
      · rw [q_if_f g, hj (m + 1 + d) (by omega) (by omega)]
  have h3 := key (n - (m + 1)).toNat (by omega)
  rw [show m + 1 + (((n - (m + 1)).toNat : Nat) : Int) = n by omega] at h3
  exact h3
theorem q_a0_ub {a : Nat → Int} : q_ub (q_a0 a) 0 := by
  intro e h1 h2
  unfold q_a0
  (repeat' split) <;> omega
theorem q_lw_dummy : True := trivial
theorem q_nx_eq {v k a : Nat → Int} {m e e' : Int} (h : q_nx v a k m e) (h' : q_nx v a k m e') : e = e' := by
  rcases h with ⟨h1, h2, h3, h4⟩ | ⟨h1, h2⟩ <;> rcases h' with ⟨g1, g2, g3, g4⟩ | ⟨g1, g2⟩
  · rcases Int.lt_trichotomy e e' with h | h | h
    · exact absurd h3 (g4 e h1 h)
    · exact h
    · exact absurd g3 (h4 e' g1 h)
  · exact absurd h3 (g2 e h1 h2)
  · exact absurd g3 (h2 e' g1 g2)
  · rw [h1, g1]
theorem q_nxt_is {v k a : Nat → Int} {m e : Int} (h : q_nx v a k m e) : q_nxt v k m a = e := q_nx_eq (Classical.epsilon_spec (p := q_nx v a k m) ⟨e, h⟩) h
theorem q_by1 {p q : Prop} (h : p ∧ q) : p := h.1
theorem q_by2 {p q : Prop} (h : p ∧ q) : q := h.2
/-- where all have started nothing happens -/
theorem q_mi_aa {v k a : Nat → Int} {p m : Int} (hk : q_KR k) (h : q_aa k a) : q_mi v k p m a = a := by
  have h0 := hk.r0
  have h1 : q_fr (q_enS k p m) 0 (k 2) a = a := by
    refine q_fr_ind (f := q_enS k p m) (fun _ y => y = a) (by omega) rfl ?_
    intro s y g1 g2 g3
    have h2 := hk.sp g1 g2
    have h3 := h (k (212 + 4 * s + 1).toNat) (by omega) (by omega)
    unfold q_enS
    rw [g3, q_if_f (fun q => h3 q.1)]
  unfold q_mi
  rw [h1]
  refine q_fr_ind (fun _ y => y = a) (by omega) rfl ?_
  intro s y g1 g2 g3
  rw [g3]
  unfold q_stp
  have h4 : q_nxt v k m a = -1 := q_nxt_is (Or.inr ⟨rfl, fun i g1 g2 => by
    unfold q_rs
    rw [q_if_t (h i g1 g2)]
    omega⟩)
  rw [q_if_t h4]
