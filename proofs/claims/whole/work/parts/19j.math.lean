/-! mathematics that is owed, tenth part: sums of labels as bits -/
abbrev m_b (x i : Int) : Prop := pz_and x (pz_shl 1 i) ≠ 0
theorem m_bN : ∀ (x y : Fin 16) (i : Fin 4), ((m_b (pz_and ((x.val : Nat) : Int) (pz_xor ((y.val : Nat) : Int) (-1))) ((i.val : Nat) : Int) ↔ m_b ((x.val : Nat) : Int) ((i.val : Nat) : Int) ∧ ¬ m_b ((y.val : Nat) : Int) ((i.val : Nat) : Int)) ∧ (m_b (pz_and ((x.val : Nat) : Int) ((y.val : Nat) : Int)) ((i.val : Nat) : Int) ↔ m_b ((x.val : Nat) : Int) ((i.val : Nat) : Int) ∧ m_b ((y.val : Nat) : Int) ((i.val : Nat) : Int)) ∧ (m_b (pz_or ((x.val : Nat) : Int) ((y.val : Nat) : Int)) ((i.val : Nat) : Int) ↔ m_b ((x.val : Nat) : Int) ((i.val : Nat) : Int) ∨ m_b ((y.val : Nat) : Int) ((i.val : Nat) : Int))) := by decide +kernel
theorem m_rN : ∀ (x y : Fin 16), (0 ≤ pz_and ((x.val : Nat) : Int) (pz_xor ((y.val : Nat) : Int) (-1)) ∧ pz_and ((x.val : Nat) : Int) (pz_xor ((y.val : Nat) : Int) (-1)) ≤ 15) ∧ (0 ≤ pz_and ((x.val : Nat) : Int) ((y.val : Nat) : Int) ∧ pz_and ((x.val : Nat) : Int) ((y.val : Nat) : Int) ≤ 15) ∧ (0 ≤ pz_or ((x.val : Nat) : Int) ((y.val : Nat) : Int) ∧ pz_or ((x.val : Nat) : Int) ((y.val : Nat) : Int) ≤ 15) := by decide +kernel
theorem m_15N : ∀ i : Fin 4, m_b 15 ((i.val : Nat) : Int) ∧ ¬ m_b 0 ((i.val : Nat) : Int) := by decide +kernel
theorem m_bI {x y i : Int} (hx : 0 ≤ x ∧ x ≤ 15) (hy : 0 ≤ y ∧ y ≤ 15) (hi : 0 ≤ i ∧ i ≤ 3) : (m_b (pz_and x (pz_xor y (-1))) i ↔ m_b x i ∧ ¬ m_b y i) ∧ (m_b (pz_and x y) i ↔ m_b x i ∧ m_b y i) ∧ (m_b (pz_or x y) i ↔ m_b x i ∨ m_b y i) := by
  have h := m_bN ⟨x.toNat, by omega⟩ ⟨y.toNat, by omega⟩ ⟨i.toNat, by omega⟩
  simp only [Int.toNat_of_nonneg hx.1, Int.toNat_of_nonneg hy.1, Int.toNat_of_nonneg hi.1] at h
  exact h
theorem m_rI {x y : Int} (hx : 0 ≤ x ∧ x ≤ 15) (hy : 0 ≤ y ∧ y ≤ 15) : (0 ≤ pz_and x (pz_xor y (-1)) ∧ pz_and x (pz_xor y (-1)) ≤ 15) ∧ (0 ≤ pz_and x y ∧ pz_and x y ≤ 15) ∧ (0 ≤ pz_or x y ∧ pz_or x y ≤ 15) := by
  have h := m_rN ⟨x.toNat, by omega⟩ ⟨y.toNat, by omega⟩
  simp only [Int.toNat_of_nonneg hx.1, Int.toNat_of_nonneg hy.1] at h
  exact h
theorem m_15I {i : Int} (hi : 0 ≤ i ∧ i ≤ 3) : m_b 15 i ∧ ¬ m_b 0 i := by
  have h := m_15N ⟨i.toNat, by omega⟩
  simp only [Int.toNat_of_nonneg hi.1] at h
  exact h
theorem m_lsb {k : Nat → Int} {c d l : Int} (h1 : 1 ≤ l) (h2 : l ≤ 4) : m_b (q_ls (fun j => k (46 + j)) c d 5) (l - 1) ↔ (k (46 + l).toNat = c ∨ k (46 + l).toNat = d) := by
  have e := q_ls_bit (r := fun j => k (46 + j)) (c := c) (d := d) 4 (by omega) (l - 1).toNat (by omega)
  rw [show (((l - 1).toNat : Nat) : Int) = l - 1 by omega] at e
  have e3 : 46 + ((l - 1).toNat + 1) = (46 + l).toNat := by omega
  try dsimp only at e
  rw [e3] at e
  exact e.trans ⟨fun q => q.2, fun q => ⟨by omega, q⟩⟩
theorem m_lsr {k : Nat → Int} {c d : Int} : 0 ≤ q_ls (fun j => k (46 + j)) c d 5 ∧ q_ls (fun j => k (46 + j)) c d 5 ≤ 15 := by
  have h1 := q_ls_r (r := fun j => k (46 + j)) (c := c) (d := d) (n := 5) (by omega) (by omega)
  have h8 : q_p2 (5 - 1) = 16 := rfl
  rw [h8] at h1
  exact ⟨h1.1, by omega⟩
theorem m_wayT_r {w : Int} : 0 ≤ q_wayT w ∧ q_wayT w ≤ 15 := by
  have key : ∀ n : Nat, n ≤ 4 → 0 ≤ q_fr (q_wayS w) 1 (1 + n) 0 ∧ q_fr (q_wayS w) 1 (1 + n) 0 < q_p2 n := by
    intro n
    induction n with
    | zero =>
      intro _
      rw [q_fr_0 (by omega)]
      exact ⟨by omega, by show (0 : Int) < 1; omega⟩
    | succ n ih =>
      intro hn
      have ih1 := ih (by omega)
      have p := q_p2_s (a := n) (by omega)
      rw [show (1 : Int) + ((n + 1 : Nat) : Int) = 1 + (n : Int) + 1 by omega, q_fr_s (by omega), show ((n + 1 : Nat) : Int) = (n : Int) + 1 by omega, p]
      unfold q_wayS
      have s := q_shl_p2 (a := n) (by omega) (by omega)
      rw [show 1 + (n : Int) - 1 = n by omega, s]
      by_cases g : pz_and (pz_shr w (4 - (1 + (n : Int)))) 1 = 0
      · rw [q_if_t g]; unfold q_wayS at ih1; omega
      · rw [q_if_f g]; unfold q_wayS at ih1; omega
  have h := key 4 (by omega)
  rw [show (1 : Int) + ((4 : Nat) : Int) = 5 by omega, show q_p2 ((4 : Nat) : Int) = 16 from rfl] at h
  unfold q_wayT
  omega
theorem m_trw_r {k : Nat → Int} {w : Int} : q_cT (q_kw k (q_trw k w)) (q_trw k w) (pz_and 15 (pz_xor (q_trw k w) (-1))) := by
  have rt := m_wayT_r (w := w)
  have ro : 0 ≤ q_sO k ∧ q_sO k ≤ 15 := m_lsr
  have rs : 0 ≤ q_sT k ∧ q_sT k ≤ 15 := m_lsr
  have a1 := (m_rI rt ro).1
  have a2 := (m_rI rs ro).2.1
  have a3 : 0 ≤ q_trw k w ∧ q_trw k w ≤ 15 := (m_rI a1 a2).2.2
  have a4 := (m_rI (x := 15) (by omega) a3).1
  refine ⟨a3, a4, fun l l1 l2 => ?_⟩
  have b0 : m_b (q_sO k) (l - 1) ↔ q_obs k l := m_lsb l1 l2
  have b1 : m_b (q_sT k) (l - 1) ↔ q_tru k l := m_lsb l1 l2
  have b2 := (m_bI rt ro (i := l - 1) (by omega)).1
  have b3 := (m_bI rs ro (i := l - 1) (by omega)).2.1
  have b4 : m_b (q_trw k w) (l - 1) ↔ m_b (pz_and (q_wayT w) (pz_xor (q_sO k) (-1))) (l - 1) ∨ m_b (pz_and (q_sT k) (q_sO k)) (l - 1) := (m_bI a1 a2 (i := l - 1) (by omega)).2.2
  have b5 := (m_bI (x := 15) (y := q_trw k w) (by omega) a3 (i := l - 1) (by omega)).1
  have b6 := m_15I (i := l - 1) (by omega)
  have ev := q_kw_l (k := k) (t := q_trw k w) l1 l2
  show (m_b (q_trw k w) (l - 1) ↔ q_tru (q_kw k (q_trw k w)) l) ∧ (m_b (pz_and 15 (pz_xor (q_trw k w) (-1))) (l - 1) ↔ q_fls (q_kw k (q_trw k w)) l)
  unfold q_tru q_fls
  rw [ev]
  unfold q_kwL
  by_cases o : q_obs k l
  · rw [q_if_t o]
    have c1 : m_b (q_trw k w) (l - 1) ↔ q_tru k l := by
      rw [b4, b2, b3, b0, b1]
      exact ⟨fun q => q.elim (fun q => absurd o q.2) (fun q => q.1), fun q => Or.inr ⟨q, o⟩⟩
    refine ⟨c1, ?_⟩
    rw [b5, c1]
    have o' : k (46 + l).toNat = 116 ∨ k (46 + l).toNat = 102 := o
    constructor
    · rintro ⟨-, q⟩
      have q' : ¬ (k (46 + l).toNat = 116 ∨ k (46 + l).toNat = 84) := q
      omega
    · intro q
      refine ⟨b6.1, fun q2 => ?_⟩
      have q' : k (46 + l).toNat = 116 ∨ k (46 + l).toNat = 84 := q2
      omega
  · rw [q_if_f o]
    by_cases b : m_b (q_trw k w) (l - 1)
    · rw [q_if_t b]
      refine ⟨⟨fun _ => Or.inr rfl, fun _ => b⟩, ?_⟩
      rw [b5]
      exact ⟨fun q => absurd b q.2, fun q => by omega⟩
    · rw [q_if_f b]
      refine ⟨⟨fun q => absurd q b, fun q => by omega⟩, ?_⟩
      rw [b5]
      exact ⟨fun _ => Or.inr rfl, fun _ => ⟨b6.1, b⟩⟩
theorem m_sets_l {k : Nat → Int} {t f : Int} : ∀ l : Int, 1 ≤ l → l ≤ 4 → q_sets t f (q_lop k) (46 + l).toNat = q_if (q_up t (l - 1)) 84 (q_if (q_up f (l - 1)) 70 111) := by
  have key : ∀ l : Int, 1 ≤ l → l ≤ 4 → q_sets t f (q_lop k) (46 + l).toNat = if l < 5 then q_if (q_up t (l - 1)) 84 (q_if (q_up f (l - 1)) 70 111) else 111 := by
    unfold q_sets
    refine q_fr_ind (f := q_seS t f) (fun i (u : Nat → Int) => ∀ l : Int, 1 ≤ l → l ≤ 4 → u (46 + l).toNat = if l < i then q_if (q_up t (l - 1)) 84 (q_if (q_up f (l - 1)) 70 111) else 111) (by omega) ?_ ?_
    · intro l l1 l2
      rw [if_neg (by omega)]
      exact if_pos (by omega)
    · intro i u i1 i2 hu l l1 l2
      have ui := hu i i1 (by omega)
      rw [if_neg (by omega)] at ui
      unfold q_seS
      rw [q_if_f (p := q_obs u i) (fun q => by
        have q' : u (46 + i).toNat = 116 ∨ u (46 + i).toNat = 102 := q
        omega)]
      by_cases e : l = i
      · rw [e, pz_up_eq, if_pos (by omega)]
      · rw [pz_up_ne (by omega), hu l l1 l2]
        by_cases g : l < i
        · rw [if_pos g, if_pos (by omega)]
        · rw [if_neg g, if_neg (by omega)]
  intro l l1 l2
  rw [key l l1 l2, if_pos (by omega)]
theorem m_psk_T {k : Nat → Int} {t f : Int} (h1 : 0 ≤ t ∧ t ≤ 15) (h2 : 0 ≤ f ∧ f ≤ 15) (h3 : pz_and t f = 0) : q_cT (q_psk k t f) t f := by
  refine ⟨h1, h2, fun l l1 l2 => ?_⟩
  have ev : q_psk k t f (46 + l).toNat = q_if (q_up t (l - 1)) 84 (q_if (q_up f (l - 1)) 70 111) := m_sets_l l l1 l2
  have bt := (q_bit (x := t) (i := l - 1) h1.1 (by omega) (by omega) (by omega)).1
  have bf := (q_bit (x := f) (i := l - 1) h2.1 (by omega) (by omega) (by omega)).1
  have bb := (m_bI h1 h2 (i := l - 1) (by omega)).2.1
  have b6 := m_15I (i := l - 1) (by omega)
  rw [h3] at bb
  show (m_b t (l - 1) ↔ q_tru (q_psk k t f) l) ∧ (m_b f (l - 1) ↔ q_fls (q_psk k t f) l)
  unfold q_tru q_fls
  rw [ev]
  by_cases u : q_up t (l - 1)
  · rw [q_if_t u]
    have ut : m_b t (l - 1) := bt.mpr u
    refine ⟨⟨fun _ => Or.inr rfl, fun _ => ut⟩, ⟨fun q => absurd (bb.mpr ⟨ut, q⟩) b6.2, fun q => by omega⟩⟩
  · rw [q_if_f u]
    have ut : ¬ m_b t (l - 1) := fun q => u (bt.mp q)
    by_cases v : q_up f (l - 1)
    · rw [q_if_t v]
      refine ⟨⟨fun q => absurd q ut, fun q => by omega⟩, ⟨fun _ => Or.inr rfl, fun _ => bf.mpr v⟩⟩
    · rw [q_if_f v]
      refine ⟨⟨fun q => absurd q ut, fun q => by omega⟩, ⟨fun q => absurd (bf.mp q) v, fun q => by omega⟩⟩
