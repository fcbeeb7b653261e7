/-! choosing labels: the first way that is sound, whether those that do not fit are skipped or their observed labels forced -/
theorem t_upN : ∀ (x : Fin 16) (i : Fin 4), (pz_and (pz_shr (15 - ((x.val : Nat) : Int)) ((i.val : Nat) : Int)) 1 = 1 ↔ ¬ pz_and (pz_shr ((x.val : Nat) : Int) ((i.val : Nat) : Int)) 1 = 1) := by decide +kernel
theorem t_up15 {x i : Int} (hx : 0 ≤ x ∧ x ≤ 15) (hi : 0 ≤ i ∧ i ≤ 3) : q_up (15 - x) i ↔ ¬ q_up x i := by
  have h := t_upN ⟨x.toNat, by omega⟩ ⟨i.toNat, by omega⟩
  simp only [Int.toNat_of_nonneg hx.1, Int.toNat_of_nonneg hi.1] at h
  exact h
/-- rows whose observed labels are k's, the others not observed -/
def t_lk (k f : Nat → Int) : Prop := (∀ j, ¬ (47 ≤ j ∧ j ≤ 50) → f j = k j) ∧ ∀ l : Int, 1 ≤ l → l ≤ 4 → (q_obs k l → f (46 + l).toNat = k (46 + l).toNat) ∧ (¬ q_obs k l → ¬ q_obs f l)
theorem t_lk_obs {k f : Nat → Int} {l : Int} (h : t_lk k f) (l1 : 1 ≤ l) (l2 : l ≤ 4) : q_obs f l ↔ q_obs k l := by
  have a := h.2 l l1 l2
  by_cases o : q_obs k l
  · have e := a.1 o
    unfold q_obs at o ⊢
    rw [e]
  · exact ⟨fun q => absurd q (a.2 o), fun q => absurd q o⟩
theorem t_sets_kw {k f : Nat → Int} {t : Int} (h : t_lk k f) (ht : 0 ≤ t ∧ t ≤ 15) : q_sets t (15 - t) f = q_kw k t := by
  have s := t_sets_at (f := f) (t := t) (u := 15 - t)
  funext j
  by_cases c : 47 ≤ j ∧ j ≤ 50
  · have e : j = (46 + ((j : Int) - 46)).toNat := by omega
    have l1 : 1 ≤ (j : Int) - 46 := by omega
    have l2 : (j : Int) - 46 ≤ 4 := by omega
    rw [e, s.2 _ l1 l2, q_kw_l l1 l2]
    unfold q_kwL
    have ob := t_lk_obs h l1 l2
    by_cases o : q_obs k ((j : Int) - 46)
    · rw [q_if_t (ob.mpr o), q_if_t o]
      exact (h.2 _ l1 l2).1 o
    · rw [q_if_f (fun q => o (ob.mp q)), q_if_f o]
      have b := (q_bit (x := t) (i := (j : Int) - 46 - 1) ht.1 (by omega) (by omega) (by omega)).1
      have n := t_up15 ht (i := (j : Int) - 46 - 1) (by omega)
      by_cases u : q_up t ((j : Int) - 46 - 1)
      · rw [q_if_t u, q_if_t (b.mpr u)]
      · rw [q_if_f u, q_if_f (fun q => u (b.mp q)), q_if_t (n.mpr u)]
  · rw [s.1 j c, q_kw_same c]
    exact h.1 j c
theorem t_lk_kw {k : Nat → Int} {t : Int} : t_lk k (q_kw k t) := by
  refine ⟨fun j hj => q_kw_same hj, fun l l1 l2 => ?_⟩
  have e := q_kw_l (k := k) (t := t) l1 l2
  unfold q_kwL at e
  constructor
  · intro o
    rw [e, q_if_t o]
  · intro o q
    rw [q_if_f o] at e
    unfold q_obs at q
    rw [e] at q
    by_cases b : pz_and t (pz_shl 1 (l - 1)) ≠ 0
    · rw [q_if_t b] at q; omega
    · rw [q_if_f b] at q; omega
theorem t_fit {k f : Nat → Int} {t : Int} (h : t_lk k f) : q_fit f t ↔ q_fit k t := by
  have one : ∀ l : Int, 0 ≤ l → l < 5 → (q_fitP f t l ↔ q_fitP k t l) := by
    intro l l1 l2
    unfold q_fitP
    by_cases c : 1 ≤ l
    · have ob := t_lk_obs h c (by omega)
      by_cases o : q_obs k l
      · have e := (h.2 l c (by omega)).1 o
        have tr : q_tru f l ↔ q_tru k l := by
          unfold q_tru
          rw [e]
        rw [tr, ob]
      · exact ⟨fun _ _ => Or.inl o, fun _ _ => Or.inl (fun q => o (ob.mp q))⟩
    · exact ⟨fun _ q => absurd q c, fun _ q => absurd q c⟩
  unfold q_fit
  exact ⟨fun q l l1 l2 => (one l l1 l2).mp (q l l1 l2), fun q l l1 l2 => (one l l1 l2).mpr (q l l1 l2)⟩
theorem t_ch {lf k g : Nat → Int} : ∀ n : Nat, t_lk k (q_ch lf n k g).1 := by
  intro n
  induction n with
  | zero =>
    have e : q_ch lf ((0 : Nat) : Int) k g = (k, g) := q_fr_0 (Int.le_refl 0)
    rw [e]
    exact ⟨fun _ _ => rfl, fun l _ _ => ⟨fun _ => rfl, fun o => o⟩⟩
  | succ n ih =>
    have e : q_ch lf ((n : Int) + 1) k g = q_chP lf n (q_ch lf n k g) := q_fr_s (by omega)
    rw [show ((n + 1 : Nat) : Int) = (n : Int) + 1 by omega, e]
    unfold q_chP
    by_cases c : q_fit (q_ch lf n k g).1 (q_wayT n)
    · rw [q_if_t c]
      dsimp only
      rw [t_sets_kw ih m_wayT_r]
      exact t_lk_kw
    · rw [q_if_f c]
      exact ih
/-- the answer of a way -/
theorem t_chok {lf k g : Nat → Int} {w : Int} (hk : q_KR k) (h : m_A 40 lf (fun _ => 0)) (hw : 0 ≤ w) : q_chok lf k g w ↔ q_fit k (q_wayT w) ∧ q_con (q_kw k (q_wayT w)) (fun _ => 0) := by
  have c := t_ch (lf := lf) (k := k) (g := g) w.toNat
  rw [Int.toNat_of_nonneg hw] at c
  unfold q_chok
  rw [t_fit c, t_sets_kw c m_wayT_r, t_con (m_KR_kw hk) h]
theorem t_ch_s {lf k g : Nat → Int} {w : Int} (hw : 0 ≤ w) (hf : q_fit k (q_wayT w)) : (q_ch lf (w + 1) k g).1 = q_kw k (q_wayT w) := by
  have c := t_ch (lf := lf) (k := k) (g := g) w.toNat
  rw [Int.toNat_of_nonneg hw] at c
  have e : q_ch lf (w + 1) k g = q_chP lf w (q_ch lf w k g) := q_fr_s hw
  rw [e]
  unfold q_chP
  rw [q_if_t ((t_fit c).mpr hf)]
  exact t_sets_kw c m_wayT_r
theorem t_ch_un {lf k g : Nat → Int} {n : Int} (hk : q_KR k) (hn : 0 ≤ n) : q_un (q_pkd k) (q_ch lf n k g).1 = k := by
  have c := t_ch (lf := lf) (k := k) (g := g) n.toNat
  rw [Int.toNat_of_nonneg hn] at c
  exact t_un hk c.1
/-- forcing what was observed changes no label that was not -/
theorem t_kw_trw {k : Nat → Int} {w : Int} : q_kw k (q_trw k w) = q_kw k (q_wayT w) := by
  have rt := m_wayT_r (w := w)
  have ro : 0 ≤ q_sO k ∧ q_sO k ≤ 15 := m_lsr
  have rs : 0 ≤ q_sT k ∧ q_sT k ≤ 15 := m_lsr
  have a1 := (m_rI rt ro).1
  have a2 := (m_rI rs ro).2.1
  funext j
  by_cases c : 47 ≤ j ∧ j ≤ 50
  · have e : j = (46 + ((j : Int) - 46)).toNat := by omega
    have l1 : 1 ≤ (j : Int) - 46 := by omega
    have l2 : (j : Int) - 46 ≤ 4 := by omega
    have b0 : m_b (q_sO k) ((j : Int) - 46 - 1) ↔ q_obs k ((j : Int) - 46) := m_lsb l1 l2
    have b2 := (m_bI rt ro (i := (j : Int) - 46 - 1) (by omega)).1
    have b3 := (m_bI rs ro (i := (j : Int) - 46 - 1) (by omega)).2.1
    have b4 : m_b (q_trw k w) ((j : Int) - 46 - 1) ↔ m_b (pz_and (q_wayT w) (pz_xor (q_sO k) (-1))) ((j : Int) - 46 - 1) ∨ m_b (pz_and (q_sT k) (q_sO k)) ((j : Int) - 46 - 1) := (m_bI a1 a2 (i := (j : Int) - 46 - 1) (by omega)).2.2
    rw [e, q_kw_l l1 l2, q_kw_l l1 l2]
    unfold q_kwL
    by_cases o : q_obs k ((j : Int) - 46)
    · rw [q_if_t o, q_if_t o]
    · rw [q_if_f o, q_if_f o]
      have iff : m_b (q_trw k w) ((j : Int) - 46 - 1) ↔ m_b (q_wayT w) ((j : Int) - 46 - 1) := by
        rw [b4, b2, b3, b0]
        exact ⟨fun q => q.elim (fun q => q.1) (fun q => absurd q.2 o), fun q => Or.inl ⟨q, o⟩⟩
      by_cases b : m_b (q_wayT w) ((j : Int) - 46 - 1)
      · rw [q_if_t b, q_if_t (iff.mpr b)]
      · rw [q_if_f b, q_if_f (fun q => b (iff.mp q))]
  · rw [q_kw_same c, q_kw_same c]
/-- a way's labels as bits of its number -/
def t_wT (w : Int) : Int := (((0 + if pz_and (pz_shr w (4 - 1)) 1 = 0 then pz_shl 1 (1 - 1) else 0) + if pz_and (pz_shr w (4 - 2)) 1 = 0 then pz_shl 1 (2 - 1) else 0) + if pz_and (pz_shr w (4 - 3)) 1 = 0 then pz_shl 1 (3 - 1) else 0) + if pz_and (pz_shr w (4 - 4)) 1 = 0 then pz_shl 1 (4 - 1) else 0
theorem t_ifd {α : Type} {p : Prop} [d : Decidable p] {x y : α} : q_if p x y = if p then x else y := by
  by_cases h : p
  · rw [q_if_t h, if_pos h]
  · rw [q_if_f h, if_neg h]
theorem t_wT_e {w : Int} : q_wayT w = t_wT w := by
  unfold q_wayT t_wT
  rw [show (5 : Int) = 1 + 1 + 1 + 1 + 1 by omega, q_fr_s (by omega), q_fr_s (by omega), q_fr_s (by omega), q_fr_s (by omega), q_fr_0 (by omega)]
  unfold q_wayS
  rw [t_ifd, t_ifd, t_ifd, t_ifd]
  rfl
theorem t_wTN : ∀ (w : Fin 16) (i : Fin 4), (m_b (t_wT ((w.val : Nat) : Int)) ((i.val : Nat) : Int) ↔ w.val.testBit (3 - i.val) = false) := by decide +kernel
theorem t_wT_b {w i : Int} (hw : 0 ≤ w ∧ w ≤ 15) (hi : 0 ≤ i ∧ i ≤ 3) : m_b (q_wayT w) i ↔ w.toNat.testBit (3 - i.toNat) = false := by
  have h := t_wTN ⟨w.toNat, by omega⟩ ⟨i.toNat, by omega⟩
  simp only [Int.toNat_of_nonneg hw.1, Int.toNat_of_nonneg hi.1] at h
  rw [t_wT_e]
  exact h
theorem t_mask4 : ∀ a b c d : Bool, ∃ m : Fin 16, m.val.testBit 0 = a ∧ m.val.testBit 1 = b ∧ m.val.testBit 2 = c ∧ m.val.testBit 3 = d := by decide +kernel
theorem t_mask (P : Nat → Prop) : ∃ m : Nat, m < 16 ∧ ∀ i : Nat, i < 4 → (m.testBit i = true ↔ P i) := by
  obtain ⟨m, h0, h1, h2, h3⟩ := t_mask4 (@decide (P 0) (Classical.propDecidable _)) (@decide (P 1) (Classical.propDecidable _)) (@decide (P 2) (Classical.propDecidable _)) (@decide (P 3) (Classical.propDecidable _))
  refine ⟨m.val, m.isLt, fun i hi => ?_⟩
  rcases (show i = 0 ∨ i = 1 ∨ i = 2 ∨ i = 3 by omega) with e | e | e | e <;> subst e
  · rw [h0]; exact @decide_eq_true_iff _ (Classical.propDecidable _)
  · rw [h1]; exact @decide_eq_true_iff _ (Classical.propDecidable _)
  · rw [h2]; exact @decide_eq_true_iff _ (Classical.propDecidable _)
  · rw [h3]; exact @decide_eq_true_iff _ (Classical.propDecidable _)
/-- the way m's places of which are p's -/
def t_fw (m p w : Nat) : Nat := (w &&& (15 ^^^ m)) ||| (p &&& m)
theorem t_fwN : ∀ (m p w : Fin 16), t_fw m.val p.val w.val < 16 ∧ t_fw m.val 0 w.val ≤ w.val ∧ ∀ i : Fin 4, (t_fw m.val p.val w.val).testBit i.val = if m.val.testBit i.val then p.val.testBit i.val else w.val.testBit i.val := by decide +kernel
theorem t_fwM : ∀ (m p a b : Fin 16), t_fw m.val 0 a.val ≤ t_fw m.val 0 b.val → t_fw m.val p.val a.val ≤ t_fw m.val p.val b.val := by decide +kernel
theorem t_eq4 : ∀ (a b : Fin 16), (∀ i : Fin 4, a.val.testBit i.val = b.val.testBit i.val) → a.val = b.val := by decide +kernel
theorem t_eqb {a b : Nat} (ha : a < 16) (hb : b < 16) (h : ∀ i : Nat, i < 4 → a.testBit i = b.testBit i) : a = b := t_eq4 ⟨a, ha⟩ ⟨b, hb⟩ (fun i => h i.val i.isLt)
theorem t_fw_b {m p w i : Nat} (hm : m < 16) (hp : p < 16) (hw : w < 16) (hi : i < 4) : (t_fw m p w).testBit i = if m.testBit i then p.testBit i else w.testBit i := (t_fwN ⟨m, hm⟩ ⟨p, hp⟩ ⟨w, hw⟩).2.2 ⟨i, hi⟩
/-- the first sound way and the first sound way that fits lay the same labels -/
theorem t_first {k : Nat → Int} {S : (Nat → Int) → Prop} :
    (∀ w : Int, 0 ≤ w → w ≤ 15 → (∀ v : Int, 0 ≤ v → v < w → ¬ (q_fit k (q_wayT v) ∧ S (q_kw k (q_wayT v)))) → (q_fit k (q_wayT w) ∧ S (q_kw k (q_wayT w))) → ∃ u : Int, 0 ≤ u ∧ u ≤ 15 ∧ S (q_kw k (q_wayT u)) ∧ (∀ v : Int, 0 ≤ v → v < u → ¬ S (q_kw k (q_wayT v))) ∧ q_kw k (q_wayT u) = q_kw k (q_wayT w)) ∧
    ((∀ w : Int, 0 ≤ w → w ≤ 15 → ¬ (q_fit k (q_wayT w) ∧ S (q_kw k (q_wayT w)))) → ∀ w : Int, 0 ≤ w → w ≤ 15 → ¬ S (q_kw k (q_wayT w))) := by
  obtain ⟨m, hm, mb⟩ := t_mask (fun i => q_obs k (4 - (i : Int)))
  obtain ⟨p, hp, pb⟩ := t_mask (fun i => ¬ q_tru k (4 - (i : Int)))
  -- the same places that were not observed: the same labels
  have same : ∀ a b : Nat, a < 16 → b < 16 → (∀ i : Nat, i < 4 → m.testBit i = false → a.testBit i = b.testBit i) → q_kw k (q_wayT a) = q_kw k (q_wayT b) := by
    intro a b ha hb h
    funext j
    by_cases c : 47 ≤ j ∧ j ≤ 50
    · have e : j = (46 + ((j : Int) - 46)).toNat := by omega
      have l1 : 1 ≤ (j : Int) - 46 := by omega
      have l2 : (j : Int) - 46 ≤ 4 := by omega
      rw [e, q_kw_l l1 l2, q_kw_l l1 l2]
      unfold q_kwL
      by_cases o : q_obs k ((j : Int) - 46)
      · rw [q_if_t o, q_if_t o]
      · rw [q_if_f o, q_if_f o]
        have mi : m.testBit (3 - ((j : Int) - 46 - 1).toNat) = false := by
          have q := mb (3 - ((j : Int) - 46 - 1).toNat) (by omega)
          rw [show (4 : Int) - ((3 - ((j : Int) - 46 - 1).toNat : Nat) : Int) = (j : Int) - 46 by omega] at q
          cases hx : m.testBit (3 - ((j : Int) - 46 - 1).toNat) with
          | false => rfl
          | true => exact absurd (q.mp hx) o
        have hh := h (3 - ((j : Int) - 46 - 1).toNat) (by omega) mi
        have ba := t_wT_b (w := a) (i := (j : Int) - 46 - 1) (by omega) (by omega)
        have bb := t_wT_b (w := b) (i := (j : Int) - 46 - 1) (by omega) (by omega)
        rw [show ((a : Int)).toNat = a from rfl] at ba
        rw [show ((b : Int)).toNat = b from rfl] at bb
        rw [hh] at ba
        have iff : m_b (q_wayT a) ((j : Int) - 46 - 1) ↔ m_b (q_wayT b) ((j : Int) - 46 - 1) := ba.trans bb.symm
        by_cases b9 : m_b (q_wayT b) ((j : Int) - 46 - 1)
        · rw [q_if_t b9, q_if_t (iff.mpr b9)]
        · rw [q_if_f b9, q_if_f (fun q => b9 (iff.mp q))]
    · rw [q_kw_same c, q_kw_same c]
  have fsame : ∀ (x a : Nat), x < 16 → a < 16 → q_kw k (q_wayT (t_fw m x a : Nat)) = q_kw k (q_wayT a) := by
    intro x a hx ha
    refine same _ _ (t_fwN ⟨m, hm⟩ ⟨x, hx⟩ ⟨a, ha⟩).1 ha (fun i hi h => ?_)
    rw [t_fw_b hm hx ha hi, h]
    rfl
  -- what fits
  have fits : ∀ a : Nat, a < 16 → (q_fit k (q_wayT a) ↔ t_fw m p a = a) := by
    intro a ha
    constructor
    · intro q
      refine t_eqb (t_fwN ⟨m, hm⟩ ⟨p, hp⟩ ⟨a, ha⟩).1 ha (fun i hi => ?_)
      rw [t_fw_b hm hp ha hi]
      cases hx : m.testBit i with
      | false => rfl
      | true =>
        have o := (mb i hi).mp hx
        have f := q (4 - (i : Int)) (by omega) (by omega) (by omega)
        have f2 := f.resolve_left (fun z => z o)
        have b := (q_bit (x := q_wayT a) (i := 4 - (i : Int) - 1) m_wayT_r.1 (by have := (m_wayT_r (w := a)).2; omega) (by omega) (by omega)).1
        have c := t_wT_b (w := a) (i := 4 - (i : Int) - 1) (by omega) (by omega)
        rw [show 3 - (4 - (i : Int) - 1).toNat = i by omega, show ((a : Int)).toNat = a from rfl] at c
        have pi := pb i hi
        rw [if_pos rfl]
        cases hy : a.testBit i with
        | false =>
          have t := f2.mpr (b.mp (c.mpr hy))
          cases hz : p.testBit i with
          | false => rfl
          | true => exact absurd t (pi.mp hz)
        | true =>
          cases hz : p.testBit i with
          | true => rfl
          | false =>
            exfalso
            have nt : ¬ ¬ q_tru k (4 - (i : Int)) := fun q => by
              have := pi.mpr q
              rw [hz] at this
              exact Bool.noConfusion this
            have t := Classical.not_not.mp nt
            have := c.mp (b.mpr (f2.mp t))
            rw [hy] at this
            exact Bool.noConfusion this
    · intro q l l1 l2 l3
      by_cases o : q_obs k l
      · right
        have i4 : (4 - l).toNat < 4 := by omega
        have mi := (mb (4 - l).toNat i4)
        have pi := (pb (4 - l).toNat i4)
        rw [show (4 : Int) - ((4 - l).toNat : Nat) = l by omega] at mi pi
        have bt := t_fw_b (m := m) (p := p) (w := a) (i := (4 - l).toNat) hm hp ha i4
        rw [q, mi.mpr o, if_pos rfl] at bt
        have b := (q_bit (x := q_wayT a) (i := l - 1) m_wayT_r.1 (by have := (m_wayT_r (w := a)).2; omega) (by omega) (by omega)).1
        have c := t_wT_b (w := a) (i := l - 1) (by omega) (by omega)
        rw [show 3 - (l - 1).toNat = (4 - l).toNat by omega, show ((a : Int)).toNat = a from rfl, bt] at c
        constructor
        · intro t
          refine b.mp (c.mpr ?_)
          cases hz : p.testBit (4 - l).toNat with
          | false => rfl
          | true => exact absurd t (pi.mp hz)
        · intro u
          have z := c.mp (b.mpr u)
          refine Classical.not_not.mp (fun n => ?_)
          rw [pi.mpr n] at z
          exact Bool.noConfusion z
      · exact Or.inl o
  -- a first sound way
  have first : (∃ u : Int, 0 ≤ u ∧ u ≤ 15 ∧ S (q_kw k (q_wayT u)) ∧ (∀ v : Int, 0 ≤ v → v < u → ¬ S (q_kw k (q_wayT v)))) ∨ ∀ w : Int, 0 ≤ w → w ≤ 15 → ¬ S (q_kw k (q_wayT w)) := by
    by_cases h : ∀ c : Int, 0 ≤ c → c < (16 : Nat) → ¬ S (q_kw k (q_wayT c))
    · exact Or.inr (fun w w1 w2 => h w w1 (by omega))
    · obtain ⟨c, h1, h2, h3, h4⟩ := q_first 16 h
      exact Or.inl ⟨c, h1, by omega, Classical.not_not.mp h4, h3⟩
  constructor
  · intro w w1 w2 hn hw
    rcases first with ⟨u, u1, u2, u3, u4⟩ | no
    · refine ⟨u, u1, u2, u3, u4, ?_⟩
      have un : u = ((u.toNat : Nat) : Int) := by omega
      have wn : w = ((w.toNat : Nat) : Int) := by omega
      have hu16 : u.toNat < 16 := by omega
      have hw16 : w.toNat < 16 := by omega
      -- u's observed places are 0
      have ru : t_fw m 0 u.toNat = u.toNat := by
        have le := (t_fwN ⟨m, hm⟩ ⟨0, by omega⟩ ⟨u.toNat, hu16⟩).2.1
        have le' : t_fw m 0 u.toNat ≤ u.toNat := le
        have s := fsame 0 u.toNat (by omega) hu16
        rcases Nat.lt_or_ge (t_fw m 0 u.toNat) u.toNat with l | l
        · exfalso
          refine u4 (t_fw m 0 u.toNat : Nat) (by omega) (by omega) ?_
          rw [s, ← un]
          exact u3
        · omega
      have fw := (fits w.toNat hw16).mp (by rw [← wn]; exact hw.1)
      -- the fitting one of u is not before w
      have le1 : w.toNat ≤ t_fw m p u.toNat := by
        rcases Nat.lt_or_ge (t_fw m p u.toNat) w.toNat with l | l
        · exfalso
          have s := fsame p u.toNat hp hu16
          have lt16 := (t_fwN ⟨m, hm⟩ ⟨p, hp⟩ ⟨u.toNat, hu16⟩).1
          refine hn (t_fw m p u.toNat : Nat) (by omega) (by omega) ⟨(fits _ lt16).mpr ?_, ?_⟩
          · refine t_eqb (t_fwN ⟨m, hm⟩ ⟨p, hp⟩ ⟨_, lt16⟩).1 lt16 (fun i hi => ?_)
            rw [t_fw_b hm hp lt16 hi, t_fw_b hm hp hu16 hi]
            split <;> rfl
          · rw [s, ← un]; exact u3
        · exact l
      have le2 : u.toNat ≤ t_fw m 0 w.toNat := by
        rcases Nat.lt_or_ge (t_fw m 0 w.toNat) u.toNat with l | l
        · exfalso
          have s := fsame 0 w.toNat (by omega) hw16
          refine u4 (t_fw m 0 w.toNat : Nat) (by omega) (by omega) ?_
          rw [s, ← wn]
          exact hw.2
        · exact l
      have mono := t_fwM ⟨m, hm⟩ ⟨p, hp⟩ ⟨u.toNat, hu16⟩ ⟨w.toNat, hw16⟩ (by show t_fw m 0 u.toNat ≤ t_fw m 0 w.toNat; omega)
      have mono' : t_fw m p u.toNat ≤ t_fw m p w.toNat := mono
      have eq : t_fw m p u.toNat = w.toNat := by omega
      have s := fsame p u.toNat hp hu16
      rw [eq, ← wn, ← un] at s
      exact s.symm
    · exact absurd hw.2 (no w w1 w2)
  · intro hn w w1 w2 hS
    have wn : w = ((w.toNat : Nat) : Int) := by omega
    have hw16 : w.toNat < 16 := by omega
    have s := fsame p w.toNat hp hw16
    have lt16 := (t_fwN ⟨m, hm⟩ ⟨p, hp⟩ ⟨w.toNat, hw16⟩).1
    have lt16' : t_fw m p w.toNat < 16 := lt16
    refine hn (t_fw m p w.toNat : Nat) (by omega) (by omega) ⟨(fits _ lt16).mpr ?_, ?_⟩
    · refine t_eqb (t_fwN ⟨m, hm⟩ ⟨p, hp⟩ ⟨_, lt16⟩).1 lt16 (fun i hi => ?_)
      rw [t_fw_b hm hp lt16 hi, t_fw_b hm hp hw16 hi]
      split <;> rfl
    · rw [s, ← wn]; exact hS
theorem t_bcN : ∀ x : Fin 16, q_bc ((x.val : Nat) : Int) = 0 + 0 + (if m_b ((x.val : Nat) : Int) 0 then 1 else 0) + (if m_b ((x.val : Nat) : Int) 1 then 1 else 0) + (if m_b ((x.val : Nat) : Int) 2 then 1 else 0) + (if m_b ((x.val : Nat) : Int) 3 then 1 else 0) := by decide +kernel
theorem t_bc {x : Int} {f : Nat → Int} (hx : 0 ≤ x ∧ x ≤ 15) (h : ∀ l : Int, 1 ≤ l → l ≤ 4 → (m_b x (l - 1) ↔ q_tru f l)) : q_bc x = q_nt f 5 := by
  have n := t_bcN ⟨x.toNat, by omega⟩
  simp only [Int.toNat_of_nonneg hx.1] at n
  have one : ∀ l : Int, 1 ≤ l → l ≤ 4 → q_if (1 ≤ l ∧ q_tru f l) (1 : Int) 0 = if m_b x (l - 1) then 1 else 0 := by
    intro l l1 l2
    by_cases c : m_b x (l - 1)
    · rw [q_if_t ⟨l1, (h l l1 l2).mp c⟩, if_pos c]
    · rw [q_if_f (fun q => c ((h l l1 l2).mpr q.2)), if_neg c]
  have o1 := one 1 (by omega) (by omega)
  have o2 := one 2 (by omega) (by omega)
  have o3 := one 3 (by omega) (by omega)
  have o4 := one 4 (by omega) (by omega)
  unfold q_nt
  rw [show (5 : Int) = 0 + 1 + 1 + 1 + 1 + 1 by omega, q_sum_s (by omega), q_sum_s (by omega), q_sum_s (by omega), q_sum_s (by omega), q_sum_s (by omega)]
  have z : q_sum (fun l => q_if (1 ≤ l ∧ q_tru f l) (1 : Int) 0) 0 = 0 := rfl
  rw [z, q_if_f (p := 1 ≤ (0 : Int) ∧ q_tru f 0) (fun q => by omega), n]
  rw [show (0 + 1 : Int) = 1 by omega, show (1 + 1 : Int) = 2 by omega, show (2 + 1 : Int) = 3 by omega, show (3 + 1 : Int) = 4 by omega]
  rw [o1, o2, o3, o4]
  rfl
/-- the class's choice is the reference's -/
theorem t_choose {lf k g : Nat → Int} (hk : q_KR k) (h : m_A 40 lf (fun _ => 0)) : (q_fsw k = -1 → ∀ w : Int, 0 ≤ w → w < 16 → ¬ q_chok lf k g w) ∧ (q_fsw k ≠ -1 → ∃ w0 : Int, (0 ≤ w0 ∧ w0 < 16) ∧ (∀ w : Int, 0 ≤ w → w < w0 → ¬ q_chok lf k g w) ∧ q_chok lf k g w0 ∧ (q_ch lf (w0 + 1) k g).1 = q_kw k (q_fsw k) ∧ q_bc (q_fsw k) = q_nt (q_ch lf (w0 + 1) k g).1 5) := by
  have T := t_first (k := k) (S := fun f => q_con f (fun _ => 0))
  have ok := q_fsw_ok (k := k)
  constructor
  · intro e w w1 w2 q
    rw [t_chok hk h w1] at q
    unfold q_fsP at ok
    rcases ok with ⟨v, v1, v2, v3, v4, v5⟩ | ⟨o1, o2⟩
    · have r := (m_trw_r (k := k) (w := v)).1
      omega
    · have := o2 w w1 (by omega)
      rw [t_kw_trw] at this
      exact this q.2
  · intro ne
    unfold q_fsP at ok
    rcases ok with ⟨v, v1, v2, v3, v4, v5⟩ | ⟨o1, o2⟩
    · rw [t_kw_trw] at v3
      have ex : ∃ w : Int, 0 ≤ w ∧ w ≤ 15 ∧ (∀ u : Int, 0 ≤ u → u < w → ¬ (q_fit k (q_wayT u) ∧ q_con (q_kw k (q_wayT u)) (fun _ => 0))) ∧ (q_fit k (q_wayT w) ∧ q_con (q_kw k (q_wayT w)) (fun _ => 0)) := by
        by_cases a : ∀ c : Int, 0 ≤ c → c < (16 : Nat) → ¬ (q_fit k (q_wayT c) ∧ q_con (q_kw k (q_wayT c)) (fun _ => 0))
        · exact absurd v3 (T.2 (fun w w1 w2 => a w w1 (by omega)) v v1 v2)
        · obtain ⟨c, h1, h2, h3, h4⟩ := q_first 16 a
          exact ⟨c, h1, by omega, h3, Classical.not_not.mp h4⟩
      obtain ⟨w, w1, w2, w3, w4⟩ := ex
      obtain ⟨u, u1, u2, u3, u4, u5⟩ := T.1 w w1 w2 w3 w4
      have uv : u = v := by
        rcases Int.lt_trichotomy u v with l | l | l
        · have := v4 u u1 l
          rw [t_kw_trw] at this
          exact absurd u3 this
        · exact l
        · exact absurd v3 (u4 v v1 l)
      have es : (q_ch lf (w + 1) k g).1 = q_kw k (q_fsw k) := by
        rw [t_ch_s w1 w4.1, ← u5, uv, v5, t_kw_trw]
      refine ⟨w, ⟨w1, by omega⟩, fun x x1 x2 => ?_, (t_chok hk h w1).mpr w4, es, ?_⟩
      · rw [t_chok hk h x1]
        exact w3 x x1 x2
      · rw [es, v5]
        have r := m_trw_r (k := k) (w := v)
        exact t_bc r.1 (fun l l1 l2 => (r.2.2 l l1 l2).1)
    · exact absurd o1 ne
