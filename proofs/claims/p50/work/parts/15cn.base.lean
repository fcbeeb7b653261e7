/-! words and mathematics, each behind what it wants: chunk 14 -/
theorem m_snd_ok2 {z : Int} {w W u : Nat → Int} (hz : 1 ≤ z ∧ z ≤ 10) (h0 : m_R2 z w W) : q_snd z W u ↔ q_ok w := by
  have h := m_R2_cp (u := u) hz.2 h0
  have hs := q_cz_ok (z := z) (r := q_cp 100 W u) (by omega)
  unfold q_snd
  constructor
  · intro q
    have e : q_cz z (q_cp 100 W u) = z := by
      rcases hs.2.2.2 with g | g
      · exact g
      · exact absurd q g
    have hk : ∀ c : Int, 0 ≤ c → c ≤ z → q_okc z (q_cI z c (q_cp 100 W u)) := by
      intro c c1 c2
      by_cases g : c = z
      · rw [g, ← e]; rw [e] at q ⊢; exact q
      · exact hs.2.2.1 c c1 (by omega)
    have hd := m_okc_all2 hz h (Int.le_refl z) hk
    intro c c1 c2
    by_cases g : c + 1 ≤ z
    · exact hd (c + 1) (by omega) g
    · have hu := m_dg_up2 (by omega) h hd (c + 1 - z).toNat (by omega)
      rw [show z + (((c + 1 - z).toNat : Nat) : Int) = c + 1 by omega] at hu
      rw [hu]
      exact hd z (by omega) (Int.le_refl z)
  · intro q
    have hd : ∀ c : Int, 0 ≤ c → c ≤ 10 → q_dg (q_ps c w) := by
      intro c h1 h2
      by_cases g : c = 0
      · rw [g]; exact m_dg02 h
      · have := q (c - 1) (by omega) (by omega)
        rw [show c - 1 + 1 = c by omega] at this
        exact this
    have hk : ∀ c : Int, 0 ≤ c → c ≤ z → q_okc z (q_cI z c (q_cp 100 W u)) := fun c c1 c2 => (m_okc_c2 hz h ⟨c1, c2⟩ (fun c' g1 g2 => hd c' g1 (by omega))).mpr (hd c c1 (by omega))
    exact hk _ hs.1 hs.2.1
/-- starts are laid: what is told of each event that has started -/
def m_sl (k w : Nat → Int) : Prop := ∀ e : Int, 0 ≤ e → e ≤ 9 → q_sta k e → w (10 * 0 + e).toNat ≤ k (6 + e).toNat ∧ w (10 * e + 0).toNat ≤ -(k (6 + e).toNat)
theorem m_sl_st {k w : Nat → Int} (hk : q_KR k) (hz : m_dz w) : m_sl k (q_fr (q_stE k) 1 (k 0) w) ∧ ∀ n, q_fr (q_stE k) 1 (k 0) w n ≤ w n := by
  have h0 := hk.r0
  have key := q_fr_ind (f := q_stE k) (a := 1) (n := k 0) (x := w) (fun i (u : Nat → Int) => (∀ e : Int, 1 ≤ e → e < i → e ≤ 9 → q_sta k e → u (10 * 0 + e).toNat ≤ k (6 + e).toNat ∧ u (10 * e + 0).toNat ≤ -(k (6 + e).toNat)) ∧ ∀ n, u n ≤ w n) (by omega) ⟨fun e e1 e2 => by omega, fun n => Int.le_refl _⟩ (by
    intro i u i1 i2 hu
    unfold q_stE
    by_cases g : q_sta k i
    · rw [q_if_t g]
      have l1 := fun n => m_eg_le (i := 0) (j := i) (x := k (6 + i).toNat) (w := u) n
      have l2 := fun n => m_eg_le (i := i) (j := 0) (x := -(k (6 + i).toNat)) (w := q_eg u 0 i (k (6 + i).toNat)) n
      refine ⟨?_, fun n => Int.le_trans (l2 n) (Int.le_trans (l1 n) (hu.2 n))⟩
      intro e e1 e2 e3 e4
      by_cases c : e = i
      · rw [c]
        unfold q_eg
        rw [m_lw_at, m_lw_at, m_lw_at, m_lw_at]
        (repeat' split) <;> omega
      · have a := hu.1 e e1 (by omega) e3 e4
        have b1 := l1 (10 * 0 + e).toNat
        have b2 := l2 (10 * 0 + e).toNat
        have b3 := l1 (10 * e + 0).toNat
        have b4 := l2 (10 * e + 0).toNat
        omega
    · rw [q_if_f g]
      refine ⟨?_, hu.2⟩
      intro e e1 e2 e3 e4
      by_cases c : e = i
      · rw [c] at e4; exact absurd e4 g
      · exact hu.1 e e1 (by omega) e3 e4)
  refine ⟨?_, key.2⟩
  intro e e1 e2 e3
  by_cases c : e = 0
  · have a := key.2 (10 * (0 : Int) + 0).toNat
    rw [hz 0 (by omega) (by omega)] at a
    rw [c]
    have k6 : k (6 + 0 : Int).toNat = 0 := h0.2.2.2.2.2.2.1
    rw [k6]
    omega
  · exact key.1 e (by omega) ((hk.st e1 e2).2 e3) e2 e3
theorem m_drop {a b G L sa sb : Int} {w : Nat → Int} (ha : 0 ≤ a) (hab : a < b) (hb : b ≤ 9) (hz : m_dz w) (h1 : w (10 * a + 0).toNat ≤ -sa) (h2 : w (10 * 0 + a).toNat ≤ sa) (h3 : w (10 * b + 0).toNat ≤ -sb) (h4 : w (10 * 0 + b).toNat ≤ sb) (hs : -1000 ≤ sa ∧ sa ≤ 1000 ∧ -1000 ≤ sb ∧ sb ≤ 1000) (h0 : a = 0 → sa = 0) (hL : L ≤ sb - sa) (hG : sb - sa ≤ G) : q_ph 0 (q_eg (q_eg w a b G) b a (-L)) = q_ph 0 w := by
  have at_ : ∀ i j : Int, 0 ≤ i → i ≤ 9 → 0 ≤ j → j ≤ 9 → q_eg (q_eg w a b G) b a (-L) (10 * i + j).toNat = if i = a ∧ j = b then min (w (10 * i + j).toNat) G else if i = b ∧ j = a then min (w (10 * i + j).toNat) (-L) else w (10 * i + j).toNat := by
    intro i j i1 i2 j1 j2
    unfold q_eg
    rw [m_lw_at, m_lw_at]
    (repeat' split) <;> omega
  have z0 := hz 0 (by omega) (by omega)
  have e0 : q_eg (q_eg w a b G) b a (-L) (10 * (0 : Int) + 0).toNat = 0 := by
    rw [at_ 0 0 (by omega) (by omega) (by omega) (by omega), if_neg (by omega), if_neg (by omega)]
    exact z0
  rw [m_ph_eq (by omega) (by rw [e0]; omega), m_ph_eq (by omega) (by rw [z0]; omega)]
  by_cases g : a = 0
  · have sa0 := h0 g
    have ew : q_eg (q_eg w a b G) b a (-L) = w := by
      funext n
      by_cases hn : n < 100
      · have e : n = (10 * ((n / 10 : Nat) : Int) + ((n % 10 : Nat) : Int)).toNat := by omega
        rw [e, at_ _ _ (by omega) (by omega) (by omega) (by omega)]
        by_cases c1 : ((n / 10 : Nat) : Int) = a ∧ ((n % 10 : Nat) : Int) = b
        · rw [if_pos c1, c1.1, c1.2, g]
          omega
        · rw [if_neg c1]
          by_cases c2 : ((n / 10 : Nat) : Int) = b ∧ ((n % 10 : Nat) : Int) = a
          · rw [if_pos c2, c2.1, c2.2, g]
            omega
          · rw [if_neg c2]
      · unfold q_eg
        rw [m_lw_at, m_lw_at, if_neg (by omega), if_neg (by omega)]
    rw [ew]
  · funext n
    by_cases hn : n < 100
    · have e : n = (10 * ((n / 10 : Nat) : Int) + ((n % 10 : Nat) : Int)).toNat := by omega
      have hi : 0 ≤ ((n / 10 : Nat) : Int) ∧ ((n / 10 : Nat) : Int) ≤ 9 := by omega
      have hj : 0 ≤ ((n % 10 : Nat) : Int) ∧ ((n % 10 : Nat) : Int) ≤ 9 := by omega
      have go : ∀ i j : Int, 0 ≤ i ∧ i ≤ 9 → 0 ≤ j ∧ j ≤ 9 → m_sh 0 (q_eg (q_eg w a b G) b a (-L)) (10 * i + j).toNat = m_sh 0 w (10 * i + j).toNat := by
        intro i j hi hj
        rw [m_sh_at hi hj, m_sh_at hi hj, at_ i 0 hi.1 hi.2 (by omega) (by omega), at_ 0 j (by omega) (by omega) hj.1 hj.2, at_ i j hi.1 hi.2 hj.1 hj.2]
        rw [if_neg (show ¬ (i = a ∧ (0 : Int) = b) by omega), if_neg (show ¬ (i = b ∧ (0 : Int) = a) by omega), if_neg (show ¬ ((0 : Int) = a ∧ j = b) by omega), if_neg (show ¬ ((0 : Int) = b ∧ j = a) by omega)]
        by_cases c1 : i = a ∧ j = b
        · rw [if_pos c1, c1.1, c1.2]
          (repeat' split) <;> omega
        · rw [if_neg c1]
          by_cases c2 : i = b ∧ j = a
          · rw [if_pos c2, c2.1, c2.2]
            (repeat' split) <;> omega
          · rw [if_neg c2]
      rw [e]
      exact go _ _ hi hj
    · unfold m_sh
      rw [if_neg (fun q => hn q.1), if_neg (fun q => hn q.1)]
      unfold q_eg
      rw [m_lw_at, m_lw_at, if_neg (by omega), if_neg (by omega)]
theorem m_sl_le {k w w' : Nat → Int} (h : m_sl k w) (hl : ∀ n, w' n ≤ w n) : m_sl k w' := by
  intro e e1 e2 e3
  have a := h e e1 e2 e3
  have b := hl (10 * 0 + e).toNat
  have c := hl (10 * e + 0).toNat
  omega
theorem m_ps_ph0 {f g : Nat → Int} (h : q_ph 0 f = q_ph 0 g) : ∀ n : Nat, q_ps ((n : Int) + 1) f = q_ps ((n : Int) + 1) g := by
  intro n
  induction n with
  | zero =>
    have e : ∀ f : Nat → Int, q_ps (((0 : Nat) : Int) + 1) f = q_ph 0 f := by
      intro f
      rw [q_ps_s (by omega)]
      have e0 : q_ps ((0 : Nat) : Int) f = f := q_fr_0 (by omega)
      rw [e0]
      rfl
    rw [e, e, h]
  | succ n ih =>
    rw [show ((n + 1 : Nat) : Int) + 1 = ((n : Int) + 1) + 1 by omega, q_ps_s (c := (n : Int) + 1) (f := f) (by omega), q_ps_s (c := (n : Int) + 1) (f := g) (by omega), ih]
theorem m_ok_ph0 {f g : Nat → Int} (h : q_ph 0 f = q_ph 0 g) : q_ok f ↔ q_ok g := by
  have e := m_ps_ph0 h
  constructor
  · intro q c c1 c2
    have := q c c1 c2
    have ec := e c.toNat
    rw [Int.toNat_of_nonneg c1] at ec
    rw [← ec]
    exact this
  · intro q c c1 c2
    have := q c c1 c2
    have ec := e c.toNat
    rw [Int.toNat_of_nonneg c1] at ec
    rw [ec]
    exact this
theorem m_sgS_ok {k Y : Nat → Int} (hk : q_KR k) (hz : m_dz Y) (hs : m_sl k Y) : q_ok (q_fr (q_sgS k) 0 (k 2) Y) ↔ q_ok Y := by
  have h0 := hk.r0
  have key := q_fr_ind (f := q_sgS k) (a := 0) (n := k 2) (x := Y) (fun _ (u : Nat → Int) => q_ph 0 u = q_ph 0 Y ∧ m_dz u ∧ m_sl k u) (by omega) ⟨rfl, hz, hs⟩ (by
    intro s u s1 s2 hu
    obtain ⟨u1, u2, u3⟩ := hu
    have sp := hk.sp s1 s2
    unfold q_sgS
    by_cases g : q_sta k (k (212 + 4 * s + 1).toNat)
    · rw [q_if_t g]
      have en := hk.en s1 s2 g
      have fa := u3 (k (212 + 4 * s).toNat) (by omega) (by omega) en.1
      have fb := u3 (k (212 + 4 * s + 1).toNat) (by omega) (by omega) g
      have ra := (hk.st (e := k (212 + 4 * s).toNat) (by omega) (by omega)).1
      have rb := (hk.st (e := k (212 + 4 * s + 1).toNat) (by omega) (by omega)).1
      have k6 : k (6 + 0 : Int).toNat = 0 := h0.2.2.2.2.2.2.1
      refine ⟨?_, ?_, ?_⟩
      · rw [m_drop (sa := k (6 + k (212 + 4 * s).toNat).toNat) (sb := k (6 + k (212 + 4 * s + 1).toNat).toNat) (by omega) (by omega) (by omega) u2 fa.2 fa.1 fb.2 fb.1 (by omega) (fun q => by rw [q]; exact k6) en.2.1 en.2.2]
        exact u1
      · exact m_dz_eg (m_dz_eg u2 (by omega) (by omega) (by omega)) (by omega) (by omega) (by omega)
      · exact m_sl_le (m_sl_le u3 (fun n => m_eg_le n)) (fun n => m_eg_le n)
    · rw [q_if_f g]
      exact ⟨u1, u2, u3⟩)
  exact m_ok_ph0 key.1
theorem m_sgS_st {k : Nat → Int} {s e : Int} {f : Nat → Int} : q_sgS k s (q_stE k e f) = q_stE k e (q_sgS k s f) := by
  unfold q_sgS
  by_cases g : q_sta k (k (212 + 4 * s + 1).toNat)
  · rw [q_if_t g, q_if_t g]
    unfold q_stE
    by_cases h : q_sta k e
    · rw [q_if_t h, q_if_t h]
      rw [m_eg_comm (i := e) (j := 0), m_eg_comm (i := 0) (j := e), m_eg_comm (i := e) (j := 0), m_eg_comm (i := 0) (j := e)]
    · rw [q_if_f h, q_if_f h]
  · rw [q_if_f g, q_if_f g]
/-- the reference's square of strong control answers as without ended spans -/
theorem m_sgF_ok {k g : Nat → Int} {x : (Nat → Int) × (Nat → Int)} (hk : q_KR k) : q_ok (q_sgF k (q_clr g, x)) ↔ q_ok (q_fr (q_stE k) 1 (k 0) (q_sg k (q_p2 (k 2)) (q_clr g, x)).1) := by
  have h0 := hk.r0
  have hp2 := q_p2_r (a := k 2) (by omega) (by omega)
  have r := m_R1_sg (g := g) (x := x) (p := q_p2 (k 2)) hk (by omega)
  have sl := m_sl_st hk r.2
  have e : q_sgF k (q_clr g, x) = q_fr (q_sgS k) 0 (k 2) (q_fr (q_stE k) 1 (k 0) (q_sg k (q_p2 (k 2)) (q_clr g, x)).1) := by
    unfold q_sgF
    exact (q_fr_comm2 (f := q_stE k) (g := q_sgS k) (fun i j y _ _ _ _ => m_sgS_st)).symm
  have dz : m_dz (q_fr (q_stE k) 1 (k 0) (q_sg k (q_p2 (k 2)) (q_clr g, x)).1) := by
    refine q_fr_ind (f := q_stE k) (fun _ (u : Nat → Int) => m_dz u) (by omega) r.2 ?_
    intro i u i1 i2 hu
    unfold q_stE
    by_cases c : q_sta k i
    · rw [q_if_t c]
      exact m_dz_eg (m_dz_eg hu (by omega) (by omega) (by omega)) (by omega) (by omega) (by omega)
    · rw [q_if_f c]; exact hu
  rw [e]
  exact m_sgS_ok hk dz sl.1
/-- roots do not hang on what lay there before -/
theorem m_rt_ind {k : Nat → Int} {p : Int} {x y : (Nat → Int) × (Nat → Int)} (h : q_KR k) : ∀ n : Nat, n ≤ 9 → (q_rt k p x).1 n = (q_rt k p y).1 n ∧ (q_rt k p x).2 n = (q_rt k p y).2 n := by
  intro n
  induction n using Nat.strongRecOn with
  | _ n ih =>
    intro hn
    have h0 := h.r0
    by_cases d : q_we k n ≠ -1 ∧ ¬ q_sta k (k (212 + 4 * q_we k n + 1).toNat)
    · have h3 := m_rt_y (p := p) (x := x) h (e := n) (by omega) d.1 d.2
      have h4 := m_rt_y (p := p) (x := y) h (e := n) (by omega) d.1 d.2
      rcases q_we_spec (k := k) (e := n) (by omega) with ⟨w1, w2⟩ | ⟨w1, w2, w3, w4⟩
      · exact absurd w1 d.1
      · have hw := h.sp w1 w2
        have i1 := ih (k (212 + 4 * q_we k n).toNat).toNat (by omega) (by omega)
        rw [show ((n : Int)).toNat = n from rfl] at h3 h4
        rw [h3.1, h3.2, h4.1, h4.2, i1.1, i1.2]
        exact ⟨rfl, rfl⟩
    · have e : q_we k n = -1 ∨ q_sta k (k (212 + 4 * q_we k n + 1).toNat) := by
        by_cases f : q_we k n = -1
        · exact Or.inl f
        · exact Or.inr (Classical.not_not.mp (fun g => d ⟨f, g⟩))
      have h3 := m_rt_n (p := p) (x := x) h (e := n) (by omega) e
      have h4 := m_rt_n (p := p) (x := y) h (e := n) (by omega) e
      rw [show ((n : Int)).toNat = n from rfl] at h3 h4
      rw [h3.1, h3.2, h4.1, h4.2]
      exact ⟨rfl, rfl⟩
theorem m_rtP {k : Nat → Int} {p e : Int} {x : (Nat → Int) × (Nat → Int)} (h : q_KR k) (he : 0 ≤ e ∧ e ≤ 9) : (q_rt k p x).1 e.toNat = (q_rtP k p).1 e.toNat ∧ (q_rt k p x).2 e.toNat = (q_rtP k p).2 e.toNat := m_rt_ind h e.toNat (by omega)
theorem m_sg_eq {k c : Nat → Int} {x : (Nat → Int) × (Nat → Int)} {n : Int} (hk : q_KR k) : (q_sg k n (c, x)).1 = q_fr (m_sB k) 0 n c := by
  have h0 := hk.r0
  unfold q_sg
  refine q_fr_rel (f := q_sgP k) (g := m_sB k) (fun (y : (Nat → Int) × ((Nat → Int) × (Nat → Int))) (f : Nat → Int) => y.1 = f) rfl ?_
  intro p y f p1 p2 h
  unfold q_sgP m_sB
  dsimp only
  rw [h]
  refine q_fr_congr (fun b u b1 b2 => ?_)
  have hb := hk.bd b1 b2
  have e1 := m_rtP (p := p) (e := k (52 + 4 * b).toNat) (x := y.2) hk (by omega)
  have e2 := m_rtP (p := p) (e := k (52 + 4 * b + 1).toNat) (x := y.2) hk (by omega)
  unfold q_sgB
  rw [e1.1, e1.2, e2.1, e2.2]
theorem m_sgA {k : Nat → Int} {y : (Nat → Int) × ((Nat → Int) × (Nat → Int))} {p : Int} (hk : q_KR k) : q_sgA k y p ↔ q_all (q_sgO k (q_rtP k p).1 (q_rtP k p).2) (k 1) := by
  have h0 := hk.r0
  unfold q_sgA
  have key : ∀ b : Int, 0 ≤ b → b < k 1 → (q_sgO k (q_rt k p (q_sg k p y).2).1 (q_rt k p (q_sg k p y).2).2 b ↔ q_sgO k (q_rtP k p).1 (q_rtP k p).2 b) := by
    intro b b1 b2
    have hb := hk.bd b1 b2
    have e1 := m_rtP (p := p) (e := k (52 + 4 * b).toNat) (x := (q_sg k p y).2) hk (by omega)
    have e2 := m_rtP (p := p) (e := k (52 + 4 * b + 1).toNat) (x := (q_sg k p y).2) hk (by omega)
    unfold q_sgO
    rw [e1.1, e1.2, e2.1, e2.2]
  exact ⟨fun q b b1 b2 => (key b b1 b2).mp (q b b1 b2), fun q b b1 b2 => (key b b1 b2).mpr (q b b1 b2)⟩
theorem m_fx_strong {k r u : Nat → Int} (h : q_KR k) : q_snd (k 0) (q_fx k r) u ↔ q_strong k := by
  have h0 := h.r0
  unfold q_strong
  have ea : q_all (q_sgA k (q_clr (fun _ => 0), (fun _ => 0), (fun _ => 0))) (q_p2 (k 2)) ↔ ∀ p : Int, 0 ≤ p → p < q_p2 (k 2) → q_all (q_sgO k (q_rtP k p).1 (q_rtP k p).2) (k 1) := ⟨fun q p p1 p2 => (m_sgA h).mp (q p p1 p2), fun q p p1 p2 => (m_sgA h).mpr (q p p1 p2)⟩
  rw [ea]
  rcases m_fx_cases h with c | ⟨cn, c⟩
  · rw [m_snd_ok2 (by omega) (m_R_fx (g := fun _ => 0) (r := r) h c), m_sgF_ok h, m_sg_eq h]
    exact ⟨fun q => ⟨q, c⟩, fun q => q.1⟩
  · obtain ⟨i, hi, hn⟩ := c r
    exact ⟨fun q => absurd q (m_neg_snd (u := u) (by omega) hi hn).1, fun q => absurd q.2 cn⟩
theorem q_fx_strong {k r u : Nat → Int} (h : q_KR k) : q_snd (k 0) (q_fx k r) u ↔ q_strong k := m_fx_strong h
theorem q_sb_y {k f r : Nat → Int} {a h : Nat → Int} {b x y w : Int} (hb : 0 ≤ b) (hb2 : b < k 1) (hh : q_hld k b) (hf : f = q_fr (q_sbE k a h) 0 (min b (k 1)) r) (e1 : x = a (k (52 + 4 * b).toNat).toNat) (e2 : y = a (k (52 + 4 * b + 1).toNat).toNat) (e3 : w = k (52 + 4 * b + 2).toNat - h (k (52 + 4 * b + 1).toNat).toNat + h (k (52 + 4 * b).toNat).toNat) : q_eg f x y w = q_fr (q_sbE k a h) 0 (min (b + 1) (k 1)) r := by
  rw [show min (b + 1) (k 1) = b + 1 by omega, q_fr_s hb, hf, show min b (k 1) = b by omega]
  unfold q_sbE
  rw [q_if_t hh, e1, e2, e3]
theorem q_sb_n {k f r : Nat → Int} {a h : Nat → Int} {b : Int} (hb : 0 ≤ b) (hh : ¬ (b < k 1 ∧ q_hld k b)) (hf : f = q_fr (q_sbE k a h) 0 (min b (k 1)) r) : f = q_fr (q_sbE k a h) 0 (min (b + 1) (k 1)) r := by
  by_cases g : b < k 1
  · rw [show min (b + 1) (k 1) = b + 1 by omega, q_fr_s hb, hf, show min b (k 1) = b by omega]
    unfold q_sbE
    rw [q_if_f (fun q => hh ⟨g, q⟩)]
  · rw [hf, show min (b + 1) (k 1) = min b (k 1) by omega]
theorem q_sb_congr {k a h a' h' f : Nat → Int} (hk : q_KR k) (e : ∀ i : Int, 0 ≤ i → i < 10 → a i.toNat = a' i.toNat ∧ h i.toNat = h' i.toNat) : q_sb k a h f = q_sb k a' h' f := by
  have h0 := hk.r0
  refine q_fr_congr (fun b y h1 h2 => ?_)
  have h3 := hk.bd h1 h2
  unfold q_sbE
  rw [(e (k (52 + 4 * b).toNat) (by omega) (by omega)).1, (e (k (52 + 4 * b + 1).toNat) (by omega) (by omega)).1, (e (k (52 + 4 * b).toNat) (by omega) (by omega)).2, (e (k (52 + 4 * b + 1).toNat) (by omega) (by omega)).2]
theorem q_by {p : Prop} (h : pz_bi p ≠ 0) : p := pz_bi_ne h
theorem q_bn {p : Prop} (h : pz_bi p = 0) : ¬ p := pz_bi_eq h
/-- counts and lists as far as the bounds go -/
theorem q_cx_s {k : Nat → Int} {b : Int} (hb : 0 ≤ b) (h1 : 0 ≤ k 1) : q_cnt (q_kp k) (min (b + 1) (k 1)) = q_cnt (q_kp k) (min b (k 1)) + pz_bi (b < k 1 ∧ q_kp k b) := by
  by_cases g : b < k 1
  · rw [show min (b + 1) (k 1) = b + 1 by omega, show min b (k 1) = b by omega, q_cnt_s hb]
    congr 1
    exact pz_bi_iff ⟨fun q => ⟨g, q⟩, fun q => q.2⟩
  · rw [show min (b + 1) (k 1) = min b (k 1) by omega, pz_bi_0 (fun q => g q.1)]
    omega
theorem q_cx_n {k c : Nat → Int} {b : Int} (h : q_cfl k c (min b (k 1))) (hh : ¬ (b < k 1 ∧ q_kp k b)) : q_cfl k c (min (b + 1) (k 1)) := by
  intro i h1 h2 h3
  by_cases g : i = b
  · rw [g] at h3 h2
    exact absurd ⟨by omega, h3⟩ hh
  · exact h i h1 (by omega) h3
theorem q_cx_y {k c : Nat → Int} {b x : Int} (hb : 0 ≤ b) (hb2 : b < k 1) (h : q_cfl k c (min b (k 1))) (hx : x = q_cnt (q_kp k) (min b (k 1))) : q_cfl k (pz_up c x.toNat b) (min (b + 1) (k 1)) := by
  rw [show min b (k 1) = b by omega] at h hx
  rw [show min (b + 1) (k 1) = b + 1 by omega]
  exact q_cfl_y hb h hx
theorem q_rtK_n {k r h : Nat → Int} {p e : Int} (he : 0 ≤ e) (hr : q_rtK k p r h e) (_ : 0 ≤ e) (h1 : (q_rt k p (fun _ => 0, fun _ => 0)).1 e.toNat = e ∧ (q_rt k p (fun _ => 0, fun _ => 0)).2 e.toNat = 0) : q_rtK k p (pz_up r e.toNat e) (pz_up h e.toNat 0) (e + 1) := by
  intro i g1 g2
  by_cases g : i = e
  · rw [g, pz_up_eq, pz_up_eq, h1.1, h1.2]
    exact ⟨rfl, rfl⟩
  · rw [pz_up_ne (by omega), pz_up_ne (by omega)]
    exact hr i g1 (by omega)
theorem q_rtK_y {k r h : Nat → Int} {p e f g : Int} {x : Int} (he : 0 ≤ e) (hr : q_rtK k p r h e) (hf : 0 ≤ f ∧ f < e) (h1 : (q_rt k p (fun _ => 0, fun _ => 0)).1 e.toNat = (q_rt k p (fun _ => 0, fun _ => 0)).1 f.toNat ∧ (q_rt k p (fun _ => 0, fun _ => 0)).2 e.toNat = (q_rt k p (fun _ => 0, fun _ => 0)).2 f.toNat + x) (hg : g = f) (_ : 0 ≤ e) : q_rtK k p (pz_up (pz_up r e.toNat e) e.toNat (pz_up r e.toNat e g.toNat)) (pz_up (pz_up h e.toNat 0) e.toNat (pz_up h e.toNat 0 g.toNat + x)) (e + 1) := by
  have h2 := hr f hf.1 hf.2
  intro i g1 g2
  by_cases g3 : i = e
  · rw [g3, hg, pz_up_eq, pz_up_eq, pz_up_ne (by omega), pz_up_ne (by omega), h1.1, h1.2, h2.1, h2.2]
    exact ⟨rfl, rfl⟩
  · rw [pz_up_ne (by omega), pz_up_ne (by omega), pz_up_ne (by omega), pz_up_ne (by omega)]
    exact hr i g1 (by omega)
