/-! words and mathematics, each behind what it wants: chunk 20 -/
theorem q_cA_cap {k c f t d : Nat → Int} {x : Int} (h : q_cA k c f t d) (hk : 0 ≤ k 3) : q_cA (pz_up k 5 x) (pz_up c 1 x) f t d := by
  have e1 : pz_up k 5 x 3 = k 3 := pz_up_ne (by decide)
  refine ⟨⟨by rw [e1, pz_up_ne (by decide)]; exact h.1.1, by rw [pz_up_eq, pz_up_eq]⟩, fun s g1 g2 => ?_⟩
  rw [e1] at g2
  rw [pz_up_ne (by omega), pz_up_ne (by omega), pz_up_ne (by omega)]
  exact h.2 s g1 g2
theorem q_cO_put {k u y z : Nat → Int} {e a b c : Int} (h : q_cO k u y z) (he : 0 ≤ e ∧ e ≤ 9) : q_cO (pz_up (pz_up (pz_up k (16 + e).toNat a) (26 + e).toNat b) (36 + e).toNat c) (pz_up u e.toNat a) (pz_up y e.toNat b) (pz_up z e.toNat c) := by
  intro x g1 g2
  by_cases g : x = e
  · rw [g, pz_up_eq, pz_up_eq, pz_up_eq, pz_up_eq]
    rw [pz_up_ne (by omega), pz_up_ne (by omega), pz_up_eq, pz_up_ne (by omega), pz_up_eq]
    exact ⟨rfl, rfl, rfl⟩
  · have h2 := h x g1 g2
    rw [pz_up_ne (f := u) (by omega), pz_up_ne (f := y) (by omega), pz_up_ne (f := z) (by omega)]
    rw [pz_up_ne (by omega), pz_up_ne (by omega), pz_up_ne (by omega), pz_up_ne (by omega), pz_up_ne (by omega), pz_up_ne (by omega), pz_up_ne (by omega), pz_up_ne (by omega), pz_up_ne (by omega)]
    exact h2
theorem q_cP_pl {k a r : Nat → Int} (hk : 0 ≤ k 0 ∧ k 0 ≤ 10) : q_cP (q_kpl k a (k 0)) (q_cp 10 a r) := by
  have e0 : q_kpl k a (k 0) 240 = k 0 := by unfold q_kpl; rw [if_pos (by omega)]
  intro x g1 g2
  rw [e0] at g2
  unfold q_kpl q_cp
  rw [if_pos (by omega), if_neg (by omega), if_pos (by omega)]
  congr 1
  omega
theorem q_nth {p : Int → Prop} : ∀ (n : Nat) (i : Int), 0 ≤ i → i < q_cnt p n → ∃ b : Int, 0 ≤ b ∧ b < n ∧ p b ∧ q_cnt p b = i
  | 0, i, h1, h2 => by
    have : q_cnt p ((0 : Nat) : Int) = 0 := rfl
    omega
  | n + 1, i, h1, h2 => by
    rw [show ((n + 1 : Nat) : Int) = (n : Int) + 1 by omega, q_cnt_s (by omega)] at h2
    by_cases g : i < q_cnt p n
    · obtain ⟨b, g1, g2, g3, g4⟩ := q_nth n i h1 g
      exact ⟨b, g1, by omega, g3, g4⟩
    · by_cases e : p n
      · rw [pz_bi_1 e] at h2
        exact ⟨n, by omega, by omega, e, by omega⟩
      · rw [pz_bi_0 e] at h2
        omega
def q_catP (k : Nat → Int) (i b : Int) : Prop := 0 ≤ b ∧ b < k 1 ∧ q_kp k b ∧ q_cnt (q_kp k) b = i
noncomputable def q_cat (k : Nat → Int) (i : Int) : Int := Classical.epsilon (q_catP k i)
theorem q_cat_ok {k : Nat → Int} {i : Int} (hn : 0 ≤ k 1) (h : 0 ≤ i ∧ i < q_cnt (q_kp k) (k 1)) : q_catP k i (q_cat k i) := by
  refine Classical.epsilon_spec (p := q_catP k i) ?_
  obtain ⟨b, g1, g2, g3, g4⟩ := q_nth (p := q_kp k) (k 1).toNat i h.1 (by rw [Int.toNat_of_nonneg hn]; exact h.2)
  exact ⟨b, g1, by omega, g3, g4⟩
theorem q_cat_e {k j c : Nat → Int} {i : Int} (hn : 0 ≤ k 1) (h : 0 ≤ i ∧ i < q_cnt (q_kp k) (k 1)) (hc : q_CK k j c) : c i.toNat = q_cat k i := by
  have h1 := q_cat_ok hn h
  have h2 := hc.2.2 (q_cat k i) h1.1 h1.2.1 h1.2.2.1
  rw [h1.2.2.2] at h2
  exact h2
theorem q_NK_at {k n w d : Nat → Int} {f t : Int} (hk : q_KR k) (h : q_NK k n w d) (hc : q_con k (fun _ => 0)) (hf : 0 ≤ f ∧ f < k 0) (ht : 0 ≤ t ∧ t < k 0) : (d (10 * f + t).toNat = 1000000000 ↔ q_D k (10 * f + t).toNat = 1000000) ∧ (q_D k (10 * f + t).toNat ≠ 1000000 → d (10 * f + t).toNat = q_D k (10 * f + t).toNat) := by
  have h0 := hk.r0
  rw [q_NK_D h hc f t hf.1 hf.2 ht.1 ht.2]
  exact q_N_r (q_dR_D hk hc (10 * f + t).toNat (by omega)).2
theorem q_gi_at {k n w d r : Nat → Int} {f t : Int} (hk : q_KR k) (h : q_NK k n w d) (hc : q_con k (fun _ => 0)) (hf : 0 ≤ f ∧ f < k 0) (ht : 0 ≤ t ∧ t < k 0) : (q_gi (n 0) w (n 0) (q_ri f r) t.toNat = 1000000000 ↔ q_D k (10 * f + t).toNat = 1000000) ∧ (q_D k (10 * f + t).toNat ≠ 1000000 → q_gi (n 0) w (n 0) (q_ri f r) t.toNat = q_D k (10 * f + t).toNat) := by
  have h0 := hk.r0
  rw [h.1, q_gi_D hk hc hf ht h.2.2.1]
  exact q_N_r (q_dR_D hk hc (10 * f + t).toNat (by omega)).2
theorem q_po_at {k n w d : Nat → Int} {f : Int} (hk : q_KR k) (h : q_NK k n w d) (hc : q_con k (fun _ => 0)) (hf : 0 ≤ f ∧ f < k 0) : ∃ p : Nat → Int, q_po (n 0) p w ∧ p f.toNat ≤ 0 := by
  rw [h.1]
  exact q_po_D hk hc hf h.2.2.1
theorem q_RK_at {k m V U : Nat → Int} {f t : Int} (hk : q_KR k) (h : q_RK k m V U) (hc : q_sen k) (hf : 0 ≤ f ∧ f < k 0) (ht : 0 ≤ t ∧ t < k 0) : (V (10 * f + t).toNat = 1000000000 ↔ q_val k (100 * 0 + 10 * f + t).toNat = 1000000) ∧ (q_val k (100 * 0 + 10 * f + t).toNat ≠ 1000000 → V (10 * f + t).toNat = q_val k (100 * 0 + 10 * f + t).toNat) := by
  have h0 := hk.r0
  have h1 := q_N_v (q_vb_val hk hc (100 * 0 + 10 * f + t).toNat (by omega))
  rw [(h.2.2 hc).1 f t hf.1 hf.2 ht.1 ht.2]
  exact ⟨h1.1, h1.2.1⟩
theorem q_al_ka {k : Nat → Int} (h : q_KR k) : q_al (q_ka k) := fun e h1 h2 => by
  rw [q_ka_e h1]
  exact (h.st h1 h2).1
noncomputable def q_plk (k : Nat → Int) (p : Int) : Nat → Int := q_pl (q_val k) k p (fun _ => 0)
noncomputable def q_flk (k : Nat → Int) (p : Int) : Int := q_fl (q_val k) k p (fun _ => 0)
theorem m_aa_congr {k a b : Nat → Int} (hk : q_KR k) (h : m_A 10 a b) : q_aa k a = q_aa k b := by
  have h0 := hk.r0
  apply propext
  constructor
  · intro q e g1 g2; rw [← h e.toNat (by omega)]; exact q e g1 g2
  · intro q e g1 g2; rw [h e.toNat (by omega)]; exact q e g1 g2
theorem m_rs_congr {v k a b : Nat → Int} {e m : Int} (hk : q_KR k) (h : m_A 10 a b) (he : 0 ≤ e ∧ e ≤ 9) : q_rs v a k e m = q_rs v b k e m := by
  have h0 := hk.r0
  have hlo : q_lo v a k e = q_lo v b k e := by
    unfold q_lo
    refine q_fr_congr (fun s y g1 g2 => ?_)
    unfold q_loS
    rw [h s.toNat (by omega)]
  have hhi : q_hi v a k e = q_hi v b k e := by
    unfold q_hi
    refine q_fr_congr (fun s y g1 g2 => ?_)
    unfold q_hiS
    rw [h s.toNat (by omega)]
  have hbh : q_bh v a k e = q_bh v b k e := by
    apply propext
    constructor
    · rintro ⟨i, g1, g2, g3⟩
      refine ⟨i, g1, g2, ?_⟩
      unfold q_bhP at g3 ⊢
      rw [h i.toNat (by omega)] at g3
      exact g3
    · rintro ⟨i, g1, g2, g3⟩
      refine ⟨i, g1, g2, ?_⟩
      unfold q_bhP at g3 ⊢
      rw [← h i.toNat (by omega)] at g3
      exact g3
  have hmw : q_mw v a k e m = q_mw v b k e m := by
    apply propext
    constructor
    · rintro ⟨i, g1, g2, g3⟩
      have hs := hk.sp g1 g2
      refine ⟨i, g1, g2, ?_⟩
      unfold q_mwP at g3 ⊢
      rw [h (k (212 + 4 * i + 1).toNat).toNat (by omega), h (k (212 + 4 * i).toNat).toNat (by omega)] at g3
      exact g3
    · rintro ⟨i, g1, g2, g3⟩
      have hs := hk.sp g1 g2
      refine ⟨i, g1, g2, ?_⟩
      unfold q_mwP at g3 ⊢
      rw [← h (k (212 + 4 * i + 1).toNat).toNat (by omega), ← h (k (212 + 4 * i).toNat).toNat (by omega)] at g3
      exact g3
  unfold q_rs
  rw [hlo, hhi, hbh, hmw, h e.toNat (by omega)]
theorem m_nxt_congr {v k a b : Nat → Int} {m : Int} (hk : q_KR k) (h : m_A 10 a b) : q_nxt v k m a = q_nxt v k m b := by
  have h0 := hk.r0
  have e : q_nx v a k m = q_nx v b k m := by
    funext x
    have hr : ∀ i : Int, 0 ≤ i → i < k 0 → q_rs v a k i m = q_rs v b k i m := fun i g1 g2 => m_rs_congr hk h ⟨g1, by omega⟩
    apply propext
    unfold q_nx
    constructor
    · rintro (⟨g1, g2, g3, g4⟩ | ⟨g1, g2⟩)
      · exact Or.inl ⟨g1, g2, by rw [← hr x g1 g2]; exact g3, fun i e1 e2 => by rw [← hr i e1 (by omega)]; exact g4 i e1 e2⟩
      · exact Or.inr ⟨g1, fun i e1 e2 => by rw [← hr i e1 e2]; exact g2 i e1 e2⟩
    · rintro (⟨g1, g2, g3, g4⟩ | ⟨g1, g2⟩)
      · exact Or.inl ⟨g1, g2, by rw [hr x g1 g2]; exact g3, fun i e1 e2 => by rw [hr i e1 (by omega)]; exact g4 i e1 e2⟩
      · exact Or.inr ⟨g1, fun i e1 e2 => by rw [hr i e1 e2]; exact g2 i e1 e2⟩
  unfold q_nxt
  rw [e]
theorem m_mi_congr {v k a b : Nat → Int} {p m : Int} (hk : q_KR k) (h : m_A 10 a b) : m_A 10 (q_mi v k p m a) (q_mi v k p m b) := by
  unfold q_mi q_sts
  refine q_fr_rel (m_A 10) ?_ ?_
  · refine q_fr_rel (m_A 10) h ?_
    intro s x y g1 g2 h
    have hs := hk.sp g1 g2
    have h0 := hk.r0
    unfold q_enS
    rw [h (k (212 + 4 * s + 1).toNat).toNat (by omega), h (k (212 + 4 * s).toNat).toNat (by omega)]
    exact m_A_if (fun _ => m_A_up h (fun _ => rfl)) (fun _ => h)
  · intro s x y g1 g2 h
    show m_A 10 (q_stp v k m x) (q_stp v k m y)
    unfold q_stp
    rw [m_nxt_congr hk h]
    exact m_A_if (fun _ => h) (fun _ => m_A_up h (fun _ => rfl))
theorem m_pl_ind {v k a b : Nat → Int} {p : Int} (hk : q_KR k) : ∀ e : Int, 0 ≤ e → e ≤ 9 → q_pl v k p a e.toNat = q_pl v k p b e.toNat := by
  have h : m_A 10 (q_pl v k p a) (q_pl v k p b) := by
    unfold q_pl
    refine q_fr_rel (m_A 10) ?_ ?_
    · intro j hj
      unfold q_a0
      (repeat' split) <;> first | rfl | omega
    · intro m x y g1 g2 h
      unfold q_plS
      rw [m_aa_congr hk h]
      exact m_A_if (fun _ => h) (fun _ => m_mi_congr hk h)
  intro e g1 g2
  exact h e.toNat (by omega)
/-- a play does not hang on what stood in the row of starts before it -/
theorem q_pl_ind {v k a b : Nat → Int} {p : Int} (hk : q_KR k) : ∀ e : Int, 0 ≤ e → e ≤ 9 → q_pl v k p a e.toNat = q_pl v k p b e.toNat := m_pl_ind hk
theorem q_fl_ind {v k a b : Nat → Int} {p : Int} (hk : q_KR k) : q_fl v k p a = q_fl v k p b := by
  have h := q_pl_ind (v := v) (a := a) (b := b) (p := p) hk
  have h0 := hk.r0
  have e1 : q_aa k (q_pl v k p a) ↔ q_aa k (q_pl v k p b) := by
    constructor
    · intro q e g1 g2; rw [← h e g1 (by omega)]; exact q e g1 g2
    · intro q e g1 g2; rw [h e g1 (by omega)]; exact q e g1 g2
  have e2 : q_all (q_kpP k (q_pl v k p a)) (k 1) ↔ q_all (q_kpP k (q_pl v k p b)) (k 1) := by
    constructor
    · intro q b g1 g2 g3
      have h1 := hk.bd g1 g2
      rw [← h _ (by omega) (by omega), ← h _ (by omega) (by omega)]
      exact q b g1 g2 g3
    · intro q b g1 g2 g3
      have h1 := hk.bd g1 g2
      rw [h _ (by omega) (by omega), h _ (by omega) (by omega)]
      exact q b g1 g2 g3
  unfold q_fl
  rw [show q_aa k (q_pl v k p a) = q_aa k (q_pl v k p b) from propext e1, show q_all (q_kpP k (q_pl v k p a)) (k 1) = q_all (q_kpP k (q_pl v k p b)) (k 1) from propext e2]
theorem q_fl_k {k a : Nat → Int} {p : Int} (hk : q_KR k) : q_fl (q_val k) k p a = q_flk k p := q_fl_ind hk
theorem q_la_congr {a b : Nat → Int} {n : Int} (h : ∀ e : Int, 0 ≤ e → e < n → a e.toNat = b e.toNat) : q_la a n = q_la b n := by
  unfold q_la
  refine q_fr_congr (fun e y g1 g2 => ?_)
  unfold q_laS
  rw [h e g1 g2]
def q_bc (x : Int) : Int := ((x.toNat % 2 + x.toNat / 2 % 2 + x.toNat / 4 % 2 + x.toNat / 8 % 2 : Nat) : Int)
theorem q_fsw_r {k : Nat → Int} (h : q_fsw k ≠ -1) : 0 ≤ q_fsw k ∧ q_fsw k ≤ 15 := by
  rcases q_fsw_ok (k := k) with ⟨w, h1, h2, -, -, h5⟩ | ⟨h1, -⟩
  · have := (q_trw_r (k := k) h1 h2).1
    rw [h5]
    exact this
  · exact absurd h1 h
theorem q_cL_kw {k f r : Nat → Int} {t l : Int} (h : q_cL k r) (hl : 5 ≤ l) (hf : ∀ i : Int, 1 ≤ i → i ≤ 4 → f i.toNat = if i < l then q_kwL k t i else r i.toNat) : q_cL (q_kw k t) f := by
  intro i g1 g2
  rw [hf i g1 g2, if_pos (by omega), q_kw_l g1 g2]
theorem q_chl_up {k f r : Nat → Int} {t l v : Int} (hl : 1 ≤ l) (hf : ∀ i : Int, 1 ≤ i → i ≤ 4 → f i.toNat = if i < l then q_kwL k t i else r i.toNat) (hv : v = q_kwL k t l) : ∀ i : Int, 1 ≤ i → i ≤ 4 → pz_up f l.toNat v i.toNat = if i < l + 1 then q_kwL k t i else r i.toNat := by
  intro i g1 g2
  by_cases g : i = l
  · rw [g, pz_up_eq, if_pos (by omega), hv]
  · rw [pz_up_ne (by omega), hf i g1 g2]
    by_cases g3 : i < l
    · rw [if_pos g3, if_pos (by omega)]
    · rw [if_neg g3, if_neg (by omega)]
theorem q_chl_no {k f r : Nat → Int} {t l : Int} (hl : 1 ≤ l) (hf : ∀ i : Int, 1 ≤ i → i ≤ 4 → f i.toNat = if i < l then q_kwL k t i else r i.toNat) (hv : r l.toNat = q_kwL k t l) : ∀ i : Int, 1 ≤ i → i ≤ 4 → f i.toNat = if i < l + 1 then q_kwL k t i else r i.toNat := by
  intro i g1 g2
  rw [hf i g1 g2]
  by_cases g : i = l
  · rw [g, if_neg (by omega), if_pos (by omega), hv]
  · by_cases g3 : i < l
    · rw [if_pos g3, if_pos (by omega)]
    · rw [if_neg g3, if_neg (by omega)]
/-- the row with labels told by two sums -/
theorem q_sets_ne {tr fa : Int} {k : Nat → Int} {j : Nat} (h : ¬ (47 ≤ j ∧ j ≤ 50)) : q_sets tr fa k j = k j := by
  unfold q_sets
  refine q_fr_ind (f := q_seS tr fa) (fun _ (f : Nat → Int) => f j = k j) (by omega) rfl ?_
  intro l f g1 g2 g3
  unfold q_seS
  by_cases g : q_obs f l
  · rw [q_if_t g]; exact g3
  · rw [q_if_f g, pz_up_ne (by omega)]; exact g3
noncomputable def q_psk (k : Nat → Int) (t f : Int) : Nat → Int := q_sets t f (q_lop k)
theorem q_psk_ne {t f : Int} {k : Nat → Int} {j : Nat} (h : ¬ (47 ≤ j ∧ j ≤ 50)) : q_psk k t f j = k j := by
  unfold q_psk
  rw [q_sets_ne h]
  exact if_neg h
theorem m_sets_l {k : Nat → Int} {t f : Int} : ∀ l : Int, 1 ≤ l → l ≤ 4 → q_sets t f (q_lop k) (46 + l).toNat = q_if (q_up t (l - 1)) 84 (q_if (q_up f (l - 1)) 70 111) := by
  have key : ∀ l : Int, 1 ≤ l → l ≤ 4 → q_sets t f (q_lop k) (46 + l).toNat = if l < 5 then q_if (q_up t (l - 1)) 84 (q_if (q_up f (l - 1)) 70 111) else 111 := by
    unfold q_sets
    refine q_fr_ind (f := q_seS t f) (fun i (u : Nat → Int) => ∀ l : Int, 1 ≤ l → l ≤ 4 → u (46 + l).toNat = if l < i then q_if (q_up t (l - 1)) 84 (q_if (q_up f (l - 1)) 70 111) else 111) (by omega) ?_ ?_
    · intro l l1 l2
      rw [if_neg (by omega)]
      exact if_pos (by omega)
    · intro i u i1 i2 hu l l1 l2
      have ui := hu i i1 (by omega)
      rw [if_neg (by omega)] at ui
      unfold q_seS
      rw [q_if_f (p := q_obs u i) (fun q => by
        have q' : u (46 + i).toNat = 116 ∨ u (46 + i).toNat = 102 := q
        omega)]
      by_cases e : l = i
      · rw [e, pz_up_eq, if_pos (by omega)]
      · rw [pz_up_ne (by omega), hu l l1 l2]
        by_cases g : l < i
        · rw [if_pos g, if_pos (by omega)]
        · rw [if_neg g, if_neg (by omega)]
  intro l l1 l2
  rw [key l l1 l2, if_pos (by omega)]
theorem m_psk_T {k : Nat → Int} {t f : Int} (h1 : 0 ≤ t ∧ t ≤ 15) (h2 : 0 ≤ f ∧ f ≤ 15) (h3 : pz_and t f = 0) : q_cT (q_psk k t f) t f := by
  refine ⟨h1, h2, fun l l1 l2 => ?_⟩
  have ev : q_psk k t f (46 + l).toNat = q_if (q_up t (l - 1)) 84 (q_if (q_up f (l - 1)) 70 111) := m_sets_l l l1 l2
  have bt := (q_bit (x := t) (i := l - 1) h1.1 (by omega) (by omega) (by omega)).1
  have bf := (q_bit (x := f) (i := l - 1) h2.1 (by omega) (by omega) (by omega)).1
  have bb := (m_bI h1 h2 (i := l - 1) (by omega)).2.1
  have b6 := m_15I (i := l - 1) (by omega)
  rw [h3] at bb
  show (m_b t (l - 1) ↔ q_tru (q_psk k t f) l) ∧ (m_b f (l - 1) ↔ q_fls (q_psk k t f) l)
  unfold q_tru q_fls
  rw [ev]
  by_cases u : q_up t (l - 1)
  · rw [q_if_t u]
    have ut : m_b t (l - 1) := bt.mpr u
    refine ⟨⟨fun _ => Or.inr rfl, fun _ => ut⟩, ⟨fun q => absurd (bb.mpr ⟨ut, q⟩) b6.2, fun q => by omega⟩⟩
  · rw [q_if_f u]
    have ut : ¬ m_b t (l - 1) := fun q => u (bt.mp q)
    by_cases v : q_up f (l - 1)
    · rw [q_if_t v]
      refine ⟨⟨fun q => absurd q ut, fun q => by omega⟩, ⟨fun _ => Or.inr rfl, fun _ => bf.mpr v⟩⟩
    · rw [q_if_f v]
      refine ⟨⟨fun q => absurd q ut, fun q => by omega⟩, ⟨fun q => absurd (bf.mp q) v, fun q => by omega⟩⟩
theorem q_psk_T {k : Nat → Int} {t f : Int} (h1 : 0 ≤ t ∧ t ≤ 15) (h2 : 0 ≤ f ∧ f ≤ 15) (h3 : pz_and t f = 0) : q_cT (q_psk k t f) t f := m_psk_T h1 h2 h3
def q_lvTk (k : Nat → Int) : Prop := k 1 ≠ 40 ∧ q_pk k (q_D k) ≠ -1 ∧ q_lv k (q_D k) ≠ -1
noncomputable def q_lvk1 (k : Nat → Int) : Nat → Int := q_if (q_lvTk k) (q_lvK k (q_D k)) k
noncomputable def q_lvk (n : Int) (k : Nat → Int) : Nat → Int := q_fr (fun _ => q_lvk1) 0 n k
theorem q_lvk_s {k f : Nat → Int} {n : Int} (hn : 0 ≤ n) (hs : f = q_lvk n k) (h : q_lvTk f) : q_lvK f (q_D f) = q_lvk (n + 1) k := by
  unfold q_lvk
  rw [q_fr_s hn]
  show _ = q_lvk1 (q_lvk n k)
  rw [← hs]
  unfold q_lvk1
  rw [q_if_t h]
theorem q_lvk_e {k f : Nat → Int} {n : Int} (hn : 0 ≤ n ∧ n ≤ 40) (hs : f = q_lvk n k) (h : ¬ q_lvTk f) : f = q_lvk 40 k := by
  have key : ∀ d9 : Nat, f = q_lvk (n + d9) k := by
    intro d9
    induction d9 with
    | zero => rw [show n + ((0 : Nat) : Int) = n by omega]; exact hs
    | succ d9 ih =>
      unfold q_lvk
      rw [show n + ((d9 + 1 : Nat) : Int) = n + (d9 : Int) + 1 by omega, q_fr_s (by omega)]
      show _ = q_lvk1 (q_lvk (n + d9) k)
      rw [← ih]
      unfold q_lvk1
      rw [q_if_f h]
  have h9 := key (40 - n).toNat
  rw [show n + ((40 - n).toNat : Int) = 40 by omega] at h9
  exact h9
theorem q_lvTk_T {k : Nat → Int} (hc : q_con k (fun _ => 0)) (h : q_lvTk k) : q_lvT k (fun _ => 0) (fun _ => 0) := ⟨hc, h.1, h.2.1, h.2.2⟩
