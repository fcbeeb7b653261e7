/-! answers do not hang on junk: what lies beyond the places that are read -/
theorem m_A_tr {n : Nat} {f g h : Nat → Int} (a : m_A n f g) (b : m_A n g h) : m_A n f h := fun j hj => (a j hj).trans (b j hj)
theorem m_A_rfl {n : Nat} {f : Nat → Int} : m_A n f f := fun _ _ => rfl
theorem t_con {k lf : Nat → Int} (hk : q_KR k) (h : m_A 40 lf (fun _ => 0)) : q_con k lf ↔ q_con k (fun _ => 0) := m_con_lf hk h
theorem t_net {k lf g : Nat → Int} (hk : q_KR k) (h : m_A 40 lf (fun _ => 0)) : m_A 100 (q_net k lf g) (q_net k (fun _ => 0) (fun _ => 0)) := by
  have h0 := hk.r0
  have e : q_net k lf (fun _ => 0) = q_net k (fun _ => 0) (fun _ => 0) := by
    unfold q_net q_bds
    congr 2
    refine q_fr_congr (fun b y g1 g2 => ?_)
    unfold q_bdE
    rw [h b.toNat (by omega)]
  have a : m_A 100 (q_net k lf g) (q_net k lf (fun _ => 0)) := m_A_net
  rw [e] at a
  exact a
theorem t_dd {k lf g : Nat → Int} (hk : q_KR k) (h : m_A 40 lf (fun _ => 0)) (hc : q_con k (fun _ => 0)) : m_A 100 (q_dd k lf g) (q_D k) := by
  have n := t_net (g := g) hk h
  have k1 : q_ok (q_net k lf g) := m_con_eq.mpr ((t_con hk h).mpr hc)
  have k2 : q_ok (q_net k (fun _ => 0) (fun _ => 0)) := hc
  have e1 : q_dd k lf g = q_ps 10 (q_net k lf g) := q_cg_t k1
  have e2 : q_D k = q_ps 10 (q_net k (fun _ => 0) (fun _ => 0)) := q_cg_t k2
  rw [e1, e2]
  exact m_A_ps (by omega) n
section DJ
variable {k d d' : Nat → Int}
theorem t_ft (h : m_A 100 d d') {e : Int} (he : e ≤ 9) : q_ft d e = q_ft d' e := by
  unfold q_ft
  rw [h _ (by omega)]
theorem t_onl (hk : q_KR k) (h : m_A 100 d d') {a m : Int} (a1 : 0 ≤ a) (a2 : a < k 3) : q_on k d a m = q_on k d' a m := by
  have ac := hk.ac a1 a2
  have h0 := hk.r0
  unfold q_on
  rw [t_ft h (e := k (224 + 3 * a).toNat) (by omega), t_ft h (e := k (224 + 3 * a + 1).toNat) (by omega)]
theorem t_sumN {f g : Int → Int} : ∀ n : Nat, (∀ i : Int, 0 ≤ i → i < n → f i = g i) → q_sumN f n = q_sumN g n
  | 0, _ => rfl
  | n + 1, e => by
    have ih := t_sumN (f := f) (g := g) n (fun i h1 h2 => e i h1 (by omega))
    have en := e n (by omega) (by omega)
    show q_sumN f n + f n = q_sumN g n + g n
    rw [ih, en]
theorem t_sum {f g : Int → Int} {n : Int} (e : ∀ i : Int, 0 ≤ i → i < n → f i = g i) : q_sum f n = q_sum g n := by
  unfold q_sum
  exact t_sumN n.toNat (fun i h1 h2 => e i h1 (by omega))
theorem t_use (hk : q_KR k) (h : m_A 100 d d') {m : Int} : q_use k d m = q_use k d' m := by
  unfold q_use
  refine t_sum (fun a a1 a2 => ?_)
  rw [t_onl hk h a1 a2]
theorem t_st (hk : q_KR k) (h : m_A 100 d d') {m : Int} : q_st k d m (k 3) = q_st k d' m (k 3) := by
  unfold q_st
  refine t_sum (fun a a1 a2 => ?_)
  rw [t_onl hk h a1 a2]
theorem t_pk (hk : q_KR k) (h : m_A 100 d d') : q_pk k d = q_pk k d' := by
  have h0 := hk.r0
  unfold q_pk
  refine q_fr_congr (fun a y a1 a2 => ?_)
  have ac := hk.ac a1 a2
  unfold q_pkS
  rw [t_ft h (e := k (224 + 3 * a).toNat) (by omega), t_use hk h]
theorem t_sl (hk : q_KR k) (h : m_A 100 d d') {x y : Int} (hx : 0 ≤ x ∧ x < k 3) (hy : 0 ≤ y ∧ y < k 3) : q_sl k d x y = q_sl k d' x y := by
  have h0 := hk.r0
  have ax := hk.ac hx.1 hx.2
  have ay := hk.ac hy.1 hy.2
  unfold q_sl
  rw [h _ (by omega)]
theorem t_lv (hk : q_KR k) (h : m_A 100 d d') : q_lv k d = q_lv k d' := by
  have h0 := hk.r0
  unfold q_lv
  rw [t_pk hk h, t_st hk h]
  congr 1
  unfold q_lvF
  refine q_fr_congr (fun x s x1 x2 => ?_)
  unfold q_lvX
  refine q_fr_congr (fun y s y1 y2 => ?_)
  have ax := hk.ac x1 x2
  have ay := hk.ac y1 y2
  unfold q_lvS
  rw [t_sl hk h ⟨x1, x2⟩ ⟨y1, y2⟩, h (10 * k (224 + 3 * x + 1).toNat + k (224 + 3 * y).toNat).toNat (by omega)]
theorem t_cost (hk : q_KR k) (h : m_A 100 d d') : q_cost k d (k 0) = q_cost k d' (k 0) := by
  have h0 := hk.r0
  unfold q_cost
  refine t_sum (fun e e1 e2 => ?_)
  rw [t_ft h (e := e) (by omega)]
theorem t_dir (hk : q_KR k) (h : m_A 100 d d') {f t : Int} (hf : 0 ≤ f ∧ f ≤ k 0 - 1) (ht : 0 ≤ t ∧ t ≤ k 0 - 1) : q_dir d f t ↔ q_dir d' f t := by
  have h0 := hk.r0
  unfold q_dir
  rw [h (10 * f + t).toNat (by omega)]
  have e : ∀ c : Int, 0 ≤ c → c < 10 → (q_dirP d f t c ↔ q_dirP d' f t c) := by
    intro c c1 c2
    unfold q_dirP
    rw [h (10 * f + c).toNat (by omega), h (10 * c + t).toNat (by omega), h (10 * f + t).toNat (by omega)]
  exact ⟨fun q => ⟨q.1, fun c c1 c2 => (e c c1 c2).mp (q.2 c c1 c2)⟩, fun q => ⟨q.1, fun c c1 c2 => (e c c1 c2).mpr (q.2 c c1 c2)⟩⟩
end DJ
/-- levelling, step by step -/
theorem t_lvs {k lf g : Nat → Int} (hk : q_KR k) (h : m_A 40 lf (fun _ => 0)) (hc : q_con k (fun _ => 0)) : ∀ n : Nat, (q_lvs lf n (k, g)).1 = q_lvk n k ∧ q_KR (q_lvk n k) ∧ q_con (q_lvk n k) (fun _ => 0) := by
  intro n
  induction n with
  | zero =>
    have e1 : q_lvs lf ((0 : Nat) : Int) (k, g) = (k, g) := q_fr_0 (Int.le_refl 0)
    have e2 : q_lvk ((0 : Nat) : Int) k = k := q_fr_0 (Int.le_refl 0)
    rw [e1, e2]
    exact ⟨rfl, hk, hc⟩
  | succ n ih =>
    have e1 : q_lvs lf ((n : Int) + 1) (k, g) = q_lv1 lf (q_lvs lf n (k, g)) := q_fr_s (by omega)
    have e2 : q_lvk ((n : Int) + 1) k = q_lvk1 (q_lvk n k) := q_fr_s (by omega)
    rw [show ((n + 1 : Nat) : Int) = (n : Int) + 1 by omega, e1, e2]
    obtain ⟨i1, i2, i3⟩ := ih
    unfold q_lv1 q_lvk1
    rw [i1]
    have dd := t_dd (g := (q_lvs lf n (k, g)).2) i2 h i3
    have iff : q_lvT (q_lvk n k) lf (q_lvs lf n (k, g)).2 ↔ q_lvTk (q_lvk n k) := by
      unfold q_lvT q_lvTk
      rw [t_con i2 h, t_pk i2 dd, t_lv i2 dd]
      exact ⟨fun q => q.2, fun q => ⟨i3, q⟩⟩
    by_cases t : q_lvTk (q_lvk n k)
    · have t' := iff.mpr t
      have kr := m_KR_lv i2 t'
      have e : q_lvK (q_lvk n k) (q_dd (q_lvk n k) lf (q_lvs lf n (k, g)).2) = q_lvK (q_lvk n k) (q_D (q_lvk n k)) := by
        unfold q_lvK
        rw [t_lv i2 dd]
      rw [e] at kr
      rw [q_if_t t', q_if_t t]
      exact ⟨e, kr, m_lv_con i2 i3 t⟩
    · rw [q_if_f (fun q => t (iff.mp q)), q_if_f t]
      exact ⟨i1, i2, i3⟩
section VJ
variable {k v v' : Nat → Int}
theorem t_wt (hk : q_KR k) (h : m_A 400 v v') {e s : Int} (he : 0 ≤ e ∧ e ≤ 9) (hs : 0 ≤ s ∧ s < k 2) : q_wt v k e s = q_wt v' k e s := by
  have h0 := hk.r0
  have sp := hk.sp hs.1 hs.2
  unfold q_wt
  rw [h _ (by omega)]
theorem t_lo (hk : q_KR k) (h : m_A 400 v v') {a : Nat → Int} {e : Int} (he : 0 ≤ e ∧ e ≤ 9) : q_lo v a k e = q_lo v' a k e := by
  have h0 := hk.r0
  unfold q_lo
  refine q_fr_congr (fun s y s1 s2 => ?_)
  unfold q_loS
  rw [h (100 * 0 + 10 * e + s).toNat (by omega)]
theorem t_hi (hk : q_KR k) (h : m_A 400 v v') {a : Nat → Int} {e : Int} (he : 0 ≤ e ∧ e ≤ 9) : q_hi v a k e = q_hi v' a k e := by
  have h0 := hk.r0
  unfold q_hi
  refine q_fr_congr (fun s y s1 s2 => ?_)
  unfold q_hiS
  rw [h (100 * 0 + 10 * s + e).toNat (by omega)]
theorem t_rs (hk : q_KR k) (h : m_A 400 v v') {a : Nat → Int} {e m : Int} (he : 0 ≤ e ∧ e ≤ 9) : q_rs v a k e m = q_rs v' a k e m := by
  have h0 := hk.r0
  have hbh : q_bh v a k e = q_bh v' a k e := by
    apply propext
    constructor
    · rintro ⟨i, g1, g2, g3⟩
      refine ⟨i, g1, g2, ?_⟩
      unfold q_bhP at g3 ⊢
      rw [h (100 * 0 + 10 * e + i).toNat (by omega)] at g3
      exact g3
    · rintro ⟨i, g1, g2, g3⟩
      refine ⟨i, g1, g2, ?_⟩
      unfold q_bhP at g3 ⊢
      rw [h (100 * 0 + 10 * e + i).toNat (by omega)]
      exact g3
  have hmw : q_mw v a k e m = q_mw v' a k e m := by
    apply propext
    constructor
    · rintro ⟨i, g1, g2, g3⟩
      refine ⟨i, g1, g2, ?_⟩
      unfold q_mwP at g3 ⊢
      rw [t_wt hk h he ⟨g1, g2⟩] at g3
      exact g3
    · rintro ⟨i, g1, g2, g3⟩
      refine ⟨i, g1, g2, ?_⟩
      unfold q_mwP at g3 ⊢
      rw [t_wt hk h he ⟨g1, g2⟩]
      exact g3
  unfold q_rs
  rw [hbh, hmw, t_lo hk h he, t_hi hk h he]
theorem t_pl (hk : q_KR k) (h : m_A 400 v v') {a : Nat → Int} {p : Int} : q_pl v k p a = q_pl v' k p a := by
  have h0 := hk.r0
  unfold q_pl
  refine q_fr_congr (fun m b m1 m2 => ?_)
  have nx : ∀ b : Nat → Int, q_nxt v k m b = q_nxt v' k m b := by
    intro b
    have e : q_nx v b k m = q_nx v' b k m := by
      funext x
      have hr : ∀ i : Int, 0 ≤ i → i < k 0 → q_rs v b k i m = q_rs v' b k i m := fun i g1 g2 => t_rs hk h ⟨g1, by omega⟩
      apply propext
      unfold q_nx
      constructor
      · rintro (⟨g1, g2, g3, g4⟩ | ⟨g1, g2⟩)
        · exact Or.inl ⟨g1, g2, by rw [← hr x g1 g2]; exact g3, fun i e1 e2 => by rw [← hr i e1 (by omega)]; exact g4 i e1 e2⟩
        · exact Or.inr ⟨g1, fun i e1 e2 => by rw [← hr i e1 e2]; exact g2 i e1 e2⟩
      · rintro (⟨g1, g2, g3, g4⟩ | ⟨g1, g2⟩)
        · exact Or.inl ⟨g1, g2, by rw [hr x g1 g2]; exact g3, fun i e1 e2 => by rw [hr i e1 (by omega)]; exact g4 i e1 e2⟩
        · exact Or.inr ⟨g1, fun i e1 e2 => by rw [hr i e1 e2]; exact g2 i e1 e2⟩
    unfold q_nxt
    rw [e]
  unfold q_plS q_mi q_sts
  congr 1
  refine q_fr_congr (fun _ b _ _ => ?_)
  unfold q_stp
  rw [nx b]
theorem t_fl (hk : q_KR k) (h : m_A 400 v v') {a b : Nat → Int} {p : Int} : q_fl v k p a = q_fl v' k p b := by
  have h0 := hk.r0
  have e : m_A 10 (q_pl v k p a) (q_pl v' k p b) := by
    rw [t_pl hk h]
    intro j hj
    have := m_pl_ind (v := v') (a := a) (b := b) (p := p) hk j (by omega) (by omega)
    exact this
  unfold q_fl
  rw [m_aa_congr hk e]
  have kp : q_all (q_kpP k (q_pl v k p a)) (k 1) = q_all (q_kpP k (q_pl v' k p b)) (k 1) := by
    apply propext
    have one : ∀ c : Int, 0 ≤ c → c < k 1 → (q_kpP k (q_pl v k p a) c ↔ q_kpP k (q_pl v' k p b) c) := by
      intro c c1 c2
      have bd := hk.bd c1 c2
      unfold q_kpP
      rw [e (k (52 + 4 * c + 1).toNat).toNat (by omega), e (k (52 + 4 * c).toNat).toNat (by omega)]
    exact ⟨fun q c c1 c2 => (one c c1 c2).mp (q c c1 c2), fun q c c1 c2 => (one c c1 c2).mpr (q c c1 c2)⟩
  rw [kp]
end VJ
/-! the reductions do not hang on junk -/
theorem m_ml_pt {f0 f g0 g : Nat → Int} {S T : Nat → Int → Prop} {n : Nat} (hf : m_ml f0 S f) (hg : m_ml g0 T g) (e : f0 n = g0 n) (h : ∀ w, S n w ↔ T n w) : f n = g n := by
  obtain ⟨a1, a2, a3⟩ := hf n
  obtain ⟨b1, b2, b3⟩ := hg n
  rcases a3 with a | a <;> rcases b3 with b | b
  · rw [a, b, e]
  · have := a2 _ ((h _).mpr b); omega
  · have := b2 _ ((h _).mp a); omega
  · have c1 := a2 _ ((h _).mpr b)
    have c2 := b2 _ ((h _).mp a)
    omega
theorem t_Sv1 {k v v' : Nat → Int} (hk : q_KR k) (h : m_A 400 v v') {n : Nat} {w : Int} (q : m_Sv k v n w) : m_Sv k v' n w := by
  have h0 := hk.r0
  rcases q with ⟨f, c, t, f1, c1, t1, g1, g2, g3, g4⟩ | ⟨s, f, c, t, s1, f1, c1, t1, g1, g2, g3, g4⟩ | ⟨s, e, s1, so, e1, g1, g2, g3, g4⟩ | ⟨s, o, e, s1, so, o1, e1, g1, g2, g3, g4⟩ | ⟨s, e, s1, so, e1, g1, g2, g3, g4⟩
  · rw [h _ (by omega)] at g1 g2
    rw [h _ (by omega), h _ (by omega)] at g4
    exact Or.inl ⟨f, c, t, f1, c1, t1, g1, g2, g3, g4⟩
  · rw [h _ (by omega)] at g1 g2
    rw [h _ (by omega), h _ (by omega)] at g4
    exact Or.inr (Or.inl ⟨s, f, c, t, s1, f1, c1, t1, g1, g2, g3, g4⟩)
  · have sp := hk.sp s1.1 s1.2
    rw [h _ (by omega)] at g2 g4
    exact Or.inr (Or.inr (Or.inl ⟨s, e, s1, so, e1, g1, g2, g3, g4⟩))
  · have sp := hk.sp s1.1 s1.2
    rw [h _ (by omega)] at g2 g4
    exact Or.inr (Or.inr (Or.inr (Or.inl ⟨s, o, e, s1, so, o1, e1, g1, g2, g3, g4⟩)))
  · have sp := hk.sp s1.1 s1.2
    rw [h _ (by omega)] at g1 g2 g4
    exact Or.inr (Or.inr (Or.inr (Or.inr ⟨s, e, s1, so, e1, g1, g2, g3, g4⟩)))
theorem t_rnd9 {k a v a' v' : Nat → Int} (hk : q_KR k) (h : m_A 400 v v') (ha : m_A 400 a v) (ha' : m_A 400 a' v') : m_A 400 (q_rd k a v) (q_rd k a' v') := by
  intro n hn
  exact m_ml_pt (m_rd_ml hk ha) (m_rd_ml hk ha') (h n hn) (fun w => ⟨t_Sv1 hk h, t_Sv1 hk (m_A_sym h)⟩)
theorem t_ir {k v v' f f' : Nat → Int} (hk : q_KR k) (h : m_A 400 v v') : m_A 100 (q_ir k v f) (q_ir k v' f') := by
  intro n hn
  have h0 := hk.r0
  obtain ⟨a1, a2, a3⟩ := m_ir_at (v := v) (f := f) hk n hn
  obtain ⟨b1, b2, b3⟩ := m_ir_at (v := v') (f := f') hk n hn
  have x : ∀ q : Int, 0 ≤ q → q ≤ k 2 → v (100 * q + n).toNat = v' (100 * q + n).toNat := fun q q1 q2 => h _ (by omega)
  rcases a3 with a | ⟨q, q1, q2, a⟩ <;> rcases b3 with b | ⟨p, p1, p2, b⟩
  · omega
  · have := a1 p p1 p2
    have := x p p1 p2
    omega
  · have := b1 q q1 q2
    have := x q q1 q2
    omega
  · have := a1 p p1 p2
    have := b1 q q1 q2
    have := x p p1 p2
    have := x q q1 q2
    omega
theorem t_rx {k : Nat → Int} {x y : q_X} (hk : q_KR k) (h : m_A 400 x.1 y.1) : ∀ n : Nat, m_A 400 (q_rx k n x).1 (q_rx k n y).1 := by
  intro n
  induction n with
  | zero =>
    have e1 : q_rx k ((0 : Nat) : Int) x = x := q_fr_0 (Int.le_refl 0)
    have e2 : q_rx k ((0 : Nat) : Int) y = y := q_fr_0 (Int.le_refl 0)
    rw [e1, e2]
    exact h
  | succ n ih =>
    rw [show ((n + 1 : Nat) : Int) = (n : Int) + 1 by omega, m_rx_s (by omega), m_rx_s (by omega)]
    exact t_rnd9 hk ih m_c4 m_c4
theorem t_fi {k : Nat → Int} {x y : q_X} (hk : q_KR k) (h : m_A 400 x.1 y.1) : q_fi k x ↔ q_fi k y := by
  unfold q_fi
  exact m_A_ok (t_ir hk (t_rnd9 hk h m_c4 m_c4))
theorem t_ha {k : Nat → Int} {x y : q_X} (hk : q_KR k) (h : m_A 400 x.1 y.1) : q_ha k x ↔ q_ha k y := by
  have r := t_rnd9 hk h (m_c4 (v := x.1) (a := x.2.1)) (m_c4 (v := y.1) (a := y.2.1))
  unfold q_ha q_hc
  have one : ∀ i : Int, 0 ≤ i → i < 400 → (q_hcP (q_rd k (q_c4 x.1 x.2.1) x.1) (q_c4 x.1 x.2.1) i ↔ q_hcP (q_rd k (q_c4 y.1 y.2.1) y.1) (q_c4 y.1 y.2.1) i) := by
    intro i i1 i2
    unfold q_hcP
    rw [r _ (by omega), m_c4 (v := x.1) (a := x.2.1) _ (by omega), m_c4 (v := y.1) (a := y.2.1) _ (by omega), h _ (by omega)]
  exact ⟨fun ⟨i, i1, i2, q⟩ => ⟨i, i1, i2, (one i i1 i2).mp q⟩, fun ⟨i, i1, i2, q⟩ => ⟨i, i1, i2, (one i i1 i2).mpr q⟩⟩
theorem t_last {k : Nat → Int} {x y : q_X} (hk : q_KR k) (h : m_A 400 x.1 y.1) : q_m k x = q_m k y := by
  have r : ∀ i : Int, 0 ≤ i → m_A 400 (q_rx k i x).1 (q_rx k i y).1 := by
    intro i i1
    have := t_rx hk h i.toNat
    rw [Int.toNat_of_nonneg i1] at this
    exact this
  have e : q_last k x = q_last k y := by
    funext m
    apply propext
    unfold q_last
    constructor
    · rintro ⟨a, b, c⟩
      exact ⟨a, fun i i1 i2 => ⟨(t_fi hk (r i i1)).mp (b i i1 i2).1, (t_ha hk (r i i1)).mp (b i i1 i2).2⟩, fun q => c ⟨(t_fi hk (r m a.1)).mpr q.1, (t_ha hk (r m a.1)).mpr q.2.1, q.2.2⟩⟩
    · rintro ⟨a, b, c⟩
      exact ⟨a, fun i i1 i2 => ⟨(t_fi hk (r i i1)).mpr (b i i1 i2).1, (t_ha hk (r i i1)).mpr (b i i1 i2).2⟩, fun q => c ⟨(t_fi hk (r m a.1)).mp q.1, (t_ha hk (r m a.1)).mp q.2.1, q.2.2⟩⟩
  unfold q_m
  rw [e]
theorem t_vi {k d d' v v' : Nat → Int} (h : m_A 100 d d') : m_A 400 (q_vi k d v) (q_vi k d' v') := by
  unfold q_vi
  refine q_fr_rel (m_A 400) ?_ ?_
  · intro j hj
    unfold q_v0
    rw [if_pos hj, if_pos hj]
    by_cases c : j < 100
    · rw [if_pos c, if_pos c]; exact h j c
    · rw [if_neg c, if_neg c]
  · intro s x y s1 s2 hxy
    unfold q_upS
    exact m_A_if (fun _ => hxy) (fun _ => m_A_up hxy (fun _ => rfl))
section ZJ
variable {k lf g v a : Nat → Int}
theorem t_x0 (hk : q_KR k) (h : m_A 40 lf (fun _ => 0)) (hc : q_con k (fun _ => 0)) : m_A 400 (q_x0 k lf g v a).1 (q_X0 k).1 := t_vi (t_dd hk h hc)
theorem t_seen (hk : q_KR k) (h : m_A 40 lf (fun _ => 0)) : q_seen k lf g v a ↔ q_sen k := by
  unfold q_sen q_seen
  rw [t_con hk h]
  by_cases hc : q_con k (fun _ => 0)
  · have x := t_x0 (g := g) (v := v) (a := a) hk h hc
    have e : q_m k (q_x0 k lf g v a) = q_m k (q_X0 k) := t_last hk x
    have mm := (q_m_ok (k := k) (x := q_X0 k)).1.1
    have r := t_rx hk x (q_m k (q_X0 k)).toNat
    rw [Int.toNat_of_nonneg mm] at r
    have e9 : q_x0 k (fun _ => 0) (fun _ => 0) (fun _ => 0) (fun _ => 0) = q_X0 k := rfl
    rw [e9, e, t_fi hk r, t_ha hk r]
  · exact ⟨fun q => absurd q.1 hc, fun q => absurd q.1 hc⟩
theorem t_rds (hk : q_KR k) (h : m_A 40 lf (fun _ => 0)) : q_rds k lf g v a = q_rnd k := by
  unfold q_rnd q_rds
  by_cases hc : q_con k (fun _ => 0)
  · have x := t_x0 (g := g) (v := v) (a := a) hk h hc
    have e : q_m k (q_x0 k lf g v a) = q_m k (q_X0 k) := t_last hk x
    have mm := (q_m_ok (k := k) (x := q_X0 k)).1.1
    have r := t_rx hk x (q_m k (q_X0 k)).toNat
    rw [Int.toNat_of_nonneg mm] at r
    have e9 : q_x0 k (fun _ => 0) (fun _ => 0) (fun _ => 0) (fun _ => 0) = q_X0 k := rfl
    rw [q_if_t ((t_con hk h).mpr hc), q_if_t hc, e9, e, pz_bi_iff (t_ha hk r)]
  · rw [q_if_f (fun q => hc ((t_con hk h).mp q)), q_if_f hc]
theorem t_zX (hk : q_KR k) (h : m_A 40 lf (fun _ => 0)) (hc : q_con k (fun _ => 0)) : m_A 400 (q_zX k lf g v a).1 (q_val k) := by
  unfold q_val q_zX
  have x := t_x0 (g := g) (v := v) (a := a) hk h hc
  have e : q_m k (q_x0 k lf g v a) = q_m k (q_X0 k) := t_last hk x
  have mm := (q_m_ok (k := k) (x := q_X0 k)).1.1
  have e9 : q_x0 k (fun _ => 0) (fun _ => 0) (fun _ => 0) (fun _ => 0) = q_X0 k := rfl
  have r := t_rx hk x (q_m k (q_X0 k) + 1).toNat
  rw [Int.toNat_of_nonneg (by omega)] at r
  rw [q_if_t ((t_con hk h).mpr hc), q_if_t hc, e9, e]
  exact r
theorem t_zw_at {w : Nat → Int} {j : Nat} (hj : j ≠ 7 ∧ j ≠ 8) : q_zw k lf g v a w j = w j := by
  unfold q_zw
  by_cases hc : q_con k lf
  · rw [q_if_t hc]
    unfold q_rf
    rw [pz_up_ne hj.1, pz_up_ne hj.2]
  · rw [q_if_f hc, pz_up_ne hj.1, pz_up_ne hj.2]
end ZJ
