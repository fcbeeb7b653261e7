/-! words and mathematics, each behind what it wants: chunk 19 -/
/-- a round: nothing grows, nothing falls below the distance, edges from where the distance stands are kept -/
theorem m_round {z f : Int} {W R d : Nat → Int} (hz : 0 ≤ z) (hd : ∀ x y : Int, 0 ≤ x → x < z → 0 ≤ y → y < z → W (10 * x + y).toNat ≠ 1000000000 → d x.toNat < 1000000 → d y.toNat ≤ d x.toNat + W (10 * x + y).toNat ∧ d y.toNat < 1000000) (hR : ∀ x : Int, 0 ≤ x → x < z → R x.toNat = 1000000000 ∨ (d x.toNat < 1000000 ∧ d x.toNat ≤ R x.toNat ∧ R x.toNat < 1000000000)) (hW : ∀ x y : Int, 0 ≤ x → x < z → 0 ≤ y → y < z → W (10 * x + y).toNat ≤ 1000000000) :
    (∀ x : Int, 0 ≤ x → x < z → (q_gr z W (R, 0)).1 x.toNat = 1000000000 ∨ (d x.toNat < 1000000 ∧ d x.toNat ≤ (q_gr z W (R, 0)).1 x.toNat ∧ (q_gr z W (R, 0)).1 x.toNat < 1000000000)) ∧ (∀ x : Int, 0 ≤ x → x < z → (q_gr z W (R, 0)).1 x.toNat ≤ R x.toNat) ∧ (∀ x y : Int, 0 ≤ x → x < z → 0 ≤ y → y < z → R x.toNat = d x.toNat → d x.toNat < 1000000 → W (10 * x + y).toNat ≠ 1000000000 → d y.toNat = d x.toNat + W (10 * x + y).toNat → (q_gr z W (R, 0)).1 y.toNat = d y.toNat) := by
  have J : (∀ x : Int, 0 ≤ x → x < z → (q_gr z W (R, 0)).1 x.toNat = 1000000000 ∨ (d x.toNat < 1000000 ∧ d x.toNat ≤ (q_gr z W (R, 0)).1 x.toNat ∧ (q_gr z W (R, 0)).1 x.toNat < 1000000000)) ∧ (∀ x : Int, 0 ≤ x → x < z → (q_gr z W (R, 0)).1 x.toNat ≤ R x.toNat) ∧ (∀ x y : Int, 0 ≤ x → x < z → 0 ≤ y → y < z → R x.toNat = d x.toNat → d x.toNat < 1000000 → W (10 * x + y).toNat ≠ 1000000000 → (q_gr z W (R, 0)).1 y.toNat ≤ d x.toNat + W (10 * x + y).toNat) := by
    unfold q_gr
    refine q_fr_ind (f := q_gF z W) (fun i (s : (Nat → Int) × Int) => (∀ x : Int, 0 ≤ x → x < z → s.1 x.toNat = 1000000000 ∨ (d x.toNat < 1000000 ∧ d x.toNat ≤ s.1 x.toNat ∧ s.1 x.toNat < 1000000000)) ∧ (∀ x : Int, 0 ≤ x → x < z → s.1 x.toNat ≤ R x.toNat) ∧ (∀ x y : Int, 0 ≤ x → x < i → 0 ≤ y → y < z → R x.toNat = d x.toNat → d x.toNat < 1000000 → W (10 * x + y).toNat ≠ 1000000000 → s.1 y.toNat ≤ d x.toNat + W (10 * x + y).toNat)) hz ⟨hR, fun x _ _ => Int.le_refl _, fun x y x1 x2 => by omega⟩ ?_
    intro i s i1 i2 hs
    unfold q_gF
    have K := q_fr_ind (f := q_gS W i) (a := 0) (n := z) (x := s) (fun t (u : (Nat → Int) × Int) => (∀ x : Int, 0 ≤ x → x < z → u.1 x.toNat = 1000000000 ∨ (d x.toNat < 1000000 ∧ d x.toNat ≤ u.1 x.toNat ∧ u.1 x.toNat < 1000000000)) ∧ (∀ x : Int, 0 ≤ x → x < z → u.1 x.toNat ≤ s.1 x.toNat) ∧ (∀ y : Int, 0 ≤ y → y < t → R i.toNat = d i.toNat → d i.toNat < 1000000 → W (10 * i + y).toNat ≠ 1000000000 → u.1 y.toNat ≤ d i.toNat + W (10 * i + y).toNat)) hz ⟨hs.1, fun x _ _ => Int.le_refl _, fun y y1 y2 => by omega⟩ (by
      intro t u t1 t2 hu
      have ui := hu.1 i i1 i2
      have ut := hu.1 t t1 t2
      have us := hu.2.1 i i1 i2
      have ss := hs.2.1 i i1 i2
      have hw := hW i t i1 i2 t1 t2
      unfold q_gS
      by_cases g : W (10 * i + t).toNat ≠ 1000000000 ∧ u.1 i.toNat ≠ 1000000000 ∧ u.1 i.toNat + W (10 * i + t).toNat < u.1 t.toNat
      · rw [q_if_t g]
        have hdi := hd i t i1 i2 t1 t2 g.1 (by omega)
        refine ⟨?_, ?_, ?_⟩
        · intro x x1 x2
          show pz_up u.1 t.toNat _ x.toNat = _ ∨ _
          by_cases e : x = t
          · rw [e]
            right
            show d t.toNat < 1000000 ∧ d t.toNat ≤ pz_up u.1 t.toNat _ t.toNat ∧ pz_up u.1 t.toNat _ t.toNat < 1000000000
            rw [pz_up_eq]
            omega
          · have hx := hu.1 x x1 x2
            show pz_up u.1 t.toNat _ x.toNat = 1000000000 ∨ (d x.toNat < 1000000 ∧ d x.toNat ≤ pz_up u.1 t.toNat _ x.toNat ∧ pz_up u.1 t.toNat _ x.toNat < 1000000000)
            rw [pz_up_ne (by omega)]
            exact hx
        · intro x x1 x2
          show pz_up u.1 t.toNat _ x.toNat ≤ _
          have hx := hu.2.1 x x1 x2
          by_cases e : x = t
          · rw [e, pz_up_eq]
            rw [e] at hx
            omega
          · rw [pz_up_ne (by omega)]
            exact hx
        · intro y y1 y2 a1 a2 a3
          show pz_up u.1 t.toNat _ y.toNat ≤ _
          by_cases e : y = t
          · rw [e, pz_up_eq]
            omega
          · rw [pz_up_ne (by omega)]
            exact hu.2.2 y y1 (by omega) a1 a2 a3
      · rw [q_if_f g]
        refine ⟨hu.1, hu.2.1, ?_⟩
        intro y y1 y2 a1 a2 a3
        by_cases e : y = t
        · rw [e] at a3 ⊢
          omega
        · exact hu.2.2 y y1 (by omega) a1 a2 a3)
    refine ⟨K.1, fun x x1 x2 => Int.le_trans (K.2.1 x x1 x2) (hs.2.1 x x1 x2), ?_⟩
    intro x y x1 x2 y1 y2 a1 a2 a3
    by_cases e : x = i
    · rw [e] at a1 a2 a3 ⊢
      exact K.2.2 y y1 y2 a1 a2 a3
    · exact Int.le_trans (K.2.1 y y1 y2) (hs.2.2 x y x1 (by omega) y1 y2 a1 a2 a3)
  refine ⟨J.1, J.2.1, ?_⟩
  intro x y x1 x2 y1 y2 a1 a2 a3 a4
  have b1 := J.2.2 x y x1 x2 y1 y2 a1 a2 a3
  have b2 := J.1 y y1 y2
  have b3 := hd x y x1 x2 y1 y2 a3 a2
  have b4 := hW x y x1 x2 y1 y2
  omega
theorem m_gi_D {k w r : Nat → Int} {f t : Int} (h : q_KR k) (hc : q_con k (fun _ => 0)) (hf : 0 ≤ f ∧ f < k 0) (ht : 0 ≤ t ∧ t < k 0) (hw : ∃ r : Nat → Int, w = q_lay k (fun _ => 0) r) : q_gi (k 0) w (k 0) (q_ri f r) t.toNat = q_N (q_D k (10 * f + t).toNat) := by
  have h0 := h.r0
  obtain ⟨r0, hw⟩ := hw
  have hR := m_R_lay (lf := fun _ => 0) (g := fun _ => 0) (r := r0) h
  rw [← hw] at hR
  have hk := m_con_eq (g := fun _ => 0).mpr hc
  have hD : q_D k = q_ps 10 (q_net k (fun _ => 0) (fun _ => 0)) := q_cg_t hk
  have D := m_D (g := fun _ => 0) h hc
  rw [show q_dd k (fun _ => 0) (fun _ => 0) = q_D k from rfl] at D
  obtain ⟨d1, d2, d3, d4, d5⟩ := D
  let d : Nat → Int := fun j => q_D k (10 * f + (j : Int)).toNat
  have dx : ∀ x : Int, 0 ≤ x → d x.toNat = q_D k (10 * f + x).toNat := by
    intro x hx
    show q_D k (10 * f + ((x.toNat : Nat) : Int)).toNat = _
    rw [Int.toNat_of_nonneg hx]
  have Wn : ∀ x y : Int, 0 ≤ x → x < k 0 → 0 ≤ y → y < k 0 → (w (10 * x + y).toNat ≠ 1000000000 → q_net k (fun _ => 0) (fun _ => 0) (10 * x + y).toNat < 1000000 ∧ w (10 * x + y).toNat = q_net k (fun _ => 0) (fun _ => 0) (10 * x + y).toNat) ∧ w (10 * x + y).toNat ≤ 1000000000 ∧ (q_net k (fun _ => 0) (fun _ => 0) (10 * x + y).toNat < 1000000 → w (10 * x + y).toNat ≠ 1000000000) := by
    intro x y x1 x2 y1 y2
    have a := hR.1 x y x1 x2 y1 y2
    have b := hR.2.2.1 (10 * x + y).toNat (by omega)
    have v := q_N_v (x := q_net k (fun _ => 0) (fun _ => 0) (10 * x + y).toNat) (by omega)
    omega
  have hd : ∀ x y : Int, 0 ≤ x → x < k 0 → 0 ≤ y → y < k 0 → w (10 * x + y).toNat ≠ 1000000000 → d x.toNat < 1000000 → d y.toNat ≤ d x.toNat + w (10 * x + y).toNat ∧ d y.toNat < 1000000 := by
    intro x y x1 x2 y1 y2 a b
    have c := (Wn x y x1 x2 y1 y2).1 a
    rw [dx x x1] at b ⊢
    rw [dx y y1]
    have e1 := d2 (10 * x + y).toNat
    have e2 := d1 f y x hf.1 (by omega) y1 (by omega) x1 (by omega) b (by omega)
    have e3 := d4 (10 * f + y).toNat (by omega)
    have e4 := d4 (10 * f + x).toNat (by omega)
    have e5 := hR.2.2.1 (10 * x + y).toNat (by omega)
    omega
  have hW : ∀ x y : Int, 0 ≤ x → x < k 0 → 0 ≤ y → y < k 0 → w (10 * x + y).toNat ≤ 1000000000 := fun x y x1 x2 y1 y2 => (Wn x y x1 x2 y1 y2).2.1
  have main : ∀ n : Nat, (∀ x : Int, 0 ≤ x → x < k 0 → q_gi (k 0) w n (q_ri f r) x.toNat = 1000000000 ∨ (d x.toNat < 1000000 ∧ d x.toNat ≤ q_gi (k 0) w n (q_ri f r) x.toNat ∧ q_gi (k 0) w n (q_ri f r) x.toNat < 1000000000)) ∧ (q_gi (k 0) w n (q_ri f r) f.toNat = d f.toNat) ∧ ((∀ x : Int, 0 ≤ x → x < k 0 → d x.toNat < 1000000 → q_gi (k 0) w n (q_ri f r) x.toNat = d x.toNat) ∨ (n : Int) + 1 ≤ q_cnt (fun x => q_gi (k 0) w n (q_ri f r) x.toNat = d x.toNat ∧ d x.toNat < 1000000) (k 0)) := by
    intro n
    have df : d f.toNat = 0 := by rw [dx f hf.1]; exact d3 f hf.1 (by omega)
    induction n with
    | zero =>
      have e : q_gi (k 0) w ((0 : Nat) : Int) (q_ri f r) = q_ri f r := q_fr_0 (by omega)
      rw [e]
      have rf : q_ri f r f.toNat = d f.toNat := by
        rw [df]
        unfold q_ri
        rw [if_pos (by omega), if_pos (by omega)]
      refine ⟨?_, rf, Or.inr ?_⟩
      · intro x x1 x2
        by_cases g : x = f
        · right; rw [g, rf, df]; omega
        · left
          unfold q_ri
          rw [if_pos (by omega), if_neg (by omega)]
      · have a := (q_cnt_mono (p := fun _ => False) (q := fun x => q_ri f r x.toNat = d x.toNat ∧ d x.toNat < 1000000) (k 0).toNat (fun i _ _ q => q.elim)).2 ⟨f, hf.1, by omega, ⟨rf, by rw [df]; omega⟩, id⟩
        rw [Int.toNat_of_nonneg (by omega)] at a
        have b := (q_cnt_r (fun _ => False) (n := k 0) (by omega)).1
        omega
    | succ n ih =>
      have e : q_gi (k 0) w ((n + 1 : Nat) : Int) (q_ri f r) = (q_gr (k 0) w (q_gi (k 0) w n (q_ri f r), 0)).1 := by
        rw [show ((n + 1 : Nat) : Int) = (n : Int) + 1 by omega]
        exact q_gi_s (by omega)
      rw [e]
      have ro := m_round (f := f) (R := q_gi (k 0) w n (q_ri f r)) (by omega) hd ih.1 hW
      have up : ∀ x : Int, 0 ≤ x → x < k 0 → d x.toNat < 1000000 → q_gi (k 0) w n (q_ri f r) x.toNat = d x.toNat → (q_gr (k 0) w (q_gi (k 0) w n (q_ri f r), 0)).1 x.toNat = d x.toNat := by
        intro x x1 x2 a b
        have c1 := ro.1 x x1 x2
        have c2 := ro.2.1 x x1 x2
        omega
      refine ⟨ro.1, up f hf.1 hf.2 (by rw [df]; omega) ih.2.1, ?_⟩
      rcases ih.2.2 with al | cn
      · left
        intro x x1 x2 a
        exact up x x1 x2 a (al x x1 x2 a)
      · by_cases ex : ∃ x y : Int, 0 ≤ x ∧ x < k 0 ∧ 0 ≤ y ∧ y < k 0 ∧ q_gi (k 0) w n (q_ri f r) x.toNat = d x.toNat ∧ d x.toNat < 1000000 ∧ w (10 * x + y).toNat ≠ 1000000000 ∧ d y.toNat = d x.toNat + w (10 * x + y).toNat ∧ ¬ q_gi (k 0) w n (q_ri f r) y.toNat = d y.toNat
        · right
          obtain ⟨x, y, x1, x2, y1, y2, a1, a2, a3, a4, a5⟩ := ex
          have yy := ro.2.2 x y x1 x2 y1 y2 a1 a2 a3 a4
          have yf := (hd x y x1 x2 y1 y2 a3 a2).2
          have m := (q_cnt_mono (p := fun x => q_gi (k 0) w n (q_ri f r) x.toNat = d x.toNat ∧ d x.toNat < 1000000) (q := fun x => (q_gr (k 0) w (q_gi (k 0) w n (q_ri f r), 0)).1 x.toNat = d x.toNat ∧ d x.toNat < 1000000) (k 0).toNat (fun i i1 i2 q => ⟨up i i1 (by omega) q.2 q.1, q.2⟩)).2 ⟨y, y1, by omega, ⟨yy, yf⟩, fun q => a5 q.1⟩
          rw [Int.toNat_of_nonneg (by omega)] at m
          omega
        · left
          intro x x1 x2 a
          refine up x x1 x2 a ?_
          have tg := m_tight (f := f) (by omega) hR hk hD ⟨hf.1, by omega⟩ (fun x => q_gi (k 0) w n (q_ri f r) x.toNat = d x.toNat) ih.2.1 (by
            intro u y u1 u2 y1 y2 su wu fu eq
            have uz : u < k 0 := by
              rcases Int.lt_or_le u (k 0) with g | g
              · exact g
              · have := d5 f u hf.1 (by omega) u1 u2 (Or.inr g)
                rw [if_neg (by omega)] at this
                omega
            have yz : y < k 0 := by
              rcases Int.lt_or_le y (k 0) with g | g
              · exact g
              · have := hR.2.1 u y u1 u2 y1 y2 (Or.inr g)
                rw [if_neg (by omega)] at this
                omega
            have wn := Wn u y u1 uz y1 yz
            have wne := wn.2.2 wu
            refine Classical.not_not.mp (fun q => ex ⟨u, y, u1, uz, y1, yz, su, by rw [dx u u1]; exact fu, wne, ?_, q⟩)
            rw [dx u u1, dx y y1, (wn.1 wne).2]
            exact eq) x x1 (by omega) (by rw [← dx x x1]; exact a)
          exact tg
  have m := main (k 0).toNat
  rw [Int.toNat_of_nonneg (by omega)] at m
  have al : ∀ x : Int, 0 ≤ x → x < k 0 → d x.toNat < 1000000 → q_gi (k 0) w (k 0) (q_ri f r) x.toNat = d x.toNat := by
    rcases m.2.2 with al | cn
    · exact al
    · have := (q_cnt_r (fun x => q_gi (k 0) w (k 0) (q_ri f r) x.toNat = d x.toNat ∧ d x.toNat < 1000000) (n := k 0) (by omega)).2
      omega
  have b := d4 (10 * f + t).toNat (by omega)
  by_cases g : q_D k (10 * f + t).toNat < 1000000
  · rw [al t ht.1 ht.2 (by rw [dx t ht.1]; exact g), dx t ht.1]
    unfold q_N
    rw [if_neg (by omega)]
  · have c := m.1 t ht.1 ht.2
    rw [dx t ht.1] at c
    unfold q_N
    rw [if_pos (by omega)]
    omega
/-- distances by rounds are the distances -/
theorem q_gi_D {k w r : Nat → Int} {f t : Int} (h : q_KR k) (hc : q_con k (fun _ => 0)) (hf : 0 ≤ f ∧ f < k 0) (ht : 0 ≤ t ∧ t < k 0) (hw : ∃ r : Nat → Int, w = q_lay k (fun _ => 0) r) : q_gi (k 0) w (k 0) (q_ri f r) t.toNat = q_N (q_D k (10 * f + t).toNat) := m_gi_D h hc hf ht hw
theorem q_cE_ag {k k' p : Nat → Int} (h : q_cE k p) (e0 : k' 0 = k 0) (e1 : k' 240 = k 240) : q_cE k' p := by
  refine ⟨?_, ?_⟩
  · rw [e0]; exact h.1
  · rw [e1]; exact h.2
theorem q_cB_ag {k k' c f t m l d : Nat → Int} (h : q_cB k c f t m l d) (hk : k 1 ≤ 40) (e0 : k' 1 = k 1) (e : ∀ j, 52 ≤ j → j < 212 → k' j = k j) : q_cB k' c f t m l d := by
  refine ⟨by rw [e0]; exact h.1, fun b g1 g2 => ?_⟩
  rw [e0] at g2
  rw [e _ (by omega) (by omega), e _ (by omega) (by omega), e _ (by omega) (by omega), e _ (by omega) (by omega)]
  exact h.2 b g1 g2
theorem q_cS_ag {k k' c f t l g : Nat → Int} (h : q_cS k c f t l g) (hk : k 2 ≤ 3) (e0 : k' 2 = k 2) (e : ∀ j, 212 ≤ j → j < 224 → k' j = k j) : q_cS k' c f t l g := by
  refine ⟨by rw [e0]; exact h.1, fun s g1 g2 => ?_⟩
  rw [e0] at g2
  rw [e _ (by omega) (by omega), e _ (by omega) (by omega), e _ (by omega) (by omega), e _ (by omega) (by omega)]
  exact h.2 s g1 g2
theorem q_cC_ag {k k' c s : Nat → Int} (h : q_cC k c s) (e0 : k' 4 = k 4) (e : ∀ j, 6 ≤ j → j < 16 → k' j = k j) : q_cC k' c s := by
  refine ⟨by rw [e0]; exact h.1, fun x g1 g2 => ?_⟩
  rw [e _ (by omega) (by omega)]
  exact h.2 x g1 g2
theorem q_cA_ag {k k' c f t d : Nat → Int} (h : q_cA k c f t d) (hk : k 3 ≤ 5) (e0 : k' 3 = k 3) (e1 : k' 5 = k 5) (e : ∀ j, 224 ≤ j → j < 239 → k' j = k j) : q_cA k' c f t d := by
  refine ⟨by rw [e0, e1]; exact h.1, fun a g1 g2 => ?_⟩
  rw [e0] at g2
  rw [e _ (by omega) (by omega), e _ (by omega) (by omega), e _ (by omega) (by omega)]
  exact h.2 a g1 g2
theorem q_cO_ag {k k' u y z : Nat → Int} (h : q_cO k u y z) (e : ∀ j, 16 ≤ j → j < 46 → k' j = k j) : q_cO k' u y z := by
  intro x g1 g2
  rw [e _ (by omega) (by omega), e _ (by omega) (by omega), e _ (by omega) (by omega)]
  exact h x g1 g2
theorem q_cL_ag {k k' r : Nat → Int} (h : q_cL k r) (e : ∀ j, 47 ≤ j → j < 51 → k' j = k j) : q_cL k' r := by
  intro x g1 g2
  rw [e _ (by omega) (by omega)]
  exact h x g1 g2
theorem q_cP_ag {k k' r : Nat → Int} (h : q_cP k r) (hk : k 240 ≤ 10) (e0 : k' 240 = k 240) (e : ∀ j, 241 ≤ j → j < 251 → k' j = k j) : q_cP k' r := by
  intro x g1 g2
  rw [e0] at g2
  rw [e _ (by omega) (by omega)]
  exact h x g1 g2
theorem q_cB_tell {k c f t m l d : Nat → Int} {F T W B : Int} (h : q_cB k c f t m l d) (h0 : 0 ≤ k 1) (hB : B ≠ 99) : q_cB (q_tell k F T W B) (pz_up c 0 (k 1 + 1)) (pz_up f (k 1).toNat F) (pz_up t (k 1).toNat T) (pz_up m (k 1).toNat W) (pz_up l (k 1).toNat B) (pz_up d (k 1).toNat 0) := by
  have e1 : q_tell k F T W B 1 = k 1 + 1 := by rw [q_tell_at h0, if_pos rfl]
  refine ⟨by rw [e1, pz_up_eq], fun b g1 g2 => ?_⟩
  rw [e1] at g2
  rw [q_tell_at h0, q_tell_at h0, q_tell_at h0, q_tell_at h0]
  by_cases g : b = k 1
  · rw [g, pz_up_eq, pz_up_eq, pz_up_eq, pz_up_eq, pz_up_eq]
    have a0 : (((52 + 4 * k 1).toNat : Nat) : Int) = 52 + 4 * k 1 := by omega
    have a1 : (((52 + 4 * k 1 + 1).toNat : Nat) : Int) = 52 + 4 * k 1 + 1 := by omega
    have a2 : (((52 + 4 * k 1 + 2).toNat : Nat) : Int) = 52 + 4 * k 1 + 2 := by omega
    have a3 : (((52 + 4 * k 1 + 3).toNat : Nat) : Int) = 52 + 4 * k 1 + 3 := by omega
    rw [a0, a1, a2, a3]
    refine ⟨?_, ?_, ?_, Or.inr ⟨rfl, ?_, ?_⟩⟩
    · (repeat' split) <;> first | rfl | omega
    · (repeat' split) <;> first | rfl | omega
    · (repeat' split) <;> first | rfl | omega
    · (repeat' split) <;> first | exact hB | omega
    · (repeat' split) <;> first | rfl | omega
  · have h2 := h.2 b g1 (by omega)
    rw [pz_up_ne (by omega), pz_up_ne (by omega), pz_up_ne (by omega), pz_up_ne (by omega), pz_up_ne (by omega)]
    have a0 : (((52 + 4 * b).toNat : Nat) : Int) = 52 + 4 * b := by omega
    have a1 : (((52 + 4 * b + 1).toNat : Nat) : Int) = 52 + 4 * b + 1 := by omega
    have a2 : (((52 + 4 * b + 2).toNat : Nat) : Int) = 52 + 4 * b + 2 := by omega
    have a3 : (((52 + 4 * b + 3).toNat : Nat) : Int) = 52 + 4 * b + 3 := by omega
    rw [a0, a1, a2, a3, if_neg (by omega), if_neg (by omega), if_neg (by omega), if_neg (by omega), if_neg (by omega), if_neg (by omega), if_neg (by omega), if_neg (by omega), if_neg (by omega), if_neg (by omega), if_neg (by omega), if_neg (by omega), if_neg (by omega), if_neg (by omega), if_neg (by omega), if_neg (by omega), if_neg (by omega), if_neg (by omega), if_neg (by omega), if_neg (by omega)]
    exact h2
theorem q_cB_drop {k c f t m l d : Nat → Int} {b : Int} (h : q_cB k c f t m l d) (hb : 0 ≤ b ∧ b < k 1) : q_cB (pz_up k (52 + 4 * b + 3).toNat 99) c f t m l (pz_up d b.toNat 1) := by
  have e1 : pz_up k (52 + 4 * b + 3).toNat 99 1 = k 1 := pz_up_ne (by omega)
  refine ⟨by rw [e1]; exact h.1, fun x g1 g2 => ?_⟩
  rw [e1] at g2
  have h2 := h.2 x g1 g2
  rw [pz_up_ne (j := (52 + 4 * x).toNat) (by omega), pz_up_ne (j := (52 + 4 * x + 1).toNat) (by omega), pz_up_ne (j := (52 + 4 * x + 2).toNat) (by omega)]
  by_cases g : x = b
  · rw [g] at h2 ⊢
    rw [pz_up_eq, pz_up_eq]
    exact ⟨h2.1, h2.2.1, h2.2.2.1, Or.inl ⟨rfl, rfl⟩⟩
  · rw [pz_up_ne (by omega), pz_up_ne (by omega)]
    exact h2
theorem q_cL_obs {k r : Nat → Int} {l v : Int} (h : q_cL k r) (hl : 1 ≤ l) : q_cL (pz_up k (46 + l).toNat v) (pz_up r l.toNat v) := by
  intro x g1 g2
  by_cases g : x = l
  · rw [g, pz_up_eq, pz_up_eq]
  · rw [pz_up_ne (by omega), pz_up_ne (by omega)]
    exact h x g1 g2
theorem q_addsp_at {k : Nat → Int} {F T W B : Int} (h : 0 ≤ k 2) (j : Nat) : q_addsp k F T W B j = if j = 2 then k 2 + 1 else if (j : Int) = 212 + 4 * k 2 + 3 then B else if (j : Int) = 212 + 4 * k 2 + 2 then W else if (j : Int) = 212 + 4 * k 2 + 1 then T else if (j : Int) = 212 + 4 * k 2 then F else k j := by
  unfold q_addsp
  rw [pz_up_at, pz_up_at, pz_up_at, pz_up_at, pz_up_at]
  (repeat' split) <;> first | rfl | omega
theorem q_cS_add {k c f t l g : Nat → Int} {F T W B : Int} (h : q_cS k c f t l g) (h0 : 0 ≤ k 2) : q_cS (q_addsp k F T W B) (pz_up c 0 (k 2 + 1)) (pz_up f (k 2).toNat F) (pz_up t (k 2).toNat T) (pz_up l (k 2).toNat W) (pz_up g (k 2).toNat B) := by
  have e1 : q_addsp k F T W B 2 = k 2 + 1 := by rw [q_addsp_at h0, if_pos rfl]
  refine ⟨by rw [e1, pz_up_eq], fun s g1 g2 => ?_⟩
  rw [e1] at g2
  rw [q_addsp_at h0, q_addsp_at h0, q_addsp_at h0, q_addsp_at h0]
  have a0 : (((212 + 4 * s).toNat : Nat) : Int) = 212 + 4 * s := by omega
  have a1 : (((212 + 4 * s + 1).toNat : Nat) : Int) = 212 + 4 * s + 1 := by omega
  have a2 : (((212 + 4 * s + 2).toNat : Nat) : Int) = 212 + 4 * s + 2 := by omega
  have a3 : (((212 + 4 * s + 3).toNat : Nat) : Int) = 212 + 4 * s + 3 := by omega
  rw [a0, a1, a2, a3]
  by_cases g : s = k 2
  · rw [g, pz_up_eq, pz_up_eq, pz_up_eq, pz_up_eq]
    refine ⟨?_, ?_, ?_, ?_⟩
    · (repeat' split) <;> first | rfl | omega
    · (repeat' split) <;> first | rfl | omega
    · (repeat' split) <;> first | rfl | omega
    · (repeat' split) <;> first | rfl | omega
  · have h2 := h.2 s g1 (by omega)
    rw [pz_up_ne (by omega), pz_up_ne (by omega), pz_up_ne (by omega), pz_up_ne (by omega)]
    rw [if_neg (by omega), if_neg (by omega), if_neg (by omega), if_neg (by omega), if_neg (by omega), if_neg (by omega), if_neg (by omega), if_neg (by omega), if_neg (by omega), if_neg (by omega), if_neg (by omega), if_neg (by omega), if_neg (by omega), if_neg (by omega), if_neg (by omega), if_neg (by omega), if_neg (by omega), if_neg (by omega), if_neg (by omega), if_neg (by omega)]
    exact h2
theorem q_cC_st {k c s : Nat → Int} {e m : Int} (h : q_cC k c s) (he : 0 ≤ e ∧ e ≤ 9) : q_cC (pz_up k (6 + e).toNat m) c (pz_up s e.toNat m) := by
  refine ⟨by rw [pz_up_ne (by omega)]; exact h.1, fun x g1 g2 => ?_⟩
  by_cases g : x = e
  · rw [g, pz_up_eq, pz_up_eq]
  · rw [pz_up_ne (by omega), pz_up_ne (by omega)]
    exact h.2 x g1 g2
theorem q_cC_now {k c s : Nat → Int} {m : Int} (h : q_cC k c s) : q_cC (pz_up k 4 m) (pz_up c 0 m) s := by
  refine ⟨by rw [pz_up_eq, pz_up_eq], fun x g1 g2 => ?_⟩
  rw [pz_up_ne (by omega)]
  exact h.2 x g1 g2
theorem q_addac_at {k : Nat → Int} {F T W : Int} (h : 0 ≤ k 3) (j : Nat) : q_addac k F T W j = if j = 3 then k 3 + 1 else if (j : Int) = 224 + 3 * k 3 + 2 then W else if (j : Int) = 224 + 3 * k 3 + 1 then T else if (j : Int) = 224 + 3 * k 3 then F else k j := by
  unfold q_addac
  rw [pz_up_at, pz_up_at, pz_up_at, pz_up_at]
  (repeat' split) <;> first | rfl | omega
theorem q_cA_add {k c f t d : Nat → Int} {F T W : Int} (h : q_cA k c f t d) (h0 : 0 ≤ k 3) : q_cA (q_addac k F T W) (pz_up c 0 (k 3 + 1)) (pz_up f (k 3).toNat F) (pz_up t (k 3).toNat T) (pz_up d (k 3).toNat W) := by
  have e1 : q_addac k F T W 3 = k 3 + 1 := by rw [q_addac_at h0, if_pos rfl]
  have e5 : q_addac k F T W 5 = k 5 := by rw [q_addac_at h0]; (repeat' split) <;> first | rfl | omega
  refine ⟨⟨by rw [e1, pz_up_eq], by rw [e5, pz_up_ne (by decide)]; exact h.1.2⟩, fun s g1 g2 => ?_⟩
  rw [e1] at g2
  rw [q_addac_at h0, q_addac_at h0, q_addac_at h0]
  have a0 : (((224 + 3 * s).toNat : Nat) : Int) = 224 + 3 * s := by omega
  have a1 : (((224 + 3 * s + 1).toNat : Nat) : Int) = 224 + 3 * s + 1 := by omega
  have a2 : (((224 + 3 * s + 2).toNat : Nat) : Int) = 224 + 3 * s + 2 := by omega
  rw [a0, a1, a2]
  by_cases g : s = k 3
  · rw [g, pz_up_eq, pz_up_eq, pz_up_eq]
    refine ⟨?_, ?_, ?_⟩
    · (repeat' split) <;> first | rfl | omega
    · (repeat' split) <;> first | rfl | omega
    · (repeat' split) <;> first | rfl | omega
  · have h2 := h.2 s g1 (by omega)
    rw [pz_up_ne (by omega), pz_up_ne (by omega), pz_up_ne (by omega)]
    rw [if_neg (by omega), if_neg (by omega), if_neg (by omega), if_neg (by omega), if_neg (by omega), if_neg (by omega), if_neg (by omega), if_neg (by omega), if_neg (by omega), if_neg (by omega), if_neg (by omega), if_neg (by omega)]
    exact h2
