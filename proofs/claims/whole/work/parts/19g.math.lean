/-! mathematics that is owed, seventh part: distances by rounds are the distances; a potential of a consistent net -/
theorem m_gi_D {k w r : Nat → Int} {f t : Int} (h : q_KR k) (hc : q_con k (fun _ => 0)) (hf : 0 ≤ f ∧ f < k 0) (ht : 0 ≤ t ∧ t < k 0) (hw : ∃ r : Nat → Int, w = q_lay k (fun _ => 0) r) : q_gi (k 0) w (k 0) (q_ri f r) t.toNat = q_N (q_D k (10 * f + t).toNat) := by
  have h0 := h.r0
  obtain ⟨r0, hw⟩ := hw
  have hR := m_R_lay (lf := fun _ => 0) (g := fun _ => 0) (r := r0) h
  rw [← hw] at hR
  have hk := m_con_eq (g := fun _ => 0).mpr hc
  have hD : q_D k = q_ps 10 (q_net k (fun _ => 0) (fun _ => 0)) := q_cg_t hk
  have D := m_D (g := fun _ => 0) h hc
  rw [show q_dd k (fun _ => 0) (fun _ => 0) = q_D k from rfl] at D
  obtain ⟨d1, d2, d3, d4, d5⟩ := D
  let d : Nat → Int := fun j => q_D k (10 * f + (j : Int)).toNat
  have dx : ∀ x : Int, 0 ≤ x → d x.toNat = q_D k (10 * f + x).toNat := by
    intro x hx
    show q_D k (10 * f + ((x.toNat : Nat) : Int)).toNat = _
    rw [Int.toNat_of_nonneg hx]
  have Wn : ∀ x y : Int, 0 ≤ x → x < k 0 → 0 ≤ y → y < k 0 → (w (10 * x + y).toNat ≠ 1000000000 → q_net k (fun _ => 0) (fun _ => 0) (10 * x + y).toNat < 1000000 ∧ w (10 * x + y).toNat = q_net k (fun _ => 0) (fun _ => 0) (10 * x + y).toNat) ∧ w (10 * x + y).toNat ≤ 1000000000 ∧ (q_net k (fun _ => 0) (fun _ => 0) (10 * x + y).toNat < 1000000 → w (10 * x + y).toNat ≠ 1000000000) := by
    intro x y x1 x2 y1 y2
    have a := hR.1 x y x1 x2 y1 y2
    have b := hR.2.2.1 (10 * x + y).toNat (by omega)
    have v := q_N_v (x := q_net k (fun _ => 0) (fun _ => 0) (10 * x + y).toNat) (by omega)
    omega
  have hd : ∀ x y : Int, 0 ≤ x → x < k 0 → 0 ≤ y → y < k 0 → w (10 * x + y).toNat ≠ 1000000000 → d x.toNat < 1000000 → d y.toNat ≤ d x.toNat + w (10 * x + y).toNat ∧ d y.toNat < 1000000 := by
    intro x y x1 x2 y1 y2 a b
    have c := (Wn x y x1 x2 y1 y2).1 a
    rw [dx x x1] at b ⊢
    rw [dx y y1]
    have e1 := d2 (10 * x + y).toNat
    have e2 := d1 f y x hf.1 (by omega) y1 (by omega) x1 (by omega) b (by omega)
    have e3 := d4 (10 * f + y).toNat (by omega)
    have e4 := d4 (10 * f + x).toNat (by omega)
    have e5 := hR.2.2.1 (10 * x + y).toNat (by omega)
    omega
  have hW : ∀ x y : Int, 0 ≤ x → x < k 0 → 0 ≤ y → y < k 0 → w (10 * x + y).toNat ≤ 1000000000 := fun x y x1 x2 y1 y2 => (Wn x y x1 x2 y1 y2).2.1
  have main : ∀ n : Nat, (∀ x : Int, 0 ≤ x → x < k 0 → q_gi (k 0) w n (q_ri f r) x.toNat = 1000000000 ∨ (d x.toNat < 1000000 ∧ d x.toNat ≤ q_gi (k 0) w n (q_ri f r) x.toNat ∧ q_gi (k 0) w n (q_ri f r) x.toNat < 1000000000)) ∧ (q_gi (k 0) w n (q_ri f r) f.toNat = d f.toNat) ∧ ((∀ x : Int, 0 ≤ x → x < k 0 → d x.toNat < 1000000 → q_gi (k 0) w n (q_ri f r) x.toNat = d x.toNat) ∨ (n : Int) + 1 ≤ q_cnt (fun x => q_gi (k 0) w n (q_ri f r) x.toNat = d x.toNat ∧ d x.toNat < 1000000) (k 0)) := by
    intro n
    have df : d f.toNat = 0 := by rw [dx f hf.1]; exact d3 f hf.1 (by omega)
    induction n with
    | zero =>
      have e : q_gi (k 0) w ((0 : Nat) : Int) (q_ri f r) = q_ri f r := q_fr_0 (by omega)
      rw [e]
      have rf : q_ri f r f.toNat = d f.toNat := by
        rw [df]
        unfold q_ri
        rw [if_pos (by omega), if_pos (by omega)]
      refine ⟨?_, rf, Or.inr ?_⟩
      · intro x x1 x2
        by_cases g : x = f
        · right; rw [g, rf, df]; omega
        · left
          unfold q_ri
          rw [if_pos (by omega), if_neg (by omega)]
      · have a := (q_cnt_mono (p := fun _ => False) (q := fun x => q_ri f r x.toNat = d x.toNat ∧ d x.toNat < 1000000) (k 0).toNat (fun i _ _ q => q.elim)).2 ⟨f, hf.1, by omega, ⟨rf, by rw [df]; omega⟩, id⟩
        rw [Int.toNat_of_nonneg (by omega)] at a
        have b := (q_cnt_r (fun _ => False) (n := k 0) (by omega)).1
        omega
    | succ n ih =>
      have e : q_gi (k 0) w ((n + 1 : Nat) : Int) (q_ri f r) = (q_gr (k 0) w (q_gi (k 0) w n (q_ri f r), 0)).1 := by
        rw [show ((n + 1 : Nat) : Int) = (n : Int) + 1 by omega]
        exact q_gi_s (by omega)
      rw [e]
      have ro := m_round (f := f) (R := q_gi (k 0) w n (q_ri f r)) (by omega) hd ih.1 hW
      have up : ∀ x : Int, 0 ≤ x → x < k 0 → d x.toNat < 1000000 → q_gi (k 0) w n (q_ri f r) x.toNat = d x.toNat → (q_gr (k 0) w (q_gi (k 0) w n (q_ri f r), 0)).1 x.toNat = d x.toNat := by
        intro x x1 x2 a b
        have c1 := ro.1 x x1 x2
        have c2 := ro.2.1 x x1 x2
        omega
      refine ⟨ro.1, up f hf.1 hf.2 (by rw [df]; omega) ih.2.1, ?_⟩
      rcases ih.2.2 with al | cn
      · left
        intro x x1 x2 a
        exact up x x1 x2 a (al x x1 x2 a)
      · by_cases ex : ∃ x y : Int, 0 ≤ x ∧ x < k 0 ∧ 0 ≤ y ∧ y < k 0 ∧ q_gi (k 0) w n (q_ri f r) x.toNat = d x.toNat ∧ d x.toNat < 1000000 ∧ w (10 * x + y).toNat ≠ 1000000000 ∧ d y.toNat = d x.toNat + w (10 * x + y).toNat ∧ ¬ q_gi (k 0) w n (q_ri f r) y.toNat = d y.toNat
        · right
          obtain ⟨x, y, x1, x2, y1, y2, a1, a2, a3, a4, a5⟩ := ex
          have yy := ro.2.2 x y x1 x2 y1 y2 a1 a2 a3 a4
          have yf := (hd x y x1 x2 y1 y2 a3 a2).2
          have m := (q_cnt_mono (p := fun x => q_gi (k 0) w n (q_ri f r) x.toNat = d x.toNat ∧ d x.toNat < 1000000) (q := fun x => (q_gr (k 0) w (q_gi (k 0) w n (q_ri f r), 0)).1 x.toNat = d x.toNat ∧ d x.toNat < 1000000) (k 0).toNat (fun i i1 i2 q => ⟨up i i1 (by omega) q.2 q.1, q.2⟩)).2 ⟨y, y1, by omega, ⟨yy, yf⟩, fun q => a5 q.1⟩
          rw [Int.toNat_of_nonneg (by omega)] at m
          omega
        · left
          intro x x1 x2 a
          refine up x x1 x2 a ?_
          have tg := m_tight (f := f) (by omega) hR hk hD ⟨hf.1, by omega⟩ (fun x => q_gi (k 0) w n (q_ri f r) x.toNat = d x.toNat) ih.2.1 (by
            intro u y u1 u2 y1 y2 su wu fu eq
            have uz : u < k 0 := by
              rcases Int.lt_or_le u (k 0) with g | g
              · exact g
              · have := d5 f u hf.1 (by omega) u1 u2 (Or.inr g)
                rw [if_neg (by omega)] at this
                omega
            have yz : y < k 0 := by
              rcases Int.lt_or_le y (k 0) with g | g
              · exact g
              · have := hR.2.1 u y u1 u2 y1 y2 (Or.inr g)
                rw [if_neg (by omega)] at this
                omega
            have wn := Wn u y u1 uz y1 yz
            have wne := wn.2.2 wu
            refine Classical.not_not.mp (fun q => ex ⟨u, y, u1, uz, y1, yz, su, by rw [dx u u1]; exact fu, wne, ?_, q⟩)
            rw [dx u u1, dx y y1, (wn.1 wne).2]
            exact eq) x x1 (by omega) (by rw [← dx x x1]; exact a)
          exact tg
  have m := main (k 0).toNat
  rw [Int.toNat_of_nonneg (by omega)] at m
  have al : ∀ x : Int, 0 ≤ x → x < k 0 → d x.toNat < 1000000 → q_gi (k 0) w (k 0) (q_ri f r) x.toNat = d x.toNat := by
    rcases m.2.2 with al | cn
    · exact al
    · have := (q_cnt_r (fun x => q_gi (k 0) w (k 0) (q_ri f r) x.toNat = d x.toNat ∧ d x.toNat < 1000000) (n := k 0) (by omega)).2
      omega
  have b := d4 (10 * f + t).toNat (by omega)
  by_cases g : q_D k (10 * f + t).toNat < 1000000
  · rw [al t ht.1 ht.2 (by rw [dx t ht.1]; exact g), dx t ht.1]
    unfold q_N
    rw [if_neg (by omega)]
  · have c := m.1 t ht.1 ht.2
    rw [dx t ht.1] at c
    unfold q_N
    rw [if_pos (by omega)]
    omega
/-- the least distance to an event, from any -/
theorem m_minD {k : Nat → Int} (h : q_KR k) (hc : q_con k (fun _ => 0)) : ∃ p : Nat → Int, ∀ j : Int, 0 ≤ j → j ≤ 9 → (-614400 ≤ p j.toNat ∧ p j.toNat ≤ 0) ∧ (∀ i : Int, 0 ≤ i → i ≤ 9 → p j.toNat ≤ q_D k (10 * i + j).toNat) ∧ ∃ i : Int, 0 ≤ i ∧ i ≤ 9 ∧ p j.toNat = q_D k (10 * i + j).toNat := by
  have D := m_D (g := fun _ => 0) h hc
  rw [show q_dd k (fun _ => 0) (fun _ => 0) = q_D k from rfl] at D
  obtain ⟨d1, d2, d3, d4, d5⟩ := D
  have key : ∀ j : Int, 0 ≤ j → j ≤ 9 → ∃ v : Int, (-614400 ≤ v ∧ v ≤ 0) ∧ (∀ i : Int, 0 ≤ i → i ≤ 9 → v ≤ q_D k (10 * i + j).toNat) ∧ ∃ i : Int, 0 ≤ i ∧ i ≤ 9 ∧ v = q_D k (10 * i + j).toNat := by
    intro j j1 j2
    have go : ∀ n : Nat, n ≤ 10 → ∃ v : Int, (-614400 ≤ v ∧ v ≤ 0) ∧ (∀ i : Int, 0 ≤ i → i < n → v ≤ q_D k (10 * i + j).toNat) ∧ ∃ i : Int, 0 ≤ i ∧ i ≤ 9 ∧ v = q_D k (10 * i + j).toNat := by
      intro n
      induction n with
      | zero =>
        intro _
        exact ⟨0, by omega, fun i _ _ => by omega, j, j1, j2, (d3 j j1 j2).symm⟩
      | succ n ih =>
        intro hn
        obtain ⟨v, v1, v2, i0, i1, i2, i3⟩ := ih (by omega)
        have b := d4 (10 * (n : Int) + j).toNat (by omega)
        by_cases g : q_D k (10 * (n : Int) + j).toNat < v
        · refine ⟨q_D k (10 * (n : Int) + j).toNat, by omega, ?_, n, by omega, by omega, rfl⟩
          intro i a1 a2
          by_cases e : i = n
          · rw [e]; exact Int.le_refl _
          · have := v2 i a1 (by omega)
            omega
        · refine ⟨v, v1, ?_, i0, i1, i2, i3⟩
          intro i a1 a2
          by_cases e : i = n
          · rw [e]; omega
          · exact v2 i a1 (by omega)
    obtain ⟨v, v1, v2, v3⟩ := go 10 (by omega)
    exact ⟨v, v1, fun i a1 a2 => v2 i a1 (by omega), v3⟩
  let Q : Int → Int → Prop := fun j v => (-614400 ≤ v ∧ v ≤ 0) ∧ (∀ i : Int, 0 ≤ i → i ≤ 9 → v ≤ q_D k (10 * i + j).toNat) ∧ ∃ i : Int, 0 ≤ i ∧ i ≤ 9 ∧ v = q_D k (10 * i + j).toNat
  refine ⟨fun n => Classical.epsilon (Q (n : Int)), fun j j1 j2 => ?_⟩
  have hs := Classical.epsilon_spec (p := Q j) (key j j1 j2)
  show Q j (Classical.epsilon (Q ((j.toNat : Nat) : Int)))
  rw [Int.toNat_of_nonneg j1]
  exact hs
/-- a potential of a consistent net, none above 0 -/
theorem m_potD {k : Nat → Int} (h : q_KR k) (hc : q_con k (fun _ => 0)) : ∃ p : Nat → Int, m_pot p (q_net k (fun _ => 0) (fun _ => 0)) ∧ ∀ j : Int, 0 ≤ j → j ≤ 9 → -614400 ≤ p j.toNat ∧ p j.toNat ≤ 0 := by
  have D := m_D (g := fun _ => 0) h hc
  rw [show q_dd k (fun _ => 0) (fun _ => 0) = q_D k from rfl] at D
  obtain ⟨d1, d2, d3, d4, d5⟩ := D
  obtain ⟨p, hp⟩ := m_minD h hc
  refine ⟨p, ?_, fun j j1 j2 => (hp j j1 j2).1⟩
  intro i j i1 i2 j1 j2 f
  obtain ⟨a1, a2, m, m1, m2, m3⟩ := hp i i1 i2
  have b := (hp j j1 j2).2.1 m m1 m2
  have c := d2 (10 * i + j).toNat
  have e := d1 m j i m1 m2 j1 j2 i1 (by omega) (by omega) (by omega)
  omega
theorem m_po_D {k w : Nat → Int} {f : Int} (h : q_KR k) (hc : q_con k (fun _ => 0)) (hf : 0 ≤ f ∧ f < k 0) (hw : ∃ r : Nat → Int, w = q_lay k (fun _ => 0) r) : ∃ p : Nat → Int, (∀ i j : Int, 0 ≤ i → i < k 0 → 0 ≤ j → j < k 0 → (-1000000000 ≤ w (10 * i + j).toNat ∧ w (10 * i + j).toNat ≤ 1000000000) ∧ (w (10 * i + j).toNat ≠ 1000000000 → p j.toNat ≤ p i.toNat + w (10 * i + j).toNat) ∧ -614400 ≤ p i.toNat ∧ p i.toNat ≤ 614400) ∧ p f.toNat ≤ 0 := by
  have h0 := h.r0
  obtain ⟨r0, hw⟩ := hw
  have hR := m_R_lay (lf := fun _ => 0) (g := fun _ => 0) (r := r0) h
  rw [← hw] at hR
  obtain ⟨p, hp, hb⟩ := m_potD h hc
  refine ⟨p, ?_, (hb f hf.1 (by omega)).2⟩
  intro i j i1 i2 j1 j2
  have a := hR.1 i j i1 i2 j1 j2
  have b := hR.2.2.1 (10 * i + j).toNat (by omega)
  have v := q_N_v (x := q_net k (fun _ => 0) (fun _ => 0) (10 * i + j).toNat) (by omega)
  have c := hb i i1 (by omega)
  have q := hp i j i1 (by omega) j1 (by omega)
  refine ⟨by omega, fun g => ?_, by omega⟩
  have := q (by omega)
  omega
