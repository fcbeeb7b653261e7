/-! mathematics that is owed, ninth part: an order with a slack of 0 or more keeps the net consistent; sums of labels -/
theorem m_hld_tell {k : Nat → Int} {F T W B b : Int} (hk : q_KR k) (h1 : k 1 ≠ 40) (hb : 0 ≤ b ∧ b < k 1) : q_hld (q_tell k F T W B) b = q_hld k b := by
  have h0 := hk.r0
  have hl := (hk.bd hb.1 hb.2).2.2.2.2
  have e := m_tell_old (k := k) (F := F) (T := T) (W := W) (B := B) (b := b) (j := (52 + 4 * b + 3).toNat) (by omega) hb (by omega)
  by_cases g : k (52 + 4 * b + 3).toNat = 99
  · apply propext
    constructor
    · intro q; exact absurd (by rw [e]; exact g) q.1
    · intro q; exact absurd g q.1
  · have e1 : ∀ l : Int, 1 ≤ l → l ≤ 4 → q_tell k F T W B (46 + l).toNat = k (46 + l).toNat := fun l a1 a2 => m_tell_ne (by omega) (by omega)
    apply propext
    unfold q_hld
    rw [e]
    constructor
    · rintro ⟨a, q | ⟨q1, q2⟩ | ⟨q1, q2⟩⟩
      · exact ⟨a, Or.inl q⟩
      · refine ⟨a, Or.inr (Or.inl ⟨q1, ?_⟩)⟩
        unfold q_tru at q2 ⊢
        rw [e1 _ (by omega) (by omega)] at q2
        exact q2
      · refine ⟨a, Or.inr (Or.inr ⟨q1, ?_⟩)⟩
        unfold q_fls at q2 ⊢
        rw [e1 _ (by omega) (by omega)] at q2
        exact q2
    · rintro ⟨a, q | ⟨q1, q2⟩ | ⟨q1, q2⟩⟩
      · exact ⟨a, Or.inl q⟩
      · refine ⟨a, Or.inr (Or.inl ⟨q1, ?_⟩)⟩
        unfold q_tru at q2 ⊢
        rw [e1 _ (by omega) (by omega)]
        exact q2
      · refine ⟨a, Or.inr (Or.inr ⟨q1, ?_⟩)⟩
        unfold q_fls at q2 ⊢
        rw [e1 _ (by omega) (by omega)]
        exact q2
theorem m_net_tell {k g : Nat → Int} {F T : Int} (hk : q_KR k) (h1 : k 1 ≠ 40) : q_net (q_tell k F T 0 0) (fun _ => 0) g = q_eg (q_net k (fun _ => 0) g) F T 0 := by
  have h0 := hk.r0
  have n := m_tell_new (k := k) (F := F) (T := T) (W := 0) (B := 0) (by omega)
  have ne : ∀ j : Nat, j ≠ 1 ∧ ¬ (52 ≤ j ∧ j < 212) → q_tell k F T 0 0 j = k j := fun j hj => m_tell_ne (by omega) hj
  have c1 : ∀ x : Nat → Int, q_fr (q_bdE (q_tell k F T 0 0) (fun _ => 0)) 0 (k 1 + 1) x = q_eg (q_fr (q_bdE k (fun _ => 0)) 0 (k 1) x) F T 0 := by
    intro x
    rw [q_fr_s (by omega)]
    have e : q_fr (q_bdE (q_tell k F T 0 0) (fun _ => 0)) 0 (k 1) x = q_fr (q_bdE k (fun _ => 0)) 0 (k 1) x := by
      refine q_fr_congr (fun b y b1 b2 => ?_)
      unfold q_bdE
      rw [m_hld_tell hk h1 ⟨b1, b2⟩, m_tell_old (b := b) (by omega) ⟨b1, b2⟩ (by omega), m_tell_old (b := b) (by omega) ⟨b1, b2⟩ (by omega), m_tell_old (b := b) (by omega) ⟨b1, b2⟩ (by omega)]
    rw [e]
    unfold q_bdE
    rw [q_if_t (p := q_hld (q_tell k F T 0 0) (k 1) ∧ (0 : Int) = 0) ⟨⟨by rw [n.2.2.2.2]; decide, Or.inl n.2.2.2.2⟩, rfl⟩, n.2.1, n.2.2.1, n.2.2.2.1]
  have c2 : ∀ x : Nat → Int, q_fr (q_spE (q_tell k F T 0 0)) 0 (k 2) x = q_fr (q_spE k) 0 (k 2) x := by
    intro x
    refine q_fr_congr (fun s y s1 s2 => ?_)
    unfold q_spE
    rw [ne (212 + 4 * s).toNat (by omega), ne (212 + 4 * s + 1).toNat (by omega), ne (212 + 4 * s + 2).toNat (by omega), ne (212 + 4 * s + 3).toNat (by omega)]
  have c3 : ∀ x : Nat → Int, q_fr (q_stE (q_tell k F T 0 0)) 1 (k 0) x = q_fr (q_stE k) 1 (k 0) x := by
    intro x
    refine q_fr_congr (fun s y s1 s2 => ?_)
    unfold q_stE q_sta
    rw [ne (6 + s).toNat (by omega)]
  rw [m_net_eq, m_net_eq, ne 0 (by omega), ne 2 (by omega), n.1, c1, c2, c3]
  rw [q_fr_comm (f := q_stE k) (h := fun y => q_eg y F T 0) (fun s y _ _ => by
    unfold q_stE
    by_cases g : q_sta k s
    · rw [q_if_t g, q_if_t g]
      show q_eg (q_eg (q_eg y 0 s _) s 0 _) F T 0 = q_eg (q_eg (q_eg y F T 0) 0 s _) s 0 _
      rw [m_eg_comm (i := s) (j := 0), m_eg_comm (i := 0) (j := s)]
    · rw [q_if_f g, q_if_f g])]
  rw [q_fr_comm (f := q_spE k) (h := fun y => q_eg y F T 0) (fun s y _ _ => by
    unfold q_spE
    show q_eg (q_eg (q_eg y _ _ _) _ _ _) F T 0 = q_eg (q_eg (q_eg y F T 0) _ _ _) _ _ _
    rw [m_eg_comm (i := k (212 + 4 * s + 1).toNat) (j := k (212 + 4 * s).toNat), m_eg_comm (i := k (212 + 4 * s).toNat) (j := k (212 + 4 * s + 1).toNat)])]
/-- a net with one more edge, where the way back is not below its weight -/
theorem m_con_eg {k : Nat → Int} {F T : Int} (hk : q_KR k) (hc : q_con k (fun _ => 0)) (hF : 0 ≤ F ∧ F ≤ 9) (hT : 0 ≤ T ∧ T ≤ 9) (hd : 0 ≤ q_D k (10 * T + F).toNat) : q_ok (q_eg (q_net k (fun _ => 0) (fun _ => 0)) F T 0) := by
  have D := m_D (g := fun _ => 0) hk hc
  rw [show q_dd k (fun _ => 0) (fun _ => 0) = q_D k from rfl] at D
  obtain ⟨d1, d2, d3, d4, d5⟩ := D
  obtain ⟨p, hp, hb⟩ := m_potD hk hc
  refine m_pot_ok (p := fun n => if q_D k (10 * T + (n : Int)).toNat < 1000000 then min (p n) (p F.toNat + q_D k (10 * T + (n : Int)).toNat) else p n) ?_
  intro i j i1 i2 j1 j2 f
  have ei : ((i.toNat : Nat) : Int) = i := Int.toNat_of_nonneg i1
  have ej : ((j.toNat : Nat) : Int) = j := Int.toNat_of_nonneg j1
  show (if q_D k (10 * T + ((j.toNat : Nat) : Int)).toNat < 1000000 then min (p j.toNat) (p F.toNat + q_D k (10 * T + ((j.toNat : Nat) : Int)).toNat) else p j.toNat) ≤ (if q_D k (10 * T + ((i.toNat : Nat) : Int)).toNat < 1000000 then min (p i.toNat) (p F.toNat + q_D k (10 * T + ((i.toNat : Nat) : Int)).toNat) else p i.toNat) + q_eg (q_net k (fun _ => 0) (fun _ => 0)) F T 0 (10 * i + j).toNat
  rw [ei, ej]
  have old : q_net k (fun _ => 0) (fun _ => 0) (10 * i + j).toNat < 1000000 → (if q_D k (10 * T + j).toNat < 1000000 then min (p j.toNat) (p F.toNat + q_D k (10 * T + j).toNat) else p j.toNat) ≤ (if q_D k (10 * T + i).toNat < 1000000 then min (p i.toNat) (p F.toNat + q_D k (10 * T + i).toNat) else p i.toNat) + q_net k (fun _ => 0) (fun _ => 0) (10 * i + j).toNat := by
    intro g
    have a := hp i j i1 i2 j1 j2 g
    have c := d2 (10 * i + j).toNat
    have t := d1 T j i hT.1 hT.2 j1 j2 i1 (by omega)
    have b1 := d4 (10 * T + i).toNat (by omega)
    have b2 := d4 (10 * T + j).toNat (by omega)
    have b3 := d4 (10 * i + j).toNat (by omega)
    have b5 := (m_R_lay (lf := fun _ => 0) (g := fun _ => 0) (r := fun _ => 0) hk).2.2.1 (10 * i + j).toNat (by omega)
    by_cases u : q_D k (10 * T + i).toNat < 1000000
    · have t2 := t u (by omega)
      rw [if_pos u, if_pos (by omega)]
      omega
    · rw [if_neg u]
      split <;> omega
  unfold q_eg at f ⊢
  rw [m_lw_at] at f ⊢
  by_cases e : (10 * i + j).toNat = (10 * F + T).toNat
  · rw [if_pos e] at f ⊢
    have a1 : i = F := by omega
    have a2 : j = T := by omega
    rw [a1, a2]
    rw [a1, a2] at old
    have z := d3 T hT.1 hT.2
    have new : (if q_D k (10 * T + T).toNat < 1000000 then min (p T.toNat) (p F.toNat + q_D k (10 * T + T).toNat) else p T.toNat) ≤ (if q_D k (10 * T + F).toNat < 1000000 then min (p F.toNat) (p F.toNat + q_D k (10 * T + F).toNat) else p F.toNat) := by
      rw [if_pos (by omega), z]
      split <;> omega
    by_cases g : q_net k (fun _ => 0) (fun _ => 0) (10 * F + T).toNat < 0
    · have := old (by omega)
      omega
    · omega
  · rw [if_neg e] at f ⊢
    exact old f
theorem m_lv_con {k : Nat → Int} (hk : q_KR k) (hc : q_con k (fun _ => 0)) (h : q_lvTk k) : q_con (q_lvK k (q_D k)) (fun _ => 0) := by
  have h0 := hk.r0
  obtain ⟨x, y, hx, hy, e, ox, oy, dd⟩ := m_lv_spec hk h.2.2
  have ax := hk.ac hx.1 hx.2
  have ay := hk.ac hy.1 hy.2
  unfold q_lvK
  rw [e, show (5 * x + y) % 5 = y by omega, show (5 * x + y) / 5 = x by omega]
  unfold q_con
  rw [m_net_tell hk h.1]
  exact m_con_eg hk hc (by omega) (by omega) dd
/-- sums of labels as bits -/
theorem m_trN : ∀ (t : Fin 16) (o s : Fin 16), (pz_or (pz_and ((t.val : Nat) : Int) (pz_xor ((o.val : Nat) : Int) (-1))) (pz_and ((s.val : Nat) : Int) ((o.val : Nat) : Int)) = (((t.val &&& (15 - o.val)) ||| (s.val &&& o.val) : Nat) : Int)) := by decide +kernel
