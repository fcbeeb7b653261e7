/-! words and mathematics, each behind what it wants: chunk 21 -/
theorem m_hld_tell {k : Nat → Int} {F T W B b : Int} (hk : q_KR k) (h1 : k 1 ≠ 40) (hb : 0 ≤ b ∧ b < k 1) : q_hld (q_tell k F T W B) b = q_hld k b := by
  have h0 := hk.r0
  have hl := (hk.bd hb.1 hb.2).2.2.2.2
  have e := m_tell_old (k := k) (F := F) (T := T) (W := W) (B := B) (b := b) (j := (52 + 4 * b + 3).toNat) (by omega) hb (by omega)
  by_cases g : k (52 + 4 * b + 3).toNat = 99
  · apply propext
    constructor
    · intro q; exact absurd (by rw [e]; exact g) q.1
    · intro q; exact absurd g q.1
  · have e1 : ∀ l : Int, 1 ≤ l → l ≤ 4 → q_tell k F T W B (46 + l).toNat = k (46 + l).toNat := fun l a1 a2 => m_tell_ne (by omega) (by omega)
    apply propext
    unfold q_hld
    rw [e]
    constructor
    · rintro ⟨a, q | ⟨q1, q2⟩ | ⟨q1, q2⟩⟩
      · exact ⟨a, Or.inl q⟩
      · refine ⟨a, Or.inr (Or.inl ⟨q1, ?_⟩)⟩
        unfold q_tru at q2 ⊢
        rw [e1 _ (by omega) (by omega)] at q2
        exact q2
      · refine ⟨a, Or.inr (Or.inr ⟨q1, ?_⟩)⟩
        unfold q_fls at q2 ⊢
        rw [e1 _ (by omega) (by omega)] at q2
        exact q2
    · rintro ⟨a, q | ⟨q1, q2⟩ | ⟨q1, q2⟩⟩
      · exact ⟨a, Or.inl q⟩
      · refine ⟨a, Or.inr (Or.inl ⟨q1, ?_⟩)⟩
        unfold q_tru at q2 ⊢
        rw [e1 _ (by omega) (by omega)]
        exact q2
      · refine ⟨a, Or.inr (Or.inr ⟨q1, ?_⟩)⟩
        unfold q_fls at q2 ⊢
        rw [e1 _ (by omega) (by omega)]
        exact q2
theorem m_net_tell {k g : Nat → Int} {F T : Int} (hk : q_KR k) (h1 : k 1 ≠ 40) : q_net (q_tell k F T 0 0) (fun _ => 0) g = q_eg (q_net k (fun _ => 0) g) F T 0 := by
  have h0 := hk.r0
  have n := m_tell_new (k := k) (F := F) (T := T) (W := 0) (B := 0) (by omega)
  have ne : ∀ j : Nat, j ≠ 1 ∧ ¬ (52 ≤ j ∧ j < 212) → q_tell k F T 0 0 j = k j := fun j hj => m_tell_ne (by omega) hj
  have c1 : ∀ x : Nat → Int, q_fr (q_bdE (q_tell k F T 0 0) (fun _ => 0)) 0 (k 1 + 1) x = q_eg (q_fr (q_bdE k (fun _ => 0)) 0 (k 1) x) F T 0 := by
    intro x
    rw [q_fr_s (by omega)]
    have e : q_fr (q_bdE (q_tell k F T 0 0) (fun _ => 0)) 0 (k 1) x = q_fr (q_bdE k (fun _ => 0)) 0 (k 1) x := by
      refine q_fr_congr (fun b y b1 b2 => ?_)
      unfold q_bdE
      rw [m_hld_tell hk h1 ⟨b1, b2⟩, m_tell_old (b := b) (by omega) ⟨b1, b2⟩ (by omega), m_tell_old (b := b) (by omega) ⟨b1, b2⟩ (by omega), m_tell_old (b := b) (by omega) ⟨b1, b2⟩ (by omega)]
    rw [e]
    unfold q_bdE
    rw [q_if_t (p := q_hld (q_tell k F T 0 0) (k 1) ∧ (0 : Int) = 0) ⟨⟨by rw [n.2.2.2.2]; decide, Or.inl n.2.2.2.2⟩, rfl⟩, n.2.1, n.2.2.1, n.2.2.2.1]
  have c2 : ∀ x : Nat → Int, q_fr (q_spE (q_tell k F T 0 0)) 0 (k 2) x = q_fr (q_spE k) 0 (k 2) x := by
    intro x
    refine q_fr_congr (fun s y s1 s2 => ?_)
    unfold q_spE
    rw [ne (212 + 4 * s).toNat (by omega), ne (212 + 4 * s + 1).toNat (by omega), ne (212 + 4 * s + 2).toNat (by omega), ne (212 + 4 * s + 3).toNat (by omega)]
  have c3 : ∀ x : Nat → Int, q_fr (q_stE (q_tell k F T 0 0)) 1 (k 0) x = q_fr (q_stE k) 1 (k 0) x := by
    intro x
    refine q_fr_congr (fun s y s1 s2 => ?_)
    unfold q_stE q_sta
    rw [ne (6 + s).toNat (by omega)]
  rw [m_net_eq, m_net_eq, ne 0 (by omega), ne 2 (by omega), n.1, c1, c2, c3]
  rw [q_fr_comm (f := q_stE k) (h := fun y => q_eg y F T 0) (fun s y _ _ => by
    unfold q_stE
    by_cases g : q_sta k s
    · rw [q_if_t g, q_if_t g]
      show q_eg (q_eg (q_eg y 0 s _) s 0 _) F T 0 = q_eg (q_eg (q_eg y F T 0) 0 s _) s 0 _
      rw [m_eg_comm (i := s) (j := 0), m_eg_comm (i := 0) (j := s)]
    · rw [q_if_f g, q_if_f g])]
  rw [q_fr_comm (f := q_spE k) (h := fun y => q_eg y F T 0) (fun s y _ _ => by
    unfold q_spE
    show q_eg (q_eg (q_eg y _ _ _) _ _ _) F T 0 = q_eg (q_eg (q_eg y F T 0) _ _ _) _ _ _
    rw [m_eg_comm (i := k (212 + 4 * s + 1).toNat) (j := k (212 + 4 * s).toNat), m_eg_comm (i := k (212 + 4 * s).toNat) (j := k (212 + 4 * s + 1).toNat)])]
/-- where there is a potential no way back is below 0 -/
theorem m_pot_dg {p w : Nat → Int} (h : m_pot p w) : q_dg w := by
  intro i i1 i2
  rw [show (11 * i).toNat = (10 * i + i).toNat by omega]
  rcases Int.lt_or_le (w (10 * i + i).toNat) 1000000 with g | g
  · have := h i i i1 (by omega) i1 (by omega) g
    omega
  · omega
theorem m_pot_sh {c : Int} {p w : Nat → Int} (hc : 0 ≤ c ∧ c ≤ 9) (h : m_pot p w) : m_pot p (m_sh c w) := by
  intro i j i1 i2 j1 j2 f
  rw [m_sh_at ⟨i1, i2⟩ ⟨j1, j2⟩] at f ⊢
  by_cases g : w (10 * i + c).toNat < 1000000 ∧ w (10 * c + j).toNat < 1000000 ∧ w (10 * i + c).toNat + w (10 * c + j).toNat < w (10 * i + j).toNat
  · rw [if_pos g]
    have a := h i c i1 i2 hc.1 hc.2 g.1
    have b := h c j hc.1 hc.2 j1 j2 g.2.1
    omega
  · rw [if_neg g] at f ⊢
    exact h i j i1 i2 j1 j2 f
theorem m_pot_ps {p w : Nat → Int} (h : m_pot p w) : ∀ c : Nat, (c : Int) ≤ 10 → m_pot p (q_ps c w) := by
  intro c
  induction c with
  | zero =>
    intro _
    rw [show q_ps ((0 : Nat) : Int) w = w from q_fr_0 (by omega)]
    exact h
  | succ c ih =>
    intro hc
    have ih1 := ih (by omega)
    have hdc := m_pot_dg ih1 c (by omega) (by omega)
    rw [show (11 * (c : Int)).toNat = (10 * (c : Int) + c).toNat by omega] at hdc
    rw [show ((c + 1 : Nat) : Int) = (c : Int) + 1 by omega, q_ps_s (by omega), m_ph_eq (by omega) hdc]
    exact m_pot_sh (by omega) ih1
theorem m_pot_ok {p w : Nat → Int} (h : m_pot p w) : q_ok w := by
  intro c c1 c2
  have := m_pot_ps h (c + 1).toNat (by omega)
  rw [Int.toNat_of_nonneg (by omega)] at this
  exact m_pot_dg this
/-- a net with one more edge, where the way back is not below its weight -/
theorem m_con_eg {k : Nat → Int} {F T : Int} (hk : q_KR k) (hc : q_con k (fun _ => 0)) (hF : 0 ≤ F ∧ F ≤ 9) (hT : 0 ≤ T ∧ T ≤ 9) (hd : 0 ≤ q_D k (10 * T + F).toNat) : q_ok (q_eg (q_net k (fun _ => 0) (fun _ => 0)) F T 0) := by
  have D := m_D (g := fun _ => 0) hk hc
  rw [show q_dd k (fun _ => 0) (fun _ => 0) = q_D k from rfl] at D
  obtain ⟨d1, d2, d3, d4, d5⟩ := D
  obtain ⟨p, hp, hb⟩ := m_potD hk hc
  refine m_pot_ok (p := fun n => if q_D k (10 * T + (n : Int)).toNat < 1000000 then min (p n) (p F.toNat + q_D k (10 * T + (n : Int)).toNat) else p n) ?_
  intro i j i1 i2 j1 j2 f
  have ei : ((i.toNat : Nat) : Int) = i := Int.toNat_of_nonneg i1
  have ej : ((j.toNat : Nat) : Int) = j := Int.toNat_of_nonneg j1
  show (if q_D k (10 * T + ((j.toNat : Nat) : Int)).toNat < 1000000 then min (p j.toNat) (p F.toNat + q_D k (10 * T + ((j.toNat : Nat) : Int)).toNat) else p j.toNat) ≤ (if q_D k (10 * T + ((i.toNat : Nat) : Int)).toNat < 1000000 then min (p i.toNat) (p F.toNat + q_D k (10 * T + ((i.toNat : Nat) : Int)).toNat) else p i.toNat) + q_eg (q_net k (fun _ => 0) (fun _ => 0)) F T 0 (10 * i + j).toNat
  rw [ei, ej]
  have old : q_net k (fun _ => 0) (fun _ => 0) (10 * i + j).toNat < 1000000 → (if q_D k (10 * T + j).toNat < 1000000 then min (p j.toNat) (p F.toNat + q_D k (10 * T + j).toNat) else p j.toNat) ≤ (if q_D k (10 * T + i).toNat < 1000000 then min (p i.toNat) (p F.toNat + q_D k (10 * T + i).toNat) else p i.toNat) + q_net k (fun _ => 0) (fun _ => 0) (10 * i + j).toNat := by
    intro g
    have a := hp i j i1 i2 j1 j2 g
    have c := d2 (10 * i + j).toNat
    have t := d1 T j i hT.1 hT.2 j1 j2 i1 (by omega)
    have b1 := d4 (10 * T + i).toNat (by omega)
    have b2 := d4 (10 * T + j).toNat (by omega)
    have b3 := d4 (10 * i + j).toNat (by omega)
    have b5 := (m_R_lay (lf := fun _ => 0) (g := fun _ => 0) (r := fun _ => 0) hk).2.2.1 (10 * i + j).toNat (by omega)
    by_cases u : q_D k (10 * T + i).toNat < 1000000
    · have t2 := t u (by omega)
      rw [if_pos u, if_pos (by omega)]
      omega
    · rw [if_neg u]
      split <;> omega
  unfold q_eg at f ⊢
  rw [m_lw_at] at f ⊢
  by_cases e : (10 * i + j).toNat = (10 * F + T).toNat
  · rw [if_pos e] at f ⊢
    have a1 : i = F := by omega
    have a2 : j = T := by omega
    rw [a1, a2]
    rw [a1, a2] at old
    have z := d3 T hT.1 hT.2
    have new : (if q_D k (10 * T + T).toNat < 1000000 then min (p T.toNat) (p F.toNat + q_D k (10 * T + T).toNat) else p T.toNat) ≤ (if q_D k (10 * T + F).toNat < 1000000 then min (p F.toNat) (p F.toNat + q_D k (10 * T + F).toNat) else p F.toNat) := by
      rw [if_pos (by omega), z]
      split <;> omega
    by_cases g : q_net k (fun _ => 0) (fun _ => 0) (10 * F + T).toNat < 0
    · have := old (by omega)
      omega
    · omega
  · rw [if_neg e] at f ⊢
    exact old f
theorem m_lv_con {k : Nat → Int} (hk : q_KR k) (hc : q_con k (fun _ => 0)) (h : q_lvTk k) : q_con (q_lvK k (q_D k)) (fun _ => 0) := by
  have h0 := hk.r0
  obtain ⟨x, y, hx, hy, e, ox, oy, dd⟩ := m_lv_spec hk h.2.2
  have ax := hk.ac hx.1 hx.2
  have ay := hk.ac hy.1 hy.2
  unfold q_lvK
  rw [e, show (5 * x + y) % 5 = y by omega, show (5 * x + y) / 5 = x by omega]
  unfold q_con
  rw [m_net_tell hk h.1]
  exact m_con_eg hk hc (by omega) (by omega) dd
/-- an order with a slack of 0 or more keeps the net consistent -/
theorem q_lv_con {k : Nat → Int} (hk : q_KR k) (hc : q_con k (fun _ => 0)) (h : q_lvTk k) : q_con (q_lvK k (q_D k)) (fun _ => 0) := m_lv_con hk hc h
theorem q_KR_lvk {k : Nat → Int} (hk : q_KR k) (hc : q_con k (fun _ => 0)) (h : q_lvTk k) : q_KR (q_lvK k (q_D k)) := q_KR_lv hk (q_lvTk_T hc h)
theorem q_lvK_ne {k d : Nat → Int} {j : Nat} (h : 0 ≤ k 1 ∧ k 1 ≤ 39) (hj : j ≠ 1 ∧ ¬ (52 ≤ j ∧ j < 212)) : q_lvK k d j = k j := by
  unfold q_lvK
  rw [q_tell_at h.1, if_neg hj.1, if_neg (by omega), if_neg (by omega), if_neg (by omega), if_neg (by omega)]
theorem q_lvK_1 {k d : Nat → Int} (h : 0 ≤ k 1) : q_lvK k d 1 = k 1 + 1 := by
  unfold q_lvK
  rw [q_tell_at h, if_pos rfl]
def q_ag (k f : Nat → Int) : Prop := ∀ j, j ≠ 1 ∧ ¬ (52 ≤ j ∧ j < 212) → f j = k j
theorem q_CI_of {k o n w d m V U j c : Nat → Int} (h : o 7 = 0 ∧ o 8 = 0 ∧ o 9 = 0) : q_CI k o n w d m V U j c := ⟨Or.inl h.1, Or.inl h.2.1, Or.inl h.2.2⟩
/-- what is left out tells only below 40 -/
theorem m_con_lf {k lf lf' : Nat → Int} (hk : q_KR k) (h : m_A 40 lf lf') : q_con k lf ↔ q_con k lf' := by
  have h0 := hk.r0
  unfold q_con
  have e : q_net k lf (fun _ => 0) = q_net k lf' (fun _ => 0) := by
    unfold q_net q_bds
    congr 2
    refine q_fr_congr (fun b y g1 g2 => ?_)
    unfold q_bdE
    rw [h b.toNat (by omega)]
  rw [e]
/-- distances of a consistent net: within 614400, or none -/
theorem m_dd_r {k lf g : Nat → Int} {j : Nat} (h : q_KR k) (hc : q_con k lf) (hj : j < 100) : -614400 ≤ q_dd k lf g j ∧ (q_dd k lf g j ≤ 614400 ∨ q_dd k lf g j = 1000000) := by
  have h0 := h.r0
  have m := m_cls_eq (u := fun _ => 0) (by omega) (m_R_lay (lf := lf) (g := g) (r := fun _ => 0) h) (m_con_eq.mpr hc)
  unfold q_dd
  rw [m.2.1]
  have := m.2.2.2.2.2 j hj
  omega
/-- a potential bounds the distances from below -/
theorem m_D_pot {k lf g p : Nat → Int} (h : q_KR k) (hc : q_con k lf) (hp : m_pot p (q_net k lf g)) : m_pot p (q_dd k lf g) := by
  have hk := m_con_eq (g := g).mpr hc
  have e : q_dd k lf g = q_ps 10 (q_net k lf g) := q_cg_t hk
  rw [e]
  exact m_pot_ps hp 10 (by omega)
/-- sums of labels as bits -/
theorem m_trN : ∀ (t : Fin 16) (o s : Fin 16), (pz_or (pz_and ((t.val : Nat) : Int) (pz_xor ((o.val : Nat) : Int) (-1))) (pz_and ((s.val : Nat) : Int) ((o.val : Nat) : Int)) = (((t.val &&& (15 - o.val)) ||| (s.val &&& o.val) : Nat) : Int)) := by decide +kernel
theorem m_ml_eq {f0 f g : Nat → Int} {S : Nat → Int → Prop} (hf : m_ml f0 S f) (hg : m_ml f0 S g) : f = g := by
  funext n
  obtain ⟨a1, a2, a3⟩ := hf n
  obtain ⟨b1, b2, b3⟩ := hg n
  rcases a3 with a | a <;> rcases b3 with b | b
  · rw [a, b]
  · have := a2 _ b; omega
  · have := b2 _ a; omega
  · have c1 := a2 _ b
    have c2 := b2 _ a
    omega
theorem m_T_sh3 {z c : Int} {w r : Nat → Int} (hz : z ≤ 10) (hc : 0 ≤ c ∧ c < z) (h1 : m_T z w r) (h2 : m_O z w) (h3 : m_v3 w) : m_T z (m_sh c w) (q_cs z c r) ∧ m_O z (m_sh c w) := by
  refine ⟨?_, ?_⟩
  · intro i j i1 i2 j1 j2
    have a1 := h1 i c i1 i2 hc.1 hc.2
    have a2 := h1 c j hc.1 hc.2 j1 j2
    have a3 := h1 i j i1 i2 j1 j2
    have b1 := h3 (10 * i + c).toNat (by omega)
    have b2 := h3 (10 * c + j).toNat (by omega)
    have b3 := h3 (10 * i + j).toNat (by omega)
    have n1 := q_N_v (x := w (10 * i + c).toNat) (by omega)
    have n2 := q_N_v (x := w (10 * c + j).toNat) (by omega)
    have n3 := q_N_v (x := w (10 * i + j).toNat) (by omega)
    rw [m_sh_at (by omega) (by omega)]
    by_cases g : w (10 * i + c).toNat < 1000000 ∧ w (10 * c + j).toNat < 1000000 ∧ w (10 * i + c).toNat + w (10 * c + j).toNat < w (10 * i + j).toNat
    · rw [if_pos g]
      have n4 := q_N_v (x := w (10 * i + c).toNat + w (10 * c + j).toNat) (by omega)
      have e1 : r (10 * i + c).toNat = w (10 * i + c).toNat := by omega
      have e2 : r (10 * c + j).toNat = w (10 * c + j).toNat := by omega
      rw [q_cs_y hz ⟨i1, i2⟩ ⟨j1, j2⟩ (by omega), e1, e2]
      omega
    · rw [if_neg g, q_cs_n i1 (by omega) (by omega)]
      exact a3
  · intro i j i1 i2 j1 j2 g
    rw [m_sh_at ⟨i1, i2⟩ ⟨j1, j2⟩]
    have g1 := h2 i j i1 i2 j1 j2 g
    by_cases e : z ≤ i
    · have g2 := h2 i c i1 i2 hc.1 (by omega) (Or.inl e)
      rw [if_neg (show ¬ i = c by omega)] at g2
      rw [if_neg (by omega)]
      exact g1
    · have g2 := h2 c j hc.1 (by omega) j1 j2 (by omega)
      rw [if_neg (show ¬ c = j by omega)] at g2
      rw [if_neg (by omega)]
      exact g1
