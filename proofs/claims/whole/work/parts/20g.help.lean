/-! what the pairs want beside the contracts -/
theorem t_k1 {α : Type} {f g : Nat → α} {r q : Nat} {x : α} (hq : r ≠ q) (h : f r = g r) : pz_u1 f q x r = g r := (if_neg hq).trans h
theorem t_k2 {α : Type} {f g : Nat → α} {r q : Nat} {x : α} (hx : x = g q) (h : f r = g r) : pz_u1 f q x r = g r := by
  unfold pz_u1
  by_cases e : r = q
  · rw [if_pos e, e]; exact hx
  · rw [if_neg e]; exact h
theorem t_Rv {S : pz_S} {m : Nat} {as : List pz_V} {iv iv' : Nat → Nat → Int} {v w : pz_V} (h : pz_R S m as iv (.inl (some v)) iv') (e : v = w) : pz_R S m as iv (.inl (some w)) iv' := by
  rw [← e]; exact h
theorem t_z40 {f : Nat → Int} : m_A 40 (q_z40 f) (fun _ => 0) := fun _ hj => if_pos hj
theorem t_wk {k lf : Nat → Int} {p : Int} (hk : q_KR k) (h : m_A 40 lf (fun _ => 0)) : q_wkP k lf p ↔ q_wkP k (fun _ => 0) p := by
  have h0 := hk.r0
  have e : q_bds k lf (fun _ => 0) = q_bds k (fun _ => 0) (fun _ => 0) := by
    unfold q_bds
    congr 1
    refine q_fr_congr (fun b y g1 g2 => ?_)
    unfold q_bdE
    rw [h b.toNat (by omega)]
  unfold q_wkP
  rw [e]
theorem t_wkA {k lf : Nat → Int} (hk : q_KR k) (h : m_A 40 lf (fun _ => 0)) : q_all (q_wkP k lf) (q_p2 (k 2)) ↔ q_all (q_wkP k (fun _ => 0)) (q_p2 (k 2)) := ⟨fun q p p1 p2 => (t_wk hk h).mp (q p p1 p2), fun q p p1 p2 => (t_wk hk h).mpr (q p p1 p2)⟩
theorem t_ts {k a : Nat → Int} : m_A 10 (q_ts k a) (q_ka k) := fun _ hj => if_pos hj
theorem t_rs2 {k v v' a : Nat → Int} {e m : Int} (hk : q_KR k) (h : m_A 400 v v') (he : 0 ≤ e ∧ e ≤ 9) : q_rs v (q_ts k a) k e m = q_rs v' (q_ka k) k e m := (t_rs hk h he).trans (m_rs_congr hk t_ts he)
theorem t_lo2 {k v v' a : Nat → Int} {e : Int} (hk : q_KR k) (h : m_A 400 v v') (he : 0 ≤ e ∧ e ≤ 9) : q_lo v (q_ts k a) k e = q_lo v' (q_ka k) k e := by
  have h0 := hk.r0
  rw [t_lo hk h he]
  unfold q_lo
  refine q_fr_congr (fun s y s1 s2 => ?_)
  unfold q_loS
  rw [t_ts (k := k) (a := a) s.toNat (by omega)]
theorem t_hi2 {k v v' a : Nat → Int} {e : Int} (hk : q_KR k) (h : m_A 400 v v') (he : 0 ≤ e ∧ e ≤ 9) : q_hi v (q_ts k a) k e = q_hi v' (q_ka k) k e := by
  have h0 := hk.r0
  rw [t_hi hk h he]
  unfold q_hi
  refine q_fr_congr (fun s y s1 s2 => ?_)
  unfold q_hiS
  rw [t_ts (k := k) (a := a) s.toNat (by omega)]
theorem t_st2 {k d d' : Nat → Int} (hk : q_KR k) (h : m_A 100 d d') : q_st k d (q_pk k d) (k 3) = q_st k d' (q_pk k d') (k 3) := by
  rw [t_pk hk h, t_st hk h]
/-- all ways of nature, the same failures -/
theorem t_ik {k v v' a : Nat → Int} (hk : q_KR k) (h : m_A 400 v v') : q_all (q_ikP v k a) (q_p2 (k 2)) ↔ q_all (fun p => q_fl v' k p (fun _ => 0) = 45) (q_p2 (k 2)) := by
  have one : ∀ p : Int, q_fl v k p (q_kpI v k p a) = q_fl v' k p (fun _ => 0) := fun p => t_fl hk h
  constructor
  · intro q p p1 p2
    have := q p p1 p2
    unfold q_ikP at this
    rw [one p] at this
    exact this
  · intro q p p1 p2
    unfold q_ikP
    rw [one p]
    exact q p p1 p2
theorem t_la {a b : Nat → Int} {n : Int} (hn : n ≤ 10) (h : m_A 10 a b) : q_la a n = q_la b n := by
  unfold q_la
  refine q_fr_congr (fun e y e1 e2 => ?_)
  unfold q_laS
  rw [h e.toNat (by omega)]
