/-! caches stay true where what they rest on stays -/
def t_J (k k' : Nat → Int) : Prop := ∀ j : Nat, (j < 3 ∨ (6 ≤ j ∧ j < 16) ∨ (46 ≤ j ∧ j < 224)) → k' j = k j
section CIJ
variable {k k' : Nat → Int}
theorem t_J_hld {b : Int} (hk : q_KR k) (e : t_J k k') (b1 : 0 ≤ b) (b2 : b < k 1) : q_hld k' b ↔ q_hld k b := by
  have h0 := hk.r0
  have bd := hk.bd b1 b2
  have e3 := e (52 + 4 * b + 3).toNat (by omega)
  unfold q_hld q_tru q_fls
  rw [e3]
  have cases9 := bd.2.2.2.2
  by_cases c : k (52 + 4 * b + 3).toNat = 99
  · exact ⟨fun q => absurd c q.1, fun q => absurd c q.1⟩
  · have r : -4 ≤ k (52 + 4 * b + 3).toNat ∧ k (52 + 4 * b + 3).toNat ≤ 4 := by omega
    by_cases p : 0 < k (52 + 4 * b + 3).toNat
    · rw [e (46 + k (52 + 4 * b + 3).toNat).toNat (by omega)]
      exact ⟨fun q => ⟨q.1, q.2.elim Or.inl (fun z => z.elim (fun z => Or.inr (Or.inl z)) (fun z => by omega))⟩, fun q => ⟨q.1, q.2.elim Or.inl (fun z => z.elim (fun z => Or.inr (Or.inl z)) (fun z => by omega))⟩⟩
    · by_cases m : k (52 + 4 * b + 3).toNat < 0
      · rw [e (46 + -(k (52 + 4 * b + 3).toNat)).toNat (by omega)]
        exact ⟨fun q => ⟨q.1, q.2.elim Or.inl (fun z => z.elim (fun z => by omega) (fun z => Or.inr (Or.inr z)))⟩, fun q => ⟨q.1, q.2.elim Or.inl (fun z => z.elim (fun z => by omega) (fun z => Or.inr (Or.inr z)))⟩⟩
      · exact ⟨fun q => ⟨q.1, Or.inl (by omega)⟩, fun q => ⟨q.1, Or.inl (by omega)⟩⟩
theorem t_J_bd {lf : Nat → Int} {b : Int} {f : Nat → Int} (hk : q_KR k) (e : t_J k k') (b1 : 0 ≤ b) (b2 : b < k 1) : q_bdE k' lf b f = q_bdE k lf b f := by
  have h0 := hk.r0
  have hh := propext (t_J_hld hk e b1 b2)
  unfold q_bdE
  rw [hh, e (52 + 4 * b).toNat (by omega), e (52 + 4 * b + 1).toNat (by omega), e (52 + 4 * b + 2).toNat (by omega)]
theorem t_J_st {x : Int} {f : Nat → Int} (e : t_J k k') (b1 : 0 ≤ x) (b2 : x ≤ 9) : q_stE k' x f = q_stE k x f := by
  unfold q_stE q_sta
  rw [e (6 + x).toNat (by omega)]
theorem t_J_sp {s : Int} {f : Nat → Int} (e : t_J k k') (b1 : 0 ≤ s) (b2 : s < 3) : q_spE k' s f = q_spE k s f := by
  unfold q_spE
  rw [e (212 + 4 * s).toNat (by omega), e (212 + 4 * s + 1).toNat (by omega), e (212 + 4 * s + 2).toNat (by omega), e (212 + 4 * s + 3).toNat (by omega)]
theorem t_J_sta {x : Int} (e : t_J k k') (b1 : 0 ≤ x) (b2 : x ≤ 9) : q_sta k' x ↔ q_sta k x := by
  unfold q_sta
  rw [e (6 + x).toNat (by omega)]
theorem t_J_net {lf g : Nat → Int} (hk : q_KR k) (e : t_J k k') : q_net k' lf g = q_net k lf g := by
  have h0 := hk.r0
  have e0 := e 0 (by omega)
  have e1 := e 1 (by omega)
  have e2 := e 2 (by omega)
  unfold q_net q_bds
  rw [e0, e1, e2]
  have a : q_fr (q_bdE k' lf) 0 (k 1) (q_clr g) = q_fr (q_bdE k lf) 0 (k 1) (q_clr g) := q_fr_congr (fun b y b1 b2 => t_J_bd hk e b1 b2)
  rw [a]
  have b : ∀ u, q_fr (q_stE k') 1 (k 0) u = q_fr (q_stE k) 1 (k 0) u := fun u => q_fr_congr (fun x y b1 b2 => t_J_st e (by omega) (by omega))
  rw [b]
  exact q_fr_congr (fun s y b1 b2 => t_J_sp e b1 (by omega))
theorem t_J_con {lf : Nat → Int} (hk : q_KR k) (e : t_J k k') : q_con k' lf = q_con k lf := by
  unfold q_con
  rw [t_J_net hk e]
theorem t_J_dd {lf g : Nat → Int} (hk : q_KR k) (e : t_J k k') : q_dd k' lf g = q_dd k lf g := by
  unfold q_dd
  rw [t_J_net hk e]
theorem t_J_lay {lf r : Nat → Int} (hk : q_KR k) (e : t_J k k') : q_lay k' lf r = q_lay k lf r := by
  have h0 := hk.r0
  have e0 := e 0 (by omega)
  have e1 := e 1 (by omega)
  have e2 := e 2 (by omega)
  unfold q_lay
  rw [e0, e1, e2]
  have a : q_fr (q_bdE k' lf) 0 (k 1) (q_ncl (k 0) r) = q_fr (q_bdE k lf) 0 (k 1) (q_ncl (k 0) r) := q_fr_congr (fun b y b1 b2 => t_J_bd hk e b1 b2)
  rw [a]
  have b : ∀ u, q_fr (q_spE k') 0 (k 2) u = q_fr (q_spE k) 0 (k 2) u := fun u => q_fr_congr (fun s y b1 b2 => t_J_sp e b1 (by omega))
  rw [b]
  exact q_fr_congr (fun x y b1 b2 => t_J_st e (by omega) (by omega))
theorem t_J_vi {d v : Nat → Int} (hk : q_KR k) (e : t_J k k') : q_vi k' d v = q_vi k d v := by
  have h0 := hk.r0
  unfold q_vi
  rw [e 2 (by omega)]
  refine q_fr_congr (fun s y s1 s2 => ?_)
  have sp := hk.sp s1 s2
  unfold q_upS
  rw [e (212 + 4 * s).toNat (by omega), e (212 + 4 * s + 1).toNat (by omega), e (212 + 4 * s + 3).toNat (by omega)]
  unfold q_sta
  rw [e (6 + k (212 + 4 * s + 1).toNat).toNat (by omega)]
theorem t_J_rd {a v : Nat → Int} (hk : q_KR k) (e : t_J k k') : q_rd k' a v = q_rd k a v := by
  have h0 := hk.r0
  unfold q_rd
  rw [e 2 (by omega)]
  have f1 : q_fr (q_rdF k' a) 0 10 v = q_fr (q_rdF k a) 0 10 v := by
    refine q_fr_congr (fun f y _ _ => ?_)
    unfold q_rdF
    refine q_fr_congr (fun c y _ _ => ?_)
    unfold q_rdC
    rw [e 2 (by omega)]
  rw [f1]
  refine q_fr_congr (fun s y s1 s2 => ?_)
  have sp := hk.sp s1 s2
  have a0 := e (212 + 4 * s).toNat (by omega)
  have a1 := e (212 + 4 * s + 1).toNat (by omega)
  have a2 := e (212 + 4 * s + 2).toNat (by omega)
  unfold q_rdS
  rw [a1]
  have st : q_sta k' (k (212 + 4 * s + 1).toNat) = q_sta k (k (212 + 4 * s + 1).toNat) := propext (t_J_sta e (by omega) (by omega))
  rw [st]
  have n1 : q_spn k' a s y = q_spn k a s y := by
    unfold q_spn
    refine q_fr_congr (fun x u _ _ => ?_)
    unfold q_spR
    have o : ∀ u, q_fr (q_spB k' a s x) 0 (k' 2) u = q_fr (q_spB k a s x) 0 (k 2) u := fun u => by
      rw [e 2 (by omega)]
      refine q_fr_congr (fun o y _ _ => ?_)
      unfold q_spB
      rw [a0, a1, a2]
    unfold q_spA q_spC
    rw [o, a0, a1, a2]
  rw [n1]
theorem t_J_ir {v f : Nat → Int} (e : t_J k k') : q_ir k' v f = q_ir k v f := by
  unfold q_ir
  refine q_fr_congr (fun i y _ _ => ?_)
  unfold q_irI
  rw [e 2 (by omega)]
theorem t_J_X0 (hk : q_KR k) (e : t_J k k') : q_X0 k' = q_X0 k := by
  unfold q_X0 q_x0
  rw [t_J_dd hk e, t_J_vi hk e]
theorem t_J_rx1 {x : q_X} (hk : q_KR k) (e : t_J k k') : q_rx1 k' x = q_rx1 k x := by
  unfold q_rx1
  rw [t_J_rd hk e, t_J_ir e]
theorem t_J_rx {x : q_X} {n : Int} (hk : q_KR k) (e : t_J k k') : q_rx k' n x = q_rx k n x := by
  unfold q_rx
  exact q_fr_congr (fun _ y _ _ => t_J_rx1 hk e)
theorem t_J_fi {x : q_X} (hk : q_KR k) (e : t_J k k') : q_fi k' x = q_fi k x := by
  unfold q_fi
  rw [t_J_rd hk e, t_J_ir e]
theorem t_J_ha {x : q_X} (hk : q_KR k) (e : t_J k k') : q_ha k' x = q_ha k x := by
  unfold q_ha
  rw [t_J_rd hk e]
theorem t_J_m {x : q_X} (hk : q_KR k) (e : t_J k k') : q_m k' x = q_m k x := by
  have l : q_last k' x = q_last k x := by
    funext m
    unfold q_last
    have a : (∀ i : Int, 0 ≤ i → i < m → q_fi k' (q_rx k' i x) ∧ q_ha k' (q_rx k' i x)) = (∀ i : Int, 0 ≤ i → i < m → q_fi k (q_rx k i x) ∧ q_ha k (q_rx k i x)) := by
      apply propext
      constructor
      · intro q i i1 i2
        have := q i i1 i2
        rw [t_J_rx hk e, t_J_fi hk e, t_J_ha hk e] at this
        exact this
      · intro q i i1 i2
        rw [t_J_rx hk e, t_J_fi hk e, t_J_ha hk e]
        exact q i i1 i2
    rw [a, t_J_rx hk e, t_J_fi hk e, t_J_ha hk e]
  unfold q_m
  rw [l]
theorem t_J_seen (hk : q_KR k) (e : t_J k k') : q_sen k' = q_sen k := by
  have x := t_J_X0 hk e
  have x1 : q_x0 k' (fun _ => 0) (fun _ => 0) (fun _ => 0) (fun _ => 0) = q_x0 k (fun _ => 0) (fun _ => 0) (fun _ => 0) (fun _ => 0) := x
  unfold q_sen q_seen
  rw [t_J_con hk e, x1, t_J_m hk e, t_J_rx hk e, t_J_fi hk e, t_J_ha hk e]
theorem t_J_rnd (hk : q_KR k) (e : t_J k k') : q_rnd k' = q_rnd k := by
  have x1 : q_x0 k' (fun _ => 0) (fun _ => 0) (fun _ => 0) (fun _ => 0) = q_x0 k (fun _ => 0) (fun _ => 0) (fun _ => 0) (fun _ => 0) := t_J_X0 hk e
  unfold q_rnd q_rds
  rw [t_J_con hk e, x1, t_J_m hk e, t_J_rx hk e, t_J_ha hk e]
theorem t_J_val (hk : q_KR k) (e : t_J k k') : q_val k' = q_val k := by
  have x1 : q_x0 k' (fun _ => 0) (fun _ => 0) (fun _ => 0) (fun _ => 0) = q_x0 k (fun _ => 0) (fun _ => 0) (fun _ => 0) (fun _ => 0) := t_J_X0 hk e
  unfold q_val q_zX
  rw [t_J_con hk e, x1, t_J_m hk e, t_J_rx hk e, t_J_dd hk e]
theorem t_J_lo0 (hk : q_KR k) (e : t_J k k') : ∀ n : Nat, (n : Int) ≤ k 1 → q_lo0 k' n = q_lo0 k n := by
  intro n
  induction n with
  | zero =>
    intro _
    have a : q_lo0 k' ((0 : Nat) : Int) = fun _ => 0 := q_fr_0 (Int.le_refl 0)
    have b : q_lo0 k ((0 : Nat) : Int) = fun _ => 0 := q_fr_0 (Int.le_refl 0)
    rw [a, b]
  | succ n ih =>
    intro hn
    have i1 := ih (by omega)
    rw [show ((n + 1 : Nat) : Int) = (n : Int) + 1 by omega, q_lo0_s (by omega), q_lo0_s (by omega), i1]
    have hh := propext (t_J_hld hk e (b := n) (by omega) (by omega))
    unfold q_loS0
    rw [hh, t_J_con hk e]
theorem t_J_kp {b : Int} (hk : q_KR k) (e : t_J k k') (b1 : 0 ≤ b) (b2 : b < k 1) : q_kp k' b ↔ q_kp k b := by
  have l := t_J_lo0 hk e b.toNat (by omega)
  rw [Int.toNat_of_nonneg b1] at l
  have hh := propext (t_J_hld hk e b1 b2)
  unfold q_kp
  rw [hh, l, t_J_con hk e]
theorem t_J_CI {o n w d m V U j c : Nat → Int} (hk : q_KR k) (e : t_J k k') (h : q_CI k o n w d m V U j c) : q_CI k' o n w d m V U j c := by
  have h0 := hk.r0
  have e0 := e 0 (by omega)
  have e1 := e 1 (by omega)
  have e2 := e 2 (by omega)
  obtain ⟨h1, h2, h3⟩ := h
  refine ⟨?_, ?_, ?_⟩
  · rcases h1 with a | ⟨a, b⟩
    · exact Or.inl a
    · refine Or.inr ⟨a, ?_⟩
      unfold q_NK q_nD at b ⊢
      rw [e0, t_J_con hk e, t_J_dd hk e]
      obtain ⟨b1, b2, ⟨r, b3⟩, b4⟩ := b
      exact ⟨b1, b2, ⟨r, by rw [t_J_lay hk e]; exact b3⟩, b4⟩
  · rcases h2 with a | ⟨a, b⟩
    · exact Or.inl a
    · refine Or.inr ⟨a, ?_⟩
      unfold q_RK at b ⊢
      rw [t_J_seen hk e, t_J_rnd hk e, t_J_val hk e]
      refine ⟨b.1, b.2.1, fun q => ?_⟩
      have vu := b.2.2 q
      unfold q_VU at vu ⊢
      rw [e0, e2]
      refine ⟨vu.1, fun s x s1 s2 x1 x2 => ?_⟩
      rw [e (212 + 4 * s).toNat (by omega)]
      exact vu.2 s x s1 s2 x1 x2
  · rcases h3 with a | ⟨a, b⟩
    · exact Or.inl a
    · refine Or.inr ⟨a, ?_⟩
      unfold q_CK at b ⊢
      rw [t_J_con hk e, e1]
      have cn : ∀ x : Int, 0 ≤ x → x ≤ k 1 → q_cnt (q_kp k') x = q_cnt (q_kp k) x := fun x x1 x2 => q_cnt_congr (fun i i1 i2 => t_J_kp hk e i1 (by omega))
      refine ⟨b.1, by rw [cn (k 1) (by omega) (Int.le_refl _)]; exact b.2.1, ?_⟩
      intro x x1 x2 x3
      rw [cn x x1 (by omega)]
      exact b.2.2 x x1 x2 ((t_J_kp hk e x1 x2).mp x3)
end CIJ
/-! plans copied, cell by cell -/
theorem t_cpE {k p p' : Nat → Int} (h : q_cE k p) : q_cE k (pz_up (pz_up p' 0 (p 0)) 7 (p 7)) := ⟨h.1, h.2⟩
theorem t_cpB {k c f t m l d c' f' t' m' l' d' : Nat → Int} (hk : q_KR k) (h : q_cB k c f t m l d) : q_cB k (pz_up c' 0 (c 0)) (q_cp 40 f f') (q_cp 40 t t') (q_cp 40 m m') (q_cp 40 l l') (q_cp 40 d d') := by
  have h0 := hk.r0
  refine ⟨h.1, fun b b1 b2 => ?_⟩
  rw [q_cp_full (by omega), q_cp_full (by omega), q_cp_full (by omega), q_cp_full (by omega), q_cp_full (by omega)]
  exact h.2 b b1 b2
theorem t_cpS {k c f t l g c' f' t' l' g' : Nat → Int} (hk : q_KR k) (h : q_cS k c f t l g) : q_cS k (pz_up c' 0 (c 0)) (q_cp 3 f f') (q_cp 3 t t') (q_cp 3 l l') (q_cp 3 g g') := by
  have h0 := hk.r0
  refine ⟨h.1, fun s b1 b2 => ?_⟩
  rw [q_cp_full (by omega), q_cp_full (by omega), q_cp_full (by omega), q_cp_full (by omega)]
  exact h.2 s b1 b2
theorem t_cpC {k c s c' s' : Nat → Int} (h : q_cC k c s) : q_cC k (pz_up c' 0 (c 0)) (q_cp 10 s s') := by
  refine ⟨h.1, fun e b1 b2 => ?_⟩
  rw [q_cp_full (by omega)]
  exact h.2 e b1 b2
theorem t_cpA {k c f t d c' f' t' d' : Nat → Int} (hk : q_KR k) (h : q_cA k c f t d) : q_cA k (pz_up (pz_up c' 0 (c 0)) 1 (c 1)) (q_cp 5 f f') (q_cp 5 t t') (q_cp 5 d d') := by
  have h0 := hk.r0
  refine ⟨⟨h.1.1, h.1.2⟩, fun a b1 b2 => ?_⟩
  rw [q_cp_full (by omega), q_cp_full (by omega), q_cp_full (by omega)]
  exact h.2 a b1 b2
theorem t_cpO {k u y z u' y' z' : Nat → Int} (h : q_cO k u y z) : q_cO k (q_cp 10 u u') (q_cp 10 y y') (q_cp 10 z z') := by
  intro e b1 b2
  rw [q_cp_full (by omega), q_cp_full (by omega), q_cp_full (by omega)]
  exact h e b1 b2
theorem t_cpL {k r r' : Nat → Int} (h : q_cL k r) : q_cL k (q_cp 5 r r') := by
  intro l b1 b2
  rw [q_cp_full (by omega)]
  exact h l b1 b2
theorem t_cpP {k r r' : Nat → Int} (hk : q_KR k) (h : q_cP k r) : q_cP k (q_cp 10 r r') := by
  have h0 := hk.r0
  intro e b1 b2
  rw [q_cp_full (by omega)]
  exact h e b1 b2
/-- the plan's row is new, told outright -/
theorem t_tell_ne {k : Nat → Int} {F T W B : Int} {j : Nat} (h : 0 ≤ k 1 ∧ k 1 ≤ 39) (hj : j ≠ 1 ∧ ¬ (52 ≤ j ∧ j < 212)) : q_tell k F T W B j = k j := by
  rw [q_tell_at h.1, if_neg hj.1, if_neg (by omega), if_neg (by omega), if_neg (by omega), if_neg (by omega)]
theorem t_addsp_ne {k : Nat → Int} {F T W B : Int} {j : Nat} (h : 0 ≤ k 2 ∧ k 2 ≤ 2) (hj : j ≠ 2 ∧ ¬ (212 ≤ j ∧ j < 224)) : q_addsp k F T W B j = k j := by
  rw [q_addsp_at h.1, if_neg hj.1, if_neg (by omega), if_neg (by omega), if_neg (by omega), if_neg (by omega)]
theorem t_addac_ne {k : Nat → Int} {F T W : Int} {j : Nat} (h : 0 ≤ k 3 ∧ k 3 ≤ 4) (hj : j ≠ 3 ∧ ¬ (224 ≤ j ∧ j < 239)) : q_addac k F T W j = k j := by
  unfold q_addac
  rw [pz_up_ne hj.1, pz_up_ne (by omega), pz_up_ne (by omega), pz_up_ne (by omega)]
theorem t_kpl_ne {k a : Nat → Int} {n : Int} {j : Nat} (hn : n ≤ 10) (hj : j < 240) : q_kpl k a n j = k j := by
  unfold q_kpl
  rw [if_neg (by omega), if_neg (by omega)]
theorem t_cP_pl {k a a' r : Nat → Int} (hk : 0 ≤ k 0 ∧ k 0 ≤ 10) (h : m_A 10 a a') : q_cP (q_kpl k a' (k 0)) (q_cp 10 a r) := by
  intro e e1 e2
  have e240 : q_kpl k a' (k 0) 240 = k 0 := if_pos rfl
  rw [e240] at e2
  rw [q_cp_full (by omega), h e.toNat (by omega)]
  unfold q_kpl
  rw [if_neg (by omega), if_pos (by omega)]
  congr 1
  omega
theorem t_fl_ok {v k a : Nat → Int} {p : Int} (hk : q_KR k) (h : q_fl v k p a = 45) : ∀ x : Int, 0 ≤ x → x < k 0 → 0 ≤ q_pl v k p a x.toNat ∧ q_pl v k p a x.toNat ≤ 600 := by
  have h0 := hk.r0
  have al := m_pl_al (v := v) (a := a) (p := p) hk
  intro x x1 x2
  have aa : q_aa k (q_pl v k p a) := by
    refine Classical.byContradiction (fun q => ?_)
    unfold q_fl at h
    rw [q_if_f q] at h
    omega
  have n1 := aa x x1 x2
  have r := al x x1 (by omega)
  omega
theorem t_pl2 {v v' k a b : Nat → Int} {p : Int} (hk : q_KR k) (h : m_A 400 v v') : m_A 10 (q_pl v k p a) (q_pl v' k p b) := by
  rw [t_pl hk h]
  intro j hj
  exact m_pl_ind (v := v') (a := a) (b := b) (p := p) hk j (by omega) (by omega)
