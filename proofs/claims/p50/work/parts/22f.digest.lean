/-! the law's digest -/
/-- the digest, as the law folds it -/
noncomputable def t_dgs (x y : Int) : Int := pz_wl (pz_wl (((31 : Nat) : Int) * x) + y)
noncomputable def t_dgL (k : Nat → Int) (i x : Int) : Int := q_fr (fun l x => t_dgs x (c_labelOf k l)) 1 i x
noncomputable def t_dgB (k : Nat → Int) (a i x : Int) : Int := q_fr (fun b x => t_dgs x (c_distance k a b)) 0 i x
noncomputable def t_dgA (k : Nat → Int) (i x : Int) : Int := q_fr (fun a x => t_dgB k a 10 (t_dgs x (c_startedAt k a))) 0 i x
noncomputable def t_dig (k : Nat → Int) : Int := t_dgs (t_dgA k 10 (t_dgL k 5 (c_now k))) (c_conflictSize k)
theorem t_dgL_s {k : Nat → Int} {i x : Int} (h : 1 ≤ i) : t_dgL k (i + 1) x = t_dgs (t_dgL k i x) (c_labelOf k i) := q_fr_s (f := fun l x => t_dgs x (c_labelOf k l)) h
theorem t_dgB_s {k : Nat → Int} {a i x : Int} (h : 0 ≤ i) : t_dgB k a (i + 1) x = t_dgs (t_dgB k a i x) (c_distance k a i) := q_fr_s (f := fun b x => t_dgs x (c_distance k a b)) h
theorem t_dgA_s {k : Nat → Int} {i x : Int} (h : 0 ≤ i) : t_dgA k (i + 1) x = t_dgB k i 10 (t_dgs (t_dgA k i x) (c_startedAt k i)) := q_fr_s (f := fun a x => t_dgB k a 10 (t_dgs x (c_startedAt k a))) h
theorem t_dg_l {L C S : Nat} {sc k d kf : Nat → Int} {n : Int}  {x0 : Int} {Q : pz_Q} (hk : q_KR k) (K : ∀ (l x : Int) (x5 : Option pz_V) (iv : Nat → Nat → Int) (dv : Nat → Nat → UInt64) (cc ss : Nat), t_I sc k d n kf iv → x = t_dgL k 5 x0 → cc ≤ C → ss ≤ S → pz_G 230 35 [some (.inr (.inl 2)), some (.inr (.inl 154)), some (.inr (.inr (.inl (x)))), none, some (.inl (l)), x5] [] (pz_Sh L, iv, dv, cc, ss) Q) : ∀ (m9 : Nat) (l x : Int) (x5 : Option pz_V) (iv : Nat → Nat → Int) (dv : Nat → Nat → UInt64) (cc ss : Nat), 1 ≤ l → l ≤ 5 → 5 - l < m9 → x = t_dgL k l x0 → t_I sc k d n kf iv → (cc : Int) + 1 * (5 - l) ≤ C → (ss : Int) + 6 * (5 - l) ≤ S → pz_G 230 9 [some (.inr (.inl 2)), some (.inr (.inl 154)), some (.inr (.inr (.inl (x)))), none, some (.inl (l)), x5] [] (pz_Sh L, iv, dv, cc, ss) Q := by
  intro m9
  have h0 := hk.r0
  induction m9 with
  | zero => intro l x x5 iv dv cc ss l1 l2 l3; omega
  | succ m9 ih =>
    intro l x x5 iv dv cc ss l1 l2 l3 hx hI l4 l5
    refine pz_G_of pz_b230_9 ?_
    refine w_loc rfl ?_
    refine w_pure rfl ?_
    refine w_igt (fun h1 => ?_) (fun h1 => ?_)
    · skip
      have e5 : l = 5 := by omega
      exact K l x _ _ _ _ _ hI (by rw [hx, e5]) (by omega) (by omega)
    · skip
      refine w_ldc2 ?_
      refine w_loc rfl ?_
      refine w_lmulw ?_
      refine w_loc rfl ?_
      refine w_loc rfl ?_
      refine w_callO (t_S_labelOf (l := l) hI) rfl rfl (fun iv2 dv3 cc4 ss5 hI6 hc7 hs8 => ?_)
      refine w_pure rfl ?_
      refine w_laddw ?_
      refine w_loc (ls' := [some (.inr (.inl 2)), some (.inr (.inl 154)), some (.inr (.inr (.inl (pz_wl (pz_wl (((31 : Nat) : Int) * x) + c_labelOf k l))))), none, some (.inl (l)), x5]) (st' := []) rfl ?_
      refine w_iinc rfl rfl (ls' := [some (.inr (.inl 2)), some (.inr (.inl 154)), some (.inr (.inr (.inl (pz_wl (pz_wl (((31 : Nat) : Int) * x) + c_labelOf k l))))), none, some (.inl (l + 1)), x5]) rfl ⟨by omega, by omega⟩ ?_
      refine w_goto ?_
      exact ih (l + 1) _ _ _ _ _ _ (by omega) (by omega) (by omega) (by rw [hx, t_dgL_s l1]; rfl) hI6 (by omega) (by omega)
theorem t_dg_b {L C S : Nat} {sc k d kf : Nat → Int} {n : Int} {a : Int} {x0 : Int} {Q : pz_Q} (hk : q_KR k) (K : ∀ (b x : Int) (iv : Nat → Nat → Int) (dv : Nat → Nat → UInt64) (cc ss : Nat), t_I sc k d n kf iv → x = t_dgB k a 10 x0 → cc ≤ C → ss ≤ S → pz_G 230 91 [some (.inr (.inl 2)), some (.inr (.inl 154)), some (.inr (.inr (.inl (x)))), none, some (.inl (a)), some (.inl (b))] [] (pz_Sh L, iv, dv, cc, ss) Q) : ∀ (m9 : Nat) (b x : Int) (iv : Nat → Nat → Int) (dv : Nat → Nat → UInt64) (cc ss : Nat), 0 ≤ b → b ≤ 10 → 10 - b < m9 → x = t_dgB k a b x0 → t_I sc k d n kf iv → (cc : Int) + 1 * (10 - b) ≤ C → (ss : Int) + 6 * (10 - b) ≤ S → pz_G 230 62 [some (.inr (.inl 2)), some (.inr (.inl 154)), some (.inr (.inr (.inl (x)))), none, some (.inl (a)), some (.inl (b))] [] (pz_Sh L, iv, dv, cc, ss) Q := by
  intro m9
  have h0 := hk.r0
  induction m9 with
  | zero => intro b x iv dv cc ss l1 l2 l3; omega
  | succ m9 ih =>
    intro b x iv dv cc ss l1 l2 l3 hx hI l4 l5
    refine pz_G_of pz_b230_62 ?_
    refine w_loc rfl ?_
    refine w_pure rfl ?_
    refine w_ige (fun h1 => ?_) (fun h1 => ?_)
    · skip
      have e5 : b = 10 := by omega
      exact K b x _ _ _ _ hI (by rw [hx, e5]) (by omega) (by omega)
    · skip
      refine w_ldc2 ?_
      refine w_loc rfl ?_
      refine w_lmulw ?_
      refine w_loc rfl ?_
      refine w_loc rfl ?_
      refine w_loc rfl ?_
      refine w_callO (t_S_distance (f := a) (t := b) hI) rfl rfl (fun iv2 dv3 cc4 ss5 hI6 hc7 hs8 => ?_)
      refine w_pure rfl ?_
      refine w_laddw ?_
      refine w_loc (ls' := [some (.inr (.inl 2)), some (.inr (.inl 154)), some (.inr (.inr (.inl (pz_wl (pz_wl (((31 : Nat) : Int) * x) + c_distance k a b))))), none, some (.inl (a)), some (.inl (b))]) (st' := []) rfl ?_
      refine w_iinc rfl rfl (ls' := [some (.inr (.inl 2)), some (.inr (.inl 154)), some (.inr (.inr (.inl (pz_wl (pz_wl (((31 : Nat) : Int) * x) + c_distance k a b))))), none, some (.inl (a)), some (.inl (b + 1))]) rfl ⟨by omega, by omega⟩ ?_
      refine w_goto ?_
      exact ih (b + 1) _ _ _ _ _ (by omega) (by omega) (by omega) (by rw [hx, t_dgB_s l1]; rfl) hI6 (by omega) (by omega)
theorem t_dg_a {L C S : Nat} {sc k d kf : Nat → Int} {n : Int} {x0 : Int} {Q : pz_Q} (hk : q_KR k) (K : ∀ (a x : Int) (x5 : Option pz_V) (iv : Nat → Nat → Int) (dv : Nat → Nat → UInt64) (cc ss : Nat), t_I sc k d n kf iv → x = t_dgA k 10 x0 → cc ≤ C → ss ≤ S → pz_G 230 97 [some (.inr (.inl 2)), some (.inr (.inl 154)), some (.inr (.inr (.inl (x)))), none, some (.inl (a)), x5] [] (pz_Sh L, iv, dv, cc, ss) Q) : ∀ (m9 : Nat) (a x : Int) (x5 : Option pz_V) (iv : Nat → Nat → Int) (dv : Nat → Nat → UInt64) (cc ss : Nat), 0 ≤ a → a ≤ 10 → 10 - a < m9 → x = t_dgA k a x0 → t_I sc k d n kf iv → (cc : Int) + 12 * (10 - a) ≤ C → (ss : Int) + 72 * (10 - a) ≤ S → pz_G 230 38 [some (.inr (.inl 2)), some (.inr (.inl 154)), some (.inr (.inr (.inl (x)))), none, some (.inl (a)), x5] [] (pz_Sh L, iv, dv, cc, ss) Q := by
  intro m9
  have h0 := hk.r0
  induction m9 with
  | zero => intro a x x5 iv dv cc ss l1 l2 l3; omega
  | succ m9 ih =>
    intro a x x5 iv dv cc ss l1 l2 l3 hx hI l4 l5
    refine pz_G_of pz_b230_38 ?_
    refine w_loc rfl ?_
    refine w_pure rfl ?_
    refine w_ige (fun h1 => ?_) (fun h1 => ?_)
    · skip
      have e5 : a = 10 := by omega
      exact K a x _ _ _ _ _ hI (by rw [hx, e5]) (by omega) (by omega)
    · skip
      refine w_ldc2 ?_
      refine w_loc rfl ?_
      refine w_lmulw ?_
      refine w_loc rfl ?_
      refine w_loc rfl ?_
      refine w_callO (t_S_startedAt (e := a) hI) rfl rfl (fun iv2 dv3 cc4 ss5 hI6 hc7 hs8 => ?_)
      refine w_pure rfl ?_
      refine w_laddw ?_
      refine w_loc (ls' := [some (.inr (.inl 2)), some (.inr (.inl 154)), some (.inr (.inr (.inl (pz_wl (pz_wl (((31 : Nat) : Int) * x) + c_startedAt k a))))), none, some (.inl (a)), x5]) (st' := []) rfl ?_
      refine w_pure rfl ?_
      refine w_loc (ls' := [some (.inr (.inl 2)), some (.inr (.inl 154)), some (.inr (.inr (.inl (pz_wl (pz_wl (((31 : Nat) : Int) * x) + c_startedAt k a))))), none, some (.inl (a)), some (.inl (0))]) (st' := []) rfl ?_
      refine w_nil ?_
      refine t_dg_b (C := cc4 + 10) (S := ss5 + 60) hk (a := a) (x0 := t_dgs x (c_startedAt k a)) (fun b9 x9 iv9 dv9 cc9 ss9 hI9 q9 hC9 hS9 => ?_) 11 0 _ _ _ _ _ (by omega) (by omega) (by omega) (q_fr_0 (Int.le_refl 0)).symm hI6 (by omega) (by omega)
      refine pz_G_of pz_b230_91 ?_
      refine w_iinc rfl rfl (ls' := [some (.inr (.inl 2)), some (.inr (.inl 154)), some (.inr (.inr (.inl (x9)))), none, some (.inl (a + 1)), some (.inl (b9))]) rfl ⟨by omega, by omega⟩ ?_
      refine w_goto ?_
      exact ih (a + 1) _ _ _ _ _ _ (by omega) (by omega) (by omega) (by rw [q9, hx, t_dgA_s l1]) hI9 (by omega) (by omega)
theorem t_L_digest {L : Nat} {sc k d kf : Nat → Int} {n : Int} {iv : Nat → Nat → Int} (hI : t_I sc k d n kf iv) : t_O L 230 [.inr (.inl 2), .inr (.inl 154)] iv (.inr (.inr (.inl (t_dig k)))) 130 (t_I sc k d n kf) := by
  intro dv cc ss
  have hk := hI.2.1
  show pz_G 230 0 [some (.inr (.inl 2)), some (.inr (.inl 154)), none, none, none, none] [] (pz_Sh L, iv, dv, cc, ss) (t_OP L (.inr (.inr (.inl (t_dig k)))) 130 (t_I sc k d n kf) cc ss)
  refine pz_G_of pz_b230_0 ?_
  refine w_loc rfl ?_
  refine w_callO (t_S_now hI) rfl (pz_cokI is_2 rfl) (fun iv1 dv2 cc3 ss4 hI5 hc6 hs7 => ?_)
  refine w_pure rfl ?_
  refine w_loc (ls' := [some (.inr (.inl 2)), some (.inr (.inl 154)), some (.inr (.inr (.inl (c_now k)))), none, none, none]) (st' := []) rfl ?_
  refine w_pure rfl ?_
  refine w_loc (ls' := [some (.inr (.inl 2)), some (.inr (.inl 154)), some (.inr (.inr (.inl (c_now k)))), none, some (.inl (1)), none]) (st' := []) rfl ?_
  refine w_nil ?_
  refine t_dg_l (C := cc3 + 4) (S := ss4 + 24) hk (x0 := c_now k) (fun l9 x9 y5 iv9 dv9 cc9 ss9 hI9 q9 hC9 hS9 => ?_) 5 1 _ _ _ _ _ _ (by omega) (by omega) (by omega) (q_fr_0 (Int.le_refl 1)).symm hI5 (by omega) (by omega)
  refine pz_G_of pz_b230_35 ?_
  refine w_pure rfl ?_
  refine w_loc (ls' := [some (.inr (.inl 2)), some (.inr (.inl 154)), some (.inr (.inr (.inl (x9)))), none, some (.inl (0)), y5]) (st' := []) rfl ?_
  refine w_nil ?_
  refine t_dg_a (C := cc9 + 120) (S := ss9 + 720) hk (x0 := x9) (fun a8 x8 y8 iv8 dv8 cc8 ss8 hI8 q8 hC8 hS8 => ?_) 11 0 _ _ _ _ _ _ (by omega) (by omega) (by omega) (q_fr_0 (Int.le_refl 0)).symm hI9 (by omega) (by omega)
  refine pz_G_of pz_b230_97 ?_
  refine w_ldc2 ?_
  refine w_loc rfl ?_
  refine w_lmulw ?_
  refine w_loc rfl ?_
  refine w_callO (t_S_conflictSize hI8) rfl rfl (fun iv8 dv9 cc10 ss11 hI12 hc13 hs14 => ?_)
  refine w_pure rfl ?_
  refine w_laddw ?_
  refine w_ret rfl ?_
  rw [q8, q9]
  exact ⟨_, _, _, _, rfl, rfl, by omega, by omega, hI12⟩
