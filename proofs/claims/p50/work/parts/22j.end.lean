/-! how it begins and ends -/
/-- what the plan begins with -/
def t_k0 : Nat → Int := fun j => if j = 0 then 1 else if j = 5 then 9 else if 7 ≤ j ∧ j ≤ 25 then -1 else if 46 ≤ j ∧ j ≤ 50 then 111 else 0
theorem t_KR0 : q_KR t_k0 := by
  have v0 : t_k0 0 = 1 := rfl
  have v1 : t_k0 1 = 0 := rfl
  have v2 : t_k0 2 = 0 := rfl
  have v3 : t_k0 3 = 0 := rfl
  have v4 : t_k0 4 = 0 := rfl
  have v5 : t_k0 5 = 9 := rfl
  have v6 : t_k0 6 = 0 := rfl
  have v240 : t_k0 240 = 0 := rfl
  refine ⟨?_, ?_, ?_, ?_, ?_, ?_, ?_, ?_, ?_, ?_⟩
  · rw [v0, v1, v2, v3, v4, v5, v6, v240]; omega
  · intro x g1 g2
    rw [v4, v0]
    have z : t_k0 (6 + x).toNat = if x = 0 then 0 else -1 := by
      unfold t_k0
      by_cases c : x = 0
      · rw [if_pos c, c]; rfl
      · rw [if_neg c, if_neg (by omega), if_neg (by omega), if_pos (by omega)]
    rw [z]
    split <;> omega
  · intro x g1 g2
    have z1 : t_k0 (16 + x).toNat = -1 := by
      unfold t_k0
      rw [if_neg (by omega), if_neg (by omega), if_pos (by omega)]
    have z2 : t_k0 (26 + x).toNat = 0 := by
      unfold t_k0
      rw [if_neg (by omega), if_neg (by omega), if_neg (by omega), if_neg (by omega)]
    have z3 : t_k0 (36 + x).toNat = 0 := by
      unfold t_k0
      rw [if_neg (by omega), if_neg (by omega), if_neg (by omega), if_neg (by omega)]
    rw [z1, z2, z3]
    omega
  · intro l g1 g2
    left
    unfold t_k0
    rw [if_neg (by omega), if_neg (by omega), if_neg (by omega), if_pos (by omega)]
  · intro b g1 g2; rw [v1] at g2; omega
  · intro b g1 g2; rw [v2] at g2; omega
  · intro b t g1 g2 g3; rw [v2] at g3; omega
  · intro b g1 g2; rw [v2] at g2; omega
  · intro b g1 g2; rw [v3] at g2; omega
  · intro b g1 g2; rw [v240] at g2; omega
theorem t_l16 : ∀ j : Fin 10, pz_l2 pz_hIe 16 j.val = t_k0 (6 + j.val) := by decide +kernel
theorem t_l22 : ∀ j : Fin 10, pz_l2 pz_hIe 22 j.val = t_k0 (16 + j.val) ∧ pz_l2 pz_hIe 23 j.val = t_k0 (26 + j.val) ∧ pz_l2 pz_hIe 24 j.val = t_k0 (36 + j.val) := by decide +kernel
theorem t_l25 : ∀ j : Fin 5, pz_l2 pz_hIe 25 j.val = t_k0 (46 + j.val) := by decide +kernel
theorem t_lE : (pz_l2 pz_hIe 3 0 = 1 ∧ pz_l2 pz_hIe 3 7 = 0) ∧ pz_l2 pz_hIe 4 0 = 0 ∧ pz_l2 pz_hIe 10 0 = 0 ∧ pz_l2 pz_hIe 15 0 = 0 ∧ (pz_l2 pz_hIe 17 0 = 0 ∧ pz_l2 pz_hIe 17 1 = 9) ∧ (pz_l2 pz_hIe 2 2 = 0 ∧ pz_l2 pz_hIe 2 7 = 0 ∧ pz_l2 pz_hIe 2 8 = 0 ∧ pz_l2 pz_hIe 2 9 = 0) := by decide +kernel
theorem t_lD : pz_l2 pz_hIe 154 1 = 0 ∧ pz_l2 pz_hIe 154 2 = 0 ∧ pz_l2 pz_hIe 154 3 = 0 := by decide +kernel
def pz_iv0 (xs : Nat → Int32) : Nat → Nat → Int := fun r j => if r = 1 then (xs j).toInt else pz_l2 pz_hIe r j
theorem t_iv0 {xs : Nat → Int32} {r j : Nat} (h : r ≠ 1) : pz_iv0 xs r j = pz_l2 pz_hIe r j := if_neg h
theorem t_I0 {xs : Nat → Int32} : t_I (fun j => (xs j).toInt) t_k0 (pz_iv0 xs 154) 0 t_k0 (pz_iv0 xs) := by
  obtain ⟨⟨e1, e2⟩, b1, s1, c1, ⟨a1, a2⟩, ⟨f1, f2, f3, f4⟩⟩ := t_lE
  have k1 : t_k0 1 = 0 := rfl
  have k2 : t_k0 2 = 0 := rfl
  have k3 : t_k0 3 = 0 := rfl
  have k240 : t_k0 240 = 0 := rfl
  refine ⟨rfl, t_KR0, ⟨?_, ?_, ?_, ?_, ?_, ?_, ?_, ?_⟩, t_ci0 ⟨?_, ?_, ?_⟩, rfl, ?_, fun q => absurd q (by decide)⟩
  · exact ⟨(t_iv0 (by decide)).trans e1, (t_iv0 (by decide)).trans e2⟩
  · exact ⟨(t_iv0 (by decide)).trans b1, fun b g1 g2 => by rw [k1] at g2; omega⟩
  · exact ⟨(t_iv0 (by decide)).trans s1, fun b g1 g2 => by rw [k2] at g2; omega⟩
  · refine ⟨(t_iv0 (by decide)).trans c1, fun e g1 g2 => ?_⟩
    have q := t_l16 ⟨e.toNat, by omega⟩
    rw [show (6 + e).toNat = 6 + e.toNat by omega]
    exact (t_iv0 (by decide)).trans q
  · exact ⟨⟨(t_iv0 (by decide)).trans a1, (t_iv0 (by decide)).trans a2⟩, fun a g1 g2 => by rw [k3] at g2; omega⟩
  · intro e g1 g2
    have q := t_l22 ⟨e.toNat, by omega⟩
    rw [show (16 + e).toNat = 16 + e.toNat by omega, show (26 + e).toNat = 26 + e.toNat by omega, show (36 + e).toNat = 36 + e.toNat by omega]
    exact ⟨(t_iv0 (by decide)).trans q.1, (t_iv0 (by decide)).trans q.2.1, (t_iv0 (by decide)).trans q.2.2⟩
  · intro l g1 g2
    have q := t_l25 ⟨l.toNat, by omega⟩
    rw [show (46 + l).toNat = 46 + l.toNat by omega]
    exact (t_iv0 (by decide)).trans q
  · intro e g1 g2; rw [k240] at g2; omega
  · exact (t_iv0 (by decide)).trans f2
  · exact (t_iv0 (by decide)).trans f3
  · exact (t_iv0 (by decide)).trans f4
  · exact (t_iv0 (by decide)).trans f1
theorem t_d0 {xs : Nat → Int32} : t_d t_k0 (pz_up (pz_iv0 xs 154) (0 : Int).toNat 1) := by
  obtain ⟨e1, e2, e3⟩ := t_lD
  have k2 : t_k0 2 = 0 := rfl
  have z : (0 : Int).toNat = 0 := rfl
  rw [z]
  refine ⟨pz_up_eq, (pz_up_ne (by decide)).trans ((t_iv0 (by decide)).trans e1), (pz_up_ne (by decide)).trans ((t_iv0 (by decide)).trans e2), (pz_up_ne (by decide)).trans ((t_iv0 (by decide)).trans e3), fun s s1 s2 => ?_⟩
  rw [k2] at s2
  omega
theorem t_law0 {L : Nat} {xs : Nat → Int32} {Q : pz_Q} (k : ∀ v : Int, 0 ≤ v → v < 5 → pz_G 231 27 [some (.inr (.inl 1)), some (.inr (.inl 2)), some (.inr (.inl 154)), some (.inl (3 + v)), none, none, none, none, none, none, none] [] (pz_Sh L, pz_u1 (pz_iv0 xs) 154 (pz_up (pz_iv0 xs 154) (0 : Int).toNat 1), fun _ _ => 0, 153, 2810) Q) : pz_G 231 0 (pz_en 231 [.inr (.inl 1)]) [] (pz_h0 L xs) Q := by
  have z0 : pz_az ((0, [], [], [], 0, 0) : pz_aH) := fun r j _ => ⟨rfl, rfl⟩
  have e0 : pz_h0 L xs = pz_dh L xs (0, [], [], [], 0, 0) := rfl
  rw [e0]
  refine pz_G_of pz_b231_0 ?_
  obtain ⟨d1, z1⟩ := pz_dh_new (L := L) (xs := xs) (a := 10) (m := 0) (b := 10) z0
  refine w_mem (st' := [.inr (.inl 2)]) (h2 := pz_dh L xs (1, pz_hTa, pz_hNa, pz_hIa, 1, 10)) (by rw [show pz_dh L xs (1, pz_hTa, pz_hNa, pz_hIa, 1, 10) = _ from d1]; rfl) ?_
  refine w_pure rfl ?_
  obtain ⟨r1, z2⟩ := pz_srun_ok (L := L) (xs := xs) _ _ _ _ _ _ _ _ (pz_same_ok pz_bd1) z1
  refine pz_call_w (as := [.inr (.inl 2)]) (rest := [.inr (.inl 2)]) rfl rfl r1 ?_
  refine w_loc rfl ?_
  refine w_pure rfl ?_
  obtain ⟨d5, z5⟩ := pz_dh_new (L := L) (xs := xs) (a := 20) (m := 190) (b := 190) z2
  refine w_mem (st' := [.inr (.inl 154)]) (h2 := pz_new (pz_dh L xs (152, pz_hTb, pz_hNb, pz_hIb, 152, 2620)) 20 190 190) rfl ?_
  rw [← d5]
  refine w_loc rfl ?_
  refine w_loc rfl ?_
  refine w_pure rfl ?_
  refine w_pure rfl ?_
  show pz_W 231 _ _ _ _ (pz_Sh L, pz_iv0 xs, fun _ _ => 0, 153, 2810) Q
  refine w_iastm is_154 ln_154 ⟨by omega, by omega⟩ (pz_u2_row _ _ _ _) ?_
  refine w_pure rfl ?_
  refine w_loc rfl ?_
  refine w_pure rfl ?_
  refine w_pure rfl ?_
  obtain ⟨v, ⟨v1, v2⟩, hv⟩ := t_pick (L := L) (iv := pz_u1 (pz_iv0 xs) 154 (pz_up (pz_iv0 xs 154) (0 : Int).toNat 1))
  refine w_call hv rfl rfl ?_
  refine w_iadd ⟨by omega, by omega⟩ ?_
  refine w_loc rfl ?_
  refine w_nil ?_
  exact k v v1 v2
theorem pz_good_ok : pz_good 260 1282598 5245304 := by
  intro L xs hL
  have h : pz_G 231 0 (pz_en 231 [.inr (.inl 1)]) [] (pz_h0 L xs) (fun o h' => o = .inl (some (.inl 1)) ∧ h'.2.2.2.1 ≤ 1282598 ∧ h'.2.2.2.2 ≤ 5245304) := by
    refine t_law0 (fun v v1 v2 => ?_)
    have k0 : t_k0 0 = 1 := rfl
    exact t_evs 8 (3 + v) t_k0 _ _ _ _ _ _ _ _ _ _ _ _ (by omega) (by omega) (t_st_d t_I0 (0 : Int).toNat 1) t_d0 (by omega) rfl rfl (by omega) (by omega)
  obtain ⟨n, o, h2, he, ho, hc, hs⟩ := h
  subst ho
  exact ⟨n, h2, he, hc, hs⟩
