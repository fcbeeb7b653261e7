/-! the law as a whole: how it begins, call after call, how it ends -/
section SW
variable {m nx l a b c e : Nat} {ops : List pz_Op} {lc : pz_L} {sk : List pz_V} {h : pz_H} {Q : pz_Q}
theorem w_sw {d lo hi x : Int} {offs : Array Int} {pc : Nat} (ht : (if x < lo ∨ hi < x then some ((a : Int) + d).toNat else (offs[(x - lo).toNat]?).map (fun z => ((a : Int) + z).toNat)) = some pc) (k : pz_G m pc lc sk h Q) : pz_W m nx ((12, .tableswitch d lo hi offs, l, a, b, c, e) :: ops) lc (.inl x :: sk) h Q := by
  obtain ⟨n, o, h2, he, q⟩ := k
  refine ⟨n, o, h2, ?_, q⟩
  simp only [pz_ex]
  by_cases hx : x < lo ∨ hi < x
  · rw [if_pos hx] at ht ⊢
    have e9 := Option.some.inj ht
    rw [e9]
    exact he
  · rw [if_neg hx] at ht ⊢
    cases hz : offs[(x - lo).toNat]? with
    | none => rw [hz] at ht; cases ht
    | some z =>
      rw [hz] at ht
      have e9 : ((a : Int) + z).toNat = pc := Option.some.inj ht
      dsimp only
      rw [e9]
      exact he
end SW
theorem t_and63 (x : Int) : 0 ≤ pz_and x 63 ∧ pz_and x 63 ≤ 63 := by
  unfold pz_and
  have e : (Int32.ofInt x &&& Int32.ofInt 63).toBitVec.toNat ≤ 63 := by
    rw [Int32.toBitVec_and, BitVec.toNat_and]
    have z : (Int32.ofInt 63).toBitVec.toNat = 63 := rfl
    rw [z]
    exact Nat.and_le_right
  have t : (Int32.ofInt x &&& Int32.ofInt 63).toInt = (Int32.ofInt x &&& Int32.ofInt 63).toBitVec.toInt := rfl
  rw [t, BitVec.toInt_eq_toNat_cond, if_pos (by omega)]
  omega
/-- what the reference's row begins with -/
def t_k0 : Nat → Int := fun j => if j = 0 then 1 else if j = 5 then 9 else if 7 ≤ j ∧ j ≤ 25 then -1 else if 46 ≤ j ∧ j ≤ 50 then 111 else 0
theorem t_l155 : ∀ j : Fin 260, pz_l2 pz_hIe 155 j.val = t_k0 j.val := by decide +kernel
theorem t_l16 : ∀ j : Fin 10, pz_l2 pz_hIe 16 j.val = pz_l2 pz_hIe 155 (6 + j.val) := by decide +kernel
theorem t_l22 : ∀ j : Fin 10, pz_l2 pz_hIe 22 j.val = pz_l2 pz_hIe 155 (16 + j.val) ∧ pz_l2 pz_hIe 23 j.val = pz_l2 pz_hIe 155 (26 + j.val) ∧ pz_l2 pz_hIe 24 j.val = pz_l2 pz_hIe 155 (36 + j.val) := by decide +kernel
theorem t_l25 : ∀ j : Fin 5, pz_l2 pz_hIe 25 j.val = pz_l2 pz_hIe 155 (46 + j.val) := by decide +kernel
theorem t_l161 : ∀ j : Fin 40, pz_l2 pz_hIe 161 j.val = 0 := by decide +kernel
theorem t_lE : (pz_l2 pz_hIe 3 0 = 1 ∧ pz_l2 pz_hIe 3 7 = 0) ∧ pz_l2 pz_hIe 4 0 = 0 ∧ pz_l2 pz_hIe 10 0 = 0 ∧ pz_l2 pz_hIe 15 0 = 0 ∧ (pz_l2 pz_hIe 17 0 = 0 ∧ pz_l2 pz_hIe 17 1 = 9) ∧ (pz_l2 pz_hIe 2 2 = 0 ∧ pz_l2 pz_hIe 2 7 = 0 ∧ pz_l2 pz_hIe 2 8 = 0 ∧ pz_l2 pz_hIe 2 9 = 0) ∧ pz_l2 pz_hIe 154 3 = 0 := by decide +kernel
theorem t_KR0 : q_KR t_k0 := by
  have v0 : t_k0 0 = 1 := rfl
  have v1 : t_k0 1 = 0 := rfl
  have v2 : t_k0 2 = 0 := rfl
  have v3 : t_k0 3 = 0 := rfl
  have v4 : t_k0 4 = 0 := rfl
  have v5 : t_k0 5 = 9 := rfl
  have v6 : t_k0 6 = 0 := rfl
  have v240 : t_k0 240 = 0 := rfl
  refine ⟨?_, ?_, ?_, ?_, ?_, ?_, ?_, ?_, ?_, ?_⟩
  · rw [v0, v1, v2, v3, v4, v5, v6, v240]; omega
  · intro x g1 g2
    rw [v4, v0]
    have z : t_k0 (6 + x).toNat = if x = 0 then 0 else -1 := by
      unfold t_k0
      by_cases c : x = 0
      · rw [if_pos c, c]; rfl
      · rw [if_neg c, if_neg (by omega), if_neg (by omega), if_pos (by omega)]
    rw [z]
    split <;> omega
  · intro x g1 g2
    have z1 : t_k0 (16 + x).toNat = -1 := by
      unfold t_k0
      rw [if_neg (by omega), if_neg (by omega), if_pos (by omega)]
    have z2 : t_k0 (26 + x).toNat = 0 := by
      unfold t_k0
      rw [if_neg (by omega), if_neg (by omega), if_neg (by omega), if_neg (by omega)]
    have z3 : t_k0 (36 + x).toNat = 0 := by
      unfold t_k0
      rw [if_neg (by omega), if_neg (by omega), if_neg (by omega), if_neg (by omega)]
    rw [z1, z2, z3]
    omega
  · intro l g1 g2
    left
    unfold t_k0
    rw [if_neg (by omega), if_neg (by omega), if_neg (by omega), if_pos (by omega)]
  · intro b g1 g2; rw [v1] at g2; omega
  · intro b g1 g2; rw [v2] at g2; omega
  · intro b t g1 g2 g3; rw [v2] at g3; omega
  · intro b g1 g2; rw [v2] at g2; omega
  · intro b g1 g2; rw [v3] at g2; omega
  · intro b g1 g2; rw [v240] at g2; omega
theorem t_iv0 {xs : Nat → Int32} {r j : Nat} (h : r ≠ 1) : pz_iv0 xs r j = pz_l2 pz_hIe r j := if_neg h
theorem t_I0 {xs : Nat → Int32} : t_I (fun j => (xs j).toInt) (pz_iv0 xs) := by
  obtain ⟨⟨e1, e2⟩, b1, s1, c1, ⟨a1, a2⟩, ⟨f1, f2, f3, f4⟩, m1⟩ := t_lE
  have k155 : ∀ j, j < 260 → pz_iv0 xs 155 j = t_k0 j := fun j hj => by
    rw [t_iv0 (by decide)]
    exact t_l155 ⟨j, hj⟩
  have kr : q_KR (pz_iv0 xs 155) := t_KR_260 t_KR0 k155
  have k0 : pz_iv0 xs 155 0 = 1 := k155 0 (by decide)
  have k1 : pz_iv0 xs 155 1 = 0 := k155 1 (by decide)
  have k2 : pz_iv0 xs 155 2 = 0 := k155 2 (by decide)
  have k3 : pz_iv0 xs 155 3 = 0 := k155 3 (by decide)
  have k4 : pz_iv0 xs 155 4 = 0 := k155 4 (by decide)
  have k5 : pz_iv0 xs 155 5 = 9 := k155 5 (by decide)
  have k240 : pz_iv0 xs 155 240 = 0 := k155 240 (by decide)
  refine ⟨rfl, kr, ⟨?_, ?_, ?_, ?_, ?_, ?_, ?_, ?_⟩, t_ci0 ⟨?_, ?_, ?_⟩, ?_, ?_, ?_, ?_, ?_, ?_, ?_⟩
  · exact ⟨by rw [k0]; exact (t_iv0 (by decide)).trans e1, by rw [k240]; exact (t_iv0 (by decide)).trans e2⟩
  · exact ⟨by rw [k1]; exact (t_iv0 (by decide)).trans b1, fun b g1 g2 => by rw [k1] at g2; omega⟩
  · exact ⟨by rw [k2]; exact (t_iv0 (by decide)).trans s1, fun b g1 g2 => by rw [k2] at g2; omega⟩
  · refine ⟨by rw [k4]; exact (t_iv0 (by decide)).trans c1, fun e g1 g2 => ?_⟩
    have q := t_l16 ⟨e.toNat, by omega⟩
    rw [show (6 + e).toNat = 6 + e.toNat by omega]
    exact (t_iv0 (by decide)).trans (q.trans (t_iv0 (by decide)).symm)
  · exact ⟨⟨by rw [k3]; exact (t_iv0 (by decide)).trans a1, by rw [k5]; exact (t_iv0 (by decide)).trans a2⟩, fun a g1 g2 => by rw [k3] at g2; omega⟩
  · intro e g1 g2
    have q := t_l22 ⟨e.toNat, by omega⟩
    rw [show (16 + e).toNat = 16 + e.toNat by omega, show (26 + e).toNat = 26 + e.toNat by omega, show (36 + e).toNat = 36 + e.toNat by omega]
    exact ⟨(t_iv0 (by decide)).trans (q.1.trans (t_iv0 (by decide)).symm), (t_iv0 (by decide)).trans (q.2.1.trans (t_iv0 (by decide)).symm), (t_iv0 (by decide)).trans (q.2.2.trans (t_iv0 (by decide)).symm)⟩
  · intro l g1 g2
    have q := t_l25 ⟨l.toNat, by omega⟩
    rw [show (46 + l).toNat = 46 + l.toNat by omega]
    exact (t_iv0 (by decide)).trans (q.trans (t_iv0 (by decide)).symm)
  · intro e g1 g2; rw [k240] at g2; omega
  · exact (t_iv0 (by decide)).trans f2
  · exact (t_iv0 (by decide)).trans f3
  · exact (t_iv0 (by decide)).trans f4
  · intro j hj
    exact (t_iv0 (by decide)).trans (t_l161 ⟨j, hj⟩)
  · rw [show pz_iv0 xs 2 2 = 0 from (t_iv0 (by decide)).trans f1]; omega
  · rw [show pz_iv0 xs 2 2 = 0 from (t_iv0 (by decide)).trans f1]; exact (t_iv0 (by decide)).trans m1
  · intro q; rw [show pz_iv0 xs 2 2 = 0 from (t_iv0 (by decide)).trans f1] at q; exact absurd q (by decide)
  · intro q; rw [show pz_iv0 xs 2 2 = 0 from (t_iv0 (by decide)).trans f1] at q; exact absurd q (by decide)
  · intro q; rw [show pz_iv0 xs 2 2 = 0 from (t_iv0 (by decide)).trans f1] at q; exact absurd q (by decide)
  · intro q; rw [show pz_iv0 xs 2 2 = 0 from (t_iv0 (by decide)).trans f1] at q; exact absurd q (by decide)
/-- how the law ends -/
def t_end : pz_Q := fun o h' => o = .inl (some (.inl 1)) ∧ h'.2.2.2.1 ≤ 603072 ∧ h'.2.2.2.2 ≤ 7202922
theorem t_loop {L : Nat} {sc : Nat → Int} (hL : L ≤ 2560) (hsc : ∀ j, -2147483648 ≤ sc j ∧ sc j ≤ 2147483647) : ∀ (n : Nat) (i : Int) (iv : Nat → Nat → Int) (dv : Nat → Nat → UInt64) (cc ss : Nat) (u6 u7 u8 : Option pz_V), (L : Int) - i ≤ n → 0 ≤ i → i ≤ L → (cc : Int) ≤ 164 + i → (ss : Int) ≤ 4905 + 6 * i → t_I sc iv → pz_G 344 28 [some (.inr (.inl 1)), some (.inr (.inl 2)), some (.inr (.inl 154)), some (.inr (.inl 164)), some (.inr (.inl 165)), some (.inl i), u6, u7, u8] [] (pz_Sh L, iv, dv, cc, ss) t_end := by
  intro n
  induction n using Nat.strongRecOn with
  | _ n ih =>
  intro i iv dv cc ss u6 u7 u8 hn hi0 hiL hcc hss hI
  refine pz_G_of pz_b344_28 ?_
  refine w_loc rfl ?_
  refine w_loc rfl ?_
  refine w_alen (len := L) rfl rfl ?_
  refine w_pure rfl ?_
  refine w_isub (by omega) ?_
  refine w_igt (fun _ => ?_) (fun hle => ?_)
  · refine pz_G_of pz_b344_2803 ?_
    refine w_pure rfl ?_
    refine w_ret (pz_rok1 (Or.inr rfl)) ?_
    exact ⟨rfl, by show cc ≤ 603072; omega, by show ss ≤ 7202922; omega⟩
  have hi : 0 ≤ i ∧ i + 5 ≤ L ∧ L ≤ 2560 := ⟨hi0, by omega, hL⟩
  have h1 : iv 1 = sc := hI.1
  have K : ∀ iv2 dv2 x (v6 v7 v8 : Option pz_V), x ≤ 1 → t_I sc iv2 → pz_G 344 2797 [some (.inr (.inl 1)), some (.inr (.inl 2)), some (.inr (.inl 154)), some (.inr (.inl 164)), some (.inr (.inl 165)), some (.inl i), v6, v7, v8] [] (pz_Sh L, iv2, dv2, cc + x, ss + 6 * x) t_end := by
    intro iv2 dv2 x v6 v7 v8 hx hI2
    refine pz_G_of pz_b344_2797 ?_
    refine w_iinc (ls' := [some (.inr (.inl 1)), some (.inr (.inl 2)), some (.inr (.inl 154)), some (.inr (.inl 164)), some (.inr (.inl 165)), some (.inl (i + 5)), v6, v7, v8]) rfl rfl rfl (by omega) ?_
    refine w_goto ?_
    exact ih (L - (i + 5)).toNat (by omega) (i + 5) iv2 dv2 (cc + x) (ss + 6 * x) v6 v7 v8 (by omega) (by omega) (by omega) (by omega) (by omega) hI2
  refine w_loc rfl ?_
  refine w_loc rfl ?_
  refine w_sald (len := L) (v := sc i.toNat) rfl ⟨by omega, by omega⟩ (by rw [h1]) ?_
  refine w_pure rfl ?_
  refine w_iand ?_
  have r63 := t_and63 (sc i.toNat)
  by_cases hv0 : pz_and (sc i.toNat) 63 = 0
  · refine w_sw (pc := 248) (by rw [hv0]; rfl) ?_
    exact t_L0 hi h1 (t_P_addEvent hI) K
  by_cases hv1 : pz_and (sc i.toNat) 63 = 1
  · refine w_sw (pc := 292) (by rw [hv1]; rfl) ?_
    exact t_L1 hi h1 (t_P_bound hI) K
  by_cases hv2 : pz_and (sc i.toNat) 63 = 2
  · refine w_sw (pc := 384) (by rw [hv2]; rfl) ?_
    exact t_L2 hi h1 (t_P_dropBound hI) K
  by_cases hv3 : pz_and (sc i.toNat) 63 = 3
  · refine w_sw (pc := 440) (by rw [hv3]; rfl) ?_
    exact t_L3 hi h1 (t_P_addSpan hI) K
  by_cases hv4 : pz_and (sc i.toNat) 63 = 4
  · refine w_sw (pc := 532) (by rw [hv4]; rfl) ?_
    by_cases hz : sc (i + 2).toNat = 0
    · exact t_L4f hi h1 hz (t_P_observe hI (Or.inl rfl)) K
    · exact t_L4t hi h1 hz (t_P_observe hI (Or.inr rfl)) K
  by_cases hv5 : pz_and (sc i.toNat) 63 = 5
  · refine w_sw (pc := 616) (by rw [hv5]; rfl) ?_
    exact t_L5 hi h1 (t_P_choose hI) K
  by_cases hv6 : pz_and (sc i.toNat) 63 = 6
  · refine w_sw (pc := 660) (by rw [hv6]; rfl) ?_
    exact t_L6 hi h1 (t_P_labelOf hI) K
  by_cases hv7 : pz_and (sc i.toNat) 63 = 7
  · refine w_sw (pc := 716) (by rw [hv7]; rfl) ?_
    exact t_L7 hi h1 (t_P_isPossible hI) K
  by_cases hv8 : pz_and (sc i.toNat) 63 = 8
  · refine w_sw (pc := 791) (by rw [hv8]; rfl) ?_
    exact t_L8 (t_P_isConsistent hI) K
  by_cases hv9 : pz_and (sc i.toNat) 63 = 9
  · refine w_sw (pc := 804) (by rw [hv9]; rfl) ?_
    exact t_L9 hi h1 (t_P_distance hI) K
  by_cases hv10 : pz_and (sc i.toNat) 63 = 10
  · refine w_sw (pc := 872) (by rw [hv10]; rfl) ?_
    exact t_L10 hi h1 (t_P_distanceByRounds hI) K
  by_cases hv11 : pz_and (sc i.toNat) 63 = 11
  · refine w_sw (pc := 940) (by rw [hv11]; rfl) ?_
    exact t_L11 hi h1 (t_P_isDirect hI) K
  by_cases hv12 : pz_and (sc i.toNat) 63 = 12
  · refine w_sw (pc := 1015) (by rw [hv12]; rfl) ?_
    exact t_L12 hi h1 (t_P_conflictSize hI) K
  by_cases hv13 : pz_and (sc i.toNat) 63 = 13
  · refine w_sw (pc := 1059) (by rw [hv13]; rfl) ?_
    exact t_L13 hi h1 (t_P_conflictAt hI (hsc _)) K
  by_cases hv14 : pz_and (sc i.toNat) 63 = 14
  · refine w_sw (pc := 1115) (by rw [hv14]; rfl) ?_
    exact t_L14 (t_P_isWeak hI) K
  by_cases hv15 : pz_and (sc i.toNat) 63 = 15
  · refine w_sw (pc := 1128) (by rw [hv15]; rfl) ?_
    exact t_L15 (t_P_isStrong hI) K
  by_cases hv16 : pz_and (sc i.toNat) 63 = 16
  · refine w_sw (pc := 1141) (by rw [hv16]; rfl) ?_
    exact t_L16 (t_P_isSeen hI) K
  by_cases hv17 : pz_and (sc i.toNat) 63 = 17
  · refine w_sw (pc := 1154) (by rw [hv17]; rfl) ?_
    exact t_L17 (t_P_rounds hI) K
  by_cases hv18 : pz_and (sc i.toNat) 63 = 18
  · refine w_sw (pc := 1167) (by rw [hv18]; rfl) ?_
    exact t_L18 hi h1 (t_P_reduced hI) K
  by_cases hv19 : pz_and (sc i.toNat) 63 = 19
  · refine w_sw (pc := 1235) (by rw [hv19]; rfl) ?_
    exact t_L19 hi h1 (t_P_waitFor hI) K
  by_cases hv20 : pz_and (sc i.toNat) 63 = 20
  · refine w_sw (pc := 1303) (by rw [hv20]; rfl) ?_
    exact t_L20 hi h1 (t_P_play hI) K
  by_cases hv21 : pz_and (sc i.toNat) 63 = 21
  · refine w_sw (pc := 1359) (by rw [hv21]; rfl) ?_
    exact t_L21 hi h1 (t_P_failure hI) K
  by_cases hv22 : pz_and (sc i.toNat) 63 = 22
  · refine w_sw (pc := 1415) (by rw [hv22]; rfl) ?_
    exact t_L22 hi h1 (t_P_playedAt hI) K
  by_cases hv23 : pz_and (sc i.toNat) 63 = 23
  · refine w_sw (pc := 1471) (by rw [hv23]; rfl) ?_
    exact t_L23 hi h1 (t_P_isKept hI) K
  by_cases hv24 : pz_and (sc i.toNat) 63 = 24
  · refine w_sw (pc := 1522) (by rw [hv24]; rfl) ?_
    exact t_L24 hi h1 (t_P_reason hI) K
  by_cases hv25 : pz_and (sc i.toNat) 63 = 25
  · refine w_sw (pc := 1578) (by rw [hv25]; rfl) ?_
    exact t_L25 hi h1 (t_P_lowest hI) K
  by_cases hv26 : pz_and (sc i.toNat) 63 = 26
  · refine w_sw (pc := 1634) (by rw [hv26]; rfl) ?_
    exact t_L26 hi h1 (t_P_uppermost hI) K
  by_cases hv27 : pz_and (sc i.toNat) 63 = 27
  · refine w_sw (pc := 1690) (by rw [hv27]; rfl) ?_
    exact t_L27 hi h1 (t_P_start hI) K
  by_cases hv28 : pz_and (sc i.toNat) 63 = 28
  · refine w_sw (pc := 1746) (by rw [hv28]; rfl) ?_
    exact t_L28 hi h1 (t_P_end hI) K
  by_cases hv29 : pz_and (sc i.toNat) 63 = 29
  · refine w_sw (pc := 1802) (by rw [hv29]; rfl) ?_
    exact t_L29 hi h1 (t_P_pass hI) K
  by_cases hv30 : pz_and (sc i.toNat) 63 = 30
  · refine w_sw (pc := 1858) (by rw [hv30]; rfl) ?_
    exact t_L30 (t_P_now hI) K
  by_cases hv31 : pz_and (sc i.toNat) 63 = 31
  · refine w_sw (pc := 1871) (by rw [hv31]; rfl) ?_
    exact t_L31 hi h1 (t_P_startedAt hI) K
  by_cases hv32 : pz_and (sc i.toNat) 63 = 32
  · refine w_sw (pc := 1927) (by rw [hv32]; rfl) ?_
    exact t_L32 hi h1 (t_P_addActivity hI) K
  by_cases hv33 : pz_and (sc i.toNat) 63 = 33
  · refine w_sw (pc := 2007) (by rw [hv33]; rfl) ?_
    exact t_L33 hi h1 (t_P_setCapacity hI) K
  by_cases hv34 : pz_and (sc i.toNat) 63 = 34
  · refine w_sw (pc := 2063) (by rw [hv34]; rfl) ?_
    exact t_L34 hi h1 (t_P_firstTime hI) K
  by_cases hv35 : pz_and (sc i.toNat) 63 = 35
  · refine w_sw (pc := 2119) (by rw [hv35]; rfl) ?_
    exact t_L35 hi h1 (t_P_use hI) K
  by_cases hv36 : pz_and (sc i.toNat) 63 = 36
  · refine w_sw (pc := 2175) (by rw [hv36]; rfl) ?_
    exact t_L36 hi h1 (t_P_peak hI) K
  by_cases hv37 : pz_and (sc i.toNat) 63 = 37
  · refine w_sw (pc := 2219) (by rw [hv37]; rfl) ?_
    exact t_L37 hi h1 (t_P_peakSet hI) K
  by_cases hv38 : pz_and (sc i.toNat) 63 = 38
  · refine w_sw (pc := 2263) (by rw [hv38]; rfl) ?_
    exact t_L38 hi h1 (t_P_slack hI) K
  by_cases hv39 : pz_and (sc i.toNat) 63 = 39
  · refine w_sw (pc := 2331) (by rw [hv39]; rfl) ?_
    exact t_L39 hi h1 (t_P_level hI) K
  by_cases hv40 : pz_and (sc i.toNat) 63 = 40
  · refine w_sw (pc := 2375) (by rw [hv40]; rfl) ?_
    exact t_L40 hi h1 (t_P_setCost hI) K
  by_cases hv41 : pz_and (sc i.toNat) 63 = 41
  · refine w_sw (pc := 2467) (by rw [hv41]; rfl) ?_
    exact t_L41 hi h1 (t_P_costOf hI) K
  by_cases hv42 : pz_and (sc i.toNat) 63 = 42
  · refine w_sw (pc := 2535) (by rw [hv42]; rfl) ?_
    exact t_L42 hi h1 (t_P_cost hI) K
  by_cases hv43 : pz_and (sc i.toNat) 63 = 43
  · refine w_sw (pc := 2578) (by rw [hv43]; rfl) ?_
    exact t_L43 hi h1 (t_P_open hI) K
  by_cases hv44 : pz_and (sc i.toNat) 63 = 44
  · refine w_sw (pc := 2622) (by rw [hv44]; rfl) ?_
    exact t_L44 hi h1 (t_P_takeBack hI) K
  by_cases hv45 : pz_and (sc i.toNat) 63 = 45
  · refine w_sw (pc := 2666) (by rw [hv45]; rfl) ?_
    exact t_L45 hI K
  by_cases hv46 : pz_and (sc i.toNat) 63 = 46
  · refine w_sw (pc := 2732) (by rw [hv46]; rfl) ?_
    exact t_L46 hI K
  refine w_sw (pc := 2797) (by rw [if_pos (Or.inr (by omega))]; rfl) ?_
  exact K iv dv 0 u6 u7 u8 (by omega) hI
theorem pz_good_ok : pz_good 2560 603072 7202922 := by
  intro L xs hL
  have hsc : ∀ j, -2147483648 ≤ (xs j).toInt ∧ (xs j).toInt ≤ 2147483647 := fun j => pz_i32 _
  have g := pz_law0 (L := L) (xs := xs) (Q := t_end) (t_loop (sc := fun j => (xs j).toInt) hL hsc L 0 (pz_iv0 xs) (fun _ _ => 0) 164 4905 none none none (by omega) (by omega) (by omega) (by omega) (by omega) t_I0)
  obtain ⟨n, o, h, he, q1, q2, q3⟩ := g
  subst q1
  exact ⟨n, h, he, q2, q3⟩
