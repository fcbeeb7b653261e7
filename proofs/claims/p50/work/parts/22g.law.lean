/-! the law: what its body wants -/
theorem t_cell {L : Nat} {iv : Nat → Nat → Int} (i : Int) (hi : 0 ≤ i ∧ i ≤ 30) : ∃ v : Int, pz_R (pz_Sh L) 188 [.inr (.inl 1), .inl i] iv (.inl (some (.inl v))) iv := by
  by_cases h : i < (L : Int)
  · refine ⟨iv 1 i.toNat, fun dv cc ss => ?_⟩
    show pz_G 188 0 [some (.inr (.inl 1)), some (.inl i)] [] (pz_Sh L, iv, dv, cc, ss) _
    refine pz_G_of pz_b188_0 ?_
    refine w_loc rfl ?_
    refine w_loc rfl ?_
    refine w_alen rfl ln_1 ?_
    refine w_ige (fun h9 => absurd h9 (by omega)) (fun _ => ?_)
    refine w_loc rfl ?_
    refine w_loc rfl ?_
    refine w_sald ln_1 ⟨by omega, by omega⟩ rfl ?_
    refine w_goto ?_
    refine pz_G_of pz_b188_19 ?_
    refine w_ret rfl ?_
    exact lf_i rfl rfl
  · refine ⟨((40503 : Nat) : Int) * i + 73, fun dv cc ss => ?_⟩
    show pz_G 188 0 [some (.inr (.inl 1)), some (.inl i)] [] (pz_Sh L, iv, dv, cc, ss) _
    refine pz_G_of pz_b188_0 ?_
    refine w_loc rfl ?_
    refine w_loc rfl ?_
    refine w_alen rfl ln_1 ?_
    refine w_ige (fun _ => ?_) (fun h9 => absurd h9 (by omega))
    refine pz_G_of pz_b188_12 ?_
    refine w_ldc ?_
    refine w_loc rfl ?_
    refine w_imul ⟨by omega, by omega⟩ ?_
    refine w_pure rfl ?_
    refine w_iadd ⟨by omega, by omega⟩ ?_
    refine w_nil ?_
    refine pz_G_of pz_b188_19 ?_
    refine w_ret rfl ?_
    exact lf_i rfl rfl
theorem t_pick {L : Nat} {iv : Nat → Nat → Int} : ∃ v : Int, (0 ≤ v ∧ v < 5) ∧ pz_R (pz_Sh L) 189 [.inr (.inl 1), .inl 0, .inl 5] iv (.inl (some (.inl v))) iv := by
  obtain ⟨x, hx⟩ := t_cell (L := L) (iv := iv) 0 ⟨by omega, by omega⟩
  have r := f_us_r x
  refine ⟨f_us x % 5, by omega, fun dv cc ss => ?_⟩
  show pz_G 189 0 [some (.inr (.inl 1)), some (.inl 0), some (.inl 5)] [] (pz_Sh L, iv, dv, cc, ss) _
  refine pz_G_of pz_b189_0 ?_
  refine w_loc rfl ?_
  refine w_loc rfl ?_
  refine w_call hx rfl rfl ?_
  refine w_pure rfl ?_
  refine w_iushr1 ?_
  refine w_loc rfl ?_
  refine w_iremp ⟨by omega, by omega⟩ ?_
  refine w_ret rfl ?_
  exact lf_i rfl rfl
section SW
variable {m nx l a b c e : Nat} {ops : List pz_Op} {lc : pz_L} {sk : List pz_V} {h : pz_H} {Q : pz_Q}
theorem w_sw {d lo hi x : Int} {offs : Array Int} {pc : Nat} (ht : (if x < lo ∨ hi < x then some ((a : Int) + d).toNat else (offs[(x - lo).toNat]?).map (fun z => ((a : Int) + z).toNat)) = some pc) (k : pz_G m pc lc sk h Q) : pz_W m nx ((12, .tableswitch d lo hi offs, l, a, b, c, e) :: ops) lc (.inl x :: sk) h Q := by
  obtain ⟨n, o, h2, he, q⟩ := k
  refine ⟨n, o, h2, ?_, q⟩
  simp only [pz_ex]
  by_cases hx : x < lo ∨ hi < x
  · rw [if_pos hx] at ht ⊢
    have e9 := Option.some.inj ht
    rw [e9]
    exact he
  · rw [if_neg hx] at ht ⊢
    cases hz : offs[(x - lo).toNat]? with
    | none => rw [hz] at ht; cases ht
    | some z =>
      rw [hz] at ht
      have e9 : ((a : Int) + z).toNat = pc := Option.some.inj ht
      dsimp only
      rw [e9]
      exact he
end SW
/-! the law's own row goes with the plan's -/
theorem t_d_up1 {k k2 d : Nat → Int} {v : Int} (hk : q_KR k) (hd : t_d k d) (e : ∀ j : Nat, (j = 0 ∨ j = 2 ∨ j = 3 ∨ (212 ≤ j ∧ j < 224)) → k2 j = k j) (h1 : k2 1 = v) : t_d k2 (pz_up d (1 : Int).toNat v) := by
  have h0 := hk.r0
  have e2 := e 2 (by omega)
  refine ⟨(pz_up_ne (by decide)).trans (hd.1.trans (e 0 (by omega)).symm), (pz_up_eq' rfl).trans h1.symm, (pz_up_ne (by decide)).trans (hd.2.2.1.trans e2.symm), (pz_up_ne (by decide)).trans (hd.2.2.2.1.trans (e 3 (by omega)).symm), fun s s1 s2 => ?_⟩
  rw [e2] at s2
  have z : (1 : Int).toNat = 1 := rfl
  rw [e (212 + 4 * s).toNat (by omega), e (212 + 4 * s + 1).toNat (by omega), e (212 + 4 * s + 2).toNat (by omega), e (212 + 4 * s + 3).toNat (by omega), z, pz_up_ne (show (170 + 4 * s).toNat ≠ 1 by omega), pz_up_ne (show (171 + 4 * s).toNat ≠ 1 by omega), pz_up_ne (show (172 + 4 * s).toNat ≠ 1 by omega), pz_up_ne (show (173 + 4 * s).toNat ≠ 1 by omega)]
  exact hd.2.2.2.2 s s1 s2
theorem t_d_up3 {k k2 d : Nat → Int} {v : Int} (hk : q_KR k) (hd : t_d k d) (e : ∀ j : Nat, (j = 0 ∨ j = 1 ∨ j = 2 ∨ (212 ≤ j ∧ j < 224)) → k2 j = k j) (h1 : k2 3 = v) : t_d k2 (pz_up d (3 : Int).toNat v) := by
  have h0 := hk.r0
  have e2 := e 2 (by omega)
  refine ⟨(pz_up_ne (by decide)).trans (hd.1.trans (e 0 (by omega)).symm), (pz_up_ne (by decide)).trans (hd.2.1.trans (e 1 (by omega)).symm), (pz_up_ne (by decide)).trans (hd.2.2.1.trans e2.symm), (pz_up_eq' rfl).trans h1.symm, fun s s1 s2 => ?_⟩
  rw [e2] at s2
  have z : (3 : Int).toNat = 3 := rfl
  rw [e (212 + 4 * s).toNat (by omega), e (212 + 4 * s + 1).toNat (by omega), e (212 + 4 * s + 2).toNat (by omega), e (212 + 4 * s + 3).toNat (by omega), z, pz_up_ne (show (170 + 4 * s).toNat ≠ 3 by omega), pz_up_ne (show (171 + 4 * s).toNat ≠ 3 by omega), pz_up_ne (show (172 + 4 * s).toNat ≠ 3 by omega), pz_up_ne (show (173 + 4 * s).toNat ≠ 3 by omega)]
  exact hd.2.2.2.2 s s1 s2
theorem t_d_up0 {k k2 d : Nat → Int} {v : Int} (hk : q_KR k) (hd : t_d k d) (e : ∀ j : Nat, (j = 1 ∨ j = 2 ∨ j = 3 ∨ (212 ≤ j ∧ j < 224)) → k2 j = k j) (h1 : k2 0 = v) : t_d k2 (pz_up d (0 : Int).toNat v) := by
  have h0 := hk.r0
  have e2 := e 2 (by omega)
  refine ⟨(pz_up_eq' rfl).trans h1.symm, (pz_up_ne (by decide)).trans (hd.2.1.trans (e 1 (by omega)).symm), (pz_up_ne (by decide)).trans (hd.2.2.1.trans e2.symm), (pz_up_ne (by decide)).trans (hd.2.2.2.1.trans (e 3 (by omega)).symm), fun s s1 s2 => ?_⟩
  rw [e2] at s2
  have z : (0 : Int).toNat = 0 := rfl
  rw [e (212 + 4 * s).toNat (by omega), e (212 + 4 * s + 1).toNat (by omega), e (212 + 4 * s + 2).toNat (by omega), e (212 + 4 * s + 3).toNat (by omega), z, pz_up_ne (show (170 + 4 * s).toNat ≠ 0 by omega), pz_up_ne (show (171 + 4 * s).toNat ≠ 0 by omega), pz_up_ne (show (172 + 4 * s).toNat ≠ 0 by omega), pz_up_ne (show (173 + 4 * s).toNat ≠ 0 by omega)]
  exact hd.2.2.2.2 s s1 s2
theorem t_d_span {k d : Nat → Int} {f t l g : Int} (hk : q_KR k) (hd : t_d k d) (h2 : k 2 ≤ 2) : t_d (q_addsp k f t l g) (pz_up (pz_up (pz_up (pz_up (pz_up d (170 + 4 * k 2).toNat f) (171 + 4 * k 2).toNat t) (172 + 4 * k 2).toNat l) (173 + 4 * k 2).toNat g) (2 : Int).toNat (k 2 + 1)) := by
  have h0 := hk.r0
  have ne : ∀ j : Nat, j ≠ 2 ∧ ¬ (212 ≤ j ∧ j < 224) → q_addsp k f t l g j = k j := fun j hj => t_addsp_ne (by omega) hj
  have e2 : q_addsp k f t l g 2 = k 2 + 1 := pz_up_eq
  have z : (2 : Int).toNat = 2 := rfl
  have dn : ∀ j : Nat, j < 170 → j ≠ 2 → pz_up (pz_up (pz_up (pz_up (pz_up d (170 + 4 * k 2).toNat f) (171 + 4 * k 2).toNat t) (172 + 4 * k 2).toNat l) (173 + 4 * k 2).toNat g) (2 : Int).toNat (k 2 + 1) j = d j := fun j h1 h3 => by
    rw [z, pz_up_ne h3, pz_up_ne (by omega), pz_up_ne (by omega), pz_up_ne (by omega), pz_up_ne (by omega)]
  refine ⟨(dn 0 (by omega) (by omega)).trans (hd.1.trans (ne 0 (by omega)).symm), (dn 1 (by omega) (by omega)).trans (hd.2.1.trans (ne 1 (by omega)).symm), (pz_up_eq' rfl).trans e2.symm, (dn 3 (by omega) (by omega)).trans (hd.2.2.2.1.trans (ne 3 (by omega)).symm), fun s s1 s2 => ?_⟩
  rw [e2] at s2
  unfold q_addsp
  rw [z]
  by_cases c : s = k 2
  · subst c
    refine ⟨?_, ?_, ?_, ?_⟩
    · rw [pz_up_ne (by omega), pz_up_ne (by omega), pz_up_ne (by omega), pz_up_ne (by omega), pz_up_eq, pz_up_ne (by omega), pz_up_ne (by omega), pz_up_ne (by omega), pz_up_ne (by omega), pz_up_eq]
    · rw [pz_up_ne (by omega), pz_up_ne (by omega), pz_up_ne (by omega), pz_up_eq, pz_up_ne (by omega), pz_up_ne (by omega), pz_up_ne (by omega), pz_up_eq]
    · rw [pz_up_ne (by omega), pz_up_ne (by omega), pz_up_eq, pz_up_ne (by omega), pz_up_ne (by omega), pz_up_eq]
    · rw [pz_up_ne (by omega), pz_up_eq, pz_up_ne (by omega), pz_up_eq]
  · have q := hd.2.2.2.2 s s1 (by omega)
    refine ⟨?_, ?_, ?_, ?_⟩
    · rw [pz_up_ne (by omega), pz_up_ne (by omega), pz_up_ne (by omega), pz_up_ne (by omega), pz_up_ne (by omega), pz_up_ne (by omega), pz_up_ne (by omega), pz_up_ne (by omega), pz_up_ne (by omega), pz_up_ne (by omega)]
      exact q.1
    · rw [pz_up_ne (by omega), pz_up_ne (by omega), pz_up_ne (by omega), pz_up_ne (by omega), pz_up_ne (by omega), pz_up_ne (by omega), pz_up_ne (by omega), pz_up_ne (by omega), pz_up_ne (by omega), pz_up_ne (by omega)]
      exact q.2.1
    · rw [pz_up_ne (by omega), pz_up_ne (by omega), pz_up_ne (by omega), pz_up_ne (by omega), pz_up_ne (by omega), pz_up_ne (by omega), pz_up_ne (by omega), pz_up_ne (by omega), pz_up_ne (by omega), pz_up_ne (by omega)]
      exact q.2.2.1
    · rw [pz_up_ne (by omega), pz_up_ne (by omega), pz_up_ne (by omega), pz_up_ne (by omega), pz_up_ne (by omega), pz_up_ne (by omega), pz_up_ne (by omega), pz_up_ne (by omega), pz_up_ne (by omega), pz_up_ne (by omega)]
      exact q.2.2.2
