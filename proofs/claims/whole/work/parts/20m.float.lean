/-! shares and means: wrappers, pairs, the law's cases -/
def t_av (v : pz_V) (hh : List (Nat × Nat)) (o : Option pz_V ⊕ Nat) (c : Nat) : Prop := (o = .inl (some v) ∧ c = 0) ∨ ∃ E, o = .inr E ∧ pz_lk hh E = some c ∧ c ≠ 0
abbrev t_Vf (x : UInt32) : pz_V := .inr (.inr (.inr (.inl x)))
abbrev t_Vd (x : UInt64) : pz_V := .inr (.inr (.inr (.inr x)))
section TF
variable {m nx l a b c e : Nat} {ops : List pz_Op} {lc : pz_L} {sk : List pz_V} {Q : pz_Q}
theorem w_dast {L cc ss : Nat} {iv : Nat → Nat → Int} {dv : Nat → Nat → UInt64} {x : UInt64} (k : pz_W m nx ops lc sk (pz_Sh L, iv, pz_u2 dv 165 0 x, cc, ss) Q) : pz_W m nx ((2, .dastore, l, a, b, c, e) :: ops) lc (t_Vd x :: .inl 0 :: .inr (.inl 165) :: sk) (pz_Sh L, iv, dv, cc, ss) Q :=
  w_mem (st' := sk) (h2 := (pz_Sh L, iv, pz_u2 dv 165 0 x, cc, ss)) (by
    show (if pz_is (pz_Sh L) 165 25 = true ∧ (0 : Int) ≤ 0 ∧ (0 : Int) < ((pz_Sh L).2.2.1 165 : Int) then some (sk, ((pz_Sh L, iv, pz_u2 dv 165 (0 : Int).toNat x, cc, ss) : pz_H)) else none) = _
    rw [if_pos ⟨is_165, by decide, by rw [ln_165]; decide⟩]
    rfl) k
theorem w_dald {L cc ss : Nat} {iv : Nat → Nat → Int} {dv : Nat → Nat → UInt64} {x : UInt64} (hx : dv 165 0 = x) (k : pz_W m nx ops lc (t_Vd x :: sk) (pz_Sh L, iv, dv, cc, ss) Q) : pz_W m nx ((2, .daload, l, a, b, c, e) :: ops) lc (.inl 0 :: .inr (.inl 165) :: sk) (pz_Sh L, iv, dv, cc, ss) Q :=
  w_mem (st' := t_Vd x :: sk) (h2 := (pz_Sh L, iv, dv, cc, ss)) (by
    show (if pz_is (pz_Sh L) 165 25 = true ∧ (0 : Int) ≤ 0 ∧ (0 : Int) < ((pz_Sh L).2.2.1 165 : Int) then some ((.inr (.inr (.inr (.inr (dv 165 (0 : Int).toNat)))) : pz_V) :: sk, ((pz_Sh L, iv, dv, cc, ss) : pz_H)) else none) = _
    rw [if_pos ⟨is_165, by decide, by rw [ln_165]; decide⟩, ← hx]
    rfl) k
theorem w_dcmpe {h : pz_H} {x : UInt64} {op : CmpOp} (hx : FP.Core.dIsNaN x = false) (k : pz_W m nx ops lc (.inl 0 :: sk) h Q) : pz_W m nx ((0, .dcmp op, l, a, b, c, e) :: ops) lc (t_Vd x :: t_Vd x :: sk) h Q :=
  w_pure (st' := .inl 0 :: sk) (by
    show some ((.inl (Op.cmpValue (FP.dcmp x x) op).toInt : pz_V) :: sk) = _
    rw [t_dcmp hx]) k
end TF
theorem t_w342 {L : Nat} {iv : Nat → Nat → Int} {o : Option pz_V ⊕ Nat} {Φ : (Nat → Nat → Int) → Prop} {x : UInt32} {c : Nat} (h : pz_RE (pz_Sh L) 168 (.inr (.inl 2) :: []) iv o Φ) (ho : t_av (t_Vf x) (pz_hc 342) o c) (hx : FP.Core.fIsNaN x = false) : t_WR L 342 [.inr (.inl 2), .inr (.inl 165)] iv c (fun iv1 dv1 => Φ iv1 ∧ (c = 0 → dv1 165 0 = FP.f2d x)) := by
  intro dv cc ss
  show pz_G 342 0 [some (.inr (.inl 2)), some (.inr (.inl 165)), none] [] (pz_Sh L, iv, dv, cc, ss) _
  rcases ho with ⟨ho, hc⟩ | ⟨E, ho, hl, hc⟩ <;> subst ho
  · skip
    refine pz_G_of pz_b342_0 ?_
    refine w_loc rfl ?_
    refine w_pure rfl ?_
    refine w_loc rfl ?_
    refine w_callE h rfl (pz_cokI is_2 rfl) (fun iv0 hp => ?_)
    refine w_f2d hx ?_
    refine w_dast ?_
    refine w_goto ?_
    refine pz_G_of pz_b342_14 ?_
    refine w_pure rfl ?_
    refine w_ret rfl ?_
    subst hc
    exact ⟨_, _, 0, by omega, rfl, rfl, hp, fun _ => rfl⟩
  · skip
    refine pz_G_of pz_b342_0 ?_
    refine w_loc rfl ?_
    refine w_pure rfl ?_
    refine w_loc rfl ?_
    refine w_callhE h rfl (pz_cokI is_2 rfl) hl (fun iv0 hp => ?_)
    exact ⟨_, _, 1, by omega, rfl, rfl, hp, fun z => absurd z hc⟩
theorem t_w343 {L : Nat} {iv : Nat → Nat → Int} {o : Option pz_V ⊕ Nat} {Φ : (Nat → Nat → Int) → Prop} {x : UInt64} {c : Nat} (h : pz_RE (pz_Sh L) 169 (.inr (.inl 2) :: []) iv o Φ) (ho : t_av (t_Vd x) (pz_hc 343) o c) : t_WR L 343 [.inr (.inl 2), .inr (.inl 165)] iv c (fun iv1 dv1 => Φ iv1 ∧ (c = 0 → dv1 165 0 = x)) := by
  intro dv cc ss
  show pz_G 343 0 [some (.inr (.inl 2)), some (.inr (.inl 165)), none] [] (pz_Sh L, iv, dv, cc, ss) _
  rcases ho with ⟨ho, hc⟩ | ⟨E, ho, hl, hc⟩ <;> subst ho
  · skip
    refine pz_G_of pz_b343_0 ?_
    refine w_loc rfl ?_
    refine w_pure rfl ?_
    refine w_loc rfl ?_
    refine w_callE h rfl (pz_cokI is_2 rfl) (fun iv0 hp => ?_)
    refine w_dast ?_
    refine w_goto ?_
    refine pz_G_of pz_b343_16 ?_
    refine w_pure rfl ?_
    refine w_ret rfl ?_
    subst hc
    exact ⟨_, _, 0, by omega, rfl, rfl, hp, fun _ => rfl⟩
  · skip
    refine pz_G_of pz_b343_0 ?_
    refine w_loc rfl ?_
    refine w_pure rfl ?_
    refine w_loc rfl ?_
    refine w_callhE h rfl (pz_cokI is_2 rfl) hl (fun iv0 hp => ?_)
    exact ⟨_, _, 1, by omega, rfl, rfl, hp, fun z => absurd z hc⟩
theorem t_P_heldShare {sc : Nat → Int} {L : Nat} {iv : Nat → Nat → Int} (h : t_I sc iv) : ∃ o Φ x c, FP.Core.fIsNaN x = false ∧ pz_RE (pz_Sh L) 168 (.inr (.inl 2) :: []) iv o Φ ∧ t_av (t_Vf x) (pz_hc 342) o c ∧ ∀ iv1, Φ iv1 → ∃ iv2 y, pz_R (pz_Sh L) 301 (.inr (.inl 154) :: []) iv1 (.inl (some (t_Vf y))) iv2 ∧ (c = 0 → y = x) ∧ iv2 154 0 = (c : Int) ∧ t_I sc iv2 := by
  have hI := h
  obtain ⟨hsc, hk, ⟨hE, hB, hS, hC, hA, hO, hL, hP⟩, hci, hz, hof, ho3, hfr⟩ := h
  have h0 := hk.r0
  by_cases hcase0 : iv 155 1 = 0
  · refine ⟨_, _, t_sh 0 1, 1, t_sh_n (by decide), t_RE (s_X10_heldShare_1 (L := L) (iv := iv) hk hE hB hS hC hA hO hL hP hcase0), Or.inr ⟨5, rfl, rfl, by decide⟩, ?_⟩
    intro iv1 e9
    have e8 : iv1 = _ := e9
    have e7 := e8.symm
    subst e7
    exact ⟨_, _, s_X11_heldShare_1 (L := L) (iv := iv) hk hcase0, fun z => absurd z (by decide), rfl, t_I_keep hI (by intro r hr; repeat (first | rfl | refine t_k1 (by omega) ?_ | refine t_k2 rfl ?_)) rfl rfl hci hz⟩
  · refine ⟨_, _, t_sh (q_held (iv 155)) (iv 155 1), 0, t_sh_n (by omega), t_RE (s_X10_heldShare_0 (L := L) (iv := iv) hk hE hB hS hC hA hO hL hP hcase0), Or.inl ⟨rfl, rfl⟩, ?_⟩
    intro iv1 e9
    have e8 : iv1 = _ := e9
    have e7 := e8.symm
    subst e7
    exact ⟨_, _, s_X11_heldShare_0 (L := L) (iv := iv) hk hcase0, fun _ => rfl, rfl, t_I_keep hI (by intro r hr; repeat (first | rfl | refine t_k1 (by omega) ?_ | refine t_k2 rfl ?_)) rfl rfl hci hz⟩
theorem t_sm_r {d : Nat → Int} {n : Int} (h : 1 ≤ n) : 0 ≤ (t_sm d n).2 ∧ (t_sm d n).2 ≤ n - 1 := by
  have key := q_fr_ind (f := t_smS d) (a := 1) (n := n) (x := (0, 0)) (fun i (s : Int × Int) => 0 ≤ s.2 ∧ s.2 ≤ i - 1) h ⟨by decide, by decide⟩ (by
    intro i s i1 i2 hs
    unfold t_smS
    by_cases g : d i.toNat ≠ 1000000
    · rw [q_if_t g]
      show 0 ≤ s.2 + 1 ∧ s.2 + 1 ≤ i + 1 - 1
      omega
    · rw [q_if_f g]
      omega)
  exact key
theorem t_P_meanSlack {sc : Nat → Int} {L : Nat} {iv : Nat → Nat → Int} (h : t_I sc iv) : ∃ o Φ x c, FP.Core.dIsNaN x = false ∧ pz_RE (pz_Sh L) 169 (.inr (.inl 2) :: []) iv o Φ ∧ t_av (t_Vd x) (pz_hc 343) o c ∧ ∀ iv1, Φ iv1 → ∃ iv2 y, pz_R (pz_Sh L) 302 (.inr (.inl 154) :: []) iv1 (.inl (some (t_Vd y))) iv2 ∧ (c = 0 → y = x) ∧ iv2 154 0 = (c : Int) ∧ t_I sc iv2 := by
  have hI := h
  obtain ⟨hsc, hk, ⟨hE, hB, hS, hC, hA, hO, hL, hP⟩, hci, hz, hof, ho3, hfr⟩ := h
  have h0 := hk.r0
  by_cases hcase0 : q_con (iv 155) (fun _ => 0)
  · have con9 := (t_con hk hz).mpr hcase0
    have dd := t_dd (g := iv 157) hk hz hcase0
    have sm9 : t_sm (q_dd (iv 155) (iv 161) (iv 157)) (iv 155 0) = t_sm (q_D (iv 155)) (iv 155 0) := t_sm_c dd (by omega)
    have smr := t_sm_r (d := q_D (iv 155)) (n := iv 155 0) (by omega)
    by_cases hcase1 : (t_sm (q_D (iv 155)) (iv 155 0)).2 = 0
    · have r1 : (t_sm (q_dd (iv 155) (iv 161) (iv 157)) (iv 155 0)).2 = 0 := by rw [sm9]; exact hcase1
      refine ⟨_, _, t_me 0 1, 2, t_me_n (by decide), s_X10_meanSlack_2 (L := L) (iv := iv) hk hE hB hS hC hA hO hL hP hci hcase0 hcase1, Or.inr ⟨5, rfl, rfl, by decide⟩, ?_⟩
      intro iv1 e9
      obtain ⟨o9, l9, n9, w9, d9, e8, hci9, ho9⟩ := e9
      subst e8
      exact ⟨_, _, s_X11_meanSlack_2 (L := L) (iv := pz_u1 (pz_u1 (pz_u1 (pz_u1 (pz_u1 iv 2 o9) 134 l9) 138 n9) 139 w9) 140 d9) hk con9 r1, fun z => absurd z (by decide), rfl, t_I_keep hI (by intro r hr; repeat (first | rfl | refine t_k1 (by omega) ?_ | refine t_k2 rfl ?_)) ho9 rfl hci9 hz⟩
    · have r1 : (t_sm (q_dd (iv 155) (iv 161) (iv 157)) (iv 155 0)).2 ≠ 0 := by rw [sm9]; exact hcase1
      refine ⟨_, _, t_me (t_sm (q_D (iv 155)) (iv 155 0)).1 (t_sm (q_D (iv 155)) (iv 155 0)).2, 0, t_me_n (by omega), s_X10_meanSlack_0 (L := L) (iv := iv) hk hE hB hS hC hA hO hL hP hci hcase0 hcase1, Or.inl ⟨rfl, rfl⟩, ?_⟩
      intro iv1 e9
      obtain ⟨o9, l9, n9, w9, d9, e8, hci9, ho9⟩ := e9
      subst e8
      exact ⟨_, _, s_X11_meanSlack_0 (L := L) (iv := pz_u1 (pz_u1 (pz_u1 (pz_u1 (pz_u1 iv 2 o9) 134 l9) 138 n9) 139 w9) 140 d9) hk con9 r1, fun _ => congrArg (fun s : Int × Int => t_me s.1 s.2) sm9, rfl, t_I_keep hI (by intro r hr; repeat (first | rfl | refine t_k1 (by omega) ?_ | refine t_k2 rfl ?_)) ho9 rfl hci9 hz⟩
  · have con9 := fun q => hcase0 ((t_con hk hz).mp q)
    refine ⟨_, _, t_me 0 1, 1, t_me_n (by decide), s_X10_meanSlack_1 (L := L) (iv := iv) hk hE hB hS hC hA hO hL hP hci hcase0, Or.inr ⟨0, rfl, rfl, by decide⟩, ?_⟩
    intro iv1 e9
    obtain ⟨o9, l9, n9, w9, d9, e8, hci9, ho9⟩ := e9
    subst e8
    exact ⟨_, _, s_X11_meanSlack_1 (L := L) (iv := pz_u1 (pz_u1 (pz_u1 (pz_u1 (pz_u1 iv 2 o9) 134 l9) 138 n9) 139 w9) 140 d9) hk con9, fun z => absurd z (by decide), rfl, t_I_keep hI (by intro r hr; repeat (first | rfl | refine t_k1 (by omega) ?_ | refine t_k2 rfl ?_)) ho9 rfl hci9 hz⟩
theorem t_L45 {L cc ss : Nat} {sc : Nat → Int} {iv : Nat → Nat → Int} {dv : Nat → Nat → UInt64} {i : Int} {u6 u7 u8 : Option pz_V} {Q : pz_Q} (hI0 : t_I sc iv) (K : ∀ iv2 dv2 x (v6 v7 v8 : Option pz_V), x ≤ 1 → t_I sc iv2 → pz_G 344 2797 [some (.inr (.inl 1)), some (.inr (.inl 2)), some (.inr (.inl 154)), some (.inr (.inl 164)), some (.inr (.inl 165)), some (.inl i), v6, v7, v8] [] (pz_Sh L, iv2, dv2, cc + x, ss + 6 * x) Q) : pz_G 344 2666 [some (.inr (.inl 1)), some (.inr (.inl 2)), some (.inr (.inl 154)), some (.inr (.inl 164)), some (.inr (.inl 165)), some (.inl i), u6, u7, u8] [] (pz_Sh L, iv, dv, cc, ss) Q := by
  obtain ⟨o, Φ, x, c, hx, hr, ho, hn⟩ := t_P_heldShare (L := L) hI0
  refine pz_G_of pz_b344_2666 ?_
  refine w_loc rfl ?_
  refine w_loc rfl ?_
  refine w_callW (t_w342 hr ho hx) rfl rfl (fun iv1 dv1 z hz hp => ?_)
  obtain ⟨hp1, hp2⟩ := hp
  obtain ⟨iv2, y, hr2, e2, e3, hI⟩ := hn iv1 hp1
  refine w_loc rfl ?_
  refine w_loc rfl ?_
  refine w_call hr2 rfl (pz_cokI is_154 rfl) ?_
  refine w_loc rfl ?_
  refine w_loc rfl ?_
  refine w_call s_X11_thrown rfl (pz_cokI is_154 rfl) ?_
  refine w_loc rfl ?_
  refine w_ieq (fun _ => ?_) (fun q => absurd e3 q)
  refine pz_G_of pz_b344_2691 ?_
  refine w_loc rfl ?_
  refine w_zne (fun _ => ?_) (fun hc => ?_)
  · refine pz_G_of pz_b344_2729 ?_
    refine w_goto ?_
    exact K iv2 dv1 z _ _ _ hz hI
  · have c0 : c = 0 := by omega
    have ey := e2 c0
    subst ey
    refine w_loc rfl ?_
    refine w_pure rfl ?_
    refine w_dald (hp2 c0) ?_
    refine w_loc rfl ?_
    refine w_f2d hx ?_
    refine w_dcmpe (t_f2d_n hx) ?_
    refine w_zeq (fun _ => ?_) (fun q => absurd rfl q)
    refine pz_G_of pz_b344_2729 ?_
    refine w_goto ?_
    exact K iv2 dv1 z _ _ _ hz hI
theorem t_L46 {L cc ss : Nat} {sc : Nat → Int} {iv : Nat → Nat → Int} {dv : Nat → Nat → UInt64} {i : Int} {u6 u7 u8 : Option pz_V} {Q : pz_Q} (hI0 : t_I sc iv) (K : ∀ iv2 dv2 x (v6 v7 v8 : Option pz_V), x ≤ 1 → t_I sc iv2 → pz_G 344 2797 [some (.inr (.inl 1)), some (.inr (.inl 2)), some (.inr (.inl 154)), some (.inr (.inl 164)), some (.inr (.inl 165)), some (.inl i), v6, v7, v8] [] (pz_Sh L, iv2, dv2, cc + x, ss + 6 * x) Q) : pz_G 344 2732 [some (.inr (.inl 1)), some (.inr (.inl 2)), some (.inr (.inl 154)), some (.inr (.inl 164)), some (.inr (.inl 165)), some (.inl i), u6, u7, u8] [] (pz_Sh L, iv, dv, cc, ss) Q := by
  obtain ⟨o, Φ, x, c, hx, hr, ho, hn⟩ := t_P_meanSlack (L := L) hI0
  refine pz_G_of pz_b344_2732 ?_
  refine w_loc rfl ?_
  refine w_loc rfl ?_
  refine w_callW (t_w343 hr ho) rfl rfl (fun iv1 dv1 z hz hp => ?_)
  obtain ⟨hp1, hp2⟩ := hp
  obtain ⟨iv2, y, hr2, e2, e3, hI⟩ := hn iv1 hp1
  refine w_loc rfl ?_
  refine w_loc rfl ?_
  refine w_call hr2 rfl (pz_cokI is_154 rfl) ?_
  refine w_loc rfl ?_
  refine w_loc rfl ?_
  refine w_call s_X11_thrown rfl (pz_cokI is_154 rfl) ?_
  refine w_loc rfl ?_
  refine w_ieq (fun _ => ?_) (fun q => absurd e3 q)
  refine pz_G_of pz_b344_2757 ?_
  refine w_loc rfl ?_
  refine w_zne (fun _ => ?_) (fun hc => ?_)
  · refine pz_G_of pz_b344_2794 ?_
    refine w_goto ?_
    exact K iv2 dv1 z _ _ _ hz hI
  · have c0 : c = 0 := by omega
    have ey := e2 c0
    subst ey
    refine w_loc rfl ?_
    refine w_pure rfl ?_
    refine w_dald (hp2 c0) ?_
    refine w_loc rfl ?_
    refine w_dcmpe hx ?_
    refine w_zeq (fun _ => ?_) (fun q => absurd rfl q)
    refine pz_G_of pz_b344_2794 ?_
    refine w_goto ?_
    exact K iv2 dv1 z _ _ _ hz hI
