/-! the law's wrappers: a number told, or what was thrown -/
theorem t_u2 (iv : Nat → Nat → Int) (r k : Nat) (v : Int) : pz_u2 iv r k v = pz_u1 iv r (pz_up (iv r) k v) := by
  funext r2 k2
  unfold pz_u2 pz_u1 pz_up
  by_cases h : r2 = r
  · rw [if_pos h]
    by_cases g : k2 = k
    · rw [if_pos ⟨h, g⟩, if_pos g]
    · rw [if_neg (fun q => g q.2), if_neg g, h]
  · rw [if_neg h, if_neg (fun q => h q.1)]
theorem t_w303 {L : Nat} {iv : Nat → Nat → Int} {o : Option pz_V ⊕ Nat} {Φ : (Nat → Nat → Int) → Prop} {b : Int} {c : Nat} (h : pz_RE (pz_Sh L) 123 (.inr (.inl 2) :: []) iv o Φ) (ho : t_an t_Vi (pz_hc 303) o b c) : t_WR L 303 [.inr (.inl 2), .inr (.inl 164)] iv c (t_wo Φ b c) := by
  intro dv cc ss
  show pz_G 303 0 [some (.inr (.inl 2)), some (.inr (.inl 164)), none] [] (pz_Sh L, iv, dv, cc, ss) (t_WP L c (t_wo Φ b c) cc ss)
  rcases ho with ⟨ho, hc⟩ | ⟨E, ho, hl, hc⟩ <;> subst ho
  · skip
    refine pz_G_of pz_b303_0 ?_
    refine w_loc rfl ?_
    refine w_pure rfl ?_
    refine w_loc rfl ?_
    refine w_callE h rfl (pz_cokI is_2 rfl) (fun iv0 hp => ?_)
    refine w_pure rfl ?_
    refine w_lastm (iv2 := pz_u1 iv0 164 (pz_up (iv0 164) 0 b)) is_164 ln_164 ⟨by decide, by decide⟩ (t_u2 _ _ _ _) ?_
    refine w_goto ?_
    refine pz_G_of pz_b303_14 ?_
    refine w_pure rfl ?_
    refine w_ret rfl ?_
    subst hc
    exact ⟨_, _, 0, by omega, rfl, rfl, iv0, hp, _, rfl, fun _ => pz_up_eq⟩
  · skip
    refine pz_G_of pz_b303_0 ?_
    refine w_loc rfl ?_
    refine w_pure rfl ?_
    refine w_loc rfl ?_
    refine w_callhE h rfl (pz_cokI is_2 rfl) hl (fun iv0 hp => ?_)
    exact ⟨_, _, 1, by omega, rfl, rfl, iv0, hp, iv0 164, (pz_u1_self iv0 164).symm, fun z => absurd z hc⟩
theorem t_w304 {L : Nat} {iv : Nat → Nat → Int} {a1 : Int} {a2 : Int} {a3 : Int} {a4 : Int} {o : Option pz_V ⊕ Nat} {Φ : (Nat → Nat → Int) → Prop} {b : Int} {c : Nat} (h : pz_RE (pz_Sh L) 124 (.inr (.inl 2) :: [.inl a1, .inl a2, .inl a3, .inl a4]) iv o Φ) (ho : t_an t_Vi (pz_hc 304) o b c) : t_WR L 304 [.inr (.inl 2), .inl a1, .inl a2, .inl a3, .inl a4, .inr (.inl 164)] iv c (t_wo Φ b c) := by
  intro dv cc ss
  show pz_G 304 0 [some (.inr (.inl 2)), some (.inl a1), some (.inl a2), some (.inl a3), some (.inl a4), some (.inr (.inl 164)), none] [] (pz_Sh L, iv, dv, cc, ss) (t_WP L c (t_wo Φ b c) cc ss)
  rcases ho with ⟨ho, hc⟩ | ⟨E, ho, hl, hc⟩ <;> subst ho
  · skip
    refine pz_G_of pz_b304_0 ?_
    refine w_loc rfl ?_
    refine w_pure rfl ?_
    refine w_loc rfl ?_
    refine w_loc rfl ?_
    refine w_loc rfl ?_
    refine w_loc rfl ?_
    refine w_loc rfl ?_
    refine w_callE h rfl (pz_cokI is_2 rfl) (fun iv0 hp => ?_)
    refine w_pure rfl ?_
    refine w_lastm (iv2 := pz_u1 iv0 164 (pz_up (iv0 164) 0 b)) is_164 ln_164 ⟨by decide, by decide⟩ (t_u2 _ _ _ _) ?_
    refine w_goto ?_
    refine pz_G_of pz_b304_29 ?_
    refine w_pure rfl ?_
    refine w_ret rfl ?_
    subst hc
    exact ⟨_, _, 0, by omega, rfl, rfl, iv0, hp, _, rfl, fun _ => pz_up_eq⟩
  · skip
    refine pz_G_of pz_b304_0 ?_
    refine w_loc rfl ?_
    refine w_pure rfl ?_
    refine w_loc rfl ?_
    refine w_loc rfl ?_
    refine w_loc rfl ?_
    refine w_loc rfl ?_
    refine w_loc rfl ?_
    refine w_callhE h rfl (pz_cokI is_2 rfl) hl (fun iv0 hp => ?_)
    exact ⟨_, _, 1, by omega, rfl, rfl, iv0, hp, iv0 164, (pz_u1_self iv0 164).symm, fun z => absurd z hc⟩
theorem t_w305 {L : Nat} {iv : Nat → Nat → Int} {a1 : Int} {o : Option pz_V ⊕ Nat} {Φ : (Nat → Nat → Int) → Prop} {b : Int} {c : Nat} (h : pz_RE (pz_Sh L) 125 (.inr (.inl 2) :: [.inl a1]) iv o Φ) (ho : t_an t_Vi (pz_hc 305) o b c) : t_WR L 305 [.inr (.inl 2), .inl a1, .inr (.inl 164)] iv c (t_wo Φ b c) := by
  intro dv cc ss
  show pz_G 305 0 [some (.inr (.inl 2)), some (.inl a1), some (.inr (.inl 164)), none] [] (pz_Sh L, iv, dv, cc, ss) (t_WP L c (t_wo Φ b c) cc ss)
  rcases ho with ⟨ho, hc⟩ | ⟨E, ho, hl, hc⟩ <;> subst ho
  · skip
    refine pz_G_of pz_b305_0 ?_
    refine w_loc rfl ?_
    refine w_pure rfl ?_
    refine w_loc rfl ?_
    refine w_loc rfl ?_
    refine w_callE h rfl (pz_cokI is_2 rfl) (fun iv0 hp => ?_)
    refine w_pure rfl ?_
    refine w_lastm (iv2 := pz_u1 iv0 164 (pz_up (iv0 164) 0 b)) is_164 ln_164 ⟨by decide, by decide⟩ (t_u2 _ _ _ _) ?_
    refine w_goto ?_
    refine pz_G_of pz_b305_18 ?_
    refine w_pure rfl ?_
    refine w_ret rfl ?_
    subst hc
    exact ⟨_, _, 0, by omega, rfl, rfl, iv0, hp, _, rfl, fun _ => pz_up_eq⟩
  · skip
    refine pz_G_of pz_b305_0 ?_
    refine w_loc rfl ?_
    refine w_pure rfl ?_
    refine w_loc rfl ?_
    refine w_loc rfl ?_
    refine w_callhE h rfl (pz_cokI is_2 rfl) hl (fun iv0 hp => ?_)
    exact ⟨_, _, 1, by omega, rfl, rfl, iv0, hp, iv0 164, (pz_u1_self iv0 164).symm, fun z => absurd z hc⟩
theorem t_w306 {L : Nat} {iv : Nat → Nat → Int} {a1 : Int} {a2 : Int} {a3 : Int} {a4 : Int} {o : Option pz_V ⊕ Nat} {Φ : (Nat → Nat → Int) → Prop} {b : Int} {c : Nat} (h : pz_RE (pz_Sh L) 126 (.inr (.inl 2) :: [.inl a1, .inl a2, .inl a3, .inl a4]) iv o Φ) (ho : t_an t_Vi (pz_hc 306) o b c) : t_WR L 306 [.inr (.inl 2), .inl a1, .inl a2, .inl a3, .inl a4, .inr (.inl 164)] iv c (t_wo Φ b c) := by
  intro dv cc ss
  show pz_G 306 0 [some (.inr (.inl 2)), some (.inl a1), some (.inl a2), some (.inl a3), some (.inl a4), some (.inr (.inl 164)), none] [] (pz_Sh L, iv, dv, cc, ss) (t_WP L c (t_wo Φ b c) cc ss)
  rcases ho with ⟨ho, hc⟩ | ⟨E, ho, hl, hc⟩ <;> subst ho
  · skip
    refine pz_G_of pz_b306_0 ?_
    refine w_loc rfl ?_
    refine w_pure rfl ?_
    refine w_loc rfl ?_
    refine w_loc rfl ?_
    refine w_loc rfl ?_
    refine w_loc rfl ?_
    refine w_loc rfl ?_
    refine w_callE h rfl (pz_cokI is_2 rfl) (fun iv0 hp => ?_)
    refine w_pure rfl ?_
    refine w_lastm (iv2 := pz_u1 iv0 164 (pz_up (iv0 164) 0 b)) is_164 ln_164 ⟨by decide, by decide⟩ (t_u2 _ _ _ _) ?_
    refine w_goto ?_
    refine pz_G_of pz_b306_29 ?_
    refine w_pure rfl ?_
    refine w_ret rfl ?_
    subst hc
    exact ⟨_, _, 0, by omega, rfl, rfl, iv0, hp, _, rfl, fun _ => pz_up_eq⟩
  · skip
    refine pz_G_of pz_b306_0 ?_
    refine w_loc rfl ?_
    refine w_pure rfl ?_
    refine w_loc rfl ?_
    refine w_loc rfl ?_
    refine w_loc rfl ?_
    refine w_loc rfl ?_
    refine w_loc rfl ?_
    refine w_callhE h rfl (pz_cokI is_2 rfl) hl (fun iv0 hp => ?_)
    exact ⟨_, _, 1, by omega, rfl, rfl, iv0, hp, iv0 164, (pz_u1_self iv0 164).symm, fun z => absurd z hc⟩
theorem t_w307 {L : Nat} {iv : Nat → Nat → Int} {a1 : Int} {a2 : Int} {o : Option pz_V ⊕ Nat} {Φ : (Nat → Nat → Int) → Prop} {b : Int} {c : Nat} (h : pz_RE (pz_Sh L) 127 (.inr (.inl 2) :: [.inl a1, .inl a2]) iv o Φ) (ho : t_an t_Vi (pz_hc 307) o b c) : t_WR L 307 [.inr (.inl 2), .inl a1, .inl a2, .inr (.inl 164)] iv c (t_wo Φ b c) := by
  intro dv cc ss
  show pz_G 307 0 [some (.inr (.inl 2)), some (.inl a1), some (.inl a2), some (.inr (.inl 164)), none] [] (pz_Sh L, iv, dv, cc, ss) (t_WP L c (t_wo Φ b c) cc ss)
  rcases ho with ⟨ho, hc⟩ | ⟨E, ho, hl, hc⟩ <;> subst ho
  · skip
    refine pz_G_of pz_b307_0 ?_
    refine w_loc rfl ?_
    refine w_pure rfl ?_
    refine w_loc rfl ?_
    refine w_loc rfl ?_
    refine w_loc rfl ?_
    refine w_callE h rfl (pz_cokI is_2 rfl) (fun iv0 hp => ?_)
    refine w_pure rfl ?_
    refine w_lastm (iv2 := pz_u1 iv0 164 (pz_up (iv0 164) 0 b)) is_164 ln_164 ⟨by decide, by decide⟩ (t_u2 _ _ _ _) ?_
    refine w_goto ?_
    refine pz_G_of pz_b307_21 ?_
    refine w_pure rfl ?_
    refine w_ret rfl ?_
    subst hc
    exact ⟨_, _, 0, by omega, rfl, rfl, iv0, hp, _, rfl, fun _ => pz_up_eq⟩
  · skip
    refine pz_G_of pz_b307_0 ?_
    refine w_loc rfl ?_
    refine w_pure rfl ?_
    refine w_loc rfl ?_
    refine w_loc rfl ?_
    refine w_loc rfl ?_
    refine w_callhE h rfl (pz_cokI is_2 rfl) hl (fun iv0 hp => ?_)
    exact ⟨_, _, 1, by omega, rfl, rfl, iv0, hp, iv0 164, (pz_u1_self iv0 164).symm, fun z => absurd z hc⟩
theorem t_w308 {L : Nat} {iv : Nat → Nat → Int} {o : Option pz_V ⊕ Nat} {Φ : (Nat → Nat → Int) → Prop} {b : Int} {c : Nat} (h : pz_RE (pz_Sh L) 128 (.inr (.inl 2) :: []) iv o Φ) (ho : t_an t_Vi (pz_hc 308) o b c) : t_WR L 308 [.inr (.inl 2), .inr (.inl 164)] iv c (t_wo Φ b c) := by
  intro dv cc ss
  show pz_G 308 0 [some (.inr (.inl 2)), some (.inr (.inl 164)), none] [] (pz_Sh L, iv, dv, cc, ss) (t_WP L c (t_wo Φ b c) cc ss)
  rcases ho with ⟨ho, hc⟩ | ⟨E, ho, hl, hc⟩ <;> subst ho
  · skip
    refine pz_G_of pz_b308_0 ?_
    refine w_loc rfl ?_
    refine w_pure rfl ?_
    refine w_loc rfl ?_
    refine w_callE h rfl (pz_cokI is_2 rfl) (fun iv0 hp => ?_)
    refine w_pure rfl ?_
    refine w_lastm (iv2 := pz_u1 iv0 164 (pz_up (iv0 164) 0 b)) is_164 ln_164 ⟨by decide, by decide⟩ (t_u2 _ _ _ _) ?_
    refine w_goto ?_
    refine pz_G_of pz_b308_14 ?_
    refine w_pure rfl ?_
    refine w_ret rfl ?_
    subst hc
    exact ⟨_, _, 0, by omega, rfl, rfl, iv0, hp, _, rfl, fun _ => pz_up_eq⟩
  · skip
    refine pz_G_of pz_b308_0 ?_
    refine w_loc rfl ?_
    refine w_pure rfl ?_
    refine w_loc rfl ?_
    refine w_callhE h rfl (pz_cokI is_2 rfl) hl (fun iv0 hp => ?_)
    exact ⟨_, _, 1, by omega, rfl, rfl, iv0, hp, iv0 164, (pz_u1_self iv0 164).symm, fun z => absurd z hc⟩
theorem t_w309 {L : Nat} {iv : Nat → Nat → Int} {a1 : Int} {o : Option pz_V ⊕ Nat} {Φ : (Nat → Nat → Int) → Prop} {b : Int} {c : Nat} (h : pz_RE (pz_Sh L) 129 (.inr (.inl 2) :: [.inl a1]) iv o Φ) (ho : t_an t_Vi (pz_hc 309) o b c) : t_WR L 309 [.inr (.inl 2), .inl a1, .inr (.inl 164)] iv c (t_wo Φ b c) := by
  intro dv cc ss
  show pz_G 309 0 [some (.inr (.inl 2)), some (.inl a1), some (.inr (.inl 164)), none] [] (pz_Sh L, iv, dv, cc, ss) (t_WP L c (t_wo Φ b c) cc ss)
  rcases ho with ⟨ho, hc⟩ | ⟨E, ho, hl, hc⟩ <;> subst ho
  · skip
    refine pz_G_of pz_b309_0 ?_
    refine w_loc rfl ?_
    refine w_pure rfl ?_
    refine w_loc rfl ?_
    refine w_loc rfl ?_
    refine w_callE h rfl (pz_cokI is_2 rfl) (fun iv0 hp => ?_)
    refine w_pure rfl ?_
    refine w_lastm (iv2 := pz_u1 iv0 164 (pz_up (iv0 164) 0 b)) is_164 ln_164 ⟨by decide, by decide⟩ (t_u2 _ _ _ _) ?_
    refine w_goto ?_
    refine pz_G_of pz_b309_15 ?_
    refine w_pure rfl ?_
    refine w_ret rfl ?_
    subst hc
    exact ⟨_, _, 0, by omega, rfl, rfl, iv0, hp, _, rfl, fun _ => pz_up_eq⟩
  · skip
    refine pz_G_of pz_b309_0 ?_
    refine w_loc rfl ?_
    refine w_pure rfl ?_
    refine w_loc rfl ?_
    refine w_loc rfl ?_
    refine w_callhE h rfl (pz_cokI is_2 rfl) hl (fun iv0 hp => ?_)
    exact ⟨_, _, 1, by omega, rfl, rfl, iv0, hp, iv0 164, (pz_u1_self iv0 164).symm, fun z => absurd z hc⟩
theorem t_w310 {L : Nat} {iv : Nat → Nat → Int} {a1 : Int} {a2 : Int} {o : Option pz_V ⊕ Nat} {Φ : (Nat → Nat → Int) → Prop} {b : Int} {c : Nat} (h : pz_RE (pz_Sh L) 130 (.inr (.inl 2) :: [.inl a1, .inl a2]) iv o Φ) (ho : t_an t_Vi (pz_hc 310) o b c) (hb : b = 0 ∨ b = 1) : t_WR L 310 [.inr (.inl 2), .inl a1, .inl a2, .inr (.inl 164)] iv c (t_wo Φ b c) := by
  intro dv cc ss
  show pz_G 310 0 [some (.inr (.inl 2)), some (.inl a1), some (.inl a2), some (.inr (.inl 164)), none] [] (pz_Sh L, iv, dv, cc, ss) (t_WP L c (t_wo Φ b c) cc ss)
  rcases ho with ⟨ho, hc⟩ | ⟨E, ho, hl, hc⟩ <;> subst ho
  · skip
    refine pz_G_of pz_b310_0 ?_
    refine w_loc rfl ?_
    refine w_pure rfl ?_
    refine w_loc rfl ?_
    refine w_loc rfl ?_
    refine w_loc rfl ?_
    refine w_callE h rfl (pz_cokI is_2 rfl) (fun iv0 hp => ?_)
    rcases hb with hb | hb
    · refine w_zeq (fun _ => ?_) (fun q => absurd hb q)
      refine pz_G_of pz_b310_15 ?_
      refine w_pure (st' := [.inr (.inr (.inl b)), .inl 0, .inr (.inl 164)]) (by rw [hb]; rfl) ?_
      refine w_nil ?_
      refine pz_G_of pz_b310_16 ?_
      refine w_lastm (iv2 := pz_u1 iv0 164 (pz_up (iv0 164) 0 b)) is_164 ln_164 ⟨by decide, by decide⟩ (t_u2 _ _ _ _) ?_
      refine w_goto ?_
      refine pz_G_of pz_b310_24 ?_
      refine w_pure rfl ?_
      refine w_ret rfl ?_
      subst hc
      exact ⟨_, _, 0, by omega, rfl, rfl, iv0, hp, _, rfl, fun _ => pz_up_eq⟩
    · refine w_zeq (fun q => absurd q (by omega)) (fun _ => ?_)
      refine w_pure (st' := [.inr (.inr (.inl b)), .inl 0, .inr (.inl 164)]) (by rw [hb]; rfl) ?_
      refine w_goto ?_
      refine pz_G_of pz_b310_16 ?_
      refine w_lastm (iv2 := pz_u1 iv0 164 (pz_up (iv0 164) 0 b)) is_164 ln_164 ⟨by decide, by decide⟩ (t_u2 _ _ _ _) ?_
      refine w_goto ?_
      refine pz_G_of pz_b310_24 ?_
      refine w_pure rfl ?_
      refine w_ret rfl ?_
      subst hc
      exact ⟨_, _, 0, by omega, rfl, rfl, iv0, hp, _, rfl, fun _ => pz_up_eq⟩
  · skip
    refine pz_G_of pz_b310_0 ?_
    refine w_loc rfl ?_
    refine w_pure rfl ?_
    refine w_loc rfl ?_
    refine w_loc rfl ?_
    refine w_loc rfl ?_
    refine w_callhE h rfl (pz_cokI is_2 rfl) hl (fun iv0 hp => ?_)
    exact ⟨_, _, 1, by omega, rfl, rfl, iv0, hp, iv0 164, (pz_u1_self iv0 164).symm, fun z => absurd z hc⟩
theorem t_w311 {L : Nat} {iv : Nat → Nat → Int} {a1 : Int} {a2 : Int} {o : Option pz_V ⊕ Nat} {Φ : (Nat → Nat → Int) → Prop} {b : Int} {c : Nat} (h : pz_RE (pz_Sh L) 132 (.inr (.inl 2) :: [.inl a1, .inl a2]) iv o Φ) (ho : t_an t_Vi (pz_hc 311) o b c) : t_WR L 311 [.inr (.inl 2), .inl a1, .inl a2, .inr (.inl 164)] iv c (t_wo Φ b c) := by
  intro dv cc ss
  show pz_G 311 0 [some (.inr (.inl 2)), some (.inl a1), some (.inl a2), some (.inr (.inl 164)), none] [] (pz_Sh L, iv, dv, cc, ss) (t_WP L c (t_wo Φ b c) cc ss)
  rcases ho with ⟨ho, hc⟩ | ⟨E, ho, hl, hc⟩ <;> subst ho
  · skip
    refine pz_G_of pz_b311_0 ?_
    refine w_loc rfl ?_
    refine w_pure rfl ?_
    refine w_loc rfl ?_
    refine w_loc rfl ?_
    refine w_loc rfl ?_
    refine w_callE h rfl (pz_cokI is_2 rfl) (fun iv0 hp => ?_)
    refine w_pure rfl ?_
    refine w_lastm (iv2 := pz_u1 iv0 164 (pz_up (iv0 164) 0 b)) is_164 ln_164 ⟨by decide, by decide⟩ (t_u2 _ _ _ _) ?_
    refine w_goto ?_
    refine pz_G_of pz_b311_25 ?_
    refine w_pure rfl ?_
    refine w_ret rfl ?_
    subst hc
    exact ⟨_, _, 0, by omega, rfl, rfl, iv0, hp, _, rfl, fun _ => pz_up_eq⟩
  · skip
    refine pz_G_of pz_b311_0 ?_
    refine w_loc rfl ?_
    refine w_pure rfl ?_
    refine w_loc rfl ?_
    refine w_loc rfl ?_
    refine w_loc rfl ?_
    refine w_callhE h rfl (pz_cokI is_2 rfl) hl (fun iv0 hp => ?_)
    exact ⟨_, _, 1, by omega, rfl, rfl, iv0, hp, iv0 164, (pz_u1_self iv0 164).symm, fun z => absurd z hc⟩
theorem t_w312 {L : Nat} {iv : Nat → Nat → Int} {a1 : Int} {a2 : Int} {o : Option pz_V ⊕ Nat} {Φ : (Nat → Nat → Int) → Prop} {b : Int} {c : Nat} (h : pz_RE (pz_Sh L) 133 (.inr (.inl 2) :: [.inl a1, .inl a2]) iv o Φ) (ho : t_an t_Vi (pz_hc 312) o b c) : t_WR L 312 [.inr (.inl 2), .inl a1, .inl a2, .inr (.inl 164)] iv c (t_wo Φ b c) := by
  intro dv cc ss
  show pz_G 312 0 [some (.inr (.inl 2)), some (.inl a1), some (.inl a2), some (.inr (.inl 164)), none] [] (pz_Sh L, iv, dv, cc, ss) (t_WP L c (t_wo Φ b c) cc ss)
  rcases ho with ⟨ho, hc⟩ | ⟨E, ho, hl, hc⟩ <;> subst ho
  · skip
    refine pz_G_of pz_b312_0 ?_
    refine w_loc rfl ?_
    refine w_pure rfl ?_
    refine w_loc rfl ?_
    refine w_loc rfl ?_
    refine w_loc rfl ?_
    refine w_callE h rfl (pz_cokI is_2 rfl) (fun iv0 hp => ?_)
    refine w_pure rfl ?_
    refine w_lastm (iv2 := pz_u1 iv0 164 (pz_up (iv0 164) 0 b)) is_164 ln_164 ⟨by decide, by decide⟩ (t_u2 _ _ _ _) ?_
    refine w_goto ?_
    refine pz_G_of pz_b312_25 ?_
    refine w_pure rfl ?_
    refine w_ret rfl ?_
    subst hc
    exact ⟨_, _, 0, by omega, rfl, rfl, iv0, hp, _, rfl, fun _ => pz_up_eq⟩
  · skip
    refine pz_G_of pz_b312_0 ?_
    refine w_loc rfl ?_
    refine w_pure rfl ?_
    refine w_loc rfl ?_
    refine w_loc rfl ?_
    refine w_loc rfl ?_
    refine w_callhE h rfl (pz_cokI is_2 rfl) hl (fun iv0 hp => ?_)
    exact ⟨_, _, 1, by omega, rfl, rfl, iv0, hp, iv0 164, (pz_u1_self iv0 164).symm, fun z => absurd z hc⟩
theorem t_w313 {L : Nat} {iv : Nat → Nat → Int} {a1 : Int} {a2 : Int} {o : Option pz_V ⊕ Nat} {Φ : (Nat → Nat → Int) → Prop} {b : Int} {c : Nat} (h : pz_RE (pz_Sh L) 134 (.inr (.inl 2) :: [.inl a1, .inl a2]) iv o Φ) (ho : t_an t_Vi (pz_hc 313) o b c) (hb : b = 0 ∨ b = 1) : t_WR L 313 [.inr (.inl 2), .inl a1, .inl a2, .inr (.inl 164)] iv c (t_wo Φ b c) := by
  intro dv cc ss
  show pz_G 313 0 [some (.inr (.inl 2)), some (.inl a1), some (.inl a2), some (.inr (.inl 164)), none] [] (pz_Sh L, iv, dv, cc, ss) (t_WP L c (t_wo Φ b c) cc ss)
  rcases ho with ⟨ho, hc⟩ | ⟨E, ho, hl, hc⟩ <;> subst ho
  · skip
    refine pz_G_of pz_b313_0 ?_
    refine w_loc rfl ?_
    refine w_pure rfl ?_
    refine w_loc rfl ?_
    refine w_loc rfl ?_
    refine w_loc rfl ?_
    refine w_callE h rfl (pz_cokI is_2 rfl) (fun iv0 hp => ?_)
    rcases hb with hb | hb
    · refine w_zeq (fun _ => ?_) (fun q => absurd hb q)
      refine pz_G_of pz_b313_15 ?_
      refine w_pure (st' := [.inr (.inr (.inl b)), .inl 0, .inr (.inl 164)]) (by rw [hb]; rfl) ?_
      refine w_nil ?_
      refine pz_G_of pz_b313_16 ?_
      refine w_lastm (iv2 := pz_u1 iv0 164 (pz_up (iv0 164) 0 b)) is_164 ln_164 ⟨by decide, by decide⟩ (t_u2 _ _ _ _) ?_
      refine w_goto ?_
      refine pz_G_of pz_b313_32 ?_
      refine w_pure rfl ?_
      refine w_ret rfl ?_
      subst hc
      exact ⟨_, _, 0, by omega, rfl, rfl, iv0, hp, _, rfl, fun _ => pz_up_eq⟩
    · refine w_zeq (fun q => absurd q (by omega)) (fun _ => ?_)
      refine w_pure (st' := [.inr (.inr (.inl b)), .inl 0, .inr (.inl 164)]) (by rw [hb]; rfl) ?_
      refine w_goto ?_
      refine pz_G_of pz_b313_16 ?_
      refine w_lastm (iv2 := pz_u1 iv0 164 (pz_up (iv0 164) 0 b)) is_164 ln_164 ⟨by decide, by decide⟩ (t_u2 _ _ _ _) ?_
      refine w_goto ?_
      refine pz_G_of pz_b313_32 ?_
      refine w_pure rfl ?_
      refine w_ret rfl ?_
      subst hc
      exact ⟨_, _, 0, by omega, rfl, rfl, iv0, hp, _, rfl, fun _ => pz_up_eq⟩
  · skip
    refine pz_G_of pz_b313_0 ?_
    refine w_loc rfl ?_
    refine w_pure rfl ?_
    refine w_loc rfl ?_
    refine w_loc rfl ?_
    refine w_loc rfl ?_
    refine w_callhE h rfl (pz_cokI is_2 rfl) hl (fun iv0 hp => ?_)
    exact ⟨_, _, 1, by omega, rfl, rfl, iv0, hp, iv0 164, (pz_u1_self iv0 164).symm, fun z => absurd z hc⟩
theorem t_w314 {L : Nat} {iv : Nat → Nat → Int} {o : Option pz_V ⊕ Nat} {Φ : (Nat → Nat → Int) → Prop} {b : Int} {c : Nat} (h : pz_RE (pz_Sh L) 135 (.inr (.inl 2) :: []) iv o Φ) (ho : t_an t_Vi (pz_hc 314) o b c) : t_WR L 314 [.inr (.inl 2), .inr (.inl 164)] iv c (t_wo Φ b c) := by
  intro dv cc ss
  show pz_G 314 0 [some (.inr (.inl 2)), some (.inr (.inl 164)), none] [] (pz_Sh L, iv, dv, cc, ss) (t_WP L c (t_wo Φ b c) cc ss)
  rcases ho with ⟨ho, hc⟩ | ⟨E, ho, hl, hc⟩ <;> subst ho
  · skip
    refine pz_G_of pz_b314_0 ?_
    refine w_loc rfl ?_
    refine w_pure rfl ?_
    refine w_loc rfl ?_
    refine w_callE h rfl (pz_cokI is_2 rfl) (fun iv0 hp => ?_)
    refine w_pure rfl ?_
    refine w_lastm (iv2 := pz_u1 iv0 164 (pz_up (iv0 164) 0 b)) is_164 ln_164 ⟨by decide, by decide⟩ (t_u2 _ _ _ _) ?_
    refine w_goto ?_
    refine pz_G_of pz_b314_14 ?_
    refine w_pure rfl ?_
    refine w_ret rfl ?_
    subst hc
    exact ⟨_, _, 0, by omega, rfl, rfl, iv0, hp, _, rfl, fun _ => pz_up_eq⟩
  · skip
    refine pz_G_of pz_b314_0 ?_
    refine w_loc rfl ?_
    refine w_pure rfl ?_
    refine w_loc rfl ?_
    refine w_callhE h rfl (pz_cokI is_2 rfl) hl (fun iv0 hp => ?_)
    exact ⟨_, _, 1, by omega, rfl, rfl, iv0, hp, iv0 164, (pz_u1_self iv0 164).symm, fun z => absurd z hc⟩
theorem t_w315 {L : Nat} {iv : Nat → Nat → Int} {a1 : Int} {o : Option pz_V ⊕ Nat} {Φ : (Nat → Nat → Int) → Prop} {b : Int} {c : Nat} (h : pz_RE (pz_Sh L) 136 (.inr (.inl 2) :: [.inl a1]) iv o Φ) (ho : t_an t_Vi (pz_hc 315) o b c) : t_WR L 315 [.inr (.inl 2), .inl a1, .inr (.inl 164)] iv c (t_wo Φ b c) := by
  intro dv cc ss
  show pz_G 315 0 [some (.inr (.inl 2)), some (.inl a1), some (.inr (.inl 164)), none] [] (pz_Sh L, iv, dv, cc, ss) (t_WP L c (t_wo Φ b c) cc ss)
  rcases ho with ⟨ho, hc⟩ | ⟨E, ho, hl, hc⟩ <;> subst ho
  · skip
    refine pz_G_of pz_b315_0 ?_
    refine w_loc rfl ?_
    refine w_pure rfl ?_
    refine w_loc rfl ?_
    refine w_loc rfl ?_
    refine w_callE h rfl (pz_cokI is_2 rfl) (fun iv0 hp => ?_)
    refine w_pure rfl ?_
    refine w_lastm (iv2 := pz_u1 iv0 164 (pz_up (iv0 164) 0 b)) is_164 ln_164 ⟨by decide, by decide⟩ (t_u2 _ _ _ _) ?_
    refine w_goto ?_
    refine pz_G_of pz_b315_18 ?_
    refine w_pure rfl ?_
    refine w_ret rfl ?_
    subst hc
    exact ⟨_, _, 0, by omega, rfl, rfl, iv0, hp, _, rfl, fun _ => pz_up_eq⟩
  · skip
    refine pz_G_of pz_b315_0 ?_
    refine w_loc rfl ?_
    refine w_pure rfl ?_
    refine w_loc rfl ?_
    refine w_loc rfl ?_
    refine w_callhE h rfl (pz_cokI is_2 rfl) hl (fun iv0 hp => ?_)
    exact ⟨_, _, 1, by omega, rfl, rfl, iv0, hp, iv0 164, (pz_u1_self iv0 164).symm, fun z => absurd z hc⟩
theorem t_w316 {L : Nat} {iv : Nat → Nat → Int} {a1 : Int} {a2 : Int} {o : Option pz_V ⊕ Nat} {Φ : (Nat → Nat → Int) → Prop} {b : Int} {c : Nat} (h : pz_RE (pz_Sh L) 141 (.inr (.inl 2) :: [.inl a1, .inl a2]) iv o Φ) (ho : t_an t_Vi (pz_hc 316) o b c) : t_WR L 316 [.inr (.inl 2), .inl a1, .inl a2, .inr (.inl 164)] iv c (t_wo Φ b c) := by
  intro dv cc ss
  show pz_G 316 0 [some (.inr (.inl 2)), some (.inl a1), some (.inl a2), some (.inr (.inl 164)), none] [] (pz_Sh L, iv, dv, cc, ss) (t_WP L c (t_wo Φ b c) cc ss)
  rcases ho with ⟨ho, hc⟩ | ⟨E, ho, hl, hc⟩ <;> subst ho
  · skip
    refine pz_G_of pz_b316_0 ?_
    refine w_loc rfl ?_
    refine w_pure rfl ?_
    refine w_loc rfl ?_
    refine w_loc rfl ?_
    refine w_loc rfl ?_
    refine w_callE h rfl (pz_cokI is_2 rfl) (fun iv0 hp => ?_)
    refine w_pure rfl ?_
    refine w_lastm (iv2 := pz_u1 iv0 164 (pz_up (iv0 164) 0 b)) is_164 ln_164 ⟨by decide, by decide⟩ (t_u2 _ _ _ _) ?_
    refine w_goto ?_
    refine pz_G_of pz_b316_25 ?_
    refine w_pure rfl ?_
    refine w_ret rfl ?_
    subst hc
    exact ⟨_, _, 0, by omega, rfl, rfl, iv0, hp, _, rfl, fun _ => pz_up_eq⟩
  · skip
    refine pz_G_of pz_b316_0 ?_
    refine w_loc rfl ?_
    refine w_pure rfl ?_
    refine w_loc rfl ?_
    refine w_loc rfl ?_
    refine w_loc rfl ?_
    refine w_callhE h rfl (pz_cokI is_2 rfl) hl (fun iv0 hp => ?_)
    exact ⟨_, _, 1, by omega, rfl, rfl, iv0, hp, iv0 164, (pz_u1_self iv0 164).symm, fun z => absurd z hc⟩
theorem t_w317 {L : Nat} {iv : Nat → Nat → Int} {a1 : Int} {a2 : Int} {o : Option pz_V ⊕ Nat} {Φ : (Nat → Nat → Int) → Prop} {b : Int} {c : Nat} (h : pz_RE (pz_Sh L) 142 (.inr (.inl 2) :: [.inl a1, .inl a2]) iv o Φ) (ho : t_an t_Vi (pz_hc 317) o b c) : t_WR L 317 [.inr (.inl 2), .inl a1, .inl a2, .inr (.inl 164)] iv c (t_wo Φ b c) := by
  intro dv cc ss
  show pz_G 317 0 [some (.inr (.inl 2)), some (.inl a1), some (.inl a2), some (.inr (.inl 164)), none] [] (pz_Sh L, iv, dv, cc, ss) (t_WP L c (t_wo Φ b c) cc ss)
  rcases ho with ⟨ho, hc⟩ | ⟨E, ho, hl, hc⟩ <;> subst ho
  · skip
    refine pz_G_of pz_b317_0 ?_
    refine w_loc rfl ?_
    refine w_pure rfl ?_
    refine w_loc rfl ?_
    refine w_loc rfl ?_
    refine w_loc rfl ?_
    refine w_callE h rfl (pz_cokI is_2 rfl) (fun iv0 hp => ?_)
    refine w_pure rfl ?_
    refine w_lastm (iv2 := pz_u1 iv0 164 (pz_up (iv0 164) 0 b)) is_164 ln_164 ⟨by decide, by decide⟩ (t_u2 _ _ _ _) ?_
    refine w_goto ?_
    refine pz_G_of pz_b317_25 ?_
    refine w_pure rfl ?_
    refine w_ret rfl ?_
    subst hc
    exact ⟨_, _, 0, by omega, rfl, rfl, iv0, hp, _, rfl, fun _ => pz_up_eq⟩
  · skip
    refine pz_G_of pz_b317_0 ?_
    refine w_loc rfl ?_
    refine w_pure rfl ?_
    refine w_loc rfl ?_
    refine w_loc rfl ?_
    refine w_loc rfl ?_
    refine w_callhE h rfl (pz_cokI is_2 rfl) hl (fun iv0 hp => ?_)
    exact ⟨_, _, 1, by omega, rfl, rfl, iv0, hp, iv0 164, (pz_u1_self iv0 164).symm, fun z => absurd z hc⟩
theorem t_w318 {L : Nat} {iv : Nat → Nat → Int} {a1 : Int} {o : Option pz_V ⊕ Nat} {Φ : (Nat → Nat → Int) → Prop} {b : Int} {c : Nat} (h : pz_RE (pz_Sh L) 143 (.inr (.inl 2) :: [.inl a1]) iv o Φ) (ho : t_an t_Vi (pz_hc 318) o b c) : t_WR L 318 [.inr (.inl 2), .inl a1, .inr (.inl 164)] iv c (t_wo Φ b c) := by
  intro dv cc ss
  show pz_G 318 0 [some (.inr (.inl 2)), some (.inl a1), some (.inr (.inl 164)), none] [] (pz_Sh L, iv, dv, cc, ss) (t_WP L c (t_wo Φ b c) cc ss)
  rcases ho with ⟨ho, hc⟩ | ⟨E, ho, hl, hc⟩ <;> subst ho
  · skip
    refine pz_G_of pz_b318_0 ?_
    refine w_loc rfl ?_
    refine w_pure rfl ?_
    refine w_loc rfl ?_
    refine w_loc rfl ?_
    refine w_callE h rfl (pz_cokI is_2 rfl) (fun iv0 hp => ?_)
    refine w_pure rfl ?_
    refine w_lastm (iv2 := pz_u1 iv0 164 (pz_up (iv0 164) 0 b)) is_164 ln_164 ⟨by decide, by decide⟩ (t_u2 _ _ _ _) ?_
    refine w_goto ?_
    refine pz_G_of pz_b318_21 ?_
    refine w_pure rfl ?_
    refine w_ret rfl ?_
    subst hc
    exact ⟨_, _, 0, by omega, rfl, rfl, iv0, hp, _, rfl, fun _ => pz_up_eq⟩
  · skip
    refine pz_G_of pz_b318_0 ?_
    refine w_loc rfl ?_
    refine w_pure rfl ?_
    refine w_loc rfl ?_
    refine w_loc rfl ?_
    refine w_callhE h rfl (pz_cokI is_2 rfl) hl (fun iv0 hp => ?_)
    exact ⟨_, _, 1, by omega, rfl, rfl, iv0, hp, iv0 164, (pz_u1_self iv0 164).symm, fun z => absurd z hc⟩
theorem t_w319 {L : Nat} {iv : Nat → Nat → Int} {a1 : Int} {o : Option pz_V ⊕ Nat} {Φ : (Nat → Nat → Int) → Prop} {b : Int} {c : Nat} (h : pz_RE (pz_Sh L) 144 (.inr (.inl 2) :: [.inl a1]) iv o Φ) (ho : t_an t_Vi (pz_hc 319) o b c) : t_WR L 319 [.inr (.inl 2), .inl a1, .inr (.inl 164)] iv c (t_wo Φ b c) := by
  intro dv cc ss
  show pz_G 319 0 [some (.inr (.inl 2)), some (.inl a1), some (.inr (.inl 164)), none] [] (pz_Sh L, iv, dv, cc, ss) (t_WP L c (t_wo Φ b c) cc ss)
  rcases ho with ⟨ho, hc⟩ | ⟨E, ho, hl, hc⟩ <;> subst ho
  · skip
    refine pz_G_of pz_b319_0 ?_
    refine w_loc rfl ?_
    refine w_pure rfl ?_
    refine w_loc rfl ?_
    refine w_loc rfl ?_
    refine w_callE h rfl (pz_cokI is_2 rfl) (fun iv0 hp => ?_)
    refine w_pure rfl ?_
    refine w_lastm (iv2 := pz_u1 iv0 164 (pz_up (iv0 164) 0 b)) is_164 ln_164 ⟨by decide, by decide⟩ (t_u2 _ _ _ _) ?_
    refine w_goto ?_
    refine pz_G_of pz_b319_18 ?_
    refine w_pure rfl ?_
    refine w_ret rfl ?_
    subst hc
    exact ⟨_, _, 0, by omega, rfl, rfl, iv0, hp, _, rfl, fun _ => pz_up_eq⟩
  · skip
    refine pz_G_of pz_b319_0 ?_
    refine w_loc rfl ?_
    refine w_pure rfl ?_
    refine w_loc rfl ?_
    refine w_loc rfl ?_
    refine w_callhE h rfl (pz_cokI is_2 rfl) hl (fun iv0 hp => ?_)
    exact ⟨_, _, 1, by omega, rfl, rfl, iv0, hp, iv0 164, (pz_u1_self iv0 164).symm, fun z => absurd z hc⟩
theorem t_w320 {L : Nat} {iv : Nat → Nat → Int} {a1 : Int} {o : Option pz_V ⊕ Nat} {Φ : (Nat → Nat → Int) → Prop} {b : Int} {c : Nat} (h : pz_RE (pz_Sh L) 145 (.inr (.inl 2) :: [.inl a1]) iv o Φ) (ho : t_an t_Vi (pz_hc 320) o b c) : t_WR L 320 [.inr (.inl 2), .inl a1, .inr (.inl 164)] iv c (t_wo Φ b c) := by
  intro dv cc ss
  show pz_G 320 0 [some (.inr (.inl 2)), some (.inl a1), some (.inr (.inl 164)), none] [] (pz_Sh L, iv, dv, cc, ss) (t_WP L c (t_wo Φ b c) cc ss)
  rcases ho with ⟨ho, hc⟩ | ⟨E, ho, hl, hc⟩ <;> subst ho
  · skip
    refine pz_G_of pz_b320_0 ?_
    refine w_loc rfl ?_
    refine w_pure rfl ?_
    refine w_loc rfl ?_
    refine w_loc rfl ?_
    refine w_callE h rfl (pz_cokI is_2 rfl) (fun iv0 hp => ?_)
    refine w_pure rfl ?_
    refine w_lastm (iv2 := pz_u1 iv0 164 (pz_up (iv0 164) 0 b)) is_164 ln_164 ⟨by decide, by decide⟩ (t_u2 _ _ _ _) ?_
    refine w_goto ?_
    refine pz_G_of pz_b320_18 ?_
    refine w_pure rfl ?_
    refine w_ret rfl ?_
    subst hc
    exact ⟨_, _, 0, by omega, rfl, rfl, iv0, hp, _, rfl, fun _ => pz_up_eq⟩
  · skip
    refine pz_G_of pz_b320_0 ?_
    refine w_loc rfl ?_
    refine w_pure rfl ?_
    refine w_loc rfl ?_
    refine w_loc rfl ?_
    refine w_callhE h rfl (pz_cokI is_2 rfl) hl (fun iv0 hp => ?_)
    exact ⟨_, _, 1, by omega, rfl, rfl, iv0, hp, iv0 164, (pz_u1_self iv0 164).symm, fun z => absurd z hc⟩
theorem t_w321 {L : Nat} {iv : Nat → Nat → Int} {o : Option pz_V ⊕ Nat} {Φ : (Nat → Nat → Int) → Prop} {b : Int} {c : Nat} (h : pz_RE (pz_Sh L) 146 (.inr (.inl 2) :: []) iv o Φ) (ho : t_an t_Vi (pz_hc 321) o b c) (hb : b = 0 ∨ b = 1) : t_WR L 321 [.inr (.inl 2), .inr (.inl 164)] iv c (t_wo Φ b c) := by
  intro dv cc ss
  show pz_G 321 0 [some (.inr (.inl 2)), some (.inr (.inl 164)), none] [] (pz_Sh L, iv, dv, cc, ss) (t_WP L c (t_wo Φ b c) cc ss)
  rcases ho with ⟨ho, hc⟩ | ⟨E, ho, hl, hc⟩ <;> subst ho
  · skip
    refine pz_G_of pz_b321_0 ?_
    refine w_loc rfl ?_
    refine w_pure rfl ?_
    refine w_loc rfl ?_
    refine w_callE h rfl (pz_cokI is_2 rfl) (fun iv0 hp => ?_)
    rcases hb with hb | hb
    · refine w_zeq (fun _ => ?_) (fun q => absurd hb q)
      refine pz_G_of pz_b321_13 ?_
      refine w_pure (st' := [.inr (.inr (.inl b)), .inl 0, .inr (.inl 164)]) (by rw [hb]; rfl) ?_
      refine w_nil ?_
      refine pz_G_of pz_b321_14 ?_
      refine w_lastm (iv2 := pz_u1 iv0 164 (pz_up (iv0 164) 0 b)) is_164 ln_164 ⟨by decide, by decide⟩ (t_u2 _ _ _ _) ?_
      refine w_goto ?_
      refine pz_G_of pz_b321_21 ?_
      refine w_pure rfl ?_
      refine w_ret rfl ?_
      subst hc
      exact ⟨_, _, 0, by omega, rfl, rfl, iv0, hp, _, rfl, fun _ => pz_up_eq⟩
    · refine w_zeq (fun q => absurd q (by omega)) (fun _ => ?_)
      refine w_pure (st' := [.inr (.inr (.inl b)), .inl 0, .inr (.inl 164)]) (by rw [hb]; rfl) ?_
      refine w_goto ?_
      refine pz_G_of pz_b321_14 ?_
      refine w_lastm (iv2 := pz_u1 iv0 164 (pz_up (iv0 164) 0 b)) is_164 ln_164 ⟨by decide, by decide⟩ (t_u2 _ _ _ _) ?_
      refine w_goto ?_
      refine pz_G_of pz_b321_21 ?_
      refine w_pure rfl ?_
      refine w_ret rfl ?_
      subst hc
      exact ⟨_, _, 0, by omega, rfl, rfl, iv0, hp, _, rfl, fun _ => pz_up_eq⟩
  · skip
    refine pz_G_of pz_b321_0 ?_
    refine w_loc rfl ?_
    refine w_pure rfl ?_
    refine w_loc rfl ?_
    refine w_callhE h rfl (pz_cokI is_2 rfl) hl (fun iv0 hp => ?_)
    exact ⟨_, _, 1, by omega, rfl, rfl, iv0, hp, iv0 164, (pz_u1_self iv0 164).symm, fun z => absurd z hc⟩
theorem t_w322 {L : Nat} {iv : Nat → Nat → Int} {a1 : Int} {o : Option pz_V ⊕ Nat} {Φ : (Nat → Nat → Int) → Prop} {b : Int} {c : Nat} (h : pz_RE (pz_Sh L) 147 (.inr (.inl 2) :: [.inl a1]) iv o Φ) (ho : t_an t_Vi (pz_hc 322) o b c) : t_WR L 322 [.inr (.inl 2), .inl a1, .inr (.inl 164)] iv c (t_wo Φ b c) := by
  intro dv cc ss
  show pz_G 322 0 [some (.inr (.inl 2)), some (.inl a1), some (.inr (.inl 164)), none] [] (pz_Sh L, iv, dv, cc, ss) (t_WP L c (t_wo Φ b c) cc ss)
  rcases ho with ⟨ho, hc⟩ | ⟨E, ho, hl, hc⟩ <;> subst ho
  · skip
    refine pz_G_of pz_b322_0 ?_
    refine w_loc rfl ?_
    refine w_pure rfl ?_
    refine w_loc rfl ?_
    refine w_loc rfl ?_
    refine w_callE h rfl (pz_cokI is_2 rfl) (fun iv0 hp => ?_)
    refine w_pure rfl ?_
    refine w_lastm (iv2 := pz_u1 iv0 164 (pz_up (iv0 164) 0 b)) is_164 ln_164 ⟨by decide, by decide⟩ (t_u2 _ _ _ _) ?_
    refine w_goto ?_
    refine pz_G_of pz_b322_18 ?_
    refine w_pure rfl ?_
    refine w_ret rfl ?_
    subst hc
    exact ⟨_, _, 0, by omega, rfl, rfl, iv0, hp, _, rfl, fun _ => pz_up_eq⟩
  · skip
    refine pz_G_of pz_b322_0 ?_
    refine w_loc rfl ?_
    refine w_pure rfl ?_
    refine w_loc rfl ?_
    refine w_loc rfl ?_
    refine w_callhE h rfl (pz_cokI is_2 rfl) hl (fun iv0 hp => ?_)
    exact ⟨_, _, 1, by omega, rfl, rfl, iv0, hp, iv0 164, (pz_u1_self iv0 164).symm, fun z => absurd z hc⟩
theorem t_w323 {L : Nat} {iv : Nat → Nat → Int} {a1 : Int} {o : Option pz_V ⊕ Nat} {Φ : (Nat → Nat → Int) → Prop} {b : Int} {c : Nat} (h : pz_RE (pz_Sh L) 148 (.inr (.inl 2) :: [.inl a1]) iv o Φ) (ho : t_an t_Vi (pz_hc 323) o b c) : t_WR L 323 [.inr (.inl 2), .inl a1, .inr (.inl 164)] iv c (t_wo Φ b c) := by
  intro dv cc ss
  show pz_G 323 0 [some (.inr (.inl 2)), some (.inl a1), some (.inr (.inl 164)), none] [] (pz_Sh L, iv, dv, cc, ss) (t_WP L c (t_wo Φ b c) cc ss)
  rcases ho with ⟨ho, hc⟩ | ⟨E, ho, hl, hc⟩ <;> subst ho
  · skip
    refine pz_G_of pz_b323_0 ?_
    refine w_loc rfl ?_
    refine w_pure rfl ?_
    refine w_loc rfl ?_
    refine w_loc rfl ?_
    refine w_callE h rfl (pz_cokI is_2 rfl) (fun iv0 hp => ?_)
    refine w_pure rfl ?_
    refine w_lastm (iv2 := pz_u1 iv0 164 (pz_up (iv0 164) 0 b)) is_164 ln_164 ⟨by decide, by decide⟩ (t_u2 _ _ _ _) ?_
    refine w_goto ?_
    refine pz_G_of pz_b323_18 ?_
    refine w_pure rfl ?_
    refine w_ret rfl ?_
    subst hc
    exact ⟨_, _, 0, by omega, rfl, rfl, iv0, hp, _, rfl, fun _ => pz_up_eq⟩
  · skip
    refine pz_G_of pz_b323_0 ?_
    refine w_loc rfl ?_
    refine w_pure rfl ?_
    refine w_loc rfl ?_
    refine w_loc rfl ?_
    refine w_callhE h rfl (pz_cokI is_2 rfl) hl (fun iv0 hp => ?_)
    exact ⟨_, _, 1, by omega, rfl, rfl, iv0, hp, iv0 164, (pz_u1_self iv0 164).symm, fun z => absurd z hc⟩
theorem t_w324 {L : Nat} {iv : Nat → Nat → Int} {a1 : Int} {o : Option pz_V ⊕ Nat} {Φ : (Nat → Nat → Int) → Prop} {b : Int} {c : Nat} (h : pz_RE (pz_Sh L) 149 (.inr (.inl 2) :: [.inl a1]) iv o Φ) (ho : t_an t_Vi (pz_hc 324) o b c) : t_WR L 324 [.inr (.inl 2), .inl a1, .inr (.inl 164)] iv c (t_wo Φ b c) := by
  intro dv cc ss
  show pz_G 324 0 [some (.inr (.inl 2)), some (.inl a1), some (.inr (.inl 164)), none] [] (pz_Sh L, iv, dv, cc, ss) (t_WP L c (t_wo Φ b c) cc ss)
  rcases ho with ⟨ho, hc⟩ | ⟨E, ho, hl, hc⟩ <;> subst ho
  · skip
    refine pz_G_of pz_b324_0 ?_
    refine w_loc rfl ?_
    refine w_pure rfl ?_
    refine w_loc rfl ?_
    refine w_loc rfl ?_
    refine w_callE h rfl (pz_cokI is_2 rfl) (fun iv0 hp => ?_)
    refine w_pure rfl ?_
    refine w_lastm (iv2 := pz_u1 iv0 164 (pz_up (iv0 164) 0 b)) is_164 ln_164 ⟨by decide, by decide⟩ (t_u2 _ _ _ _) ?_
    refine w_goto ?_
    refine pz_G_of pz_b324_18 ?_
    refine w_pure rfl ?_
    refine w_ret rfl ?_
    subst hc
    exact ⟨_, _, 0, by omega, rfl, rfl, iv0, hp, _, rfl, fun _ => pz_up_eq⟩
  · skip
    refine pz_G_of pz_b324_0 ?_
    refine w_loc rfl ?_
    refine w_pure rfl ?_
    refine w_loc rfl ?_
    refine w_loc rfl ?_
    refine w_callhE h rfl (pz_cokI is_2 rfl) hl (fun iv0 hp => ?_)
    exact ⟨_, _, 1, by omega, rfl, rfl, iv0, hp, iv0 164, (pz_u1_self iv0 164).symm, fun z => absurd z hc⟩
theorem t_w325 {L : Nat} {iv : Nat → Nat → Int} {a1 : Int} {o : Option pz_V ⊕ Nat} {Φ : (Nat → Nat → Int) → Prop} {b : Int} {c : Nat} (h : pz_RE (pz_Sh L) 150 (.inr (.inl 2) :: [.inl a1]) iv o Φ) (ho : t_an t_Vi (pz_hc 325) o b c) : t_WR L 325 [.inr (.inl 2), .inl a1, .inr (.inl 164)] iv c (t_wo Φ b c) := by
  intro dv cc ss
  show pz_G 325 0 [some (.inr (.inl 2)), some (.inl a1), some (.inr (.inl 164)), none] [] (pz_Sh L, iv, dv, cc, ss) (t_WP L c (t_wo Φ b c) cc ss)
  rcases ho with ⟨ho, hc⟩ | ⟨E, ho, hl, hc⟩ <;> subst ho
  · skip
    refine pz_G_of pz_b325_0 ?_
    refine w_loc rfl ?_
    refine w_pure rfl ?_
    refine w_loc rfl ?_
    refine w_loc rfl ?_
    refine w_callE h rfl (pz_cokI is_2 rfl) (fun iv0 hp => ?_)
    refine w_pure rfl ?_
    refine w_lastm (iv2 := pz_u1 iv0 164 (pz_up (iv0 164) 0 b)) is_164 ln_164 ⟨by decide, by decide⟩ (t_u2 _ _ _ _) ?_
    refine w_goto ?_
    refine pz_G_of pz_b325_21 ?_
    refine w_pure rfl ?_
    refine w_ret rfl ?_
    subst hc
    exact ⟨_, _, 0, by omega, rfl, rfl, iv0, hp, _, rfl, fun _ => pz_up_eq⟩
  · skip
    refine pz_G_of pz_b325_0 ?_
    refine w_loc rfl ?_
    refine w_pure rfl ?_
    refine w_loc rfl ?_
    refine w_loc rfl ?_
    refine w_callhE h rfl (pz_cokI is_2 rfl) hl (fun iv0 hp => ?_)
    exact ⟨_, _, 1, by omega, rfl, rfl, iv0, hp, iv0 164, (pz_u1_self iv0 164).symm, fun z => absurd z hc⟩
theorem t_w326 {L : Nat} {iv : Nat → Nat → Int} {a1 : Int} {o : Option pz_V ⊕ Nat} {Φ : (Nat → Nat → Int) → Prop} {b : Int} {c : Nat} (h : pz_RE (pz_Sh L) 151 (.inr (.inl 2) :: [.inl a1]) iv o Φ) (ho : t_an t_Vi (pz_hc 326) o b c) : t_WR L 326 [.inr (.inl 2), .inl a1, .inr (.inl 164)] iv c (t_wo Φ b c) := by
  intro dv cc ss
  show pz_G 326 0 [some (.inr (.inl 2)), some (.inl a1), some (.inr (.inl 164)), none] [] (pz_Sh L, iv, dv, cc, ss) (t_WP L c (t_wo Φ b c) cc ss)
  rcases ho with ⟨ho, hc⟩ | ⟨E, ho, hl, hc⟩ <;> subst ho
  · skip
    refine pz_G_of pz_b326_0 ?_
    refine w_loc rfl ?_
    refine w_pure rfl ?_
    refine w_loc rfl ?_
    refine w_loc rfl ?_
    refine w_callE h rfl (pz_cokI is_2 rfl) (fun iv0 hp => ?_)
    refine w_pure rfl ?_
    refine w_lastm (iv2 := pz_u1 iv0 164 (pz_up (iv0 164) 0 b)) is_164 ln_164 ⟨by decide, by decide⟩ (t_u2 _ _ _ _) ?_
    refine w_goto ?_
    refine pz_G_of pz_b326_21 ?_
    refine w_pure rfl ?_
    refine w_ret rfl ?_
    subst hc
    exact ⟨_, _, 0, by omega, rfl, rfl, iv0, hp, _, rfl, fun _ => pz_up_eq⟩
  · skip
    refine pz_G_of pz_b326_0 ?_
    refine w_loc rfl ?_
    refine w_pure rfl ?_
    refine w_loc rfl ?_
    refine w_loc rfl ?_
    refine w_callhE h rfl (pz_cokI is_2 rfl) hl (fun iv0 hp => ?_)
    exact ⟨_, _, 1, by omega, rfl, rfl, iv0, hp, iv0 164, (pz_u1_self iv0 164).symm, fun z => absurd z hc⟩
theorem t_w327 {L : Nat} {iv : Nat → Nat → Int} {a1 : Int} {o : Option pz_V ⊕ Nat} {Φ : (Nat → Nat → Int) → Prop} {b : Int} {c : Nat} (h : pz_RE (pz_Sh L) 152 (.inr (.inl 2) :: [.inl a1]) iv o Φ) (ho : t_an t_Vi (pz_hc 327) o b c) : t_WR L 327 [.inr (.inl 2), .inl a1, .inr (.inl 164)] iv c (t_wo Φ b c) := by
  intro dv cc ss
  show pz_G 327 0 [some (.inr (.inl 2)), some (.inl a1), some (.inr (.inl 164)), none] [] (pz_Sh L, iv, dv, cc, ss) (t_WP L c (t_wo Φ b c) cc ss)
  rcases ho with ⟨ho, hc⟩ | ⟨E, ho, hl, hc⟩ <;> subst ho
  · skip
    refine pz_G_of pz_b327_0 ?_
    refine w_loc rfl ?_
    refine w_pure rfl ?_
    refine w_loc rfl ?_
    refine w_loc rfl ?_
    refine w_callE h rfl (pz_cokI is_2 rfl) (fun iv0 hp => ?_)
    refine w_pure rfl ?_
    refine w_lastm (iv2 := pz_u1 iv0 164 (pz_up (iv0 164) 0 b)) is_164 ln_164 ⟨by decide, by decide⟩ (t_u2 _ _ _ _) ?_
    refine w_goto ?_
    refine pz_G_of pz_b327_21 ?_
    refine w_pure rfl ?_
    refine w_ret rfl ?_
    subst hc
    exact ⟨_, _, 0, by omega, rfl, rfl, iv0, hp, _, rfl, fun _ => pz_up_eq⟩
  · skip
    refine pz_G_of pz_b327_0 ?_
    refine w_loc rfl ?_
    refine w_pure rfl ?_
    refine w_loc rfl ?_
    refine w_loc rfl ?_
    refine w_callhE h rfl (pz_cokI is_2 rfl) hl (fun iv0 hp => ?_)
    exact ⟨_, _, 1, by omega, rfl, rfl, iv0, hp, iv0 164, (pz_u1_self iv0 164).symm, fun z => absurd z hc⟩
theorem t_w328 {L : Nat} {iv : Nat → Nat → Int} {a1 : Int} {o : Option pz_V ⊕ Nat} {Φ : (Nat → Nat → Int) → Prop} {b : Int} {c : Nat} (h : pz_RE (pz_Sh L) 154 (.inr (.inl 2) :: [.inl a1]) iv o Φ) (ho : t_an t_Vi (pz_hc 328) o b c) : t_WR L 328 [.inr (.inl 2), .inl a1, .inr (.inl 164)] iv c (t_wo Φ b c) := by
  intro dv cc ss
  show pz_G 328 0 [some (.inr (.inl 2)), some (.inl a1), some (.inr (.inl 164)), none] [] (pz_Sh L, iv, dv, cc, ss) (t_WP L c (t_wo Φ b c) cc ss)
  rcases ho with ⟨ho, hc⟩ | ⟨E, ho, hl, hc⟩ <;> subst ho
  · skip
    refine pz_G_of pz_b328_0 ?_
    refine w_loc rfl ?_
    refine w_pure rfl ?_
    refine w_loc rfl ?_
    refine w_loc rfl ?_
    refine w_callE h rfl (pz_cokI is_2 rfl) (fun iv0 hp => ?_)
    refine w_pure rfl ?_
    refine w_lastm (iv2 := pz_u1 iv0 164 (pz_up (iv0 164) 0 b)) is_164 ln_164 ⟨by decide, by decide⟩ (t_u2 _ _ _ _) ?_
    refine w_goto ?_
    refine pz_G_of pz_b328_18 ?_
    refine w_pure rfl ?_
    refine w_ret rfl ?_
    subst hc
    exact ⟨_, _, 0, by omega, rfl, rfl, iv0, hp, _, rfl, fun _ => pz_up_eq⟩
  · skip
    refine pz_G_of pz_b328_0 ?_
    refine w_loc rfl ?_
    refine w_pure rfl ?_
    refine w_loc rfl ?_
    refine w_loc rfl ?_
    refine w_callhE h rfl (pz_cokI is_2 rfl) hl (fun iv0 hp => ?_)
    exact ⟨_, _, 1, by omega, rfl, rfl, iv0, hp, iv0 164, (pz_u1_self iv0 164).symm, fun z => absurd z hc⟩
theorem t_w329 {L : Nat} {iv : Nat → Nat → Int} {a1 : Int} {a2 : Int} {a3 : Int} {o : Option pz_V ⊕ Nat} {Φ : (Nat → Nat → Int) → Prop} {b : Int} {c : Nat} (h : pz_RE (pz_Sh L) 155 (.inr (.inl 2) :: [.inl a1, .inl a2, .inl a3]) iv o Φ) (ho : t_an t_Vi (pz_hc 329) o b c) : t_WR L 329 [.inr (.inl 2), .inl a1, .inl a2, .inl a3, .inr (.inl 164)] iv c (t_wo Φ b c) := by
  intro dv cc ss
  show pz_G 329 0 [some (.inr (.inl 2)), some (.inl a1), some (.inl a2), some (.inl a3), some (.inr (.inl 164)), none] [] (pz_Sh L, iv, dv, cc, ss) (t_WP L c (t_wo Φ b c) cc ss)
  rcases ho with ⟨ho, hc⟩ | ⟨E, ho, hl, hc⟩ <;> subst ho
  · skip
    refine pz_G_of pz_b329_0 ?_
    refine w_loc rfl ?_
    refine w_pure rfl ?_
    refine w_loc rfl ?_
    refine w_loc rfl ?_
    refine w_loc rfl ?_
    refine w_loc rfl ?_
    refine w_callE h rfl (pz_cokI is_2 rfl) (fun iv0 hp => ?_)
    refine w_pure rfl ?_
    refine w_lastm (iv2 := pz_u1 iv0 164 (pz_up (iv0 164) 0 b)) is_164 ln_164 ⟨by decide, by decide⟩ (t_u2 _ _ _ _) ?_
    refine w_goto ?_
    refine pz_G_of pz_b329_27 ?_
    refine w_pure rfl ?_
    refine w_ret rfl ?_
    subst hc
    exact ⟨_, _, 0, by omega, rfl, rfl, iv0, hp, _, rfl, fun _ => pz_up_eq⟩
  · skip
    refine pz_G_of pz_b329_0 ?_
    refine w_loc rfl ?_
    refine w_pure rfl ?_
    refine w_loc rfl ?_
    refine w_loc rfl ?_
    refine w_loc rfl ?_
    refine w_loc rfl ?_
    refine w_callhE h rfl (pz_cokI is_2 rfl) hl (fun iv0 hp => ?_)
    exact ⟨_, _, 1, by omega, rfl, rfl, iv0, hp, iv0 164, (pz_u1_self iv0 164).symm, fun z => absurd z hc⟩
theorem t_w330 {L : Nat} {iv : Nat → Nat → Int} {a1 : Int} {o : Option pz_V ⊕ Nat} {Φ : (Nat → Nat → Int) → Prop} {b : Int} {c : Nat} (h : pz_RE (pz_Sh L) 156 (.inr (.inl 2) :: [.inl a1]) iv o Φ) (ho : t_an t_Vi (pz_hc 330) o b c) : t_WR L 330 [.inr (.inl 2), .inl a1, .inr (.inl 164)] iv c (t_wo Φ b c) := by
  intro dv cc ss
  show pz_G 330 0 [some (.inr (.inl 2)), some (.inl a1), some (.inr (.inl 164)), none] [] (pz_Sh L, iv, dv, cc, ss) (t_WP L c (t_wo Φ b c) cc ss)
  rcases ho with ⟨ho, hc⟩ | ⟨E, ho, hl, hc⟩ <;> subst ho
  · skip
    refine pz_G_of pz_b330_0 ?_
    refine w_loc rfl ?_
    refine w_pure rfl ?_
    refine w_loc rfl ?_
    refine w_loc rfl ?_
    refine w_callE h rfl (pz_cokI is_2 rfl) (fun iv0 hp => ?_)
    refine w_pure rfl ?_
    refine w_lastm (iv2 := pz_u1 iv0 164 (pz_up (iv0 164) 0 b)) is_164 ln_164 ⟨by decide, by decide⟩ (t_u2 _ _ _ _) ?_
    refine w_goto ?_
    refine pz_G_of pz_b330_15 ?_
    refine w_pure rfl ?_
    refine w_ret rfl ?_
    subst hc
    exact ⟨_, _, 0, by omega, rfl, rfl, iv0, hp, _, rfl, fun _ => pz_up_eq⟩
  · skip
    refine pz_G_of pz_b330_0 ?_
    refine w_loc rfl ?_
    refine w_pure rfl ?_
    refine w_loc rfl ?_
    refine w_loc rfl ?_
    refine w_callhE h rfl (pz_cokI is_2 rfl) hl (fun iv0 hp => ?_)
    exact ⟨_, _, 1, by omega, rfl, rfl, iv0, hp, iv0 164, (pz_u1_self iv0 164).symm, fun z => absurd z hc⟩
theorem t_w331 {L : Nat} {iv : Nat → Nat → Int} {a1 : Int} {o : Option pz_V ⊕ Nat} {Φ : (Nat → Nat → Int) → Prop} {b : Int} {c : Nat} (h : pz_RE (pz_Sh L) 157 (.inr (.inl 2) :: [.inl a1]) iv o Φ) (ho : t_an t_Vi (pz_hc 331) o b c) : t_WR L 331 [.inr (.inl 2), .inl a1, .inr (.inl 164)] iv c (t_wo Φ b c) := by
  intro dv cc ss
  show pz_G 331 0 [some (.inr (.inl 2)), some (.inl a1), some (.inr (.inl 164)), none] [] (pz_Sh L, iv, dv, cc, ss) (t_WP L c (t_wo Φ b c) cc ss)
  rcases ho with ⟨ho, hc⟩ | ⟨E, ho, hl, hc⟩ <;> subst ho
  · skip
    refine pz_G_of pz_b331_0 ?_
    refine w_loc rfl ?_
    refine w_pure rfl ?_
    refine w_loc rfl ?_
    refine w_loc rfl ?_
    refine w_callE h rfl (pz_cokI is_2 rfl) (fun iv0 hp => ?_)
    refine w_pure rfl ?_
    refine w_lastm (iv2 := pz_u1 iv0 164 (pz_up (iv0 164) 0 b)) is_164 ln_164 ⟨by decide, by decide⟩ (t_u2 _ _ _ _) ?_
    refine w_goto ?_
    refine pz_G_of pz_b331_18 ?_
    refine w_pure rfl ?_
    refine w_ret rfl ?_
    subst hc
    exact ⟨_, _, 0, by omega, rfl, rfl, iv0, hp, _, rfl, fun _ => pz_up_eq⟩
  · skip
    refine pz_G_of pz_b331_0 ?_
    refine w_loc rfl ?_
    refine w_pure rfl ?_
    refine w_loc rfl ?_
    refine w_loc rfl ?_
    refine w_callhE h rfl (pz_cokI is_2 rfl) hl (fun iv0 hp => ?_)
    exact ⟨_, _, 1, by omega, rfl, rfl, iv0, hp, iv0 164, (pz_u1_self iv0 164).symm, fun z => absurd z hc⟩
theorem t_w332 {L : Nat} {iv : Nat → Nat → Int} {a1 : Int} {o : Option pz_V ⊕ Nat} {Φ : (Nat → Nat → Int) → Prop} {b : Int} {c : Nat} (h : pz_RE (pz_Sh L) 158 (.inr (.inl 2) :: [.inl a1]) iv o Φ) (ho : t_an t_Vi (pz_hc 332) o b c) : t_WR L 332 [.inr (.inl 2), .inl a1, .inr (.inl 164)] iv c (t_wo Φ b c) := by
  intro dv cc ss
  show pz_G 332 0 [some (.inr (.inl 2)), some (.inl a1), some (.inr (.inl 164)), none] [] (pz_Sh L, iv, dv, cc, ss) (t_WP L c (t_wo Φ b c) cc ss)
  rcases ho with ⟨ho, hc⟩ | ⟨E, ho, hl, hc⟩ <;> subst ho
  · skip
    refine pz_G_of pz_b332_0 ?_
    refine w_loc rfl ?_
    refine w_pure rfl ?_
    refine w_loc rfl ?_
    refine w_loc rfl ?_
    refine w_callE h rfl (pz_cokI is_2 rfl) (fun iv0 hp => ?_)
    refine w_pure rfl ?_
    refine w_lastm (iv2 := pz_u1 iv0 164 (pz_up (iv0 164) 0 b)) is_164 ln_164 ⟨by decide, by decide⟩ (t_u2 _ _ _ _) ?_
    refine w_goto ?_
    refine pz_G_of pz_b332_18 ?_
    refine w_pure rfl ?_
    refine w_ret rfl ?_
    subst hc
    exact ⟨_, _, 0, by omega, rfl, rfl, iv0, hp, _, rfl, fun _ => pz_up_eq⟩
  · skip
    refine pz_G_of pz_b332_0 ?_
    refine w_loc rfl ?_
    refine w_pure rfl ?_
    refine w_loc rfl ?_
    refine w_loc rfl ?_
    refine w_callhE h rfl (pz_cokI is_2 rfl) hl (fun iv0 hp => ?_)
    exact ⟨_, _, 1, by omega, rfl, rfl, iv0, hp, iv0 164, (pz_u1_self iv0 164).symm, fun z => absurd z hc⟩
theorem t_w333 {L : Nat} {iv : Nat → Nat → Int} {o : Option pz_V ⊕ Nat} {Φ : (Nat → Nat → Int) → Prop} {b : Int} {c : Nat} (h : pz_RE (pz_Sh L) 159 (.inr (.inl 2) :: []) iv o Φ) (ho : t_an t_Vi (pz_hc 333) o b c) : t_WR L 333 [.inr (.inl 2), .inr (.inl 164)] iv c (t_wo Φ b c) := by
  intro dv cc ss
  show pz_G 333 0 [some (.inr (.inl 2)), some (.inr (.inl 164)), none] [] (pz_Sh L, iv, dv, cc, ss) (t_WP L c (t_wo Φ b c) cc ss)
  rcases ho with ⟨ho, hc⟩ | ⟨E, ho, hl, hc⟩ <;> subst ho
  · skip
    refine pz_G_of pz_b333_0 ?_
    refine w_loc rfl ?_
    refine w_pure rfl ?_
    refine w_loc rfl ?_
    refine w_callE h rfl (pz_cokI is_2 rfl) (fun iv0 hp => ?_)
    refine w_pure rfl ?_
    refine w_lastm (iv2 := pz_u1 iv0 164 (pz_up (iv0 164) 0 b)) is_164 ln_164 ⟨by decide, by decide⟩ (t_u2 _ _ _ _) ?_
    refine w_goto ?_
    refine pz_G_of pz_b333_17 ?_
    refine w_pure rfl ?_
    refine w_ret rfl ?_
    subst hc
    exact ⟨_, _, 0, by omega, rfl, rfl, iv0, hp, _, rfl, fun _ => pz_up_eq⟩
  · skip
    refine pz_G_of pz_b333_0 ?_
    refine w_loc rfl ?_
    refine w_pure rfl ?_
    refine w_loc rfl ?_
    refine w_callhE h rfl (pz_cokI is_2 rfl) hl (fun iv0 hp => ?_)
    exact ⟨_, _, 1, by omega, rfl, rfl, iv0, hp, iv0 164, (pz_u1_self iv0 164).symm, fun z => absurd z hc⟩
theorem t_w334 {L : Nat} {iv : Nat → Nat → Int} {o : Option pz_V ⊕ Nat} {Φ : (Nat → Nat → Int) → Prop} {b : Int} {c : Nat} (h : pz_RE (pz_Sh L) 160 (.inr (.inl 2) :: []) iv o Φ) (ho : t_an t_Vi (pz_hc 334) o b c) : t_WR L 334 [.inr (.inl 2), .inr (.inl 164)] iv c (t_wo Φ b c) := by
  intro dv cc ss
  show pz_G 334 0 [some (.inr (.inl 2)), some (.inr (.inl 164)), none] [] (pz_Sh L, iv, dv, cc, ss) (t_WP L c (t_wo Φ b c) cc ss)
  rcases ho with ⟨ho, hc⟩ | ⟨E, ho, hl, hc⟩ <;> subst ho
  · skip
    refine pz_G_of pz_b334_0 ?_
    refine w_loc rfl ?_
    refine w_pure rfl ?_
    refine w_loc rfl ?_
    refine w_callE h rfl (pz_cokI is_2 rfl) (fun iv0 hp => ?_)
    refine w_pure rfl ?_
    refine w_lastm (iv2 := pz_u1 iv0 164 (pz_up (iv0 164) 0 b)) is_164 ln_164 ⟨by decide, by decide⟩ (t_u2 _ _ _ _) ?_
    refine w_goto ?_
    refine pz_G_of pz_b334_17 ?_
    refine w_pure rfl ?_
    refine w_ret rfl ?_
    subst hc
    exact ⟨_, _, 0, by omega, rfl, rfl, iv0, hp, _, rfl, fun _ => pz_up_eq⟩
  · skip
    refine pz_G_of pz_b334_0 ?_
    refine w_loc rfl ?_
    refine w_pure rfl ?_
    refine w_loc rfl ?_
    refine w_callhE h rfl (pz_cokI is_2 rfl) hl (fun iv0 hp => ?_)
    exact ⟨_, _, 1, by omega, rfl, rfl, iv0, hp, iv0 164, (pz_u1_self iv0 164).symm, fun z => absurd z hc⟩
theorem t_w335 {L : Nat} {iv : Nat → Nat → Int} {a1 : Int} {a2 : Int} {o : Option pz_V ⊕ Nat} {Φ : (Nat → Nat → Int) → Prop} {b : Int} {c : Nat} (h : pz_RE (pz_Sh L) 161 (.inr (.inl 2) :: [.inl a1, .inl a2]) iv o Φ) (ho : t_an t_Vi (pz_hc 335) o b c) : t_WR L 335 [.inr (.inl 2), .inl a1, .inl a2, .inr (.inl 164)] iv c (t_wo Φ b c) := by
  intro dv cc ss
  show pz_G 335 0 [some (.inr (.inl 2)), some (.inl a1), some (.inl a2), some (.inr (.inl 164)), none] [] (pz_Sh L, iv, dv, cc, ss) (t_WP L c (t_wo Φ b c) cc ss)
  rcases ho with ⟨ho, hc⟩ | ⟨E, ho, hl, hc⟩ <;> subst ho
  · skip
    refine pz_G_of pz_b335_0 ?_
    refine w_loc rfl ?_
    refine w_pure rfl ?_
    refine w_loc rfl ?_
    refine w_loc rfl ?_
    refine w_loc rfl ?_
    refine w_callE h rfl (pz_cokI is_2 rfl) (fun iv0 hp => ?_)
    refine w_pure rfl ?_
    refine w_lastm (iv2 := pz_u1 iv0 164 (pz_up (iv0 164) 0 b)) is_164 ln_164 ⟨by decide, by decide⟩ (t_u2 _ _ _ _) ?_
    refine w_goto ?_
    refine pz_G_of pz_b335_25 ?_
    refine w_pure rfl ?_
    refine w_ret rfl ?_
    subst hc
    exact ⟨_, _, 0, by omega, rfl, rfl, iv0, hp, _, rfl, fun _ => pz_up_eq⟩
  · skip
    refine pz_G_of pz_b335_0 ?_
    refine w_loc rfl ?_
    refine w_pure rfl ?_
    refine w_loc rfl ?_
    refine w_loc rfl ?_
    refine w_loc rfl ?_
    refine w_callhE h rfl (pz_cokI is_2 rfl) hl (fun iv0 hp => ?_)
    exact ⟨_, _, 1, by omega, rfl, rfl, iv0, hp, iv0 164, (pz_u1_self iv0 164).symm, fun z => absurd z hc⟩
theorem t_w336 {L : Nat} {iv : Nat → Nat → Int} {o : Option pz_V ⊕ Nat} {Φ : (Nat → Nat → Int) → Prop} {b : Int} {c : Nat} (h : pz_RE (pz_Sh L) 162 (.inr (.inl 2) :: []) iv o Φ) (ho : t_an t_Vi (pz_hc 336) o b c) : t_WR L 336 [.inr (.inl 2), .inr (.inl 164)] iv c (t_wo Φ b c) := by
  intro dv cc ss
  show pz_G 336 0 [some (.inr (.inl 2)), some (.inr (.inl 164)), none] [] (pz_Sh L, iv, dv, cc, ss) (t_WP L c (t_wo Φ b c) cc ss)
  rcases ho with ⟨ho, hc⟩ | ⟨E, ho, hl, hc⟩ <;> subst ho
  · skip
    refine pz_G_of pz_b336_0 ?_
    refine w_loc rfl ?_
    refine w_pure rfl ?_
    refine w_loc rfl ?_
    refine w_callE h rfl (pz_cokI is_2 rfl) (fun iv0 hp => ?_)
    refine w_pure rfl ?_
    refine w_lastm (iv2 := pz_u1 iv0 164 (pz_up (iv0 164) 0 b)) is_164 ln_164 ⟨by decide, by decide⟩ (t_u2 _ _ _ _) ?_
    refine w_goto ?_
    refine pz_G_of pz_b336_14 ?_
    refine w_pure rfl ?_
    refine w_ret rfl ?_
    subst hc
    exact ⟨_, _, 0, by omega, rfl, rfl, iv0, hp, _, rfl, fun _ => pz_up_eq⟩
  · skip
    refine pz_G_of pz_b336_0 ?_
    refine w_loc rfl ?_
    refine w_pure rfl ?_
    refine w_loc rfl ?_
    refine w_callhE h rfl (pz_cokI is_2 rfl) hl (fun iv0 hp => ?_)
    exact ⟨_, _, 1, by omega, rfl, rfl, iv0, hp, iv0 164, (pz_u1_self iv0 164).symm, fun z => absurd z hc⟩
theorem t_w337 {L : Nat} {iv : Nat → Nat → Int} {a1 : Int} {a2 : Int} {a3 : Int} {a4 : Int} {o : Option pz_V ⊕ Nat} {Φ : (Nat → Nat → Int) → Prop} {b : Int} {c : Nat} (h : pz_RE (pz_Sh L) 163 (.inr (.inl 2) :: [.inl a1, .inl a2, .inl a3, .inl a4]) iv o Φ) (ho : t_an t_Vi (pz_hc 337) o b c) : t_WR L 337 [.inr (.inl 2), .inl a1, .inl a2, .inl a3, .inl a4, .inr (.inl 164)] iv c (t_wo Φ b c) := by
  intro dv cc ss
  show pz_G 337 0 [some (.inr (.inl 2)), some (.inl a1), some (.inl a2), some (.inl a3), some (.inl a4), some (.inr (.inl 164)), none] [] (pz_Sh L, iv, dv, cc, ss) (t_WP L c (t_wo Φ b c) cc ss)
  rcases ho with ⟨ho, hc⟩ | ⟨E, ho, hl, hc⟩ <;> subst ho
  · skip
    refine pz_G_of pz_b337_0 ?_
    refine w_loc rfl ?_
    refine w_pure rfl ?_
    refine w_loc rfl ?_
    refine w_loc rfl ?_
    refine w_loc rfl ?_
    refine w_loc rfl ?_
    refine w_loc rfl ?_
    refine w_callE h rfl (pz_cokI is_2 rfl) (fun iv0 hp => ?_)
    refine w_pure rfl ?_
    refine w_lastm (iv2 := pz_u1 iv0 164 (pz_up (iv0 164) 0 b)) is_164 ln_164 ⟨by decide, by decide⟩ (t_u2 _ _ _ _) ?_
    refine w_goto ?_
    refine pz_G_of pz_b337_25 ?_
    refine w_pure rfl ?_
    refine w_ret rfl ?_
    subst hc
    exact ⟨_, _, 0, by omega, rfl, rfl, iv0, hp, _, rfl, fun _ => pz_up_eq⟩
  · skip
    refine pz_G_of pz_b337_0 ?_
    refine w_loc rfl ?_
    refine w_pure rfl ?_
    refine w_loc rfl ?_
    refine w_loc rfl ?_
    refine w_loc rfl ?_
    refine w_loc rfl ?_
    refine w_loc rfl ?_
    refine w_callhE h rfl (pz_cokI is_2 rfl) hl (fun iv0 hp => ?_)
    exact ⟨_, _, 1, by omega, rfl, rfl, iv0, hp, iv0 164, (pz_u1_self iv0 164).symm, fun z => absurd z hc⟩
theorem t_w338 {L : Nat} {iv : Nat → Nat → Int} {a1 : Int} {a2 : Int} {o : Option pz_V ⊕ Nat} {Φ : (Nat → Nat → Int) → Prop} {b : Int} {c : Nat} (h : pz_RE (pz_Sh L) 164 (.inr (.inl 2) :: [.inl a1, .inl a2]) iv o Φ) (ho : t_an t_Vi (pz_hc 338) o b c) : t_WR L 338 [.inr (.inl 2), .inl a1, .inl a2, .inr (.inl 164)] iv c (t_wo Φ b c) := by
  intro dv cc ss
  show pz_G 338 0 [some (.inr (.inl 2)), some (.inl a1), some (.inl a2), some (.inr (.inl 164)), none] [] (pz_Sh L, iv, dv, cc, ss) (t_WP L c (t_wo Φ b c) cc ss)
  rcases ho with ⟨ho, hc⟩ | ⟨E, ho, hl, hc⟩ <;> subst ho
  · skip
    refine pz_G_of pz_b338_0 ?_
    refine w_loc rfl ?_
    refine w_pure rfl ?_
    refine w_loc rfl ?_
    refine w_loc rfl ?_
    refine w_loc rfl ?_
    refine w_callE h rfl (pz_cokI is_2 rfl) (fun iv0 hp => ?_)
    refine w_pure rfl ?_
    refine w_lastm (iv2 := pz_u1 iv0 164 (pz_up (iv0 164) 0 b)) is_164 ln_164 ⟨by decide, by decide⟩ (t_u2 _ _ _ _) ?_
    refine w_goto ?_
    refine pz_G_of pz_b338_21 ?_
    refine w_pure rfl ?_
    refine w_ret rfl ?_
    subst hc
    exact ⟨_, _, 0, by omega, rfl, rfl, iv0, hp, _, rfl, fun _ => pz_up_eq⟩
  · skip
    refine pz_G_of pz_b338_0 ?_
    refine w_loc rfl ?_
    refine w_pure rfl ?_
    refine w_loc rfl ?_
    refine w_loc rfl ?_
    refine w_loc rfl ?_
    refine w_callhE h rfl (pz_cokI is_2 rfl) hl (fun iv0 hp => ?_)
    exact ⟨_, _, 1, by omega, rfl, rfl, iv0, hp, iv0 164, (pz_u1_self iv0 164).symm, fun z => absurd z hc⟩
theorem t_w339 {L : Nat} {iv : Nat → Nat → Int} {o : Option pz_V ⊕ Nat} {Φ : (Nat → Nat → Int) → Prop} {b : Int} {c : Nat} (h : pz_RE (pz_Sh L) 165 (.inr (.inl 2) :: []) iv o Φ) (ho : t_an t_Vj (pz_hc 339) o b c) : t_WR L 339 [.inr (.inl 2), .inr (.inl 164)] iv c (t_wo Φ b c) := by
  intro dv cc ss
  show pz_G 339 0 [some (.inr (.inl 2)), some (.inr (.inl 164)), none] [] (pz_Sh L, iv, dv, cc, ss) (t_WP L c (t_wo Φ b c) cc ss)
  rcases ho with ⟨ho, hc⟩ | ⟨E, ho, hl, hc⟩ <;> subst ho
  · skip
    refine pz_G_of pz_b339_0 ?_
    refine w_loc rfl ?_
    refine w_pure rfl ?_
    refine w_loc rfl ?_
    refine w_callE h rfl (pz_cokI is_2 rfl) (fun iv0 hp => ?_)
    refine w_lastm (iv2 := pz_u1 iv0 164 (pz_up (iv0 164) 0 b)) is_164 ln_164 ⟨by decide, by decide⟩ (t_u2 _ _ _ _) ?_
    refine w_goto ?_
    refine pz_G_of pz_b339_13 ?_
    refine w_pure rfl ?_
    refine w_ret rfl ?_
    subst hc
    exact ⟨_, _, 0, by omega, rfl, rfl, iv0, hp, _, rfl, fun _ => pz_up_eq⟩
  · skip
    refine pz_G_of pz_b339_0 ?_
    refine w_loc rfl ?_
    refine w_pure rfl ?_
    refine w_loc rfl ?_
    refine w_callhE h rfl (pz_cokI is_2 rfl) hl (fun iv0 hp => ?_)
    exact ⟨_, _, 1, by omega, rfl, rfl, iv0, hp, iv0 164, (pz_u1_self iv0 164).symm, fun z => absurd z hc⟩
theorem t_w340 {L : Nat} {iv : Nat → Nat → Int} {o : Option pz_V ⊕ Nat} {Φ : (Nat → Nat → Int) → Prop} {b : Int} {c : Nat} (h : pz_RE (pz_Sh L) 166 (.inr (.inl 2) :: []) iv o Φ) (ho : t_an t_Vi (pz_hc 340) o b c) : t_WR L 340 [.inr (.inl 2), .inr (.inl 164)] iv c (t_wo Φ b c) := by
  intro dv cc ss
  show pz_G 340 0 [some (.inr (.inl 2)), some (.inr (.inl 164)), none] [] (pz_Sh L, iv, dv, cc, ss) (t_WP L c (t_wo Φ b c) cc ss)
  rcases ho with ⟨ho, hc⟩ | ⟨E, ho, hl, hc⟩ <;> subst ho
  · skip
    refine pz_G_of pz_b340_0 ?_
    refine w_loc rfl ?_
    refine w_pure rfl ?_
    refine w_loc rfl ?_
    refine w_callE h rfl (pz_cokI is_2 rfl) (fun iv0 hp => ?_)
    refine w_pure rfl ?_
    refine w_lastm (iv2 := pz_u1 iv0 164 (pz_up (iv0 164) 0 b)) is_164 ln_164 ⟨by decide, by decide⟩ (t_u2 _ _ _ _) ?_
    refine w_goto ?_
    refine pz_G_of pz_b340_14 ?_
    refine w_pure rfl ?_
    refine w_ret rfl ?_
    subst hc
    exact ⟨_, _, 0, by omega, rfl, rfl, iv0, hp, _, rfl, fun _ => pz_up_eq⟩
  · skip
    refine pz_G_of pz_b340_0 ?_
    refine w_loc rfl ?_
    refine w_pure rfl ?_
    refine w_loc rfl ?_
    refine w_callhE h rfl (pz_cokI is_2 rfl) hl (fun iv0 hp => ?_)
    exact ⟨_, _, 1, by omega, rfl, rfl, iv0, hp, iv0 164, (pz_u1_self iv0 164).symm, fun z => absurd z hc⟩
theorem t_w341 {L : Nat} {iv : Nat → Nat → Int} {o : Option pz_V ⊕ Nat} {Φ : (Nat → Nat → Int) → Prop} {b : Int} {c : Nat} (h : pz_RE (pz_Sh L) 167 (.inr (.inl 2) :: []) iv o Φ) (ho : t_an t_Vi (pz_hc 341) o b c) : t_WR L 341 [.inr (.inl 2), .inr (.inl 164)] iv c (t_wo Φ b c) := by
  intro dv cc ss
  show pz_G 341 0 [some (.inr (.inl 2)), some (.inr (.inl 164)), none] [] (pz_Sh L, iv, dv, cc, ss) (t_WP L c (t_wo Φ b c) cc ss)
  rcases ho with ⟨ho, hc⟩ | ⟨E, ho, hl, hc⟩ <;> subst ho
  · skip
    refine pz_G_of pz_b341_0 ?_
    refine w_loc rfl ?_
    refine w_pure rfl ?_
    refine w_loc rfl ?_
    refine w_callE h rfl (pz_cokI is_2 rfl) (fun iv0 hp => ?_)
    refine w_pure rfl ?_
    refine w_lastm (iv2 := pz_u1 iv0 164 (pz_up (iv0 164) 0 b)) is_164 ln_164 ⟨by decide, by decide⟩ (t_u2 _ _ _ _) ?_
    refine w_goto ?_
    refine pz_G_of pz_b341_14 ?_
    refine w_pure rfl ?_
    refine w_ret rfl ?_
    subst hc
    exact ⟨_, _, 0, by omega, rfl, rfl, iv0, hp, _, rfl, fun _ => pz_up_eq⟩
  · skip
    refine pz_G_of pz_b341_0 ?_
    refine w_loc rfl ?_
    refine w_pure rfl ?_
    refine w_loc rfl ?_
    refine w_callhE h rfl (pz_cokI is_2 rfl) hl (fun iv0 hp => ?_)
    exact ⟨_, _, 1, by omega, rfl, rfl, iv0, hp, iv0 164, (pz_u1_self iv0 164).symm, fun z => absurd z hc⟩
