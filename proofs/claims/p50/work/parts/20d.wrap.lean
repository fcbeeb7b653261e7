/-! the wrappers -/
theorem t_w190 {L : Nat} {iv : Nat → Nat → Int} {o : Option pz_V ⊕ Nat} {Φ : (Nat → Nat → Int) → Prop} {c : Int} (h : pz_RE (pz_Sh L) 123 [.inr (.inl 2)] iv o Φ) (ho : t_an (pz_hc 190) o c) : t_O L 190 [.inr (.inl 2)] iv (.inl c) 1 Φ := by
  intro dv cc ss
  show pz_G 190 0 [some (.inr (.inl 2)), none] [] (pz_Sh L, iv, dv, cc, ss) (t_OP L (.inl c) 1 Φ cc ss)
  rcases ho with ho | ⟨E, q, ho, hl, hc⟩ <;> subst ho
  · refine pz_G_of pz_b190_0 ?_
    refine w_loc rfl ?_
    refine w_callE h rfl (pz_cokI is_2 rfl) (fun iv0 hp => ?_)
    refine w_ret rfl ?_
    exact ⟨iv0, dv, cc, ss, rfl, rfl, by omega, by omega, hp⟩
  · refine pz_G_of pz_b190_0 ?_
    refine w_loc rfl ?_
    refine w_callhE h rfl (pz_cokI is_2 rfl) hl (fun iv0 hp => ?_)
    subst hc
    exact ⟨iv0, dv, cc + 1, ss + 6, rfl, rfl, by omega, by omega, hp⟩
theorem t_w191 {L : Nat} {iv : Nat → Nat → Int} {o : Option pz_V ⊕ Nat} {Φ : (Nat → Nat → Int) → Prop} {c : Int} {a1 : Int} {a2 : Int} {a3 : Int} {a4 : Int} (h : pz_RE (pz_Sh L) 124 [.inr (.inl 2), .inl a1, .inl a2, .inl a3, .inl a4] iv o Φ) (ho : t_an (pz_hc 191) o c) : t_O L 191 [.inr (.inl 2), .inl a1, .inl a2, .inl a3, .inl a4] iv (.inl c) 1 Φ := by
  intro dv cc ss
  show pz_G 191 0 [some (.inr (.inl 2)), some (.inl a1), some (.inl a2), some (.inl a3), some (.inl a4), none] [] (pz_Sh L, iv, dv, cc, ss) (t_OP L (.inl c) 1 Φ cc ss)
  rcases ho with ho | ⟨E, q, ho, hl, hc⟩ <;> subst ho
  · refine pz_G_of pz_b191_0 ?_
    refine w_loc rfl ?_
    refine w_loc rfl ?_
    refine w_loc rfl ?_
    refine w_loc rfl ?_
    refine w_loc rfl ?_
    refine w_callE h rfl (pz_cokI is_2 rfl) (fun iv0 hp => ?_)
    refine w_ret rfl ?_
    exact ⟨iv0, dv, cc, ss, rfl, rfl, by omega, by omega, hp⟩
  · refine pz_G_of pz_b191_0 ?_
    refine w_loc rfl ?_
    refine w_loc rfl ?_
    refine w_loc rfl ?_
    refine w_loc rfl ?_
    refine w_loc rfl ?_
    refine w_callhE h rfl (pz_cokI is_2 rfl) hl (fun iv0 hp => ?_)
    subst hc
    exact ⟨iv0, dv, cc + 1, ss + 6, rfl, rfl, by omega, by omega, hp⟩
theorem t_w192 {L : Nat} {iv : Nat → Nat → Int} {o : Option pz_V ⊕ Nat} {Φ : (Nat → Nat → Int) → Prop} {c : Int} {a1 : Int} (h : pz_RE (pz_Sh L) 125 [.inr (.inl 2), .inl a1] iv o Φ) (ho : t_an (pz_hc 192) o c) : t_O L 192 [.inr (.inl 2), .inl a1] iv (.inl c) 1 Φ := by
  intro dv cc ss
  show pz_G 192 0 [some (.inr (.inl 2)), some (.inl a1), none] [] (pz_Sh L, iv, dv, cc, ss) (t_OP L (.inl c) 1 Φ cc ss)
  rcases ho with ho | ⟨E, q, ho, hl, hc⟩ <;> subst ho
  · refine pz_G_of pz_b192_0 ?_
    refine w_loc rfl ?_
    refine w_loc rfl ?_
    refine w_callE h rfl (pz_cokI is_2 rfl) (fun iv0 hp => ?_)
    refine w_ret rfl ?_
    exact ⟨iv0, dv, cc, ss, rfl, rfl, by omega, by omega, hp⟩
  · refine pz_G_of pz_b192_0 ?_
    refine w_loc rfl ?_
    refine w_loc rfl ?_
    refine w_callhE h rfl (pz_cokI is_2 rfl) hl (fun iv0 hp => ?_)
    subst hc
    exact ⟨iv0, dv, cc + 1, ss + 6, rfl, rfl, by omega, by omega, hp⟩
theorem t_w193 {L : Nat} {iv : Nat → Nat → Int} {o : Option pz_V ⊕ Nat} {Φ : (Nat → Nat → Int) → Prop} {c : Int} {a1 : Int} {a2 : Int} {a3 : Int} {a4 : Int} (h : pz_RE (pz_Sh L) 126 [.inr (.inl 2), .inl a1, .inl a2, .inl a3, .inl a4] iv o Φ) (ho : t_an (pz_hc 193) o c) : t_O L 193 [.inr (.inl 2), .inl a1, .inl a2, .inl a3, .inl a4] iv (.inl c) 1 Φ := by
  intro dv cc ss
  show pz_G 193 0 [some (.inr (.inl 2)), some (.inl a1), some (.inl a2), some (.inl a3), some (.inl a4), none] [] (pz_Sh L, iv, dv, cc, ss) (t_OP L (.inl c) 1 Φ cc ss)
  rcases ho with ho | ⟨E, q, ho, hl, hc⟩ <;> subst ho
  · refine pz_G_of pz_b193_0 ?_
    refine w_loc rfl ?_
    refine w_loc rfl ?_
    refine w_loc rfl ?_
    refine w_loc rfl ?_
    refine w_loc rfl ?_
    refine w_callE h rfl (pz_cokI is_2 rfl) (fun iv0 hp => ?_)
    refine w_ret rfl ?_
    exact ⟨iv0, dv, cc, ss, rfl, rfl, by omega, by omega, hp⟩
  · refine pz_G_of pz_b193_0 ?_
    refine w_loc rfl ?_
    refine w_loc rfl ?_
    refine w_loc rfl ?_
    refine w_loc rfl ?_
    refine w_loc rfl ?_
    refine w_callhE h rfl (pz_cokI is_2 rfl) hl (fun iv0 hp => ?_)
    subst hc
    exact ⟨iv0, dv, cc + 1, ss + 6, rfl, rfl, by omega, by omega, hp⟩
theorem t_w194 {L : Nat} {iv : Nat → Nat → Int} {o : Option pz_V ⊕ Nat} {Φ : (Nat → Nat → Int) → Prop} {c : Int} {a1 : Int} {a2 : Int} (h : pz_RE (pz_Sh L) 127 [.inr (.inl 2), .inl a1, .inl a2] iv o Φ) (ho : t_an (pz_hc 194) o c) : t_O L 194 [.inr (.inl 2), .inl a1, .inl a2] iv (.inl c) 1 Φ := by
  intro dv cc ss
  show pz_G 194 0 [some (.inr (.inl 2)), some (.inl a1), some (.inl a2), none] [] (pz_Sh L, iv, dv, cc, ss) (t_OP L (.inl c) 1 Φ cc ss)
  rcases ho with ho | ⟨E, q, ho, hl, hc⟩ <;> subst ho
  · refine pz_G_of pz_b194_0 ?_
    refine w_loc rfl ?_
    refine w_loc rfl ?_
    refine w_loc rfl ?_
    refine w_callE h rfl (pz_cokI is_2 rfl) (fun iv0 hp => ?_)
    refine w_ret rfl ?_
    exact ⟨iv0, dv, cc, ss, rfl, rfl, by omega, by omega, hp⟩
  · refine pz_G_of pz_b194_0 ?_
    refine w_loc rfl ?_
    refine w_loc rfl ?_
    refine w_loc rfl ?_
    refine w_callhE h rfl (pz_cokI is_2 rfl) hl (fun iv0 hp => ?_)
    subst hc
    exact ⟨iv0, dv, cc + 1, ss + 6, rfl, rfl, by omega, by omega, hp⟩
theorem t_w195 {L : Nat} {iv : Nat → Nat → Int} {o : Option pz_V ⊕ Nat} {Φ : (Nat → Nat → Int) → Prop} {c : Int} (h : pz_RE (pz_Sh L) 128 [.inr (.inl 2)] iv o Φ) (ho : t_an (pz_hc 195) o c) : t_O L 195 [.inr (.inl 2)] iv (.inl c) 1 Φ := by
  intro dv cc ss
  show pz_G 195 0 [some (.inr (.inl 2)), none] [] (pz_Sh L, iv, dv, cc, ss) (t_OP L (.inl c) 1 Φ cc ss)
  rcases ho with ho | ⟨E, q, ho, hl, hc⟩ <;> subst ho
  · refine pz_G_of pz_b195_0 ?_
    refine w_loc rfl ?_
    refine w_callE h rfl (pz_cokI is_2 rfl) (fun iv0 hp => ?_)
    refine w_ret rfl ?_
    exact ⟨iv0, dv, cc, ss, rfl, rfl, by omega, by omega, hp⟩
  · refine pz_G_of pz_b195_0 ?_
    refine w_loc rfl ?_
    refine w_callhE h rfl (pz_cokI is_2 rfl) hl (fun iv0 hp => ?_)
    subst hc
    exact ⟨iv0, dv, cc + 1, ss + 6, rfl, rfl, by omega, by omega, hp⟩
theorem t_w196 {L : Nat} {iv : Nat → Nat → Int} {o : Option pz_V ⊕ Nat} {Φ : (Nat → Nat → Int) → Prop} {c : Int} {a1 : Int} (h : pz_RE (pz_Sh L) 129 [.inr (.inl 2), .inl a1] iv o Φ) (ho : t_an (pz_hc 196) o c) : t_O L 196 [.inr (.inl 2), .inl a1] iv (.inl c) 1 Φ := by
  intro dv cc ss
  show pz_G 196 0 [some (.inr (.inl 2)), some (.inl a1), none] [] (pz_Sh L, iv, dv, cc, ss) (t_OP L (.inl c) 1 Φ cc ss)
  rcases ho with ho | ⟨E, q, ho, hl, hc⟩ <;> subst ho
  · refine pz_G_of pz_b196_0 ?_
    refine w_loc rfl ?_
    refine w_loc rfl ?_
    refine w_callE h rfl (pz_cokI is_2 rfl) (fun iv0 hp => ?_)
    refine w_ret rfl ?_
    exact ⟨iv0, dv, cc, ss, rfl, rfl, by omega, by omega, hp⟩
  · refine pz_G_of pz_b196_0 ?_
    refine w_loc rfl ?_
    refine w_loc rfl ?_
    refine w_callhE h rfl (pz_cokI is_2 rfl) hl (fun iv0 hp => ?_)
    subst hc
    exact ⟨iv0, dv, cc + 1, ss + 6, rfl, rfl, by omega, by omega, hp⟩
theorem t_w197 {L : Nat} {iv : Nat → Nat → Int} {o : Option pz_V ⊕ Nat} {Φ : (Nat → Nat → Int) → Prop} {c : Int} {a1 : Int} {a2 : Int} (h : pz_RE (pz_Sh L) 132 [.inr (.inl 2), .inl a1, .inl a2] iv o Φ) (ho : t_an (pz_hc 197) o c) : t_O L 197 [.inr (.inl 2), .inl a1, .inl a2] iv (.inl c) 1 Φ := by
  intro dv cc ss
  show pz_G 197 0 [some (.inr (.inl 2)), some (.inl a1), some (.inl a2), none] [] (pz_Sh L, iv, dv, cc, ss) (t_OP L (.inl c) 1 Φ cc ss)
  rcases ho with ho | ⟨E, q, ho, hl, hc⟩ <;> subst ho
  · refine pz_G_of pz_b197_0 ?_
    refine w_loc rfl ?_
    refine w_loc rfl ?_
    refine w_loc rfl ?_
    refine w_callE h rfl (pz_cokI is_2 rfl) (fun iv0 hp => ?_)
    refine w_ret rfl ?_
    exact ⟨iv0, dv, cc, ss, rfl, rfl, by omega, by omega, hp⟩
  · refine pz_G_of pz_b197_0 ?_
    refine w_loc rfl ?_
    refine w_loc rfl ?_
    refine w_loc rfl ?_
    refine w_callhE h rfl (pz_cokI is_2 rfl) hl (fun iv0 hp => ?_)
    subst hc
    exact ⟨iv0, dv, cc + 1, ss + 6, rfl, rfl, by omega, by omega, hp⟩
theorem t_w198 {L : Nat} {iv : Nat → Nat → Int} {o : Option pz_V ⊕ Nat} {Φ : (Nat → Nat → Int) → Prop} {c : Int} {a1 : Int} {a2 : Int} (h : pz_RE (pz_Sh L) 133 [.inr (.inl 2), .inl a1, .inl a2] iv o Φ) (ho : t_an (pz_hc 198) o c) : t_O L 198 [.inr (.inl 2), .inl a1, .inl a2] iv (.inl c) 1 Φ := by
  intro dv cc ss
  show pz_G 198 0 [some (.inr (.inl 2)), some (.inl a1), some (.inl a2), none] [] (pz_Sh L, iv, dv, cc, ss) (t_OP L (.inl c) 1 Φ cc ss)
  rcases ho with ho | ⟨E, q, ho, hl, hc⟩ <;> subst ho
  · refine pz_G_of pz_b198_0 ?_
    refine w_loc rfl ?_
    refine w_loc rfl ?_
    refine w_loc rfl ?_
    refine w_callE h rfl (pz_cokI is_2 rfl) (fun iv0 hp => ?_)
    refine w_ret rfl ?_
    exact ⟨iv0, dv, cc, ss, rfl, rfl, by omega, by omega, hp⟩
  · refine pz_G_of pz_b198_0 ?_
    refine w_loc rfl ?_
    refine w_loc rfl ?_
    refine w_loc rfl ?_
    refine w_callhE h rfl (pz_cokI is_2 rfl) hl (fun iv0 hp => ?_)
    subst hc
    exact ⟨iv0, dv, cc + 1, ss + 6, rfl, rfl, by omega, by omega, hp⟩
theorem t_w199 {L : Nat} {iv : Nat → Nat → Int} {o : Option pz_V ⊕ Nat} {Φ : (Nat → Nat → Int) → Prop} {c : Int} {a1 : Int} {a2 : Int} (h : pz_RE (pz_Sh L) 134 [.inr (.inl 2), .inl a1, .inl a2] iv o Φ) (ho : t_an (pz_hc 199) o c) (hz : ∀ {b : Int}, o = .inl (some (.inl b)) → b = 0 ∨ b = 1) : t_O L 199 [.inr (.inl 2), .inl a1, .inl a2] iv (.inl c) 1 Φ := by
  intro dv cc ss
  show pz_G 199 0 [some (.inr (.inl 2)), some (.inl a1), some (.inl a2), none] [] (pz_Sh L, iv, dv, cc, ss) (t_OP L (.inl c) 1 Φ cc ss)
  rcases ho with ho | ⟨E, q, ho, hl, hc⟩ <;> subst ho
  · refine pz_G_of pz_b199_0 ?_
    refine w_loc rfl ?_
    refine w_loc rfl ?_
    refine w_loc rfl ?_
    refine w_callE h rfl (pz_cokI is_2 rfl) (fun iv0 hp => ?_)
    rcases hz rfl with e9 | e9 <;> subst e9
    · refine w_zeq (fun _ => ?_) (fun h9 => absurd rfl h9)
      refine pz_G_of pz_b199_13 ?_
      refine w_pure rfl ?_
      refine w_nil ?_
      refine pz_G_of pz_b199_14 ?_
      refine w_ret rfl ?_
      exact ⟨iv0, dv, cc, ss, rfl, rfl, by omega, by omega, hp⟩
    · refine w_zeq (fun h9 => absurd h9 (by decide)) (fun _ => ?_)
      refine w_pure rfl ?_
      refine w_goto ?_
      refine pz_G_of pz_b199_14 ?_
      refine w_ret rfl ?_
      exact ⟨iv0, dv, cc, ss, rfl, rfl, by omega, by omega, hp⟩
  · refine pz_G_of pz_b199_0 ?_
    refine w_loc rfl ?_
    refine w_loc rfl ?_
    refine w_loc rfl ?_
    refine w_callhE h rfl (pz_cokI is_2 rfl) hl (fun iv0 hp => ?_)
    subst hc
    exact ⟨iv0, dv, cc + 1, ss + 6, rfl, rfl, by omega, by omega, hp⟩
theorem t_w200 {L : Nat} {iv : Nat → Nat → Int} {o : Option pz_V ⊕ Nat} {Φ : (Nat → Nat → Int) → Prop} {c : Int} (h : pz_RE (pz_Sh L) 135 [.inr (.inl 2)] iv o Φ) (ho : t_an (pz_hc 200) o c) : t_O L 200 [.inr (.inl 2)] iv (.inl c) 1 Φ := by
  intro dv cc ss
  show pz_G 200 0 [some (.inr (.inl 2)), none] [] (pz_Sh L, iv, dv, cc, ss) (t_OP L (.inl c) 1 Φ cc ss)
  rcases ho with ho | ⟨E, q, ho, hl, hc⟩ <;> subst ho
  · refine pz_G_of pz_b200_0 ?_
    refine w_loc rfl ?_
    refine w_callE h rfl (pz_cokI is_2 rfl) (fun iv0 hp => ?_)
    refine w_ret rfl ?_
    exact ⟨iv0, dv, cc, ss, rfl, rfl, by omega, by omega, hp⟩
  · refine pz_G_of pz_b200_0 ?_
    refine w_loc rfl ?_
    refine w_callhE h rfl (pz_cokI is_2 rfl) hl (fun iv0 hp => ?_)
    subst hc
    exact ⟨iv0, dv, cc + 1, ss + 6, rfl, rfl, by omega, by omega, hp⟩
theorem t_w201 {L : Nat} {iv : Nat → Nat → Int} {o : Option pz_V ⊕ Nat} {Φ : (Nat → Nat → Int) → Prop} {c : Int} {a1 : Int} (h : pz_RE (pz_Sh L) 136 [.inr (.inl 2), .inl a1] iv o Φ) (ho : t_an (pz_hc 201) o c) : t_O L 201 [.inr (.inl 2), .inl a1] iv (.inl c) 1 Φ := by
  intro dv cc ss
  show pz_G 201 0 [some (.inr (.inl 2)), some (.inl a1), none] [] (pz_Sh L, iv, dv, cc, ss) (t_OP L (.inl c) 1 Φ cc ss)
  rcases ho with ho | ⟨E, q, ho, hl, hc⟩ <;> subst ho
  · refine pz_G_of pz_b201_0 ?_
    refine w_loc rfl ?_
    refine w_loc rfl ?_
    refine w_callE h rfl (pz_cokI is_2 rfl) (fun iv0 hp => ?_)
    refine w_ret rfl ?_
    exact ⟨iv0, dv, cc, ss, rfl, rfl, by omega, by omega, hp⟩
  · refine pz_G_of pz_b201_0 ?_
    refine w_loc rfl ?_
    refine w_loc rfl ?_
    refine w_callhE h rfl (pz_cokI is_2 rfl) hl (fun iv0 hp => ?_)
    subst hc
    exact ⟨iv0, dv, cc + 1, ss + 6, rfl, rfl, by omega, by omega, hp⟩
theorem t_w202 {L : Nat} {iv : Nat → Nat → Int} {o : Option pz_V ⊕ Nat} {Φ : (Nat → Nat → Int) → Prop} {c : Int} {a1 : Int} {a2 : Int} (h : pz_RE (pz_Sh L) 141 [.inr (.inl 2), .inl a1, .inl a2] iv o Φ) (ho : t_an (pz_hc 202) o c) : t_O L 202 [.inr (.inl 2), .inl a1, .inl a2] iv (.inl c) 1 Φ := by
  intro dv cc ss
  show pz_G 202 0 [some (.inr (.inl 2)), some (.inl a1), some (.inl a2), none] [] (pz_Sh L, iv, dv, cc, ss) (t_OP L (.inl c) 1 Φ cc ss)
  rcases ho with ho | ⟨E, q, ho, hl, hc⟩ <;> subst ho
  · refine pz_G_of pz_b202_0 ?_
    refine w_loc rfl ?_
    refine w_loc rfl ?_
    refine w_loc rfl ?_
    refine w_callE h rfl (pz_cokI is_2 rfl) (fun iv0 hp => ?_)
    refine w_ret rfl ?_
    exact ⟨iv0, dv, cc, ss, rfl, rfl, by omega, by omega, hp⟩
  · refine pz_G_of pz_b202_0 ?_
    refine w_loc rfl ?_
    refine w_loc rfl ?_
    refine w_loc rfl ?_
    refine w_callhE h rfl (pz_cokI is_2 rfl) hl (fun iv0 hp => ?_)
    subst hc
    exact ⟨iv0, dv, cc + 1, ss + 6, rfl, rfl, by omega, by omega, hp⟩
theorem t_w203 {L : Nat} {iv : Nat → Nat → Int} {o : Option pz_V ⊕ Nat} {Φ : (Nat → Nat → Int) → Prop} {c : Int} {a1 : Int} {a2 : Int} (h : pz_RE (pz_Sh L) 142 [.inr (.inl 2), .inl a1, .inl a2] iv o Φ) (ho : t_an (pz_hc 203) o c) : t_O L 203 [.inr (.inl 2), .inl a1, .inl a2] iv (.inl c) 1 Φ := by
  intro dv cc ss
  show pz_G 203 0 [some (.inr (.inl 2)), some (.inl a1), some (.inl a2), none] [] (pz_Sh L, iv, dv, cc, ss) (t_OP L (.inl c) 1 Φ cc ss)
  rcases ho with ho | ⟨E, q, ho, hl, hc⟩ <;> subst ho
  · refine pz_G_of pz_b203_0 ?_
    refine w_loc rfl ?_
    refine w_loc rfl ?_
    refine w_loc rfl ?_
    refine w_callE h rfl (pz_cokI is_2 rfl) (fun iv0 hp => ?_)
    refine w_ret rfl ?_
    exact ⟨iv0, dv, cc, ss, rfl, rfl, by omega, by omega, hp⟩
  · refine pz_G_of pz_b203_0 ?_
    refine w_loc rfl ?_
    refine w_loc rfl ?_
    refine w_loc rfl ?_
    refine w_callhE h rfl (pz_cokI is_2 rfl) hl (fun iv0 hp => ?_)
    subst hc
    exact ⟨iv0, dv, cc + 1, ss + 6, rfl, rfl, by omega, by omega, hp⟩
theorem t_w204 {L : Nat} {iv : Nat → Nat → Int} {o : Option pz_V ⊕ Nat} {Φ : (Nat → Nat → Int) → Prop} {c : Int} {a1 : Int} (h : pz_RE (pz_Sh L) 143 [.inr (.inl 2), .inl a1] iv o Φ) (ho : t_an (pz_hc 204) o c) : t_O L 204 [.inr (.inl 2), .inl a1] iv (.inl c) 1 Φ := by
  intro dv cc ss
  show pz_G 204 0 [some (.inr (.inl 2)), some (.inl a1), none] [] (pz_Sh L, iv, dv, cc, ss) (t_OP L (.inl c) 1 Φ cc ss)
  rcases ho with ho | ⟨E, q, ho, hl, hc⟩ <;> subst ho
  · refine pz_G_of pz_b204_0 ?_
    refine w_loc rfl ?_
    refine w_loc rfl ?_
    refine w_callE h rfl (pz_cokI is_2 rfl) (fun iv0 hp => ?_)
    refine w_ret rfl ?_
    exact ⟨iv0, dv, cc, ss, rfl, rfl, by omega, by omega, hp⟩
  · refine pz_G_of pz_b204_0 ?_
    refine w_loc rfl ?_
    refine w_loc rfl ?_
    refine w_callhE h rfl (pz_cokI is_2 rfl) hl (fun iv0 hp => ?_)
    subst hc
    exact ⟨iv0, dv, cc + 1, ss + 6, rfl, rfl, by omega, by omega, hp⟩
theorem t_w205 {L : Nat} {iv : Nat → Nat → Int} {o : Option pz_V ⊕ Nat} {Φ : (Nat → Nat → Int) → Prop} {c : Int} {a1 : Int} (h : pz_RE (pz_Sh L) 144 [.inr (.inl 2), .inl a1] iv o Φ) (ho : t_an (pz_hc 205) o c) : t_O L 205 [.inr (.inl 2), .inl a1] iv (.inl c) 1 Φ := by
  intro dv cc ss
  show pz_G 205 0 [some (.inr (.inl 2)), some (.inl a1), none] [] (pz_Sh L, iv, dv, cc, ss) (t_OP L (.inl c) 1 Φ cc ss)
  rcases ho with ho | ⟨E, q, ho, hl, hc⟩ <;> subst ho
  · refine pz_G_of pz_b205_0 ?_
    refine w_loc rfl ?_
    refine w_loc rfl ?_
    refine w_callE h rfl (pz_cokI is_2 rfl) (fun iv0 hp => ?_)
    refine w_ret rfl ?_
    exact ⟨iv0, dv, cc, ss, rfl, rfl, by omega, by omega, hp⟩
  · refine pz_G_of pz_b205_0 ?_
    refine w_loc rfl ?_
    refine w_loc rfl ?_
    refine w_callhE h rfl (pz_cokI is_2 rfl) hl (fun iv0 hp => ?_)
    subst hc
    exact ⟨iv0, dv, cc + 1, ss + 6, rfl, rfl, by omega, by omega, hp⟩
theorem t_w206 {L : Nat} {iv : Nat → Nat → Int} {o : Option pz_V ⊕ Nat} {Φ : (Nat → Nat → Int) → Prop} {c : Int} {a1 : Int} (h : pz_RE (pz_Sh L) 145 [.inr (.inl 2), .inl a1] iv o Φ) (ho : t_an (pz_hc 206) o c) : t_O L 206 [.inr (.inl 2), .inl a1] iv (.inl c) 1 Φ := by
  intro dv cc ss
  show pz_G 206 0 [some (.inr (.inl 2)), some (.inl a1), none] [] (pz_Sh L, iv, dv, cc, ss) (t_OP L (.inl c) 1 Φ cc ss)
  rcases ho with ho | ⟨E, q, ho, hl, hc⟩ <;> subst ho
  · refine pz_G_of pz_b206_0 ?_
    refine w_loc rfl ?_
    refine w_loc rfl ?_
    refine w_callE h rfl (pz_cokI is_2 rfl) (fun iv0 hp => ?_)
    refine w_ret rfl ?_
    exact ⟨iv0, dv, cc, ss, rfl, rfl, by omega, by omega, hp⟩
  · refine pz_G_of pz_b206_0 ?_
    refine w_loc rfl ?_
    refine w_loc rfl ?_
    refine w_callhE h rfl (pz_cokI is_2 rfl) hl (fun iv0 hp => ?_)
    subst hc
    exact ⟨iv0, dv, cc + 1, ss + 6, rfl, rfl, by omega, by omega, hp⟩
theorem t_w207 {L : Nat} {iv : Nat → Nat → Int} {o : Option pz_V ⊕ Nat} {Φ : (Nat → Nat → Int) → Prop} {c : Int} (h : pz_RE (pz_Sh L) 146 [.inr (.inl 2)] iv o Φ) (ho : t_an (pz_hc 207) o c) (hz : ∀ {b : Int}, o = .inl (some (.inl b)) → b = 0 ∨ b = 1) : t_O L 207 [.inr (.inl 2)] iv (.inl c) 1 Φ := by
  intro dv cc ss
  show pz_G 207 0 [some (.inr (.inl 2)), none] [] (pz_Sh L, iv, dv, cc, ss) (t_OP L (.inl c) 1 Φ cc ss)
  rcases ho with ho | ⟨E, q, ho, hl, hc⟩ <;> subst ho
  · refine pz_G_of pz_b207_0 ?_
    refine w_loc rfl ?_
    refine w_callE h rfl (pz_cokI is_2 rfl) (fun iv0 hp => ?_)
    rcases hz rfl with e9 | e9 <;> subst e9
    · refine w_zeq (fun _ => ?_) (fun h9 => absurd rfl h9)
      refine pz_G_of pz_b207_11 ?_
      refine w_pure rfl ?_
      refine w_nil ?_
      refine pz_G_of pz_b207_12 ?_
      refine w_ret rfl ?_
      exact ⟨iv0, dv, cc, ss, rfl, rfl, by omega, by omega, hp⟩
    · refine w_zeq (fun h9 => absurd h9 (by decide)) (fun _ => ?_)
      refine w_pure rfl ?_
      refine w_goto ?_
      refine pz_G_of pz_b207_12 ?_
      refine w_ret rfl ?_
      exact ⟨iv0, dv, cc, ss, rfl, rfl, by omega, by omega, hp⟩
  · refine pz_G_of pz_b207_0 ?_
    refine w_loc rfl ?_
    refine w_callhE h rfl (pz_cokI is_2 rfl) hl (fun iv0 hp => ?_)
    subst hc
    exact ⟨iv0, dv, cc + 1, ss + 6, rfl, rfl, by omega, by omega, hp⟩
theorem t_w208 {L : Nat} {iv : Nat → Nat → Int} {o : Option pz_V ⊕ Nat} {Φ : (Nat → Nat → Int) → Prop} {c : Int} {a1 : Int} (h : pz_RE (pz_Sh L) 147 [.inr (.inl 2), .inl a1] iv o Φ) (ho : t_an (pz_hc 208) o c) : t_O L 208 [.inr (.inl 2), .inl a1] iv (.inl c) 1 Φ := by
  intro dv cc ss
  show pz_G 208 0 [some (.inr (.inl 2)), some (.inl a1), none] [] (pz_Sh L, iv, dv, cc, ss) (t_OP L (.inl c) 1 Φ cc ss)
  rcases ho with ho | ⟨E, q, ho, hl, hc⟩ <;> subst ho
  · refine pz_G_of pz_b208_0 ?_
    refine w_loc rfl ?_
    refine w_loc rfl ?_
    refine w_callE h rfl (pz_cokI is_2 rfl) (fun iv0 hp => ?_)
    refine w_ret rfl ?_
    exact ⟨iv0, dv, cc, ss, rfl, rfl, by omega, by omega, hp⟩
  · refine pz_G_of pz_b208_0 ?_
    refine w_loc rfl ?_
    refine w_loc rfl ?_
    refine w_callhE h rfl (pz_cokI is_2 rfl) hl (fun iv0 hp => ?_)
    subst hc
    exact ⟨iv0, dv, cc + 1, ss + 6, rfl, rfl, by omega, by omega, hp⟩
theorem t_w209 {L : Nat} {iv : Nat → Nat → Int} {o : Option pz_V ⊕ Nat} {Φ : (Nat → Nat → Int) → Prop} {c : Int} {a1 : Int} (h : pz_RE (pz_Sh L) 148 [.inr (.inl 2), .inl a1] iv o Φ) (ho : t_an (pz_hc 209) o c) : t_O L 209 [.inr (.inl 2), .inl a1] iv (.inl c) 1 Φ := by
  intro dv cc ss
  show pz_G 209 0 [some (.inr (.inl 2)), some (.inl a1), none] [] (pz_Sh L, iv, dv, cc, ss) (t_OP L (.inl c) 1 Φ cc ss)
  rcases ho with ho | ⟨E, q, ho, hl, hc⟩ <;> subst ho
  · refine pz_G_of pz_b209_0 ?_
    refine w_loc rfl ?_
    refine w_loc rfl ?_
    refine w_callE h rfl (pz_cokI is_2 rfl) (fun iv0 hp => ?_)
    refine w_ret rfl ?_
    exact ⟨iv0, dv, cc, ss, rfl, rfl, by omega, by omega, hp⟩
  · refine pz_G_of pz_b209_0 ?_
    refine w_loc rfl ?_
    refine w_loc rfl ?_
    refine w_callhE h rfl (pz_cokI is_2 rfl) hl (fun iv0 hp => ?_)
    subst hc
    exact ⟨iv0, dv, cc + 1, ss + 6, rfl, rfl, by omega, by omega, hp⟩
theorem t_w210 {L : Nat} {iv : Nat → Nat → Int} {o : Option pz_V ⊕ Nat} {Φ : (Nat → Nat → Int) → Prop} {c : Int} {a1 : Int} (h : pz_RE (pz_Sh L) 149 [.inr (.inl 2), .inl a1] iv o Φ) (ho : t_an (pz_hc 210) o c) : t_O L 210 [.inr (.inl 2), .inl a1] iv (.inl c) 1 Φ := by
  intro dv cc ss
  show pz_G 210 0 [some (.inr (.inl 2)), some (.inl a1), none] [] (pz_Sh L, iv, dv, cc, ss) (t_OP L (.inl c) 1 Φ cc ss)
  rcases ho with ho | ⟨E, q, ho, hl, hc⟩ <;> subst ho
  · refine pz_G_of pz_b210_0 ?_
    refine w_loc rfl ?_
    refine w_loc rfl ?_
    refine w_callE h rfl (pz_cokI is_2 rfl) (fun iv0 hp => ?_)
    refine w_ret rfl ?_
    exact ⟨iv0, dv, cc, ss, rfl, rfl, by omega, by omega, hp⟩
  · refine pz_G_of pz_b210_0 ?_
    refine w_loc rfl ?_
    refine w_loc rfl ?_
    refine w_callhE h rfl (pz_cokI is_2 rfl) hl (fun iv0 hp => ?_)
    subst hc
    exact ⟨iv0, dv, cc + 1, ss + 6, rfl, rfl, by omega, by omega, hp⟩
theorem t_w211 {L : Nat} {iv : Nat → Nat → Int} {o : Option pz_V ⊕ Nat} {Φ : (Nat → Nat → Int) → Prop} {c : Int} {a1 : Int} (h : pz_RE (pz_Sh L) 150 [.inr (.inl 2), .inl a1] iv o Φ) (ho : t_an (pz_hc 211) o c) : t_O L 211 [.inr (.inl 2), .inl a1] iv (.inl c) 1 Φ := by
  intro dv cc ss
  show pz_G 211 0 [some (.inr (.inl 2)), some (.inl a1), none] [] (pz_Sh L, iv, dv, cc, ss) (t_OP L (.inl c) 1 Φ cc ss)
  rcases ho with ho | ⟨E, q, ho, hl, hc⟩ <;> subst ho
  · refine pz_G_of pz_b211_0 ?_
    refine w_loc rfl ?_
    refine w_loc rfl ?_
    refine w_callE h rfl (pz_cokI is_2 rfl) (fun iv0 hp => ?_)
    refine w_ret rfl ?_
    exact ⟨iv0, dv, cc, ss, rfl, rfl, by omega, by omega, hp⟩
  · refine pz_G_of pz_b211_0 ?_
    refine w_loc rfl ?_
    refine w_loc rfl ?_
    refine w_callhE h rfl (pz_cokI is_2 rfl) hl (fun iv0 hp => ?_)
    subst hc
    exact ⟨iv0, dv, cc + 1, ss + 6, rfl, rfl, by omega, by omega, hp⟩
theorem t_w212 {L : Nat} {iv : Nat → Nat → Int} {o : Option pz_V ⊕ Nat} {Φ : (Nat → Nat → Int) → Prop} {c : Int} {a1 : Int} (h : pz_RE (pz_Sh L) 151 [.inr (.inl 2), .inl a1] iv o Φ) (ho : t_an (pz_hc 212) o c) : t_O L 212 [.inr (.inl 2), .inl a1] iv (.inl c) 1 Φ := by
  intro dv cc ss
  show pz_G 212 0 [some (.inr (.inl 2)), some (.inl a1), none] [] (pz_Sh L, iv, dv, cc, ss) (t_OP L (.inl c) 1 Φ cc ss)
  rcases ho with ho | ⟨E, q, ho, hl, hc⟩ <;> subst ho
  · refine pz_G_of pz_b212_0 ?_
    refine w_loc rfl ?_
    refine w_loc rfl ?_
    refine w_callE h rfl (pz_cokI is_2 rfl) (fun iv0 hp => ?_)
    refine w_ret rfl ?_
    exact ⟨iv0, dv, cc, ss, rfl, rfl, by omega, by omega, hp⟩
  · refine pz_G_of pz_b212_0 ?_
    refine w_loc rfl ?_
    refine w_loc rfl ?_
    refine w_callhE h rfl (pz_cokI is_2 rfl) hl (fun iv0 hp => ?_)
    subst hc
    exact ⟨iv0, dv, cc + 1, ss + 6, rfl, rfl, by omega, by omega, hp⟩
theorem t_w213 {L : Nat} {iv : Nat → Nat → Int} {o : Option pz_V ⊕ Nat} {Φ : (Nat → Nat → Int) → Prop} {c : Int} {a1 : Int} (h : pz_RE (pz_Sh L) 152 [.inr (.inl 2), .inl a1] iv o Φ) (ho : t_an (pz_hc 213) o c) : t_O L 213 [.inr (.inl 2), .inl a1] iv (.inl c) 1 Φ := by
  intro dv cc ss
  show pz_G 213 0 [some (.inr (.inl 2)), some (.inl a1), none] [] (pz_Sh L, iv, dv, cc, ss) (t_OP L (.inl c) 1 Φ cc ss)
  rcases ho with ho | ⟨E, q, ho, hl, hc⟩ <;> subst ho
  · refine pz_G_of pz_b213_0 ?_
    refine w_loc rfl ?_
    refine w_loc rfl ?_
    refine w_callE h rfl (pz_cokI is_2 rfl) (fun iv0 hp => ?_)
    refine w_ret rfl ?_
    exact ⟨iv0, dv, cc, ss, rfl, rfl, by omega, by omega, hp⟩
  · refine pz_G_of pz_b213_0 ?_
    refine w_loc rfl ?_
    refine w_loc rfl ?_
    refine w_callhE h rfl (pz_cokI is_2 rfl) hl (fun iv0 hp => ?_)
    subst hc
    exact ⟨iv0, dv, cc + 1, ss + 6, rfl, rfl, by omega, by omega, hp⟩
theorem t_w214 {L : Nat} {iv : Nat → Nat → Int} {o : Option pz_V ⊕ Nat} {Φ : (Nat → Nat → Int) → Prop} {c : Int} {a1 : Int} (h : pz_RE (pz_Sh L) 154 [.inr (.inl 2), .inl a1] iv o Φ) (ho : t_an (pz_hc 214) o c) : t_O L 214 [.inr (.inl 2), .inl a1] iv (.inl c) 1 Φ := by
  intro dv cc ss
  show pz_G 214 0 [some (.inr (.inl 2)), some (.inl a1), none] [] (pz_Sh L, iv, dv, cc, ss) (t_OP L (.inl c) 1 Φ cc ss)
  rcases ho with ho | ⟨E, q, ho, hl, hc⟩ <;> subst ho
  · refine pz_G_of pz_b214_0 ?_
    refine w_loc rfl ?_
    refine w_loc rfl ?_
    refine w_callE h rfl (pz_cokI is_2 rfl) (fun iv0 hp => ?_)
    refine w_ret rfl ?_
    exact ⟨iv0, dv, cc, ss, rfl, rfl, by omega, by omega, hp⟩
  · refine pz_G_of pz_b214_0 ?_
    refine w_loc rfl ?_
    refine w_loc rfl ?_
    refine w_callhE h rfl (pz_cokI is_2 rfl) hl (fun iv0 hp => ?_)
    subst hc
    exact ⟨iv0, dv, cc + 1, ss + 6, rfl, rfl, by omega, by omega, hp⟩
theorem t_w215 {L : Nat} {iv : Nat → Nat → Int} {o : Option pz_V ⊕ Nat} {Φ : (Nat → Nat → Int) → Prop} {c : Int} {a1 : Int} {a2 : Int} {a3 : Int} (h : pz_RE (pz_Sh L) 155 [.inr (.inl 2), .inl a1, .inl a2, .inl a3] iv o Φ) (ho : t_an (pz_hc 215) o c) : t_O L 215 [.inr (.inl 2), .inl a1, .inl a2, .inl a3] iv (.inl c) 1 Φ := by
  intro dv cc ss
  show pz_G 215 0 [some (.inr (.inl 2)), some (.inl a1), some (.inl a2), some (.inl a3), none] [] (pz_Sh L, iv, dv, cc, ss) (t_OP L (.inl c) 1 Φ cc ss)
  rcases ho with ho | ⟨E, q, ho, hl, hc⟩ <;> subst ho
  · refine pz_G_of pz_b215_0 ?_
    refine w_loc rfl ?_
    refine w_loc rfl ?_
    refine w_loc rfl ?_
    refine w_loc rfl ?_
    refine w_callE h rfl (pz_cokI is_2 rfl) (fun iv0 hp => ?_)
    refine w_ret rfl ?_
    exact ⟨iv0, dv, cc, ss, rfl, rfl, by omega, by omega, hp⟩
  · refine pz_G_of pz_b215_0 ?_
    refine w_loc rfl ?_
    refine w_loc rfl ?_
    refine w_loc rfl ?_
    refine w_loc rfl ?_
    refine w_callhE h rfl (pz_cokI is_2 rfl) hl (fun iv0 hp => ?_)
    subst hc
    exact ⟨iv0, dv, cc + 1, ss + 6, rfl, rfl, by omega, by omega, hp⟩
theorem t_w216 {L : Nat} {iv : Nat → Nat → Int} {o : Option pz_V ⊕ Nat} {Φ : (Nat → Nat → Int) → Prop} {c : Int} {a1 : Int} (h : pz_RE (pz_Sh L) 156 [.inr (.inl 2), .inl a1] iv o Φ) (ho : t_an (pz_hc 216) o c) : t_O L 216 [.inr (.inl 2), .inl a1] iv (.inl c) 1 Φ := by
  intro dv cc ss
  show pz_G 216 0 [some (.inr (.inl 2)), some (.inl a1), none] [] (pz_Sh L, iv, dv, cc, ss) (t_OP L (.inl c) 1 Φ cc ss)
  rcases ho with ho | ⟨E, q, ho, hl, hc⟩ <;> subst ho
  · refine pz_G_of pz_b216_0 ?_
    refine w_loc rfl ?_
    refine w_loc rfl ?_
    refine w_callE h rfl (pz_cokI is_2 rfl) (fun iv0 hp => ?_)
    refine w_ret rfl ?_
    exact ⟨iv0, dv, cc, ss, rfl, rfl, by omega, by omega, hp⟩
  · refine pz_G_of pz_b216_0 ?_
    refine w_loc rfl ?_
    refine w_loc rfl ?_
    refine w_callhE h rfl (pz_cokI is_2 rfl) hl (fun iv0 hp => ?_)
    subst hc
    exact ⟨iv0, dv, cc + 1, ss + 6, rfl, rfl, by omega, by omega, hp⟩
theorem t_w217 {L : Nat} {iv : Nat → Nat → Int} {o : Option pz_V ⊕ Nat} {Φ : (Nat → Nat → Int) → Prop} {c : Int} {a1 : Int} (h : pz_RE (pz_Sh L) 157 [.inr (.inl 2), .inl a1] iv o Φ) (ho : t_an (pz_hc 217) o c) : t_O L 217 [.inr (.inl 2), .inl a1] iv (.inl c) 1 Φ := by
  intro dv cc ss
  show pz_G 217 0 [some (.inr (.inl 2)), some (.inl a1), none] [] (pz_Sh L, iv, dv, cc, ss) (t_OP L (.inl c) 1 Φ cc ss)
  rcases ho with ho | ⟨E, q, ho, hl, hc⟩ <;> subst ho
  · refine pz_G_of pz_b217_0 ?_
    refine w_loc rfl ?_
    refine w_loc rfl ?_
    refine w_callE h rfl (pz_cokI is_2 rfl) (fun iv0 hp => ?_)
    refine w_ret rfl ?_
    exact ⟨iv0, dv, cc, ss, rfl, rfl, by omega, by omega, hp⟩
  · refine pz_G_of pz_b217_0 ?_
    refine w_loc rfl ?_
    refine w_loc rfl ?_
    refine w_callhE h rfl (pz_cokI is_2 rfl) hl (fun iv0 hp => ?_)
    subst hc
    exact ⟨iv0, dv, cc + 1, ss + 6, rfl, rfl, by omega, by omega, hp⟩
theorem t_w218 {L : Nat} {iv : Nat → Nat → Int} {o : Option pz_V ⊕ Nat} {Φ : (Nat → Nat → Int) → Prop} {c : Int} {a1 : Int} (h : pz_RE (pz_Sh L) 158 [.inr (.inl 2), .inl a1] iv o Φ) (ho : t_an (pz_hc 218) o c) : t_O L 218 [.inr (.inl 2), .inl a1] iv (.inl c) 1 Φ := by
  intro dv cc ss
  show pz_G 218 0 [some (.inr (.inl 2)), some (.inl a1), none] [] (pz_Sh L, iv, dv, cc, ss) (t_OP L (.inl c) 1 Φ cc ss)
  rcases ho with ho | ⟨E, q, ho, hl, hc⟩ <;> subst ho
  · refine pz_G_of pz_b218_0 ?_
    refine w_loc rfl ?_
    refine w_loc rfl ?_
    refine w_callE h rfl (pz_cokI is_2 rfl) (fun iv0 hp => ?_)
    refine w_ret rfl ?_
    exact ⟨iv0, dv, cc, ss, rfl, rfl, by omega, by omega, hp⟩
  · refine pz_G_of pz_b218_0 ?_
    refine w_loc rfl ?_
    refine w_loc rfl ?_
    refine w_callhE h rfl (pz_cokI is_2 rfl) hl (fun iv0 hp => ?_)
    subst hc
    exact ⟨iv0, dv, cc + 1, ss + 6, rfl, rfl, by omega, by omega, hp⟩
theorem t_w219 {L : Nat} {iv : Nat → Nat → Int} {o : Option pz_V ⊕ Nat} {Φ : (Nat → Nat → Int) → Prop} {c : Int} (h : pz_RE (pz_Sh L) 159 [.inr (.inl 2)] iv o Φ) (ho : t_an (pz_hc 219) o c) : t_O L 219 [.inr (.inl 2)] iv (.inl c) 1 Φ := by
  intro dv cc ss
  show pz_G 219 0 [some (.inr (.inl 2)), none] [] (pz_Sh L, iv, dv, cc, ss) (t_OP L (.inl c) 1 Φ cc ss)
  rcases ho with ho | ⟨E, q, ho, hl, hc⟩ <;> subst ho
  · refine pz_G_of pz_b219_0 ?_
    refine w_loc rfl ?_
    refine w_callE h rfl (pz_cokI is_2 rfl) (fun iv0 hp => ?_)
    refine w_ret rfl ?_
    exact ⟨iv0, dv, cc, ss, rfl, rfl, by omega, by omega, hp⟩
  · refine pz_G_of pz_b219_0 ?_
    refine w_loc rfl ?_
    refine w_callhE h rfl (pz_cokI is_2 rfl) hl (fun iv0 hp => ?_)
    subst hc
    exact ⟨iv0, dv, cc + 1, ss + 6, rfl, rfl, by omega, by omega, hp⟩
theorem t_w220 {L : Nat} {iv : Nat → Nat → Int} {o : Option pz_V ⊕ Nat} {Φ : (Nat → Nat → Int) → Prop} {c : Int} (h : pz_RE (pz_Sh L) 160 [.inr (.inl 2)] iv o Φ) (ho : t_an (pz_hc 220) o c) : t_O L 220 [.inr (.inl 2)] iv (.inl c) 1 Φ := by
  intro dv cc ss
  show pz_G 220 0 [some (.inr (.inl 2)), none] [] (pz_Sh L, iv, dv, cc, ss) (t_OP L (.inl c) 1 Φ cc ss)
  rcases ho with ho | ⟨E, q, ho, hl, hc⟩ <;> subst ho
  · refine pz_G_of pz_b220_0 ?_
    refine w_loc rfl ?_
    refine w_callE h rfl (pz_cokI is_2 rfl) (fun iv0 hp => ?_)
    refine w_ret rfl ?_
    exact ⟨iv0, dv, cc, ss, rfl, rfl, by omega, by omega, hp⟩
  · refine pz_G_of pz_b220_0 ?_
    refine w_loc rfl ?_
    refine w_callhE h rfl (pz_cokI is_2 rfl) hl (fun iv0 hp => ?_)
    subst hc
    exact ⟨iv0, dv, cc + 1, ss + 6, rfl, rfl, by omega, by omega, hp⟩
theorem t_w221 {L : Nat} {iv : Nat → Nat → Int} {o : Option pz_V ⊕ Nat} {Φ : (Nat → Nat → Int) → Prop} {c : Int} (h : pz_RE (pz_Sh L) 162 [.inr (.inl 2)] iv o Φ) (ho : t_an (pz_hc 221) o c) : t_O L 221 [.inr (.inl 2)] iv (.inl c) 1 Φ := by
  intro dv cc ss
  show pz_G 221 0 [some (.inr (.inl 2)), none] [] (pz_Sh L, iv, dv, cc, ss) (t_OP L (.inl c) 1 Φ cc ss)
  rcases ho with ho | ⟨E, q, ho, hl, hc⟩ <;> subst ho
  · refine pz_G_of pz_b221_0 ?_
    refine w_loc rfl ?_
    refine w_callE h rfl (pz_cokI is_2 rfl) (fun iv0 hp => ?_)
    refine w_ret rfl ?_
    exact ⟨iv0, dv, cc, ss, rfl, rfl, by omega, by omega, hp⟩
  · refine pz_G_of pz_b221_0 ?_
    refine w_loc rfl ?_
    refine w_callhE h rfl (pz_cokI is_2 rfl) hl (fun iv0 hp => ?_)
    subst hc
    exact ⟨iv0, dv, cc + 1, ss + 6, rfl, rfl, by omega, by omega, hp⟩
theorem t_w222 {L : Nat} {iv : Nat → Nat → Int} {o : Option pz_V ⊕ Nat} {Φ : (Nat → Nat → Int) → Prop} {c : Int} {a1 : Int} {a2 : Int} {a3 : Int} {a4 : Int} (h : pz_RE (pz_Sh L) 163 [.inr (.inl 2), .inl a1, .inl a2, .inl a3, .inl a4] iv o Φ) (ho : t_an (pz_hc 222) o c) : t_O L 222 [.inr (.inl 2), .inl a1, .inl a2, .inl a3, .inl a4] iv (.inl c) 1 Φ := by
  intro dv cc ss
  show pz_G 222 0 [some (.inr (.inl 2)), some (.inl a1), some (.inl a2), some (.inl a3), some (.inl a4), none] [] (pz_Sh L, iv, dv, cc, ss) (t_OP L (.inl c) 1 Φ cc ss)
  rcases ho with ho | ⟨E, q, ho, hl, hc⟩ <;> subst ho
  · refine pz_G_of pz_b222_0 ?_
    refine w_loc rfl ?_
    refine w_loc rfl ?_
    refine w_loc rfl ?_
    refine w_loc rfl ?_
    refine w_loc rfl ?_
    refine w_callE h rfl (pz_cokI is_2 rfl) (fun iv0 hp => ?_)
    refine w_ret rfl ?_
    exact ⟨iv0, dv, cc, ss, rfl, rfl, by omega, by omega, hp⟩
  · refine pz_G_of pz_b222_0 ?_
    refine w_loc rfl ?_
    refine w_loc rfl ?_
    refine w_loc rfl ?_
    refine w_loc rfl ?_
    refine w_loc rfl ?_
    refine w_callhE h rfl (pz_cokI is_2 rfl) hl (fun iv0 hp => ?_)
    subst hc
    exact ⟨iv0, dv, cc + 1, ss + 6, rfl, rfl, by omega, by omega, hp⟩
theorem t_w223 {L : Nat} {iv : Nat → Nat → Int} {o : Option pz_V ⊕ Nat} {Φ : (Nat → Nat → Int) → Prop} {c : Int} {a1 : Int} {a2 : Int} (h : pz_RE (pz_Sh L) 164 [.inr (.inl 2), .inl a1, .inl a2] iv o Φ) (ho : t_an (pz_hc 223) o c) : t_O L 223 [.inr (.inl 2), .inl a1, .inl a2] iv (.inl c) 1 Φ := by
  intro dv cc ss
  show pz_G 223 0 [some (.inr (.inl 2)), some (.inl a1), some (.inl a2), none] [] (pz_Sh L, iv, dv, cc, ss) (t_OP L (.inl c) 1 Φ cc ss)
  rcases ho with ho | ⟨E, q, ho, hl, hc⟩ <;> subst ho
  · refine pz_G_of pz_b223_0 ?_
    refine w_loc rfl ?_
    refine w_loc rfl ?_
    refine w_loc rfl ?_
    refine w_callE h rfl (pz_cokI is_2 rfl) (fun iv0 hp => ?_)
    refine w_ret rfl ?_
    exact ⟨iv0, dv, cc, ss, rfl, rfl, by omega, by omega, hp⟩
  · refine pz_G_of pz_b223_0 ?_
    refine w_loc rfl ?_
    refine w_loc rfl ?_
    refine w_loc rfl ?_
    refine w_callhE h rfl (pz_cokI is_2 rfl) hl (fun iv0 hp => ?_)
    subst hc
    exact ⟨iv0, dv, cc + 1, ss + 6, rfl, rfl, by omega, by omega, hp⟩
theorem t_w224 {L : Nat} {iv : Nat → Nat → Int} {o : Option pz_V ⊕ Nat} {Φ : (Nat → Nat → Int) → Prop} {c : Int} (h : pz_RE (pz_Sh L) 166 [.inr (.inl 2)] iv o Φ) (ho : t_an (pz_hc 224) o c) : t_O L 224 [.inr (.inl 2)] iv (.inl c) 1 Φ := by
  intro dv cc ss
  show pz_G 224 0 [some (.inr (.inl 2)), none] [] (pz_Sh L, iv, dv, cc, ss) (t_OP L (.inl c) 1 Φ cc ss)
  rcases ho with ho | ⟨E, q, ho, hl, hc⟩ <;> subst ho
  · refine pz_G_of pz_b224_0 ?_
    refine w_loc rfl ?_
    refine w_callE h rfl (pz_cokI is_2 rfl) (fun iv0 hp => ?_)
    refine w_ret rfl ?_
    exact ⟨iv0, dv, cc, ss, rfl, rfl, by omega, by omega, hp⟩
  · refine pz_G_of pz_b224_0 ?_
    refine w_loc rfl ?_
    refine w_callhE h rfl (pz_cokI is_2 rfl) hl (fun iv0 hp => ?_)
    subst hc
    exact ⟨iv0, dv, cc + 1, ss + 6, rfl, rfl, by omega, by omega, hp⟩
theorem t_w225 {L : Nat} {iv : Nat → Nat → Int} {o : Option pz_V ⊕ Nat} {Φ : (Nat → Nat → Int) → Prop} {c : Int} (h : pz_RE (pz_Sh L) 167 [.inr (.inl 2)] iv o Φ) (ho : t_an (pz_hc 225) o c) : t_O L 225 [.inr (.inl 2)] iv (.inl c) 1 Φ := by
  intro dv cc ss
  show pz_G 225 0 [some (.inr (.inl 2)), none] [] (pz_Sh L, iv, dv, cc, ss) (t_OP L (.inl c) 1 Φ cc ss)
  rcases ho with ho | ⟨E, q, ho, hl, hc⟩ <;> subst ho
  · refine pz_G_of pz_b225_0 ?_
    refine w_loc rfl ?_
    refine w_callE h rfl (pz_cokI is_2 rfl) (fun iv0 hp => ?_)
    refine w_ret rfl ?_
    exact ⟨iv0, dv, cc, ss, rfl, rfl, by omega, by omega, hp⟩
  · refine pz_G_of pz_b225_0 ?_
    refine w_loc rfl ?_
    refine w_callhE h rfl (pz_cokI is_2 rfl) hl (fun iv0 hp => ?_)
    subst hc
    exact ⟨iv0, dv, cc + 1, ss + 6, rfl, rfl, by omega, by omega, hp⟩
