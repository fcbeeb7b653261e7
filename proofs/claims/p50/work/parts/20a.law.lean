/-! the law: what holds between two calls of it -/
def t_pn (k : Nat → Int) (iv : Nat → Nat → Int) (o : Nat) : Prop := q_cE k (iv (3 + o)) ∧ q_cB k (iv (4 + o)) (iv (5 + o)) (iv (6 + o)) (iv (7 + o)) (iv (8 + o)) (iv (9 + o)) ∧ q_cS k (iv (10 + o)) (iv (11 + o)) (iv (12 + o)) (iv (13 + o)) (iv (14 + o)) ∧ q_cC k (iv (15 + o)) (iv (16 + o)) ∧ q_cA k (iv (17 + o)) (iv (18 + o)) (iv (19 + o)) (iv (20 + o)) ∧ q_cO k (iv (22 + o)) (iv (23 + o)) (iv (24 + o)) ∧ q_cL k (iv (25 + o)) ∧ q_cP k (iv (27 + o))
theorem t_pn_rows {k : Nat → Int} {iv iv2 : Nat → Nat → Int} {o : Nat} (h : t_pn k iv o) (e : ∀ r, 3 + o ≤ r → r ≤ 27 + o → iv2 r = iv r) : t_pn k iv2 o := by
  unfold t_pn at h ⊢
  rw [e (3 + o) (by omega) (by omega), e (4 + o) (by omega) (by omega), e (5 + o) (by omega) (by omega), e (6 + o) (by omega) (by omega), e (7 + o) (by omega) (by omega), e (8 + o) (by omega) (by omega), e (9 + o) (by omega) (by omega), e (10 + o) (by omega) (by omega), e (11 + o) (by omega) (by omega), e (12 + o) (by omega) (by omega), e (13 + o) (by omega) (by omega), e (14 + o) (by omega) (by omega), e (15 + o) (by omega) (by omega), e (16 + o) (by omega) (by omega), e (17 + o) (by omega) (by omega), e (18 + o) (by omega) (by omega), e (19 + o) (by omega) (by omega), e (20 + o) (by omega) (by omega), e (22 + o) (by omega) (by omega), e (23 + o) (by omega) (by omega), e (24 + o) (by omega) (by omega), e (25 + o) (by omega) (by omega), e (27 + o) (by omega) (by omega)]
  exact h
abbrev t_ci (k : Nat → Int) (iv : Nat → Nat → Int) : Prop := q_CI k (iv 2) (iv 138) (iv 139) (iv 140) (iv 142) (iv 143) (iv 145) (iv 129) (iv 135)
/-- the script's row, the plan's row in the class's cells, caches, the law's own row, the open frame -/
def t_I (sc k d : Nat → Int) (n : Int) (kf : Nat → Int) (iv : Nat → Nat → Int) : Prop := iv 1 = sc ∧ q_KR k ∧ t_pn k iv 0 ∧ t_ci k iv ∧ iv 154 = d ∧ iv 2 2 = n ∧ (n = 1 → q_KR kf ∧ t_pn kf iv 26)
theorem t_u1 {α : Type} {f : Nat → α} {r q : Nat} {x : α} (h : q ≠ r) : pz_u1 f r x q = f q := if_neg h
theorem t_k1 {α : Type} {f g : Nat → α} {r q : Nat} {x : α} (hq : r ≠ q) (h : f r = g r) : pz_u1 f q x r = g r := (if_neg hq).trans h
theorem t_k2 {α : Type} {f g : Nat → α} {r q : Nat} {x : α} (hx : x = g q) (h : f r = g r) : pz_u1 f q x r = g r := by
  unfold pz_u1
  by_cases e : r = q
  · rw [if_pos e, e]; exact hx
  · rw [if_neg e]; exact h
/-- nothing of the plan changed -/
theorem t_I_keep {sc k d kf : Nat → Int} {n : Int} {iv iv2 : Nat → Nat → Int} (h : t_I sc k d n kf iv) (e : ∀ r, (r = 1 ∨ (3 ≤ r ∧ r < 129) ∨ r = 154) → iv2 r = iv r) (e2 : iv2 2 2 = iv 2 2) (hci : t_ci k iv2) : t_I sc k d n kf iv2 := by
  obtain ⟨a1, a2, a3, a4, a5, a6, a7⟩ := h
  exact ⟨by rw [e 1 (by omega)]; exact a1, a2, t_pn_rows a3 (fun r h1 h2 => e r (by omega)), hci, by rw [e 154 (by omega)]; exact a5, by rw [e2]; exact a6, fun q => ⟨(a7 q).1, t_pn_rows (a7 q).2 (fun r h1 h2 => e r (by omega))⟩⟩
/-- the plan changed, the frame did not -/
theorem t_I_mut {sc k k' d kf : Nat → Int} {n : Int} {iv iv2 : Nat → Nat → Int} (h : t_I sc k d n kf iv) (e : ∀ r, (r = 1 ∨ (28 ≤ r ∧ r < 129) ∨ r = 154) → iv2 r = iv r) (hk : q_KR k') (hpl : t_pn k' iv2 0) (e2 : iv2 2 2 = iv 2 2) (hci : t_ci k' iv2) : t_I sc k' d n kf iv2 := by
  obtain ⟨a1, a2, a3, a4, a5, a6, a7⟩ := h
  exact ⟨by rw [e 1 (by omega)]; exact a1, hk, hpl, hci, by rw [e 154 (by omega)]; exact a5, by rw [e2]; exact a6, fun q => ⟨(a7 q).1, t_pn_rows (a7 q).2 (fun r h1 h2 => e r (by omega))⟩⟩
/-- the law's own row changed alone -/
theorem t_I_d {sc k d d' kf : Nat → Int} {n : Int} {iv : Nat → Nat → Int} (h : t_I sc k d n kf iv) : t_I sc k d' n kf (pz_u1 iv 154 d') := by
  obtain ⟨a1, a2, a3, a4, a5, a6, a7⟩ := h
  exact ⟨a1, a2, t_pn_rows a3 (fun r h1 h2 => t_u1 (by omega)), a4, rfl, a6, fun q => ⟨(a7 q).1, t_pn_rows (a7 q).2 (fun r h1 h2 => t_u1 (by omega))⟩⟩
theorem t_ci0 {k : Nat → Int} {iv : Nat → Nat → Int} (h : iv 2 7 = 0 ∧ iv 2 8 = 0 ∧ iv 2 9 = 0) : t_ci k iv := ⟨Or.inl h.1, Or.inl h.2.1, Or.inl h.2.2⟩
theorem t_ci2 {k o n w d m V U j c : Nat → Int} {x : Int} (h : q_CI k o n w d m V U j c) : q_CI k (pz_up o 2 x) n w d m V U j c := ⟨h.1, h.2.1, h.2.2⟩
theorem t_RE {S : pz_S} {m : Nat} {as : List pz_V} {iv iv' : Nat → Nat → Int} {o : Option pz_V ⊕ Nat} (h : pz_R S m as iv o iv') : pz_RE S m as iv o (fun x => x = iv') := by
  intro dv cc ss
  obtain ⟨n, o2, h2, he, e1, e2⟩ := h dv cc ss
  exact ⟨n, o2, h2, he, iv', rfl, e1, e2⟩
theorem t_REi {S : pz_S} {m : Nat} {as : List pz_V} {iv : Nat → Nat → Int} {o : Option pz_V ⊕ Nat} {Φ Ψ : (Nat → Nat → Int) → Prop} (h : pz_RE S m as iv o Φ) (hi : ∀ x, Φ x → Ψ x) : pz_RE S m as iv o Ψ := by
  intro dv cc ss
  obtain ⟨n, o2, h2, he, iv', hp, e1, e2⟩ := h dv cc ss
  exact ⟨n, o2, h2, he, iv', hi _ hp, e1, e2⟩
/-- what a method of the law leaves: its answer, at most n throws -/
def t_OP (L : Nat) (v : pz_V) (n : Nat) (Φ : (Nat → Nat → Int) → Prop) (cc ss : Nat) : pz_Q := fun o h' => ∃ (iv1 : Nat → Nat → Int) (dv1 : Nat → Nat → UInt64) (c1 s1 : Nat), o = .inl (some v) ∧ h' = (pz_Sh L, iv1, dv1, c1, s1) ∧ c1 ≤ cc + n ∧ s1 ≤ ss + 6 * n ∧ Φ iv1
def t_O (L m : Nat) (as : List pz_V) (iv : Nat → Nat → Int) (v : pz_V) (n : Nat) (Φ : (Nat → Nat → Int) → Prop) : Prop := ∀ dv cc ss, pz_G m 0 (pz_en m as) [] (pz_Sh L, iv, dv, cc, ss) (t_OP L v n Φ cc ss)
theorem t_OE {L m : Nat} {as : List pz_V} {iv : Nat → Nat → Int} {v : pz_V} {Φ : (Nat → Nat → Int) → Prop} (h : pz_RE (pz_Sh L) m as iv (.inl (some v)) Φ) : t_O L m as iv v 0 Φ := by
  intro dv cc ss
  obtain ⟨n, o2, h2, he, iv', hp, e1, e2⟩ := h dv cc ss
  exact ⟨n, o2, h2, he, iv', dv, cc, ss, e1, e2, Nat.le_refl _, Nat.le_refl _, hp⟩
theorem t_Oi {L m n n' : Nat} {as : List pz_V} {iv : Nat → Nat → Int} {v : pz_V} {Φ Ψ : (Nat → Nat → Int) → Prop} (h : t_O L m as iv v n Φ) (hn : n ≤ n') (hi : ∀ x, Φ x → Ψ x) : t_O L m as iv v n' Ψ := by
  intro dv cc ss
  obtain ⟨q, o2, h2, he, iv', dv1, c1, s1, e1, e2, e3, e4, hp⟩ := h dv cc ss
  exact ⟨q, o2, h2, he, iv', dv1, c1, s1, e1, e2, by omega, by omega, hi _ hp⟩
/-- the class's outcome, told as a wrapper tells it -/
def t_an (hh : List (Nat × Nat)) (o : Option pz_V ⊕ Nat) (c : Int) : Prop := o = .inl (some (.inl c)) ∨ ∃ E q, o = .inr E ∧ pz_lk hh E = some q ∧ c = pz_hv q
theorem t_an_e {hh : List (Nat × Nat)} {E q : Nat} (h : pz_lk hh E = some q) : t_an hh (.inr E) (pz_hv q) := Or.inr ⟨E, q, rfl, h, rfl⟩
section TW
variable {m nx l a b c e : Nat} {ops : List pz_Op} {lc : pz_L} {sk : List pz_V} {Q : pz_Q} {ins : Instr}
theorem w_callO {L n cc ss : Nat} {as rest : List pz_V} {iv : Nat → Nat → Int} {dv : Nat → Nat → UInt64} {v : pz_V} {Φ : (Nat → Nat → Int) → Prop} (hr : t_O L a as iv v n Φ) (hst : sk = as.reverse ++ rest) (hk : pz_cok (pz_Sh L) b c as rest = true) (k : ∀ iv1 dv1 c1 s1, Φ iv1 → c1 ≤ cc + n → s1 ≤ ss + 6 * n → pz_W m nx ops lc (v :: rest) (pz_Sh L, iv1, dv1, c1, s1) Q) : pz_W m nx ((4, ins, l, a, b, c, e) :: ops) lc sk (pz_Sh L, iv, dv, cc, ss) Q := by
  obtain ⟨q, o, h1, he, iv1, dv1, c1, s1, ho, hh, hc, hs, hp⟩ := hr dv cc ss
  subst ho
  subst hh
  exact pz_call_w hst hk he (k iv1 dv1 c1 s1 hp hc hs)
end TW
