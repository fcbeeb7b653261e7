/-! the law: what holds between two calls; a call of the class and of the reference side by side -/
def t_pn (k : Nat → Int) (iv : Nat → Nat → Int) (o : Nat) : Prop := q_cE k (iv (3 + o)) ∧ q_cB k (iv (4 + o)) (iv (5 + o)) (iv (6 + o)) (iv (7 + o)) (iv (8 + o)) (iv (9 + o)) ∧ q_cS k (iv (10 + o)) (iv (11 + o)) (iv (12 + o)) (iv (13 + o)) (iv (14 + o)) ∧ q_cC k (iv (15 + o)) (iv (16 + o)) ∧ q_cA k (iv (17 + o)) (iv (18 + o)) (iv (19 + o)) (iv (20 + o)) ∧ q_cO k (iv (22 + o)) (iv (23 + o)) (iv (24 + o)) ∧ q_cL k (iv (25 + o)) ∧ q_cP k (iv (27 + o))
theorem t_pn_rows {k : Nat → Int} {iv iv2 : Nat → Nat → Int} {o : Nat} (h : t_pn k iv o) (e : ∀ r, 3 + o ≤ r → r ≤ 27 + o → iv2 r = iv r) : t_pn k iv2 o := by
  unfold t_pn at h ⊢
  rw [e (3 + o) (by omega) (by omega), e (4 + o) (by omega) (by omega), e (5 + o) (by omega) (by omega), e (6 + o) (by omega) (by omega), e (7 + o) (by omega) (by omega), e (8 + o) (by omega) (by omega), e (9 + o) (by omega) (by omega), e (10 + o) (by omega) (by omega), e (11 + o) (by omega) (by omega), e (12 + o) (by omega) (by omega), e (13 + o) (by omega) (by omega), e (14 + o) (by omega) (by omega), e (15 + o) (by omega) (by omega), e (16 + o) (by omega) (by omega), e (17 + o) (by omega) (by omega), e (18 + o) (by omega) (by omega), e (19 + o) (by omega) (by omega), e (20 + o) (by omega) (by omega), e (22 + o) (by omega) (by omega), e (23 + o) (by omega) (by omega), e (24 + o) (by omega) (by omega), e (25 + o) (by omega) (by omega), e (27 + o) (by omega) (by omega)]
  exact h
def t_pg (f : Nat → Int) (n : Nat) : Nat → Int := fun j => if j < 260 then f (260 * n + j) else 0
def t_f1 (iv : Nat → Nat → Int) (n o : Nat) : Prop := (n : Int) < iv 2 2 → q_KR (t_pg (iv 156) n) ∧ t_pn (t_pg (iv 156) n) iv o
def t_fs (iv : Nat → Nat → Int) : Prop := t_f1 iv 0 26 ∧ t_f1 iv 1 51 ∧ t_f1 iv 2 76 ∧ t_f1 iv 3 101
theorem t_f1_keep {iv iv2 : Nat → Nat → Int} {n o : Nat} (h : t_f1 iv n o) (e2 : iv2 2 2 = iv 2 2) (e6 : iv2 156 = iv 156) (e : ∀ r, 3 + o ≤ r → r ≤ 27 + o → iv2 r = iv r) : t_f1 iv2 n o := by
  intro q
  rw [e2] at q
  rw [e6]
  exact ⟨(h q).1, t_pn_rows (h q).2 e⟩
theorem t_fs_keep {iv iv2 : Nat → Nat → Int} (h : t_fs iv) (e2 : iv2 2 2 = iv 2 2) (e6 : iv2 156 = iv 156) (e : ∀ r, 28 ≤ r → r < 129 → iv2 r = iv r) : t_fs iv2 :=
  ⟨t_f1_keep h.1 e2 e6 (fun r h1 h2 => e r (by omega) (by omega)), t_f1_keep h.2.1 e2 e6 (fun r h1 h2 => e r (by omega) (by omega)), t_f1_keep h.2.2.1 e2 e6 (fun r h1 h2 => e r (by omega) (by omega)), t_f1_keep h.2.2.2 e2 e6 (fun r h1 h2 => e r (by omega) (by omega))⟩
abbrev t_ci (k : Nat → Int) (iv : Nat → Nat → Int) : Prop := q_CI k (iv 2) (iv 138) (iv 139) (iv 140) (iv 142) (iv 143) (iv 145) (iv 129) (iv 135)
/-- between two calls: the script's row, the plan's row in the class's cells, caches, nothing left out, frames -/
def t_I (sc : Nat → Int) (iv : Nat → Nat → Int) : Prop := iv 1 = sc ∧ q_KR (iv 155) ∧ t_pn (iv 155) iv 0 ∧ t_ci (iv 155) iv ∧ m_A 40 (iv 161) (fun _ => 0) ∧ (0 ≤ iv 2 2 ∧ iv 2 2 ≤ 4) ∧ iv 154 3 = iv 2 2 ∧ t_fs iv
theorem t_u1 {α : Type} {f : Nat → α} {r q : Nat} {x : α} (h : q ≠ r) : pz_u1 f r x q = f q := if_neg h
/-- nothing of the plan changed -/
theorem t_I_keep {sc : Nat → Int} {iv iv2 : Nat → Nat → Int} (h : t_I sc iv) (e : ∀ r, (r = 1 ∨ (3 ≤ r ∧ r < 129) ∨ r = 155 ∨ r = 156) → iv2 r = iv r) (e2 : iv2 2 2 = iv 2 2) (e3 : iv2 154 3 = iv 154 3) (hci : t_ci (iv 155) iv2) (h161 : m_A 40 (iv2 161) (fun _ => 0)) : t_I sc iv2 := by
  obtain ⟨a1, a2, a3, a4, a5, a6, a7, a8⟩ := h
  have e155 := e 155 (by omega)
  refine ⟨by rw [e 1 (by omega)]; exact a1, by rw [e155]; exact a2, by rw [e155]; exact t_pn_rows a3 (fun r h1 h2 => e r (by omega)), by rw [e155]; exact hci, h161, by rw [e2]; exact a6, by rw [e3, e2]; exact a7, t_fs_keep a8 e2 (e 156 (by omega)) (fun r h1 h2 => e r (by omega))⟩
/-- the plan changed, the frames did not -/
theorem t_I_mut {sc : Nat → Int} {iv iv2 : Nat → Nat → Int} (h : t_I sc iv) (e : ∀ r, (r = 1 ∨ (28 ≤ r ∧ r < 129) ∨ r = 156) → iv2 r = iv r) (hk : q_KR (iv2 155)) (hpl : t_pn (iv2 155) iv2 0) (e2 : iv2 2 2 = iv 2 2) (e3 : iv2 154 3 = iv 154 3) (hci : t_ci (iv2 155) iv2) (h161 : m_A 40 (iv2 161) (fun _ => 0)) : t_I sc iv2 := by
  obtain ⟨a1, a2, a3, a4, a5, a6, a7, a8⟩ := h
  exact ⟨by rw [e 1 (by omega)]; exact a1, hk, hpl, hci, h161, by rw [e2]; exact a6, by rw [e3, e2]; exact a7, t_fs_keep a8 e2 (e 156 (by omega)) (fun r h1 h2 => e r (by omega))⟩
theorem t_ci0 {k : Nat → Int} {iv : Nat → Nat → Int} (h : iv 2 7 = 0 ∧ iv 2 8 = 0 ∧ iv 2 9 = 0) : t_ci k iv := ⟨Or.inl h.1, Or.inl h.2.1, Or.inl h.2.2⟩
theorem t_RE {S : pz_S} {m : Nat} {as : List pz_V} {iv iv' : Nat → Nat → Int} {o : Option pz_V ⊕ Nat} (h : pz_R S m as iv o iv') : pz_RE S m as iv o (fun x => x = iv') := by
  intro dv cc ss
  obtain ⟨n, o2, h2, he, e1, e2⟩ := h dv cc ss
  exact ⟨n, o2, h2, he, iv', rfl, e1, e2⟩
/-- the class's outcome, told as the law's wrapper tells it -/
def t_an (V : Int → pz_V) (hh : List (Nat × Nat)) (o : Option pz_V ⊕ Nat) (b : Int) (c : Nat) : Prop := (o = .inl (some (V b)) ∧ c = 0) ∨ ∃ E, o = .inr E ∧ pz_lk hh E = some c ∧ c ≠ 0
/-- a call of the class and one of the reference: the same outcome, and what holds between calls holds again -/
def t_Q (B : Int → Prop) (sc : Nat → Int) (L mc mr : Nat) (V W : Int → pz_V) (hh : List (Nat × Nat)) (as : List pz_V) (iv : Nat → Nat → Int) : Prop := ∃ o Φ b c, B b ∧ pz_RE (pz_Sh L) mc (.inr (.inl 2) :: as) iv o Φ ∧ t_an V hh o b c ∧ ∀ iv1, Φ iv1 → iv1 1 = sc ∧ ∀ x : Nat → Int, ∃ iv2, pz_R (pz_Sh L) mr (.inr (.inl 154) :: as) (pz_u1 iv1 164 x) (.inl (some (W b))) iv2 ∧ iv2 164 = x ∧ iv2 154 0 = (c : Int) ∧ t_I sc iv2
abbrev t_Bi : Int → Prop := fun _ => True
abbrev t_Bz : Int → Prop := fun b => b = 0 ∨ b = 1
abbrev t_Vi : Int → pz_V := fun b => .inl b
abbrev t_Vj : Int → pz_V := fun b => .inr (.inr (.inl b))
/-- what a wrapper leaves -/
def t_WP (L c : Nat) (Ψ : (Nat → Nat → Int) → (Nat → Nat → UInt64) → Prop) (cc ss : Nat) : pz_Q := fun o h' => ∃ iv1 dv1 x, x ≤ 1 ∧ o = .inl (some (.inl (c : Int))) ∧ h' = (pz_Sh L, iv1, dv1, cc + x, ss + 6 * x) ∧ Ψ iv1 dv1
def t_WR (L W : Nat) (as : List pz_V) (iv : Nat → Nat → Int) (c : Nat) (Ψ : (Nat → Nat → Int) → (Nat → Nat → UInt64) → Prop) : Prop := ∀ dv cc ss, pz_G W 0 (pz_en W as) [] (pz_Sh L, iv, dv, cc, ss) (t_WP L c Ψ cc ss)
abbrev t_wo (Φ : (Nat → Nat → Int) → Prop) (b : Int) (c : Nat) : (Nat → Nat → Int) → (Nat → Nat → UInt64) → Prop := fun iv1 _ => ∃ iv0, Φ iv0 ∧ ∃ x, iv1 = pz_u1 iv0 164 x ∧ (c = 0 → x 0 = b)
section TW
variable {m nx l a b c e : Nat} {ops : List pz_Op} {lc : pz_L} {sk : List pz_V} {Q : pz_Q} {ins : Instr}
theorem w_callW {L q cc ss : Nat} {as rest : List pz_V} {iv : Nat → Nat → Int} {dv : Nat → Nat → UInt64} {Ψ : (Nat → Nat → Int) → (Nat → Nat → UInt64) → Prop} (hr : t_WR L a as iv q Ψ) (hst : sk = as.reverse ++ rest) (hk : pz_cok (pz_Sh L) b c as rest = true) (k : ∀ iv1 dv1 x, x ≤ 1 → Ψ iv1 dv1 → pz_W m nx ops lc (.inl (q : Int) :: rest) (pz_Sh L, iv1, dv1, cc + x, ss + 6 * x) Q) : pz_W m nx ((4, ins, l, a, b, c, e) :: ops) lc sk (pz_Sh L, iv, dv, cc, ss) Q := by
  obtain ⟨n, o, h1, he, iv1, dv1, x, hx, ho, hh, hp⟩ := hr dv cc ss
  subst ho
  subst hh
  exact pz_call_w hst hk he (k iv1 dv1 x hx hp)
theorem w_lcmp {h : pz_H} {x y : Int} (e9 : x = y) (k : pz_W m nx ops lc (.inl 0 :: sk) h Q) : pz_W m nx ((0, .lcmp, l, a, b, c, e) :: ops) lc (.inr (.inr (.inl y)) :: .inr (.inr (.inl x)) :: sk) h Q :=
  w_pure (st' := .inl 0 :: sk) (by
    show some (.inl (if y < x then (1 : Int) else if x = y then 0 else -1) :: sk) = _
    rw [if_neg (by omega), if_pos e9]) k
end TW
