/-! words and mathematics, each behind what it wants: chunk 10 -/
theorem m_st_bit {k d : Nat → Int} {m : Int} : ∀ n : Nat, n ≤ 5 → ∀ l : Nat, l < 5 → pz_and (pz_shr (q_st k d m n) l) 1 ≠ 0 → l < n ∧ q_on k d l m := by
  have step : ∀ (n : Fin 5) (x : Fin 16) (l : Fin 5), x.val < 2 ^ n.val → (pz_and (pz_shr (((x.val + 2 ^ n.val : Nat)) : Int) ((l.val : Nat) : Int)) 1 ≠ 0 → (l.val = n.val ∨ pz_and (pz_shr ((x.val : Nat) : Int) ((l.val : Nat) : Int)) 1 ≠ 0)) ∧ (n.val ≤ l.val → pz_and (pz_shr ((x.val : Nat) : Int) ((l.val : Nat) : Int)) 1 = 0) := by decide +kernel
  intro n
  induction n with
  | zero =>
    intro _ l hl q
    have h := (step ⟨0, by omega⟩ ⟨0, by omega⟩ ⟨l, hl⟩ (by show 0 < 2 ^ 0; decide)).2 (Nat.zero_le _)
    exact absurd h q
  | succ n ih =>
    intro hn l hl q
    have hr := q_st_r (k := k) (d := d) (m := m) (n := n) (by omega) (by omega)
    have hp3 := q_p2_le (a := n) (b := 4) (by omega) (by omega)
    have h16 : q_p2 4 = 16 := rfl
    have hs : q_st k d m ((n + 1 : Nat) : Int) = q_st k d m n + q_if (q_on k d n m) (q_p2 n) 0 := by
      unfold q_st
      rw [show ((n + 1 : Nat) : Int) = (n : Int) + 1 by omega, q_sum_s (by omega)]
    rw [hs] at q
    have e1 : ((((q_st k d m n).toNat : Nat)) : Int) = q_st k d m n := Int.toNat_of_nonneg hr.1
    by_cases g : q_on k d n m
    · rw [q_if_t g] at q
      have st := step ⟨n, by omega⟩ ⟨(q_st k d m n).toNat, by omega⟩ ⟨l, hl⟩ (by
        show (q_st k d m n).toNat < 2 ^ n
        have h9 := hr.2
        unfold q_p2 at h9
        rw [Int.toNat_natCast] at h9
        omega)
      have e2 : q_st k d m n + q_p2 n = (((q_st k d m n).toNat + 2 ^ n : Nat) : Int) := by
        unfold q_p2
        rw [Int.toNat_natCast]
        omega
      rw [e2] at q
      rcases st.1 q with a | a
      · have a' : l = n := a
        rw [a']
        exact ⟨by omega, g⟩
      · simp only [e1] at a
        have b := ih (by omega) l hl a
        exact ⟨by omega, b.2⟩
    · rw [q_if_f g, Int.add_zero] at q
      have b := ih (by omega) l hl q
      exact ⟨by omega, b.2⟩
theorem m_lv_spec {k d : Nat → Int} (hk : q_KR k) (h : q_lv k d ≠ -1) : ∃ x y : Int, (0 ≤ x ∧ x < k 3) ∧ (0 ≤ y ∧ y < k 3) ∧ q_lv k d = 5 * x + y ∧ q_on k d x (q_pk k d) ∧ q_on k d y (q_pk k d) ∧ 0 ≤ d (10 * k (224 + 3 * x + 1).toNat + k (224 + 3 * y).toNat).toNat := by
  have h0 := hk.r0
  have key : (q_lvF k d (q_st k d (q_pk k d) (k 3)) (k 3)).2 = -1 ∨ (∃ x y : Int, (0 ≤ x ∧ x < k 3) ∧ (0 ≤ y ∧ y < k 3) ∧ (q_lvF k d (q_st k d (q_pk k d) (k 3)) (k 3)).2 = 5 * x + y ∧ pz_and (pz_shr (q_st k d (q_pk k d) (k 3)) x) 1 ≠ 0 ∧ pz_and (pz_shr (q_st k d (q_pk k d) (k 3)) y) 1 ≠ 0 ∧ 0 ≤ d (10 * k (224 + 3 * x + 1).toNat + k (224 + 3 * y).toNat).toNat) := by
    unfold q_lvF
    refine q_fr_ind (fun _ (s : Int × Int) => s.2 = -1 ∨ (∃ x y : Int, (0 ≤ x ∧ x < k 3) ∧ (0 ≤ y ∧ y < k 3) ∧ s.2 = 5 * x + y ∧ pz_and (pz_shr (q_st k d (q_pk k d) (k 3)) x) 1 ≠ 0 ∧ pz_and (pz_shr (q_st k d (q_pk k d) (k 3)) y) 1 ≠ 0 ∧ 0 ≤ d (10 * k (224 + 3 * x + 1).toNat + k (224 + 3 * y).toNat).toNat)) (by omega) (Or.inl rfl) ?_
    intro x s hx1 hx2 hs
    unfold q_lvX
    refine q_fr_ind (fun _ (s : Int × Int) => s.2 = -1 ∨ (∃ x y : Int, (0 ≤ x ∧ x < k 3) ∧ (0 ≤ y ∧ y < k 3) ∧ s.2 = 5 * x + y ∧ pz_and (pz_shr (q_st k d (q_pk k d) (k 3)) x) 1 ≠ 0 ∧ pz_and (pz_shr (q_st k d (q_pk k d) (k 3)) y) 1 ≠ 0 ∧ 0 ≤ d (10 * k (224 + 3 * x + 1).toNat + k (224 + 3 * y).toNat).toNat)) (by omega) hs ?_
    intro y s hy1 hy2 hs
    unfold q_lvS
    by_cases g : x ≠ y ∧ pz_and (pz_shr (q_st k d (q_pk k d) (k 3)) x) 1 ≠ 0 ∧ pz_and (pz_shr (q_st k d (q_pk k d) (k 3)) y) 1 ≠ 0 ∧ s.1 < q_sl k d x y ∧ 0 ≤ d (10 * k (224 + 3 * x + 1).toNat + k (224 + 3 * y).toNat).toNat
    · rw [q_if_t g]
      exact Or.inr ⟨x, y, ⟨hx1, hx2⟩, ⟨hy1, hy2⟩, rfl, g.2.1, g.2.2.1, g.2.2.2.2⟩
    · rw [q_if_f g]
      exact hs
  rcases key with e | ⟨x, y, hx, hy, e, bx, by_, dd⟩
  · exact absurd e h
  · have n5 : ((k 3).toNat : Int) = k 3 := Int.toNat_of_nonneg (by omega)
    have b1 := m_st_bit (k := k) (d := d) (m := q_pk k d) (k 3).toNat (by omega) x.toNat (by omega) (by rw [n5, Int.toNat_of_nonneg hx.1]; exact bx)
    have b2 := m_st_bit (k := k) (d := d) (m := q_pk k d) (k 3).toNat (by omega) y.toNat (by omega) (by rw [n5, Int.toNat_of_nonneg hy.1]; exact by_)
    rw [Int.toNat_of_nonneg hx.1] at b1
    rw [Int.toNat_of_nonneg hy.1] at b2
    exact ⟨x, y, hx, hy, e, b1.2, b2.2, dd⟩
theorem q_tell_at {k : Nat → Int} {F T W B : Int} (h : 0 ≤ k 1) (j : Nat) : q_tell k F T W B j = if j = 1 then k 1 + 1 else if (j : Int) = 52 + 4 * k 1 + 3 then B else if (j : Int) = 52 + 4 * k 1 + 2 then W else if (j : Int) = 52 + 4 * k 1 + 1 then T else if (j : Int) = 52 + 4 * k 1 then F else k j := by
  unfold q_tell
  rw [pz_up_at, pz_up_at, pz_up_at, pz_up_at, pz_up_at]
  (repeat' split) <;> first | rfl | omega
theorem m_tell_ne {k : Nat → Int} {F T W B : Int} {j : Nat} (h : 0 ≤ k 1 ∧ k 1 ≤ 39) (hj : j ≠ 1 ∧ ¬ (52 ≤ j ∧ j < 212)) : q_tell k F T W B j = k j := by
  rw [q_tell_at h.1, if_neg hj.1, if_neg (by omega), if_neg (by omega), if_neg (by omega), if_neg (by omega)]
theorem m_tell_old {k : Nat → Int} {F T W B b : Int} {j : Nat} (h : 0 ≤ k 1) (hb : 0 ≤ b ∧ b < k 1) (hj : 52 + 4 * b ≤ j ∧ (j : Int) ≤ 52 + 4 * b + 3) : q_tell k F T W B j = k j := by
  rw [q_tell_at h, if_neg (by omega), if_neg (by omega), if_neg (by omega), if_neg (by omega), if_neg (by omega)]
theorem m_tell_new {k : Nat → Int} {F T W B : Int} (h : 0 ≤ k 1) : q_tell k F T W B 1 = k 1 + 1 ∧ q_tell k F T W B (52 + 4 * k 1).toNat = F ∧ q_tell k F T W B (52 + 4 * k 1 + 1).toNat = T ∧ q_tell k F T W B (52 + 4 * k 1 + 2).toNat = W ∧ q_tell k F T W B (52 + 4 * k 1 + 3).toNat = B := by
  refine ⟨?_, ?_, ?_, ?_, ?_⟩
  · rw [q_tell_at h, if_pos rfl]
  · rw [q_tell_at h, if_neg (by omega), if_neg (by omega), if_neg (by omega), if_neg (by omega), if_pos (by omega)]
  · rw [q_tell_at h, if_neg (by omega), if_neg (by omega), if_neg (by omega), if_pos (by omega)]
  · rw [q_tell_at h, if_neg (by omega), if_neg (by omega), if_pos (by omega)]
  · rw [q_tell_at h, if_neg (by omega), if_pos (by omega)]
/-- a bound that may be told keeps what the row keeps -/
theorem m_KR_tell {k : Nat → Int} {F T W B : Int} (hk : q_KR k) (h1 : k 1 ≠ 40) (hF : 0 ≤ F ∧ F < k 0) (hT : 0 ≤ T ∧ T < k 0) (hne : F ≠ T) (hW : -500 ≤ W ∧ W ≤ 500) (hB : -4 ≤ B ∧ B ≤ 4) : q_KR (q_tell k F T W B) := by
  have h0 := hk.r0
  have n := m_tell_new (k := k) (F := F) (T := T) (W := W) (B := B) (by omega)
  refine m_KR_ag hk (fun j hj => m_tell_ne (by omega) ⟨hj.1, hj.2.2⟩) (by rw [n.1]; omega) ?_ ?_
  · intro l l1 l2
    rw [m_tell_ne (by omega) (by omega)]
    exact hk.lb (by omega) l2
  · intro b b1 b2
    rw [n.1] at b2
    by_cases g : b = k 1
    · rw [g, n.2.1, n.2.2.1, n.2.2.2.1, n.2.2.2.2]
      exact ⟨hF, hT, hne, hW, Or.inl hB⟩
    · have hb := hk.bd b1 (by omega)
      rw [m_tell_old (b := b) (by omega) (by omega) (by omega), m_tell_old (b := b) (by omega) (by omega) (by omega), m_tell_old (b := b) (by omega) (by omega) (by omega), m_tell_old (b := b) (by omega) (by omega) (by omega)]
      exact hb
theorem m_KR_lv {k lf g : Nat → Int} (hk : q_KR k) (h : q_lvT k lf g) : q_KR (q_lvK k (q_dd k lf g)) := by
  have h0 := hk.r0
  obtain ⟨x, y, hx, hy, e, ox, oy, dd⟩ := m_lv_spec hk h.2.2.2
  have ax := hk.ac hx.1 hx.2
  have ay := hk.ac hy.1 hy.2
  unfold q_lvK
  rw [e, show (5 * x + y) % 5 = y by omega, show (5 * x + y) / 5 = x by omega]
  refine m_KR_tell hk h.2.1 ay.1 ax.2.1 ?_ (by omega) (by omega)
  intro q
  have a := ox.2
  have b := oy.1
  rw [q] at b
  omega
theorem q_KR_lv {k lf g : Nat → Int} (hk : q_KR k) (h : q_lvT k lf g) : q_KR (q_lvK k (q_dd k lf g)) := m_KR_lv hk h
/-- one order told after the other: the plan's row, the square -/
noncomputable def q_lv1 (lf : Nat → Int) (s : (Nat → Int) × (Nat → Int)) : (Nat → Int) × (Nat → Int) := q_if (q_lvT s.1 lf s.2) (q_lvK s.1 (q_dd s.1 lf s.2), q_dd s.1 lf s.2) s
noncomputable def q_lvs (lf : Nat → Int) (n : Int) (s : (Nat → Int) × (Nat → Int)) : (Nat → Int) × (Nat → Int) := q_fr (fun _ => q_lv1 lf) 0 n s
theorem q_lvs_s {lf f d : Nat → Int} {n : Int} {s : (Nat → Int) × (Nat → Int)} (hn : 0 ≤ n) (hs : (f, d) = q_lvs lf n s) (h : q_lvT f lf d) : (q_lvK f (q_dd f lf d), q_dd f lf d) = q_lvs lf (n + 1) s := by
  unfold q_lvs
  rw [q_fr_s hn]
  show _ = q_lv1 lf (q_lvs lf n s)
  rw [← hs]
  unfold q_lv1
  rw [q_if_t h]
theorem q_lvs_e {lf f d : Nat → Int} {n : Int} {s : (Nat → Int) × (Nat → Int)} (hn : 0 ≤ n ∧ n ≤ 40) (hs : (f, d) = q_lvs lf n s) (h : ¬ q_lvT f lf d) : (f, d) = q_lvs lf 40 s := by
  have key : ∀ d9 : Nat, (f, d) = q_lvs lf (n + d9) s := by
    intro d9
    induction d9 with
    | zero => rw [show n + ((0 : Nat) : Int) = n by omega]; exact hs
    | succ d9 ih =>
      unfold q_lvs
      rw [show n + ((d9 + 1 : Nat) : Int) = n + (d9 : Int) + 1 by omega, q_fr_s (by omega)]
      show _ = q_lv1 lf (q_lvs lf (n + d9) s)
      rw [← ih]
      unfold q_lv1
      rw [q_if_f h]
  have h9 := key (40 - n).toNat
  rw [show n + ((40 - n).toNat : Int) = 40 by omega] at h9
  exact h9
def q_cp (n : Nat) (f g : Nat → Int) : Nat → Int := fun j => if j < n then f j else g j
theorem q_cp_full {n : Nat} {f g : Nat → Int} {j : Nat} (h : j < n) : q_cp n f g j = f j := if_pos h
theorem w_cpym {m nx l a b c e : Nat} {ops : List pz_Op} {lc : pz_L} {sk : List pz_V} {S : pz_S} {iv iv2 : Nat → Nat → Int} {D : (Nat → Nat → UInt64) × Nat × Nat} {Q : pz_Q} {s d len1 len2 K : Nat} {ins : ClassFile.Instr} {n : Int} (hk : S.2.1 d = K) (h1 : pz_is S s K = true) (h2 : pz_is S d K = true) (hK : 20 ≤ K ∧ K ≤ 22) (hsd : s ≠ d) (hl1 : S.2.2.1 s = len1) (hl2 : S.2.2.1 d = len2) (hn : 0 ≤ n ∧ n ≤ len1 ∧ n ≤ len2) (hst : sk.length ≤ 4) (hm : pz_u1 iv d (q_cp n.toNat (iv s) (iv d)) = iv2) (k : pz_W m nx ops lc sk (S, iv2, D) Q) : pz_W m nx ((5, ins, l, a, b, c, e) :: ops) lc (.inl n :: .inl 0 :: .inr (.inl d) :: .inl 0 :: .inr (.inl s) :: sk) (S, iv, D) Q :=
  w_cpy (st' := sk) (h2 := (S, iv2, D)) (by
    show (if sk.length ≤ 4 ∧ pz_is S s (S.2.1 d) = true ∧ pz_is S d (S.2.1 d) = true ∧ 20 ≤ S.2.1 d ∧ S.2.1 d ≤ 22 ∧ s ≠ d ∧ (0 : Int) ≤ 0 ∧ (0 : Int) ≤ 0 ∧ 0 ≤ n ∧ 0 + n ≤ (S.2.2.1 s : Int) ∧ 0 + n ≤ (S.2.2.1 d : Int) then some (sk, (S, pz_u1 iv d (fun k => if (0 : Int).toNat ≤ k ∧ k < (0 : Int).toNat + n.toNat then iv s ((0 : Int).toNat + (k - (0 : Int).toNat)) else iv d k), D)) else none) = _
    rw [hk, hl1, hl2, if_pos ⟨hst, h1, h2, hK.1, hK.2, hsd, by omega, by omega, hn.1, by omega, by omega⟩, ← hm]
    have e : (fun k => if (0 : Int).toNat ≤ k ∧ k < (0 : Int).toNat + n.toNat then iv s ((0 : Int).toNat + (k - (0 : Int).toNat)) else iv d k) = q_cp n.toNat (iv s) (iv d) := by
      funext j
      unfold q_cp
      have z0 : (0 : Int).toNat = 0 := rfl
      rw [z0]
      by_cases h : j < n.toNat
      · rw [if_pos h, if_pos (by omega)]
        congr 1
        omega
      · rw [if_neg h, if_neg (by omega)]
    rw [e]) k
theorem w_imulc {m nx l a b c e : Nat} {ops : List pz_Op} {lc : pz_L} {sk : List pz_V} {h : pz_H} {Q : pz_Q} {x y : Int} (hr : -2147483648 ≤ y * x ∧ y * x ≤ 2147483647) (k : pz_W m nx ops lc (.inl (y * x) :: sk) h Q) : pz_W m nx ((0, .imul, l, a, b, c, e) :: ops) lc (.inl y :: .inl x :: sk) h Q := w_imul (by rw [Int.mul_comm x y]; exact hr) (by rw [Int.mul_comm x y]; exact k)
/-- a contract that tells of the memory behind the run only what Φ says -/
def pz_PE (S : pz_S) (o : Option pz_V ⊕ Nat) (Φ : (Nat → Nat → Int) → Prop) (dv : Nat → Nat → UInt64) (cc ss : Nat) : pz_Q := fun o' h' => ∃ iv', Φ iv' ∧ o' = o ∧ h' = (S, iv', dv, cc + pz_x o, ss + 6 * pz_x o)
def pz_RE (S : pz_S) (a : Nat) (as : List pz_V) (iv : Nat → Nat → Int) (o : Option pz_V ⊕ Nat) (Φ : (Nat → Nat → Int) → Prop) : Prop :=
  ∀ dv cc ss, pz_G a 0 (pz_en a as) [] (S, iv, dv, cc, ss) (pz_PE S o Φ dv cc ss)
section PZE
variable {m nx l a b c e : Nat} {ins : ClassFile.Instr} {ops : List pz_Op} {lc : pz_L} {sk : List pz_V} {Q : pz_Q} {S : pz_S} {iv : Nat → Nat → Int} {Φ : (Nat → Nat → Int) → Prop}
theorem w_callE {D : (Nat → Nat → UInt64) × Nat × Nat} {as rest : List pz_V} {v : pz_V} (hr : pz_RE S a as iv (.inl (some v)) Φ) (hst : sk = as.reverse ++ rest) (hk : pz_cok S b c as rest = true) (k : ∀ iv', Φ iv' → pz_W m nx ops lc (v :: rest) (S, iv', D) Q) : pz_W m nx ((4, ins, l, a, b, c, e) :: ops) lc sk (S, iv, D) Q := by
  obtain ⟨dv, cc, ss⟩ := D
  obtain ⟨n, o, h1, he, iv', hp, rfl, rfl⟩ := hr dv cc ss
  exact pz_call_w hst hk he (k iv' hp)
theorem w_callvE {D : (Nat → Nat → UInt64) × Nat × Nat} {as rest : List pz_V} (hr : pz_RE S a as iv (.inl none) Φ) (hst : sk = as.reverse ++ rest) (hk : pz_cok S b c as rest = true) (k : ∀ iv', Φ iv' → pz_W m nx ops lc rest (S, iv', D) Q) : pz_W m nx ((4, ins, l, a, b, c, e) :: ops) lc sk (S, iv, D) Q := by
  obtain ⟨dv, cc, ss⟩ := D
  obtain ⟨n, o, h1, he, iv', hp, rfl, rfl⟩ := hr dv cc ss
  exact pz_call_w hst hk he (k iv' hp)
theorem w_calleE {as rest : List pz_V} {E : Nat} {dv : Nat → Nat → UInt64} {cc ss : Nat} (hr : pz_RE S a as iv (.inr E) Φ) (hst : sk = as.reverse ++ rest) (hk : pz_cok S b c as rest = true) (hl : pz_lk (pz_hc m) E = none) (k : ∀ iv', Φ iv' → Q (.inr E) (S, iv', dv, cc + 1, ss + 6)) : pz_W m nx ((4, ins, l, a, b, c, e) :: ops) lc sk (S, iv, dv, cc, ss) Q := by
  obtain ⟨n, o, h1, he, iv', hp, rfl, rfl⟩ := hr dv cc ss
  refine pz_call_w hst hk he ?_
  dsimp only
  rw [hl]
  exact k iv' hp
theorem w_callhE {as rest : List pz_V} {E q : Nat} {dv : Nat → Nat → UInt64} {cc ss : Nat} (hr : pz_RE S a as iv (.inr E) Φ) (hst : sk = as.reverse ++ rest) (hk : pz_cok S b c as rest = true) (hl : pz_lk (pz_hc m) E = some q) (k : ∀ iv', Φ iv' → Q (.inl (some (.inl (pz_hv q)))) (S, iv', dv, cc + 1, ss + 6)) : pz_W m nx ((4, ins, l, a, b, c, e) :: ops) lc sk (S, iv, dv, cc, ss) Q := by
  obtain ⟨n, o, h1, he, iv', hp, rfl, rfl⟩ := hr dv cc ss
  refine pz_call_w hst hk he ?_
  dsimp only
  rw [hl]
  exact k iv' hp
end PZE
abbrev q_cE (k p : Nat → Int) : Prop := p 0 = k 0 ∧ p 7 = k 240
def q_cB (k c f t m l d : Nat → Int) : Prop := c 0 = k 1 ∧ ∀ b : Int, 0 ≤ b → b < k 1 → f b.toNat = k (52 + 4 * b).toNat ∧ t b.toNat = k (52 + 4 * b + 1).toNat ∧ m b.toNat = k (52 + 4 * b + 2).toNat ∧ ((d b.toNat = 1 ∧ k (52 + 4 * b + 3).toNat = 99) ∨ (d b.toNat = 0 ∧ k (52 + 4 * b + 3).toNat ≠ 99 ∧ l b.toNat = k (52 + 4 * b + 3).toNat))
def q_cS (k c f t l g : Nat → Int) : Prop := c 0 = k 2 ∧ ∀ s : Int, 0 ≤ s → s < k 2 → f s.toNat = k (212 + 4 * s).toNat ∧ t s.toNat = k (212 + 4 * s + 1).toNat ∧ l s.toNat = k (212 + 4 * s + 2).toNat ∧ g s.toNat = k (212 + 4 * s + 3).toNat
def q_cC (k c s : Nat → Int) : Prop := c 0 = k 4 ∧ ∀ e : Int, 0 ≤ e → e ≤ 9 → s e.toNat = k (6 + e).toNat
def q_cA (k c f t d : Nat → Int) : Prop := (c 0 = k 3 ∧ c 1 = k 5) ∧ ∀ a : Int, 0 ≤ a → a < k 3 → f a.toNat = k (224 + 3 * a).toNat ∧ t a.toNat = k (224 + 3 * a + 1).toNat ∧ d a.toNat = k (224 + 3 * a + 2).toNat
def q_cO (k u y z : Nat → Int) : Prop := ∀ e : Int, 0 ≤ e → e ≤ 9 → u e.toNat = k (16 + e).toNat ∧ y e.toNat = k (26 + e).toNat ∧ z e.toNat = k (36 + e).toNat
def q_cL (k r : Nat → Int) : Prop := ∀ l : Int, 1 ≤ l → l ≤ 4 → r l.toNat = k (46 + l).toNat
def q_cP (k r : Nat → Int) : Prop := ∀ e : Int, 0 ≤ e → e < k 240 → r e.toNat = k (241 + e).toNat
/-- sums of labels that tell which are true, which are false -/
def q_cT (k : Nat → Int) (x y : Int) : Prop := (0 ≤ x ∧ x ≤ 15) ∧ (0 ≤ y ∧ y ≤ 15) ∧ ∀ l : Int, 1 ≤ l → l ≤ 4 → (pz_and x (pz_shl 1 (l - 1)) ≠ 0 ↔ q_tru k l) ∧ (pz_and y (pz_shl 1 (l - 1)) ≠ 0 ↔ q_fls k l)
theorem q_bitN : ∀ (x : Fin 32) (i : Fin 5), (pz_and ((x.val : Nat) : Int) (pz_shl 1 ((i.val : Nat) : Int)) ≠ 0 ↔ pz_and (pz_shr ((x.val : Nat) : Int) ((i.val : Nat) : Int)) 1 = 1) ∧ (pz_and (pz_shr ((x.val : Nat) : Int) ((i.val : Nat) : Int)) 1 = 0 ∨ pz_and (pz_shr ((x.val : Nat) : Int) ((i.val : Nat) : Int)) 1 = 1) := by decide +kernel
theorem q_bit {x i : Int} (h1 : 0 ≤ x) (h2 : x < 32) (h3 : 0 ≤ i) (h4 : i ≤ 4) : (pz_and x (pz_shl 1 i) ≠ 0 ↔ pz_and (pz_shr x i) 1 = 1) ∧ (pz_and (pz_shr x i) 1 = 0 ∨ pz_and (pz_shr x i) 1 = 1) := by
  have h := q_bitN ⟨x.toNat, by omega⟩ ⟨i.toNat, by omega⟩
  simp only [Int.toNat_of_nonneg h1, Int.toNat_of_nonneg h3] at h
  exact h
theorem q_we_is {k : Nat → Int} {e s : Int} (h1 : 0 ≤ s) (h2 : s < k 2) (h3 : k (212 + 4 * s + 1).toNat = e) (h4 : ∀ i : Int, 0 ≤ i → i < s → k (212 + 4 * i + 1).toNat ≠ e) : q_we k e = s := by
  rcases q_we_spec (k := k) (e := e) (by omega) with ⟨g1, g2⟩ | ⟨g1, g2, g3, g4⟩
  · exact absurd h3 (g2 s h1 h2)
  · rcases Int.lt_trichotomy (q_we k e) s with h | h | h
    · exact absurd g3 (h4 _ g1 h)
    · exact h
    · exact absurd h3 (g4 s h1 h)
theorem q_we_no {k : Nat → Int} {e : Int} (hn : 0 ≤ k 2) (h4 : ∀ i : Int, 0 ≤ i → i < k 2 → k (212 + 4 * i + 1).toNat ≠ e) : q_we k e = -1 := by
  rcases q_we_spec (k := k) (e := e) hn with ⟨g1, g2⟩ | ⟨g1, g2, g3, g4⟩
  · exact g1
  · exact absurd g3 (h4 _ g1 g2)
/-- labels with one of two letters, as a sum -/
noncomputable def q_lsP (r : Nat → Int) (c d l : Int) : Prop := 1 ≤ l ∧ (r l.toNat = c ∨ r l.toNat = d)
noncomputable def q_ls (r : Nat → Int) (c d n : Int) : Int := q_sum (fun l => q_if (1 ≤ l ∧ (r l.toNat = c ∨ r l.toNat = d)) (q_p2 (l - 1)) 0) n
theorem q_ls_r {r : Nat → Int} {c d n : Int} (h1 : 1 ≤ n) (h2 : n ≤ 5) : 0 ≤ q_ls r c d n ∧ q_ls r c d n < q_p2 (n - 1) := by
  have key : ∀ m : Nat, m ≤ 4 → 0 ≤ q_ls r c d (m + 1) ∧ q_ls r c d (m + 1) < q_p2 m := by
    intro m
    induction m with
    | zero =>
      intro _
      unfold q_ls
      rw [q_sum_s (by omega), q_if_f (fun q => by omega)]
      refine ⟨Int.le_refl 0, ?_⟩
      show (0 : Int) < 1
      omega
    | succ m ih =>
      intro hm
      have h := ih (by omega)
      have h3 := q_p2_s (a := m) (by omega)
      unfold q_ls at h ⊢
      rw [q_sum_s (by omega)]
      rw [show (((m + 1 : Nat) : Int)) = (m : Int) + 1 by omega]
      rw [h3]
      by_cases g : (1 ≤ (m : Int) + 1 ∧ (r ((m : Int) + 1).toNat = c ∨ r ((m : Int) + 1).toNat = d))
      · rw [q_if_t g, show (m : Int) + 1 - 1 = m by omega]; omega
      · rw [q_if_f g]; omega
  have h := key (n - 1).toNat (by omega)
  rw [show (((n - 1).toNat : Nat) : Int) = n - 1 by omega, show n - 1 + 1 = n by omega] at h
  exact h
def q_tN (z : Int) (d r : Nat → Int) : Nat → Int := fun j => if j < 100 then (if (j / 10 : Nat) < z ∧ (j % 10 : Nat) < z then q_N (d j) else 1000000000) else r j
/-- distances that the class holds -/
def q_nD (k r d : Nat → Int) : Prop := ∀ i j : Int, 0 ≤ i → i < k 0 → 0 ≤ j → j < k 0 → r (10 * i + j).toNat = q_N (d (10 * i + j).toNat)
theorem q_ls_congr {r u : Nat → Int} {c d : Int} (h : ∀ l : Int, 1 ≤ l → l ≤ 4 → r l.toNat = u l.toNat) : q_ls r c d 5 = q_ls u c d 5 := by
  refine q_sum_congr (fun l h1 h2 => ?_)
  by_cases g : 1 ≤ l
  · rw [h l g (by omega)]
  · rw [q_if_f (fun q => g q.1), q_if_f (fun q => g q.1)]
/-- the sums of the labels that are true, false, observed -/
noncomputable def q_sT (k : Nat → Int) : Int := q_ls (fun j => k (46 + j)) 116 84 5
noncomputable def q_sF (k : Nat → Int) : Int := q_ls (fun j => k (46 + j)) 102 70 5
noncomputable def q_sO (k : Nat → Int) : Int := q_ls (fun j => k (46 + j)) 116 102 5
/-- a bit of a sum of labels -/
theorem q_ls_bit {r : Nat → Int} {c d : Int} : ∀ n : Nat, n ≤ 4 → ∀ l : Nat, l < 4 → (pz_and (q_ls r c d (n + 1)) (pz_shl 1 l) ≠ 0 ↔ l < n ∧ (r (l + 1) = c ∨ r (l + 1) = d)) := by
  have step : ∀ (n : Fin 4) (x : Fin 16) (l : Fin 4), x.val < 2 ^ n.val → ((pz_and (((x.val + 2 ^ n.val : Nat)) : Int) (pz_shl 1 ((l.val : Nat) : Int)) ≠ 0) ↔ (l.val = n.val ∨ pz_and ((x.val : Nat) : Int) (pz_shl 1 ((l.val : Nat) : Int)) ≠ 0)) ∧ (n.val ≤ l.val → pz_and ((x.val : Nat) : Int) (pz_shl 1 ((l.val : Nat) : Int)) = 0) := by decide +kernel
  intro n
  induction n with
  | zero =>
    intro _ l hl
    have h0 : q_ls r c d ((0 : Nat) + 1 : Int) = 0 := by
      unfold q_ls
      rw [q_sum_s (by omega), q_if_f (fun q => by omega)]
      rfl
    rw [h0]
    have h := (step ⟨0, by omega⟩ ⟨0, by omega⟩ ⟨l, hl⟩ (by show 0 < 2 ^ 0; decide)).2 (Nat.zero_le _)
    exact ⟨fun q => absurd h q, fun q => absurd q.1 (Nat.not_lt_zero _)⟩
  | succ n ih =>
    intro hn l hl
    have hr := q_ls_r (r := r) (c := c) (d := d) (n := (n : Int) + 1) (by omega) (by omega)
    rw [show (n : Int) + 1 - 1 = n by omega] at hr
    have hp := q_p2_r (a := n) (by omega) (by omega)
    have hp3 := q_p2_le (a := n) (b := 3) (by omega) (by omega)
    have h8 : q_p2 3 = 8 := rfl
    have ih1 := ih (by omega) l hl
    have st := step ⟨n, by omega⟩ ⟨(q_ls r c d ((n : Int) + 1)).toNat, by omega⟩ ⟨l, hl⟩ (by
      show (q_ls r c d ((n : Int) + 1)).toNat < 2 ^ n
      have h9 := hr.2
      unfold q_p2 at h9
      rw [Int.toNat_natCast] at h9
      omega)
    have e1 : ((((q_ls r c d ((n : Int) + 1)).toNat : Nat)) : Int) = q_ls r c d ((n : Int) + 1) := Int.toNat_of_nonneg hr.1
    simp only [e1] at st
    have hs : q_ls r c d (((n + 1 : Nat) : Int) + 1) = q_ls r c d ((n : Int) + 1) + q_if (1 ≤ (n : Int) + 1 ∧ (r ((n : Int) + 1).toNat = c ∨ r ((n : Int) + 1).toNat = d)) (q_p2 n) 0 := by
      unfold q_ls
      rw [show (((n + 1 : Nat) : Int)) = (n : Int) + 1 by omega, q_sum_s (by omega)]
      rw [show (n : Int) + 1 - 1 = n by omega]
    rw [hs, show ((n : Int) + 1).toNat = n + 1 by omega]
    by_cases g : 1 ≤ (n : Int) + 1 ∧ (r (n + 1) = c ∨ r (n + 1) = d)
    · rw [q_if_t g]
      have e2 : q_ls r c d ((n : Int) + 1) + q_p2 n = (((q_ls r c d ((n : Int) + 1)).toNat + 2 ^ n : Nat) : Int) := by
        unfold q_p2
        rw [Int.toNat_natCast]
        omega
      rw [e2, st.1, ih1]
      constructor
      · rintro (h | ⟨h1, h2⟩)
        · exact ⟨by omega, by rw [h]; exact g.2⟩
        · exact ⟨by omega, h2⟩
      · rintro ⟨h1, h2⟩
        by_cases h3 : l = n
        · exact Or.inl h3
        · exact Or.inr ⟨by omega, h2⟩
    · rw [q_if_f g, Int.add_zero, ih1]
      constructor
      · rintro ⟨h1, h2⟩
        exact ⟨by omega, h2⟩
      · rintro ⟨h1, h2⟩
        refine ⟨?_, h2⟩
        by_cases h3 : l = n
        · rw [h3] at h2
          exact absurd ⟨by omega, h2⟩ g
        · omega
theorem q_cT_now {k : Nat → Int} : q_cT k (q_sT k) (q_sF k) := by
  have h1 := q_ls_r (r := fun j => k (46 + j)) (c := 116) (d := 84) (n := 5) (by omega) (by omega)
  have h2 := q_ls_r (r := fun j => k (46 + j)) (c := 102) (d := 70) (n := 5) (by omega) (by omega)
  have h8 : q_p2 (5 - 1) = 16 := rfl
  rw [h8] at h1 h2
  refine ⟨⟨h1.1, by show q_ls _ _ _ _ ≤ _; omega⟩, ⟨h2.1, by show q_ls _ _ _ _ ≤ _; omega⟩, fun l g1 g2 => ?_⟩
  have e1 := q_ls_bit (r := fun j => k (46 + j)) (c := 116) (d := 84) 4 (by omega) (l - 1).toNat (by omega)
  have e2 := q_ls_bit (r := fun j => k (46 + j)) (c := 102) (d := 70) 4 (by omega) (l - 1).toNat (by omega)
  rw [show (((l - 1).toNat : Nat) : Int) = l - 1 by omega] at e1 e2
  have e3 : 46 + ((l - 1).toNat + 1) = (46 + l).toNat := by omega
  try dsimp only at e1 e2
  rw [e3] at e1 e2
  exact ⟨e1.trans ⟨fun q => q.2, fun q => ⟨by omega, q⟩⟩, e2.trans ⟨fun q => q.2, fun q => ⟨by omega, q⟩⟩⟩
def q_dR (d : Nat → Int) : Prop := ∀ j : Nat, j < 100 → -10000 ≤ d j ∧ (d j ≤ 10000 ∨ d j = 1000000)
theorem q_N_r {x : Int} (h : x ≤ 10000 ∨ x = 1000000) : (q_N x = 1000000000 ↔ x = 1000000) ∧ (x ≠ 1000000 → q_N x = x) := by
  unfold q_N
  split <;> omega
theorem q_ft_dR {d : Nat → Int} {e : Int} (h : q_dR d) (h1 : 0 ≤ e) (h2 : e ≤ 9) : 0 ≤ q_ft d e ∧ q_ft d e ≤ 10000 := by
  have h3 := h (10 * e).toNat (by omega)
  unfold q_ft
  split <;> omega
def q_hldX (k : Nat → Int) (b : Int) : Prop := q_hld k b
