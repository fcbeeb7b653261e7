theorem pz_tcs {a b : Nat} (h : b < pz_nf a) : a < 11 := by
  unfold pz_nf at h
  rcases Nat.lt_or_ge a 11 with q | q
  · exact q
  · rw [List.getElem?_eq_none (by show 11 ≤ a; exact q)] at h
    simp at h
/-- what pz_ck1 says of an instruction of the group 2, as far as ranges go -/
theorem pz_ck_get {m len a b c e pc i : Nat} (h : pz_ck1 m 2 (.getfield i) len a b c e pc = true) : c = pz_tc a b ∧ b < pz_nf a := by
  simp only [pz_ck1, Bool.and_eq_true] at h
  obtain ⟨-, h⟩ := h
  split at h
  · simp only [Bool.and_eq_true, decide_eq_true_eq, beq_iff_eq] at h
    exact ⟨h.2.2.2.2.1, h.2.2.2.2.2⟩
  · cases h
theorem pz_ck_put {m len a b c e pc i : Nat} (h : pz_ck1 m 2 (.putfield i) len a b c e pc = true) : c = pz_tc a b ∧ b < pz_nf a := by
  simp only [pz_ck1, Bool.and_eq_true] at h
  obtain ⟨-, h⟩ := h
  split at h
  · simp only [Bool.and_eq_true, decide_eq_true_eq, beq_iff_eq] at h
    exact ⟨h.2.2.2.2.1, h.2.2.2.2.2.1⟩
  · cases h
theorem pz_tc_in (a b : Nat) : pz_tc a b = 0 ∨ pz_tc a b = 1 ∨ pz_tc a b = 9 := by
  unfold pz_tc
  split
  · split
    · exact Or.inl rfl
    · split
      · exact Or.inr (Or.inl rfl)
      · exact Or.inr (Or.inr rfl)
  · exact Or.inr (Or.inr rfl)
theorem pz_fit_int {S : pz_S} {a b : Nat} {x : Int} (h : pz_fit S (pz_tc a b) (.inl x) = true) (hx : pz_i x) : pz_ir (pz_tc a b) x := by
  rcases pz_tc_in a b with e | e | e <;> rw [e] at h ⊢
  · exact hx
  · simp [pz_fit] at h
    exact h
  · exact hx
theorem pz_fit_ref {S : pz_S} {c r : Nat} (h : pz_fit S c (.inr (.inl r)) = true) : c = 9 ∧ r < S.1 + 2 := by
  simp [pz_fit] at h
  refine ⟨h.1, ?_⟩
  rcases h.2 with h | h
  · omega
  · exact h.2
theorem pz_ty_obj {k : Nat} (j : Nat) (h : k < 11) : pz_ty k j = pz_tc k j := by unfold pz_ty; rw [if_pos h]
set_option maxHeartbeats 4000000 in
theorem pz_mem_ok {L : Nat} {xs : Nat → Int32} (hLb : L ≤ 2560) {m len a b c e pc : Nat} {ins : Instr} {st st' : List pz_V} {h h' : pz_H} (hm : pz_mem ins a b c st h = some (st', h')) (hc : pz_ck1 m 2 ins len a b c e pc = true) (q : pz_hk L xs h) (ho : ∀ v ∈ st, pz_o h.1.1 v) :
    pz_hk L xs h' ∧ pz_le h h' ∧ ∀ v ∈ st', pz_o h'.1.1 v := by
  unfold pz_mem at hm
  split at hm
  · -- getfield
    simp only [List.mem_cons, forall_eq_or_imp] at ho
    split at hm
    · rename_i hi
      cases hm
      obtain ⟨h1, h2⟩ := pz_ck_get hc
      obtain ⟨-, -, h3⟩ := pz_is_spec hi
      refine ⟨q, pz_le.rf _, ?_⟩
      simp only [List.mem_cons, forall_eq_or_imp]
      refine ⟨?_, ho.2⟩
      split
      · exact q.2.1 _ _
      · exact q.i (by rw [h3]; have := pz_tcs h2; omega) _
    · cases hm
  · -- putfield
    simp only [List.mem_cons, forall_eq_or_imp] at ho
    split at hm
    · rename_i hi
      obtain ⟨h1, h2⟩ := pz_ck_put hc
      obtain ⟨g1, -, g3⟩ := pz_is_spec hi.1
      split at hm
      · cases hm
        refine ⟨pz_hk_iv q g1 ?_, pz_le.rf _, ho.2.2⟩
        rw [g3, pz_ty_obj _ (pz_tcs h2)]
        have h5 := hi.2
        rw [h1] at h5
        exact pz_fit_int h5 ho.1
      · cases hm
        exact ⟨pz_hk_rf q (pz_fit_ref hi.2).2, pz_le.rf _, ho.2.2⟩
      · cases hm
    · cases hm
  · -- iaload
    simp only [List.mem_cons, forall_eq_or_imp] at ho
    split at hm
    · rename_i hi
      cases hm
      refine ⟨q, pz_le.rf _, ?_⟩
      simp only [List.mem_cons, forall_eq_or_imp]
      refine ⟨?_, ho.2.2⟩
      have h6 := hi.1
      simp only [pz_ia, Bool.or_eq_true, decide_eq_true_eq] at h6
      rcases h6 with h6 | h6
      · exact q.i (by rw [(pz_is_spec h6).2.2]; decide) _
      · subst h6
        have h7 := hi.2.2
        rw [q.2.2.1] at h7
        show pz_i _
        rw [q.2.2.2.1 _ (by omega)]
        exact pz_i32 _
    · cases hm
  · simp only [List.mem_cons, forall_eq_or_imp] at ho
    split at hm
    · rename_i hi
      cases hm
      refine ⟨q, pz_le.rf _, ?_⟩
      simp only [List.mem_cons, forall_eq_or_imp]
      exact ⟨q.i (by rw [(pz_is_spec hi.1).2.2]; decide) _, ho.2.2⟩
    · cases hm
  · simp only [List.mem_cons, forall_eq_or_imp] at ho
    split at hm
    · rename_i hi
      cases hm
      refine ⟨q, pz_le.rf _, ?_⟩
      simp only [List.mem_cons, forall_eq_or_imp]
      exact ⟨q.i (by rw [(pz_is_spec hi.1).2.2]; decide) _, ho.2.2⟩
    · cases hm
  · simp only [List.mem_cons, forall_eq_or_imp] at ho
    split at hm
    · cases hm
      refine ⟨q, pz_le.rf _, ?_⟩
      simp only [List.mem_cons, forall_eq_or_imp]
      exact ⟨q.2.1 _ _, ho.2.2⟩
    · cases hm
  · -- iastore
    simp only [List.mem_cons, forall_eq_or_imp] at ho
    split at hm
    · rename_i hi
      cases hm
      obtain ⟨g1, -, g3⟩ := pz_is_spec hi.1
      refine ⟨pz_hk_iv q g1 ?_, pz_le.rf _, ho.2.2.2⟩
      rw [g3]
      exact ho.1
    · cases hm
  · simp only [List.mem_cons, forall_eq_or_imp] at ho
    split at hm
    · rename_i hi
      cases hm
      obtain ⟨g1, -, g3⟩ := pz_is_spec hi.1
      refine ⟨pz_hk_iv q g1 ?_, pz_le.rf _, ho.2.2.2⟩
      rw [g3]
      exact hi.2.2.2
    · cases hm
  · simp only [List.mem_cons, forall_eq_or_imp] at ho
    split at hm
    · rename_i hi
      cases hm
      obtain ⟨g1, -, g3⟩ := pz_is_spec hi.1
      refine ⟨pz_hk_iv q g1 ?_, pz_le.rf _, ho.2.2.2⟩
      rw [g3]
      exact hi.2.2.2
    · cases hm
  · simp only [List.mem_cons, forall_eq_or_imp] at ho
    split at hm
    · rename_i hi
      cases hm
      exact ⟨pz_hk_rf q (pz_is_spec hi.2.2.2).2.1, pz_le.rf _, ho.2.2.2⟩
    · cases hm
  · -- arraylength
    simp only [List.mem_cons, forall_eq_or_imp] at ho
    split at hm
    · rename_i r st hi
      cases hm
      refine ⟨q, pz_le.rf _, ?_⟩
      simp only [List.mem_cons, forall_eq_or_imp]
      refine ⟨?_, ho.2⟩
      have := q.2.2.2.2 r
      exact ⟨by omega, by omega⟩
    · cases hm
  · -- new
    cases hm
    obtain ⟨k1, k2⟩ := pz_hk_new q (kd := a) (ln := 0) (sl := b) (by omega)
    refine ⟨k1, k2, ?_⟩
    simp only [List.mem_cons, forall_eq_or_imp]
    exact ⟨by show h.1.1 + 2 < h.1.1 + 1 + 2; omega, fun v hv => (ho v hv).mono k2.1⟩
  · simp only [List.mem_cons, forall_eq_or_imp] at ho
    split at hm
    · rename_i n st hi
      cases hm
      obtain ⟨k1, k2⟩ := pz_hk_new q (kd := a) (ln := n.toNat) (sl := n.toNat) (by omega)
      refine ⟨k1, k2, ?_⟩
      simp only [List.mem_cons, forall_eq_or_imp]
      exact ⟨by show h.1.1 + 2 < h.1.1 + 1 + 2; omega, fun v hv => (ho.2 v hv).mono k2.1⟩
    · cases hm
  · simp only [List.mem_cons, forall_eq_or_imp] at ho
    split at hm
    · rename_i n st hi
      cases hm
      obtain ⟨k1, k2⟩ := pz_hk_new q (kd := 23) (ln := n.toNat) (sl := n.toNat) (by omega)
      refine ⟨k1, k2, ?_⟩
      simp only [List.mem_cons, forall_eq_or_imp]
      exact ⟨by show h.1.1 + 2 < h.1.1 + 1 + 2; omega, fun v hv => (ho.2 v hv).mono k2.1⟩
    · cases hm
  · cases hm
theorem pz_cpy_ok {L : Nat} {xs : Nat → Int32} {st st' : List pz_V} {h h' : pz_H} (hm : pz_cpy st h = some (st', h')) (q : pz_hk L xs h) (ho : ∀ v ∈ st, pz_o h.1.1 v) : pz_hk L xs h' ∧ pz_le h h' ∧ ∀ v ∈ st', pz_o h'.1.1 v := by
  unfold pz_cpy at hm
  split at hm
  · rename_i n dp d sp s st
    simp only [List.mem_cons, forall_eq_or_imp] at ho
    split at hm
    · rename_i hi
      cases hm
      obtain ⟨-, h1, h2, h3, h4, -⟩ := hi
      obtain ⟨g1, -, g3⟩ := pz_is_spec h1
      obtain ⟨f1, -, -⟩ := pz_is_spec h2
      obtain ⟨q1, q2, q3, q4, q5⟩ := q
      refine ⟨⟨fun r j => ?_, q2, q3, fun j hj => ?_, q5⟩, pz_le.rf _, ho.2.2.2.2.2⟩
      · show pz_ir _ (pz_u1 h.2.1 d _ r j)
        rw [pz_u1_at]
        split
        · rename_i hr
          subst hr
          have tt : ∀ j', pz_ty (h.1.2.1 r) j' = pz_ty (h.1.2.1 r) j := by
            intro j'
            have h12 : ¬ h.1.2.1 r < 11 := by omega
            simp only [pz_ty, if_neg h12]
          dsimp only
          split
          · have h8 := q1 s (sp.toNat + (j - dp.toNat))
            rw [g3, tt] at h8
            exact h8
          · exact q1 r j
        · exact q1 r j
      · show pz_u1 h.2.1 d _ 1 j = _
        rw [pz_u1_at, if_neg (by omega)]
        exact q4 j hj
    · cases hm
  · cases hm
theorem pz_lk_le : ∀ {hh : List (Nat × Nat)} {E k : Nat}, (∀ q ∈ hh, q.2 ≤ 9) → pz_lk hh E = some k → k ≤ 9
  | [], _, _, _, hk => by cases hk
  | (e, c) :: r, E, k, hhk, hk => by
    simp only [pz_lk] at hk
    split at hk
    · cases hk
      exact hhk _ List.mem_cons_self
    · exact pz_lk_le (fun q hq => hhk q (List.mem_cons_of_mem _ hq)) hk
theorem pz_csti {a b : Nat} (h : a < 2147483648) : pz_i (pz_cst a b) := by
  unfold pz_cst
  split
  · exact ⟨by omega, by omega⟩
  · exact ⟨by omega, by omega⟩
theorem pz_hv_i {k : Nat} (h : k ≤ 9) : pz_i (pz_hv k) := by
  unfold pz_hv
  exact ⟨by omega, by omega⟩
/-- an answer's value is good -/
def pz_oo (n : Nat) : Option pz_V ⊕ Nat → Prop
  | .inl (some v) => pz_o n v
  | _ => True
set_option maxHeartbeats 4000000 in
theorem pz_ex_ok {L : Nat} {xs : Nat → Int32} (hLb : L ≤ 2560) {C : Nat → List pz_V → pz_H → Option pz_O} {J : Nat → pz_L → List pz_V → pz_H → Option pz_O} {hh : List (Nat × Nat)} (hhk : ∀ q ∈ hh, q.2 ≤ 9) {m nx : Nat}
    (hC : ∀ (a : Nat) (as : List pz_V) (h : pz_H) (o : Option pz_V ⊕ Nat) (h' : pz_H), C a as h = some (o, h') → pz_hk L xs h → (∀ v ∈ as, pz_o h.1.1 v) → pz_hk L xs h' ∧ pz_le h h' ∧ pz_oo h'.1.1 o)
    (hJ : ∀ (pc : Nat) (ls : pz_L) (st : List pz_V) (h : pz_H) (o : Option pz_V ⊕ Nat) (h' : pz_H), J pc ls st h = some (o, h') → pz_hk L xs h → (∀ u, some u ∈ ls → pz_o h.1.1 u) → (∀ v ∈ st, pz_o h.1.1 v) → pz_hk L xs h' ∧ pz_le h h' ∧ pz_oo h'.1.1 o) :
    ∀ (ops : List pz_Op) (pc : Nat) (ls : pz_L) (st : List pz_V) (h : pz_H) (o : Option pz_V ⊕ Nat) (h' : pz_H), pz_ck m nx ops pc = true → pz_ex C J hh nx ops ls st h = some (o, h') → pz_hk L xs h → (∀ u, some u ∈ ls → pz_o h.1.1 u) → (∀ v ∈ st, pz_o h.1.1 v) → pz_hk L xs h' ∧ pz_le h h' ∧ pz_oo h'.1.1 o := by
  intro ops
  induction ops with
  | nil =>
    intro pc ls st h o h' hck he q hl ho
    exact hJ nx ls st h o h' he q hl ho
  | cons op ops ih =>
    intro pc ls st h o h' hck he q hl ho
    obtain ⟨g, ins, len, a, b, c, e⟩ := op
    simp only [pz_ck, Bool.and_eq_true] at hck
    obtain ⟨-, hck1, hck2⟩ := hck
    simp only [pz_ex] at he
    split at he
    · split at he
      · rename_i st' hst
        exact ih _ _ _ _ _ _ (by simpa using hck2) he q hl (pz_pure_ok hst ho)
      · cases he
    · split at he
      · rename_i ls' st' hst
        obtain ⟨k1, k2, -⟩ := pz_loc_ok hst hl ho
        exact ih _ _ _ _ _ _ (by simpa using hck2) he q k1 k2
      · cases he
    · split at he
      · rename_i st' h1 hst
        obtain ⟨k1, k2, k3⟩ := pz_mem_ok hLb hst hck1 q ho
        obtain ⟨j1, j2, j3⟩ := ih _ _ _ _ _ _ (by simpa using hck2) he k1 (fun u hu => (hl u hu).mono k2.1) k3
        exact ⟨j1, k2.tr j2, j3⟩
      · cases he
    · -- a constant
      refine ih _ _ _ _ _ _ (by simpa using hck2) he q hl ?_
      simp only [List.mem_cons, forall_eq_or_imp]
      refine ⟨?_, ho⟩
      simp only [pz_ck1, Bool.and_eq_true, decide_eq_true_eq] at hck1
      exact pz_csti hck1.2.1
    · -- a call
      obtain ⟨hcond, he⟩ := pz_ite he
      · have hd : ∀ v ∈ st.drop b, pz_o h.1.1 v := fun v hv => ho v (List.mem_of_mem_drop hv)
        have ha : ∀ v ∈ (st.take b).reverse, pz_o h.1.1 v := fun v hv => ho v (List.mem_of_mem_take (List.mem_reverse.mp hv))
        split at he
        · rename_i h1 hcall
          obtain ⟨k1, k2, k3⟩ := hC _ _ _ _ _ hcall q ha
          obtain ⟨j1, j2, j3⟩ := ih _ _ _ _ _ _ (by simpa using hck2) he k1 (fun u hu => (hl u hu).mono k2.1) (fun v hv => (hd v hv).mono k2.1)
          exact ⟨j1, k2.tr j2, j3⟩
        · rename_i v h1 hcall
          obtain ⟨k1, k2, k3⟩ := hC _ _ _ _ _ hcall q ha
          obtain ⟨j1, j2, j3⟩ := ih _ _ _ _ _ _ (by simpa using hck2) he k1 (fun u hu => (hl u hu).mono k2.1) (by
            simp only [List.mem_cons, forall_eq_or_imp]
            exact ⟨k3, fun v hv => (hd v hv).mono k2.1⟩)
          exact ⟨j1, k2.tr j2, j3⟩
        · rename_i E h1 hcall
          obtain ⟨k1, k2, k3⟩ := hC _ _ _ _ _ hcall q ha
          split at he
          · rename_i k hk
            cases he
            refine ⟨k1, k2, ?_⟩
            exact pz_hv_i (pz_lk_le hhk hk)
          · cases he
            exact ⟨k1, k2, trivial⟩
        · cases he
    · split at he
      · rename_i st' h1 hst
        obtain ⟨k1, k2, k3⟩ := pz_cpy_ok hst q ho
        obtain ⟨j1, j2, j3⟩ := ih _ _ _ _ _ _ (by simpa using hck2) he k1 (fun u hu => (hl u hu).mono k2.1) k3
        exact ⟨j1, k2.tr j2, j3⟩
      · cases he
    · split at he
      · split at he
        · simp only [List.mem_cons, forall_eq_or_imp] at ho
          exact ih _ _ _ _ _ _ (by simpa using hck2) he q hl ho.2
        · cases he
      · cases he
    · split at he
      · cases he
        exact ⟨q, ⟨Nat.le_refl _, Nat.le_succ _, Nat.le_add_right _ _⟩, trivial⟩
      · cases he
    · exact hJ _ _ _ _ _ _ he q hl ho
    · split at he
      · simp only [List.mem_cons, forall_eq_or_imp] at ho
        split at he
        · exact hJ _ _ _ _ _ _ he q hl ho.2
        · exact ih _ _ _ _ _ _ (by simpa using hck2) he q hl ho.2
      · simp only [List.mem_cons, forall_eq_or_imp] at ho
        split at he
        · exact hJ _ _ _ _ _ _ he q hl ho.2.2
        · exact ih _ _ _ _ _ _ (by simpa using hck2) he q hl ho.2.2
      · simp only [List.mem_cons, forall_eq_or_imp] at ho
        split at he
        · exact hJ _ _ _ _ _ _ he q hl ho.2
        · exact ih _ _ _ _ _ _ (by simpa using hck2) he q hl ho.2
      · cases he
    · split at he
      · split at he
        · cases he
          exact ⟨q, pz_le.rf _, ho _ List.mem_cons_self⟩
        · cases he
      · cases he
    · split at he
      · cases he
        exact ⟨q, pz_le.rf _, trivial⟩
      · cases he
    · split at he
      · simp only [List.mem_cons, forall_eq_or_imp] at ho
        split at he
        · exact hJ _ _ _ _ _ _ he q hl ho.2
        · split at he
          · exact hJ _ _ _ _ _ _ he q hl ho.2
          · cases he
      · cases he
    · -- a long constant
      refine ih _ _ _ _ _ _ (by simpa using hck2) he q hl ?_
      simp only [List.mem_cons, forall_eq_or_imp]
      refine ⟨?_, ho⟩
      simp only [pz_ck1, Bool.and_eq_true, decide_eq_true_eq] at hck1
      have := hck1.2.1
      exact ⟨by omega, by omega⟩
    · cases he
