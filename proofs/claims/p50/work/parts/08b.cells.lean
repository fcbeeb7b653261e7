/-! the machine follows the evaluator: cells -/
def pz_gd : List Cond := lw_tbl.filter goodWord
theorem pz_gd_in {w : Cond} {i : Nat} (h : lw_tbl[i]? = some w) (g : goodWord w = true) : w ∈ pz_gd := List.mem_filter.mpr ⟨List.mem_of_getElem? h, g⟩
theorem pz_gd_good {w : Cond} (h : w ∈ pz_gd) : w ∈ pz_gd ∧ ((w.onTables && w.keeps) = true ∨ ∃ ty, w = .arrayClass ty) := ⟨h, good_of_word (List.mem_filter.mp h).2⟩
def pz_tys (dA : Nat → ClassId) : List (ClassId × FieldType) := [(dA 20, .int), (dA 21, .boolean), (dA 22, .char), (dA 23, .object "Simplespan$Plan")]
def pz_fv (ad : Nat → Nat) (h : pz_H) (k r j : Nat) : Value := if pz_tc k j = 9 then pz_e ad (.inr (.inl (h.1.2.2.2 r j))) else .int (Int32.ofInt (h.2.1 r j))
def pz_rr (ad : Nat → Nat) (r : Nat) : Option Nat := if r = 0 then none else some (ad r)
theorem pz_rr_e (ad : Nat → Nat) (r : Nat) : va_rf (pz_rr ad r) = pz_e ad (.inr (.inl r)) := by
  unfold pz_rr
  show _ = (if r = 0 then Value.null else .ref (ad r))
  split <;> rfl
def pz_ce (ad : Nat → Nat) (dA : Nat → ClassId) (h : pz_H) (r : Nat) : va_E :=
  if h.1.2.1 r < 11 then .inr (h.1.2.1 r, (List.range (pz_nf (h.1.2.1 r))).map (pz_fv ad h (h.1.2.1 r) r))
  else if h.1.2.1 r = 23 then .inl (dA 23, h.1.2.2.1 r, .inr (.inr (.inr (.inr (fun j => pz_rr ad (h.1.2.2.2 r j))))))
  else .inl (dA (h.1.2.1 r), h.1.2.2.1 r, .inl (fun j => Int32.ofInt (h.2.1 r j)))
def pz_ws (ad : Nat → Nat) (dA : Nat → ClassId) (h : pz_H) : va_W := (List.range h.1.1).map (fun k => (ad (k + 2), pz_ce ad dA h (k + 2)))
theorem pz_ws_at {ad : Nat → Nat} {dA : Nat → ClassId} {h : pz_H} {r : Nat} (h1 : 2 ≤ r) (h2 : r < h.1.1 + 2) : (pz_ws ad dA h)[r - 2]? = some (ad r, pz_ce ad dA h r) := by
  unfold pz_ws
  rw [List.getElem?_map, List.getElem?_range (by omega)]
  have : r - 2 + 2 = r := by omega
  show some (ad (r - 2 + 2), pz_ce ad dA h (r - 2 + 2)) = _
  rw [this]
theorem pz_ws_set {ad : Nat → Nat} {dA : Nat → ClassId} {h h' : pz_H} {r : Nat} {z : va_E} (h1 : 2 ≤ r) (hn : h'.1.1 = h.1.1) (hz : pz_ce ad dA h' r = z) (he : ∀ r', r' ≠ r → pz_ce ad dA h' r' = pz_ce ad dA h r') : pz_ws ad dA h' = (pz_ws ad dA h).set (r - 2) (ad r, z) := by
  apply List.ext_getElem?
  intro i
  rw [List.getElem?_set]
  unfold pz_ws
  rw [hn]
  split
  · rename_i hi
    subst hi
    have e2 : r - 2 + 2 = r := by omega
    split
    · rename_i hlt
      simp only [List.length_map, List.length_range] at hlt
      rw [List.getElem?_map, List.getElem?_range hlt]
      show some (ad (r - 2 + 2), pz_ce ad dA h' (r - 2 + 2)) = _
      rw [e2, hz]
    · rename_i hlt
      simp only [List.length_map, List.length_range] at hlt
      rw [List.getElem?_eq_none]
      simp; omega
  · rename_i hi
    rw [List.getElem?_map, List.getElem?_map]
    rcases Nat.lt_or_ge i h.1.1 with hl | hl
    · rw [List.getElem?_range hl]
      show some (ad (i + 2), pz_ce ad dA h' (i + 2)) = some (ad (i + 2), pz_ce ad dA h (i + 2))
      rw [he (i + 2) (by omega)]
    · rw [List.getElem?_eq_none (by simpa using hl)]
      rfl
theorem pz_ce_same {ad ad' : Nat → Nat} {dA : Nat → ClassId} {h : pz_H} (ha : ∀ r, r < h.1.1 + 2 → ad' r = ad r) (hr : ∀ r j, h.1.2.2.2 r j < h.1.1 + 2) (r : Nat) : pz_ce ad' dA h r = pz_ce ad dA h r := by
  have h1 : ∀ k, pz_fv ad' h k r = pz_fv ad h k r := by
    intro k
    funext j
    unfold pz_fv
    rw [pz_e_same ha (v := .inr (.inl (h.1.2.2.2 r j))) (hr r j)]
  have h2 : ∀ j, pz_rr ad' (h.1.2.2.2 r j) = pz_rr ad (h.1.2.2.2 r j) := by
    intro j
    unfold pz_rr
    rw [ha _ (hr r j)]
  unfold pz_ce
  rw [h1]
  simp only [h2]
theorem pz_ws_same {ad ad' : Nat → Nat} {dA : Nat → ClassId} {h : pz_H} (ha : ∀ r, r < h.1.1 + 2 → ad' r = ad r) (hr : ∀ r j, h.1.2.2.2 r j < h.1.1 + 2) : pz_ws ad' dA h = pz_ws ad dA h := by
  unfold pz_ws
  apply List.map_congr_left
  intro k hk
  have := List.mem_range.mp hk
  rw [ha _ (by omega), pz_ce_same ha hr]
/-- a new cell -/
theorem pz_ws_new {ad : Nat → Nat} {dA : Nat → ClassId} {h : pz_H} {kd ln sl q : Nat} {z : va_E} (hr : ∀ r j, h.1.2.2.2 r j < h.1.1 + 2) (hz : pz_ce (pz_u1 ad (h.1.1 + 2) q) dA (pz_new h kd ln sl) (h.1.1 + 2) = z) :
    pz_ws (pz_u1 ad (h.1.1 + 2) q) dA (pz_new h kd ln sl) = pz_ws ad dA h ++ [(q, z)] := by
  have hn : (pz_new h kd ln sl).1.1 = h.1.1 + 1 := rfl
  unfold pz_ws
  rw [hn, List.range_succ, List.map_append]
  congr 1
  · apply List.map_congr_left
    intro k hk
    have hk := List.mem_range.mp hk
    have e1 : pz_u1 ad (h.1.1 + 2) q (k + 2) = ad (k + 2) := by rw [pz_u1_at, if_neg (by omega)]
    rw [e1]
    congr 1
    have f1 : (pz_new h kd ln sl).1.2.1 (k + 2) = h.1.2.1 (k + 2) := by show pz_u1 _ _ _ _ = _; rw [pz_u1_at, if_neg (by omega)]
    have f2 : (pz_new h kd ln sl).1.2.2.1 (k + 2) = h.1.2.2.1 (k + 2) := by show pz_u1 _ _ _ _ = _; rw [pz_u1_at, if_neg (by omega)]
    have f3 : (pz_new h kd ln sl).1.2.2.2 (k + 2) = h.1.2.2.2 (k + 2) := by show pz_u1 _ _ _ _ = _; rw [pz_u1_at, if_neg (by omega)]
    have f4 : (pz_new h kd ln sl).2.1 (k + 2) = h.2.1 (k + 2) := by show pz_u1 _ _ _ _ = _; rw [pz_u1_at, if_neg (by omega)]
    have f5 : (pz_new h kd ln sl).2.2.1 (k + 2) = h.2.2.1 (k + 2) := by show pz_u1 _ _ _ _ = _; rw [pz_u1_at, if_neg (by omega)]
    have ea : ∀ j, pz_e (pz_u1 ad (h.1.1 + 2) q) (.inr (.inl (h.1.2.2.2 (k + 2) j))) = pz_e ad (.inr (.inl (h.1.2.2.2 (k + 2) j))) := fun j =>
      pz_e_same (n := h.1.1) (fun r hlt => by rw [pz_u1_at, if_neg (by omega)]) (hr (k + 2) j)
    have eb : ∀ j, pz_rr (pz_u1 ad (h.1.1 + 2) q) (h.1.2.2.2 (k + 2) j) = pz_rr ad (h.1.2.2.2 (k + 2) j) := by
      intro j
      have hne : h.1.2.2.2 (k + 2) j ≠ h.1.1 + 2 := by have := hr (k + 2) j; omega
      unfold pz_rr
      rw [pz_u1_at, if_neg hne]
    unfold pz_ce
    rw [f1, f2, f3, f4]
    have ec : ∀ kk, pz_fv (pz_u1 ad (h.1.1 + 2) q) (pz_new h kd ln sl) kk (k + 2) = pz_fv ad h kk (k + 2) := by
      intro kk
      funext j
      unfold pz_fv
      rw [f3, f4, ea]
    rw [ec]
    simp only [eb]
  · show [(pz_u1 ad (h.1.1 + 2) q (h.1.1 + 2), pz_ce _ dA _ (h.1.1 + 2))] = [(q, z)]
    rw [hz, pz_u1_at, if_pos rfl]
/-- what the tables say of the classes -/
def pz_tk : Bool := (List.range 11).all (fun ci => (List.range (pz_nf ci)).all (fun k => match pz_cls[ci]? with
  | some q => (match parseFieldDescriptor (q.2.1 k).2.2.1 with
    | some .int => pz_tc ci k == 0
    | some .boolean => pz_tc ci k == 1
    | some (.object _) => pz_tc ci k == 9
    | some (.array _) => pz_tc ci k == 9
    | _ => false) && (decide ((q.2.1 k).1 = q.1) && (List.range (pz_nf ci)).all (fun j => j == k || decide ((q.2.1 j).2.1 ≠ (q.2.1 k).2.1)))
  | none => false))
theorem pz_tk_ok : pz_tk = true := by decide +kernel
theorem pz_cls_lt {ci : Nat} {q : vw_C} (h : pz_cls[ci]? = some q) : ci < 11 := (List.getElem?_eq_some_iff.mp h).1
theorem pz_nf_at {ci : Nat} {q : vw_C} (h : pz_cls[ci]? = some q) : pz_nf ci = q.2.2 := by
  unfold pz_nf
  rw [h]
theorem pz_tk_at {ci k : Nat} {q : vw_C} (h : pz_cls[ci]? = some q) (hk : k < q.2.2) : (∃ ty, parseFieldDescriptor (q.2.1 k).2.2.1 = some ty ∧ ((ty = .int ∧ pz_tc ci k = 0) ∨ (ty = .boolean ∧ pz_tc ci k = 1) ∨ ((∃ n, ty = .object n) ∧ pz_tc ci k = 9) ∨ ((∃ t, ty = .array t) ∧ pz_tc ci k = 9))) ∧ (q.2.1 k).1 = q.1 ∧ ∀ j, j < q.2.2 → j ≠ k → (q.2.1 j).2.1 ≠ (q.2.1 k).2.1 := by
  have h0 := pz_tk_ok
  unfold pz_tk at h0
  have h1 := List.all_eq_true.mp h0 ci (List.mem_range.mpr (pz_cls_lt h))
  rw [pz_nf_at h] at h1
  have h2 := List.all_eq_true.mp h1 k (List.mem_range.mpr hk)
  rw [h] at h2
  simp only [Bool.and_eq_true, decide_eq_true_eq] at h2
  obtain ⟨h3, h4, h5⟩ := h2
  refine ⟨?_, h4, fun j hj hne => ?_⟩
  · split at h3
    · rename_i e; exact ⟨_, e, Or.inl ⟨rfl, by simpa using h3⟩⟩
    · rename_i e; exact ⟨_, e, Or.inr (Or.inl ⟨rfl, by simpa using h3⟩)⟩
    · rename_i e; exact ⟨_, e, Or.inr (Or.inr (Or.inl ⟨⟨_, rfl⟩, by simpa using h3⟩))⟩
    · rename_i e; exact ⟨_, e, Or.inr (Or.inr (Or.inr ⟨⟨_, rfl⟩, by simpa using h3⟩))⟩
    · cases h3
  · have h6 := List.all_eq_true.mp h5 j (List.mem_range.mpr hj)
    simp only [Bool.or_eq_true, beq_iff_eq, decide_eq_true_eq] at h6
    rcases h6 with h6 | h6
    · exact absurd h6 hne
    · exact h6
def pz_t0 (q : vw_C) (k : Nat) : FieldType := (parseFieldDescriptor (q.2.1 k).2.2.1).getD .int
theorem pz_t0_ok {ci : Nat} {q : vw_C} (h : pz_cls[ci]? = some q) : ∀ k, k < q.2.2 → parseFieldDescriptor (q.2.1 k).2.2.1 = some (pz_t0 q k) := by
  intro k hk
  obtain ⟨⟨ty, h1, -⟩, -⟩ := pz_tk_at h hk
  unfold pz_t0
  rw [h1]
  rfl
theorem pz_nm_ok {ci : Nat} {q : vw_C} (h : pz_cls[ci]? = some q) : ∀ a, a < q.2.2 → ∀ b, b < q.2.2 → a ≠ b → (q.2.1 a).2.1 ≠ (q.2.1 b).2.1 := fun a ha b hb hne => (pz_tk_at h hb).2.2 a ha hne
def pz_wk : Bool := pz_cls.all (fun q => (u_ws q.1 q.2.1 q.2.2).all (fun w => decide (w ∈ lw_tbl) && goodWord w))
theorem pz_wk_ok : pz_wk = true := by decide +kernel
theorem pz_in {ci : Nat} {q : vw_C} (h : pz_cls[ci]? = some q) : ∀ w ∈ u_ws q.1 q.2.1 q.2.2, w ∈ pz_gd := by
  intro w hw
  have h1 := List.all_eq_true.mp pz_wk_ok q (List.mem_of_getElem? h)
  have h2 := List.all_eq_true.mp h1 w hw
  simp only [Bool.and_eq_true, decide_eq_true_eq] at h2
  exact List.mem_filter.mpr h2
def pz_fk : Bool := pz_fl.all (fun x => match pz_cls[x.2.2.1]? with
  | some q => decide (lw_tbl[x.2.2.2.2]? = some (.fieldLink x.1 x.2.1 (q.2.1 x.2.2.2.1).1 (q.2.1 x.2.2.2.1).2.1 (q.2.1 x.2.2.2.1).2.2.1))
  | none => false)
theorem pz_fk_ok : pz_fk = true := by decide +kernel
theorem pz_fl_at {o : String} {i a b w e : Nat} (h : pz_fl[e]? = some (o, i, a, b, w)) : ∃ q, pz_cls[a]? = some q ∧ Cond.fieldLink o i (q.2.1 b).1 (q.2.1 b).2.1 (q.2.1 b).2.2.1 ∈ pz_gd := by
  have h1 := List.all_eq_true.mp pz_fk_ok _ (List.mem_of_getElem? h)
  dsimp only at h1
  split at h1
  · rename_i q hq
    exact ⟨q, hq, pz_gd_in (of_decide_eq_true h1) rfl⟩
  · cases h1
