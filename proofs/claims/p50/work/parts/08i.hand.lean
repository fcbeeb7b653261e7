/-! handlers of the law's wrappers; methods that never throw; every block is checked -/
def pz_hf : List (Nat × Nat × Nat × Nat) → Nat → Nat → Option Nat
  | [], _, _ => none
  | q :: r, pc, ic => if (q.1 ≤ pc ∧ pc < q.2.1) ∧ q.2.2.2 = ic then some q.2.2.1 else pz_hf r pc ic
theorem pz_hf_some : ∀ {tb : List (Nat × Nat × Nat × Nat)} {pc ic hp : Nat}, pz_hf tb pc ic = some hp → ∃ pre x suf, tb = pre ++ x :: suf ∧ (x.1 ≤ pc ∧ pc < x.2.1) ∧ x.2.2.2 = ic ∧ x.2.2.1 = hp ∧ ∀ z ∈ pre, ¬ ((z.1 ≤ pc ∧ pc < z.2.1) ∧ z.2.2.2 = ic)
  | [], _, _, _, h => by cases h
  | q :: r, pc, ic, hp, h => by
    unfold pz_hf at h
    split at h
    · rename_i hc
      cases h
      exact ⟨[], q, r, rfl, hc.1, hc.2, rfl, fun z hz => by cases hz⟩
    · rename_i hc
      obtain ⟨pre, x, suf, h1, h2, h3, h4, h5⟩ := pz_hf_some h
      refine ⟨q :: pre, x, suf, by rw [h1]; rfl, h2, h3, h4, fun z hz => ?_⟩
      rcases List.mem_cons.mp hz with rfl | hz
      · exact hc
      · exact h5 z hz
theorem pz_hf_none : ∀ {tb : List (Nat × Nat × Nat × Nat)} {pc ic : Nat}, pz_hf tb pc ic = none → ∀ z ∈ tb, ¬ ((z.1 ≤ pc ∧ pc < z.2.1) ∧ z.2.2.2 = ic)
  | [], _, _, _, z, hz => by cases hz
  | q :: r, pc, ic, h, z, hz => by
    unfold pz_hf at h
    split at h
    · cases h
    · rename_i hc
      rcases List.mem_cons.mp hz with rfl | hz
      · exact hc
      · exact pz_hf_none h z hz
def pz_ict (E : Nat) : Nat := match pz_xt[E]? with
  | some q => q.2.2.2.2.2.1
  | none => 0
/-- a handler's constant: its index in the law's pool, its word -/
def pz_hq (k : Nat) : Option (Nat × Nat) := [(0, 0), (22, 569), (31, 632), (32, 633)][k]?
def pz_hs2 (m hp k : Nat) : Bool := match pz_hq k with
  | some (i, e) => decide (lw_tbl[e]? = some (.constant "SimplespanLaw" i (Int32.ofInt (pz_hv k)))) && (match decode (pz_bs m) hp with
    | .ok (.astore j, len) => len == 2 && (decide (j < pz_ml m) && (decide (decode (pz_bs m) (hp + 2) = .ok (.ldc i, 2)) && decide (decode (pz_bs m) (hp + 4) = .ok (.ireturn, 1))))
    | .ok (.astore_n j, len) => len == 1 && (decide (j.val < pz_ml m) && (decide (decode (pz_bs m) (hp + 1) = .ok (.ldc i, 2)) && decide (decode (pz_bs m) (hp + 3) = .ok (.ireturn, 1))))
    | _ => false)
  | none => false
def pz_hs1 (m pc E : Nat) : Bool := match pz_hf (pz_hh m) pc (pz_ict E), pz_lk (pz_hc m) E with
  | none, none => true
  | some hp, some k => pz_hs2 m hp k
  | _, _ => false
def pz_hkl (m : Nat) : List pz_Op → Nat → Bool
  | [], _ => true
  | (g, _, len, _, _, _, _) :: ops, pc => (if g = 4 then (List.range 5).all (pz_hs1 m pc) else true) && pz_hkl m ops (pc + len)
/-- the rows of a table name classes that we know; it stands in the law; its calls are caught as the evaluator says -/
def pz_hkm (m : Nat) : Bool := (pz_hc m).all (fun q => decide (q.2 ≤ 9)) && (((pz_hh m).isEmpty && (pz_hc m).isEmpty) ||
  ((pz_hh m).all (fun q => (List.range 5).any (fun E => q.2.2.2 == pz_ict E)) && (decide ((pz_yy m).cls = "SimplespanLaw" ∧ pz_rt m = some .int) && (pz_pg.getD m []).all (fun q => pz_hkl m q.2.1 q.1))))
theorem pz_hkm0 : (List.range 200).all pz_hkm = true := by decide +kernel
theorem pz_hkm1 : ((List.range 32).map (· + 200)).all pz_hkm = true := by decide +kernel
theorem pz_mt_len : pz_mt.length = 232 := by decide +kernel
theorem pz_hkm_ok (m : Nat) : pz_hkm m = true := by
  rcases Nat.lt_or_ge m 200 with h | h
  · exact List.all_eq_true.mp pz_hkm0 m (List.mem_range.mpr h)
  rcases Nat.lt_or_ge m 232 with h1 | h1
  · exact List.all_eq_true.mp pz_hkm1 m (List.mem_map.mpr ⟨m - 200, List.mem_range.mpr (by omega), by omega⟩)
  · have e0 : pz_mt[m]? = none := List.getElem?_eq_none (by rw [pz_mt_len]; exact h1)
    unfold pz_hkm pz_hc pz_hh
    rw [e0]
    rfl
theorem pz_hkl_nil {m : Nat} (h1 : pz_hh m = []) (h2 : pz_hc m = []) : ∀ (ops : List pz_Op) (pc : Nat), pz_hkl m ops pc = true
  | [], _ => rfl
  | (g, _, len, _, _, _, _) :: ops, pc => by
    have h3 := pz_hkl_nil h1 h2 ops (pc + len)
    unfold pz_hkl
    rw [h3, Bool.and_true]
    split
    · refine List.all_eq_true.mpr fun E _ => ?_
      unfold pz_hs1
      rw [h1, h2]
      rfl
    · rfl
theorem pz_look : ∀ {α : Type} {l : List (Nat × α)} {k : Nat} {b : α}, l.lookup k = some b → (k, b) ∈ l
  | _, [], _, _, h => by cases h
  | _, (k0, b0) :: r, k, b, h => by
    unfold List.lookup at h
    split at h
    · rename_i hk
      cases h
      have := eq_of_beq hk
      subst this
      exact List.mem_cons_self
    · exact List.mem_cons_of_mem _ (pz_look h)
theorem pz_blk_in (m pc : Nat) : (pc, pz_blk m pc) ∈ pz_pg.getD m [] ∨ (pz_blk m pc).1 = [(99, .nop, 0, 0, 0, 0, 0)] := by
  unfold pz_blk
  split
  · rename_i b hb
    exact Or.inl (pz_look hb)
  · exact Or.inr rfl
theorem pz_hkl_blk {m pc : Nat} (h : (pc, pz_blk m pc) ∈ pz_pg.getD m []) : pz_hkl m (pz_blk m pc).1 pc = true := by
  have h1 := pz_hkm_ok m
  unfold pz_hkm at h1
  simp only [Bool.and_eq_true, Bool.or_eq_true] at h1
  rcases h1.2 with h2 | h2
  · exact pz_hkl_nil (List.isEmpty_iff.mp h2.1) (List.isEmpty_iff.mp h2.2) _ _
  · exact List.all_eq_true.mp h2.2.2 _ h
theorem pz_hc9 (m : Nat) : ∀ q ∈ pz_hc m, q.2 ≤ 9 := by
  have h1 := pz_hkm_ok m
  unfold pz_hkm at h1
  simp only [Bool.and_eq_true] at h1
  intro q hq
  exact of_decide_eq_true (List.all_eq_true.mp h1.1 q hq)
/-- what a method answers when a call of it threw k -/
def pz_tr (m k : Nat) : Option pz_V ⊕ Nat := match pz_lk (pz_hc m) k with
  | some j => .inl (some (.inl (pz_hv j)))
  | none => .inr k
theorem pz_xn_len : pz_xn.length = 5 := rfl
section PZH
variable {p : Program} {l : Launch} {e : Env} {R : Room} {s : State} {mI : MethodId} {args : Array Value} {below : List Frame} {meth : Method} {c : Code} {H : Heap} {locs : List Loc} {cells slots : Nat} {Q : State → Prop}
variable {pc : Nat} {mls : Array Slot} {m Z L : Nat} {xs : Nat → Int32} {D : va_G} {dA : Nat → ClassId} {sa ad0 ad : Nat → Nat} {h0 h : pz_H} {ls : pz_L}
theorem pz_pass {k : Nat} {X : String} {z : Nat × Nat × Nat × Nat} (hC : pz_Cx p l R s mI args meth c m Z L xs D dA sa ad0) (hX : pz_xn[k]? = some X) (hz : z ∈ pz_hh m) (hn : ¬ ((z.1 ≤ pc ∧ pc < z.2.1) ∧ z.2.2.2 = pz_ict k)) (own : String) (hown : own = "SimplespanLaw") :
    covers ⟨z.1, z.2.1, z.2.2.1, z.2.2.2⟩ pc = false ∨ ((⟨z.1, z.2.1, z.2.2.1, z.2.2.2⟩ : ExceptionTableEntry).catchType ≠ 0 ∧ ∃ nm : String, (Cond.classLink own (⟨z.1, z.2.1, z.2.2.1, z.2.2.2⟩ : ExceptionTableEntry).catchType nm).before args s = true ∧ va_Nc X nm s) := by
  obtain ⟨hx, hbc, hml, hts, hown', hname, hret, hlk, hRf, hRl, htr, htab, hE, hSt⟩ := hC
  by_cases hc : z.1 ≤ pc ∧ pc < z.2.1
  · refine Or.inr ?_
    have h1 := pz_hkm_ok m
    unfold pz_hkm at h1
    simp only [Bool.and_eq_true, Bool.or_eq_true] at h1
    rcases h1.2 with h2 | h2
    · rw [List.isEmpty_iff.mp h2.1] at hz
      cases hz
    · have h3 := List.all_eq_true.mp h2.1 z hz
      obtain ⟨E, hE1, hE2⟩ := List.any_eq_true.mp h3
      have hE6 := List.mem_range.mp hE1
      have hE2 := eq_of_beq hE2
      obtain ⟨X', q, hX', hq, -, -, -, -, w5, -, hne⟩ := pz_xk_at hE6
      have he : pz_ict E = q.2.2.2.2.2.1 := by unfold pz_ict; rw [hq]
      have hkE : k ≠ E := fun q9 => hn ⟨hc, by rw [hE2, q9]⟩
      subst hown
      refine ⟨?_, X', ?_, hE.2.2.2.2 _ _ _ _ hX hX' hkE⟩
      · show z.2.2.2 ≠ 0
        rw [hE2, he]; exact hne
      · show (Cond.classLink "SimplespanLaw" z.2.2.2 X').before args s = true
        rw [hE2, he]
        exact hts _ w5
  · refine Or.inl ?_
    show (decide (z.1 ≤ pc) && decide (pc < z.2.1)) = false
    by_cases h1 : z.1 ≤ pc
    · have h2 : ¬ pc < z.2.1 := fun h2 => hc ⟨h1, h2⟩
      simp [h2]
    · simp [h1]
theorem pz_Wcatch {k : Nat} {X : String} {q : Addr} {ce : Cell} {rest : List Value} (hC : pz_Cx p l R s mI args meth c m Z L xs D dA sa ad0) (hT : pz_Pt s m Z L xs D dA ad0 ad h0 h ls mls H locs cells slots)
    (hX : pz_xn[k]? = some X) (hcell : H[q]? = some ce) (hv : ce.vm = .none) (hcl : s.vm.findClass X = some ce.cls) (hs1 : pz_hs1 m pc k = true) :
    vx_W p l e R s mI args below meth c H locs cells slots (vx_MQ below (pz_Qc Z D dA ad0 h0 (pz_tr m k) h) (pz_XC Z D dA ad0 h0 (pz_tr m k) h) args s cells slots (fun q => Z ≤ q)) (F0 mI pc mls rest) q := by
  have hC0 := hC
  obtain ⟨hx, hbc, hml, hts, hown, hname, hret, hlk, hRf, hRl, htr, htab, hE, hSt⟩ := hC
  obtain ⟨hlv, hP, hD, hS, had, hn0, hcs, hss, hk, hlo⟩ := hT
  have hk6 : k < 5 := by rw [← pz_xn_len]; exact (List.getElem?_eq_some_iff.mp hX).1
  have hlaw : pz_hh m ≠ [] → (pz_yy m).cls = "SimplespanLaw" ∧ pz_rt m = some .int := by
    intro hne
    have h1 := pz_hkm_ok m
    unfold pz_hkm at h1
    simp only [Bool.and_eq_true, Bool.or_eq_true, decide_eq_true_eq] at h1
    rcases h1.2 with h2 | h2
    · exact absurd (List.isEmpty_iff.mp h2.1) hne
    · exact h2.2.1
  unfold pz_hs1 at hs1
  unfold pz_tr
  split at hs1
  · -- not caught
    rename_i h1 h2
    rw [h2]
    have hp := pz_hf_none h1
    refine vx_outP (own := (pz_yy m).cls) (E := X) hown hlk ?_ hcell hv hcl ?_ hS.2.2 (Nat.le_refl _) (Nat.le_refl _)
    · intro z hz
      rw [htab] at hz
      obtain ⟨z0, hz0, rfl⟩ := List.mem_map.mp hz
      exact pz_pass hC0 hX hz0 (hp z0 hz0) _ (hlaw (fun q9 => by rw [q9] at hz0; cases hz0)).1
    · intro t ht hvm
      exact ⟨k, ad, rfl, hX, had, by rw [ht]; exact hP, hD, hS.F ht⟩
  · -- caught
    rename_i hp j h1 h2
    rw [h2]
    obtain ⟨pre, x, suf, e1, e2, e3, e4, e5⟩ := pz_hf_some h1
    obtain ⟨hl1, hl2⟩ := hlaw (fun q9 => by rw [q9] at e1; cases pre <;> cases e1)
    obtain ⟨X', q', hX', hq', -, -, -, w4, w5, -, hne⟩ := pz_xk_at hk6
    cases hX.symm.trans hX'
    have he : pz_ict k = q'.2.2.2.2.2.1 := by unfold pz_ict; rw [hq']
    refine vx_catch (own := (pz_yy m).cls) (name := X) (E := X) hown (pre.map fun q => ⟨q.1, q.2.1, q.2.2.1, q.2.2.2⟩) ⟨x.1, x.2.1, x.2.2.1, x.2.2.2⟩ (suf.map fun q => ⟨q.1, q.2.1, q.2.2.1, q.2.2.2⟩) ?_ ?_ ?_ ?_ ?_ ?_ hcell hv hcl ?_
    · rw [htab]
      unfold tableOf
      rw [e1, List.map_append]
      rfl
    · intro z hz
      obtain ⟨z0, hz0, rfl⟩ := List.mem_map.mp hz
      exact pz_pass hC0 hX (by rw [e1]; exact List.mem_append_left _ hz0) (e5 z0 hz0) _ hl1
    · show (decide (x.1 ≤ pc) && decide (pc < x.2.1)) = true
      simp [e2.1, e2.2]
    · show x.2.2.2 ≠ 0
      rw [e3, he]; exact hne
    · show (Cond.classLink (pz_yy m).cls x.2.2.2 X).before args s = true
      rw [e3, he, hl1]
      exact hts _ w5
    · exact va_Nw.use rfl (hE.2.2.1 _ w4)
    · show W p l e R s mI args below meth c H locs cells slots _ (F0 mI x.2.2.1 mls [.ref q])
      rw [e4]
      have hq : ∀ t : State, t.heap = H → s.WarmedH t.vm → pz_Qc Z D dA ad0 h0 (.inl (some (.inl (pz_hv j)))) h args s (.returned (some (pz_e ad (.inl (pz_hv j))))) t := fun t ht hW => ⟨some _, ad, rfl, had, rfl, by rw [ht]; exact hP, hD, hS.F ht⟩
      have hown9 : s.vm.findClass "SimplespanLaw" = some mI.cls := by rw [← hl1]; exact hown
      unfold pz_hs2 at hs1
      split at hs1
      · rename_i ix ex hqk
        simp only [Bool.and_eq_true] at hs1
        obtain ⟨hw9, hs1⟩ := hs1
        split at hs1
        · rename_i i len hd
          simp only [Bool.and_eq_true, decide_eq_true_eq, beq_iff_eq] at hs1
          obtain ⟨rfl, hi, d1, d2⟩ := hs1
          refine lv_astore hx hbc hd hlv.has hi rfl (fun mls' h' => ?_)
          refine lv_ldc hx hbc hown9 (hts _ (pz_gd_of ex hw9 rfl)) d1 ?_
          refine vx_ret ?_
          exact W.iret hx hbc (hret.trans hl2) hq hS.2.2 d2 hlk
        · rename_i i len hd
          simp only [Bool.and_eq_true, decide_eq_true_eq, beq_iff_eq] at hs1
          obtain ⟨rfl, hi, d1, d2⟩ := hs1
          refine lv_astore_n hx hbc hd rfl hlv.has hi rfl (fun mls' h' => ?_)
          refine lv_ldc hx hbc hown9 (hts _ (pz_gd_of ex hw9 rfl)) d1 ?_
          refine vx_ret ?_
          exact W.iret hx hbc (hret.trans hl2) hq hS.2.2 d2 hlk
        · cases hs1
      · cases hs1
  · cases hs1
end PZH
/-! methods that never throw -/
def pz_nt : List Nat := [3, 15, 23, 24, 30, 34, 52, 64, 75, 87, 108, 122, 185, 186, 187]
def pz_nto (ops : List pz_Op) : Bool := ops.all (fun o => !(o.1 == 7) && (!(o.1 == 4) || decide (o.2.2.2.1 ∈ pz_nt)))
theorem pz_nt_ok : pz_nt.all (fun m => (pz_pg.getD m []).all (fun b => pz_nto b.2.1)) = true := by decide +kernel
theorem pz_nt_cl : pz_cl.all (fun x => if x.2.2.2.1 = 2 ∨ x.2.2.2.1 = 3 ∨ x.2.2.2.1 = 4 then decide (x.2.2.1 ∈ pz_nt) else true) = true := by decide +kernel
theorem pz_nt_of {m len a b c e pc : Nat} {ins : Instr} (h : pz_ck1 m 4 ins len a b c e pc = true) {x : String × Nat × Nat × Nat × Nat} (hx : pz_cl[e]? = some x) (hk : x.2.2.2.1 = 2 ∨ x.2.2.2.1 = 3 ∨ x.2.2.2.1 = 4) : a ∈ pz_nt := by
  obtain ⟨-, i, k, w, he, -⟩ := pz_ck_call h
  have h1 := List.all_eq_true.mp pz_nt_cl x (List.mem_of_getElem? hx)
  rw [if_pos hk] at h1
  have h2 := of_decide_eq_true h1
  cases hx.symm.trans he
  exact h2
set_option maxHeartbeats 2000000 in
theorem pz_ex_nt {C : Nat → List pz_V → pz_H → Option pz_O} {J : Nat → pz_L → List pz_V → pz_H → Option pz_O} {hh : List (Nat × Nat)} {nx : Nat}
    (hC : ∀ a ∈ pz_nt, ∀ (as : List pz_V) (h : pz_H) (E : Nat) (h' : pz_H), C a as h ≠ some (.inr E, h')) (hJ : ∀ (pc : Nat) (ls : pz_L) (st : List pz_V) (h : pz_H) (E : Nat) (h' : pz_H), J pc ls st h ≠ some (.inr E, h')) :
    ∀ (ops : List pz_Op) (ls : pz_L) (st : List pz_V) (h : pz_H) (E : Nat) (h' : pz_H), pz_nto ops = true → pz_ex C J hh nx ops ls st h ≠ some (.inr E, h') := by
  intro ops
  induction ops with
  | nil => intro ls st h E h' _ he; exact hJ _ _ _ _ _ _ he
  | cons op ops ih =>
    intro ls st h E h' hn he
    obtain ⟨g, ins, len, a, b, c, e⟩ := op
    simp only [pz_nto, List.all_cons, Bool.and_eq_true] at hn
    obtain ⟨⟨hn7, hn4⟩, hn⟩ := hn
    simp only [pz_ex] at he
    split at he
    · split at he
      · exact ih _ _ _ _ _ hn he
      · cases he
    · split at he
      · exact ih _ _ _ _ _ hn he
      · cases he
    · split at he
      · exact ih _ _ _ _ _ hn he
      · cases he
    · exact ih _ _ _ _ _ hn he
    · have ha : a ∈ pz_nt := by simpa using hn4
      obtain ⟨-, he⟩ := pz_ite he
      split at he
      · exact ih _ _ _ _ _ hn he
      · exact ih _ _ _ _ _ hn he
      · rename_i hcall
        exact hC a ha _ _ _ _ hcall
      · cases he
    · split at he
      · exact ih _ _ _ _ _ hn he
      · cases he
    · split at he
      · split at he
        · exact ih _ _ _ _ _ hn he
        · cases he
      · cases he
    · simp at hn7
    · exact hJ _ _ _ _ _ _ he
    · split at he
      · split at he
        · exact hJ _ _ _ _ _ _ he
        · exact ih _ _ _ _ _ hn he
      · split at he
        · exact hJ _ _ _ _ _ _ he
        · exact ih _ _ _ _ _ hn he
      · split at he
        · exact hJ _ _ _ _ _ _ he
        · exact ih _ _ _ _ _ hn he
      · cases he
    · split at he
      · split at he
        · cases he
        · cases he
      · cases he
    · split at he
      · cases he
      · cases he
    · split at he
      · split at he
        · exact hJ _ _ _ _ _ _ he
        · split at he
          · exact hJ _ _ _ _ _ _ he
          · cases he
      · cases he
    · exact ih _ _ _ _ _ hn he
    · cases he
theorem pz_run_nt : ∀ (n m : Nat), m ∈ pz_nt → ∀ (pc : Nat) (ls : pz_L) (st : List pz_V) (h : pz_H) (E : Nat) (h' : pz_H), pz_run n m pc ls st h ≠ some (.inr E, h')
  | 0, _, _, _, _, _, _, _, _ => by intro he; cases he
  | n + 1, m, hm, pc, ls, st, h, E, h' => by
    intro he
    unfold pz_run at he
    rcases pz_blk_in m pc with hb | hb
    · have h1 := List.all_eq_true.mp pz_nt_ok m hm
      have h2 := List.all_eq_true.mp h1 _ hb
      exact pz_ex_nt (fun a ha as h E h' => pz_run_nt n a ha 0 (pz_en a as) [] h E h') (fun pc ls st h E h' => pz_run_nt n m hm pc ls st h E h') _ _ _ _ _ _ h2 he
    · rw [hb] at he
      simp only [pz_ex] at he
      cases he
/-! every block is checked -/
def pz_al : List (List (Nat × List pz_Op × Nat)) → Nat → Prop
  | [], _ => True
  | x :: r, k => pz_ckb k x = true ∧ pz_al r (k + 1)
theorem pz_al_app : ∀ {a b : List (List (Nat × List pz_Op × Nat))} {k : Nat}, pz_al a k → pz_al b (k + a.length) → pz_al (a ++ b) k
  | [], _, k, _, h => h
  | x :: r, b, k, h1, h2 => ⟨h1.1, pz_al_app h1.2 (by rw [show k + 1 + r.length = k + (x :: r).length by simp only [List.length_cons]; omega]; exact h2)⟩
theorem pz_al_at : ∀ {l : List (List (Nat × List pz_Op × Nat))} {k i : Nat} {x : List (Nat × List pz_Op × Nat)}, pz_al l k → l[i]? = some x → pz_ckb (k + i) x = true
  | [], _, _, _, _, h => by cases h
  | _ :: _, k, 0, _, h1, h2 => by
    cases h2
    exact h1.1
  | _ :: r, k, i + 1, x, h1, h2 => by
    have := pz_al_at (k := k + 1) (i := i) h1.2 (x := x) (by simpa using h2)
    rw [show k + (i + 1) = k + 1 + i by omega]
    exact this
set_option maxRecDepth 20000 in
theorem pz_al0 : pz_al pz_pg0 0 := (⟨pz_k0, pz_k1, pz_k2, pz_k3, pz_k4, pz_k5, pz_k6, pz_k7, pz_k8, pz_k9, pz_k10, pz_k11, pz_k12, pz_k13, pz_k14, pz_k15, pz_k16, pz_k17, pz_k18, pz_k19, pz_k20, pz_k21, pz_k22, pz_k23, pz_k24, pz_k25, pz_k26, pz_k27, pz_k28, pz_k29, pz_k30, pz_k31, pz_k32, pz_k33, pz_k34, pz_k35, pz_k36, pz_k37, pz_k38, pz_k39, trivial⟩ : pz_ckb 0 pz_c0 = true ∧ pz_ckb 1 pz_c1 = true ∧ pz_ckb 2 pz_c2 = true ∧ pz_ckb 3 pz_c3 = true ∧ pz_ckb 4 pz_c4 = true ∧ pz_ckb 5 pz_c5 = true ∧ pz_ckb 6 pz_c6 = true ∧ pz_ckb 7 pz_c7 = true ∧ pz_ckb 8 pz_c8 = true ∧ pz_ckb 9 pz_c9 = true ∧ pz_ckb 10 pz_c10 = true ∧ pz_ckb 11 pz_c11 = true ∧ pz_ckb 12 pz_c12 = true ∧ pz_ckb 13 pz_c13 = true ∧ pz_ckb 14 pz_c14 = true ∧ pz_ckb 15 pz_c15 = true ∧ pz_ckb 16 pz_c16 = true ∧ pz_ckb 17 pz_c17 = true ∧ pz_ckb 18 pz_c18 = true ∧ pz_ckb 19 pz_c19 = true ∧ pz_ckb 20 pz_c20 = true ∧ pz_ckb 21 pz_c21 = true ∧ pz_ckb 22 pz_c22 = true ∧ pz_ckb 23 pz_c23 = true ∧ pz_ckb 24 pz_c24 = true ∧ pz_ckb 25 pz_c25 = true ∧ pz_ckb 26 pz_c26 = true ∧ pz_ckb 27 pz_c27 = true ∧ pz_ckb 28 pz_c28 = true ∧ pz_ckb 29 pz_c29 = true ∧ pz_ckb 30 pz_c30 = true ∧ pz_ckb 31 pz_c31 = true ∧ pz_ckb 32 pz_c32 = true ∧ pz_ckb 33 pz_c33 = true ∧ pz_ckb 34 pz_c34 = true ∧ pz_ckb 35 pz_c35 = true ∧ pz_ckb 36 pz_c36 = true ∧ pz_ckb 37 pz_c37 = true ∧ pz_ckb 38 pz_c38 = true ∧ pz_ckb 39 pz_c39 = true ∧ True)
set_option maxRecDepth 20000 in
theorem pz_al1 : pz_al pz_pg1 40 := (⟨pz_k40, pz_k41, pz_k42, pz_k43, pz_k44, pz_k45, pz_k46, pz_k47, pz_k48, pz_k49, pz_k50, pz_k51, pz_k52, pz_k53, pz_k54, pz_k55, pz_k56, pz_k57, pz_k58, pz_k59, pz_k60, pz_k61, pz_k62, pz_k63, pz_k64, pz_k65, pz_k66, pz_k67, pz_k68, pz_k69, pz_k70, pz_k71, pz_k72, pz_k73, pz_k74, pz_k75, pz_k76, pz_k77, pz_k78, pz_k79, trivial⟩ : pz_ckb 40 pz_c40 = true ∧ pz_ckb 41 pz_c41 = true ∧ pz_ckb 42 pz_c42 = true ∧ pz_ckb 43 pz_c43 = true ∧ pz_ckb 44 pz_c44 = true ∧ pz_ckb 45 pz_c45 = true ∧ pz_ckb 46 pz_c46 = true ∧ pz_ckb 47 pz_c47 = true ∧ pz_ckb 48 pz_c48 = true ∧ pz_ckb 49 pz_c49 = true ∧ pz_ckb 50 pz_c50 = true ∧ pz_ckb 51 pz_c51 = true ∧ pz_ckb 52 pz_c52 = true ∧ pz_ckb 53 pz_c53 = true ∧ pz_ckb 54 pz_c54 = true ∧ pz_ckb 55 pz_c55 = true ∧ pz_ckb 56 pz_c56 = true ∧ pz_ckb 57 pz_c57 = true ∧ pz_ckb 58 pz_c58 = true ∧ pz_ckb 59 pz_c59 = true ∧ pz_ckb 60 pz_c60 = true ∧ pz_ckb 61 pz_c61 = true ∧ pz_ckb 62 pz_c62 = true ∧ pz_ckb 63 pz_c63 = true ∧ pz_ckb 64 pz_c64 = true ∧ pz_ckb 65 pz_c65 = true ∧ pz_ckb 66 pz_c66 = true ∧ pz_ckb 67 pz_c67 = true ∧ pz_ckb 68 pz_c68 = true ∧ pz_ckb 69 pz_c69 = true ∧ pz_ckb 70 pz_c70 = true ∧ pz_ckb 71 pz_c71 = true ∧ pz_ckb 72 pz_c72 = true ∧ pz_ckb 73 pz_c73 = true ∧ pz_ckb 74 pz_c74 = true ∧ pz_ckb 75 pz_c75 = true ∧ pz_ckb 76 pz_c76 = true ∧ pz_ckb 77 pz_c77 = true ∧ pz_ckb 78 pz_c78 = true ∧ pz_ckb 79 pz_c79 = true ∧ True)
set_option maxRecDepth 20000 in
theorem pz_al2 : pz_al pz_pg2 80 := (⟨pz_k80, pz_k81, pz_k82, pz_k83, pz_k84, pz_k85, pz_k86, pz_k87, pz_k88, pz_k89, pz_k90, pz_k91, pz_k92, pz_k93, pz_k94, pz_k95, pz_k96, pz_k97, pz_k98, pz_k99, pz_k100, pz_k101, pz_k102, pz_k103, pz_k104, pz_k105, pz_k106, pz_k107, pz_k108, pz_k109, pz_k110, pz_k111, pz_k112, pz_k113, pz_k114, pz_k115, pz_k116, pz_k117, pz_k118, pz_k119, trivial⟩ : pz_ckb 80 pz_c80 = true ∧ pz_ckb 81 pz_c81 = true ∧ pz_ckb 82 pz_c82 = true ∧ pz_ckb 83 pz_c83 = true ∧ pz_ckb 84 pz_c84 = true ∧ pz_ckb 85 pz_c85 = true ∧ pz_ckb 86 pz_c86 = true ∧ pz_ckb 87 pz_c87 = true ∧ pz_ckb 88 pz_c88 = true ∧ pz_ckb 89 pz_c89 = true ∧ pz_ckb 90 pz_c90 = true ∧ pz_ckb 91 pz_c91 = true ∧ pz_ckb 92 pz_c92 = true ∧ pz_ckb 93 pz_c93 = true ∧ pz_ckb 94 pz_c94 = true ∧ pz_ckb 95 pz_c95 = true ∧ pz_ckb 96 pz_c96 = true ∧ pz_ckb 97 pz_c97 = true ∧ pz_ckb 98 pz_c98 = true ∧ pz_ckb 99 pz_c99 = true ∧ pz_ckb 100 pz_c100 = true ∧ pz_ckb 101 pz_c101 = true ∧ pz_ckb 102 pz_c102 = true ∧ pz_ckb 103 pz_c103 = true ∧ pz_ckb 104 pz_c104 = true ∧ pz_ckb 105 pz_c105 = true ∧ pz_ckb 106 pz_c106 = true ∧ pz_ckb 107 pz_c107 = true ∧ pz_ckb 108 pz_c108 = true ∧ pz_ckb 109 pz_c109 = true ∧ pz_ckb 110 pz_c110 = true ∧ pz_ckb 111 pz_c111 = true ∧ pz_ckb 112 pz_c112 = true ∧ pz_ckb 113 pz_c113 = true ∧ pz_ckb 114 pz_c114 = true ∧ pz_ckb 115 pz_c115 = true ∧ pz_ckb 116 pz_c116 = true ∧ pz_ckb 117 pz_c117 = true ∧ pz_ckb 118 pz_c118 = true ∧ pz_ckb 119 pz_c119 = true ∧ True)
set_option maxRecDepth 20000 in
theorem pz_al3 : pz_al pz_pg3 120 := (⟨pz_k120, pz_k121, pz_k122, pz_k123, pz_k124, pz_k125, pz_k126, pz_k127, pz_k128, pz_k129, pz_k130, pz_k131, pz_k132, pz_k133, pz_k134, pz_k135, pz_k136, pz_k137, pz_k138, pz_k139, pz_k140, pz_k141, pz_k142, pz_k143, pz_k144, pz_k145, pz_k146, pz_k147, pz_k148, pz_k149, pz_k150, pz_k151, pz_k152, pz_k153, pz_k154, pz_k155, pz_k156, pz_k157, pz_k158, pz_k159, trivial⟩ : pz_ckb 120 pz_c120 = true ∧ pz_ckb 121 pz_c121 = true ∧ pz_ckb 122 pz_c122 = true ∧ pz_ckb 123 pz_c123 = true ∧ pz_ckb 124 pz_c124 = true ∧ pz_ckb 125 pz_c125 = true ∧ pz_ckb 126 pz_c126 = true ∧ pz_ckb 127 pz_c127 = true ∧ pz_ckb 128 pz_c128 = true ∧ pz_ckb 129 pz_c129 = true ∧ pz_ckb 130 pz_c130 = true ∧ pz_ckb 131 pz_c131 = true ∧ pz_ckb 132 pz_c132 = true ∧ pz_ckb 133 pz_c133 = true ∧ pz_ckb 134 pz_c134 = true ∧ pz_ckb 135 pz_c135 = true ∧ pz_ckb 136 pz_c136 = true ∧ pz_ckb 137 pz_c137 = true ∧ pz_ckb 138 pz_c138 = true ∧ pz_ckb 139 pz_c139 = true ∧ pz_ckb 140 pz_c140 = true ∧ pz_ckb 141 pz_c141 = true ∧ pz_ckb 142 pz_c142 = true ∧ pz_ckb 143 pz_c143 = true ∧ pz_ckb 144 pz_c144 = true ∧ pz_ckb 145 pz_c145 = true ∧ pz_ckb 146 pz_c146 = true ∧ pz_ckb 147 pz_c147 = true ∧ pz_ckb 148 pz_c148 = true ∧ pz_ckb 149 pz_c149 = true ∧ pz_ckb 150 pz_c150 = true ∧ pz_ckb 151 pz_c151 = true ∧ pz_ckb 152 pz_c152 = true ∧ pz_ckb 153 pz_c153 = true ∧ pz_ckb 154 pz_c154 = true ∧ pz_ckb 155 pz_c155 = true ∧ pz_ckb 156 pz_c156 = true ∧ pz_ckb 157 pz_c157 = true ∧ pz_ckb 158 pz_c158 = true ∧ pz_ckb 159 pz_c159 = true ∧ True)
set_option maxRecDepth 20000 in
theorem pz_al4 : pz_al pz_pg4 160 := (⟨pz_k160, pz_k161, pz_k162, pz_k163, pz_k164, pz_k165, pz_k166, pz_k167, pz_k168, pz_k169, pz_k170, pz_k171, pz_k172, pz_k173, pz_k174, pz_k175, pz_k176, pz_k177, pz_k178, pz_k179, pz_k180, pz_k181, pz_k182, pz_k183, pz_k184, pz_k185, pz_k186, pz_k187, pz_k188, pz_k189, pz_k190, pz_k191, pz_k192, pz_k193, pz_k194, pz_k195, pz_k196, pz_k197, pz_k198, pz_k199, trivial⟩ : pz_ckb 160 pz_c160 = true ∧ pz_ckb 161 pz_c161 = true ∧ pz_ckb 162 pz_c162 = true ∧ pz_ckb 163 pz_c163 = true ∧ pz_ckb 164 pz_c164 = true ∧ pz_ckb 165 pz_c165 = true ∧ pz_ckb 166 pz_c166 = true ∧ pz_ckb 167 pz_c167 = true ∧ pz_ckb 168 pz_c168 = true ∧ pz_ckb 169 pz_c169 = true ∧ pz_ckb 170 pz_c170 = true ∧ pz_ckb 171 pz_c171 = true ∧ pz_ckb 172 pz_c172 = true ∧ pz_ckb 173 pz_c173 = true ∧ pz_ckb 174 pz_c174 = true ∧ pz_ckb 175 pz_c175 = true ∧ pz_ckb 176 pz_c176 = true ∧ pz_ckb 177 pz_c177 = true ∧ pz_ckb 178 pz_c178 = true ∧ pz_ckb 179 pz_c179 = true ∧ pz_ckb 180 pz_c180 = true ∧ pz_ckb 181 pz_c181 = true ∧ pz_ckb 182 pz_c182 = true ∧ pz_ckb 183 pz_c183 = true ∧ pz_ckb 184 pz_c184 = true ∧ pz_ckb 185 pz_c185 = true ∧ pz_ckb 186 pz_c186 = true ∧ pz_ckb 187 pz_c187 = true ∧ pz_ckb 188 pz_c188 = true ∧ pz_ckb 189 pz_c189 = true ∧ pz_ckb 190 pz_c190 = true ∧ pz_ckb 191 pz_c191 = true ∧ pz_ckb 192 pz_c192 = true ∧ pz_ckb 193 pz_c193 = true ∧ pz_ckb 194 pz_c194 = true ∧ pz_ckb 195 pz_c195 = true ∧ pz_ckb 196 pz_c196 = true ∧ pz_ckb 197 pz_c197 = true ∧ pz_ckb 198 pz_c198 = true ∧ pz_ckb 199 pz_c199 = true ∧ True)
set_option maxRecDepth 20000 in
theorem pz_al5 : pz_al pz_pg5 200 := (⟨pz_k200, pz_k201, pz_k202, pz_k203, pz_k204, pz_k205, pz_k206, pz_k207, pz_k208, pz_k209, pz_k210, pz_k211, pz_k212, pz_k213, pz_k214, pz_k215, pz_k216, pz_k217, pz_k218, pz_k219, pz_k220, pz_k221, pz_k222, pz_k223, pz_k224, pz_k225, pz_k226, pz_k227, pz_k228, pz_k229, pz_k230, pz_k231, trivial⟩ : pz_ckb 200 pz_c200 = true ∧ pz_ckb 201 pz_c201 = true ∧ pz_ckb 202 pz_c202 = true ∧ pz_ckb 203 pz_c203 = true ∧ pz_ckb 204 pz_c204 = true ∧ pz_ckb 205 pz_c205 = true ∧ pz_ckb 206 pz_c206 = true ∧ pz_ckb 207 pz_c207 = true ∧ pz_ckb 208 pz_c208 = true ∧ pz_ckb 209 pz_c209 = true ∧ pz_ckb 210 pz_c210 = true ∧ pz_ckb 211 pz_c211 = true ∧ pz_ckb 212 pz_c212 = true ∧ pz_ckb 213 pz_c213 = true ∧ pz_ckb 214 pz_c214 = true ∧ pz_ckb 215 pz_c215 = true ∧ pz_ckb 216 pz_c216 = true ∧ pz_ckb 217 pz_c217 = true ∧ pz_ckb 218 pz_c218 = true ∧ pz_ckb 219 pz_c219 = true ∧ pz_ckb 220 pz_c220 = true ∧ pz_ckb 221 pz_c221 = true ∧ pz_ckb 222 pz_c222 = true ∧ pz_ckb 223 pz_c223 = true ∧ pz_ckb 224 pz_c224 = true ∧ pz_ckb 225 pz_c225 = true ∧ pz_ckb 226 pz_c226 = true ∧ pz_ckb 227 pz_c227 = true ∧ pz_ckb 228 pz_c228 = true ∧ pz_ckb 229 pz_c229 = true ∧ pz_ckb 230 pz_c230 = true ∧ pz_ckb 231 pz_c231 = true ∧ True)
theorem pz_al_app' {a b : List (List (Nat × List pz_Op × Nat))} {k n k' : Nat} (hl : a.length = n) (hk : k + n = k') (h1 : pz_al a k) (h2 : pz_al b k') : pz_al (a ++ b) k := pz_al_app h1 (by rw [hl, hk]; exact h2)
theorem pz_al_all : pz_al pz_pg 0 := by
  have e0 : pz_pg0.length = 40 := by decide +kernel
  have e1 : pz_pg1.length = 40 := by decide +kernel
  have e2 : pz_pg2.length = 40 := by decide +kernel
  have e3 : pz_pg3.length = 40 := by decide +kernel
  have e4 : pz_pg4.length = 40 := by decide +kernel
  have e5 : pz_pg5.length = 32 := by decide +kernel
  have a1 : pz_al (pz_pg0 ++ pz_pg1) 0 := pz_al_app' e0 rfl pz_al0 pz_al1
  have l1 : (pz_pg0 ++ pz_pg1).length = 80 := by rw [List.length_append, e0, e1]
  have a2 : pz_al (pz_pg0 ++ pz_pg1 ++ pz_pg2) 0 := pz_al_app' l1 rfl a1 pz_al2
  have l2 : (pz_pg0 ++ pz_pg1 ++ pz_pg2).length = 120 := by rw [List.length_append, l1, e2]
  have a3 : pz_al (pz_pg0 ++ pz_pg1 ++ pz_pg2 ++ pz_pg3) 0 := pz_al_app' l2 rfl a2 pz_al3
  have l3 : (pz_pg0 ++ pz_pg1 ++ pz_pg2 ++ pz_pg3).length = 160 := by rw [List.length_append, l2, e3]
  have a4 : pz_al (pz_pg0 ++ pz_pg1 ++ pz_pg2 ++ pz_pg3 ++ pz_pg4) 0 := pz_al_app' l3 rfl a3 pz_al4
  have l4 : (pz_pg0 ++ pz_pg1 ++ pz_pg2 ++ pz_pg3 ++ pz_pg4).length = 200 := by rw [List.length_append, l3, e4]
  have a5 : pz_al (pz_pg0 ++ pz_pg1 ++ pz_pg2 ++ pz_pg3 ++ pz_pg4 ++ pz_pg5) 0 := pz_al_app' l4 rfl a4 pz_al5
  unfold pz_pg
  exact a5
theorem pz_ckb_all (m : Nat) : pz_ckb m (pz_pg.getD m []) = true := by
  rw [List.getD_eq_getElem?_getD]
  cases h : pz_pg[m]? with
  | none => rfl
  | some x =>
    have h1 := pz_al_at pz_al_all h
    rw [Nat.zero_add] at h1
    exact h1
theorem pz_ck_blk {m pc : Nat} (h : (pc, pz_blk m pc) ∈ pz_pg.getD m []) : pz_ck m (pz_blk m pc).2 (pz_blk m pc).1 pc = true := List.all_eq_true.mp (pz_ckb_all m) _ h
theorem pz_en_in {m : Nat} {as : List pz_V} {u : pz_V} (h : some u ∈ pz_en m as) : u ∈ as := by
  unfold pz_en at h
  rcases List.mem_append.mp h with h | h
  · obtain ⟨v, h1, h2⟩ := List.mem_map.mp h
    cases h2
    exact h1
  · have := List.eq_of_mem_replicate h
    cases this
theorem pz_run_ok {L : Nat} {xs : Nat → Int32} (hLb : L ≤ 2560) : ∀ (n m pc : Nat) (ls : pz_L) (st : List pz_V) (h : pz_H) (o : Option pz_V ⊕ Nat) (h' : pz_H), pz_run n m pc ls st h = some (o, h') → pz_hk L xs h → (∀ u, some u ∈ ls → pz_o h.1.1 u) → (∀ v ∈ st, pz_o h.1.1 v) → pz_hk L xs h' ∧ pz_le h h' ∧ pz_oo h'.1.1 o
  | 0, _, _, _, _, _, _, _, he, _, _, _ => by cases he
  | n + 1, m, pc, ls, st, h, o, h', he, q, hl, ho => by
    unfold pz_run at he
    rcases pz_blk_in m pc with hb | hb
    · exact pz_ex_ok hLb (pz_hc9 m) (m := m) (fun a as h o h' he q ha => pz_run_ok hLb n a 0 (pz_en a as) [] h o h' he q (fun u hu => ha u (pz_en_in hu)) (fun v hv => by cases hv)) (fun pc ls st h o h' he q hl ho => pz_run_ok hLb n m pc ls st h o h' he q hl ho) _ pc _ _ _ _ _ (pz_ck_blk hb) he q hl ho
    · rw [hb] at he
      simp only [pz_ex] at he
      cases he
