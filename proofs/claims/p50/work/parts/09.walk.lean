/-! a method's run, walked by the machine -/
theorem pz_call_ml {m len a b c e pc : Nat} {ins : Instr} (h : pz_ck1 m 4 ins len a b c e pc = true) : b ≤ pz_ml a := by
  obtain ⟨-, i, k, w, he, hins, -, hpar, hcb, -⟩ := pz_ck_call h
  have hrow := pz_cr_ok he
  unfold pz_cr at hrow
  dsimp only at hrow
  split at hrow
  · rename_i w5 hw5
    simp only [Bool.and_eq_true, decide_eq_true_eq] at hrow
    obtain ⟨-, -, -, -, ⟨-, q6⟩, q7⟩ := hrow
    cases hp : parseMethodDescriptor (pz_yy a).desc with
    | none => rw [hp] at hpar; cases hpar
    | some d =>
      rw [hp] at hpar q6
      have hpar : d.parameters.length = b - (if c = 99 then 0 else 1) := Option.some.inj hpar
      have q6 : d.parameters.length + (if w5.2.2.1 = 1 then 1 else 0) ≤ pz_ml a := q6
      rcases hins with ⟨-, rfl, -, hc⟩ | ⟨-, -, rfl⟩ | ⟨-, hk, -, hc⟩
      · have q8 : w5.2.2.1 = 1 := by simpa using q7
        rw [if_pos q8] at q6
        rw [if_neg (by omega)] at hpar
        omega
      · rw [if_pos rfl] at hpar
        omega
      · have q8 : w5.2.2.1 = 1 := by
          rcases hk with rfl | rfl <;> simpa using q7
        rw [if_pos q8] at q6
        rw [if_neg (by omega)] at hpar
        omega
  · cases hrow
section PZO
variable {l : Launch}
theorem pz_ofW {y : MethodName} {ws ws' : List Cond} {rm : Room} {Pc : Array Value → State → Prop} {Qc : Array Value → State → Outcome → State → Prop} {XC : String → State → State → Prop} {mc ms : Nat} {free : Addr → Prop} {cc : ByteArray} {maxL : Nat} {ret : Option FieldType}
    (hy : plainFor y = true) (hw : ws = Cond.code y cc maxL ret :: ws')
    (body : ∀ p e s m args below meth c s₁, BodyLoose p l y (headSpec ws rm) cc maxL ret e s m args below meth c s₁ → c.maxLocals = maxL → (∀ x ∈ c.exceptionTable.toList, False) → Pc args s →
      W p l e (headSpec ws rm).room s m args below meth c s.heap [] 0 0 (vx_MQ below Qc XC args s mc ms free) (entryFrame m args maxL)) : vx_Met l y ws rm Pc Qc XC mc ms free := by
  refine MetFree.of_bodySF (code := cc) (maxLocals := maxL) (ret := ret) hy ?_ ?_
  · intro args s m h hn
    obtain ⟨meth, c, h1, h2, h3, h4, h5, h6, -, -⟩ := Cond.code_spec hn (atoms_spec (ws := ws) h _ (by rw [hw]; exact List.mem_cons_self))
    exact ⟨meth, c, h1, h2, h3, h4, h5, h6⟩
  · intro p e s m args below meth c s₁ B hml hP _
    have hh0 : s₁.heap = s.heap := by rw [B.state]; rfl
    have ht : ∀ x ∈ c.exceptionTable.toList, False := by
      obtain ⟨meth9, c9, h1, h2, -, -, -, -, h7, -⟩ := Cond.code_spec B.named (atoms_spec (ws := ws) B.pre _ (by rw [hw]; exact List.mem_cons_self))
      cases Option.some.inj (h1.symm.trans B.method)
      cases Option.some.inj (h2.symm.trans (Stand.of_body B).code)
      intro x hx
      rw [Array.isEmpty_iff.mp h7] at hx
      cases hx
    obtain ⟨t, a1, o, b1, b2, b3⟩ := body p e s m args below meth c s₁ B hml ht hP s₁ hh0 (Stand.of_body B)
    exact ⟨t, o, a1, b1, b2, b3⟩
theorem pz_ofWH {y : MethodName} {ws ws' : List Cond} {rm : Room} {Pc : Array Value → State → Prop} {Qc : Array Value → State → Outcome → State → Prop} {XC : String → State → State → Prop} {mc ms : Nat} {free : Addr → Prop} {cc : ByteArray} {maxL : Nat} {ret : Option FieldType} {hh : List (Nat × Nat × Nat × Nat)}
    (hy : plainFor y = true) (hw : ws = Cond.codeWith y cc maxL ret hh :: ws')
    (body : ∀ p e s m args below meth c s₁, BodyLoose p l y (headSpec ws rm) cc maxL ret e s m args below meth c s₁ → c.maxLocals = maxL → Pc args s →
      W p l e (headSpec ws rm).room s m args below meth c s.heap [] 0 0 (vx_MQ below Qc XC args s mc ms free) (entryFrame m args maxL)) : vx_Met l y ws rm Pc Qc XC mc ms free := by
  refine MetFree.of_bodySF (code := cc) (maxLocals := maxL) (ret := ret) hy ?_ ?_
  · intro args s m h hn
    obtain ⟨m9, meth, c, hn9, h1, h2, h3, h4, -, h5, h6, -⟩ := Cond.codeWith_spec (atoms_spec (ws := ws) h _ (by rw [hw]; exact List.mem_cons_self))
    cases hn.symm.trans hn9
    exact ⟨meth, c, h1, h2, h3, h4, h5, h6⟩
  · intro p e s m args below meth c s₁ B hml hP _
    have hh0 : s₁.heap = s.heap := by rw [B.state]; rfl
    obtain ⟨t, a1, o, b1, b2, b3⟩ := body p e s m args below meth c s₁ B hml hP s₁ hh0 (Stand.of_body B)
    exact ⟨t, o, a1, b1, b2, b3⟩
end PZO
section PZX
variable {p : Program} {l : Launch} {e : Env} {R : Room} {s : State} {mI : MethodId} {args : Array Value} {below : List Frame} {meth : Method} {c : Code}
variable {m Z L : Nat} {xs : Nat → Int32} {D : va_G} {dA : Nat → ClassId} {sa ad0 : Nat → Nat} {h0 : pz_H}
set_option maxHeartbeats 8000000 in
theorem pz_ex_W {C : Nat → List pz_V → pz_H → Option pz_O} {J : Nat → pz_L → List pz_V → pz_H → Option pz_O} {nx : Nat} {hF : pz_H} {o : Option pz_V ⊕ Nat} {mc ms : Nat} (hLb : L ≤ 2560) (hCx : pz_Cx p l R s mI args meth c m Z L xs D dA sa ad0)
    (hC : ∀ (a : Nat) (as : List pz_V) (h : pz_H) (o : Option pz_V ⊕ Nat) (h' : pz_H), C a as h = some (o, h') → pz_hk L xs h → (∀ v ∈ as, pz_o h.1.1 v) → pz_hk L xs h' ∧ pz_le h h' ∧ pz_oo h'.1.1 o)
    (hJ : ∀ (pc : Nat) (ls : pz_L) (st : List pz_V) (h : pz_H) (o : Option pz_V ⊕ Nat) (h' : pz_H), J pc ls st h = some (o, h') → pz_hk L xs h → (∀ u, some u ∈ ls → pz_o h.1.1 u) → (∀ v ∈ st, pz_o h.1.1 v) → pz_hk L xs h' ∧ pz_le h h' ∧ pz_oo h'.1.1 o)
    (hM : ∀ (a : Nat) (ad : Nat → Nat) (as : List pz_V) (h : pz_H) (o : Option pz_V ⊕ Nat) (h' : pz_H), C a as h = some (o, h') → pz_hk L xs h → (∀ v ∈ as, pz_o h.1.1 v) → (∀ v ∈ as, pz_cat v = 1) → as.length ≤ pz_ml a → pz_cb a → pz_Me l Z L xs D dA sa a ad as h o h')
    (hN : ∀ a ∈ pz_nt, ∀ (as : List pz_V) (h : pz_H) (E : Nat) (h' : pz_H), C a as h ≠ some (.inr E, h'))
    (hmc : mc + h0.2.2.2.1 = hF.2.2.2.1) (hms : ms + h0.2.2.2.2 = hF.2.2.2.2) (hRc : mc ≤ R.cells) (hRs : ms ≤ R.slots)
    (hW : ∀ (pc : Nat) (ls : pz_L) (st : List pz_V) (h : pz_H) (ad : Nat → Nat) (mls : Array Slot) (H : Heap) (locs : List Loc) (cells slots : Nat), J pc ls st h = some (o, hF) → pz_Pt s m Z L xs D dA ad0 ad h0 h ls mls H locs cells slots → (∀ v ∈ st, pz_o h.1.1 v) →
      W p l e R s mI args below meth c H locs cells slots (vx_MQ below (pz_Qc Z D dA ad0 h0 o hF) (pz_XC Z D dA ad0 h0 o hF) args s mc ms (fun q => Z ≤ q)) (F0 mI pc mls (st.map (pz_e ad)))) :
    ∀ (ops : List pz_Op) (pc : Nat) (ls : pz_L) (st : List pz_V) (h : pz_H) (ad : Nat → Nat) (mls : Array Slot) (H : Heap) (locs : List Loc) (cells slots : Nat), pz_ck m nx ops pc = true → pz_hkl m ops pc = true → pz_ex C J (pz_hc m) nx ops ls st h = some (o, hF) → pz_Pt s m Z L xs D dA ad0 ad h0 h ls mls H locs cells slots → (∀ v ∈ st, pz_o h.1.1 v) →
      W p l e R s mI args below meth c H locs cells slots (vx_MQ below (pz_Qc Z D dA ad0 h0 o hF) (pz_XC Z D dA ad0 h0 o hF) args s mc ms (fun q => Z ≤ q)) (F0 mI pc mls (st.map (pz_e ad))) := by
  have hCx0 := hCx
  obtain ⟨hx, hbc, hml, hts, hown, hname, hret, hlk, hRf, hRl, htr, htab, hE, hSt⟩ := hCx
  have hA : ∀ q, s.heap.size ≤ q → Z ≤ q := fun q hq => Nat.le_trans hSt.1 hq
  intro ops
  induction ops with
  | nil =>
    intro pc ls st h ad mls H locs cells slots hck _ he hT ho
    have hpc : pc = nx := by simpa [pz_ck] using hck
    subst hpc
    exact hW _ _ _ _ _ _ _ _ _ _ he hT ho
  | cons op ops ih =>
    intro pc ls st h ad mls H locs cells slots hck hkl he hT ho
    obtain ⟨g, ins, len, a, b, c', e'⟩ := op
    simp only [pz_ck, Bool.and_eq_true, decide_eq_true_eq] at hck
    obtain ⟨hd, hck1, hck2⟩ := hck
    simp only [pz_hkl, Bool.and_eq_true] at hkl
    obtain ⟨hkl1, hkl2⟩ := hkl
    have hT0 := hT
    obtain ⟨hlv, hP, hD, hS, had, hn0, hcs, hss, hk, hlo⟩ := hT
    have had1 : ad 1 = ad0 1 := had 1 (by omega)
    have hdb : decode (pz_bs m) pc = .ok (ins, len) := hd
    have hX1 : va_X (ad 1) L xs s s.heap := by rw [had1]; exact hSt.2.1
    have hbl : ad 1 < s.heap.size := by rw [had1]; exact Nat.lt_of_lt_of_le hSt.2.2.1 hSt.1
    have hbA : ¬ Z ≤ ad 1 := by rw [had1]; exact Nat.not_le.mpr hSt.2.2.1
    have hsz : mls.size = c.maxLocals := hlv.2.1.trans hml.symm
    simp only [pz_ex] at he
    split at he
    · -- 0
      split at he
      · rename_i st' hst
        have hl : len = pz_len ins := by simpa [pz_ck1] using hck1
        subst hl
        exact pz_W0 hx hbc hst ho hd (ih _ _ _ _ _ _ _ _ _ _ (by simpa using hck2) hkl2 he hT0 (pz_pure_ok hst ho))
      · cases he
    · -- 1
      split at he
      · rename_i ls' st' hst
        have hl : len = pz_len ins := by simpa [pz_ck1] using hck1
        subst hl
        obtain ⟨k1, k2, -⟩ := pz_loc_ok hst hlo ho
        exact pz_W1 hx hbc hst hd hlv (fun mls' hlv' => ih _ _ _ _ _ _ _ _ _ _ (by simpa using hck2) hkl2 he ⟨hlv', hP, hD, hS, had, hn0, hcs, hss, hk, k1⟩ k2)
      · cases he
    · -- 2
      split at he
      · rename_i st' h1 hst
        obtain ⟨k1, k2, k3⟩ := pz_mem_ok hLb hst hck1 hk ho
        have hck2' : pz_ck m nx ops (pc + len) = true := by simpa using hck2
        obtain ⟨-, j2, -⟩ := pz_ex_ok hLb (pz_hc9 m) hC hJ ops _ _ _ _ _ _ hck2' he k1 (fun u hu => (hlo u hu).mono k2.1) k3
        have j3 := j2.2.1
        have j4 := j2.2.2
        exact pz_W2 hx hbc hts hown hname hE.1 hP hD hS hA hX1 hbl hbA hE.2.1 hk ho hst hck1 hd hcs hss (by omega) (by omega)
          (fun ad' H1 locs1 cells1 slots1 ha g1 g2 g3 g4 g5 => ih _ _ _ _ _ _ _ _ _ _ hck2' hkl2 he
            ⟨pz_lv_same hlv ha hlo, g1, g2, g3, fun r hr => (ha r (by omega)).trans (had r hr), Nat.le_trans hn0 k2.1, g4, g5, k1, fun u hu => (hlo u hu).mono k2.1⟩ k3)
      · cases he
    · -- 3
      have ho' : ∀ v ∈ (.inl (pz_cst a b) :: st : List pz_V), pz_o h.1.1 v := by
        simp only [List.mem_cons, forall_eq_or_imp]
        refine ⟨?_, ho⟩
        simp only [pz_ck1, Bool.and_eq_true, decide_eq_true_eq] at hck1
        exact pz_csti hck1.2.1
      exact pz_W3 hx hbc hts hown hck1 hd (ih _ _ _ _ _ _ _ _ _ _ (by simpa using hck2) hkl2 he hT0 ho')
    · -- 4
      obtain ⟨hcond, he⟩ := pz_ite he
      · obtain ⟨hb, hst4, hcat, hrc⟩ := hcond
        have hcat1 : ∀ v ∈ (st.take b).reverse, pz_cat v = 1 := fun v hv => eq_of_beq (List.all_eq_true.mp hcat v (List.mem_reverse.mp hv))
        have hml9 : (st.take b).reverse.length ≤ pz_ml a := by
          have h9 := pz_call_ml hck1
          simp only [List.length_reverse, List.length_take]
          omega
        have hdd : ∀ v ∈ st.drop b, pz_o h.1.1 v := fun v hv => ho v (List.mem_of_mem_drop hv)
        have ha : ∀ v ∈ (st.take b).reverse, pz_o h.1.1 v := fun v hv => ho v (List.mem_of_mem_take (List.mem_reverse.mp hv))
        have hlen3 : len = 3 := (pz_ck_call hck1).1
        have hcall : pz_cb a := by
          obtain ⟨-, i, k, w, hcl, -⟩ := pz_ck_call hck1
          exact pz_cr_cb (pz_cr_ok hcl)
        subst hlen3
        have hck2' : pz_ck m nx ops (pc + 3) = true := by simpa using hck2
        split at he
        · rename_i h1 hc1
          obtain ⟨k1, k2, k3⟩ := hC _ _ _ _ _ hc1 hk ha
          obtain ⟨-, j2, -⟩ := pz_ex_ok hLb (pz_hc9 m) hC hJ ops _ _ _ _ _ _ hck2' he k1 (fun u hu => (hlo u hu).mono k2.1) (fun v hv => (hdd v hv).mono k2.1)
          obtain ⟨-, j3, j4⟩ := j2
          have k2' := k2
          obtain ⟨-, j5, j6⟩ := k2'
          obtain ⟨av, hr⟩ := pz_call_run (e := e) (below := below) hCx0 hT0 hck1 hdb hb hst4 hrc (hM a ad _ h _ h1 hc1 hk ha hcat1 hml9 hcall) (fun x _ _ E q9 => by cases q9) ⟨by omega, by omega⟩
          refine pz_call_go hT0 k2 k1 hdd rfl rfl hr ?_ ?_
          · intro v ad' H1 locs1 hv hPt
            cases hv
            exact ih _ _ _ _ _ _ _ _ _ _ hck2' hkl2 he hPt (fun v hv => (hdd v hv).mono k2.1)
          · intro k E q ce ad' H1 locs1 q9
            cases q9
        · rename_i v1 h1 hc1
          obtain ⟨k1, k2, k3⟩ := hC _ _ _ _ _ hc1 hk ha
          have ho1 : ∀ v ∈ v1 :: st.drop b, pz_o h1.1.1 v := by
            simp only [List.mem_cons, forall_eq_or_imp]
            exact ⟨k3, fun v hv => (hdd v hv).mono k2.1⟩
          obtain ⟨-, j2, -⟩ := pz_ex_ok hLb (pz_hc9 m) hC hJ ops _ _ _ _ _ _ hck2' he k1 (fun u hu => (hlo u hu).mono k2.1) ho1
          obtain ⟨-, j3, j4⟩ := j2
          have k2' := k2
          obtain ⟨-, j5, j6⟩ := k2'
          obtain ⟨av, hr⟩ := pz_call_run (e := e) (below := below) hCx0 hT0 hck1 hdb hb hst4 hrc (hM a ad _ h _ h1 hc1 hk ha hcat1 hml9 hcall) (fun x _ _ E q9 => by cases q9) ⟨by omega, by omega⟩
          refine pz_call_go hT0 k2 k1 hdd rfl rfl hr ?_ ?_
          · intro v ad' H1 locs1 hv hPt
            cases hv
            exact ih _ _ _ _ _ _ _ _ _ _ hck2' hkl2 he hPt ho1
          · intro k E q ce ad' H1 locs1 q9
            cases q9
        · rename_i E1 h1 hc1
          obtain ⟨k1, k2, k3⟩ := hC _ _ _ _ _ hc1 hk ha
          have hho : h1 = hF ∧ pz_tr m E1 = o := by
            unfold pz_tr
            split at he
            · rename_i j hj
              rw [hj]
              cases he
              exact ⟨rfl, rfl⟩
            · rename_i hj
              rw [hj]
              cases he
              exact ⟨rfl, rfl⟩
          obtain ⟨rfl, rfl⟩ := hho
          have k2' := k2
          obtain ⟨-, j5, j6⟩ := k2'
          have hrun := pz_call_run (e := e) (below := below) hCx0 hT0 hck1 hdb hb hst4 hrc (hM a ad _ h _ h1 hc1 hk ha hcat1 hml9 hcall) (fun x hx9 hk9 E q9 => hN a (pz_nt_of hck1 hx9 hk9) _ _ _ _ hc1) ⟨by omega, by omega⟩
          obtain ⟨av, hr⟩ := hrun
          refine pz_call_go hT0 k2 k1 hdd rfl rfl hr ?_ ?_
          · intro v ad' H1 locs1 hv hPt
            cases hv
          · intro k E q ce ad' H1 locs1 hk9 hX hce hcv hcl hPt
            cases hk9
            have e1 : mc = cells + (h1.2.2.2.1 - h.2.2.2.1) := by omega
            have e2 : ms = slots + (h1.2.2.2.2 - h.2.2.2.2) := by omega
            rw [e1, e2]
            have hE6 : E1 < 5 := by rw [← pz_xn_len]; exact (List.getElem?_eq_some_iff.mp hX).1
            have hs9 : pz_hs1 m pc E1 = true := by
              rw [if_pos rfl] at hkl1
              exact List.all_eq_true.mp hkl1 E1 (List.mem_range.mpr hE6)
            exact pz_Wcatch hCx0 hPt hX hce hcv hcl hs9
        · cases he
    · -- 5
      split at he
      · rename_i st' h1 hst
        obtain ⟨k1, k2, k3⟩ := pz_cpy_ok hst hk ho
        have hq : h1.1.1 = h.1.1 ∧ h1.2.2.2 = h.2.2.2 := by
          unfold pz_cpy at hst
          split at hst
          · split at hst
            · cases hst; exact ⟨rfl, rfl⟩
            · cases hst
          · cases hst
        exact pz_W5 hx hbc hts hown hE.1 hP hD hS hsz.symm hRf hRl hk ho hst hck1 hd
          (fun H1 locs1 g1 g2 g3 => ih _ _ _ _ _ _ _ _ _ _ (by simpa using hck2) hkl2 he
            ⟨hlv, g1, g2, g3, had, by rw [hq.1]; exact hn0, by rw [hq.2]; exact hcs, by rw [hq.2]; exact hss, k1, fun u hu => (hlo u hu).mono k2.1⟩ k3)
      · cases he
    · -- 6
      split at he
      · split at he
        · rename_i hr
          have ho1 := fun v hv => ho v (List.mem_cons_of_mem _ hv)
          exact pz_W6 hx hbc hts hown hsz hRf hRl hr.1 hr.2 hck1 hd (ih _ _ _ _ _ _ _ _ _ _ (by simpa using hck2) hkl2 he hT0 ho1)
        · cases he
      · cases he
    · -- 7
      split at he
      · rename_i hst
        cases he
        have e1 : mc = cells + 1 := by
          have h9 : mc + h0.2.2.2.1 = h.2.2.2.1 + 1 := hmc
          omega
        have e2 : ms = slots + 6 := by
          have h9 : ms + h0.2.2.2.2 = h.2.2.2.2 + 6 := hms
          omega
        subst e1
        subst e2
        exact pz_W7 hCx0 hT0 hck1 hdb hst hRc hRs
      · cases he
    · -- 8
      exact pz_W8 hx hbc hck1 hd (hW _ _ _ _ _ _ _ _ _ _ he hT0 ho)
    · -- 9
      simp only [pz_ck1, Bool.and_eq_true, beq_iff_eq] at hck1
      obtain ⟨rfl, hck1⟩ := hck1
      have hck2' : pz_ck m nx ops (pc + 3) = true := by simpa using hck2
      split at he
      · rename_i cd off x st'
        have ho1 : ∀ v ∈ st', pz_o h.1.1 v := fun v hv => ho v (List.mem_cons_of_mem _ hv)
        have hi : pz_i x := ho (.inl x) List.mem_cons_self
        refine pz_Wif hx hbc hi hd (of_decide_eq_true hck1) (fun hc => ?_) (fun hc => ?_)
        · rw [if_pos hc] at he
          exact hW _ _ _ _ _ _ _ _ _ _ he hT0 ho1
        · rw [if_neg hc] at he
          exact ih _ _ _ _ _ _ _ _ _ _ hck2' hkl2 he hT0 ho1
      · rename_i cd off y x st'
        have ho1 : ∀ v ∈ st', pz_o h.1.1 v := fun v hv => ho v (List.mem_cons_of_mem _ (List.mem_cons_of_mem _ hv))
        have hy : pz_i y := ho (.inl y) List.mem_cons_self
        have hi : pz_i x := ho (.inl x) (List.mem_cons_of_mem _ List.mem_cons_self)
        refine pz_Wicmp hx hbc hi hy hd (of_decide_eq_true hck1) (fun hc => ?_) (fun hc => ?_)
        · rw [if_pos hc] at he
          exact hW _ _ _ _ _ _ _ _ _ _ he hT0 ho1
        · rw [if_neg hc] at he
          exact ih _ _ _ _ _ _ _ _ _ _ hck2' hkl2 he hT0 ho1
      · rename_i off r st'
        have ho1 : ∀ v ∈ st', pz_o h.1.1 v := fun v hv => ho v (List.mem_cons_of_mem _ hv)
        refine pz_Wnull hx hbc hd (of_decide_eq_true hck1) (fun hc => ?_) (fun hc => ?_)
        · rw [if_pos hc] at he
          exact hW _ _ _ _ _ _ _ _ _ _ he hT0 ho1
        · rw [if_neg hc] at he
          exact ih _ _ _ _ _ _ _ _ _ _ hck2' hkl2 he hT0 ho1
      · cases he
    · -- 10
      split at he
      · rename_i v
        split at he
        · rename_i hrok
          cases he
          have e1 : mc = cells := by omega
          have e2 : ms = slots := by omega
          subst e1
          subst e2
          exact pz_W10 hCx0 hT0 hck1 hdb hrok
        · cases he
      · cases he
    · -- 11
      split at he
      · cases he
        have e1 : mc = cells := by omega
        have e2 : ms = slots := by omega
        subst e1
        subst e2
        exact pz_W11 hCx0 hT0 hck1 hdb
      · cases he
    · -- 12
      split at he
      · rename_i d lo hi offs x st'
        have ho1 : ∀ v ∈ st', pz_o h.1.1 v := fun v hv => ho v (List.mem_cons_of_mem _ hv)
        have hxi : pz_i x := ho (.inl x) List.mem_cons_self
        refine pz_W12 hx hbc hxi hck1 hd (fun hc => ?_) (fun o9 hc h9 => ?_) (fun hc => ?_)
        · rw [if_pos hc] at he
          exact hW _ _ _ _ _ _ _ _ _ _ he hT0 ho1
        · rw [if_neg hc, h9] at he
          exact hW _ _ _ _ _ _ _ _ _ _ he hT0 ho1
        · rw [if_neg hc] at he
          split at he
          · rename_i o9 h9
            exact ⟨o9, h9⟩
          · cases he
      · cases he
    · -- 13
      have ho' : ∀ v ∈ (.inr (.inr (.inl (a : Int))) :: st : List pz_V), pz_o h.1.1 v := by
        simp only [List.mem_cons, forall_eq_or_imp]
        refine ⟨?_, ho⟩
        simp only [pz_ck1, Bool.and_eq_true, decide_eq_true_eq] at hck1
        have := hck1.2.1
        exact ⟨by omega, by omega⟩
      exact pz_W13 hx hbc hts hown hck1 hd (ih _ _ _ _ _ _ _ _ _ _ (by simpa using hck2) hkl2 he hT0 ho')
    · cases he
end PZX
/-- walks of runs of n steps at most -/
def pz_Tw (l : Launch) (Z L : Nat) (xs : Nat → Int32) (D : va_G) (dA : Nat → ClassId) (sa : Nat → Nat) (n : Nat) : Prop :=
  ∀ (p : Program) (e : Env) (R : Room) (s : State) (mI : MethodId) (args : Array Value) (below : List Frame) (meth : Method) (c : Code) (m : Nat) (ad0 : Nat → Nat) (h0 hF : pz_H) (o : Option pz_V ⊕ Nat) (mc ms : Nat), pz_Cx p l R s mI args meth c m Z L xs D dA sa ad0 →
    mc + h0.2.2.2.1 = hF.2.2.2.1 → ms + h0.2.2.2.2 = hF.2.2.2.2 → mc ≤ R.cells → ms ≤ R.slots →
    ∀ (pc : Nat) (ls : pz_L) (st : List pz_V) (h : pz_H) (ad : Nat → Nat) (mls : Array Slot) (H : Heap) (locs : List Loc) (cells slots : Nat), pz_run n m pc ls st h = some (o, hF) → pz_Pt s m Z L xs D dA ad0 ad h0 h ls mls H locs cells slots → (∀ v ∈ st, pz_o h.1.1 v) →
      W p l e R s mI args below meth c H locs cells slots (vx_MQ below (pz_Qc Z D dA ad0 h0 o hF) (pz_XC Z D dA ad0 h0 o hF) args s mc ms (fun q => Z ≤ q)) (F0 mI pc mls (st.map (pz_e ad)))
def pz_Tc (l : Launch) (Z L : Nat) (xs : Nat → Int32) (D : va_G) (dA : Nat → ClassId) (sa : Nat → Nat) (n : Nat) : Prop :=
  ∀ (a : Nat) (ad : Nat → Nat) (as : List pz_V) (h : pz_H) (o : Option pz_V ⊕ Nat) (h' : pz_H), pz_run n a 0 (pz_en a as) [] h = some (o, h') → pz_hk L xs h → (∀ v ∈ as, pz_o h.1.1 v) → (∀ v ∈ as, pz_cat v = 1) → as.length ≤ pz_ml a → pz_cb a → pz_Me l Z L xs D dA sa a ad as h o h'
section PZY
variable {l : Launch} {Z L : Nat} {xs : Nat → Int32} {D : va_G} {dA : Nat → ClassId} {sa : Nat → Nat}
theorem pz_Tw_succ (hLb : L ≤ 2560) {n : Nat} (hw : pz_Tw l Z L xs D dA sa n) (hc : pz_Tc l Z L xs D dA sa n) : pz_Tw l Z L xs D dA sa (n + 1) := by
  intro p e R s mI args below meth c m ad0 h0 hF o mc ms hCx hmc hms hRc hRs pc ls st h ad mls H locs cells slots he hT ho
  unfold pz_run at he
  rcases pz_blk_in m pc with hb | hb
  · exact pz_ex_W hLb hCx (fun a as h o h' he q ha => pz_run_ok hLb n a 0 (pz_en a as) [] h o h' he q (fun u hu => ha u (pz_en_in hu)) (fun v hv => by cases hv)) (fun pc ls st h o h' he q hl ho => pz_run_ok hLb n m pc ls st h o h' he q hl ho)
      (fun a ad as h o h' he q ha h1 h2 hcb => hc a ad as h o h' he q ha h1 h2 hcb) (fun a ha as h E h' => pz_run_nt n a ha 0 (pz_en a as) [] h E h') hmc hms hRc hRs
      (fun pc ls st h ad mls H locs cells slots he hT ho => hw p e R s mI args below meth c m ad0 h0 hF o mc ms hCx hmc hms hRc hRs pc ls st h ad mls H locs cells slots he hT ho)
      _ pc ls st h ad mls H locs cells slots (pz_ck_blk hb) (pz_hkl_blk hb) he hT ho
  · rw [hb] at he
    simp only [pz_ex] at he
    cases he
theorem pz_en_len {m : Nat} {as : List pz_V} (h : as.length ≤ pz_ml m) : (pz_en m as).length = pz_ml m := by
  unfold pz_en
  simp
  omega
theorem pz_en_at {m : Nat} {as : List pz_V} {k : Nat} {v : pz_V} (h : (pz_en m as)[k]? = some (some v)) : as[k]? = some v := by
  unfold pz_en at h
  rcases Nat.lt_or_ge k as.length with hk | hk
  · rw [List.getElem?_append_left (by simpa using hk), List.getElem?_map] at h
    cases h9 : as[k]? with
    | none => rw [h9] at h; cases h
    | some w => rw [h9] at h; cases h; rfl
  · rw [List.getElem?_append_right (by simpa using hk)] at h
    have := List.eq_of_mem_replicate (List.mem_of_getElem? h)
    cases this
theorem pz_lv_en {ad : Nat → Nat} {a : Nat} {as : List pz_V} (hl : as.length ≤ pz_ml a) (h1 : ∀ v ∈ as, pz_cat v = 1) :
    pz_lv ad (pz_ml a) (pz_en a as) (((as.map (pz_e ad)).map Slot.val ++ List.replicate (pz_ml a - (as.map (pz_e ad)).length) Slot.unset).toArray) := by
  have hA : ∀ (i : Nat) (x : Slot), (((as.map (pz_e ad)).map Slot.val ++ List.replicate (pz_ml a - (as.map (pz_e ad)).length) Slot.unset).toArray)[i]? = some x → x = .unset ∨ ∃ v, as[i]? = some v ∧ x = .val (pz_e ad v) := by
    intro i x hx
    rw [List.getElem?_toArray] at hx
    rcases Nat.lt_or_ge i as.length with hi | hi
    · rw [List.getElem?_append_left (by simpa using hi), List.getElem?_map, List.getElem?_map, List.getElem?_eq_getElem hi] at hx
      cases hx
      exact Or.inr ⟨as[i], List.getElem?_eq_getElem hi, rfl⟩
    · rw [List.getElem?_append_right (by simpa using hi)] at hx
      exact Or.inl (List.eq_of_mem_replicate (List.mem_of_getElem? hx))
  refine ⟨⟨fun i v hv hc => ?_, fun i hi => ?_⟩, ?_, pz_en_len hl, fun k v hk => ?_⟩
  · rcases hA i _ hv with h | ⟨w, h2, h3⟩
    · cases h
    · cases h3
      rw [pz_e_cat, h1 w (List.mem_of_getElem? h2)] at hc
      omega
  · rcases hA i _ hi with h | ⟨w, h2, h3⟩
    · cases h
    · cases h3
  · simp
    omega
  · have h2 := pz_en_at hk
    have h3 := (List.getElem?_eq_some_iff.mp h2).1
    rw [List.getElem?_toArray, List.getElem?_append_left (by simpa using h3), List.getElem?_map, List.getElem?_map, h2]
    rfl
theorem pz_body {p : Program} {e : Env} {R : Room} {s : State} {mI : MethodId} {args : Array Value} {below : List Frame} {meth : Method} {c : Code} {n a : Nat} {ad : Nat → Nat} {as : List pz_V} {h h' : pz_H} {o : Option pz_V ⊕ Nat} (hw : pz_Tw l Z L xs D dA sa n)
    (he : pz_run n a 0 (pz_en a as) [] h = some (o, h')) (hle : pz_le h h') (q : pz_hk L xs h) (ha : ∀ v ∈ as, pz_o h.1.1 v) (hcat : ∀ v ∈ as, pz_cat v = 1) (hlen : as.length ≤ pz_ml a)
    (hCx : pz_Cx p l R s mI args meth c a Z L xs D dA sa ad) (hP : pz_Pc Z L xs D dA sa ad as h args s) (hRc : h'.2.2.2.1 - h.2.2.2.1 ≤ R.cells) (hRs : h'.2.2.2.2 - h.2.2.2.2 ≤ R.slots) :
    W p l e R s mI args below meth c s.heap [] 0 0 (vx_MQ below (pz_Qc Z D dA ad h o h') (pz_XC Z D dA ad h o h') args s (h'.2.2.2.1 - h.2.2.2.1) (h'.2.2.2.2 - h.2.2.2.2) (fun q => Z ≤ q)) (entryFrame mI args (pz_ml a)) := by
  obtain ⟨rfl, -, -, hPw, hDw⟩ := hP
  obtain ⟨l1, l2, l3⟩ := hle
  have hc1 : ∀ v ∈ as.map (pz_e ad), v.category = 1 := by
    intro v hv
    obtain ⟨w, h1, rfl⟩ := List.mem_map.mp hv
    rw [pz_e_cat]
    exact hcat w h1
  rw [entry_eq mI (as.map (pz_e ad)) hc1]
  exact hw p e _ s mI _ below meth c a ad h h' o _ _ hCx (by omega) (by omega) hRc hRs 0 (pz_en a as) [] h ad _ s.heap [] 0 0 he
    ⟨pz_lv_en hlen hcat, hPw, hDw, va_S.rf, fun _ _ => rfl, Nat.le_refl _, Nat.zero_add _, Nat.zero_add _, q, fun u hu => ha u (pz_en_in hu)⟩ (fun v hv => by cases hv)
theorem pz_Tc_of (hLb : L ≤ 2560) (htr : l.stackTraces = false) {n : Nat} (hw : pz_Tw l Z L xs D dA sa n) : pz_Tc l Z L xs D dA sa n := by
  intro a ad as h o h' he q ha hcat hlen hcb
  have hle := (pz_run_ok hLb n a 0 _ _ _ _ _ he q (fun u hu => ha u (pz_en_in hu)) (fun v hv => by cases hv)).2.1
  unfold pz_Me
  by_cases hemp : (pz_hh a).isEmpty = true
  · have hh0 : pz_hh a = [] := List.isEmpty_iff.mp hemp
    refine pz_ofW (cc := pz_bs a) (maxL := pz_ml a) (ret := pz_rt a) (ws' := pz_gd) hcb.2.2.2.2 (by unfold pz_hd; rw [if_pos hemp]) ?_
    intro p e s m args below meth c s₁ B hml ht hP
    have hws := atoms_spec (ws := pz_hd a :: pz_gd) B.pre
    have htab : c.exceptionTable.toList = tableOf (pz_hh a) := by
      rw [hh0]
      exact List.eq_nil_iff_forall_not_mem.mpr (fun x hx => ht x hx)
    exact pz_body hw he hle q ha hcat hlen ⟨B.exec, B.bytes, hml, fun w hw9 => hws w (List.mem_cons_of_mem _ hw9), findClass_of_methodNamed B.named, fun h9 => (name_of_methodNamed B.named B.method).1.trans h9, B.returns, B.notSynchronized, Nat.le_refl _, Nat.le_refl _, htr, htab, hP.2.1, hP.2.2.1⟩ hP (Nat.le_refl _) (Nat.le_refl _)
  · refine pz_ofWH (cc := pz_bs a) (maxL := pz_ml a) (ret := pz_rt a) (hh := pz_hh a) (ws' := pz_gd) hcb.2.2.2.2 (by unfold pz_hd; rw [if_neg hemp]) ?_
    intro p e s m args below meth c s₁ B hml hP
    have hws := atoms_spec (ws := pz_hd a :: pz_gd) B.pre
    have hw0 := hws _ List.mem_cons_self
    unfold pz_hd at hw0
    rw [if_neg hemp] at hw0
    have htab : c.exceptionTable.toList = tableOf (pz_hh a) := vx_table (x := pz_yy a) B hw0
    exact pz_body hw he hle q ha hcat hlen ⟨B.exec, B.bytes, hml, fun w hw9 => hws w (List.mem_cons_of_mem _ hw9), findClass_of_methodNamed B.named, fun h9 => (name_of_methodNamed B.named B.method).1.trans h9, B.returns, B.notSynchronized, Nat.le_refl _, Nat.le_refl _, htr, htab, hP.2.1, hP.2.2.1⟩ hP (Nat.le_refl _) (Nat.le_refl _)
/-- EVERY RUN OF THE EVALUATOR IS FOLLOWED BY THE MACHINE -/
theorem pz_all (hLb : L ≤ 2560) (htr : l.stackTraces = false) : ∀ n, pz_Tw l Z L xs D dA sa n
  | 0 => by
    intro p e R s mI args below meth c m ad0 h0 hF o mc ms _ _ _ _ _ pc ls st h ad mls H locs cells slots he
    cases he
  | n + 1 => pz_Tw_succ hLb (pz_all hLb htr n) (pz_Tc_of hLb htr (pz_all hLb htr n))
end PZY
